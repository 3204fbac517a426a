def skC : List gE := [.inl (11, [4, 6, 21, 33, 119, 135, 139, 148, 153, 159, 0]), .inl (9, [0, 0, 0, 0, 0, 0, 0, 1, 5, 0, 0]), .inr (2, 700, []), .inl (10, [0, 0, 0, 0, 0, 0, 7, 8, 9, 10, 11, 12, 13, 14, 15, 16, 17, 18, 19, 20]), .inr (1, 10, []), .inr (1, 6, []), .inr (1, 24, []), .inr (0, 24, []), .inr (0, 24, []), .inr (0, 24, []), .inr (0, 24, []), .inr (0, 24, []), .inr (0, 24, []), .inr (0, 96, []), .inr (1, 144, []), .inr (0, 10, []), .inr (0, 10, []), .inr (0, 10, []), .inl (8, [0, 22, 23, 24, 25, 26, 27]), .inr (0, 24, []), .inr (0, 10, []), .inr (0, 6, []), .inr (0, 6, []), .inr (0, 6, []), .inl (5, [0, 1, 28, 29, 30, 31, 32]), .inr (0, 96, []), .inr (0, 96, []), .inr (0, 96, []), .inr (0, 96, []), .inr (0, 10, []), .inl (7, [0, 0, 34]), .inr (3, 7, [35, 47, 59, 71, 83, 95, 107]), .inl (8, [0, 36, 37, 38, 39, 40, 41]), .inr (0, 24, []), .inr (0, 10, []), .inr (0, 6, []), .inr (0, 6, []), .inr (0, 6, []), .inl (5, [0, 1, 42, 43, 44, 45, 46]), .inr (0, 96, []), .inr (0, 96, []), .inr (0, 96, []), .inr (0, 96, []), .inr (0, 10, []), .inl (8, [0, 48, 49, 50, 51, 52, 53]), .inr (0, 24, []), .inr (0, 10, []), .inr (0, 6, []), .inr (0, 6, []), .inr (0, 6, []), .inl (5, [0, 1, 54, 55, 56, 57, 58]), .inr (0, 96, []), .inr (0, 96, []), .inr (0, 96, []), .inr (0, 96, []), .inr (0, 10, []), .inl (8, [0, 60, 61, 62, 63, 64, 65]), .inr (0, 24, []), .inr (0, 10, []), .inr (0, 6, []), .inr (0, 6, []), .inr (0, 6, []), .inl (5, [0, 1, 66, 67, 68, 69, 70]), .inr (0, 96, []), .inr (0, 96, []), .inr (0, 96, []), .inr (0, 96, []), .inr (0, 10, []), .inl (8, [0, 72, 73, 74, 75, 76, 77]), .inr (0, 24, []), .inr (0, 10, []), .inr (0, 6, []), .inr (0, 6, []), .inr (0, 6, []), .inl (5, [0, 1, 78, 79, 80, 81, 82]), .inr (0, 96, []), .inr (0, 96, []), .inr (0, 96, []), .inr (0, 96, []), .inr (0, 10, []), .inl (8, [0, 84, 85, 86, 87, 88, 89]), .inr (0, 24, []), .inr (0, 10, []), .inr (0, 6, []), .inr (0, 6, []), .inr (0, 6, []), .inl (5, [0, 1, 90, 91, 92, 93, 94]), .inr (0, 96, []), .inr (0, 96, []), .inr (0, 96, []), .inr (0, 96, []), .inr (0, 10, []), .inl (8, [0, 96, 97, 98, 99, 100, 101]), .inr (0, 24, []), .inr (0, 10, []), .inr (0, 6, []), .inr (0, 6, []), .inr (0, 6, []), .inl (5, [0, 1, 102, 103, 104, 105, 106]), .inr (0, 96, []), .inr (0, 96, []), .inr (0, 96, []), .inr (0, 96, []), .inr (0, 10, []), .inl (8, [0, 108, 109, 110, 111, 112, 113]), .inr (0, 24, []), .inr (0, 10, []), .inr (0, 6, []), .inr (0, 6, []), .inr (0, 6, []), .inl (5, [0, 1, 114, 115, 116, 117, 118]), .inr (0, 96, []), .inr (0, 96, []), .inr (0, 96, []), .inr (0, 96, []), .inr (0, 10, []), .inl (0, [120, 4]), .inl (10, [0, 0, 0, 0, 0, 0, 121, 122, 123, 124, 125, 126, 127, 128, 129, 130, 131, 132, 133, 134]), .inr (1, 10, []), .inr (1, 6, []), .inr (1, 24, []), .inr (0, 24, []), .inr (0, 24, []), .inr (0, 24, []), .inr (0, 24, []), .inr (0, 24, []), .inr (0, 24, []), .inr (0, 96, []), .inr (1, 144, []), .inr (0, 10, []), .inr (0, 10, []), .inr (0, 10, []), .inl (2, [0, 136, 137, 138, 4, 6, 0, 0]), .inr (0, 117, []), .inr (0, 117, []), .inr (0, 117, []), .inl (1, [140, 141, 6, 21, 145, 146, 147]), .inr (0, 96, []), .inl (4, [0, 1, 142, 143, 144]), .inr (1, 97, []), .inr (1, 97, []), .inr (1, 97, []), .inr (0, 24, []), .inr (0, 24, []), .inr (1, 5, []), .inl (3, [6, 21, 139, 149]), .inl (4, [0, 1, 150, 151, 152]), .inr (1, 97, []), .inr (1, 97, []), .inr (1, 97, []), .inl (6, [0, 154, 155, 156, 157, 158, 6, 21, 139]), .inr (1, 6, []), .inr (1, 6, []), .inr (0, 12, []), .inr (0, 12, []), .inr (1, 12, []), .inl (5, [0, 1, 160, 161, 162, 163, 164]), .inr (0, 96, []), .inr (0, 96, []), .inr (0, 96, []), .inr (0, 96, []), .inr (0, 10, [])]
theorem cC_0 : skC[0]? = some (.inl (11, [4, 6, 21, 33, 119, 135, 139, 148, 153, 159, 0])) := rfl
theorem cC_1 : skC[1]? = some (.inl (9, [0, 0, 0, 0, 0, 0, 0, 1, 5, 0, 0])) := rfl
theorem cC_3 : skC[3]? = some (.inl (10, [0, 0, 0, 0, 0, 0, 7, 8, 9, 10, 11, 12, 13, 14, 15, 16, 17, 18, 19, 20])) := rfl
theorem cC_18 : skC[18]? = some (.inl (8, [0, 22, 23, 24, 25, 26, 27])) := rfl
theorem cC_24 : skC[24]? = some (.inl (5, [0, 1, 28, 29, 30, 31, 32])) := rfl
theorem cC_30 : skC[30]? = some (.inl (7, [0, 0, 34])) := rfl
theorem cC_32 : skC[32]? = some (.inl (8, [0, 36, 37, 38, 39, 40, 41])) := rfl
theorem cC_38 : skC[38]? = some (.inl (5, [0, 1, 42, 43, 44, 45, 46])) := rfl
theorem cC_44 : skC[44]? = some (.inl (8, [0, 48, 49, 50, 51, 52, 53])) := rfl
theorem cC_50 : skC[50]? = some (.inl (5, [0, 1, 54, 55, 56, 57, 58])) := rfl
theorem cC_56 : skC[56]? = some (.inl (8, [0, 60, 61, 62, 63, 64, 65])) := rfl
theorem cC_62 : skC[62]? = some (.inl (5, [0, 1, 66, 67, 68, 69, 70])) := rfl
theorem cC_68 : skC[68]? = some (.inl (8, [0, 72, 73, 74, 75, 76, 77])) := rfl
theorem cC_74 : skC[74]? = some (.inl (5, [0, 1, 78, 79, 80, 81, 82])) := rfl
theorem cC_80 : skC[80]? = some (.inl (8, [0, 84, 85, 86, 87, 88, 89])) := rfl
theorem cC_86 : skC[86]? = some (.inl (5, [0, 1, 90, 91, 92, 93, 94])) := rfl
theorem cC_92 : skC[92]? = some (.inl (8, [0, 96, 97, 98, 99, 100, 101])) := rfl
theorem cC_98 : skC[98]? = some (.inl (5, [0, 1, 102, 103, 104, 105, 106])) := rfl
theorem cC_104 : skC[104]? = some (.inl (8, [0, 108, 109, 110, 111, 112, 113])) := rfl
theorem cC_110 : skC[110]? = some (.inl (5, [0, 1, 114, 115, 116, 117, 118])) := rfl
theorem cC_116 : skC[116]? = some (.inl (0, [120, 4])) := rfl
theorem cC_117 : skC[117]? = some (.inl (10, [0, 0, 0, 0, 0, 0, 121, 122, 123, 124, 125, 126, 127, 128, 129, 130, 131, 132, 133, 134])) := rfl
theorem cC_132 : skC[132]? = some (.inl (2, [0, 136, 137, 138, 4, 6, 0, 0])) := rfl
theorem cC_136 : skC[136]? = some (.inl (1, [140, 141, 6, 21, 145, 146, 147])) := rfl
theorem cC_138 : skC[138]? = some (.inl (4, [0, 1, 142, 143, 144])) := rfl
theorem cC_145 : skC[145]? = some (.inl (3, [6, 21, 139, 149])) := rfl
theorem cC_146 : skC[146]? = some (.inl (4, [0, 1, 150, 151, 152])) := rfl
theorem cC_150 : skC[150]? = some (.inl (6, [0, 154, 155, 156, 157, 158, 6, 21, 139])) := rfl
theorem cC_156 : skC[156]? = some (.inl (5, [0, 1, 160, 161, 162, 163, 164])) := rfl
theorem skC_t {r : Nat} : ∀ (t n : Nat) (rs : List Nat), skC[r]? = some (.inr (t, n, rs)) → t < 4 := by
  intro t n rs h
  have h1 := List.mem_of_getElem? h
  have h2 : ∀ e ∈ skC, (match e with | .inr (t, _, _) => decide (t < 4) | _ => true) = true := by decide +kernel
  have h3 := h2 _ h1
  simpa using h3
def skM : List gE := [.inl (12, [4, 5, 6, 7, 8, 9, 10, 11, 12, 13, 14, 15, 16, 17, 18, 19, 20, 0, 21, 22, 0, 0, 0, 0, 0, 0, 0, 0, 1, 1, 0, 0, 0, 0, 0, 23, 24, 25, 26, 27, 28, 29, 30, 0, 0, 31, 32, 33]), .inr (0, 12, []), .inr (1, 20, []), .inr (1, 12, []), .inr (1, 48, []), .inr (0, 48, []), .inr (0, 48, []), .inr (0, 48, []), .inr (0, 192, []), .inr (0, 48, []), .inr (1, 288, []), .inr (0, 48, []), .inr (0, 48, []), .inr (0, 20, []), .inr (0, 20, []), .inr (0, 20, []), .inr (0, 439, []), .inr (0, 2634, []), .inr (0, 439, []), .inr (0, 700, []), .inr (1, 144, []), .inr (1, 97, []), .inr (1, 97, []), .inr (1, 97, []), .inr (1, 96, []), .inr (1, 96, []), .inr (1, 96, []), .inr (0, 360, []), .inr (1, 6, []), .inr (1, 6, []), .inr (1, 10, [])]
theorem cM_0 : skM[0]? = some (.inl (12, [4, 5, 6, 7, 8, 9, 10, 11, 12, 13, 14, 15, 16, 17, 18, 19, 20, 0, 21, 22, 0, 0, 0, 0, 0, 0, 0, 0, 1, 1, 0, 0, 0, 0, 0, 23, 24, 25, 26, 27, 28, 29, 30, 0, 0, 31, 32, 33])) := rfl
theorem skM_t {r : Nat} : ∀ (t n : Nat) (rs : List Nat), skM[r]? = some (.inr (t, n, rs)) → t < 4 := by
  intro t n rs h
  have h1 := List.mem_of_getElem? h
  have h2 : ∀ e ∈ skM, (match e with | .inr (t, _, _) => decide (t < 4) | _ => true) = true := by decide +kernel
  have h3 := h2 _ h1
  simpa using h3
theorem shp_X10 : shp skC 10 (fun f => [0, 0, 0, 0, 0, 0, f 6, f 7, f 8, f 9, f 10, f 11, f 12, f 13, f 14, f 15, f 16, f 17, f 18, f 19]) = true := by decide +kernel
theorem sh_X10 {r : Nat} (h : isO skC r 10 = true) : skC[r]? = some (.inl (10, [0, 0, 0, 0, 0, 0, rf skC r 6 + 3, rf skC r 7 + 3, rf skC r 8 + 3, rf skC r 9 + 3, rf skC r 10 + 3, rf skC r 11 + 3, rf skC r 12 + 3, rf skC r 13 + 3, rf skC r 14 + 3, rf skC r 15 + 3, rf skC r 16 + 3, rf skC r 17 + 3, rf skC r 18 + 3, rf skC r 19 + 3])) := shp_of shp_X10 h
theorem shp_X4 : shp skC 4 (fun f => [0, 1, f 2, f 3, f 4]) = true := by decide +kernel
theorem sh_X4 {r : Nat} (h : isO skC r 4 = true) : skC[r]? = some (.inl (4, [0, 1, rf skC r 2 + 3, rf skC r 3 + 3, rf skC r 4 + 3])) := shp_of shp_X4 h
theorem shp_X5 : shp skC 5 (fun f => [0, 1, f 2, f 3, f 4, f 5, f 6]) = true := by decide +kernel
theorem sh_X5 {r : Nat} (h : isO skC r 5 = true) : skC[r]? = some (.inl (5, [0, 1, rf skC r 2 + 3, rf skC r 3 + 3, rf skC r 4 + 3, rf skC r 5 + 3, rf skC r 6 + 3])) := shp_of shp_X5 h
theorem shp_X8 : shp skC 8 (fun f => [0, f 1, f 2, f 3, f 4, f 5, f 6]) = true := by decide +kernel
theorem sh_X8 {r : Nat} (h : isO skC r 8 = true) : skC[r]? = some (.inl (8, [0, rf skC r 1 + 3, rf skC r 2 + 3, rf skC r 3 + 3, rf skC r 4 + 3, rf skC r 5 + 3, rf skC r 6 + 3])) := shp_of shp_X8 h
theorem gc_X0 : gCl 0 := ⟨RX0, TX0, 2, tyX0, rfl, tyX0_ok, nmX0⟩
theorem gc_X1 : gCl 1 := ⟨RX1, TX1, 7, tyX1, rfl, tyX1_ok, nmX1⟩
theorem gc_X2 : gCl 2 := ⟨RX2, TX2, 8, tyX2, rfl, tyX2_ok, nmX2⟩
theorem gp_X2_0 : gPL 2 0 .int := ⟨RX2, TX2, 8, rfl, rfl, by decide +kernel⟩
theorem gp_X2_6 : gPL 2 6 .int := ⟨RX2, TX2, 8, rfl, rfl, by decide +kernel⟩
theorem gp_X2_7 : gPL 2 7 .int := ⟨RX2, TX2, 8, rfl, rfl, by decide +kernel⟩
theorem gc_X3 : gCl 3 := ⟨RX3, TX3, 4, tyX3, rfl, tyX3_ok, nmX3⟩
theorem gc_X4 : gCl 4 := ⟨RX4, TX4, 5, tyX4, rfl, tyX4_ok, nmX4⟩
theorem gp_X4_0 : gPL 4 0 .int := ⟨RX4, TX4, 5, rfl, rfl, by decide +kernel⟩
theorem gp_X4_1 : gPL 4 1 .long := ⟨RX4, TX4, 5, rfl, rfl, by decide +kernel⟩
theorem gc_X5 : gCl 5 := ⟨RX5, TX5, 7, tyX5, rfl, tyX5_ok, nmX5⟩
theorem gp_X5_0 : gPL 5 0 .int := ⟨RX5, TX5, 7, rfl, rfl, by decide +kernel⟩
theorem gp_X5_1 : gPL 5 1 .long := ⟨RX5, TX5, 7, rfl, rfl, by decide +kernel⟩
theorem gc_X6 : gCl 6 := ⟨RX6, TX6, 9, tyX6, rfl, tyX6_ok, nmX6⟩
theorem gp_X6_0 : gPL 6 0 .int := ⟨RX6, TX6, 9, rfl, rfl, by decide +kernel⟩
theorem gc_X7 : gCl 7 := ⟨RX7, TX7, 3, tyX7, rfl, tyX7_ok, nmX7⟩
theorem gp_X7_0 : gPL 7 0 .int := ⟨RX7, TX7, 3, rfl, rfl, by decide +kernel⟩
theorem gp_X7_1 : gPL 7 1 .int := ⟨RX7, TX7, 3, rfl, rfl, by decide +kernel⟩
theorem gc_X8 : gCl 8 := ⟨RX8, TX8, 7, tyX8, rfl, tyX8_ok, nmX8⟩
theorem gp_X8_0 : gPL 8 0 .int := ⟨RX8, TX8, 7, rfl, rfl, by decide +kernel⟩
theorem gc_X9 : gCl 9 := ⟨RX9, TX9, 11, tyX9, rfl, tyX9_ok, nmX9⟩
theorem gp_X9_0 : gPL 9 0 .int := ⟨RX9, TX9, 11, rfl, rfl, by decide +kernel⟩
theorem gp_X9_1 : gPL 9 1 .int := ⟨RX9, TX9, 11, rfl, rfl, by decide +kernel⟩
theorem gp_X9_2 : gPL 9 2 .int := ⟨RX9, TX9, 11, rfl, rfl, by decide +kernel⟩
theorem gp_X9_3 : gPL 9 3 .int := ⟨RX9, TX9, 11, rfl, rfl, by decide +kernel⟩
theorem gp_X9_4 : gPL 9 4 .int := ⟨RX9, TX9, 11, rfl, rfl, by decide +kernel⟩
theorem gp_X9_5 : gPL 9 5 .int := ⟨RX9, TX9, 11, rfl, rfl, by decide +kernel⟩
theorem gp_X9_6 : gPL 9 6 .int := ⟨RX9, TX9, 11, rfl, rfl, by decide +kernel⟩
theorem gp_X9_7 : gPL 9 7 .long := ⟨RX9, TX9, 11, rfl, rfl, by decide +kernel⟩
theorem gp_X9_9 : gPL 9 9 .int := ⟨RX9, TX9, 11, rfl, rfl, by decide +kernel⟩
theorem gp_X9_10 : gPL 9 10 .int := ⟨RX9, TX9, 11, rfl, rfl, by decide +kernel⟩
theorem gc_X10 : gCl 10 := ⟨RX10, TX10, 20, tyX10, rfl, tyX10_ok, nmX10⟩
theorem gp_X10_0 : gPL 10 0 .int := ⟨RX10, TX10, 20, rfl, rfl, by decide +kernel⟩
theorem gp_X10_1 : gPL 10 1 .int := ⟨RX10, TX10, 20, rfl, rfl, by decide +kernel⟩
theorem gp_X10_2 : gPL 10 2 .int := ⟨RX10, TX10, 20, rfl, rfl, by decide +kernel⟩
theorem gp_X10_3 : gPL 10 3 .int := ⟨RX10, TX10, 20, rfl, rfl, by decide +kernel⟩
theorem gp_X10_4 : gPL 10 4 .int := ⟨RX10, TX10, 20, rfl, rfl, by decide +kernel⟩
theorem gp_X10_5 : gPL 10 5 .int := ⟨RX10, TX10, 20, rfl, rfl, by decide +kernel⟩
theorem gc_X11 : gCl 11 := ⟨RX11, TX11, 11, tyX11, rfl, tyX11_ok, nmX11⟩
theorem gp_X11_10 : gPL 11 10 .int := ⟨RX11, TX11, 11, rfl, rfl, by decide +kernel⟩
theorem gc_X12 : gCl 12 := ⟨RX12, TX12, 48, tyX12, rfl, tyX12_ok, nmX12⟩
theorem gp_X12_17 : gPL 12 17 .int := ⟨RX12, TX12, 48, rfl, rfl, by decide +kernel⟩
theorem gp_X12_20 : gPL 12 20 .int := ⟨RX12, TX12, 48, rfl, rfl, by decide +kernel⟩
theorem gp_X12_21 : gPL 12 21 .int := ⟨RX12, TX12, 48, rfl, rfl, by decide +kernel⟩
theorem gp_X12_22 : gPL 12 22 .int := ⟨RX12, TX12, 48, rfl, rfl, by decide +kernel⟩
theorem gp_X12_23 : gPL 12 23 .int := ⟨RX12, TX12, 48, rfl, rfl, by decide +kernel⟩
theorem gp_X12_24 : gPL 12 24 .int := ⟨RX12, TX12, 48, rfl, rfl, by decide +kernel⟩
theorem gp_X12_25 : gPL 12 25 .int := ⟨RX12, TX12, 48, rfl, rfl, by decide +kernel⟩
theorem gp_X12_26 : gPL 12 26 .int := ⟨RX12, TX12, 48, rfl, rfl, by decide +kernel⟩
theorem gp_X12_27 : gPL 12 27 .int := ⟨RX12, TX12, 48, rfl, rfl, by decide +kernel⟩
theorem gp_X12_28 : gPL 12 28 .long := ⟨RX12, TX12, 48, rfl, rfl, by decide +kernel⟩
theorem gp_X12_29 : gPL 12 29 .long := ⟨RX12, TX12, 48, rfl, rfl, by decide +kernel⟩
theorem gp_X12_30 : gPL 12 30 .int := ⟨RX12, TX12, 48, rfl, rfl, by decide +kernel⟩
theorem gp_X12_31 : gPL 12 31 .int := ⟨RX12, TX12, 48, rfl, rfl, by decide +kernel⟩
theorem gp_X12_32 : gPL 12 32 .int := ⟨RX12, TX12, 48, rfl, rfl, by decide +kernel⟩
theorem gp_X12_33 : gPL 12 33 .int := ⟨RX12, TX12, 48, rfl, rfl, by decide +kernel⟩
theorem gp_X12_34 : gPL 12 34 .int := ⟨RX12, TX12, 48, rfl, rfl, by decide +kernel⟩
theorem gp_X12_43 : gPL 12 43 .int := ⟨RX12, TX12, 48, rfl, rfl, by decide +kernel⟩
theorem gp_X12_44 : gPL 12 44 .int := ⟨RX12, TX12, 48, rfl, rfl, by decide +kernel⟩
theorem m_10_0 : Cond.fieldLink RX12 90 "CoverDeskModel" "insured" "[J" ∈ tb := it_10 _ (List.mem_of_getElem? (i := 0) rfl)
theorem m_10_1 : Cond.fieldLink RX12 93 "CoverDeskModel" "safe" "[J" ∈ tb := it_10 _ (List.mem_of_getElem? (i := 1) rfl)
theorem m_10_10 : Cond.selects RX12 yX12_starts yX12_starts ∈ tb := it_10 _ (List.mem_of_getElem? (i := 10) rfl)
theorem m_10_11 : Cond.code yX12_starts cX12_starts 2 none ∈ tb := it_10 _ (List.mem_of_getElem? (i := 11) rfl)
theorem m_10_12 : Cond.fieldLink RX12 115 "CoverDeskModel" "pasts" "I" ∈ tb := it_10 _ (List.mem_of_getElem? (i := 12) rfl)
theorem m_10_17 : Cond.fieldLink RX11 91 "CoverDesk$Tape" "length" "I" ∈ tb := it_10 _ (List.mem_of_getElem? (i := 17) rfl)
theorem m_10_18 : Cond.methodLink RX11 95 yX9_append ∈ tb := it_10 _ (List.mem_of_getElem? (i := 18) rfl)
theorem m_10_19 : Cond.instanceMethod yX9_append ∈ tb := it_10 _ (List.mem_of_getElem? (i := 19) rfl)
theorem m_10_2 : Cond.fieldLink RX12 96 "CoverDeskModel" "open" "[J" ∈ tb := it_10 _ (List.mem_of_getElem? (i := 2) rfl)
theorem m_10_20 : Cond.selects RX9 yX9_append yX9_append ∈ tb := it_10 _ (List.mem_of_getElem? (i := 20) rfl)
theorem m_10_21 : Cond.code yX9_append cX9_append 3 none ∈ tb := it_10 _ (List.mem_of_getElem? (i := 21) rfl)
theorem m_10_22 : Cond.fieldLink RX9 19 "CoverDesk$Tape" "length" "I" ∈ tb := it_10 _ (List.mem_of_getElem? (i := 22) rfl)
theorem m_10_3 : Cond.fieldLink RX12 99 "CoverDeskModel" "deed" "[I" ∈ tb := it_10 _ (List.mem_of_getElem? (i := 3) rfl)
theorem m_10_4 : Cond.fieldLink RX12 102 "CoverDeskModel" "excess" "[J" ∈ tb := it_10 _ (List.mem_of_getElem? (i := 4) rfl)
theorem m_10_5 : Cond.fieldLink RX12 105 "CoverDeskModel" "room" "[J" ∈ tb := it_10 _ (List.mem_of_getElem? (i := 5) rfl)
theorem m_10_6 : Cond.fieldLink RX12 108 "CoverDeskModel" "bare" "[J" ∈ tb := it_10 _ (List.mem_of_getElem? (i := 6) rfl)
theorem m_10_7 : Cond.constant RX12 111 (250000) ∈ tb := it_10 _ (List.mem_of_getElem? (i := 7) rfl)
theorem m_10_8 : Cond.methodLink RX12 112 yX12_starts ∈ tb := it_10 _ (List.mem_of_getElem? (i := 8) rfl)
theorem m_10_9 : Cond.instanceMethod yX12_starts ∈ tb := it_10 _ (List.mem_of_getElem? (i := 9) rfl)
theorem m_11_16 : Cond.methodLink RX12 125 yX12_isIn ∈ tb := it_11 _ (List.mem_of_getElem? (i := 16) rfl)
theorem m_11_17 : Cond.static yX12_isIn ∈ tb := it_11 _ (List.mem_of_getElem? (i := 17) rfl)
theorem m_11_18 : Cond.code yX12_isIn cX12_isIn 6 (some .boolean) ∈ tb := it_11 _ (List.mem_of_getElem? (i := 18) rfl)
theorem m_11_23 : Cond.fieldLink RX11 103 "CoverDesk$BookReader" "draft" "LCoverDesk$Told;" ∈ tb := it_11 _ (List.mem_of_getElem? (i := 23) rfl)
theorem m_11_3 : Cond.fieldLink RX12 118 "CoverDeskModel" "taped" "I" ∈ tb := it_11 _ (List.mem_of_getElem? (i := 3) rfl)
theorem m_11_4 : Cond.methodLink RX12 121 yX12_four ∈ tb := it_11 _ (List.mem_of_getElem? (i := 4) rfl)
theorem m_11_5 : Cond.instanceMethod yX12_four ∈ tb := it_11 _ (List.mem_of_getElem? (i := 5) rfl)
theorem m_11_6 : Cond.selects RX12 yX12_four yX12_four ∈ tb := it_11 _ (List.mem_of_getElem? (i := 6) rfl)
theorem m_11_7 : Cond.code yX12_four cX12_four 3 none ∈ tb := it_11 _ (List.mem_of_getElem? (i := 7) rfl)
theorem m_12_0 : Cond.fieldLink RX11 112 "CoverDesk$Told" "accounts" "I" ∈ tb := it_12 _ (List.mem_of_getElem? (i := 0) rfl)
theorem m_12_1 : Cond.methodLink RX11 99 yX0_read ∈ tb := it_12 _ (List.mem_of_getElem? (i := 1) rfl)
theorem m_12_10 : Cond.code yX10_clear cX10_clear 1 none ∈ tb := it_12 _ (List.mem_of_getElem? (i := 10) rfl)
theorem m_12_11 : Cond.fieldLink RX10 63 "CoverDesk$Told" "people" "I" ∈ tb := it_12 _ (List.mem_of_getElem? (i := 11) rfl)
theorem m_12_12 : Cond.fieldLink RX10 66 "CoverDesk$Told" "banks" "I" ∈ tb := it_12 _ (List.mem_of_getElem? (i := 12) rfl)
theorem m_12_13 : Cond.fieldLink RX10 69 "CoverDesk$Told" "accounts" "I" ∈ tb := it_12 _ (List.mem_of_getElem? (i := 13) rfl)
theorem m_12_14 : Cond.fieldLink RX10 72 "CoverDesk$Told" "loans" "I" ∈ tb := it_12 _ (List.mem_of_getElem? (i := 14) rfl)
theorem m_12_15 : Cond.methodLink RX0 25 yX9_forgetFault ∈ tb := it_12 _ (List.mem_of_getElem? (i := 15) rfl)
theorem m_12_16 : Cond.instanceMethod yX9_forgetFault ∈ tb := it_12 _ (List.mem_of_getElem? (i := 16) rfl)
theorem m_12_17 : Cond.selects RX9 yX9_forgetFault yX9_forgetFault ∈ tb := it_12 _ (List.mem_of_getElem? (i := 17) rfl)
theorem m_12_18 : Cond.code yX9_forgetFault cX9_forgetFault 1 none ∈ tb := it_12 _ (List.mem_of_getElem? (i := 18) rfl)
theorem m_12_19 : Cond.fieldLink RX9 22 "CoverDesk$Tape" "fault" "I" ∈ tb := it_12 _ (List.mem_of_getElem? (i := 19) rfl)
theorem m_12_2 : Cond.instanceMethod yX0_read ∈ tb := it_12 _ (List.mem_of_getElem? (i := 2) rfl)
theorem m_12_20 : Cond.methodLink RX0 30 yX9_begin ∈ tb := it_12 _ (List.mem_of_getElem? (i := 20) rfl)
theorem m_12_21 : Cond.instanceMethod yX9_begin ∈ tb := it_12 _ (List.mem_of_getElem? (i := 21) rfl)
theorem m_12_22 : Cond.selects RX9 yX9_begin yX9_begin ∈ tb := it_12 _ (List.mem_of_getElem? (i := 22) rfl)
theorem m_12_23 : Cond.code yX9_begin cX9_begin 1 none ∈ tb := it_12 _ (List.mem_of_getElem? (i := 23) rfl)
theorem m_12_3 : Cond.selects RX0 yX0_read yX0_read ∈ tb := it_12 _ (List.mem_of_getElem? (i := 3) rfl)
theorem m_12_4 : Cond.code yX0_read cX0_read 3 (some .boolean) ∈ tb := it_12 _ (List.mem_of_getElem? (i := 4) rfl)
theorem m_12_5 : Cond.fieldLink RX0 33 "CoverDesk$Tape" "sort" "I" ∈ tb := it_12 _ (List.mem_of_getElem? (i := 5) rfl)
theorem m_12_6 : Cond.fieldLink RX0 37 "CoverDesk$Tape" "word" "I" ∈ tb := it_12 _ (List.mem_of_getElem? (i := 6) rfl)
theorem m_12_7 : Cond.methodLink RX0 22 yX10_clear ∈ tb := it_12 _ (List.mem_of_getElem? (i := 7) rfl)
theorem m_12_8 : Cond.instanceMethod yX10_clear ∈ tb := it_12 _ (List.mem_of_getElem? (i := 8) rfl)
theorem m_12_9 : Cond.selects RX10 yX10_clear yX10_clear ∈ tb := it_12 _ (List.mem_of_getElem? (i := 9) rfl)
theorem m_13_0 : Cond.fieldLink RX9 25 "CoverDesk$Tape" "next" "I" ∈ tb := it_13 _ (List.mem_of_getElem? (i := 0) rfl)
theorem m_13_1 : Cond.methodLink RX9 28 yX9_step ∈ tb := it_13 _ (List.mem_of_getElem? (i := 1) rfl)
theorem m_13_10 : Cond.methodLink RX9 31 yX9_isBlank ∈ tb := it_13 _ (List.mem_of_getElem? (i := 10) rfl)
theorem m_13_11 : Cond.static yX9_isBlank ∈ tb := it_13 _ (List.mem_of_getElem? (i := 11) rfl)
theorem m_13_12 : Cond.code yX9_isBlank cX9_isBlank 1 (some .boolean) ∈ tb := it_13 _ (List.mem_of_getElem? (i := 12) rfl)
theorem m_13_13 : Cond.methodLink RX9 51 yX9_isLetter ∈ tb := it_13 _ (List.mem_of_getElem? (i := 13) rfl)
theorem m_13_14 : Cond.static yX9_isLetter ∈ tb := it_13 _ (List.mem_of_getElem? (i := 14) rfl)
theorem m_13_15 : Cond.code yX9_isLetter cX9_isLetter 1 (some .boolean) ∈ tb := it_13 _ (List.mem_of_getElem? (i := 15) rfl)
theorem m_13_16 : Cond.methodLink RX9 54 yX9_scanWord ∈ tb := it_13 _ (List.mem_of_getElem? (i := 16) rfl)
theorem m_13_17 : Cond.instanceMethod yX9_scanWord ∈ tb := it_13 _ (List.mem_of_getElem? (i := 17) rfl)
theorem m_13_18 : Cond.selects RX9 yX9_scanWord yX9_scanWord ∈ tb := it_13 _ (List.mem_of_getElem? (i := 18) rfl)
theorem m_13_19 : Cond.code yX9_scanWord cX9_scanWord 1 none ∈ tb := it_13 _ (List.mem_of_getElem? (i := 19) rfl)
theorem m_13_2 : Cond.instanceMethod yX9_step ∈ tb := it_13 _ (List.mem_of_getElem? (i := 2) rfl)
theorem m_13_20 : Cond.constantLong RX9 67 (27) ∈ tb := it_13 _ (List.mem_of_getElem? (i := 20) rfl)
theorem m_13_21 : Cond.methodLink RX9 57 yX9_reserved ∈ tb := it_13 _ (List.mem_of_getElem? (i := 21) rfl)
theorem m_13_22 : Cond.instanceMethod yX9_reserved ∈ tb := it_13 _ (List.mem_of_getElem? (i := 22) rfl)
theorem m_13_23 : Cond.selects RX9 yX9_reserved yX9_reserved ∈ tb := it_13 _ (List.mem_of_getElem? (i := 23) rfl)
theorem m_13_3 : Cond.selects RX9 yX9_step yX9_step ∈ tb := it_13 _ (List.mem_of_getElem? (i := 3) rfl)
theorem m_13_4 : Cond.code yX9_step cX9_step 1 none ∈ tb := it_13 _ (List.mem_of_getElem? (i := 4) rfl)
theorem m_13_5 : Cond.fieldLink RX9 35 "CoverDesk$Tape" "start" "I" ∈ tb := it_13 _ (List.mem_of_getElem? (i := 5) rfl)
theorem m_13_6 : Cond.fieldLink RX9 38 "CoverDesk$Tape" "word" "I" ∈ tb := it_13 _ (List.mem_of_getElem? (i := 6) rfl)
theorem m_13_7 : Cond.fieldLink RX9 41 "CoverDesk$Tape" "name" "J" ∈ tb := it_13 _ (List.mem_of_getElem? (i := 7) rfl)
theorem m_13_8 : Cond.fieldLink RX9 45 "CoverDesk$Tape" "number" "I" ∈ tb := it_13 _ (List.mem_of_getElem? (i := 8) rfl)
theorem m_13_9 : Cond.fieldLink RX9 48 "CoverDesk$Tape" "sort" "I" ∈ tb := it_13 _ (List.mem_of_getElem? (i := 9) rfl)
theorem m_14_0 : Cond.code yX9_reserved cX9_reserved 6 (some .int) ∈ tb := it_14 _ (List.mem_of_getElem? (i := 0) rfl)
theorem m_14_1 : Cond.methodLink RX9 71 yJ0_length_8abf5 ∈ tb := it_14 _ (List.mem_of_getElem? (i := 1) rfl)
theorem m_14_13 : Cond.methodLink RX9 75 yJ0_charAt_5068e ∈ tb := it_14 _ (List.mem_of_getElem? (i := 13) rfl)
theorem m_16_10 : Cond.instanceMethod yX0_readAccount ∈ tb := it_16 _ (List.mem_of_getElem? (i := 10) rfl)
theorem m_16_11 : Cond.selects RX0 yX0_readAccount yX0_readAccount ∈ tb := it_16 _ (List.mem_of_getElem? (i := 11) rfl)
theorem m_16_12 : Cond.code yX0_readAccount cX0_readAccount 6 (some .boolean) ∈ tb := it_16 _ (List.mem_of_getElem? (i := 12) rfl)
theorem m_16_13 : Cond.fieldLink RX0 134 "CoverDesk$Told" "accounts" "I" ∈ tb := it_16 _ (List.mem_of_getElem? (i := 13) rfl)
theorem m_16_14 : Cond.fieldLink RX0 72 "CoverDesk$Tape" "name" "J" ∈ tb := it_16 _ (List.mem_of_getElem? (i := 14) rfl)
theorem m_16_15 : Cond.fieldLink RX0 140 "CoverDesk$Told" "heirs" "[I" ∈ tb := it_16 _ (List.mem_of_getElem? (i := 15) rfl)
theorem m_16_16 : Cond.fieldLink RX0 152 "CoverDesk$Told" "accountName" "[J" ∈ tb := it_16 _ (List.mem_of_getElem? (i := 16) rfl)
theorem m_16_17 : Cond.fieldLink RX0 155 "CoverDesk$Told" "kind" "[I" ∈ tb := it_16 _ (List.mem_of_getElem? (i := 17) rfl)
theorem m_16_18 : Cond.fieldLink RX0 158 "CoverDesk$Told" "home" "[I" ∈ tb := it_16 _ (List.mem_of_getElem? (i := 18) rfl)
theorem m_16_19 : Cond.methodLink RX0 66 yX9_step ∈ tb := it_16 _ (List.mem_of_getElem? (i := 19) rfl)
theorem m_16_2 : Cond.methodLink RX9 61 yX9_isDigit ∈ tb := it_16 _ (List.mem_of_getElem? (i := 2) rfl)
theorem m_16_20 : Cond.methodLink RX0 76 yX10_isTaken ∈ tb := it_16 _ (List.mem_of_getElem? (i := 20) rfl)
theorem m_16_21 : Cond.instanceMethod yX10_isTaken ∈ tb := it_16 _ (List.mem_of_getElem? (i := 21) rfl)
theorem m_16_22 : Cond.selects RX10 yX10_isTaken yX10_isTaken ∈ tb := it_16 _ (List.mem_of_getElem? (i := 22) rfl)
theorem m_16_23 : Cond.code yX10_isTaken cX10_isTaken 3 (some .boolean) ∈ tb := it_16 _ (List.mem_of_getElem? (i := 23) rfl)
theorem m_16_3 : Cond.static yX9_isDigit ∈ tb := it_16 _ (List.mem_of_getElem? (i := 3) rfl)
theorem m_16_4 : Cond.code yX9_isDigit cX9_isDigit 1 (some .boolean) ∈ tb := it_16 _ (List.mem_of_getElem? (i := 4) rfl)
theorem m_16_5 : Cond.methodLink RX9 64 yX9_scanNumber ∈ tb := it_16 _ (List.mem_of_getElem? (i := 5) rfl)
theorem m_16_6 : Cond.instanceMethod yX9_scanNumber ∈ tb := it_16 _ (List.mem_of_getElem? (i := 6) rfl)
theorem m_16_7 : Cond.selects RX9 yX9_scanNumber yX9_scanNumber ∈ tb := it_16 _ (List.mem_of_getElem? (i := 7) rfl)
theorem m_16_8 : Cond.code yX9_scanNumber cX9_scanNumber 1 none ∈ tb := it_16 _ (List.mem_of_getElem? (i := 8) rfl)
theorem m_16_9 : Cond.methodLink RX0 40 yX0_readAccount ∈ tb := it_16 _ (List.mem_of_getElem? (i := 9) rfl)
theorem m_17_0 : Cond.methodLink RX10 89 yX10_personNamed ∈ tb := it_17 _ (List.mem_of_getElem? (i := 0) rfl)
theorem m_17_1 : Cond.instanceMethod yX10_personNamed ∈ tb := it_17 _ (List.mem_of_getElem? (i := 1) rfl)
theorem m_17_10 : Cond.code yX10_bankNamed cX10_bankNamed 3 (some .int) ∈ tb := it_17 _ (List.mem_of_getElem? (i := 10) rfl)
theorem m_17_11 : Cond.methodLink RX10 96 yX10_accountNamed ∈ tb := it_17 _ (List.mem_of_getElem? (i := 11) rfl)
theorem m_17_12 : Cond.instanceMethod yX10_accountNamed ∈ tb := it_17 _ (List.mem_of_getElem? (i := 12) rfl)
theorem m_17_13 : Cond.selects RX10 yX10_accountNamed yX10_accountNamed ∈ tb := it_17 _ (List.mem_of_getElem? (i := 13) rfl)
theorem m_17_14 : Cond.code yX10_accountNamed cX10_accountNamed 3 (some .int) ∈ tb := it_17 _ (List.mem_of_getElem? (i := 14) rfl)
theorem m_17_15 : Cond.methodLink RX0 80 yX9_passNew ∈ tb := it_17 _ (List.mem_of_getElem? (i := 15) rfl)
theorem m_17_16 : Cond.instanceMethod yX9_passNew ∈ tb := it_17 _ (List.mem_of_getElem? (i := 16) rfl)
theorem m_17_17 : Cond.selects RX9 yX9_passNew yX9_passNew ∈ tb := it_17 _ (List.mem_of_getElem? (i := 17) rfl)
theorem m_17_18 : Cond.code yX9_passNew cX9_passNew 3 (some .boolean) ∈ tb := it_17 _ (List.mem_of_getElem? (i := 18) rfl)
theorem m_17_19 : Cond.methodLink RX9 79 yX9_refuse ∈ tb := it_17 _ (List.mem_of_getElem? (i := 19) rfl)
theorem m_17_2 : Cond.selects RX10 yX10_personNamed yX10_personNamed ∈ tb := it_17 _ (List.mem_of_getElem? (i := 2) rfl)
theorem m_17_20 : Cond.instanceMethod yX9_refuse ∈ tb := it_17 _ (List.mem_of_getElem? (i := 20) rfl)
theorem m_17_21 : Cond.selects RX9 yX9_refuse yX9_refuse ∈ tb := it_17 _ (List.mem_of_getElem? (i := 21) rfl)
theorem m_17_22 : Cond.code yX9_refuse cX9_refuse 2 (some .boolean) ∈ tb := it_17 _ (List.mem_of_getElem? (i := 22) rfl)
theorem m_17_23 : Cond.methodLink RX0 118 yX9_passWord ∈ tb := it_17 _ (List.mem_of_getElem? (i := 23) rfl)
theorem m_17_3 : Cond.code yX10_personNamed cX10_personNamed 3 (some .int) ∈ tb := it_17 _ (List.mem_of_getElem? (i := 3) rfl)
theorem m_17_4 : Cond.methodLink RX10 85 yX10_placeOf ∈ tb := it_17 _ (List.mem_of_getElem? (i := 4) rfl)
theorem m_17_5 : Cond.static yX10_placeOf ∈ tb := it_17 _ (List.mem_of_getElem? (i := 5) rfl)
theorem m_17_6 : Cond.code yX10_placeOf cX10_placeOf 5 (some .int) ∈ tb := it_17 _ (List.mem_of_getElem? (i := 6) rfl)
theorem m_17_7 : Cond.methodLink RX10 93 yX10_bankNamed ∈ tb := it_17 _ (List.mem_of_getElem? (i := 7) rfl)
theorem m_17_8 : Cond.instanceMethod yX10_bankNamed ∈ tb := it_17 _ (List.mem_of_getElem? (i := 8) rfl)
theorem m_17_9 : Cond.selects RX10 yX10_bankNamed yX10_bankNamed ∈ tb := it_17 _ (List.mem_of_getElem? (i := 9) rfl)
theorem m_18_0 : Cond.instanceMethod yX9_passWord ∈ tb := it_18 _ (List.mem_of_getElem? (i := 0) rfl)
theorem m_18_1 : Cond.selects RX9 yX9_passWord yX9_passWord ∈ tb := it_18 _ (List.mem_of_getElem? (i := 1) rfl)
theorem m_18_10 : Cond.selects RX0 yX0_readOwners yX0_readOwners ∈ tb := it_18 _ (List.mem_of_getElem? (i := 10) rfl)
theorem m_18_11 : Cond.code yX0_readOwners cX0_readOwners 7 (some .boolean) ∈ tb := it_18 _ (List.mem_of_getElem? (i := 11) rfl)
theorem m_18_12 : Cond.fieldLink RX0 161 "CoverDesk$Told" "owners" "[I" ∈ tb := it_18 _ (List.mem_of_getElem? (i := 12) rfl)
theorem m_18_13 : Cond.methodLink RX0 111 yX10_personNamed ∈ tb := it_18 _ (List.mem_of_getElem? (i := 13) rfl)
theorem m_18_14 : Cond.methodLink RX0 164 yX10_ownerOf ∈ tb := it_18 _ (List.mem_of_getElem? (i := 14) rfl)
theorem m_18_15 : Cond.instanceMethod yX10_ownerOf ∈ tb := it_18 _ (List.mem_of_getElem? (i := 15) rfl)
theorem m_18_16 : Cond.selects RX10 yX10_ownerOf yX10_ownerOf ∈ tb := it_18 _ (List.mem_of_getElem? (i := 16) rfl)
theorem m_18_17 : Cond.code yX10_ownerOf cX10_ownerOf 5 (some .int) ∈ tb := it_18 _ (List.mem_of_getElem? (i := 17) rfl)
theorem m_18_18 : Cond.methodLink RX0 60 yX9_refuse ∈ tb := it_18 _ (List.mem_of_getElem? (i := 18) rfl)
theorem m_18_19 : Cond.methodLink RX0 168 yX10_addOwner ∈ tb := it_18 _ (List.mem_of_getElem? (i := 19) rfl)
theorem m_18_2 : Cond.code yX9_passWord cX9_passWord 2 (some .boolean) ∈ tb := it_18 _ (List.mem_of_getElem? (i := 2) rfl)
theorem m_18_20 : Cond.instanceMethod yX10_addOwner ∈ tb := it_18 _ (List.mem_of_getElem? (i := 20) rfl)
theorem m_18_21 : Cond.selects RX10 yX10_addOwner yX10_addOwner ∈ tb := it_18 _ (List.mem_of_getElem? (i := 21) rfl)
theorem m_18_22 : Cond.code yX10_addOwner cX10_addOwner 4 none ∈ tb := it_18 _ (List.mem_of_getElem? (i := 22) rfl)
theorem m_18_23 : Cond.methodLink RX0 143 yX0_readHeirs ∈ tb := it_18 _ (List.mem_of_getElem? (i := 23) rfl)
theorem m_18_3 : Cond.methodLink RX0 121 yX10_bankNamed ∈ tb := it_18 _ (List.mem_of_getElem? (i := 3) rfl)
theorem m_18_4 : Cond.methodLink RX0 115 yX9_passKnown ∈ tb := it_18 _ (List.mem_of_getElem? (i := 4) rfl)
theorem m_18_5 : Cond.instanceMethod yX9_passKnown ∈ tb := it_18 _ (List.mem_of_getElem? (i := 5) rfl)
theorem m_18_6 : Cond.selects RX9 yX9_passKnown yX9_passKnown ∈ tb := it_18 _ (List.mem_of_getElem? (i := 6) rfl)
theorem m_18_7 : Cond.code yX9_passKnown cX9_passKnown 2 (some .boolean) ∈ tb := it_18 _ (List.mem_of_getElem? (i := 7) rfl)
theorem m_18_8 : Cond.methodLink RX0 137 yX0_readOwners ∈ tb := it_18 _ (List.mem_of_getElem? (i := 8) rfl)
theorem m_18_9 : Cond.instanceMethod yX0_readOwners ∈ tb := it_18 _ (List.mem_of_getElem? (i := 9) rfl)
theorem m_19_0 : Cond.instanceMethod yX0_readHeirs ∈ tb := it_19 _ (List.mem_of_getElem? (i := 0) rfl)
theorem m_19_1 : Cond.selects RX0 yX0_readHeirs yX0_readHeirs ∈ tb := it_19 _ (List.mem_of_getElem? (i := 1) rfl)
theorem m_19_10 : Cond.code yX10_addHeir cX10_addHeir 5 none ∈ tb := it_19 _ (List.mem_of_getElem? (i := 10) rfl)
theorem m_19_11 : Cond.methodLink RX0 146 yX0_readCoins ∈ tb := it_19 _ (List.mem_of_getElem? (i := 11) rfl)
theorem m_19_12 : Cond.instanceMethod yX0_readCoins ∈ tb := it_19 _ (List.mem_of_getElem? (i := 12) rfl)
theorem m_19_13 : Cond.selects RX0 yX0_readCoins yX0_readCoins ∈ tb := it_19 _ (List.mem_of_getElem? (i := 13) rfl)
theorem m_19_14 : Cond.code yX0_readCoins cX0_readCoins 4 (some .boolean) ∈ tb := it_19 _ (List.mem_of_getElem? (i := 14) rfl)
theorem m_19_15 : Cond.fieldLink RX0 180 "CoverDesk$Tape" "number" "I" ∈ tb := it_19 _ (List.mem_of_getElem? (i := 15) rfl)
theorem m_19_16 : Cond.constant RX0 94 (100000000) ∈ tb := it_19 _ (List.mem_of_getElem? (i := 16) rfl)
theorem m_19_17 : Cond.fieldLink RX0 183 "CoverDesk$Told" "coins" "[I" ∈ tb := it_19 _ (List.mem_of_getElem? (i := 17) rfl)
theorem m_19_18 : Cond.fieldLink RX0 99 "CoverDesk$Tape" "lastNumber" "I" ∈ tb := it_19 _ (List.mem_of_getElem? (i := 18) rfl)
theorem m_19_19 : Cond.methodLink RX0 95 yX9_passNumber ∈ tb := it_19 _ (List.mem_of_getElem? (i := 19) rfl)
theorem m_19_2 : Cond.code yX0_readHeirs cX0_readHeirs 5 (some .boolean) ∈ tb := it_19 _ (List.mem_of_getElem? (i := 2) rfl)
theorem m_19_20 : Cond.instanceMethod yX9_passNumber ∈ tb := it_19 _ (List.mem_of_getElem? (i := 20) rfl)
theorem m_19_21 : Cond.selects RX9 yX9_passNumber yX9_passNumber ∈ tb := it_19 _ (List.mem_of_getElem? (i := 21) rfl)
theorem m_19_22 : Cond.code yX9_passNumber cX9_passNumber 3 (some .boolean) ∈ tb := it_19 _ (List.mem_of_getElem? (i := 22) rfl)
theorem m_19_23 : Cond.fieldLink RX9 83 "CoverDesk$Tape" "lastNumber" "I" ∈ tb := it_19 _ (List.mem_of_getElem? (i := 23) rfl)
theorem m_19_3 : Cond.methodLink RX0 172 yX10_hasHeir ∈ tb := it_19 _ (List.mem_of_getElem? (i := 3) rfl)
theorem m_19_4 : Cond.instanceMethod yX10_hasHeir ∈ tb := it_19 _ (List.mem_of_getElem? (i := 4) rfl)
theorem m_19_5 : Cond.selects RX10 yX10_hasHeir yX10_hasHeir ∈ tb := it_19 _ (List.mem_of_getElem? (i := 5) rfl)
theorem m_19_6 : Cond.code yX10_hasHeir cX10_hasHeir 6 (some .boolean) ∈ tb := it_19 _ (List.mem_of_getElem? (i := 6) rfl)
theorem m_19_7 : Cond.methodLink RX0 176 yX10_addHeir ∈ tb := it_19 _ (List.mem_of_getElem? (i := 7) rfl)
theorem m_19_8 : Cond.instanceMethod yX10_addHeir ∈ tb := it_19 _ (List.mem_of_getElem? (i := 8) rfl)
theorem m_19_9 : Cond.selects RX10 yX10_addHeir yX10_addHeir ∈ tb := it_19 _ (List.mem_of_getElem? (i := 9) rfl)
theorem m_1_14 : Cond.initialized RX9 ∈ tb := it_1 _ (List.mem_of_getElem? (i := 14) rfl)
theorem m_1_15 : Cond.fieldLink RX11 12 "CoverDesk" "tape" "LCoverDesk$Tape;" ∈ tb := it_1 _ (List.mem_of_getElem? (i := 15) rfl)
theorem m_1_18 : Cond.initialized RX10 ∈ tb := it_1 _ (List.mem_of_getElem? (i := 18) rfl)
theorem m_1_19 : Cond.fieldLink RX11 19 "CoverDesk" "told" "LCoverDesk$Told;" ∈ tb := it_1 _ (List.mem_of_getElem? (i := 19) rfl)
theorem m_1_2 : Cond.initialized RX11 ∈ tb := it_1 _ (List.mem_of_getElem? (i := 2) rfl)
theorem m_1_22 : Cond.initialized RX8 ∈ tb := it_1 _ (List.mem_of_getElem? (i := 22) rfl)
theorem m_1_23 : Cond.fieldLink RX11 26 "CoverDesk" "now" "LCoverDesk$State;" ∈ tb := it_1 _ (List.mem_of_getElem? (i := 23) rfl)
theorem m_1_5 : Cond.initialized RX12 ∈ tb := it_1 _ (List.mem_of_getElem? (i := 5) rfl)
theorem m_20_0 : Cond.methodLink RX0 149 yX0_readTerm ∈ tb := it_20 _ (List.mem_of_getElem? (i := 0) rfl)
theorem m_20_1 : Cond.instanceMethod yX0_readTerm ∈ tb := it_20 _ (List.mem_of_getElem? (i := 1) rfl)
theorem m_20_10 : Cond.fieldLink RX0 84 "CoverDesk$Told" "personName" "[J" ∈ tb := it_20 _ (List.mem_of_getElem? (i := 10) rfl)
theorem m_20_11 : Cond.methodLink RX0 48 yX0_readBank ∈ tb := it_20 _ (List.mem_of_getElem? (i := 11) rfl)
theorem m_20_12 : Cond.instanceMethod yX0_readBank ∈ tb := it_20 _ (List.mem_of_getElem? (i := 12) rfl)
theorem m_20_13 : Cond.selects RX0 yX0_readBank yX0_readBank ∈ tb := it_20 _ (List.mem_of_getElem? (i := 13) rfl)
theorem m_20_14 : Cond.code yX0_readBank cX0_readBank 4 (some .boolean) ∈ tb := it_20 _ (List.mem_of_getElem? (i := 14) rfl)
theorem m_20_15 : Cond.fieldLink RX0 88 "CoverDesk$Told" "banks" "I" ∈ tb := it_20 _ (List.mem_of_getElem? (i := 15) rfl)
theorem m_20_16 : Cond.fieldLink RX0 91 "CoverDesk$Told" "bankName" "[J" ∈ tb := it_20 _ (List.mem_of_getElem? (i := 16) rfl)
theorem m_20_17 : Cond.methodLink RX0 51 yX0_readLimit ∈ tb := it_20 _ (List.mem_of_getElem? (i := 17) rfl)
theorem m_20_18 : Cond.instanceMethod yX0_readLimit ∈ tb := it_20 _ (List.mem_of_getElem? (i := 18) rfl)
theorem m_20_19 : Cond.selects RX0 yX0_readLimit yX0_readLimit ∈ tb := it_20 _ (List.mem_of_getElem? (i := 19) rfl)
theorem m_20_2 : Cond.selects RX0 yX0_readTerm yX0_readTerm ∈ tb := it_20 _ (List.mem_of_getElem? (i := 2) rfl)
theorem m_20_20 : Cond.code yX0_readLimit cX0_readLimit 1 (some .boolean) ∈ tb := it_20 _ (List.mem_of_getElem? (i := 20) rfl)
theorem m_20_21 : Cond.fieldLink RX0 102 "CoverDesk$Told" "limit" "I" ∈ tb := it_20 _ (List.mem_of_getElem? (i := 21) rfl)
theorem m_20_22 : Cond.methodLink RX0 54 yX0_readGrace ∈ tb := it_20 _ (List.mem_of_getElem? (i := 22) rfl)
theorem m_20_23 : Cond.instanceMethod yX0_readGrace ∈ tb := it_20 _ (List.mem_of_getElem? (i := 23) rfl)
theorem m_20_3 : Cond.code yX0_readTerm cX0_readTerm 2 (some .boolean) ∈ tb := it_20 _ (List.mem_of_getElem? (i := 3) rfl)
theorem m_20_4 : Cond.fieldLink RX0 186 "CoverDesk$Told" "term" "[I" ∈ tb := it_20 _ (List.mem_of_getElem? (i := 4) rfl)
theorem m_20_5 : Cond.methodLink RX0 44 yX0_readPerson ∈ tb := it_20 _ (List.mem_of_getElem? (i := 5) rfl)
theorem m_20_6 : Cond.instanceMethod yX0_readPerson ∈ tb := it_20 _ (List.mem_of_getElem? (i := 6) rfl)
theorem m_20_7 : Cond.selects RX0 yX0_readPerson yX0_readPerson ∈ tb := it_20 _ (List.mem_of_getElem? (i := 7) rfl)
theorem m_20_8 : Cond.code yX0_readPerson cX0_readPerson 4 (some .boolean) ∈ tb := it_20 _ (List.mem_of_getElem? (i := 8) rfl)
theorem m_20_9 : Cond.fieldLink RX0 69 "CoverDesk$Told" "people" "I" ∈ tb := it_20 _ (List.mem_of_getElem? (i := 9) rfl)
theorem m_21_0 : Cond.selects RX0 yX0_readGrace yX0_readGrace ∈ tb := it_21 _ (List.mem_of_getElem? (i := 0) rfl)
theorem m_21_1 : Cond.code yX0_readGrace cX0_readGrace 1 (some .boolean) ∈ tb := it_21 _ (List.mem_of_getElem? (i := 1) rfl)
theorem m_21_10 : Cond.fieldLink RX0 131 "CoverDesk$Told" "loanCoins" "[I" ∈ tb := it_21 _ (List.mem_of_getElem? (i := 10) rfl)
theorem m_21_11 : Cond.methodLink RX0 63 yX9_passSemicolon ∈ tb := it_21 _ (List.mem_of_getElem? (i := 11) rfl)
theorem m_21_12 : Cond.instanceMethod yX9_passSemicolon ∈ tb := it_21 _ (List.mem_of_getElem? (i := 12) rfl)
theorem m_21_13 : Cond.selects RX9 yX9_passSemicolon yX9_passSemicolon ∈ tb := it_21 _ (List.mem_of_getElem? (i := 13) rfl)
theorem m_21_14 : Cond.code yX9_passSemicolon cX9_passSemicolon 1 (some .boolean) ∈ tb := it_21 _ (List.mem_of_getElem? (i := 14) rfl)
theorem m_21_15 : Cond.methodLink RX11 106 yX10_copy ∈ tb := it_21 _ (List.mem_of_getElem? (i := 15) rfl)
theorem m_21_16 : Cond.instanceMethod yX10_copy ∈ tb := it_21 _ (List.mem_of_getElem? (i := 16) rfl)
theorem m_21_17 : Cond.selects RX10 yX10_copy yX10_copy ∈ tb := it_21 _ (List.mem_of_getElem? (i := 17) rfl)
theorem m_21_18 : Cond.code yX10_copy cX10_copy 2 none ∈ tb := it_21 _ (List.mem_of_getElem? (i := 18) rfl)
theorem m_21_19 : Cond.methodLink RX10 75 arraycopyName ∈ tb := it_21 _ (List.mem_of_getElem? (i := 19) rfl)
theorem m_21_2 : Cond.fieldLink RX0 105 "CoverDesk$Told" "grace" "I" ∈ tb := it_21 _ (List.mem_of_getElem? (i := 2) rfl)
theorem m_21_20 : Cond.methodLink RX11 109 yX7_clear ∈ tb := it_21 _ (List.mem_of_getElem? (i := 20) rfl)
theorem m_21_21 : Cond.instanceMethod yX7_clear ∈ tb := it_21 _ (List.mem_of_getElem? (i := 21) rfl)
theorem m_21_22 : Cond.selects RX7 yX7_clear yX7_clear ∈ tb := it_21 _ (List.mem_of_getElem? (i := 22) rfl)
theorem m_21_23 : Cond.code yX7_clear cX7_clear 1 none ∈ tb := it_21 _ (List.mem_of_getElem? (i := 23) rfl)
theorem m_21_3 : Cond.methodLink RX0 57 yX0_readLoan ∈ tb := it_21 _ (List.mem_of_getElem? (i := 3) rfl)
theorem m_21_4 : Cond.instanceMethod yX0_readLoan ∈ tb := it_21 _ (List.mem_of_getElem? (i := 4) rfl)
theorem m_21_5 : Cond.selects RX0 yX0_readLoan yX0_readLoan ∈ tb := it_21 _ (List.mem_of_getElem? (i := 5) rfl)
theorem m_21_6 : Cond.code yX0_readLoan cX0_readLoan 4 (some .boolean) ∈ tb := it_21 _ (List.mem_of_getElem? (i := 6) rfl)
theorem m_21_7 : Cond.fieldLink RX0 108 "CoverDesk$Told" "loans" "I" ∈ tb := it_21 _ (List.mem_of_getElem? (i := 7) rfl)
theorem m_21_8 : Cond.fieldLink RX0 124 "CoverDesk$Told" "loanPerson" "[I" ∈ tb := it_21 _ (List.mem_of_getElem? (i := 8) rfl)
theorem m_21_9 : Cond.fieldLink RX0 128 "CoverDesk$Told" "loanBank" "[I" ∈ tb := it_21 _ (List.mem_of_getElem? (i := 9) rfl)
theorem m_22_0 : Cond.fieldLink RX7 18 "CoverDesk$Past" "count" "I" ∈ tb := it_22 _ (List.mem_of_getElem? (i := 0) rfl)
theorem m_22_10 : Cond.fieldLink RX12 129 "CoverDeskModel" "to" "I" ∈ tb := it_22 _ (List.mem_of_getElem? (i := 10) rfl)
theorem m_22_11 : Cond.fieldLink RX12 162 "CoverDeskModel" "bad" "I" ∈ tb := it_22 _ (List.mem_of_getElem? (i := 11) rfl)
theorem m_22_12 : Cond.fieldLink RX12 165 "CoverDeskModel" "badPlace" "I" ∈ tb := it_22 _ (List.mem_of_getElem? (i := 12) rfl)
theorem m_22_13 : Cond.methodLink RX12 238 yX12_next ∈ tb := it_22 _ (List.mem_of_getElem? (i := 13) rfl)
theorem m_22_14 : Cond.instanceMethod yX12_next ∈ tb := it_22 _ (List.mem_of_getElem? (i := 14) rfl)
theorem m_22_15 : Cond.selects RX12 yX12_next yX12_next ∈ tb := it_22 _ (List.mem_of_getElem? (i := 15) rfl)
theorem m_22_16 : Cond.code yX12_next cX12_next 2 none ∈ tb := it_22 _ (List.mem_of_getElem? (i := 16) rfl)
theorem m_22_17 : Cond.fieldLink RX12 136 "CoverDeskModel" "from" "I" ∈ tb := it_22 _ (List.mem_of_getElem? (i := 17) rfl)
theorem m_22_18 : Cond.fieldLink RX12 139 "CoverDeskModel" "word" "J" ∈ tb := it_22 _ (List.mem_of_getElem? (i := 18) rfl)
theorem m_22_19 : Cond.fieldLink RX12 143 "CoverDeskModel" "number" "J" ∈ tb := it_22 _ (List.mem_of_getElem? (i := 19) rfl)
theorem m_22_20 : Cond.fieldLink RX12 146 "CoverDeskModel" "sign" "I" ∈ tb := it_22 _ (List.mem_of_getElem? (i := 20) rfl)
theorem m_22_21 : Cond.constantLong RX12 152 (97) ∈ tb := it_22 _ (List.mem_of_getElem? (i := 21) rfl)
theorem m_22_22 : Cond.constantLong RX12 154 (122) ∈ tb := it_22 _ (List.mem_of_getElem? (i := 22) rfl)
theorem m_22_23 : Cond.constantLong RX12 156 (48) ∈ tb := it_22 _ (List.mem_of_getElem? (i := 23) rfl)
theorem m_22_5 : Cond.fieldLink RX12 149 "CoverDeskModel" "sort" "I" ∈ tb := it_22 _ (List.mem_of_getElem? (i := 5) rfl)
theorem m_22_6 : Cond.methodLink RX12 290 yX12_begins ∈ tb := it_22 _ (List.mem_of_getElem? (i := 6) rfl)
theorem m_22_7 : Cond.instanceMethod yX12_begins ∈ tb := it_22 _ (List.mem_of_getElem? (i := 7) rfl)
theorem m_22_8 : Cond.selects RX12 yX12_begins yX12_begins ∈ tb := it_22 _ (List.mem_of_getElem? (i := 8) rfl)
theorem m_22_9 : Cond.code yX12_begins cX12_begins 1 none ∈ tb := it_22 _ (List.mem_of_getElem? (i := 9) rfl)
theorem m_23_0 : Cond.constantLong RX12 158 (57) ∈ tb := it_23 _ (List.mem_of_getElem? (i := 0) rfl)
theorem m_23_1 : Cond.constantLong RX12 160 (10) ∈ tb := it_23 _ (List.mem_of_getElem? (i := 1) rfl)
theorem m_23_10 : Cond.constantLong RX12 258 (100000000) ∈ tb := it_23 _ (List.mem_of_getElem? (i := 10) rfl)
theorem m_23_11 : Cond.fieldLink RX12 241 "CoverDeskModel" "read" "I" ∈ tb := it_23 _ (List.mem_of_getElem? (i := 11) rfl)
theorem m_23_12 : Cond.constantLong RX12 264 (60) ∈ tb := it_23 _ (List.mem_of_getElem? (i := 12) rfl)
theorem m_23_13 : Cond.methodLink RX12 184 yX12_isWord ∈ tb := it_23 _ (List.mem_of_getElem? (i := 13) rfl)
theorem m_23_14 : Cond.instanceMethod yX12_isWord ∈ tb := it_23 _ (List.mem_of_getElem? (i := 14) rfl)
theorem m_23_15 : Cond.selects RX12 yX12_isWord yX12_isWord ∈ tb := it_23 _ (List.mem_of_getElem? (i := 15) rfl)
theorem m_23_16 : Cond.code yX12_isWord cX12_isWord 2 (some .boolean) ∈ tb := it_23 _ (List.mem_of_getElem? (i := 16) rfl)
theorem m_23_17 : Cond.methodLink RX12 168 yJ0_length_8abf5 ∈ tb := it_23 _ (List.mem_of_getElem? (i := 17) rfl)
theorem m_23_18 : Cond.methodLink RX12 178 yX12_packed ∈ tb := it_23 _ (List.mem_of_getElem? (i := 18) rfl)
theorem m_23_19 : Cond.static yX12_packed ∈ tb := it_23 _ (List.mem_of_getElem? (i := 19) rfl)
theorem m_23_2 : Cond.methodLink RX12 132 yX12_see ∈ tb := it_23 _ (List.mem_of_getElem? (i := 2) rfl)
theorem m_23_20 : Cond.code yX12_packed cX12_packed 4 (some .long) ∈ tb := it_23 _ (List.mem_of_getElem? (i := 20) rfl)
theorem m_23_21 : Cond.methodLink RX12 174 yJ0_charAt_5068e ∈ tb := it_23 _ (List.mem_of_getElem? (i := 21) rfl)
theorem m_23_22 : Cond.methodLink RX12 254 yX12_readNew ∈ tb := it_23 _ (List.mem_of_getElem? (i := 22) rfl)
theorem m_23_23 : Cond.instanceMethod yX12_readNew ∈ tb := it_23 _ (List.mem_of_getElem? (i := 23) rfl)
theorem m_23_3 : Cond.instanceMethod yX12_see ∈ tb := it_23 _ (List.mem_of_getElem? (i := 3) rfl)
theorem m_23_4 : Cond.selects RX12 yX12_see yX12_see ∈ tb := it_23 _ (List.mem_of_getElem? (i := 4) rfl)
theorem m_23_5 : Cond.code yX12_see cX12_see 2 (some .int) ∈ tb := it_23 _ (List.mem_of_getElem? (i := 5) rfl)
theorem m_23_6 : Cond.methodLink RX12 293 yX12_readLine ∈ tb := it_23 _ (List.mem_of_getElem? (i := 6) rfl)
theorem m_23_7 : Cond.instanceMethod yX12_readLine ∈ tb := it_23 _ (List.mem_of_getElem? (i := 7) rfl)
theorem m_23_8 : Cond.selects RX12 yX12_readLine yX12_readLine ∈ tb := it_23 _ (List.mem_of_getElem? (i := 8) rfl)
theorem m_23_9 : Cond.code yX12_readLine cX12_readLine 1 (some .boolean) ∈ tb := it_23 _ (List.mem_of_getElem? (i := 9) rfl)
theorem m_24_0 : Cond.selects RX12 yX12_readNew yX12_readNew ∈ tb := it_24 _ (List.mem_of_getElem? (i := 0) rfl)
theorem m_24_1 : Cond.code yX12_readNew cX12_readNew 4 (some .boolean) ∈ tb := it_24 _ (List.mem_of_getElem? (i := 1) rfl)
theorem m_24_10 : Cond.methodLink RX12 213 yX12_kindHere ∈ tb := it_24 _ (List.mem_of_getElem? (i := 10) rfl)
theorem m_24_11 : Cond.instanceMethod yX12_kindHere ∈ tb := it_24 _ (List.mem_of_getElem? (i := 11) rfl)
theorem m_24_12 : Cond.selects RX12 yX12_kindHere yX12_kindHere ∈ tb := it_24 _ (List.mem_of_getElem? (i := 12) rfl)
theorem m_24_13 : Cond.code yX12_kindHere cX12_kindHere 1 (some .int) ∈ tb := it_24 _ (List.mem_of_getElem? (i := 13) rfl)
theorem m_24_14 : Cond.methodLink RX12 234 yX12_fails ∈ tb := it_24 _ (List.mem_of_getElem? (i := 14) rfl)
theorem m_24_15 : Cond.instanceMethod yX12_fails ∈ tb := it_24 _ (List.mem_of_getElem? (i := 15) rfl)
theorem m_24_16 : Cond.selects RX12 yX12_fails yX12_fails ∈ tb := it_24 _ (List.mem_of_getElem? (i := 16) rfl)
theorem m_24_17 : Cond.code yX12_fails cX12_fails 2 (some .boolean) ∈ tb := it_24 _ (List.mem_of_getElem? (i := 17) rfl)
theorem m_24_18 : Cond.methodLink RX12 251 yX12_isThere ∈ tb := it_24 _ (List.mem_of_getElem? (i := 18) rfl)
theorem m_24_19 : Cond.instanceMethod yX12_isThere ∈ tb := it_24 _ (List.mem_of_getElem? (i := 19) rfl)
theorem m_24_2 : Cond.methodLink RX12 248 yX12_isName ∈ tb := it_24 _ (List.mem_of_getElem? (i := 2) rfl)
theorem m_24_20 : Cond.selects RX12 yX12_isThere yX12_isThere ∈ tb := it_24 _ (List.mem_of_getElem? (i := 20) rfl)
theorem m_24_21 : Cond.code yX12_isThere cX12_isThere 1 (some .boolean) ∈ tb := it_24 _ (List.mem_of_getElem? (i := 21) rfl)
theorem m_24_22 : Cond.methodLink RX12 244 yX12_placeIn ∈ tb := it_24 _ (List.mem_of_getElem? (i := 22) rfl)
theorem m_24_23 : Cond.static yX12_placeIn ∈ tb := it_24 _ (List.mem_of_getElem? (i := 23) rfl)
theorem m_24_3 : Cond.instanceMethod yX12_isName ∈ tb := it_24 _ (List.mem_of_getElem? (i := 3) rfl)
theorem m_24_4 : Cond.selects RX12 yX12_isName yX12_isName ∈ tb := it_24 _ (List.mem_of_getElem? (i := 4) rfl)
theorem m_24_5 : Cond.code yX12_isName cX12_isName 1 (some .boolean) ∈ tb := it_24 _ (List.mem_of_getElem? (i := 5) rfl)
theorem m_24_6 : Cond.methodLink RX12 230 yX12_isOwn ∈ tb := it_24 _ (List.mem_of_getElem? (i := 6) rfl)
theorem m_24_7 : Cond.instanceMethod yX12_isOwn ∈ tb := it_24 _ (List.mem_of_getElem? (i := 7) rfl)
theorem m_24_8 : Cond.selects RX12 yX12_isOwn yX12_isOwn ∈ tb := it_24 _ (List.mem_of_getElem? (i := 8) rfl)
theorem m_24_9 : Cond.code yX12_isOwn cX12_isOwn 1 (some .boolean) ∈ tb := it_24 _ (List.mem_of_getElem? (i := 9) rfl)
theorem m_25_0 : Cond.code yX12_placeIn cX12_placeIn 6 (some .int) ∈ tb := it_25 _ (List.mem_of_getElem? (i := 0) rfl)
theorem m_25_1 : Cond.methodLink RX12 260 yX12_readNumber ∈ tb := it_25 _ (List.mem_of_getElem? (i := 1) rfl)
theorem m_25_10 : Cond.instanceMethod yX12_readOf ∈ tb := it_25 _ (List.mem_of_getElem? (i := 10) rfl)
theorem m_25_11 : Cond.selects RX12 yX12_readOf yX12_readOf ∈ tb := it_25 _ (List.mem_of_getElem? (i := 11) rfl)
theorem m_25_12 : Cond.code yX12_readOf cX12_readOf 4 (some .boolean) ∈ tb := it_25 _ (List.mem_of_getElem? (i := 12) rfl)
theorem m_25_13 : Cond.methodLink RX12 278 yX12_takes ∈ tb := it_25 _ (List.mem_of_getElem? (i := 13) rfl)
theorem m_25_14 : Cond.instanceMethod yX12_takes ∈ tb := it_25 _ (List.mem_of_getElem? (i := 14) rfl)
theorem m_25_15 : Cond.selects RX12 yX12_takes yX12_takes ∈ tb := it_25 _ (List.mem_of_getElem? (i := 15) rfl)
theorem m_25_16 : Cond.code yX12_takes cX12_takes 2 (some .boolean) ∈ tb := it_25 _ (List.mem_of_getElem? (i := 16) rfl)
theorem m_25_17 : Cond.methodLink RX12 269 yX12_readAccount ∈ tb := it_25 _ (List.mem_of_getElem? (i := 17) rfl)
theorem m_25_18 : Cond.instanceMethod yX12_readAccount ∈ tb := it_25 _ (List.mem_of_getElem? (i := 18) rfl)
theorem m_25_19 : Cond.selects RX12 yX12_readAccount yX12_readAccount ∈ tb := it_25 _ (List.mem_of_getElem? (i := 19) rfl)
theorem m_25_2 : Cond.instanceMethod yX12_readNumber ∈ tb := it_25 _ (List.mem_of_getElem? (i := 2) rfl)
theorem m_25_20 : Cond.code yX12_readAccount cX12_readAccount 3 (some .boolean) ∈ tb := it_25 _ (List.mem_of_getElem? (i := 20) rfl)
theorem m_25_21 : Cond.methodLink RX12 281 yX12_readOwners ∈ tb := it_25 _ (List.mem_of_getElem? (i := 21) rfl)
theorem m_25_22 : Cond.instanceMethod yX12_readOwners ∈ tb := it_25 _ (List.mem_of_getElem? (i := 22) rfl)
theorem m_25_23 : Cond.selects RX12 yX12_readOwners yX12_readOwners ∈ tb := it_25 _ (List.mem_of_getElem? (i := 23) rfl)
theorem m_25_3 : Cond.selects RX12 yX12_readNumber yX12_readNumber ∈ tb := it_25 _ (List.mem_of_getElem? (i := 3) rfl)
theorem m_25_4 : Cond.code yX12_readNumber cX12_readNumber 5 (some .boolean) ∈ tb := it_25 _ (List.mem_of_getElem? (i := 4) rfl)
theorem m_25_5 : Cond.methodLink RX12 266 yX12_readLoan ∈ tb := it_25 _ (List.mem_of_getElem? (i := 5) rfl)
theorem m_25_6 : Cond.instanceMethod yX12_readLoan ∈ tb := it_25 _ (List.mem_of_getElem? (i := 6) rfl)
theorem m_25_7 : Cond.selects RX12 yX12_readLoan yX12_readLoan ∈ tb := it_25 _ (List.mem_of_getElem? (i := 7) rfl)
theorem m_25_8 : Cond.code yX12_readLoan cX12_readLoan 2 (some .boolean) ∈ tb := it_25 _ (List.mem_of_getElem? (i := 8) rfl)
theorem m_25_9 : Cond.methodLink RX12 275 yX12_readOf ∈ tb := it_25 _ (List.mem_of_getElem? (i := 9) rfl)
theorem m_26_0 : Cond.code yX12_readOwners cX12_readOwners 5 (some .boolean) ∈ tb := it_26 _ (List.mem_of_getElem? (i := 0) rfl)
theorem m_26_1 : Cond.methodLink RX12 284 yX12_readHeirs ∈ tb := it_26 _ (List.mem_of_getElem? (i := 1) rfl)
theorem m_26_10 : Cond.instanceMethod yX12_isRead ∈ tb := it_26 _ (List.mem_of_getElem? (i := 10) rfl)
theorem m_26_11 : Cond.selects RX12 yX12_isRead yX12_isRead ∈ tb := it_26 _ (List.mem_of_getElem? (i := 11) rfl)
theorem m_26_12 : Cond.code yX12_isRead cX12_isRead 1 (some .boolean) ∈ tb := it_26 _ (List.mem_of_getElem? (i := 12) rfl)
theorem m_26_13 : Cond.fieldLink RX12 287 "CoverDeskModel" "fault" "I" ∈ tb := it_26 _ (List.mem_of_getElem? (i := 13) rfl)
theorem m_26_14 : Cond.methodLink RX12 299 yX12_takesOver ∈ tb := it_26 _ (List.mem_of_getElem? (i := 14) rfl)
theorem m_26_15 : Cond.instanceMethod yX12_takesOver ∈ tb := it_26 _ (List.mem_of_getElem? (i := 15) rfl)
theorem m_26_16 : Cond.selects RX12 yX12_takesOver yX12_takesOver ∈ tb := it_26 _ (List.mem_of_getElem? (i := 16) rfl)
theorem m_26_17 : Cond.code yX12_takesOver cX12_takesOver 4 none ∈ tb := it_26 _ (List.mem_of_getElem? (i := 17) rfl)
theorem m_26_2 : Cond.instanceMethod yX12_readHeirs ∈ tb := it_26 _ (List.mem_of_getElem? (i := 2) rfl)
theorem m_26_22 : Cond.fieldLink RX11 116 "CoverDesk$DayReader" "count" "I" ∈ tb := it_26 _ (List.mem_of_getElem? (i := 22) rfl)
theorem m_26_23 : Cond.fieldLink RX11 119 "CoverDesk" "deedsTold" "I" ∈ tb := it_26 _ (List.mem_of_getElem? (i := 23) rfl)
theorem m_26_3 : Cond.selects RX12 yX12_readHeirs yX12_readHeirs ∈ tb := it_26 _ (List.mem_of_getElem? (i := 3) rfl)
theorem m_26_4 : Cond.code yX12_readHeirs cX12_readHeirs 2 (some .boolean) ∈ tb := it_26 _ (List.mem_of_getElem? (i := 4) rfl)
theorem m_26_5 : Cond.methodLink RX12 272 yX12_ends ∈ tb := it_26 _ (List.mem_of_getElem? (i := 5) rfl)
theorem m_26_6 : Cond.instanceMethod yX12_ends ∈ tb := it_26 _ (List.mem_of_getElem? (i := 6) rfl)
theorem m_26_7 : Cond.selects RX12 yX12_ends yX12_ends ∈ tb := it_26 _ (List.mem_of_getElem? (i := 7) rfl)
theorem m_26_8 : Cond.code yX12_ends cX12_ends 1 (some .boolean) ∈ tb := it_26 _ (List.mem_of_getElem? (i := 8) rfl)
theorem m_26_9 : Cond.methodLink RX12 296 yX12_isRead ∈ tb := it_26 _ (List.mem_of_getElem? (i := 9) rfl)
theorem m_27_0 : Cond.fieldLink RX11 126 "CoverDesk$DayReader" "deed" "[I" ∈ tb := it_27 _ (List.mem_of_getElem? (i := 0) rfl)
theorem m_27_1 : Cond.fieldLink RX11 130 "CoverDesk$DayReader" "first" "[I" ∈ tb := it_27 _ (List.mem_of_getElem? (i := 1) rfl)
theorem m_27_10 : Cond.fieldLink RX2 55 "CoverDesk$DayReader" "one" "I" ∈ tb := it_27 _ (List.mem_of_getElem? (i := 10) rfl)
theorem m_27_11 : Cond.fieldLink RX2 58 "CoverDesk$DayReader" "other" "I" ∈ tb := it_27 _ (List.mem_of_getElem? (i := 11) rfl)
theorem m_27_12 : Cond.methodLink RX2 29 yX9_forgetFault ∈ tb := it_27 _ (List.mem_of_getElem? (i := 12) rfl)
theorem m_27_13 : Cond.methodLink RX2 34 yX9_begin ∈ tb := it_27 _ (List.mem_of_getElem? (i := 13) rfl)
theorem m_27_14 : Cond.methodLink RX2 47 yX2_readDeed ∈ tb := it_27 _ (List.mem_of_getElem? (i := 14) rfl)
theorem m_27_15 : Cond.instanceMethod yX2_readDeed ∈ tb := it_27 _ (List.mem_of_getElem? (i := 15) rfl)
theorem m_27_16 : Cond.selects RX2 yX2_readDeed yX2_readDeed ∈ tb := it_27 _ (List.mem_of_getElem? (i := 16) rfl)
theorem m_27_17 : Cond.code yX2_readDeed cX2_readDeed 2 (some .boolean) ∈ tb := it_27 _ (List.mem_of_getElem? (i := 17) rfl)
theorem m_27_18 : Cond.methodLink RX2 64 yX2_readCoinsOfAccount ∈ tb := it_27 _ (List.mem_of_getElem? (i := 18) rfl)
theorem m_27_19 : Cond.instanceMethod yX2_readCoinsOfAccount ∈ tb := it_27 _ (List.mem_of_getElem? (i := 19) rfl)
theorem m_27_2 : Cond.fieldLink RX11 133 "CoverDesk$DayReader" "second" "[I" ∈ tb := it_27 _ (List.mem_of_getElem? (i := 2) rfl)
theorem m_27_20 : Cond.selects RX2 yX2_readCoinsOfAccount yX2_readCoinsOfAccount ∈ tb := it_27 _ (List.mem_of_getElem? (i := 20) rfl)
theorem m_27_21 : Cond.code yX2_readCoinsOfAccount cX2_readCoinsOfAccount 1 (some .boolean) ∈ tb := it_27 _ (List.mem_of_getElem? (i := 21) rfl)
theorem m_27_22 : Cond.constant RX2 82 (100000000) ∈ tb := it_27 _ (List.mem_of_getElem? (i := 22) rfl)
theorem m_27_23 : Cond.fieldLink RX2 87 "CoverDesk$Tape" "lastNumber" "I" ∈ tb := it_27 _ (List.mem_of_getElem? (i := 23) rfl)
theorem m_27_3 : Cond.methodLink RX11 115 yX2_read ∈ tb := it_27 _ (List.mem_of_getElem? (i := 3) rfl)
theorem m_27_4 : Cond.instanceMethod yX2_read ∈ tb := it_27 _ (List.mem_of_getElem? (i := 4) rfl)
theorem m_27_5 : Cond.selects RX2 yX2_read yX2_read ∈ tb := it_27 _ (List.mem_of_getElem? (i := 5) rfl)
theorem m_27_6 : Cond.code yX2_read cX2_read 2 (some .boolean) ∈ tb := it_27 _ (List.mem_of_getElem? (i := 6) rfl)
theorem m_27_7 : Cond.fieldLink RX2 37 "CoverDesk$DayReader" "count" "I" ∈ tb := it_27 _ (List.mem_of_getElem? (i := 7) rfl)
theorem m_27_8 : Cond.fieldLink RX2 41 "CoverDesk$Tape" "sort" "I" ∈ tb := it_27 _ (List.mem_of_getElem? (i := 8) rfl)
theorem m_27_9 : Cond.fieldLink RX2 44 "CoverDesk$Tape" "word" "I" ∈ tb := it_27 _ (List.mem_of_getElem? (i := 9) rfl)
theorem m_28_0 : Cond.fieldLink RX2 90 "CoverDesk$Tape" "name" "J" ∈ tb := it_28 _ (List.mem_of_getElem? (i := 0) rfl)
theorem m_28_1 : Cond.methodLink RX2 79 yX9_step ∈ tb := it_28 _ (List.mem_of_getElem? (i := 1) rfl)
theorem m_28_10 : Cond.methodLink RX2 106 yX9_passWord ∈ tb := it_28 _ (List.mem_of_getElem? (i := 10) rfl)
theorem m_28_11 : Cond.methodLink RX2 70 yX2_readMonths ∈ tb := it_28 _ (List.mem_of_getElem? (i := 11) rfl)
theorem m_28_12 : Cond.instanceMethod yX2_readMonths ∈ tb := it_28 _ (List.mem_of_getElem? (i := 12) rfl)
theorem m_28_13 : Cond.selects RX2 yX2_readMonths yX2_readMonths ∈ tb := it_28 _ (List.mem_of_getElem? (i := 13) rfl)
theorem m_28_14 : Cond.code yX2_readMonths cX2_readMonths 1 (some .boolean) ∈ tb := it_28 _ (List.mem_of_getElem? (i := 14) rfl)
theorem m_28_15 : Cond.methodLink RX2 73 yX2_readPayment ∈ tb := it_28 _ (List.mem_of_getElem? (i := 15) rfl)
theorem m_28_16 : Cond.instanceMethod yX2_readPayment ∈ tb := it_28 _ (List.mem_of_getElem? (i := 16) rfl)
theorem m_28_17 : Cond.selects RX2 yX2_readPayment yX2_readPayment ∈ tb := it_28 _ (List.mem_of_getElem? (i := 17) rfl)
theorem m_28_18 : Cond.code yX2_readPayment cX2_readPayment 1 (some .boolean) ∈ tb := it_28 _ (List.mem_of_getElem? (i := 18) rfl)
theorem m_28_19 : Cond.methodLink RX2 76 yX2_readFailing ∈ tb := it_28 _ (List.mem_of_getElem? (i := 19) rfl)
theorem m_28_2 : Cond.methodLink RX2 83 yX9_passNumber ∈ tb := it_28 _ (List.mem_of_getElem? (i := 2) rfl)
theorem m_28_20 : Cond.instanceMethod yX2_readFailing ∈ tb := it_28 _ (List.mem_of_getElem? (i := 20) rfl)
theorem m_28_21 : Cond.selects RX2 yX2_readFailing yX2_readFailing ∈ tb := it_28 _ (List.mem_of_getElem? (i := 21) rfl)
theorem m_28_22 : Cond.code yX2_readFailing cX2_readFailing 1 (some .boolean) ∈ tb := it_28 _ (List.mem_of_getElem? (i := 22) rfl)
theorem m_28_23 : Cond.methodLink RX2 61 yX9_refuse ∈ tb := it_28 _ (List.mem_of_getElem? (i := 23) rfl)
theorem m_28_3 : Cond.methodLink RX2 94 yX10_accountNamed ∈ tb := it_28 _ (List.mem_of_getElem? (i := 3) rfl)
theorem m_28_4 : Cond.methodLink RX2 100 yX9_passKnown ∈ tb := it_28 _ (List.mem_of_getElem? (i := 4) rfl)
theorem m_28_5 : Cond.methodLink RX2 67 yX2_readMerger ∈ tb := it_28 _ (List.mem_of_getElem? (i := 5) rfl)
theorem m_28_6 : Cond.instanceMethod yX2_readMerger ∈ tb := it_28 _ (List.mem_of_getElem? (i := 6) rfl)
theorem m_28_7 : Cond.selects RX2 yX2_readMerger yX2_readMerger ∈ tb := it_28 _ (List.mem_of_getElem? (i := 7) rfl)
theorem m_28_8 : Cond.code yX2_readMerger cX2_readMerger 1 (some .boolean) ∈ tb := it_28 _ (List.mem_of_getElem? (i := 8) rfl)
theorem m_28_9 : Cond.methodLink RX2 103 yX10_bankNamed ∈ tb := it_28 _ (List.mem_of_getElem? (i := 9) rfl)
theorem m_29_0 : Cond.methodLink RX2 51 yX9_passSemicolon ∈ tb := it_29 _ (List.mem_of_getElem? (i := 0) rfl)
theorem m_29_1 : Cond.methodLink RX11 122 yX7_keep ∈ tb := it_29 _ (List.mem_of_getElem? (i := 1) rfl)
theorem m_29_10 : Cond.methodLink RX8 60 yX5_copy ∈ tb := it_29 _ (List.mem_of_getElem? (i := 10) rfl)
theorem m_29_11 : Cond.instanceMethod yX5_copy ∈ tb := it_29 _ (List.mem_of_getElem? (i := 11) rfl)
theorem m_29_12 : Cond.selects RX5 yX5_copy yX5_copy ∈ tb := it_29 _ (List.mem_of_getElem? (i := 12) rfl)
theorem m_29_13 : Cond.code yX5_copy cX5_copy 2 none ∈ tb := it_29 _ (List.mem_of_getElem? (i := 13) rfl)
theorem m_29_14 : Cond.methodLink RX5 45 arraycopyName ∈ tb := it_29 _ (List.mem_of_getElem? (i := 14) rfl)
theorem m_29_15 : Cond.methodLink RX11 136 yX3_act ∈ tb := it_29 _ (List.mem_of_getElem? (i := 15) rfl)
theorem m_29_16 : Cond.instanceMethod yX3_act ∈ tb := it_29 _ (List.mem_of_getElem? (i := 16) rfl)
theorem m_29_17 : Cond.selects RX3 yX3_act yX3_act ∈ tb := it_29 _ (List.mem_of_getElem? (i := 17) rfl)
theorem m_29_18 : Cond.code yX3_act cX3_act 4 (some .boolean) ∈ tb := it_29 _ (List.mem_of_getElem? (i := 18) rfl)
theorem m_29_19 : Cond.methodLink RX3 30 yX3_putCoins ∈ tb := it_29 _ (List.mem_of_getElem? (i := 19) rfl)
theorem m_29_2 : Cond.instanceMethod yX7_keep ∈ tb := it_29 _ (List.mem_of_getElem? (i := 2) rfl)
theorem m_29_20 : Cond.instanceMethod yX3_putCoins ∈ tb := it_29 _ (List.mem_of_getElem? (i := 20) rfl)
theorem m_29_21 : Cond.selects RX3 yX3_putCoins yX3_putCoins ∈ tb := it_29 _ (List.mem_of_getElem? (i := 21) rfl)
theorem m_29_22 : Cond.code yX3_putCoins cX3_putCoins 3 (some .boolean) ∈ tb := it_29 _ (List.mem_of_getElem? (i := 22) rfl)
theorem m_29_23 : Cond.fieldLink RX3 59 "CoverDesk$State" "coins" "[I" ∈ tb := it_29 _ (List.mem_of_getElem? (i := 23) rfl)
theorem m_29_3 : Cond.selects RX7 yX7_keep yX7_keep ∈ tb := it_29 _ (List.mem_of_getElem? (i := 3) rfl)
theorem m_29_4 : Cond.code yX7_keep cX7_keep 2 none ∈ tb := it_29 _ (List.mem_of_getElem? (i := 4) rfl)
theorem m_29_5 : Cond.fieldLink RX7 22 "CoverDesk$Past" "next" "I" ∈ tb := it_29 _ (List.mem_of_getElem? (i := 5) rfl)
theorem m_29_6 : Cond.methodLink RX7 25 yX8_copy ∈ tb := it_29 _ (List.mem_of_getElem? (i := 6) rfl)
theorem m_29_7 : Cond.instanceMethod yX8_copy ∈ tb := it_29 _ (List.mem_of_getElem? (i := 7) rfl)
theorem m_29_8 : Cond.selects RX8 yX8_copy yX8_copy ∈ tb := it_29 _ (List.mem_of_getElem? (i := 8) rfl)
theorem m_29_9 : Cond.code yX8_copy cX8_copy 2 none ∈ tb := it_29 _ (List.mem_of_getElem? (i := 9) rfl)
theorem m_2_10 : Cond.initialized RX2 ∈ tb := it_2 _ (List.mem_of_getElem? (i := 10) rfl)
theorem m_2_11 : Cond.fieldLink RX11 51 "CoverDesk" "dayReader" "LCoverDesk$DayReader;" ∈ tb := it_2 _ (List.mem_of_getElem? (i := 11) rfl)
theorem m_2_14 : Cond.initialized RX1 ∈ tb := it_2 _ (List.mem_of_getElem? (i := 14) rfl)
theorem m_2_15 : Cond.fieldLink RX11 60 "CoverDesk" "cover" "LCoverDesk$Cover;" ∈ tb := it_2 _ (List.mem_of_getElem? (i := 15) rfl)
theorem m_2_18 : Cond.initialized RX3 ∈ tb := it_2 _ (List.mem_of_getElem? (i := 18) rfl)
theorem m_2_19 : Cond.fieldLink RX11 69 "CoverDesk" "deeds" "LCoverDesk$Deeds;" ∈ tb := it_2 _ (List.mem_of_getElem? (i := 19) rfl)
theorem m_2_2 : Cond.initialized RX7 ∈ tb := it_2 _ (List.mem_of_getElem? (i := 2) rfl)
theorem m_2_22 : Cond.initialized RX6 ∈ tb := it_2 _ (List.mem_of_getElem? (i := 22) rfl)
theorem m_2_23 : Cond.fieldLink RX11 76 "CoverDesk" "moves" "LCoverDesk$Moves;" ∈ tb := it_2 _ (List.mem_of_getElem? (i := 23) rfl)
theorem m_2_3 : Cond.fieldLink RX11 33 "CoverDesk" "past" "LCoverDesk$Past;" ∈ tb := it_2 _ (List.mem_of_getElem? (i := 3) rfl)
theorem m_2_6 : Cond.initialized RX0 ∈ tb := it_2 _ (List.mem_of_getElem? (i := 6) rfl)
theorem m_2_7 : Cond.fieldLink RX11 42 "CoverDesk" "bookReader" "LCoverDesk$BookReader;" ∈ tb := it_2 _ (List.mem_of_getElem? (i := 7) rfl)
theorem m_30_0 : Cond.constant RX3 50 (100000000) ∈ tb := it_30 _ (List.mem_of_getElem? (i := 0) rfl)
theorem m_30_1 : Cond.fieldLink RX3 65 "CoverDesk$Told" "home" "[I" ∈ tb := it_30 _ (List.mem_of_getElem? (i := 1) rfl)
theorem m_30_10 : Cond.instanceMethod yX8_nowAt ∈ tb := it_30 _ (List.mem_of_getElem? (i := 10) rfl)
theorem m_30_11 : Cond.selects RX8 yX8_nowAt yX8_nowAt ∈ tb := it_30 _ (List.mem_of_getElem? (i := 11) rfl)
theorem m_30_12 : Cond.code yX8_nowAt cX8_nowAt 4 (some .int) ∈ tb := it_30 _ (List.mem_of_getElem? (i := 12) rfl)
theorem m_30_13 : Cond.methodLink RX8 64 yX8_isMerged ∈ tb := it_30 _ (List.mem_of_getElem? (i := 13) rfl)
theorem m_30_14 : Cond.instanceMethod yX8_isMerged ∈ tb := it_30 _ (List.mem_of_getElem? (i := 14) rfl)
theorem m_30_15 : Cond.selects RX8 yX8_isMerged yX8_isMerged ∈ tb := it_30 _ (List.mem_of_getElem? (i := 15) rfl)
theorem m_30_16 : Cond.code yX8_isMerged cX8_isMerged 2 (some .boolean) ∈ tb := it_30 _ (List.mem_of_getElem? (i := 16) rfl)
theorem m_30_17 : Cond.methodLink RX3 72 yX8_isOpen ∈ tb := it_30 _ (List.mem_of_getElem? (i := 17) rfl)
theorem m_30_18 : Cond.instanceMethod yX8_isOpen ∈ tb := it_30 _ (List.mem_of_getElem? (i := 18) rfl)
theorem m_30_19 : Cond.selects RX8 yX8_isOpen yX8_isOpen ∈ tb := it_30 _ (List.mem_of_getElem? (i := 19) rfl)
theorem m_30_2 : Cond.methodLink RX3 51 yX10_isAccount ∈ tb := it_30 _ (List.mem_of_getElem? (i := 2) rfl)
theorem m_30_20 : Cond.code yX8_isOpen cX8_isOpen 2 (some .boolean) ∈ tb := it_30 _ (List.mem_of_getElem? (i := 20) rfl)
theorem m_30_21 : Cond.methodLink RX3 34 yX3_takeCoins ∈ tb := it_30 _ (List.mem_of_getElem? (i := 21) rfl)
theorem m_30_22 : Cond.instanceMethod yX3_takeCoins ∈ tb := it_30 _ (List.mem_of_getElem? (i := 22) rfl)
theorem m_30_23 : Cond.selects RX3 yX3_takeCoins yX3_takeCoins ∈ tb := it_30 _ (List.mem_of_getElem? (i := 23) rfl)
theorem m_30_3 : Cond.instanceMethod yX10_isAccount ∈ tb := it_30 _ (List.mem_of_getElem? (i := 3) rfl)
theorem m_30_4 : Cond.selects RX10 yX10_isAccount yX10_isAccount ∈ tb := it_30 _ (List.mem_of_getElem? (i := 4) rfl)
theorem m_30_5 : Cond.code yX10_isAccount cX10_isAccount 2 (some .boolean) ∈ tb := it_30 _ (List.mem_of_getElem? (i := 5) rfl)
theorem m_30_6 : Cond.methodLink RX3 56 yX3_isAmount ∈ tb := it_30 _ (List.mem_of_getElem? (i := 6) rfl)
theorem m_30_7 : Cond.static yX3_isAmount ∈ tb := it_30 _ (List.mem_of_getElem? (i := 7) rfl)
theorem m_30_8 : Cond.code yX3_isAmount cX3_isAmount 1 (some .boolean) ∈ tb := it_30 _ (List.mem_of_getElem? (i := 8) rfl)
theorem m_30_9 : Cond.methodLink RX3 68 yX8_nowAt ∈ tb := it_30 _ (List.mem_of_getElem? (i := 9) rfl)
theorem m_31_0 : Cond.code yX3_takeCoins cX3_takeCoins 3 (some .boolean) ∈ tb := it_31 _ (List.mem_of_getElem? (i := 0) rfl)
theorem m_31_1 : Cond.methodLink RX3 37 yX3_mergeBanks ∈ tb := it_31 _ (List.mem_of_getElem? (i := 1) rfl)
theorem m_31_10 : Cond.selects RX10 yX10_isBank yX10_isBank ∈ tb := it_31 _ (List.mem_of_getElem? (i := 10) rfl)
theorem m_31_11 : Cond.code yX10_isBank cX10_isBank 2 (some .boolean) ∈ tb := it_31 _ (List.mem_of_getElem? (i := 11) rfl)
theorem m_31_12 : Cond.methodLink RX3 40 yX3_passMonths ∈ tb := it_31 _ (List.mem_of_getElem? (i := 12) rfl)
theorem m_31_13 : Cond.instanceMethod yX3_passMonths ∈ tb := it_31 _ (List.mem_of_getElem? (i := 13) rfl)
theorem m_31_14 : Cond.selects RX3 yX3_passMonths yX3_passMonths ∈ tb := it_31 _ (List.mem_of_getElem? (i := 14) rfl)
theorem m_31_15 : Cond.code yX3_passMonths cX3_passMonths 2 (some .boolean) ∈ tb := it_31 _ (List.mem_of_getElem? (i := 15) rfl)
theorem m_31_16 : Cond.methodLink RX3 44 yX3_payLoan ∈ tb := it_31 _ (List.mem_of_getElem? (i := 16) rfl)
theorem m_31_17 : Cond.instanceMethod yX3_payLoan ∈ tb := it_31 _ (List.mem_of_getElem? (i := 17) rfl)
theorem m_31_18 : Cond.selects RX3 yX3_payLoan yX3_payLoan ∈ tb := it_31 _ (List.mem_of_getElem? (i := 18) rfl)
theorem m_31_19 : Cond.code yX3_payLoan cX3_payLoan 3 (some .boolean) ∈ tb := it_31 _ (List.mem_of_getElem? (i := 19) rfl)
theorem m_31_2 : Cond.instanceMethod yX3_mergeBanks ∈ tb := it_31 _ (List.mem_of_getElem? (i := 2) rfl)
theorem m_31_20 : Cond.fieldLink RX3 91 "CoverDesk$State" "owed" "[I" ∈ tb := it_31 _ (List.mem_of_getElem? (i := 20) rfl)
theorem m_31_21 : Cond.methodLink RX3 88 yX10_isLoan ∈ tb := it_31 _ (List.mem_of_getElem? (i := 21) rfl)
theorem m_31_22 : Cond.instanceMethod yX10_isLoan ∈ tb := it_31 _ (List.mem_of_getElem? (i := 22) rfl)
theorem m_31_23 : Cond.selects RX10 yX10_isLoan yX10_isLoan ∈ tb := it_31 _ (List.mem_of_getElem? (i := 23) rfl)
theorem m_31_3 : Cond.selects RX3 yX3_mergeBanks yX3_mergeBanks ∈ tb := it_31 _ (List.mem_of_getElem? (i := 3) rfl)
theorem m_31_4 : Cond.code yX3_mergeBanks cX3_mergeBanks 3 (some .boolean) ∈ tb := it_31 _ (List.mem_of_getElem? (i := 4) rfl)
theorem m_31_5 : Cond.fieldLink RX3 78 "CoverDesk$State" "into" "[I" ∈ tb := it_31 _ (List.mem_of_getElem? (i := 5) rfl)
theorem m_31_6 : Cond.fieldLink RX3 81 "CoverDesk$State" "since" "[I" ∈ tb := it_31 _ (List.mem_of_getElem? (i := 6) rfl)
theorem m_31_7 : Cond.fieldLink RX3 84 "CoverDesk$State" "month" "I" ∈ tb := it_31 _ (List.mem_of_getElem? (i := 7) rfl)
theorem m_31_8 : Cond.methodLink RX3 75 yX10_isBank ∈ tb := it_31 _ (List.mem_of_getElem? (i := 8) rfl)
theorem m_31_9 : Cond.instanceMethod yX10_isBank ∈ tb := it_31 _ (List.mem_of_getElem? (i := 9) rfl)
theorem m_32_0 : Cond.code yX10_isLoan cX10_isLoan 2 (some .boolean) ∈ tb := it_32 _ (List.mem_of_getElem? (i := 0) rfl)
theorem m_32_1 : Cond.methodLink RX3 47 yX3_failBank ∈ tb := it_32 _ (List.mem_of_getElem? (i := 1) rfl)
theorem m_32_10 : Cond.methodLink RX3 94 yX1_insure ∈ tb := it_32 _ (List.mem_of_getElem? (i := 10) rfl)
theorem m_32_11 : Cond.instanceMethod yX1_insure ∈ tb := it_32 _ (List.mem_of_getElem? (i := 11) rfl)
theorem m_32_12 : Cond.selects RX1 yX1_insure yX1_insure ∈ tb := it_32 _ (List.mem_of_getElem? (i := 12) rfl)
theorem m_32_13 : Cond.code yX1_insure cX1_insure 4 none ∈ tb := it_32 _ (List.mem_of_getElem? (i := 13) rfl)
theorem m_32_14 : Cond.fieldLink RX1 82 "CoverDesk$Told" "accounts" "I" ∈ tb := it_32 _ (List.mem_of_getElem? (i := 14) rfl)
theorem m_32_15 : Cond.fieldLink RX1 40 "CoverDesk$Told" "owners" "[I" ∈ tb := it_32 _ (List.mem_of_getElem? (i := 15) rfl)
theorem m_32_16 : Cond.fieldLink RX1 139 "CoverDesk$Told" "owner" "[I" ∈ tb := it_32 _ (List.mem_of_getElem? (i := 16) rfl)
theorem m_32_17 : Cond.fieldLink RX1 91 "CoverDesk$Told" "kind" "[I" ∈ tb := it_32 _ (List.mem_of_getElem? (i := 17) rfl)
theorem m_32_18 : Cond.methodLink RX1 129 yX1_setMonth ∈ tb := it_32 _ (List.mem_of_getElem? (i := 18) rfl)
theorem m_32_19 : Cond.instanceMethod yX1_setMonth ∈ tb := it_32 _ (List.mem_of_getElem? (i := 19) rfl)
theorem m_32_2 : Cond.instanceMethod yX3_failBank ∈ tb := it_32 _ (List.mem_of_getElem? (i := 2) rfl)
theorem m_32_20 : Cond.selects RX1 yX1_setMonth yX1_setMonth ∈ tb := it_32 _ (List.mem_of_getElem? (i := 20) rfl)
theorem m_32_21 : Cond.code yX1_setMonth cX1_setMonth 3 none ∈ tb := it_32 _ (List.mem_of_getElem? (i := 21) rfl)
theorem m_32_22 : Cond.methodLink RX1 79 yX1_countedAt ∈ tb := it_32 _ (List.mem_of_getElem? (i := 22) rfl)
theorem m_32_23 : Cond.instanceMethod yX1_countedAt ∈ tb := it_32 _ (List.mem_of_getElem? (i := 23) rfl)
theorem m_32_3 : Cond.selects RX3 yX3_failBank yX3_failBank ∈ tb := it_32 _ (List.mem_of_getElem? (i := 3) rfl)
theorem m_32_4 : Cond.code yX3_failBank cX3_failBank 4 (some .boolean) ∈ tb := it_32 _ (List.mem_of_getElem? (i := 4) rfl)
theorem m_32_5 : Cond.fieldLink RX3 100 "CoverDesk$State" "failing" "LCoverDesk$Failing;" ∈ tb := it_32 _ (List.mem_of_getElem? (i := 5) rfl)
theorem m_32_6 : Cond.fieldLink RX3 108 "CoverDesk$Failing" "owed" "[I" ∈ tb := it_32 _ (List.mem_of_getElem? (i := 6) rfl)
theorem m_32_7 : Cond.methodLink RX3 111 arraycopyName ∈ tb := it_32 _ (List.mem_of_getElem? (i := 7) rfl)
theorem m_32_8 : Cond.fieldLink RX3 117 "CoverDesk$Told" "accounts" "I" ∈ tb := it_32 _ (List.mem_of_getElem? (i := 8) rfl)
theorem m_32_9 : Cond.fieldLink RX3 120 "CoverDesk$State" "failed" "[I" ∈ tb := it_32 _ (List.mem_of_getElem? (i := 9) rfl)
theorem m_33_0 : Cond.selects RX1 yX1_countedAt yX1_countedAt ∈ tb := it_33 _ (List.mem_of_getElem? (i := 0) rfl)
theorem m_33_1 : Cond.code yX1_countedAt cX1_countedAt 5 (some .int) ∈ tb := it_33 _ (List.mem_of_getElem? (i := 1) rfl)
theorem m_33_10 : Cond.fieldLink RX1 53 "CoverDesk$Told" "grace" "I" ∈ tb := it_33 _ (List.mem_of_getElem? (i := 10) rfl)
theorem m_33_11 : Cond.fieldLink RX1 57 "CoverDesk$Told" "term" "[I" ∈ tb := it_33 _ (List.mem_of_getElem? (i := 11) rfl)
theorem m_33_12 : Cond.methodLink RX1 60 Lib.Math.max.name ∈ tb := it_33 _ (List.mem_of_getElem? (i := 12) rfl)
theorem m_33_16 : Cond.methodLink RX1 133 yJ7_fill_53178 ∈ tb := it_33 _ (List.mem_of_getElem? (i := 16) rfl)
theorem m_33_17 : Cond.methodLink RX1 142 yX1_insureGroup ∈ tb := it_33 _ (List.mem_of_getElem? (i := 17) rfl)
theorem m_33_18 : Cond.instanceMethod yX1_insureGroup ∈ tb := it_33 _ (List.mem_of_getElem? (i := 18) rfl)
theorem m_33_19 : Cond.selects RX1 yX1_insureGroup yX1_insureGroup ∈ tb := it_33 _ (List.mem_of_getElem? (i := 19) rfl)
theorem m_33_2 : Cond.fieldLink RX1 66 "CoverDesk$Told" "home" "[I" ∈ tb := it_33 _ (List.mem_of_getElem? (i := 2) rfl)
theorem m_33_20 : Cond.code yX1_insureGroup cX1_insureGroup 5 none ∈ tb := it_33 _ (List.mem_of_getElem? (i := 20) rfl)
theorem m_33_21 : Cond.fieldLink RX1 97 "CoverDesk$Division" "count" "I" ∈ tb := it_33 _ (List.mem_of_getElem? (i := 21) rfl)
theorem m_33_22 : Cond.fieldLink RX1 156 "CoverDesk$Division" "got" "[J" ∈ tb := it_33 _ (List.mem_of_getElem? (i := 22) rfl)
theorem m_33_23 : Cond.methodLink RX1 146 yX1_gather ∈ tb := it_33 _ (List.mem_of_getElem? (i := 23) rfl)
theorem m_33_3 : Cond.fieldLink RX1 76 "CoverDesk$State" "into" "[I" ∈ tb := it_33 _ (List.mem_of_getElem? (i := 3) rfl)
theorem m_33_4 : Cond.methodLink RX1 69 yX8_isMerged ∈ tb := it_33 _ (List.mem_of_getElem? (i := 4) rfl)
theorem m_33_5 : Cond.methodLink RX1 73 yX1_endOf ∈ tb := it_33 _ (List.mem_of_getElem? (i := 5) rfl)
theorem m_33_6 : Cond.instanceMethod yX1_endOf ∈ tb := it_33 _ (List.mem_of_getElem? (i := 6) rfl)
theorem m_33_7 : Cond.selects RX1 yX1_endOf yX1_endOf ∈ tb := it_33 _ (List.mem_of_getElem? (i := 7) rfl)
theorem m_33_8 : Cond.code yX1_endOf cX1_endOf 5 (some .int) ∈ tb := it_33 _ (List.mem_of_getElem? (i := 8) rfl)
theorem m_33_9 : Cond.fieldLink RX1 50 "CoverDesk$State" "since" "[I" ∈ tb := it_33 _ (List.mem_of_getElem? (i := 9) rfl)
theorem m_34_0 : Cond.instanceMethod yX1_gather ∈ tb := it_34 _ (List.mem_of_getElem? (i := 0) rfl)
theorem m_34_1 : Cond.selects RX1 yX1_gather yX1_gather ∈ tb := it_34 _ (List.mem_of_getElem? (i := 1) rfl)
theorem m_34_10 : Cond.methodLink RX1 100 yX1_share ∈ tb := it_34 _ (List.mem_of_getElem? (i := 10) rfl)
theorem m_34_11 : Cond.instanceMethod yX1_share ∈ tb := it_34 _ (List.mem_of_getElem? (i := 11) rfl)
theorem m_34_12 : Cond.selects RX1 yX1_share yX1_share ∈ tb := it_34 _ (List.mem_of_getElem? (i := 12) rfl)
theorem m_34_13 : Cond.code yX1_share cX1_share 5 (some .int) ∈ tb := it_34 _ (List.mem_of_getElem? (i := 13) rfl)
theorem m_34_14 : Cond.fieldLink RX1 45 "CoverDesk$State" "coins" "[I" ∈ tb := it_34 _ (List.mem_of_getElem? (i := 14) rfl)
theorem m_34_15 : Cond.methodLink RX1 103 yX4_add ∈ tb := it_34 _ (List.mem_of_getElem? (i := 15) rfl)
theorem m_34_16 : Cond.instanceMethod yX4_add ∈ tb := it_34 _ (List.mem_of_getElem? (i := 16) rfl)
theorem m_34_17 : Cond.selects RX4 yX4_add yX4_add ∈ tb := it_34 _ (List.mem_of_getElem? (i := 17) rfl)
theorem m_34_18 : Cond.code yX4_add cX4_add 3 none ∈ tb := it_34 _ (List.mem_of_getElem? (i := 18) rfl)
theorem m_34_19 : Cond.methodLink RX1 149 yX1_most ∈ tb := it_34 _ (List.mem_of_getElem? (i := 19) rfl)
theorem m_34_2 : Cond.code yX1_gather cX1_gather 6 none ∈ tb := it_34 _ (List.mem_of_getElem? (i := 2) rfl)
theorem m_34_20 : Cond.instanceMethod yX1_most ∈ tb := it_34 _ (List.mem_of_getElem? (i := 20) rfl)
theorem m_34_21 : Cond.selects RX1 yX1_most yX1_most ∈ tb := it_34 _ (List.mem_of_getElem? (i := 21) rfl)
theorem m_34_22 : Cond.code yX1_most cX1_most 3 (some .long) ∈ tb := it_34 _ (List.mem_of_getElem? (i := 22) rfl)
theorem m_34_23 : Cond.fieldLink RX1 107 "CoverDesk$Told" "limit" "I" ∈ tb := it_34 _ (List.mem_of_getElem? (i := 23) rfl)
theorem m_34_3 : Cond.methodLink RX1 88 yX4_clear ∈ tb := it_34 _ (List.mem_of_getElem? (i := 3) rfl)
theorem m_34_4 : Cond.instanceMethod yX4_clear ∈ tb := it_34 _ (List.mem_of_getElem? (i := 4) rfl)
theorem m_34_5 : Cond.selects RX4 yX4_clear yX4_clear ∈ tb := it_34 _ (List.mem_of_getElem? (i := 5) rfl)
theorem m_34_6 : Cond.code yX4_clear cX4_clear 1 none ∈ tb := it_34 _ (List.mem_of_getElem? (i := 6) rfl)
theorem m_34_7 : Cond.fieldLink RX4 21 "CoverDesk$Division" "count" "I" ∈ tb := it_34 _ (List.mem_of_getElem? (i := 7) rfl)
theorem m_34_8 : Cond.fieldLink RX4 25 "CoverDesk$Division" "sum" "J" ∈ tb := it_34 _ (List.mem_of_getElem? (i := 8) rfl)
theorem m_34_9 : Cond.methodLink RX1 94 yX10_ownerOf ∈ tb := it_34 _ (List.mem_of_getElem? (i := 9) rfl)
theorem m_35_0 : Cond.methodLink RX1 110 yX1_unlikeHeirs ∈ tb := it_35 _ (List.mem_of_getElem? (i := 0) rfl)
theorem m_35_1 : Cond.instanceMethod yX1_unlikeHeirs ∈ tb := it_35 _ (List.mem_of_getElem? (i := 1) rfl)
theorem m_35_10 : Cond.code yX10_isPerson cX10_isPerson 2 (some .boolean) ∈ tb := it_35 _ (List.mem_of_getElem? (i := 10) rfl)
theorem m_35_11 : Cond.methodLink RX1 125 yX1_isAmongHeirs ∈ tb := it_35 _ (List.mem_of_getElem? (i := 11) rfl)
theorem m_35_12 : Cond.instanceMethod yX1_isAmongHeirs ∈ tb := it_35 _ (List.mem_of_getElem? (i := 12) rfl)
theorem m_35_13 : Cond.selects RX1 yX1_isAmongHeirs yX1_isAmongHeirs ∈ tb := it_35 _ (List.mem_of_getElem? (i := 13) rfl)
theorem m_35_14 : Cond.code yX1_isAmongHeirs cX1_isAmongHeirs 5 (some .boolean) ∈ tb := it_35 _ (List.mem_of_getElem? (i := 14) rfl)
theorem m_35_15 : Cond.methodLink RX1 153 yX4_divide ∈ tb := it_35 _ (List.mem_of_getElem? (i := 15) rfl)
theorem m_35_16 : Cond.instanceMethod yX4_divide ∈ tb := it_35 _ (List.mem_of_getElem? (i := 16) rfl)
theorem m_35_17 : Cond.selects RX4 yX4_divide yX4_divide ∈ tb := it_35 _ (List.mem_of_getElem? (i := 17) rfl)
theorem m_35_18 : Cond.code yX4_divide cX4_divide 8 none ∈ tb := it_35 _ (List.mem_of_getElem? (i := 18) rfl)
theorem m_35_19 : Cond.methodLink RX4 29 arraycopyName ∈ tb := it_35 _ (List.mem_of_getElem? (i := 19) rfl)
theorem m_35_2 : Cond.selects RX1 yX1_unlikeHeirs yX1_unlikeHeirs ∈ tb := it_35 _ (List.mem_of_getElem? (i := 2) rfl)
theorem m_35_20 : Cond.constantLong RX4 39 (-1) ∈ tb := it_35 _ (List.mem_of_getElem? (i := 20) rfl)
theorem m_35_21 : Cond.methodLink RX4 35 yX4_greatestRest ∈ tb := it_35 _ (List.mem_of_getElem? (i := 21) rfl)
theorem m_35_22 : Cond.instanceMethod yX4_greatestRest ∈ tb := it_35 _ (List.mem_of_getElem? (i := 22) rfl)
theorem m_35_23 : Cond.selects RX4 yX4_greatestRest yX4_greatestRest ∈ tb := it_35 _ (List.mem_of_getElem? (i := 23) rfl)
theorem m_35_3 : Cond.code yX1_unlikeHeirs cX1_unlikeHeirs 10 (some .int) ∈ tb := it_35 _ (List.mem_of_getElem? (i := 3) rfl)
theorem m_35_4 : Cond.fieldLink RX1 117 "CoverDesk$Told" "personName" "[J" ∈ tb := it_35 _ (List.mem_of_getElem? (i := 4) rfl)
theorem m_35_5 : Cond.fieldLink RX1 120 "CoverDesk$Told" "heirs" "[I" ∈ tb := it_35 _ (List.mem_of_getElem? (i := 5) rfl)
theorem m_35_6 : Cond.fieldLink RX1 122 "CoverDesk$Told" "heir" "[J" ∈ tb := it_35 _ (List.mem_of_getElem? (i := 6) rfl)
theorem m_35_7 : Cond.methodLink RX1 114 yX10_isPerson ∈ tb := it_35 _ (List.mem_of_getElem? (i := 7) rfl)
theorem m_35_8 : Cond.instanceMethod yX10_isPerson ∈ tb := it_35 _ (List.mem_of_getElem? (i := 8) rfl)
theorem m_35_9 : Cond.selects RX10 yX10_isPerson yX10_isPerson ∈ tb := it_35 _ (List.mem_of_getElem? (i := 9) rfl)
theorem m_36_0 : Cond.code yX4_greatestRest cX4_greatestRest 3 (some .int) ∈ tb := it_36 _ (List.mem_of_getElem? (i := 0) rfl)
theorem m_36_1 : Cond.methodLink RX3 104 yX3_windUp ∈ tb := it_36 _ (List.mem_of_getElem? (i := 1) rfl)
theorem m_36_10 : Cond.methodLink RX3 123 yX5_clear ∈ tb := it_36 _ (List.mem_of_getElem? (i := 10) rfl)
theorem m_36_11 : Cond.methodLink RX3 126 yX3_split ∈ tb := it_36 _ (List.mem_of_getElem? (i := 11) rfl)
theorem m_36_12 : Cond.instanceMethod yX3_split ∈ tb := it_36 _ (List.mem_of_getElem? (i := 12) rfl)
theorem m_36_13 : Cond.selects RX3 yX3_split yX3_split ∈ tb := it_36 _ (List.mem_of_getElem? (i := 13) rfl)
theorem m_36_14 : Cond.code yX3_split cX3_split 5 none ∈ tb := it_36 _ (List.mem_of_getElem? (i := 14) rfl)
theorem m_36_15 : Cond.fieldLink RX3 153 "CoverDesk$Failing" "bank" "I" ∈ tb := it_36 _ (List.mem_of_getElem? (i := 15) rfl)
theorem m_36_16 : Cond.fieldLink RX3 156 "CoverDesk$Told" "owners" "[I" ∈ tb := it_36 _ (List.mem_of_getElem? (i := 16) rfl)
theorem m_36_17 : Cond.fieldLink RX3 159 "CoverDesk$Failing" "setOff" "[I" ∈ tb := it_36 _ (List.mem_of_getElem? (i := 17) rfl)
theorem m_36_18 : Cond.fieldLink RX3 161 "CoverDesk$Cover" "insured" "[I" ∈ tb := it_36 _ (List.mem_of_getElem? (i := 18) rfl)
theorem m_36_19 : Cond.fieldLink RX3 164 "CoverDesk$Failing" "divided" "[I" ∈ tb := it_36 _ (List.mem_of_getElem? (i := 19) rfl)
theorem m_36_2 : Cond.instanceMethod yX3_windUp ∈ tb := it_36 _ (List.mem_of_getElem? (i := 2) rfl)
theorem m_36_20 : Cond.methodLink RX3 167 yX1_share ∈ tb := it_36 _ (List.mem_of_getElem? (i := 20) rfl)
theorem m_36_21 : Cond.methodLink RX3 142 yX3_setOff ∈ tb := it_36 _ (List.mem_of_getElem? (i := 21) rfl)
theorem m_36_22 : Cond.instanceMethod yX3_setOff ∈ tb := it_36 _ (List.mem_of_getElem? (i := 22) rfl)
theorem m_36_23 : Cond.selects RX3 yX3_setOff yX3_setOff ∈ tb := it_36 _ (List.mem_of_getElem? (i := 23) rfl)
theorem m_36_3 : Cond.selects RX3 yX3_windUp yX3_windUp ∈ tb := it_36 _ (List.mem_of_getElem? (i := 3) rfl)
theorem m_36_4 : Cond.code yX3_windUp cX3_windUp 6 none ∈ tb := it_36 _ (List.mem_of_getElem? (i := 4) rfl)
theorem m_36_5 : Cond.fieldLink RX3 130 "CoverDesk$Told" "loans" "I" ∈ tb := it_36 _ (List.mem_of_getElem? (i := 5) rfl)
theorem m_36_6 : Cond.fieldLink RX3 133 "CoverDesk$Told" "loanBank" "[I" ∈ tb := it_36 _ (List.mem_of_getElem? (i := 6) rfl)
theorem m_36_7 : Cond.fieldLink RX3 136 "CoverDesk$Failing" "lost" "[I" ∈ tb := it_36 _ (List.mem_of_getElem? (i := 7) rfl)
theorem m_36_8 : Cond.fieldLink RX3 139 "CoverDesk$Told" "loanPerson" "[I" ∈ tb := it_36 _ (List.mem_of_getElem? (i := 8) rfl)
theorem m_36_9 : Cond.fieldLink RX3 146 "CoverDesk$Failing" "paid" "[I" ∈ tb := it_36 _ (List.mem_of_getElem? (i := 9) rfl)
theorem m_37_0 : Cond.code yX3_setOff cX3_setOff 10 (some .int) ∈ tb := it_37 _ (List.mem_of_getElem? (i := 0) rfl)
theorem m_37_1 : Cond.methodLink RX3 174 Lib.Math.min.name ∈ tb := it_37 _ (List.mem_of_getElem? (i := 1) rfl)
theorem m_37_10 : Cond.fieldLink RX3 195 "CoverDesk$Failing" "dividedToLast" "J" ∈ tb := it_37 _ (List.mem_of_getElem? (i := 10) rfl)
theorem m_37_11 : Cond.methodLink RX3 179 yX4_clear ∈ tb := it_37 _ (List.mem_of_getElem? (i := 11) rfl)
theorem m_37_12 : Cond.methodLink RX3 181 yX4_add ∈ tb := it_37 _ (List.mem_of_getElem? (i := 12) rfl)
theorem m_37_13 : Cond.methodLink RX3 185 yX5_all ∈ tb := it_37 _ (List.mem_of_getElem? (i := 13) rfl)
theorem m_37_14 : Cond.instanceMethod yX5_all ∈ tb := it_37 _ (List.mem_of_getElem? (i := 14) rfl)
theorem m_37_15 : Cond.selects RX5 yX5_all yX5_all ∈ tb := it_37 _ (List.mem_of_getElem? (i := 15) rfl)
theorem m_37_16 : Cond.code yX5_all cX5_all 6 (some .long) ∈ tb := it_37 _ (List.mem_of_getElem? (i := 16) rfl)
theorem m_37_17 : Cond.methodLink RX5 51 yX5_row ∈ tb := it_37 _ (List.mem_of_getElem? (i := 17) rfl)
theorem m_37_18 : Cond.instanceMethod yX5_row ∈ tb := it_37 _ (List.mem_of_getElem? (i := 18) rfl)
theorem m_37_19 : Cond.selects RX5 yX5_row yX5_row ∈ tb := it_37 _ (List.mem_of_getElem? (i := 19) rfl)
theorem m_37_20 : Cond.code yX5_row cX5_row 2 (some (.array .int)) ∈ tb := it_37 _ (List.mem_of_getElem? (i := 20) rfl)
theorem m_37_21 : Cond.methodLink RX3 189 yX4_divide ∈ tb := it_37 _ (List.mem_of_getElem? (i := 21) rfl)
theorem m_37_22 : Cond.methodLink RX11 140 yX7_confirm ∈ tb := it_37 _ (List.mem_of_getElem? (i := 22) rfl)
theorem m_37_23 : Cond.instanceMethod yX7_confirm ∈ tb := it_37 _ (List.mem_of_getElem? (i := 23) rfl)
theorem m_37_4 : Cond.methodLink RX3 171 yX10_ownerOf ∈ tb := it_37 _ (List.mem_of_getElem? (i := 4) rfl)
theorem m_37_5 : Cond.methodLink RX3 149 yX3_divide ∈ tb := it_37 _ (List.mem_of_getElem? (i := 5) rfl)
theorem m_37_6 : Cond.instanceMethod yX3_divide ∈ tb := it_37 _ (List.mem_of_getElem? (i := 6) rfl)
theorem m_37_7 : Cond.selects RX3 yX3_divide yX3_divide ∈ tb := it_37 _ (List.mem_of_getElem? (i := 7) rfl)
theorem m_37_8 : Cond.code yX3_divide cX3_divide 5 none ∈ tb := it_37 _ (List.mem_of_getElem? (i := 8) rfl)
theorem m_37_9 : Cond.fieldLink RX3 191 "CoverDesk$Division" "got" "[J" ∈ tb := it_37 _ (List.mem_of_getElem? (i := 9) rfl)
theorem m_38_0 : Cond.selects RX7 yX7_confirm yX7_confirm ∈ tb := it_38 _ (List.mem_of_getElem? (i := 0) rfl)
theorem m_38_1 : Cond.code yX7_confirm cX7_confirm 2 (some .boolean) ∈ tb := it_38 _ (List.mem_of_getElem? (i := 1) rfl)
theorem m_38_10 : Cond.instanceMethod yX12_readDeed ∈ tb := it_38 _ (List.mem_of_getElem? (i := 10) rfl)
theorem m_38_11 : Cond.selects RX12 yX12_readDeed yX12_readDeed ∈ tb := it_38 _ (List.mem_of_getElem? (i := 11) rfl)
theorem m_38_12 : Cond.code yX12_readDeed cX12_readDeed 3 (some .boolean) ∈ tb := it_38 _ (List.mem_of_getElem? (i := 12) rfl)
theorem m_38_13 : Cond.methodLink RX12 419 yX12_readBank ∈ tb := it_38 _ (List.mem_of_getElem? (i := 13) rfl)
theorem m_38_14 : Cond.instanceMethod yX12_readBank ∈ tb := it_38 _ (List.mem_of_getElem? (i := 14) rfl)
theorem m_38_15 : Cond.selects RX12 yX12_readBank yX12_readBank ∈ tb := it_38 _ (List.mem_of_getElem? (i := 15) rfl)
theorem m_38_16 : Cond.code yX12_readBank cX12_readBank 1 (some .boolean) ∈ tb := it_38 _ (List.mem_of_getElem? (i := 16) rfl)
theorem m_38_17 : Cond.methodLink RX12 422 yX12_lays ∈ tb := it_38 _ (List.mem_of_getElem? (i := 17) rfl)
theorem m_38_18 : Cond.instanceMethod yX12_lays ∈ tb := it_38 _ (List.mem_of_getElem? (i := 18) rfl)
theorem m_38_19 : Cond.selects RX12 yX12_lays yX12_lays ∈ tb := it_38 _ (List.mem_of_getElem? (i := 19) rfl)
theorem m_38_2 : Cond.methodLink RX7 29 Lib.Math.min.name ∈ tb := it_38 _ (List.mem_of_getElem? (i := 2) rfl)
theorem m_38_20 : Cond.code yX12_lays cX12_lays 3 (some .boolean) ∈ tb := it_38 _ (List.mem_of_getElem? (i := 20) rfl)
theorem m_38_21 : Cond.methodLink RX12 426 yX12_readHere ∈ tb := it_38 _ (List.mem_of_getElem? (i := 21) rfl)
theorem m_38_22 : Cond.instanceMethod yX12_readHere ∈ tb := it_38 _ (List.mem_of_getElem? (i := 22) rfl)
theorem m_38_23 : Cond.selects RX12 yX12_readHere yX12_readHere ∈ tb := it_38 _ (List.mem_of_getElem? (i := 23) rfl)
theorem m_38_7 : Cond.fieldLink RX12 416 "CoverDeskModel" "deeds" "I" ∈ tb := it_38 _ (List.mem_of_getElem? (i := 7) rfl)
theorem m_38_8 : Cond.fieldLink RX12 432 "CoverDeskModel" "deedsTold" "I" ∈ tb := it_38 _ (List.mem_of_getElem? (i := 8) rfl)
theorem m_38_9 : Cond.methodLink RX12 429 yX12_readDeed ∈ tb := it_38 _ (List.mem_of_getElem? (i := 9) rfl)
theorem m_39_0 : Cond.code yX12_readHere cX12_readHere 1 (some .boolean) ∈ tb := it_39 _ (List.mem_of_getElem? (i := 0) rfl)
theorem m_39_1 : Cond.methodLink RX12 390 yX12_laysAside ∈ tb := it_39 _ (List.mem_of_getElem? (i := 1) rfl)
theorem m_39_10 : Cond.instanceMethod yX12_puts ∈ tb := it_39 _ (List.mem_of_getElem? (i := 10) rfl)
theorem m_39_11 : Cond.selects RX12 yX12_puts yX12_puts ∈ tb := it_39 _ (List.mem_of_getElem? (i := 11) rfl)
theorem m_39_12 : Cond.code yX12_puts cX12_puts 3 (some .boolean) ∈ tb := it_39 _ (List.mem_of_getElem? (i := 12) rfl)
theorem m_39_13 : Cond.constant RX12 365 (100000000) ∈ tb := it_39 _ (List.mem_of_getElem? (i := 13) rfl)
theorem m_39_14 : Cond.methodLink RX12 362 yX12_isAccount ∈ tb := it_39 _ (List.mem_of_getElem? (i := 14) rfl)
theorem m_39_15 : Cond.instanceMethod yX12_isAccount ∈ tb := it_39 _ (List.mem_of_getElem? (i := 15) rfl)
theorem m_39_16 : Cond.selects RX12 yX12_isAccount yX12_isAccount ∈ tb := it_39 _ (List.mem_of_getElem? (i := 16) rfl)
theorem m_39_17 : Cond.code yX12_isAccount cX12_isAccount 2 (some .boolean) ∈ tb := it_39 _ (List.mem_of_getElem? (i := 17) rfl)
theorem m_39_18 : Cond.methodLink RX12 366 yX12_nowAt ∈ tb := it_39 _ (List.mem_of_getElem? (i := 18) rfl)
theorem m_39_19 : Cond.instanceMethod yX12_nowAt ∈ tb := it_39 _ (List.mem_of_getElem? (i := 19) rfl)
theorem m_39_2 : Cond.instanceMethod yX12_laysAside ∈ tb := it_39 _ (List.mem_of_getElem? (i := 2) rfl)
theorem m_39_20 : Cond.selects RX12 yX12_nowAt yX12_nowAt ∈ tb := it_39 _ (List.mem_of_getElem? (i := 20) rfl)
theorem m_39_21 : Cond.code yX12_nowAt cX12_nowAt 3 (some .int) ∈ tb := it_39 _ (List.mem_of_getElem? (i := 21) rfl)
theorem m_39_22 : Cond.methodLink RX12 401 yX12_takesFrom ∈ tb := it_39 _ (List.mem_of_getElem? (i := 22) rfl)
theorem m_39_23 : Cond.instanceMethod yX12_takesFrom ∈ tb := it_39 _ (List.mem_of_getElem? (i := 23) rfl)
theorem m_39_3 : Cond.selects RX12 yX12_laysAside yX12_laysAside ∈ tb := it_39 _ (List.mem_of_getElem? (i := 3) rfl)
theorem m_39_4 : Cond.code yX12_laysAside cX12_laysAside 2 none ∈ tb := it_39 _ (List.mem_of_getElem? (i := 4) rfl)
theorem m_39_5 : Cond.methodLink RX12 435 yX12_does ∈ tb := it_39 _ (List.mem_of_getElem? (i := 5) rfl)
theorem m_39_6 : Cond.instanceMethod yX12_does ∈ tb := it_39 _ (List.mem_of_getElem? (i := 6) rfl)
theorem m_39_7 : Cond.selects RX12 yX12_does yX12_does ∈ tb := it_39 _ (List.mem_of_getElem? (i := 7) rfl)
theorem m_39_8 : Cond.code yX12_does cX12_does 4 (some .boolean) ∈ tb := it_39 _ (List.mem_of_getElem? (i := 8) rfl)
theorem m_39_9 : Cond.methodLink RX12 393 yX12_puts ∈ tb := it_39 _ (List.mem_of_getElem? (i := 9) rfl)
theorem m_3_13 : Cond.constant RX10 9 (250000) ∈ tb := it_3 _ (List.mem_of_getElem? (i := 13) rfl)
theorem m_3_14 : Cond.fieldLink RX10 10 "CoverDesk$Told" "limit" "I" ∈ tb := it_3 _ (List.mem_of_getElem? (i := 14) rfl)
theorem m_3_15 : Cond.fieldLink RX10 16 "CoverDesk$Told" "grace" "I" ∈ tb := it_3 _ (List.mem_of_getElem? (i := 15) rfl)
theorem m_3_17 : Cond.fieldLink RX10 19 "CoverDesk$Told" "personName" "[J" ∈ tb := it_3 _ (List.mem_of_getElem? (i := 17) rfl)
theorem m_3_18 : Cond.fieldLink RX10 23 "CoverDesk$Told" "bankName" "[J" ∈ tb := it_3 _ (List.mem_of_getElem? (i := 18) rfl)
theorem m_3_19 : Cond.fieldLink RX10 26 "CoverDesk$Told" "accountName" "[J" ∈ tb := it_3 _ (List.mem_of_getElem? (i := 19) rfl)
theorem m_3_2 : Cond.initialized RX5 ∈ tb := it_3 _ (List.mem_of_getElem? (i := 2) rfl)
theorem m_3_21 : Cond.fieldLink RX10 29 "CoverDesk$Told" "kind" "[I" ∈ tb := it_3 _ (List.mem_of_getElem? (i := 21) rfl)
theorem m_3_22 : Cond.fieldLink RX10 33 "CoverDesk$Told" "home" "[I" ∈ tb := it_3 _ (List.mem_of_getElem? (i := 22) rfl)
theorem m_3_23 : Cond.fieldLink RX10 36 "CoverDesk$Told" "coins" "[I" ∈ tb := it_3 _ (List.mem_of_getElem? (i := 23) rfl)
theorem m_3_3 : Cond.fieldLink RX11 83 "CoverDesk" "trial" "LCoverDesk$Failing;" ∈ tb := it_3 _ (List.mem_of_getElem? (i := 3) rfl)
theorem m_3_7 : Cond.fieldLink RX9 9 "CoverDesk$Tape" "place" "I" ∈ tb := it_3 _ (List.mem_of_getElem? (i := 7) rfl)
theorem m_3_9 : Cond.fieldLink RX9 15 "CoverDesk$Tape" "bytes" "[B" ∈ tb := it_3 _ (List.mem_of_getElem? (i := 9) rfl)
theorem m_40_0 : Cond.selects RX12 yX12_takesFrom yX12_takesFrom ∈ tb := it_40 _ (List.mem_of_getElem? (i := 0) rfl)
theorem m_40_1 : Cond.code yX12_takesFrom cX12_takesFrom 3 (some .boolean) ∈ tb := it_40 _ (List.mem_of_getElem? (i := 1) rfl)
theorem m_40_10 : Cond.methodLink RX12 372 yX12_isOpen ∈ tb := it_40 _ (List.mem_of_getElem? (i := 10) rfl)
theorem m_40_11 : Cond.instanceMethod yX12_isOpen ∈ tb := it_40 _ (List.mem_of_getElem? (i := 11) rfl)
theorem m_40_12 : Cond.selects RX12 yX12_isOpen yX12_isOpen ∈ tb := it_40 _ (List.mem_of_getElem? (i := 12) rfl)
theorem m_40_13 : Cond.code yX12_isOpen cX12_isOpen 2 (some .boolean) ∈ tb := it_40 _ (List.mem_of_getElem? (i := 13) rfl)
theorem m_40_14 : Cond.methodLink RX12 407 yX12_passes ∈ tb := it_40 _ (List.mem_of_getElem? (i := 14) rfl)
theorem m_40_15 : Cond.instanceMethod yX12_passes ∈ tb := it_40 _ (List.mem_of_getElem? (i := 15) rfl)
theorem m_40_16 : Cond.selects RX12 yX12_passes yX12_passes ∈ tb := it_40 _ (List.mem_of_getElem? (i := 16) rfl)
theorem m_40_17 : Cond.code yX12_passes cX12_passes 2 (some .boolean) ∈ tb := it_40 _ (List.mem_of_getElem? (i := 17) rfl)
theorem m_40_18 : Cond.constantLong RX12 375 (99) ∈ tb := it_40 _ (List.mem_of_getElem? (i := 18) rfl)
theorem m_40_19 : Cond.methodLink RX12 410 yX12_pays ∈ tb := it_40 _ (List.mem_of_getElem? (i := 19) rfl)
theorem m_40_2 : Cond.methodLink RX12 404 yX12_merges ∈ tb := it_40 _ (List.mem_of_getElem? (i := 2) rfl)
theorem m_40_20 : Cond.instanceMethod yX12_pays ∈ tb := it_40 _ (List.mem_of_getElem? (i := 20) rfl)
theorem m_40_21 : Cond.selects RX12 yX12_pays yX12_pays ∈ tb := it_40 _ (List.mem_of_getElem? (i := 21) rfl)
theorem m_40_22 : Cond.code yX12_pays cX12_pays 3 (some .boolean) ∈ tb := it_40 _ (List.mem_of_getElem? (i := 22) rfl)
theorem m_40_23 : Cond.methodLink RX12 377 yX12_isLoan ∈ tb := it_40 _ (List.mem_of_getElem? (i := 23) rfl)
theorem m_40_3 : Cond.instanceMethod yX12_merges ∈ tb := it_40 _ (List.mem_of_getElem? (i := 3) rfl)
theorem m_40_4 : Cond.selects RX12 yX12_merges yX12_merges ∈ tb := it_40 _ (List.mem_of_getElem? (i := 4) rfl)
theorem m_40_5 : Cond.code yX12_merges cX12_merges 3 (some .boolean) ∈ tb := it_40 _ (List.mem_of_getElem? (i := 5) rfl)
theorem m_40_6 : Cond.methodLink RX12 369 yX12_isBank ∈ tb := it_40 _ (List.mem_of_getElem? (i := 6) rfl)
theorem m_40_7 : Cond.instanceMethod yX12_isBank ∈ tb := it_40 _ (List.mem_of_getElem? (i := 7) rfl)
theorem m_40_8 : Cond.selects RX12 yX12_isBank yX12_isBank ∈ tb := it_40 _ (List.mem_of_getElem? (i := 8) rfl)
theorem m_40_9 : Cond.code yX12_isBank cX12_isBank 2 (some .boolean) ∈ tb := it_40 _ (List.mem_of_getElem? (i := 9) rfl)
theorem m_41_0 : Cond.instanceMethod yX12_isLoan ∈ tb := it_41 _ (List.mem_of_getElem? (i := 0) rfl)
theorem m_41_1 : Cond.selects RX12 yX12_isLoan yX12_isLoan ∈ tb := it_41 _ (List.mem_of_getElem? (i := 1) rfl)
theorem m_41_10 : Cond.code yX12_insures cX12_insures 5 none ∈ tb := it_41 _ (List.mem_of_getElem? (i := 10) rfl)
theorem m_41_11 : Cond.methodLink RX12 343 yX12_insuresGroup ∈ tb := it_41 _ (List.mem_of_getElem? (i := 11) rfl)
theorem m_41_12 : Cond.instanceMethod yX12_insuresGroup ∈ tb := it_41 _ (List.mem_of_getElem? (i := 12) rfl)
theorem m_41_13 : Cond.selects RX12 yX12_insuresGroup yX12_insuresGroup ∈ tb := it_41 _ (List.mem_of_getElem? (i := 13) rfl)
theorem m_41_14 : Cond.code yX12_insuresGroup cX12_insuresGroup 7 none ∈ tb := it_41 _ (List.mem_of_getElem? (i := 14) rfl)
theorem m_41_15 : Cond.methodLink RX12 328 yX12_isInGroup ∈ tb := it_41 _ (List.mem_of_getElem? (i := 15) rfl)
theorem m_41_16 : Cond.instanceMethod yX12_isInGroup ∈ tb := it_41 _ (List.mem_of_getElem? (i := 16) rfl)
theorem m_41_17 : Cond.selects RX12 yX12_isInGroup yX12_isInGroup ∈ tb := it_41 _ (List.mem_of_getElem? (i := 17) rfl)
theorem m_41_18 : Cond.code yX12_isInGroup cX12_isInGroup 6 (some .boolean) ∈ tb := it_41 _ (List.mem_of_getElem? (i := 18) rfl)
theorem m_41_19 : Cond.methodLink RX12 319 yX12_kindOf ∈ tb := it_41 _ (List.mem_of_getElem? (i := 19) rfl)
theorem m_41_2 : Cond.code yX12_isLoan cX12_isLoan 2 (some .boolean) ∈ tb := it_41 _ (List.mem_of_getElem? (i := 2) rfl)
theorem m_41_20 : Cond.instanceMethod yX12_kindOf ∈ tb := it_41 _ (List.mem_of_getElem? (i := 20) rfl)
theorem m_41_21 : Cond.selects RX12 yX12_kindOf yX12_kindOf ∈ tb := it_41 _ (List.mem_of_getElem? (i := 21) rfl)
theorem m_41_22 : Cond.code yX12_kindOf cX12_kindOf 2 (some .int) ∈ tb := it_41 _ (List.mem_of_getElem? (i := 22) rfl)
theorem m_41_23 : Cond.fieldLink RX12 316 "CoverDeskModel" "otherKind" "I" ∈ tb := it_41 _ (List.mem_of_getElem? (i := 23) rfl)
theorem m_41_3 : Cond.methodLink RX12 413 yX12_falls ∈ tb := it_41 _ (List.mem_of_getElem? (i := 3) rfl)
theorem m_41_4 : Cond.instanceMethod yX12_falls ∈ tb := it_41 _ (List.mem_of_getElem? (i := 4) rfl)
theorem m_41_5 : Cond.selects RX12 yX12_falls yX12_falls ∈ tb := it_41 _ (List.mem_of_getElem? (i := 5) rfl)
theorem m_41_6 : Cond.code yX12_falls cX12_falls 6 (some .boolean) ∈ tb := it_41 _ (List.mem_of_getElem? (i := 6) rfl)
theorem m_41_7 : Cond.methodLink RX12 380 yX12_insures ∈ tb := it_41 _ (List.mem_of_getElem? (i := 7) rfl)
theorem m_41_8 : Cond.instanceMethod yX12_insures ∈ tb := it_41 _ (List.mem_of_getElem? (i := 8) rfl)
theorem m_41_9 : Cond.selects RX12 yX12_insures yX12_insures ∈ tb := it_41 _ (List.mem_of_getElem? (i := 9) rfl)
theorem m_42_0 : Cond.methodLink RX12 322 yX12_ownerAt ∈ tb := it_42 _ (List.mem_of_getElem? (i := 0) rfl)
theorem m_42_1 : Cond.instanceMethod yX12_ownerAt ∈ tb := it_42 _ (List.mem_of_getElem? (i := 1) rfl)
theorem m_42_10 : Cond.selects RX12 yX12_endOf yX12_endOf ∈ tb := it_42 _ (List.mem_of_getElem? (i := 10) rfl)
theorem m_42_11 : Cond.code yX12_endOf cX12_endOf 5 (some .int) ∈ tb := it_42 _ (List.mem_of_getElem? (i := 11) rfl)
theorem m_42_12 : Cond.methodLink RX12 303 Lib.Math.max.name ∈ tb := it_42 _ (List.mem_of_getElem? (i := 12) rfl)
theorem m_42_13 : Cond.methodLink RX12 332 yX12_shareOf ∈ tb := it_42 _ (List.mem_of_getElem? (i := 13) rfl)
theorem m_42_14 : Cond.instanceMethod yX12_shareOf ∈ tb := it_42 _ (List.mem_of_getElem? (i := 14) rfl)
theorem m_42_15 : Cond.selects RX12 yX12_shareOf yX12_shareOf ∈ tb := it_42 _ (List.mem_of_getElem? (i := 15) rfl)
theorem m_42_16 : Cond.code yX12_shareOf cX12_shareOf 3 (some .int) ∈ tb := it_42 _ (List.mem_of_getElem? (i := 16) rfl)
theorem m_42_17 : Cond.methodLink RX12 312 yX12_one ∈ tb := it_42 _ (List.mem_of_getElem? (i := 17) rfl)
theorem m_42_18 : Cond.static yX12_one ∈ tb := it_42 _ (List.mem_of_getElem? (i := 18) rfl)
theorem m_42_19 : Cond.code yX12_one cX12_one 1 (some .int) ∈ tb := it_42 _ (List.mem_of_getElem? (i := 19) rfl)
theorem m_42_2 : Cond.selects RX12 yX12_ownerAt yX12_ownerAt ∈ tb := it_42 _ (List.mem_of_getElem? (i := 2) rfl)
theorem m_42_20 : Cond.methodLink RX12 347 yX12_mostOf ∈ tb := it_42 _ (List.mem_of_getElem? (i := 20) rfl)
theorem m_42_21 : Cond.instanceMethod yX12_mostOf ∈ tb := it_42 _ (List.mem_of_getElem? (i := 21) rfl)
theorem m_42_22 : Cond.selects RX12 yX12_mostOf yX12_mostOf ∈ tb := it_42 _ (List.mem_of_getElem? (i := 22) rfl)
theorem m_42_23 : Cond.code yX12_mostOf cX12_mostOf 11 (some .long) ∈ tb := it_42 _ (List.mem_of_getElem? (i := 23) rfl)
theorem m_42_3 : Cond.code yX12_ownerAt cX12_ownerAt 4 (some .int) ∈ tb := it_42 _ (List.mem_of_getElem? (i := 3) rfl)
theorem m_42_4 : Cond.methodLink RX12 325 yX12_countedAt ∈ tb := it_42 _ (List.mem_of_getElem? (i := 4) rfl)
theorem m_42_5 : Cond.instanceMethod yX12_countedAt ∈ tb := it_42 _ (List.mem_of_getElem? (i := 5) rfl)
theorem m_42_6 : Cond.selects RX12 yX12_countedAt yX12_countedAt ∈ tb := it_42 _ (List.mem_of_getElem? (i := 6) rfl)
theorem m_42_7 : Cond.code yX12_countedAt cX12_countedAt 4 (some .int) ∈ tb := it_42 _ (List.mem_of_getElem? (i := 7) rfl)
theorem m_42_8 : Cond.methodLink RX12 309 yX12_endOf ∈ tb := it_42 _ (List.mem_of_getElem? (i := 8) rfl)
theorem m_42_9 : Cond.instanceMethod yX12_endOf ∈ tb := it_42 _ (List.mem_of_getElem? (i := 9) rfl)
theorem m_43_0 : Cond.methodLink RX12 335 Lib.Math.min.name ∈ tb := it_43 _ (List.mem_of_getElem? (i := 0) rfl)
theorem m_43_1 : Cond.methodLink RX12 351 yX12_divides ∈ tb := it_43 _ (List.mem_of_getElem? (i := 1) rfl)
theorem m_43_10 : Cond.instanceMethod yX12_setsOff ∈ tb := it_43 _ (List.mem_of_getElem? (i := 10) rfl)
theorem m_43_11 : Cond.selects RX12 yX12_setsOff yX12_setsOff ∈ tb := it_43 _ (List.mem_of_getElem? (i := 11) rfl)
theorem m_43_12 : Cond.code yX12_setsOff cX12_setsOff 5 none ∈ tb := it_43 _ (List.mem_of_getElem? (i := 12) rfl)
theorem m_43_13 : Cond.methodLink RX12 387 yX12_keeps ∈ tb := it_43 _ (List.mem_of_getElem? (i := 13) rfl)
theorem m_43_14 : Cond.instanceMethod yX12_keeps ∈ tb := it_43 _ (List.mem_of_getElem? (i := 14) rfl)
theorem m_43_15 : Cond.selects RX12 yX12_keeps yX12_keeps ∈ tb := it_43 _ (List.mem_of_getElem? (i := 15) rfl)
theorem m_43_16 : Cond.code yX12_keeps cX12_keeps 2 none ∈ tb := it_43 _ (List.mem_of_getElem? (i := 16) rfl)
theorem m_43_2 : Cond.instanceMethod yX12_divides ∈ tb := it_43 _ (List.mem_of_getElem? (i := 2) rfl)
theorem m_43_21 : Cond.fieldLink RX11 144 "CoverDesk$Tape" "fault" "I" ∈ tb := it_43 _ (List.mem_of_getElem? (i := 21) rfl)
theorem m_43_22 : Cond.fieldLink RX11 147 "CoverDesk$Tape" "place" "I" ∈ tb := it_43 _ (List.mem_of_getElem? (i := 22) rfl)
theorem m_43_3 : Cond.selects RX12 yX12_divides yX12_divides ∈ tb := it_43 _ (List.mem_of_getElem? (i := 3) rfl)
theorem m_43_4 : Cond.code yX12_divides cX12_divides 12 none ∈ tb := it_43 _ (List.mem_of_getElem? (i := 4) rfl)
theorem m_43_5 : Cond.methodLink RX12 338 Lib.MathLoose.min_long.x ∈ tb := it_43 _ (List.mem_of_getElem? (i := 5) rfl)
theorem m_43_8 : Cond.constantLong RX12 341 (-1) ∈ tb := it_43 _ (List.mem_of_getElem? (i := 8) rfl)
theorem m_43_9 : Cond.methodLink RX12 383 yX12_setsOff ∈ tb := it_43 _ (List.mem_of_getElem? (i := 9) rfl)
theorem m_44_10 : Cond.methodLink RX11 160 yX9_step ∈ tb := it_44 _ (List.mem_of_getElem? (i := 10) rfl)
theorem m_44_11 : Cond.methodLink RX11 163 yX10_personNamed ∈ tb := it_44 _ (List.mem_of_getElem? (i := 11) rfl)
theorem m_44_12 : Cond.methodLink RX11 167 yX10_bankNamed ∈ tb := it_44 _ (List.mem_of_getElem? (i := 12) rfl)
theorem m_44_13 : Cond.methodLink RX11 170 yX10_accountNamed ∈ tb := it_44 _ (List.mem_of_getElem? (i := 13) rfl)
theorem m_44_7 : Cond.fieldLink RX11 153 "CoverDesk$Tape" "sort" "I" ∈ tb := it_44 _ (List.mem_of_getElem? (i := 7) rfl)
theorem m_44_8 : Cond.fieldLink RX11 156 "CoverDesk$Tape" "name" "J" ∈ tb := it_44 _ (List.mem_of_getElem? (i := 8) rfl)
theorem m_44_9 : Cond.methodLink RX11 150 yX9_begin ∈ tb := it_44 _ (List.mem_of_getElem? (i := 9) rfl)
theorem m_45_2 : Cond.methodLink RX12 397 yX12_isDone ∈ tb := it_45 _ (List.mem_of_getElem? (i := 2) rfl)
theorem m_45_3 : Cond.instanceMethod yX12_isDone ∈ tb := it_45 _ (List.mem_of_getElem? (i := 3) rfl)
theorem m_45_4 : Cond.selects RX12 yX12_isDone yX12_isDone ∈ tb := it_45 _ (List.mem_of_getElem? (i := 4) rfl)
theorem m_45_5 : Cond.code yX12_isDone cX12_isDone 2 (some .boolean) ∈ tb := it_45 _ (List.mem_of_getElem? (i := 5) rfl)
theorem m_47_14 : Cond.fieldLink RX11 181 "CoverDesk$Told" "kind" "[I" ∈ tb := it_47 _ (List.mem_of_getElem? (i := 14) rfl)
theorem m_47_15 : Cond.fieldLink RX11 184 "CoverDesk$Told" "home" "[I" ∈ tb := it_47 _ (List.mem_of_getElem? (i := 15) rfl)
theorem m_47_16 : Cond.fieldLink RX11 191 "CoverDesk$State" "month" "I" ∈ tb := it_47 _ (List.mem_of_getElem? (i := 16) rfl)
theorem m_47_17 : Cond.fieldLink RX11 198 "CoverDesk$State" "coins" "[I" ∈ tb := it_47 _ (List.mem_of_getElem? (i := 17) rfl)
theorem m_47_18 : Cond.fieldLink RX11 201 "CoverDesk$Told" "owners" "[I" ∈ tb := it_47 _ (List.mem_of_getElem? (i := 18) rfl)
theorem m_47_19 : Cond.fieldLink RX11 204 "CoverDesk$Told" "heirs" "[I" ∈ tb := it_47 _ (List.mem_of_getElem? (i := 19) rfl)
theorem m_47_2 : Cond.methodLink RX11 173 yX7_restore ∈ tb := it_47 _ (List.mem_of_getElem? (i := 2) rfl)
theorem m_47_20 : Cond.fieldLink RX11 207 "CoverDesk$Told" "term" "[I" ∈ tb := it_47 _ (List.mem_of_getElem? (i := 20) rfl)
theorem m_47_21 : Cond.methodLink RX11 177 yX10_isAccount ∈ tb := it_47 _ (List.mem_of_getElem? (i := 21) rfl)
theorem m_47_22 : Cond.methodLink RX11 187 yX8_nowAt ∈ tb := it_47 _ (List.mem_of_getElem? (i := 22) rfl)
theorem m_47_23 : Cond.methodLink RX11 194 yX1_countedAt ∈ tb := it_47 _ (List.mem_of_getElem? (i := 23) rfl)
theorem m_47_3 : Cond.instanceMethod yX7_restore ∈ tb := it_47 _ (List.mem_of_getElem? (i := 3) rfl)
theorem m_47_4 : Cond.selects RX7 yX7_restore yX7_restore ∈ tb := it_47 _ (List.mem_of_getElem? (i := 4) rfl)
theorem m_47_5 : Cond.code yX7_restore cX7_restore 2 (some .boolean) ∈ tb := it_47 _ (List.mem_of_getElem? (i := 5) rfl)
theorem m_48_0 : Cond.methodLink RX11 210 yX1_insure ∈ tb := it_48 _ (List.mem_of_getElem? (i := 0) rfl)
theorem m_48_1 : Cond.methodLink RX11 213 yX1_insuredOfAccount ∈ tb := it_48 _ (List.mem_of_getElem? (i := 1) rfl)
theorem m_48_13 : Cond.methodLink RX12 438 yX12_insuredIn ∈ tb := it_48 _ (List.mem_of_getElem? (i := 13) rfl)
theorem m_48_14 : Cond.instanceMethod yX12_insuredIn ∈ tb := it_48 _ (List.mem_of_getElem? (i := 14) rfl)
theorem m_48_15 : Cond.selects RX12 yX12_insuredIn yX12_insuredIn ∈ tb := it_48 _ (List.mem_of_getElem? (i := 15) rfl)
theorem m_48_16 : Cond.code yX12_insuredIn cX12_insuredIn 5 (some .long) ∈ tb := it_48 _ (List.mem_of_getElem? (i := 16) rfl)
theorem m_48_2 : Cond.instanceMethod yX1_insuredOfAccount ∈ tb := it_48 _ (List.mem_of_getElem? (i := 2) rfl)
theorem m_48_21 : Cond.fieldLink RX11 223 "CoverDesk$Told" "owner" "[I" ∈ tb := it_48 _ (List.mem_of_getElem? (i := 21) rfl)
theorem m_48_22 : Cond.fieldLink RX11 229 "CoverDesk$Cover" "insured" "[I" ∈ tb := it_48 _ (List.mem_of_getElem? (i := 22) rfl)
theorem m_48_23 : Cond.methodLink RX11 219 yX10_isShare ∈ tb := it_48 _ (List.mem_of_getElem? (i := 23) rfl)
theorem m_48_3 : Cond.selects RX1 yX1_insuredOfAccount yX1_insuredOfAccount ∈ tb := it_48 _ (List.mem_of_getElem? (i := 3) rfl)
theorem m_48_4 : Cond.code yX1_insuredOfAccount cX1_insuredOfAccount 4 (some .int) ∈ tb := it_48 _ (List.mem_of_getElem? (i := 4) rfl)
theorem m_48_5 : Cond.methodLink RX11 216 yX1_leaves ∈ tb := it_48 _ (List.mem_of_getElem? (i := 5) rfl)
theorem m_48_6 : Cond.instanceMethod yX1_leaves ∈ tb := it_48 _ (List.mem_of_getElem? (i := 6) rfl)
theorem m_48_7 : Cond.selects RX1 yX1_leaves yX1_leaves ∈ tb := it_48 _ (List.mem_of_getElem? (i := 7) rfl)
theorem m_48_8 : Cond.code yX1_leaves cX1_leaves 4 (some .int) ∈ tb := it_48 _ (List.mem_of_getElem? (i := 8) rfl)
theorem m_49_0 : Cond.instanceMethod yX10_isShare ∈ tb := it_49 _ (List.mem_of_getElem? (i := 0) rfl)
theorem m_49_1 : Cond.selects RX10 yX10_isShare yX10_isShare ∈ tb := it_49 _ (List.mem_of_getElem? (i := 1) rfl)
theorem m_49_14 : Cond.fieldLink RX11 235 "CoverDesk$State" "into" "[I" ∈ tb := it_49 _ (List.mem_of_getElem? (i := 14) rfl)
theorem m_49_15 : Cond.fieldLink RX11 238 "CoverDesk$State" "since" "[I" ∈ tb := it_49 _ (List.mem_of_getElem? (i := 15) rfl)
theorem m_49_16 : Cond.fieldLink RX11 241 "CoverDesk$State" "failed" "[I" ∈ tb := it_49 _ (List.mem_of_getElem? (i := 16) rfl)
theorem m_49_17 : Cond.methodLink RX11 232 yX10_isBank ∈ tb := it_49 _ (List.mem_of_getElem? (i := 17) rfl)
theorem m_49_18 : Cond.methodLink RX11 244 yX11_accountsNowAt ∈ tb := it_49 _ (List.mem_of_getElem? (i := 18) rfl)
theorem m_49_19 : Cond.instanceMethod yX11_accountsNowAt ∈ tb := it_49 _ (List.mem_of_getElem? (i := 19) rfl)
theorem m_49_2 : Cond.code yX10_isShare cX10_isShare 3 (some .boolean) ∈ tb := it_49 _ (List.mem_of_getElem? (i := 2) rfl)
theorem m_49_20 : Cond.selects RX11 yX11_accountsNowAt yX11_accountsNowAt ∈ tb := it_49 _ (List.mem_of_getElem? (i := 20) rfl)
theorem m_49_21 : Cond.code yX11_accountsNowAt cX11_accountsNowAt 4 (some .int) ∈ tb := it_49 _ (List.mem_of_getElem? (i := 21) rfl)
theorem m_49_22 : Cond.methodLink RX11 247 yX1_accountsCountedAt ∈ tb := it_49 _ (List.mem_of_getElem? (i := 22) rfl)
theorem m_49_23 : Cond.instanceMethod yX1_accountsCountedAt ∈ tb := it_49 _ (List.mem_of_getElem? (i := 23) rfl)
theorem m_49_3 : Cond.methodLink RX10 81 yX10_isAccount ∈ tb := it_49 _ (List.mem_of_getElem? (i := 3) rfl)
theorem m_49_4 : Cond.methodLink RX11 226 yX1_share ∈ tb := it_49 _ (List.mem_of_getElem? (i := 4) rfl)
theorem m_49_9 : Cond.constantLong RX12 442 (2) ∈ tb := it_49 _ (List.mem_of_getElem? (i := 9) rfl)
theorem m_4_0 : Cond.fieldLink RX10 39 "CoverDesk$Told" "term" "[I" ∈ tb := it_4 _ (List.mem_of_getElem? (i := 0) rfl)
theorem m_4_1 : Cond.fieldLink RX10 42 "CoverDesk$Told" "owners" "[I" ∈ tb := it_4 _ (List.mem_of_getElem? (i := 1) rfl)
theorem m_4_11 : Cond.fieldLink RX8 9 "CoverDesk$State" "coins" "[I" ∈ tb := it_4 _ (List.mem_of_getElem? (i := 11) rfl)
theorem m_4_12 : Cond.fieldLink RX8 15 "CoverDesk$State" "owed" "[I" ∈ tb := it_4 _ (List.mem_of_getElem? (i := 12) rfl)
theorem m_4_13 : Cond.fieldLink RX8 18 "CoverDesk$State" "into" "[I" ∈ tb := it_4 _ (List.mem_of_getElem? (i := 13) rfl)
theorem m_4_14 : Cond.fieldLink RX8 21 "CoverDesk$State" "since" "[I" ∈ tb := it_4 _ (List.mem_of_getElem? (i := 14) rfl)
theorem m_4_15 : Cond.fieldLink RX8 24 "CoverDesk$State" "failed" "[I" ∈ tb := it_4 _ (List.mem_of_getElem? (i := 15) rfl)
theorem m_4_17 : Cond.fieldLink RX8 30 "CoverDesk$State" "failing" "LCoverDesk$Failing;" ∈ tb := it_4 _ (List.mem_of_getElem? (i := 17) rfl)
theorem m_4_2 : Cond.fieldLink RX10 45 "CoverDesk$Told" "heirs" "[I" ∈ tb := it_4 _ (List.mem_of_getElem? (i := 2) rfl)
theorem m_4_22 : Cond.fieldLink RX5 9 "CoverDesk$Failing" "bank" "I" ∈ tb := it_4 _ (List.mem_of_getElem? (i := 22) rfl)
theorem m_4_23 : Cond.fieldLink RX5 15 "CoverDesk$Failing" "setOff" "[I" ∈ tb := it_4 _ (List.mem_of_getElem? (i := 23) rfl)
theorem m_4_3 : Cond.fieldLink RX10 48 "CoverDesk$Told" "owner" "[I" ∈ tb := it_4 _ (List.mem_of_getElem? (i := 3) rfl)
theorem m_4_4 : Cond.fieldLink RX10 51 "CoverDesk$Told" "heir" "[J" ∈ tb := it_4 _ (List.mem_of_getElem? (i := 4) rfl)
theorem m_4_5 : Cond.fieldLink RX10 54 "CoverDesk$Told" "loanPerson" "[I" ∈ tb := it_4 _ (List.mem_of_getElem? (i := 5) rfl)
theorem m_4_6 : Cond.fieldLink RX10 57 "CoverDesk$Told" "loanBank" "[I" ∈ tb := it_4 _ (List.mem_of_getElem? (i := 6) rfl)
theorem m_4_7 : Cond.fieldLink RX10 60 "CoverDesk$Told" "loanCoins" "[I" ∈ tb := it_4 _ (List.mem_of_getElem? (i := 7) rfl)
theorem m_50_0 : Cond.selects RX1 yX1_accountsCountedAt yX1_accountsCountedAt ∈ tb := it_50 _ (List.mem_of_getElem? (i := 0) rfl)
theorem m_50_1 : Cond.code yX1_accountsCountedAt cX1_accountsCountedAt 5 (some .int) ∈ tb := it_50 _ (List.mem_of_getElem? (i := 1) rfl)
theorem m_50_11 : Cond.constantLong RX11 250 (-1) ∈ tb := it_50 _ (List.mem_of_getElem? (i := 11) rfl)
theorem m_50_12 : Cond.methodLink RX11 252 yX11_coinsNowAt ∈ tb := it_50 _ (List.mem_of_getElem? (i := 12) rfl)
theorem m_50_13 : Cond.instanceMethod yX11_coinsNowAt ∈ tb := it_50 _ (List.mem_of_getElem? (i := 13) rfl)
theorem m_50_14 : Cond.selects RX11 yX11_coinsNowAt yX11_coinsNowAt ∈ tb := it_50 _ (List.mem_of_getElem? (i := 14) rfl)
theorem m_50_15 : Cond.code yX11_coinsNowAt cX11_coinsNowAt 5 (some .long) ∈ tb := it_50 _ (List.mem_of_getElem? (i := 15) rfl)
theorem m_50_16 : Cond.methodLink RX11 256 yX11_insuredNowAt ∈ tb := it_50 _ (List.mem_of_getElem? (i := 16) rfl)
theorem m_50_17 : Cond.instanceMethod yX11_insuredNowAt ∈ tb := it_50 _ (List.mem_of_getElem? (i := 17) rfl)
theorem m_50_18 : Cond.selects RX11 yX11_insuredNowAt yX11_insuredNowAt ∈ tb := it_50 _ (List.mem_of_getElem? (i := 18) rfl)
theorem m_50_19 : Cond.code yX11_insuredNowAt cX11_insuredNowAt 5 (some .long) ∈ tb := it_50 _ (List.mem_of_getElem? (i := 19) rfl)
theorem m_50_20 : Cond.methodLink RX11 259 yX11_loansNowAt ∈ tb := it_50 _ (List.mem_of_getElem? (i := 20) rfl)
theorem m_50_21 : Cond.instanceMethod yX11_loansNowAt ∈ tb := it_50 _ (List.mem_of_getElem? (i := 21) rfl)
theorem m_50_22 : Cond.selects RX11 yX11_loansNowAt yX11_loansNowAt ∈ tb := it_50 _ (List.mem_of_getElem? (i := 22) rfl)
theorem m_50_23 : Cond.code yX11_loansNowAt cX11_loansNowAt 5 (some .long) ∈ tb := it_50 _ (List.mem_of_getElem? (i := 23) rfl)
theorem m_50_6 : Cond.constantLong RX12 444 (4) ∈ tb := it_50 _ (List.mem_of_getElem? (i := 6) rfl)
theorem m_51_0 : Cond.fieldLink RX11 402 "CoverDesk$Told" "loans" "I" ∈ tb := it_51 _ (List.mem_of_getElem? (i := 0) rfl)
theorem m_51_1 : Cond.fieldLink RX11 329 "CoverDesk$Told" "loanBank" "[I" ∈ tb := it_51 _ (List.mem_of_getElem? (i := 1) rfl)
theorem m_51_11 : Cond.fieldLink RX11 275 "CoverDesk$Cover" "group" "LCoverDesk$Division;" ∈ tb := it_51 _ (List.mem_of_getElem? (i := 11) rfl)
theorem m_51_12 : Cond.fieldLink RX11 279 "CoverDesk$Division" "sum" "J" ∈ tb := it_51 _ (List.mem_of_getElem? (i := 12) rfl)
theorem m_51_13 : Cond.methodLink RX11 288 Lib.MathLoose.min_long.x ∈ tb := it_51 _ (List.mem_of_getElem? (i := 13) rfl)
theorem m_51_14 : Cond.fieldLink RX11 294 "CoverDesk$Division" "count" "I" ∈ tb := it_51 _ (List.mem_of_getElem? (i := 14) rfl)
theorem m_51_15 : Cond.methodLink RX11 262 yX10_isPerson ∈ tb := it_51 _ (List.mem_of_getElem? (i := 15) rfl)
theorem m_51_16 : Cond.methodLink RX11 265 yX11_isMonth ∈ tb := it_51 _ (List.mem_of_getElem? (i := 16) rfl)
theorem m_51_17 : Cond.static yX11_isMonth ∈ tb := it_51 _ (List.mem_of_getElem? (i := 17) rfl)
theorem m_51_18 : Cond.code yX11_isMonth cX11_isMonth 1 (some .boolean) ∈ tb := it_51 _ (List.mem_of_getElem? (i := 18) rfl)
theorem m_51_19 : Cond.methodLink RX11 268 yX1_setMonth ∈ tb := it_51 _ (List.mem_of_getElem? (i := 19) rfl)
theorem m_51_2 : Cond.fieldLink RX11 332 "CoverDesk$State" "owed" "[I" ∈ tb := it_51 _ (List.mem_of_getElem? (i := 2) rfl)
theorem m_51_20 : Cond.methodLink RX11 271 yX1_gather ∈ tb := it_51 _ (List.mem_of_getElem? (i := 20) rfl)
theorem m_51_21 : Cond.methodLink RX11 284 yX1_most ∈ tb := it_51 _ (List.mem_of_getElem? (i := 21) rfl)
theorem m_52_10 : Cond.selects RX12 yX12_accountsOf yX12_accountsOf ∈ tb := it_52 _ (List.mem_of_getElem? (i := 10) rfl)
theorem m_52_11 : Cond.code yX12_accountsOf cX12_accountsOf 7 (some .int) ∈ tb := it_52 _ (List.mem_of_getElem? (i := 11) rfl)
theorem m_52_12 : Cond.methodLink RX12 355 yX12_sumOf ∈ tb := it_52 _ (List.mem_of_getElem? (i := 12) rfl)
theorem m_52_13 : Cond.instanceMethod yX12_sumOf ∈ tb := it_52 _ (List.mem_of_getElem? (i := 13) rfl)
theorem m_52_14 : Cond.selects RX12 yX12_sumOf yX12_sumOf ∈ tb := it_52 _ (List.mem_of_getElem? (i := 14) rfl)
theorem m_52_15 : Cond.code yX12_sumOf cX12_sumOf 8 (some .long) ∈ tb := it_52 _ (List.mem_of_getElem? (i := 15) rfl)
theorem m_52_2 : Cond.constantLong RX12 449 (999) ∈ tb := it_52 _ (List.mem_of_getElem? (i := 2) rfl)
theorem m_52_20 : Cond.methodLink RX11 295 yX1_sharesOf ∈ tb := it_52 _ (List.mem_of_getElem? (i := 20) rfl)
theorem m_52_21 : Cond.instanceMethod yX1_sharesOf ∈ tb := it_52 _ (List.mem_of_getElem? (i := 21) rfl)
theorem m_52_22 : Cond.selects RX1 yX1_sharesOf yX1_sharesOf ∈ tb := it_52 _ (List.mem_of_getElem? (i := 22) rfl)
theorem m_52_23 : Cond.code yX1_sharesOf cX1_sharesOf 6 (some .long) ∈ tb := it_52 _ (List.mem_of_getElem? (i := 23) rfl)
theorem m_52_3 : Cond.constantLong RX12 451 (3) ∈ tb := it_52 _ (List.mem_of_getElem? (i := 3) rfl)
theorem m_52_4 : Cond.methodLink RX12 446 yX12_isPerson ∈ tb := it_52 _ (List.mem_of_getElem? (i := 4) rfl)
theorem m_52_5 : Cond.instanceMethod yX12_isPerson ∈ tb := it_52 _ (List.mem_of_getElem? (i := 5) rfl)
theorem m_52_6 : Cond.selects RX12 yX12_isPerson yX12_isPerson ∈ tb := it_52 _ (List.mem_of_getElem? (i := 6) rfl)
theorem m_52_7 : Cond.code yX12_isPerson cX12_isPerson 2 (some .boolean) ∈ tb := it_52 _ (List.mem_of_getElem? (i := 7) rfl)
theorem m_52_8 : Cond.methodLink RX12 453 yX12_accountsOf ∈ tb := it_52 _ (List.mem_of_getElem? (i := 8) rfl)
theorem m_52_9 : Cond.instanceMethod yX12_accountsOf ∈ tb := it_52 _ (List.mem_of_getElem? (i := 9) rfl)
theorem m_53_0 : Cond.methodLink RX11 298 yX1_insuredOf ∈ tb := it_53 _ (List.mem_of_getElem? (i := 0) rfl)
theorem m_53_1 : Cond.instanceMethod yX1_insuredOf ∈ tb := it_53 _ (List.mem_of_getElem? (i := 1) rfl)
theorem m_53_14 : Cond.methodLink RX12 457 yX12_sharesOf ∈ tb := it_53 _ (List.mem_of_getElem? (i := 14) rfl)
theorem m_53_15 : Cond.instanceMethod yX12_sharesOf ∈ tb := it_53 _ (List.mem_of_getElem? (i := 15) rfl)
theorem m_53_16 : Cond.selects RX12 yX12_sharesOf yX12_sharesOf ∈ tb := it_53 _ (List.mem_of_getElem? (i := 16) rfl)
theorem m_53_17 : Cond.code yX12_sharesOf cX12_sharesOf 5 (some .long) ∈ tb := it_53 _ (List.mem_of_getElem? (i := 17) rfl)
theorem m_53_18 : Cond.methodLink RX12 358 yX12_insuredOf ∈ tb := it_53 _ (List.mem_of_getElem? (i := 18) rfl)
theorem m_53_19 : Cond.instanceMethod yX12_insuredOf ∈ tb := it_53 _ (List.mem_of_getElem? (i := 19) rfl)
theorem m_53_2 : Cond.selects RX1 yX1_insuredOf yX1_insuredOf ∈ tb := it_53 _ (List.mem_of_getElem? (i := 2) rfl)
theorem m_53_20 : Cond.selects RX12 yX12_insuredOf yX12_insuredOf ∈ tb := it_53 _ (List.mem_of_getElem? (i := 20) rfl)
theorem m_53_21 : Cond.code yX12_insuredOf cX12_insuredOf 7 (some .long) ∈ tb := it_53 _ (List.mem_of_getElem? (i := 21) rfl)
theorem m_53_3 : Cond.code yX1_insuredOf cX1_insuredOf 6 (some .long) ∈ tb := it_53 _ (List.mem_of_getElem? (i := 3) rfl)
theorem m_53_4 : Cond.methodLink RX11 301 yX1_openOf ∈ tb := it_53 _ (List.mem_of_getElem? (i := 4) rfl)
theorem m_53_5 : Cond.instanceMethod yX1_openOf ∈ tb := it_53 _ (List.mem_of_getElem? (i := 5) rfl)
theorem m_53_6 : Cond.selects RX1 yX1_openOf yX1_openOf ∈ tb := it_53 _ (List.mem_of_getElem? (i := 6) rfl)
theorem m_53_7 : Cond.code yX1_openOf cX1_openOf 2 (some .long) ∈ tb := it_53 _ (List.mem_of_getElem? (i := 7) rfl)
theorem m_53_8 : Cond.methodLink RX1 162 yX1_sharesOf ∈ tb := it_53 _ (List.mem_of_getElem? (i := 8) rfl)
theorem m_53_9 : Cond.methodLink RX1 166 yX1_insuredOf ∈ tb := it_53 _ (List.mem_of_getElem? (i := 9) rfl)
theorem m_54_15 : Cond.fieldLink RX11 307 "CoverDesk$State" "failing" "LCoverDesk$Failing;" ∈ tb := it_54 _ (List.mem_of_getElem? (i := 15) rfl)
theorem m_54_16 : Cond.methodLink RX11 310 yX5_row ∈ tb := it_54 _ (List.mem_of_getElem? (i := 16) rfl)
theorem m_54_2 : Cond.methodLink RX11 304 yX1_nextChange ∈ tb := it_54 _ (List.mem_of_getElem? (i := 2) rfl)
theorem m_54_3 : Cond.instanceMethod yX1_nextChange ∈ tb := it_54 _ (List.mem_of_getElem? (i := 3) rfl)
theorem m_54_4 : Cond.selects RX1 yX1_nextChange yX1_nextChange ∈ tb := it_54 _ (List.mem_of_getElem? (i := 4) rfl)
theorem m_54_5 : Cond.code yX1_nextChange cX1_nextChange 5 (some .int) ∈ tb := it_54 _ (List.mem_of_getElem? (i := 5) rfl)
theorem m_54_6 : Cond.methodLink RX1 85 yX1_leaves ∈ tb := it_54 _ (List.mem_of_getElem? (i := 6) rfl)
theorem m_55_1 : Cond.fieldLink RX11 314 "CoverDesk$Failing" "bank" "I" ∈ tb := it_55 _ (List.mem_of_getElem? (i := 1) rfl)
theorem m_55_10 : Cond.selects RX12 yX12_sums yX12_sums ∈ tb := it_55 _ (List.mem_of_getElem? (i := 10) rfl)
theorem m_55_11 : Cond.code yX12_sums cX12_sums 5 (some .long) ∈ tb := it_55 _ (List.mem_of_getElem? (i := 11) rfl)
theorem m_55_16 : Cond.fieldLink RX11 326 "CoverDesk$Told" "loanPerson" "[I" ∈ tb := it_55 _ (List.mem_of_getElem? (i := 16) rfl)
theorem m_55_17 : Cond.methodLink RX11 323 yX10_isLoan ∈ tb := it_55 _ (List.mem_of_getElem? (i := 17) rfl)
theorem m_55_2 : Cond.fieldLink RX11 320 "CoverDesk$Failing" "dividedToLast" "J" ∈ tb := it_55 _ (List.mem_of_getElem? (i := 2) rfl)
theorem m_55_3 : Cond.methodLink RX11 317 yX5_all ∈ tb := it_55 _ (List.mem_of_getElem? (i := 3) rfl)
theorem m_55_8 : Cond.methodLink RX12 460 yX12_sums ∈ tb := it_55 _ (List.mem_of_getElem? (i := 8) rfl)
theorem m_55_9 : Cond.instanceMethod yX12_sums ∈ tb := it_55 _ (List.mem_of_getElem? (i := 9) rfl)
theorem m_56_10 : Cond.code yX6_weigh cX6_weigh 5 none ∈ tb := it_56 _ (List.mem_of_getElem? (i := 10) rfl)
theorem m_56_11 : Cond.fieldLink RX6 40 "CoverDesk$State" "month" "I" ∈ tb := it_56 _ (List.mem_of_getElem? (i := 11) rfl)
theorem m_56_12 : Cond.fieldLink RX6 52 "CoverDesk$Told" "banks" "I" ∈ tb := it_56 _ (List.mem_of_getElem? (i := 12) rfl)
theorem m_56_13 : Cond.fieldLink RX6 61 "CoverDesk$Cover" "group" "LCoverDesk$Division;" ∈ tb := it_56 _ (List.mem_of_getElem? (i := 13) rfl)
theorem m_56_14 : Cond.fieldLink RX6 65 "CoverDesk$Division" "sum" "J" ∈ tb := it_56 _ (List.mem_of_getElem? (i := 14) rfl)
theorem m_56_15 : Cond.fieldLink RX6 71 "CoverDesk$Told" "limit" "I" ∈ tb := it_56 _ (List.mem_of_getElem? (i := 15) rfl)
theorem m_56_16 : Cond.methodLink RX6 74 Lib.MathLoose.max_long.x ∈ tb := it_56 _ (List.mem_of_getElem? (i := 16) rfl)
theorem m_56_17 : Cond.methodLink RX6 46 yX1_setMonth ∈ tb := it_56 _ (List.mem_of_getElem? (i := 17) rfl)
theorem m_56_18 : Cond.methodLink RX6 57 yX1_gather ∈ tb := it_56 _ (List.mem_of_getElem? (i := 18) rfl)
theorem m_56_19 : Cond.methodLink RX6 80 yX8_isOpen ∈ tb := it_56 _ (List.mem_of_getElem? (i := 19) rfl)
theorem m_56_2 : Cond.fieldLink RX11 338 "CoverDesk$Moves" "excess" "[J" ∈ tb := it_56 _ (List.mem_of_getElem? (i := 2) rfl)
theorem m_56_20 : Cond.methodLink RX11 342 yX6_allOf ∈ tb := it_56 _ (List.mem_of_getElem? (i := 20) rfl)
theorem m_56_21 : Cond.instanceMethod yX6_allOf ∈ tb := it_56 _ (List.mem_of_getElem? (i := 21) rfl)
theorem m_56_22 : Cond.selects RX6 yX6_allOf yX6_allOf ∈ tb := it_56 _ (List.mem_of_getElem? (i := 22) rfl)
theorem m_56_23 : Cond.code yX6_allOf cX6_allOf 5 (some .long) ∈ tb := it_56 _ (List.mem_of_getElem? (i := 23) rfl)
theorem m_56_3 : Cond.fieldLink RX11 346 "CoverDesk$Moves" "room" "[J" ∈ tb := it_56 _ (List.mem_of_getElem? (i := 3) rfl)
theorem m_56_4 : Cond.methodLink RX11 349 Lib.MathLoose.max_long.x ∈ tb := it_56 _ (List.mem_of_getElem? (i := 4) rfl)
theorem m_56_7 : Cond.methodLink RX11 335 yX6_weigh ∈ tb := it_56 _ (List.mem_of_getElem? (i := 7) rfl)
theorem m_56_8 : Cond.instanceMethod yX6_weigh ∈ tb := it_56 _ (List.mem_of_getElem? (i := 8) rfl)
theorem m_56_9 : Cond.selects RX6 yX6_weigh yX6_weigh ∈ tb := it_56 _ (List.mem_of_getElem? (i := 9) rfl)
theorem m_57_0 : Cond.methodLink RX11 352 yX6_roomiest ∈ tb := it_57 _ (List.mem_of_getElem? (i := 0) rfl)
theorem m_57_1 : Cond.instanceMethod yX6_roomiest ∈ tb := it_57 _ (List.mem_of_getElem? (i := 1) rfl)
theorem m_57_10 : Cond.instanceMethod yX12_laysMoves ∈ tb := it_57 _ (List.mem_of_getElem? (i := 10) rfl)
theorem m_57_11 : Cond.selects RX12 yX12_laysMoves yX12_laysMoves ∈ tb := it_57 _ (List.mem_of_getElem? (i := 11) rfl)
theorem m_57_12 : Cond.code yX12_laysMoves cX12_laysMoves 5 none ∈ tb := it_57 _ (List.mem_of_getElem? (i := 12) rfl)
theorem m_57_17 : Cond.fieldLink RX11 359 "CoverDesk$Moves" "count" "I" ∈ tb := it_57 _ (List.mem_of_getElem? (i := 17) rfl)
theorem m_57_18 : Cond.fieldLink RX11 360 "CoverDesk$Moves" "from" "[I" ∈ tb := it_57 _ (List.mem_of_getElem? (i := 18) rfl)
theorem m_57_19 : Cond.fieldLink RX11 363 "CoverDesk$Moves" "to" "[I" ∈ tb := it_57 _ (List.mem_of_getElem? (i := 19) rfl)
theorem m_57_2 : Cond.selects RX6 yX6_roomiest yX6_roomiest ∈ tb := it_57 _ (List.mem_of_getElem? (i := 2) rfl)
theorem m_57_20 : Cond.fieldLink RX11 366 "CoverDesk$Moves" "coins" "[J" ∈ tb := it_57 _ (List.mem_of_getElem? (i := 20) rfl)
theorem m_57_21 : Cond.methodLink RX11 356 yX6_find ∈ tb := it_57 _ (List.mem_of_getElem? (i := 21) rfl)
theorem m_57_22 : Cond.instanceMethod yX6_find ∈ tb := it_57 _ (List.mem_of_getElem? (i := 22) rfl)
theorem m_57_23 : Cond.selects RX6 yX6_find yX6_find ∈ tb := it_57 _ (List.mem_of_getElem? (i := 23) rfl)
theorem m_57_3 : Cond.code yX6_roomiest cX6_roomiest 5 (some .int) ∈ tb := it_57 _ (List.mem_of_getElem? (i := 3) rfl)
theorem m_57_8 : Cond.methodLink RX12 463 Lib.MathLoose.max_long.x ∈ tb := it_57 _ (List.mem_of_getElem? (i := 8) rfl)
theorem m_57_9 : Cond.methodLink RX12 465 yX12_laysMoves ∈ tb := it_57 _ (List.mem_of_getElem? (i := 9) rfl)
theorem m_58_0 : Cond.code yX6_find cX6_find 5 none ∈ tb := it_58 _ (List.mem_of_getElem? (i := 0) rfl)
theorem m_58_1 : Cond.fieldLink RX6 84 "CoverDesk$Moves" "count" "I" ∈ tb := it_58 _ (List.mem_of_getElem? (i := 1) rfl)
theorem m_58_11 : Cond.methodLink RX11 368 yX11_isPlainKind ∈ tb := it_58 _ (List.mem_of_getElem? (i := 11) rfl)
theorem m_58_12 : Cond.static yX11_isPlainKind ∈ tb := it_58 _ (List.mem_of_getElem? (i := 12) rfl)
theorem m_58_13 : Cond.code yX11_isPlainKind cX11_isPlainKind 1 (some .boolean) ∈ tb := it_58 _ (List.mem_of_getElem? (i := 13) rfl)
theorem m_58_14 : Cond.methodLink RX11 371 yX11_insuredAsKind ∈ tb := it_58 _ (List.mem_of_getElem? (i := 14) rfl)
theorem m_58_15 : Cond.instanceMethod yX11_insuredAsKind ∈ tb := it_58 _ (List.mem_of_getElem? (i := 15) rfl)
theorem m_58_16 : Cond.selects RX11 yX11_insuredAsKind yX11_insuredAsKind ∈ tb := it_58 _ (List.mem_of_getElem? (i := 16) rfl)
theorem m_58_17 : Cond.code yX11_insuredAsKind cX11_insuredAsKind 4 (some .long) ∈ tb := it_58 _ (List.mem_of_getElem? (i := 17) rfl)
theorem m_58_18 : Cond.methodLink RX11 384 yX1_insuredOfAll ∈ tb := it_58 _ (List.mem_of_getElem? (i := 18) rfl)
theorem m_58_19 : Cond.instanceMethod yX1_insuredOfAll ∈ tb := it_58 _ (List.mem_of_getElem? (i := 19) rfl)
theorem m_58_2 : Cond.methodLink RX6 87 Lib.MathLoose.min_long.x ∈ tb := it_58 _ (List.mem_of_getElem? (i := 2) rfl)
theorem m_58_20 : Cond.selects RX1 yX1_insuredOfAll yX1_insuredOfAll ∈ tb := it_58 _ (List.mem_of_getElem? (i := 20) rfl)
theorem m_58_21 : Cond.code yX1_insuredOfAll cX1_insuredOfAll 4 (some .long) ∈ tb := it_58 _ (List.mem_of_getElem? (i := 21) rfl)
theorem m_58_22 : Cond.methodLink RX1 159 yX1_insuredOfAccount ∈ tb := it_58 _ (List.mem_of_getElem? (i := 22) rfl)
theorem m_59_10 : Cond.methodLink RX12 475 yX12_insuredAs ∈ tb := it_59 _ (List.mem_of_getElem? (i := 10) rfl)
theorem m_59_11 : Cond.instanceMethod yX12_insuredAs ∈ tb := it_59 _ (List.mem_of_getElem? (i := 11) rfl)
theorem m_59_12 : Cond.selects RX12 yX12_insuredAs yX12_insuredAs ∈ tb := it_59 _ (List.mem_of_getElem? (i := 12) rfl)
theorem m_59_13 : Cond.code yX12_insuredAs cX12_insuredAs 5 (some .long) ∈ tb := it_59 _ (List.mem_of_getElem? (i := 13) rfl)
theorem m_59_22 : Cond.methodLink RX12 478 yX12_isChange ∈ tb := it_59 _ (List.mem_of_getElem? (i := 22) rfl)
theorem m_59_23 : Cond.instanceMethod yX12_isChange ∈ tb := it_59 _ (List.mem_of_getElem? (i := 23) rfl)
theorem m_59_3 : Cond.methodLink RX12 472 yX12_isPlain ∈ tb := it_59 _ (List.mem_of_getElem? (i := 3) rfl)
theorem m_59_4 : Cond.static yX12_isPlain ∈ tb := it_59 _ (List.mem_of_getElem? (i := 4) rfl)
theorem m_59_5 : Cond.code yX12_isPlain cX12_isPlain 1 (some .boolean) ∈ tb := it_59 _ (List.mem_of_getElem? (i := 5) rfl)
theorem m_59_6 : Cond.methodLink RX12 468 yX12_insuredAll ∈ tb := it_59 _ (List.mem_of_getElem? (i := 6) rfl)
theorem m_59_7 : Cond.instanceMethod yX12_insuredAll ∈ tb := it_59 _ (List.mem_of_getElem? (i := 7) rfl)
theorem m_59_8 : Cond.selects RX12 yX12_insuredAll yX12_insuredAll ∈ tb := it_59 _ (List.mem_of_getElem? (i := 8) rfl)
theorem m_59_9 : Cond.code yX12_insuredAll cX12_insuredAll 4 (some .long) ∈ tb := it_59 _ (List.mem_of_getElem? (i := 9) rfl)
theorem m_5_0 : Cond.fieldLink RX5 19 "CoverDesk$Failing" "paid" "[I" ∈ tb := it_5 _ (List.mem_of_getElem? (i := 0) rfl)
theorem m_5_1 : Cond.fieldLink RX5 22 "CoverDesk$Failing" "divided" "[I" ∈ tb := it_5 _ (List.mem_of_getElem? (i := 1) rfl)
theorem m_5_10 : Cond.static yJ7_fill_53178 ∈ tb := it_5 _ (List.mem_of_getElem? (i := 10) rfl)
theorem m_5_11 : Cond.initialized RJ7 ∈ tb := it_5 _ (List.mem_of_getElem? (i := 11) rfl)
theorem m_5_12 : Cond.code yJ7_fill_53178 cJ7_fill_53178 4 none ∈ tb := it_5 _ (List.mem_of_getElem? (i := 12) rfl)
theorem m_5_18 : Cond.fieldLink RX7 11 "CoverDesk$Past" "kept" "[LCoverDesk$State;" ∈ tb := it_5 _ (List.mem_of_getElem? (i := 18) rfl)
theorem m_5_2 : Cond.fieldLink RX5 25 "CoverDesk$Failing" "lost" "[I" ∈ tb := it_5 _ (List.mem_of_getElem? (i := 2) rfl)
theorem m_5_3 : Cond.fieldLink RX5 28 "CoverDesk$Failing" "owed" "[I" ∈ tb := it_5 _ (List.mem_of_getElem? (i := 3) rfl)
theorem m_5_5 : Cond.instanceMethod yX5_clear ∈ tb := it_5 _ (List.mem_of_getElem? (i := 5) rfl)
theorem m_5_6 : Cond.selects RX5 yX5_clear yX5_clear ∈ tb := it_5 _ (List.mem_of_getElem? (i := 6) rfl)
theorem m_5_7 : Cond.code yX5_clear cX5_clear 2 none ∈ tb := it_5 _ (List.mem_of_getElem? (i := 7) rfl)
theorem m_5_8 : Cond.fieldLink RX5 35 "CoverDesk$Failing" "dividedToLast" "J" ∈ tb := it_5 _ (List.mem_of_getElem? (i := 8) rfl)
theorem m_5_9 : Cond.methodLink RX5 39 yJ7_fill_53178 ∈ tb := it_5 _ (List.mem_of_getElem? (i := 9) rfl)
theorem m_60_0 : Cond.selects RX12 yX12_isChange yX12_isChange ∈ tb := it_60 _ (List.mem_of_getElem? (i := 0) rfl)
theorem m_60_1 : Cond.code yX12_isChange cX12_isChange 3 (some .boolean) ∈ tb := it_60 _ (List.mem_of_getElem? (i := 1) rfl)
theorem m_60_10 : Cond.code yX11_rankOf cX11_rankOf 8 (some .int) ∈ tb := it_60 _ (List.mem_of_getElem? (i := 10) rfl)
theorem m_60_19 : Cond.constantLong RX11 382 (-9223372036854775808) ∈ tb := it_60 _ (List.mem_of_getElem? (i := 19) rfl)
theorem m_60_6 : Cond.fieldLink RX11 374 "CoverDesk$Told" "people" "I" ∈ tb := it_60 _ (List.mem_of_getElem? (i := 6) rfl)
theorem m_60_7 : Cond.methodLink RX11 377 yX11_rankOf ∈ tb := it_60 _ (List.mem_of_getElem? (i := 7) rfl)
theorem m_60_8 : Cond.instanceMethod yX11_rankOf ∈ tb := it_60 _ (List.mem_of_getElem? (i := 8) rfl)
theorem m_60_9 : Cond.selects RX11 yX11_rankOf yX11_rankOf ∈ tb := it_60 _ (List.mem_of_getElem? (i := 9) rfl)
theorem m_61_0 : Cond.constantLong RX12 483 (-9223372036854775808) ∈ tb := it_61 _ (List.mem_of_getElem? (i := 0) rfl)
theorem m_61_14 : Cond.fieldLink RX11 392 "CoverDesk$Told" "banks" "I" ∈ tb := it_61 _ (List.mem_of_getElem? (i := 14) rfl)
theorem m_61_15 : Cond.methodLink RX11 395 yX8_isOpen ∈ tb := it_61 _ (List.mem_of_getElem? (i := 15) rfl)
theorem m_61_16 : Cond.methodLink RX11 398 yX3_windUp ∈ tb := it_61 _ (List.mem_of_getElem? (i := 16) rfl)
theorem m_61_5 : Cond.methodLink RX11 388 yX10_addHeir ∈ tb := it_61 _ (List.mem_of_getElem? (i := 5) rfl)
theorem m_62_1 : Cond.fieldLink RX11 405 "CoverDesk$Told" "limit" "I" ∈ tb := it_62 _ (List.mem_of_getElem? (i := 1) rfl)
theorem m_62_2 : Cond.fieldLink RX11 408 "CoverDesk$Told" "grace" "I" ∈ tb := it_62 _ (List.mem_of_getElem? (i := 2) rfl)
theorem m_62_3 : Cond.fieldLink RX11 411 "CoverDesk$Past" "count" "I" ∈ tb := it_62 _ (List.mem_of_getElem? (i := 3) rfl)
theorem m_6_0 : Cond.fieldLink RX0 12 "CoverDesk$BookReader" "draft" "LCoverDesk$Told;" ∈ tb := it_6 _ (List.mem_of_getElem? (i := 0) rfl)
theorem m_6_1 : Cond.fieldLink RX0 18 "CoverDesk$BookReader" "tape" "LCoverDesk$Tape;" ∈ tb := it_6 _ (List.mem_of_getElem? (i := 1) rfl)
theorem m_6_10 : Cond.fieldLink RX2 25 "CoverDesk$DayReader" "told" "LCoverDesk$Told;" ∈ tb := it_6 _ (List.mem_of_getElem? (i := 10) rfl)
theorem m_6_15 : Cond.fieldLink RX1 9 "CoverDesk$Cover" "insured" "[I" ∈ tb := it_6 _ (List.mem_of_getElem? (i := 15) rfl)
theorem m_6_18 : Cond.initialized RX4 ∈ tb := it_6 _ (List.mem_of_getElem? (i := 18) rfl)
theorem m_6_19 : Cond.fieldLink RX1 18 "CoverDesk$Cover" "group" "LCoverDesk$Division;" ∈ tb := it_6 _ (List.mem_of_getElem? (i := 19) rfl)
theorem m_6_20 : Cond.fieldLink RX1 22 "CoverDesk$Cover" "counted" "[I" ∈ tb := it_6 _ (List.mem_of_getElem? (i := 20) rfl)
theorem m_6_21 : Cond.fieldLink RX1 25 "CoverDesk$Cover" "member" "[I" ∈ tb := it_6 _ (List.mem_of_getElem? (i := 21) rfl)
theorem m_6_22 : Cond.fieldLink RX1 28 "CoverDesk$Cover" "heirs" "[J" ∈ tb := it_6 _ (List.mem_of_getElem? (i := 22) rfl)
theorem m_6_23 : Cond.fieldLink RX1 32 "CoverDesk$Cover" "told" "LCoverDesk$Told;" ∈ tb := it_6 _ (List.mem_of_getElem? (i := 23) rfl)
theorem m_6_6 : Cond.fieldLink RX2 9 "CoverDesk$DayReader" "deed" "[I" ∈ tb := it_6 _ (List.mem_of_getElem? (i := 6) rfl)
theorem m_6_7 : Cond.fieldLink RX2 15 "CoverDesk$DayReader" "first" "[I" ∈ tb := it_6 _ (List.mem_of_getElem? (i := 7) rfl)
theorem m_6_8 : Cond.fieldLink RX2 18 "CoverDesk$DayReader" "second" "[I" ∈ tb := it_6 _ (List.mem_of_getElem? (i := 8) rfl)
theorem m_6_9 : Cond.fieldLink RX2 21 "CoverDesk$DayReader" "tape" "LCoverDesk$Tape;" ∈ tb := it_6 _ (List.mem_of_getElem? (i := 9) rfl)
theorem m_7_0 : Cond.fieldLink RX1 36 "CoverDesk$Cover" "now" "LCoverDesk$State;" ∈ tb := it_7 _ (List.mem_of_getElem? (i := 0) rfl)
theorem m_7_12 : Cond.fieldLink RX3 12 "CoverDesk$Deeds" "claims" "LCoverDesk$Division;" ∈ tb := it_7 _ (List.mem_of_getElem? (i := 12) rfl)
theorem m_7_13 : Cond.fieldLink RX3 18 "CoverDesk$Deeds" "told" "LCoverDesk$Told;" ∈ tb := it_7 _ (List.mem_of_getElem? (i := 13) rfl)
theorem m_7_14 : Cond.fieldLink RX3 22 "CoverDesk$Deeds" "now" "LCoverDesk$State;" ∈ tb := it_7 _ (List.mem_of_getElem? (i := 14) rfl)
theorem m_7_15 : Cond.fieldLink RX3 26 "CoverDesk$Deeds" "cover" "LCoverDesk$Cover;" ∈ tb := it_7 _ (List.mem_of_getElem? (i := 15) rfl)
theorem m_7_20 : Cond.fieldLink RX6 9 "CoverDesk$Moves" "excess" "[J" ∈ tb := it_7 _ (List.mem_of_getElem? (i := 20) rfl)
theorem m_7_21 : Cond.fieldLink RX6 15 "CoverDesk$Moves" "room" "[J" ∈ tb := it_7 _ (List.mem_of_getElem? (i := 21) rfl)
theorem m_7_22 : Cond.fieldLink RX6 18 "CoverDesk$Moves" "from" "[I" ∈ tb := it_7 _ (List.mem_of_getElem? (i := 22) rfl)
theorem m_7_23 : Cond.fieldLink RX6 22 "CoverDesk$Moves" "to" "[I" ∈ tb := it_7 _ (List.mem_of_getElem? (i := 23) rfl)
theorem m_7_4 : Cond.fieldLink RX4 9 "CoverDesk$Division" "part" "[J" ∈ tb := it_7 _ (List.mem_of_getElem? (i := 4) rfl)
theorem m_7_5 : Cond.fieldLink RX4 15 "CoverDesk$Division" "got" "[J" ∈ tb := it_7 _ (List.mem_of_getElem? (i := 5) rfl)
theorem m_7_6 : Cond.fieldLink RX4 18 "CoverDesk$Division" "rest" "[J" ∈ tb := it_7 _ (List.mem_of_getElem? (i := 6) rfl)
theorem m_8_0 : Cond.fieldLink RX6 25 "CoverDesk$Moves" "coins" "[J" ∈ tb := it_8 _ (List.mem_of_getElem? (i := 0) rfl)
theorem m_8_1 : Cond.fieldLink RX6 28 "CoverDesk$Moves" "told" "LCoverDesk$Told;" ∈ tb := it_8 _ (List.mem_of_getElem? (i := 1) rfl)
theorem m_8_10 : Cond.fieldLink RX8 38 "CoverDesk$Told" "coins" "[I" ∈ tb := it_8 _ (List.mem_of_getElem? (i := 10) rfl)
theorem m_8_11 : Cond.methodLink RX8 41 arraycopyName ∈ tb := it_8 _ (List.mem_of_getElem? (i := 11) rfl)
theorem m_8_15 : Cond.fieldLink RX8 47 "CoverDesk$Told" "loanCoins" "[I" ∈ tb := it_8 _ (List.mem_of_getElem? (i := 15) rfl)
theorem m_8_16 : Cond.methodLink RX8 50 yJ7_fill_53178 ∈ tb := it_8 _ (List.mem_of_getElem? (i := 16) rfl)
theorem m_8_17 : Cond.methodLink RX8 56 yX5_clear ∈ tb := it_8 _ (List.mem_of_getElem? (i := 17) rfl)
theorem m_8_2 : Cond.fieldLink RX6 32 "CoverDesk$Moves" "now" "LCoverDesk$State;" ∈ tb := it_8 _ (List.mem_of_getElem? (i := 2) rfl)
theorem m_8_22 : Cond.fieldLink RX12 7 "CoverDeskModel" "many" "[I" ∈ tb := it_8 _ (List.mem_of_getElem? (i := 22) rfl)
theorem m_8_23 : Cond.fieldLink RX12 13 "CoverDeskModel" "personName" "[J" ∈ tb := it_8 _ (List.mem_of_getElem? (i := 23) rfl)
theorem m_8_3 : Cond.fieldLink RX6 36 "CoverDesk$Moves" "cover" "LCoverDesk$Cover;" ∈ tb := it_8 _ (List.mem_of_getElem? (i := 3) rfl)
theorem m_8_5 : Cond.methodLink RX11 87 yX8_open ∈ tb := it_8 _ (List.mem_of_getElem? (i := 5) rfl)
theorem m_8_6 : Cond.instanceMethod yX8_open ∈ tb := it_8 _ (List.mem_of_getElem? (i := 6) rfl)
theorem m_8_7 : Cond.selects RX8 yX8_open yX8_open ∈ tb := it_8 _ (List.mem_of_getElem? (i := 7) rfl)
theorem m_8_8 : Cond.code yX8_open cX8_open 2 none ∈ tb := it_8 _ (List.mem_of_getElem? (i := 8) rfl)
theorem m_8_9 : Cond.fieldLink RX8 34 "CoverDesk$State" "month" "I" ∈ tb := it_8 _ (List.mem_of_getElem? (i := 9) rfl)
theorem m_9_0 : Cond.fieldLink RX12 17 "CoverDeskModel" "bankName" "[J" ∈ tb := it_9 _ (List.mem_of_getElem? (i := 0) rfl)
theorem m_9_1 : Cond.fieldLink RX12 20 "CoverDeskModel" "accountName" "[J" ∈ tb := it_9 _ (List.mem_of_getElem? (i := 1) rfl)
theorem m_9_10 : Cond.fieldLink RX12 47 "CoverDeskModel" "loanOf" "[I" ∈ tb := it_9 _ (List.mem_of_getElem? (i := 10) rfl)
theorem m_9_11 : Cond.fieldLink RX12 50 "CoverDeskModel" "loanAt" "[I" ∈ tb := it_9 _ (List.mem_of_getElem? (i := 11) rfl)
theorem m_9_12 : Cond.fieldLink RX12 53 "CoverDeskModel" "loanTold" "[I" ∈ tb := it_9 _ (List.mem_of_getElem? (i := 12) rfl)
theorem m_9_13 : Cond.fieldLink RX12 56 "CoverDeskModel" "now" "[I" ∈ tb := it_9 _ (List.mem_of_getElem? (i := 13) rfl)
theorem m_9_14 : Cond.fieldLink RX12 59 "CoverDeskModel" "past" "[I" ∈ tb := it_9 _ (List.mem_of_getElem? (i := 14) rfl)
theorem m_9_15 : Cond.fieldLink RX12 62 "CoverDeskModel" "aside" "[I" ∈ tb := it_9 _ (List.mem_of_getElem? (i := 15) rfl)
theorem m_9_16 : Cond.fieldLink RX12 65 "CoverDeskModel" "tape" "[I" ∈ tb := it_9 _ (List.mem_of_getElem? (i := 16) rfl)
theorem m_9_17 : Cond.fieldLink RX12 68 "CoverDeskModel" "faultPlace" "I" ∈ tb := it_9 _ (List.mem_of_getElem? (i := 17) rfl)
theorem m_9_18 : Cond.fieldLink RX12 72 "CoverDeskModel" "otherAccount" "I" ∈ tb := it_9 _ (List.mem_of_getElem? (i := 18) rfl)
theorem m_9_19 : Cond.fieldLink RX12 75 "CoverDeskModel" "moreHeirs" "I" ∈ tb := it_9 _ (List.mem_of_getElem? (i := 19) rfl)
theorem m_9_2 : Cond.fieldLink RX12 23 "CoverDeskModel" "kind" "[I" ∈ tb := it_9 _ (List.mem_of_getElem? (i := 2) rfl)
theorem m_9_20 : Cond.fieldLink RX12 78 "CoverDeskModel" "unlike" "[J" ∈ tb := it_9 _ (List.mem_of_getElem? (i := 20) rfl)
theorem m_9_21 : Cond.fieldLink RX12 81 "CoverDeskModel" "part" "[J" ∈ tb := it_9 _ (List.mem_of_getElem? (i := 21) rfl)
theorem m_9_22 : Cond.fieldLink RX12 84 "CoverDeskModel" "gets" "[J" ∈ tb := it_9 _ (List.mem_of_getElem? (i := 22) rfl)
theorem m_9_23 : Cond.fieldLink RX12 87 "CoverDeskModel" "rest" "[J" ∈ tb := it_9 _ (List.mem_of_getElem? (i := 23) rfl)
theorem m_9_3 : Cond.fieldLink RX12 26 "CoverDeskModel" "home" "[I" ∈ tb := it_9 _ (List.mem_of_getElem? (i := 3) rfl)
theorem m_9_4 : Cond.fieldLink RX12 29 "CoverDeskModel" "owners" "[I" ∈ tb := it_9 _ (List.mem_of_getElem? (i := 4) rfl)
theorem m_9_5 : Cond.fieldLink RX12 32 "CoverDeskModel" "owner" "[I" ∈ tb := it_9 _ (List.mem_of_getElem? (i := 5) rfl)
theorem m_9_6 : Cond.fieldLink RX12 35 "CoverDeskModel" "heirs" "[I" ∈ tb := it_9 _ (List.mem_of_getElem? (i := 6) rfl)
theorem m_9_7 : Cond.fieldLink RX12 38 "CoverDeskModel" "heir" "[J" ∈ tb := it_9 _ (List.mem_of_getElem? (i := 7) rfl)
theorem m_9_8 : Cond.fieldLink RX12 41 "CoverDeskModel" "coinsTold" "[I" ∈ tb := it_9 _ (List.mem_of_getElem? (i := 8) rfl)
theorem m_9_9 : Cond.fieldLink RX12 44 "CoverDeskModel" "term" "[I" ∈ tb := it_9 _ (List.mem_of_getElem? (i := 9) rfl)
theorem cvX0_111 : gCV RX0 111 10 1 yX10_personNamed cX10_personNamed 3 (some .int) := ⟨RX10, TX10, 20, rfl, gi_V m_18_13 m_17_1 m_17_2 m_1_18 m_17_3, rfl, by decide +kernel, by decide +kernel, by decide +kernel⟩
theorem cvX0_115 : gCV RX0 115 9 1 yX9_passKnown cX9_passKnown 2 (some .boolean) := ⟨RX9, TX9, 11, rfl, gi_V m_18_4 m_18_5 m_18_6 m_1_14 m_18_7, rfl, by decide +kernel, by decide +kernel, by decide +kernel⟩
theorem cvX0_118 : gCV RX0 118 9 1 yX9_passWord cX9_passWord 2 (some .boolean) := ⟨RX9, TX9, 11, rfl, gi_V m_17_23 m_18_0 m_18_1 m_1_14 m_18_2, rfl, by decide +kernel, by decide +kernel, by decide +kernel⟩
theorem cvX0_121 : gCV RX0 121 10 1 yX10_bankNamed cX10_bankNamed 3 (some .int) := ⟨RX10, TX10, 20, rfl, gi_V m_18_3 m_17_8 m_17_9 m_1_18 m_17_10, rfl, by decide +kernel, by decide +kernel, by decide +kernel⟩
theorem cvX0_137 : gCV RX0 137 0 2 yX0_readOwners cX0_readOwners 7 (some .boolean) := ⟨RX0, TX0, 2, rfl, gi_V m_18_8 m_18_9 m_18_10 m_2_6 m_18_11, rfl, by decide +kernel, by decide +kernel, by decide +kernel⟩
theorem cvX0_143 : gCV RX0 143 0 1 yX0_readHeirs cX0_readHeirs 5 (some .boolean) := ⟨RX0, TX0, 2, rfl, gi_V m_18_23 m_19_0 m_19_1 m_2_6 m_19_2, rfl, by decide +kernel, by decide +kernel, by decide +kernel⟩
theorem cvX0_146 : gCV RX0 146 0 2 yX0_readCoins cX0_readCoins 4 (some .boolean) := ⟨RX0, TX0, 2, rfl, gi_V m_19_11 m_19_12 m_19_13 m_2_6 m_19_14, rfl, by decide +kernel, by decide +kernel, by decide +kernel⟩
theorem cvX0_149 : gCV RX0 149 0 1 yX0_readTerm cX0_readTerm 2 (some .boolean) := ⟨RX0, TX0, 2, rfl, gi_V m_20_0 m_20_1 m_20_2 m_2_6 m_20_3, rfl, by decide +kernel, by decide +kernel, by decide +kernel⟩
theorem cvX0_164 : gCV RX0 164 10 2 yX10_ownerOf cX10_ownerOf 5 (some .int) := ⟨RX10, TX10, 20, rfl, gi_V m_18_14 m_18_15 m_18_16 m_1_18 m_18_17, rfl, by decide +kernel, by decide +kernel, by decide +kernel⟩
theorem cvX0_168 : gCV RX0 168 10 2 yX10_addOwner cX10_addOwner 4 none := ⟨RX10, TX10, 20, rfl, gi_V m_18_19 m_18_20 m_18_21 m_1_18 m_18_22, rfl, by decide +kernel, by decide +kernel, by decide +kernel⟩
theorem cvX0_172 : gCV RX0 172 10 2 yX10_hasHeir cX10_hasHeir 6 (some .boolean) := ⟨RX10, TX10, 20, rfl, gi_V m_19_3 m_19_4 m_19_5 m_1_18 m_19_6, rfl, by decide +kernel, by decide +kernel, by decide +kernel⟩
theorem cvX0_176 : gCV RX0 176 10 2 yX10_addHeir cX10_addHeir 5 none := ⟨RX10, TX10, 20, rfl, gi_V m_19_7 m_19_8 m_19_9 m_1_18 m_19_10, rfl, by decide +kernel, by decide +kernel, by decide +kernel⟩
theorem cvX0_22 : gCV RX0 22 10 0 yX10_clear cX10_clear 1 none := ⟨RX10, TX10, 20, rfl, gi_V m_12_7 m_12_8 m_12_9 m_1_18 m_12_10, rfl, by decide +kernel, by decide +kernel, by decide +kernel⟩
theorem cvX0_25 : gCV RX0 25 9 0 yX9_forgetFault cX9_forgetFault 1 none := ⟨RX9, TX9, 11, rfl, gi_V m_12_15 m_12_16 m_12_17 m_1_14 m_12_18, rfl, by decide +kernel, by decide +kernel, by decide +kernel⟩
theorem cvX0_30 : gCV RX0 30 9 0 yX9_begin cX9_begin 1 none := ⟨RX9, TX9, 11, rfl, gi_V m_12_20 m_12_21 m_12_22 m_1_14 m_12_23, rfl, by decide +kernel, by decide +kernel, by decide +kernel⟩
theorem cvX0_40 : gCV RX0 40 0 1 yX0_readAccount cX0_readAccount 6 (some .boolean) := ⟨RX0, TX0, 2, rfl, gi_V m_16_9 m_16_10 m_16_11 m_2_6 m_16_12, rfl, by decide +kernel, by decide +kernel, by decide +kernel⟩
theorem cvX0_44 : gCV RX0 44 0 0 yX0_readPerson cX0_readPerson 4 (some .boolean) := ⟨RX0, TX0, 2, rfl, gi_V m_20_5 m_20_6 m_20_7 m_2_6 m_20_8, rfl, by decide +kernel, by decide +kernel, by decide +kernel⟩
theorem cvX0_48 : gCV RX0 48 0 0 yX0_readBank cX0_readBank 4 (some .boolean) := ⟨RX0, TX0, 2, rfl, gi_V m_20_11 m_20_12 m_20_13 m_2_6 m_20_14, rfl, by decide +kernel, by decide +kernel, by decide +kernel⟩
theorem cvX0_51 : gCV RX0 51 0 0 yX0_readLimit cX0_readLimit 1 (some .boolean) := ⟨RX0, TX0, 2, rfl, gi_V m_20_17 m_20_18 m_20_19 m_2_6 m_20_20, rfl, by decide +kernel, by decide +kernel, by decide +kernel⟩
theorem cvX0_54 : gCV RX0 54 0 0 yX0_readGrace cX0_readGrace 1 (some .boolean) := ⟨RX0, TX0, 2, rfl, gi_V m_20_22 m_20_23 m_21_0 m_2_6 m_21_1, rfl, by decide +kernel, by decide +kernel, by decide +kernel⟩
theorem cvX0_57 : gCV RX0 57 0 0 yX0_readLoan cX0_readLoan 4 (some .boolean) := ⟨RX0, TX0, 2, rfl, gi_V m_21_3 m_21_4 m_21_5 m_2_6 m_21_6, rfl, by decide +kernel, by decide +kernel, by decide +kernel⟩
theorem cvX0_60 : gCV RX0 60 9 1 yX9_refuse cX9_refuse 2 (some .boolean) := ⟨RX9, TX9, 11, rfl, gi_V m_18_18 m_17_20 m_17_21 m_1_14 m_17_22, rfl, by decide +kernel, by decide +kernel, by decide +kernel⟩
theorem cvX0_63 : gCV RX0 63 9 0 yX9_passSemicolon cX9_passSemicolon 1 (some .boolean) := ⟨RX9, TX9, 11, rfl, gi_V m_21_11 m_21_12 m_21_13 m_1_14 m_21_14, rfl, by decide +kernel, by decide +kernel, by decide +kernel⟩
theorem cvX0_66 : gCV RX0 66 9 0 yX9_step cX9_step 1 none := ⟨RX9, TX9, 11, rfl, gi_V m_16_19 m_13_2 m_13_3 m_1_14 m_13_4, rfl, by decide +kernel, by decide +kernel, by decide +kernel⟩
theorem cvX0_76 : gCV RX0 76 10 1 yX10_isTaken cX10_isTaken 3 (some .boolean) := ⟨RX10, TX10, 20, rfl, gi_V m_16_20 m_16_21 m_16_22 m_1_18 m_16_23, rfl, by decide +kernel, by decide +kernel, by decide +kernel⟩
theorem cvX0_80 : gCV RX0 80 9 2 yX9_passNew cX9_passNew 3 (some .boolean) := ⟨RX9, TX9, 11, rfl, gi_V m_17_15 m_17_16 m_17_17 m_1_14 m_17_18, rfl, by decide +kernel, by decide +kernel, by decide +kernel⟩
theorem cvX0_95 : gCV RX0 95 9 2 yX9_passNumber cX9_passNumber 3 (some .boolean) := ⟨RX9, TX9, 11, rfl, gi_V m_19_19 m_19_20 m_19_21 m_1_14 m_19_22, rfl, by decide +kernel, by decide +kernel, by decide +kernel⟩
theorem cvX10_81 : gCV RX10 81 10 1 yX10_isAccount cX10_isAccount 2 (some .boolean) := ⟨RX10, TX10, 20, rfl, gi_V m_49_3 m_30_3 m_30_4 m_1_18 m_30_5, rfl, by decide +kernel, by decide +kernel, by decide +kernel⟩
theorem cvX10_85 : gCS RX10 85 3 yX10_placeOf cX10_placeOf 5 (some .int) := ⟨gi_S m_17_4 m_17_5 m_1_18 m_17_6, by decide +kernel, by decide +kernel, by decide +kernel⟩
theorem cvX10_89 : gCV RX10 89 10 1 yX10_personNamed cX10_personNamed 3 (some .int) := ⟨RX10, TX10, 20, rfl, gi_V m_17_0 m_17_1 m_17_2 m_1_18 m_17_3, rfl, by decide +kernel, by decide +kernel, by decide +kernel⟩
theorem cvX10_93 : gCV RX10 93 10 1 yX10_bankNamed cX10_bankNamed 3 (some .int) := ⟨RX10, TX10, 20, rfl, gi_V m_17_7 m_17_8 m_17_9 m_1_18 m_17_10, rfl, by decide +kernel, by decide +kernel, by decide +kernel⟩
theorem cvX10_96 : gCV RX10 96 10 1 yX10_accountNamed cX10_accountNamed 3 (some .int) := ⟨RX10, TX10, 20, rfl, gi_V m_17_11 m_17_12 m_17_13 m_1_18 m_17_14, rfl, by decide +kernel, by decide +kernel, by decide +kernel⟩
theorem cvX11_106 : gCV RX11 106 10 1 yX10_copy cX10_copy 2 none := ⟨RX10, TX10, 20, rfl, gi_V m_21_15 m_21_16 m_21_17 m_1_18 m_21_18, rfl, by decide +kernel, by decide +kernel, by decide +kernel⟩
theorem cvX11_109 : gCV RX11 109 7 0 yX7_clear cX7_clear 1 none := ⟨RX7, TX7, 3, rfl, gi_V m_21_20 m_21_21 m_21_22 m_2_2 m_21_23, rfl, by decide +kernel, by decide +kernel, by decide +kernel⟩
theorem cvX11_115 : gCV RX11 115 2 0 yX2_read cX2_read 2 (some .boolean) := ⟨RX2, TX2, 8, rfl, gi_V m_27_3 m_27_4 m_27_5 m_2_10 m_27_6, rfl, by decide +kernel, by decide +kernel, by decide +kernel⟩
theorem cvX11_122 : gCV RX11 122 7 1 yX7_keep cX7_keep 2 none := ⟨RX7, TX7, 3, rfl, gi_V m_29_1 m_29_2 m_29_3 m_2_2 m_29_4, rfl, by decide +kernel, by decide +kernel, by decide +kernel⟩
theorem cvX11_136 : gCV RX11 136 3 3 yX3_act cX3_act 4 (some .boolean) := ⟨RX3, TX3, 4, rfl, gi_V m_29_15 m_29_16 m_29_17 m_2_18 m_29_18, rfl, by decide +kernel, by decide +kernel, by decide +kernel⟩
theorem cvX11_140 : gCV RX11 140 7 1 yX7_confirm cX7_confirm 2 (some .boolean) := ⟨RX7, TX7, 3, rfl, gi_V m_37_22 m_37_23 m_38_0 m_2_2 m_38_1, rfl, by decide +kernel, by decide +kernel, by decide +kernel⟩
theorem cvX11_150 : gCV RX11 150 9 0 yX9_begin cX9_begin 1 none := ⟨RX9, TX9, 11, rfl, gi_V m_44_9 m_12_21 m_12_22 m_1_14 m_12_23, rfl, by decide +kernel, by decide +kernel, by decide +kernel⟩
theorem cvX11_160 : gCV RX11 160 9 0 yX9_step cX9_step 1 none := ⟨RX9, TX9, 11, rfl, gi_V m_44_10 m_13_2 m_13_3 m_1_14 m_13_4, rfl, by decide +kernel, by decide +kernel, by decide +kernel⟩
theorem cvX11_163 : gCV RX11 163 10 1 yX10_personNamed cX10_personNamed 3 (some .int) := ⟨RX10, TX10, 20, rfl, gi_V m_44_11 m_17_1 m_17_2 m_1_18 m_17_3, rfl, by decide +kernel, by decide +kernel, by decide +kernel⟩
theorem cvX11_167 : gCV RX11 167 10 1 yX10_bankNamed cX10_bankNamed 3 (some .int) := ⟨RX10, TX10, 20, rfl, gi_V m_44_12 m_17_8 m_17_9 m_1_18 m_17_10, rfl, by decide +kernel, by decide +kernel, by decide +kernel⟩
theorem cvX11_170 : gCV RX11 170 10 1 yX10_accountNamed cX10_accountNamed 3 (some .int) := ⟨RX10, TX10, 20, rfl, gi_V m_44_13 m_17_12 m_17_13 m_1_18 m_17_14, rfl, by decide +kernel, by decide +kernel, by decide +kernel⟩
theorem cvX11_173 : gCV RX11 173 7 1 yX7_restore cX7_restore 2 (some .boolean) := ⟨RX7, TX7, 3, rfl, gi_V m_47_2 m_47_3 m_47_4 m_2_2 m_47_5, rfl, by decide +kernel, by decide +kernel, by decide +kernel⟩
theorem cvX11_177 : gCV RX11 177 10 1 yX10_isAccount cX10_isAccount 2 (some .boolean) := ⟨RX10, TX10, 20, rfl, gi_V m_47_21 m_30_3 m_30_4 m_1_18 m_30_5, rfl, by decide +kernel, by decide +kernel, by decide +kernel⟩
theorem cvX11_187 : gCV RX11 187 8 1 yX8_nowAt cX8_nowAt 4 (some .int) := ⟨RX8, TX8, 7, rfl, gi_V m_47_22 m_30_10 m_30_11 m_1_22 m_30_12, rfl, by decide +kernel, by decide +kernel, by decide +kernel⟩
theorem cvX11_194 : gCV RX11 194 1 2 yX1_countedAt cX1_countedAt 5 (some .int) := ⟨RX1, TX1, 7, rfl, gi_V m_47_23 m_32_23 m_33_0 m_2_14 m_33_1, rfl, by decide +kernel, by decide +kernel, by decide +kernel⟩
theorem cvX11_210 : gCV RX11 210 1 1 yX1_insure cX1_insure 4 none := ⟨RX1, TX1, 7, rfl, gi_V m_48_0 m_32_11 m_32_12 m_2_14 m_32_13, rfl, by decide +kernel, by decide +kernel, by decide +kernel⟩
theorem cvX11_213 : gCV RX11 213 1 1 yX1_insuredOfAccount cX1_insuredOfAccount 4 (some .int) := ⟨RX1, TX1, 7, rfl, gi_V m_48_1 m_48_2 m_48_3 m_2_14 m_48_4, rfl, by decide +kernel, by decide +kernel, by decide +kernel⟩
theorem cvX11_216 : gCV RX11 216 1 2 yX1_leaves cX1_leaves 4 (some .int) := ⟨RX1, TX1, 7, rfl, gi_V m_48_5 m_48_6 m_48_7 m_2_14 m_48_8, rfl, by decide +kernel, by decide +kernel, by decide +kernel⟩
theorem cvX11_219 : gCV RX11 219 10 2 yX10_isShare cX10_isShare 3 (some .boolean) := ⟨RX10, TX10, 20, rfl, gi_V m_48_23 m_49_0 m_49_1 m_1_18 m_49_2, rfl, by decide +kernel, by decide +kernel, by decide +kernel⟩
theorem cvX11_226 : gCV RX11 226 1 2 yX1_share cX1_share 5 (some .int) := ⟨RX1, TX1, 7, rfl, gi_V m_49_4 m_34_11 m_34_12 m_2_14 m_34_13, rfl, by decide +kernel, by decide +kernel, by decide +kernel⟩
theorem cvX11_232 : gCV RX11 232 10 1 yX10_isBank cX10_isBank 2 (some .boolean) := ⟨RX10, TX10, 20, rfl, gi_V m_49_17 m_31_9 m_31_10 m_1_18 m_31_11, rfl, by decide +kernel, by decide +kernel, by decide +kernel⟩
theorem cvX11_244 : gCV RX11 244 11 1 yX11_accountsNowAt cX11_accountsNowAt 4 (some .int) := ⟨RX11, TX11, 11, rfl, gi_V m_49_18 m_49_19 m_49_20 m_1_2 m_49_21, rfl, by decide +kernel, by decide +kernel, by decide +kernel⟩
theorem cvX11_247 : gCV RX11 247 1 2 yX1_accountsCountedAt cX1_accountsCountedAt 5 (some .int) := ⟨RX1, TX1, 7, rfl, gi_V m_49_22 m_49_23 m_50_0 m_2_14 m_50_1, rfl, by decide +kernel, by decide +kernel, by decide +kernel⟩
theorem cvX11_252 : gCV RX11 252 11 1 yX11_coinsNowAt cX11_coinsNowAt 5 (some .long) := ⟨RX11, TX11, 11, rfl, gi_V m_50_12 m_50_13 m_50_14 m_1_2 m_50_15, rfl, by decide +kernel, by decide +kernel, by decide +kernel⟩
theorem cvX11_256 : gCV RX11 256 11 1 yX11_insuredNowAt cX11_insuredNowAt 5 (some .long) := ⟨RX11, TX11, 11, rfl, gi_V m_50_16 m_50_17 m_50_18 m_1_2 m_50_19, rfl, by decide +kernel, by decide +kernel, by decide +kernel⟩
theorem cvX11_259 : gCV RX11 259 11 1 yX11_loansNowAt cX11_loansNowAt 5 (some .long) := ⟨RX11, TX11, 11, rfl, gi_V m_50_20 m_50_21 m_50_22 m_1_2 m_50_23, rfl, by decide +kernel, by decide +kernel, by decide +kernel⟩
theorem cvX11_262 : gCV RX11 262 10 1 yX10_isPerson cX10_isPerson 2 (some .boolean) := ⟨RX10, TX10, 20, rfl, gi_V m_51_15 m_35_8 m_35_9 m_1_18 m_35_10, rfl, by decide +kernel, by decide +kernel, by decide +kernel⟩
theorem cvX11_265 : gCS RX11 265 1 yX11_isMonth cX11_isMonth 1 (some .boolean) := ⟨gi_S m_51_16 m_51_17 m_1_2 m_51_18, by decide +kernel, by decide +kernel, by decide +kernel⟩
theorem cvX11_268 : gCV RX11 268 1 1 yX1_setMonth cX1_setMonth 3 none := ⟨RX1, TX1, 7, rfl, gi_V m_51_19 m_32_19 m_32_20 m_2_14 m_32_21, rfl, by decide +kernel, by decide +kernel, by decide +kernel⟩
theorem cvX11_271 : gCV RX11 271 1 3 yX1_gather cX1_gather 6 none := ⟨RX1, TX1, 7, rfl, gi_V m_51_20 m_34_0 m_34_1 m_2_14 m_34_2, rfl, by decide +kernel, by decide +kernel, by decide +kernel⟩
theorem cvX11_284 : gCV RX11 284 1 2 yX1_most cX1_most 3 (some .long) := ⟨RX1, TX1, 7, rfl, gi_V m_51_21 m_34_20 m_34_21 m_2_14 m_34_22, rfl, by decide +kernel, by decide +kernel, by decide +kernel⟩
theorem cvX11_295 : gCV RX11 295 1 1 yX1_sharesOf cX1_sharesOf 6 (some .long) := ⟨RX1, TX1, 7, rfl, gi_V m_52_20 m_52_21 m_52_22 m_2_14 m_52_23, rfl, by decide +kernel, by decide +kernel, by decide +kernel⟩
theorem cvX11_298 : gCV RX11 298 1 1 yX1_insuredOf cX1_insuredOf 6 (some .long) := ⟨RX1, TX1, 7, rfl, gi_V m_53_0 m_53_1 m_53_2 m_2_14 m_53_3, rfl, by decide +kernel, by decide +kernel, by decide +kernel⟩
theorem cvX11_301 : gCV RX11 301 1 1 yX1_openOf cX1_openOf 2 (some .long) := ⟨RX1, TX1, 7, rfl, gi_V m_53_4 m_53_5 m_53_6 m_2_14 m_53_7, rfl, by decide +kernel, by decide +kernel, by decide +kernel⟩
theorem cvX11_304 : gCV RX11 304 1 1 yX1_nextChange cX1_nextChange 5 (some .int) := ⟨RX1, TX1, 7, rfl, gi_V m_54_2 m_54_3 m_54_4 m_2_14 m_54_5, rfl, by decide +kernel, by decide +kernel, by decide +kernel⟩
theorem cvX11_310 : gCV RX11 310 5 1 yX5_row cX5_row 2 (some (.array .int)) := ⟨RX5, TX5, 7, rfl, gi_V m_54_16 m_37_18 m_37_19 m_3_2 m_37_20, rfl, by decide +kernel, by decide +kernel, by decide +kernel⟩
theorem cvX11_317 : gCV RX11 317 5 1 yX5_all cX5_all 6 (some .long) := ⟨RX5, TX5, 7, rfl, gi_V m_55_3 m_37_14 m_37_15 m_3_2 m_37_16, rfl, by decide +kernel, by decide +kernel, by decide +kernel⟩
theorem cvX11_323 : gCV RX11 323 10 1 yX10_isLoan cX10_isLoan 2 (some .boolean) := ⟨RX10, TX10, 20, rfl, gi_V m_55_17 m_31_22 m_31_23 m_1_18 m_32_0, rfl, by decide +kernel, by decide +kernel, by decide +kernel⟩
theorem cvX11_335 : gCV RX11 335 6 1 yX6_weigh cX6_weigh 5 none := ⟨RX6, TX6, 9, rfl, gi_V m_56_7 m_56_8 m_56_9 m_2_22 m_56_10, rfl, by decide +kernel, by decide +kernel, by decide +kernel⟩
theorem cvX11_342 : gCV RX11 342 6 1 yX6_allOf cX6_allOf 5 (some .long) := ⟨RX6, TX6, 9, rfl, gi_V m_56_20 m_56_21 m_56_22 m_2_22 m_56_23, rfl, by decide +kernel, by decide +kernel, by decide +kernel⟩
theorem cvX11_352 : gCV RX11 352 6 0 yX6_roomiest cX6_roomiest 5 (some .int) := ⟨RX6, TX6, 9, rfl, gi_V m_57_0 m_57_1 m_57_2 m_2_22 m_57_3, rfl, by decide +kernel, by decide +kernel, by decide +kernel⟩
theorem cvX11_356 : gCV RX11 356 6 0 yX6_find cX6_find 5 none := ⟨RX6, TX6, 9, rfl, gi_V m_57_21 m_57_22 m_57_23 m_2_22 m_58_0, rfl, by decide +kernel, by decide +kernel, by decide +kernel⟩
theorem cvX11_368 : gCS RX11 368 1 yX11_isPlainKind cX11_isPlainKind 1 (some .boolean) := ⟨gi_S m_58_11 m_58_12 m_1_2 m_58_13, by decide +kernel, by decide +kernel, by decide +kernel⟩
theorem cvX11_371 : gCV RX11 371 11 2 yX11_insuredAsKind cX11_insuredAsKind 4 (some .long) := ⟨RX11, TX11, 11, rfl, gi_V m_58_14 m_58_15 m_58_16 m_1_2 m_58_17, rfl, by decide +kernel, by decide +kernel, by decide +kernel⟩
theorem cvX11_377 : gCV RX11 377 11 1 yX11_rankOf cX11_rankOf 8 (some .int) := ⟨RX11, TX11, 11, rfl, gi_V m_60_7 m_60_8 m_60_9 m_1_2 m_60_10, rfl, by decide +kernel, by decide +kernel, by decide +kernel⟩
theorem cvX11_384 : gCV RX11 384 1 0 yX1_insuredOfAll cX1_insuredOfAll 4 (some .long) := ⟨RX1, TX1, 7, rfl, gi_V m_58_18 m_58_19 m_58_20 m_2_14 m_58_21, rfl, by decide +kernel, by decide +kernel, by decide +kernel⟩
theorem cvX11_388 : gCV RX11 388 10 2 yX10_addHeir cX10_addHeir 5 none := ⟨RX10, TX10, 20, rfl, gi_V m_61_5 m_19_8 m_19_9 m_1_18 m_19_10, rfl, by decide +kernel, by decide +kernel, by decide +kernel⟩
theorem cvX11_395 : gCV RX11 395 8 1 yX8_isOpen cX8_isOpen 2 (some .boolean) := ⟨RX8, TX8, 7, rfl, gi_V m_61_15 m_30_18 m_30_19 m_1_22 m_30_20, rfl, by decide +kernel, by decide +kernel, by decide +kernel⟩
theorem cvX11_398 : gCV RX11 398 3 3 yX3_windUp cX3_windUp 6 none := ⟨RX3, TX3, 4, rfl, gi_V m_61_16 m_36_2 m_36_3 m_2_18 m_36_4, rfl, by decide +kernel, by decide +kernel, by decide +kernel⟩
theorem cvX11_87 : gCV RX11 87 8 1 yX8_open cX8_open 2 none := ⟨RX8, TX8, 7, rfl, gi_V m_8_5 m_8_6 m_8_7 m_1_22 m_8_8, rfl, by decide +kernel, by decide +kernel, by decide +kernel⟩
theorem cvX11_95 : gCV RX11 95 9 1 yX9_append cX9_append 3 none := ⟨RX9, TX9, 11, rfl, gi_V m_10_18 m_10_19 m_10_20 m_1_14 m_10_21, rfl, by decide +kernel, by decide +kernel, by decide +kernel⟩
theorem cvX11_99 : gCV RX11 99 0 0 yX0_read cX0_read 3 (some .boolean) := ⟨RX0, TX0, 2, rfl, gi_V m_12_1 m_12_2 m_12_3 m_2_6 m_12_4, rfl, by decide +kernel, by decide +kernel, by decide +kernel⟩
theorem cvX12_112 : gCV RX12 112 12 0 yX12_starts cX12_starts 2 none := ⟨RX12, TX12, 48, rfl, gi_V m_10_8 m_10_9 m_10_10 m_1_5 m_10_11, rfl, by decide +kernel, by decide +kernel, by decide +kernel⟩
theorem cvX12_121 : gCV RX12 121 12 1 yX12_four cX12_four 3 none := ⟨RX12, TX12, 48, rfl, gi_V m_11_4 m_11_5 m_11_6 m_1_5 m_11_7, rfl, by decide +kernel, by decide +kernel, by decide +kernel⟩
theorem cvX12_125 : gCS RX12 125 3 yX12_isIn cX12_isIn 6 (some .boolean) := ⟨gi_S m_11_16 m_11_17 m_1_5 m_11_18, by decide +kernel, by decide +kernel, by decide +kernel⟩
theorem cvX12_132 : gCV RX12 132 12 1 yX12_see cX12_see 2 (some .int) := ⟨RX12, TX12, 48, rfl, gi_V m_23_2 m_23_3 m_23_4 m_1_5 m_23_5, rfl, by decide +kernel, by decide +kernel, by decide +kernel⟩
theorem cvX12_178 : gCS RX12 178 1 yX12_packed cX12_packed 4 (some .long) := ⟨gi_S m_23_18 m_23_19 m_1_5 m_23_20, by decide +kernel, by decide +kernel, by decide +kernel⟩
theorem cvX12_184 : gCV RX12 184 12 1 yX12_isWord cX12_isWord 2 (some .boolean) := ⟨RX12, TX12, 48, rfl, gi_V m_23_13 m_23_14 m_23_15 m_1_5 m_23_16, rfl, by decide +kernel, by decide +kernel, by decide +kernel⟩
theorem cvX12_213 : gCV RX12 213 12 0 yX12_kindHere cX12_kindHere 1 (some .int) := ⟨RX12, TX12, 48, rfl, gi_V m_24_10 m_24_11 m_24_12 m_1_5 m_24_13, rfl, by decide +kernel, by decide +kernel, by decide +kernel⟩
theorem cvX12_230 : gCV RX12 230 12 0 yX12_isOwn cX12_isOwn 1 (some .boolean) := ⟨RX12, TX12, 48, rfl, gi_V m_24_6 m_24_7 m_24_8 m_1_5 m_24_9, rfl, by decide +kernel, by decide +kernel, by decide +kernel⟩
theorem cvX12_234 : gCV RX12 234 12 1 yX12_fails cX12_fails 2 (some .boolean) := ⟨RX12, TX12, 48, rfl, gi_V m_24_14 m_24_15 m_24_16 m_1_5 m_24_17, rfl, by decide +kernel, by decide +kernel, by decide +kernel⟩
theorem cvX12_238 : gCV RX12 238 12 0 yX12_next cX12_next 2 none := ⟨RX12, TX12, 48, rfl, gi_V m_22_13 m_22_14 m_22_15 m_1_5 m_22_16, rfl, by decide +kernel, by decide +kernel, by decide +kernel⟩
theorem cvX12_244 : gCS RX12 244 4 yX12_placeIn cX12_placeIn 6 (some .int) := ⟨gi_S m_24_22 m_24_23 m_1_5 m_25_0, by decide +kernel, by decide +kernel, by decide +kernel⟩
theorem cvX12_248 : gCV RX12 248 12 0 yX12_isName cX12_isName 1 (some .boolean) := ⟨RX12, TX12, 48, rfl, gi_V m_24_2 m_24_3 m_24_4 m_1_5 m_24_5, rfl, by decide +kernel, by decide +kernel, by decide +kernel⟩
theorem cvX12_251 : gCV RX12 251 12 0 yX12_isThere cX12_isThere 1 (some .boolean) := ⟨RX12, TX12, 48, rfl, gi_V m_24_18 m_24_19 m_24_20 m_1_5 m_24_21, rfl, by decide +kernel, by decide +kernel, by decide +kernel⟩
theorem cvX12_254 : gCV RX12 254 12 3 yX12_readNew cX12_readNew 4 (some .boolean) := ⟨RX12, TX12, 48, rfl, gi_V m_23_22 m_23_23 m_24_0 m_1_5 m_24_1, rfl, by decide +kernel, by decide +kernel, by decide +kernel⟩
theorem cvX12_260 : gCV RX12 260 12 2 yX12_readNumber cX12_readNumber 5 (some .boolean) := ⟨RX12, TX12, 48, rfl, gi_V m_25_1 m_25_2 m_25_3 m_1_5 m_25_4, rfl, by decide +kernel, by decide +kernel, by decide +kernel⟩
theorem cvX12_266 : gCV RX12 266 12 0 yX12_readLoan cX12_readLoan 2 (some .boolean) := ⟨RX12, TX12, 48, rfl, gi_V m_25_5 m_25_6 m_25_7 m_1_5 m_25_8, rfl, by decide +kernel, by decide +kernel, by decide +kernel⟩
theorem cvX12_269 : gCV RX12 269 12 0 yX12_readAccount cX12_readAccount 3 (some .boolean) := ⟨RX12, TX12, 48, rfl, gi_V m_25_17 m_25_18 m_25_19 m_1_5 m_25_20, rfl, by decide +kernel, by decide +kernel, by decide +kernel⟩
theorem cvX12_272 : gCV RX12 272 12 0 yX12_ends cX12_ends 1 (some .boolean) := ⟨RX12, TX12, 48, rfl, gi_V m_26_5 m_26_6 m_26_7 m_1_5 m_26_8, rfl, by decide +kernel, by decide +kernel, by decide +kernel⟩
theorem cvX12_275 : gCV RX12 275 12 3 yX12_readOf cX12_readOf 4 (some .boolean) := ⟨RX12, TX12, 48, rfl, gi_V m_25_9 m_25_10 m_25_11 m_1_5 m_25_12, rfl, by decide +kernel, by decide +kernel, by decide +kernel⟩
theorem cvX12_278 : gCV RX12 278 12 1 yX12_takes cX12_takes 2 (some .boolean) := ⟨RX12, TX12, 48, rfl, gi_V m_25_13 m_25_14 m_25_15 m_1_5 m_25_16, rfl, by decide +kernel, by decide +kernel, by decide +kernel⟩
theorem cvX12_281 : gCV RX12 281 12 1 yX12_readOwners cX12_readOwners 5 (some .boolean) := ⟨RX12, TX12, 48, rfl, gi_V m_25_21 m_25_22 m_25_23 m_1_5 m_26_0, rfl, by decide +kernel, by decide +kernel, by decide +kernel⟩
theorem cvX12_284 : gCV RX12 284 12 1 yX12_readHeirs cX12_readHeirs 2 (some .boolean) := ⟨RX12, TX12, 48, rfl, gi_V m_26_1 m_26_2 m_26_3 m_1_5 m_26_4, rfl, by decide +kernel, by decide +kernel, by decide +kernel⟩
theorem cvX12_290 : gCV RX12 290 12 0 yX12_begins cX12_begins 1 none := ⟨RX12, TX12, 48, rfl, gi_V m_22_6 m_22_7 m_22_8 m_1_5 m_22_9, rfl, by decide +kernel, by decide +kernel, by decide +kernel⟩
theorem cvX12_293 : gCV RX12 293 12 0 yX12_readLine cX12_readLine 1 (some .boolean) := ⟨RX12, TX12, 48, rfl, gi_V m_23_6 m_23_7 m_23_8 m_1_5 m_23_9, rfl, by decide +kernel, by decide +kernel, by decide +kernel⟩
theorem cvX12_296 : gCV RX12 296 12 0 yX12_isRead cX12_isRead 1 (some .boolean) := ⟨RX12, TX12, 48, rfl, gi_V m_26_9 m_26_10 m_26_11 m_1_5 m_26_12, rfl, by decide +kernel, by decide +kernel, by decide +kernel⟩
theorem cvX12_299 : gCV RX12 299 12 2 yX12_takesOver cX12_takesOver 4 none := ⟨RX12, TX12, 48, rfl, gi_V m_26_14 m_26_15 m_26_16 m_1_5 m_26_17, rfl, by decide +kernel, by decide +kernel, by decide +kernel⟩
theorem cvX12_309 : gCV RX12 309 12 2 yX12_endOf cX12_endOf 5 (some .int) := ⟨RX12, TX12, 48, rfl, gi_V m_42_8 m_42_9 m_42_10 m_1_5 m_42_11, rfl, by decide +kernel, by decide +kernel, by decide +kernel⟩
theorem cvX12_312 : gCS RX12 312 1 yX12_one cX12_one 1 (some .int) := ⟨gi_S m_42_17 m_42_18 m_1_5 m_42_19, by decide +kernel, by decide +kernel, by decide +kernel⟩
theorem cvX12_319 : gCV RX12 319 12 1 yX12_kindOf cX12_kindOf 2 (some .int) := ⟨RX12, TX12, 48, rfl, gi_V m_41_19 m_41_20 m_41_21 m_1_5 m_41_22, rfl, by decide +kernel, by decide +kernel, by decide +kernel⟩
theorem cvX12_322 : gCV RX12 322 12 2 yX12_ownerAt cX12_ownerAt 4 (some .int) := ⟨RX12, TX12, 48, rfl, gi_V m_42_0 m_42_1 m_42_2 m_1_5 m_42_3, rfl, by decide +kernel, by decide +kernel, by decide +kernel⟩
theorem cvX12_325 : gCV RX12 325 12 2 yX12_countedAt cX12_countedAt 4 (some .int) := ⟨RX12, TX12, 48, rfl, gi_V m_42_4 m_42_5 m_42_6 m_1_5 m_42_7, rfl, by decide +kernel, by decide +kernel, by decide +kernel⟩
theorem cvX12_328 : gCV RX12 328 12 5 yX12_isInGroup cX12_isInGroup 6 (some .boolean) := ⟨RX12, TX12, 48, rfl, gi_V m_41_15 m_41_16 m_41_17 m_1_5 m_41_18, rfl, by decide +kernel, by decide +kernel, by decide +kernel⟩
theorem cvX12_332 : gCV RX12 332 12 2 yX12_shareOf cX12_shareOf 3 (some .int) := ⟨RX12, TX12, 48, rfl, gi_V m_42_13 m_42_14 m_42_15 m_1_5 m_42_16, rfl, by decide +kernel, by decide +kernel, by decide +kernel⟩
theorem cvX12_343 : gCV RX12 343 12 4 yX12_insuresGroup cX12_insuresGroup 7 none := ⟨RX12, TX12, 48, rfl, gi_V m_41_11 m_41_12 m_41_13 m_1_5 m_41_14, rfl, by decide +kernel, by decide +kernel, by decide +kernel⟩
theorem cvX12_347 : gCV RX12 347 12 4 yX12_mostOf cX12_mostOf 11 (some .long) := ⟨RX12, TX12, 48, rfl, gi_V m_42_20 m_42_21 m_42_22 m_1_5 m_42_23, rfl, by decide +kernel, by decide +kernel, by decide +kernel⟩
theorem cvX12_351 : gCV RX12 351 12 2 yX12_divides cX12_divides 12 none := ⟨RX12, TX12, 48, rfl, gi_V m_43_1 m_43_2 m_43_3 m_1_5 m_43_4, rfl, by decide +kernel, by decide +kernel, by decide +kernel⟩
theorem cvX12_355 : gCV RX12 355 12 4 yX12_sumOf cX12_sumOf 8 (some .long) := ⟨RX12, TX12, 48, rfl, gi_V m_52_12 m_52_13 m_52_14 m_1_5 m_52_15, rfl, by decide +kernel, by decide +kernel, by decide +kernel⟩
theorem cvX12_358 : gCV RX12 358 12 2 yX12_insuredOf cX12_insuredOf 7 (some .long) := ⟨RX12, TX12, 48, rfl, gi_V m_53_18 m_53_19 m_53_20 m_1_5 m_53_21, rfl, by decide +kernel, by decide +kernel, by decide +kernel⟩
theorem cvX12_362 : gCV RX12 362 12 1 yX12_isAccount cX12_isAccount 2 (some .boolean) := ⟨RX12, TX12, 48, rfl, gi_V m_39_14 m_39_15 m_39_16 m_1_5 m_39_17, rfl, by decide +kernel, by decide +kernel, by decide +kernel⟩
theorem cvX12_366 : gCV RX12 366 12 1 yX12_nowAt cX12_nowAt 3 (some .int) := ⟨RX12, TX12, 48, rfl, gi_V m_39_18 m_39_19 m_39_20 m_1_5 m_39_21, rfl, by decide +kernel, by decide +kernel, by decide +kernel⟩
theorem cvX12_369 : gCV RX12 369 12 1 yX12_isBank cX12_isBank 2 (some .boolean) := ⟨RX12, TX12, 48, rfl, gi_V m_40_6 m_40_7 m_40_8 m_1_5 m_40_9, rfl, by decide +kernel, by decide +kernel, by decide +kernel⟩
theorem cvX12_372 : gCV RX12 372 12 1 yX12_isOpen cX12_isOpen 2 (some .boolean) := ⟨RX12, TX12, 48, rfl, gi_V m_40_10 m_40_11 m_40_12 m_1_5 m_40_13, rfl, by decide +kernel, by decide +kernel, by decide +kernel⟩
theorem cvX12_377 : gCV RX12 377 12 1 yX12_isLoan cX12_isLoan 2 (some .boolean) := ⟨RX12, TX12, 48, rfl, gi_V m_40_23 m_41_0 m_41_1 m_1_5 m_41_2, rfl, by decide +kernel, by decide +kernel, by decide +kernel⟩
theorem cvX12_380 : gCV RX12 380 12 1 yX12_insures cX12_insures 5 none := ⟨RX12, TX12, 48, rfl, gi_V m_41_7 m_41_8 m_41_9 m_1_5 m_41_10, rfl, by decide +kernel, by decide +kernel, by decide +kernel⟩
theorem cvX12_383 : gCV RX12 383 12 2 yX12_setsOff cX12_setsOff 5 none := ⟨RX12, TX12, 48, rfl, gi_V m_43_9 m_43_10 m_43_11 m_1_5 m_43_12, rfl, by decide +kernel, by decide +kernel, by decide +kernel⟩
theorem cvX12_387 : gCV RX12 387 12 0 yX12_keeps cX12_keeps 2 none := ⟨RX12, TX12, 48, rfl, gi_V m_43_13 m_43_14 m_43_15 m_1_5 m_43_16, rfl, by decide +kernel, by decide +kernel, by decide +kernel⟩
theorem cvX12_390 : gCV RX12 390 12 0 yX12_laysAside cX12_laysAside 2 none := ⟨RX12, TX12, 48, rfl, gi_V m_39_1 m_39_2 m_39_3 m_1_5 m_39_4, rfl, by decide +kernel, by decide +kernel, by decide +kernel⟩
theorem cvX12_393 : gCV RX12 393 12 2 yX12_puts cX12_puts 3 (some .boolean) := ⟨RX12, TX12, 48, rfl, gi_V m_39_9 m_39_10 m_39_11 m_1_5 m_39_12, rfl, by decide +kernel, by decide +kernel, by decide +kernel⟩
theorem cvX12_397 : gCV RX12 397 12 1 yX12_isDone cX12_isDone 2 (some .boolean) := ⟨RX12, TX12, 48, rfl, gi_V m_45_2 m_45_3 m_45_4 m_1_5 m_45_5, rfl, by decide +kernel, by decide +kernel, by decide +kernel⟩
theorem cvX12_401 : gCV RX12 401 12 2 yX12_takesFrom cX12_takesFrom 3 (some .boolean) := ⟨RX12, TX12, 48, rfl, gi_V m_39_22 m_39_23 m_40_0 m_1_5 m_40_1, rfl, by decide +kernel, by decide +kernel, by decide +kernel⟩
theorem cvX12_404 : gCV RX12 404 12 2 yX12_merges cX12_merges 3 (some .boolean) := ⟨RX12, TX12, 48, rfl, gi_V m_40_2 m_40_3 m_40_4 m_1_5 m_40_5, rfl, by decide +kernel, by decide +kernel, by decide +kernel⟩
theorem cvX12_407 : gCV RX12 407 12 1 yX12_passes cX12_passes 2 (some .boolean) := ⟨RX12, TX12, 48, rfl, gi_V m_40_14 m_40_15 m_40_16 m_1_5 m_40_17, rfl, by decide +kernel, by decide +kernel, by decide +kernel⟩
theorem cvX12_410 : gCV RX12 410 12 2 yX12_pays cX12_pays 3 (some .boolean) := ⟨RX12, TX12, 48, rfl, gi_V m_40_19 m_40_20 m_40_21 m_1_5 m_40_22, rfl, by decide +kernel, by decide +kernel, by decide +kernel⟩
theorem cvX12_413 : gCV RX12 413 12 2 yX12_falls cX12_falls 6 (some .boolean) := ⟨RX12, TX12, 48, rfl, gi_V m_41_3 m_41_4 m_41_5 m_1_5 m_41_6, rfl, by decide +kernel, by decide +kernel, by decide +kernel⟩
theorem cvX12_419 : gCV RX12 419 12 0 yX12_readBank cX12_readBank 1 (some .boolean) := ⟨RX12, TX12, 48, rfl, gi_V m_38_13 m_38_14 m_38_15 m_1_5 m_38_16, rfl, by decide +kernel, by decide +kernel, by decide +kernel⟩
theorem cvX12_422 : gCV RX12 422 12 2 yX12_lays cX12_lays 3 (some .boolean) := ⟨RX12, TX12, 48, rfl, gi_V m_38_17 m_38_18 m_38_19 m_1_5 m_38_20, rfl, by decide +kernel, by decide +kernel, by decide +kernel⟩
theorem cvX12_426 : gCV RX12 426 12 0 yX12_readHere cX12_readHere 1 (some .boolean) := ⟨RX12, TX12, 48, rfl, gi_V m_38_21 m_38_22 m_38_23 m_1_5 m_39_0, rfl, by decide +kernel, by decide +kernel, by decide +kernel⟩
theorem cvX12_429 : gCV RX12 429 12 0 yX12_readDeed cX12_readDeed 3 (some .boolean) := ⟨RX12, TX12, 48, rfl, gi_V m_38_9 m_38_10 m_38_11 m_1_5 m_38_12, rfl, by decide +kernel, by decide +kernel, by decide +kernel⟩
theorem cvX12_435 : gCV RX12 435 12 1 yX12_does cX12_does 4 (some .boolean) := ⟨RX12, TX12, 48, rfl, gi_V m_39_5 m_39_6 m_39_7 m_1_5 m_39_8, rfl, by decide +kernel, by decide +kernel, by decide +kernel⟩
theorem cvX12_438 : gCV RX12 438 12 1 yX12_insuredIn cX12_insuredIn 5 (some .long) := ⟨RX12, TX12, 48, rfl, gi_V m_48_13 m_48_14 m_48_15 m_1_5 m_48_16, rfl, by decide +kernel, by decide +kernel, by decide +kernel⟩
theorem cvX12_446 : gCV RX12 446 12 1 yX12_isPerson cX12_isPerson 2 (some .boolean) := ⟨RX12, TX12, 48, rfl, gi_V m_52_4 m_52_5 m_52_6 m_1_5 m_52_7, rfl, by decide +kernel, by decide +kernel, by decide +kernel⟩
theorem cvX12_453 : gCV RX12 453 12 4 yX12_accountsOf cX12_accountsOf 7 (some .int) := ⟨RX12, TX12, 48, rfl, gi_V m_52_8 m_52_9 m_52_10 m_1_5 m_52_11, rfl, by decide +kernel, by decide +kernel, by decide +kernel⟩
theorem cvX12_457 : gCV RX12 457 12 1 yX12_sharesOf cX12_sharesOf 5 (some .long) := ⟨RX12, TX12, 48, rfl, gi_V m_53_14 m_53_15 m_53_16 m_1_5 m_53_17, rfl, by decide +kernel, by decide +kernel, by decide +kernel⟩
theorem cvX12_460 : gCV RX12 460 12 1 yX12_sums cX12_sums 5 (some .long) := ⟨RX12, TX12, 48, rfl, gi_V m_55_8 m_55_9 m_55_10 m_1_5 m_55_11, rfl, by decide +kernel, by decide +kernel, by decide +kernel⟩
theorem cvX12_465 : gCV RX12 465 12 1 yX12_laysMoves cX12_laysMoves 5 none := ⟨RX12, TX12, 48, rfl, gi_V m_57_9 m_57_10 m_57_11 m_1_5 m_57_12, rfl, by decide +kernel, by decide +kernel, by decide +kernel⟩
theorem cvX12_468 : gCV RX12 468 12 0 yX12_insuredAll cX12_insuredAll 4 (some .long) := ⟨RX12, TX12, 48, rfl, gi_V m_59_6 m_59_7 m_59_8 m_1_5 m_59_9, rfl, by decide +kernel, by decide +kernel, by decide +kernel⟩
theorem cvX12_472 : gCS RX12 472 1 yX12_isPlain cX12_isPlain 1 (some .boolean) := ⟨gi_S m_59_3 m_59_4 m_1_5 m_59_5, by decide +kernel, by decide +kernel, by decide +kernel⟩
theorem cvX12_475 : gCV RX12 475 12 2 yX12_insuredAs cX12_insuredAs 5 (some .long) := ⟨RX12, TX12, 48, rfl, gi_V m_59_10 m_59_11 m_59_12 m_1_5 m_59_13, rfl, by decide +kernel, by decide +kernel, by decide +kernel⟩
theorem cvX12_478 : gCV RX12 478 12 1 yX12_isChange cX12_isChange 3 (some .boolean) := ⟨RX12, TX12, 48, rfl, gi_V m_59_22 m_59_23 m_60_0 m_1_5 m_60_1, rfl, by decide +kernel, by decide +kernel, by decide +kernel⟩
theorem cvX1_100 : gCV RX1 100 1 2 yX1_share cX1_share 5 (some .int) := ⟨RX1, TX1, 7, rfl, gi_V m_34_10 m_34_11 m_34_12 m_2_14 m_34_13, rfl, by decide +kernel, by decide +kernel, by decide +kernel⟩
theorem cvX1_103 : gCV RX1 103 4 1 yX4_add cX4_add 3 none := ⟨RX4, TX4, 5, rfl, gi_V m_34_15 m_34_16 m_34_17 m_6_18 m_34_18, rfl, by decide +kernel, by decide +kernel, by decide +kernel⟩
theorem cvX1_110 : gCV RX1 110 1 1 yX1_unlikeHeirs cX1_unlikeHeirs 10 (some .int) := ⟨RX1, TX1, 7, rfl, gi_V m_35_0 m_35_1 m_35_2 m_2_14 m_35_3, rfl, by decide +kernel, by decide +kernel, by decide +kernel⟩
theorem cvX1_114 : gCV RX1 114 10 1 yX10_isPerson cX10_isPerson 2 (some .boolean) := ⟨RX10, TX10, 20, rfl, gi_V m_35_7 m_35_8 m_35_9 m_1_18 m_35_10, rfl, by decide +kernel, by decide +kernel, by decide +kernel⟩
theorem cvX1_125 : gCV RX1 125 1 2 yX1_isAmongHeirs cX1_isAmongHeirs 5 (some .boolean) := ⟨RX1, TX1, 7, rfl, gi_V m_35_11 m_35_12 m_35_13 m_2_14 m_35_14, rfl, by decide +kernel, by decide +kernel, by decide +kernel⟩
theorem cvX1_129 : gCV RX1 129 1 1 yX1_setMonth cX1_setMonth 3 none := ⟨RX1, TX1, 7, rfl, gi_V m_32_18 m_32_19 m_32_20 m_2_14 m_32_21, rfl, by decide +kernel, by decide +kernel, by decide +kernel⟩
theorem cvX1_133 : gCS RX1 133 2 yJ7_fill_53178 cJ7_fill_53178 4 none := ⟨gi_S m_33_16 m_5_10 m_5_11 m_5_12, by decide +kernel, by decide +kernel, by decide +kernel⟩
theorem cvX1_142 : gCV RX1 142 1 3 yX1_insureGroup cX1_insureGroup 5 none := ⟨RX1, TX1, 7, rfl, gi_V m_33_17 m_33_18 m_33_19 m_2_14 m_33_20, rfl, by decide +kernel, by decide +kernel, by decide +kernel⟩
theorem cvX1_146 : gCV RX1 146 1 3 yX1_gather cX1_gather 6 none := ⟨RX1, TX1, 7, rfl, gi_V m_33_23 m_34_0 m_34_1 m_2_14 m_34_2, rfl, by decide +kernel, by decide +kernel, by decide +kernel⟩
theorem cvX1_149 : gCV RX1 149 1 2 yX1_most cX1_most 3 (some .long) := ⟨RX1, TX1, 7, rfl, gi_V m_34_19 m_34_20 m_34_21 m_2_14 m_34_22, rfl, by decide +kernel, by decide +kernel, by decide +kernel⟩
theorem cvX1_153 : gCV RX1 153 4 1 yX4_divide cX4_divide 8 none := ⟨RX4, TX4, 5, rfl, gi_V m_35_15 m_35_16 m_35_17 m_6_18 m_35_18, rfl, by decide +kernel, by decide +kernel, by decide +kernel⟩
theorem cvX1_159 : gCV RX1 159 1 1 yX1_insuredOfAccount cX1_insuredOfAccount 4 (some .int) := ⟨RX1, TX1, 7, rfl, gi_V m_58_22 m_48_2 m_48_3 m_2_14 m_48_4, rfl, by decide +kernel, by decide +kernel, by decide +kernel⟩
theorem cvX1_162 : gCV RX1 162 1 1 yX1_sharesOf cX1_sharesOf 6 (some .long) := ⟨RX1, TX1, 7, rfl, gi_V m_53_8 m_52_21 m_52_22 m_2_14 m_52_23, rfl, by decide +kernel, by decide +kernel, by decide +kernel⟩
theorem cvX1_166 : gCV RX1 166 1 1 yX1_insuredOf cX1_insuredOf 6 (some .long) := ⟨RX1, TX1, 7, rfl, gi_V m_53_9 m_53_1 m_53_2 m_2_14 m_53_3, rfl, by decide +kernel, by decide +kernel, by decide +kernel⟩
theorem cvX1_69 : gCV RX1 69 8 1 yX8_isMerged cX8_isMerged 2 (some .boolean) := ⟨RX8, TX8, 7, rfl, gi_V m_33_4 m_30_14 m_30_15 m_1_22 m_30_16, rfl, by decide +kernel, by decide +kernel, by decide +kernel⟩
theorem cvX1_73 : gCV RX1 73 1 2 yX1_endOf cX1_endOf 5 (some .int) := ⟨RX1, TX1, 7, rfl, gi_V m_33_5 m_33_6 m_33_7 m_2_14 m_33_8, rfl, by decide +kernel, by decide +kernel, by decide +kernel⟩
theorem cvX1_79 : gCV RX1 79 1 2 yX1_countedAt cX1_countedAt 5 (some .int) := ⟨RX1, TX1, 7, rfl, gi_V m_32_22 m_32_23 m_33_0 m_2_14 m_33_1, rfl, by decide +kernel, by decide +kernel, by decide +kernel⟩
theorem cvX1_85 : gCV RX1 85 1 2 yX1_leaves cX1_leaves 4 (some .int) := ⟨RX1, TX1, 7, rfl, gi_V m_54_6 m_48_6 m_48_7 m_2_14 m_48_8, rfl, by decide +kernel, by decide +kernel, by decide +kernel⟩
theorem cvX1_88 : gCV RX1 88 4 0 yX4_clear cX4_clear 1 none := ⟨RX4, TX4, 5, rfl, gi_V m_34_3 m_34_4 m_34_5 m_6_18 m_34_6, rfl, by decide +kernel, by decide +kernel, by decide +kernel⟩
theorem cvX1_94 : gCV RX1 94 10 2 yX10_ownerOf cX10_ownerOf 5 (some .int) := ⟨RX10, TX10, 20, rfl, gi_V m_34_9 m_18_15 m_18_16 m_1_18 m_18_17, rfl, by decide +kernel, by decide +kernel, by decide +kernel⟩
theorem cvX2_100 : gCV RX2 100 9 1 yX9_passKnown cX9_passKnown 2 (some .boolean) := ⟨RX9, TX9, 11, rfl, gi_V m_28_4 m_18_5 m_18_6 m_1_14 m_18_7, rfl, by decide +kernel, by decide +kernel, by decide +kernel⟩
theorem cvX2_103 : gCV RX2 103 10 1 yX10_bankNamed cX10_bankNamed 3 (some .int) := ⟨RX10, TX10, 20, rfl, gi_V m_28_9 m_17_8 m_17_9 m_1_18 m_17_10, rfl, by decide +kernel, by decide +kernel, by decide +kernel⟩
theorem cvX2_106 : gCV RX2 106 9 1 yX9_passWord cX9_passWord 2 (some .boolean) := ⟨RX9, TX9, 11, rfl, gi_V m_28_10 m_18_0 m_18_1 m_1_14 m_18_2, rfl, by decide +kernel, by decide +kernel, by decide +kernel⟩
theorem cvX2_29 : gCV RX2 29 9 0 yX9_forgetFault cX9_forgetFault 1 none := ⟨RX9, TX9, 11, rfl, gi_V m_27_12 m_12_16 m_12_17 m_1_14 m_12_18, rfl, by decide +kernel, by decide +kernel, by decide +kernel⟩
theorem cvX2_34 : gCV RX2 34 9 0 yX9_begin cX9_begin 1 none := ⟨RX9, TX9, 11, rfl, gi_V m_27_13 m_12_21 m_12_22 m_1_14 m_12_23, rfl, by decide +kernel, by decide +kernel, by decide +kernel⟩
theorem cvX2_47 : gCV RX2 47 2 1 yX2_readDeed cX2_readDeed 2 (some .boolean) := ⟨RX2, TX2, 8, rfl, gi_V m_27_14 m_27_15 m_27_16 m_2_10 m_27_17, rfl, by decide +kernel, by decide +kernel, by decide +kernel⟩
theorem cvX2_51 : gCV RX2 51 9 0 yX9_passSemicolon cX9_passSemicolon 1 (some .boolean) := ⟨RX9, TX9, 11, rfl, gi_V m_29_0 m_21_12 m_21_13 m_1_14 m_21_14, rfl, by decide +kernel, by decide +kernel, by decide +kernel⟩
theorem cvX2_61 : gCV RX2 61 9 1 yX9_refuse cX9_refuse 2 (some .boolean) := ⟨RX9, TX9, 11, rfl, gi_V m_28_23 m_17_20 m_17_21 m_1_14 m_17_22, rfl, by decide +kernel, by decide +kernel, by decide +kernel⟩
theorem cvX2_64 : gCV RX2 64 2 0 yX2_readCoinsOfAccount cX2_readCoinsOfAccount 1 (some .boolean) := ⟨RX2, TX2, 8, rfl, gi_V m_27_18 m_27_19 m_27_20 m_2_10 m_27_21, rfl, by decide +kernel, by decide +kernel, by decide +kernel⟩
theorem cvX2_67 : gCV RX2 67 2 0 yX2_readMerger cX2_readMerger 1 (some .boolean) := ⟨RX2, TX2, 8, rfl, gi_V m_28_5 m_28_6 m_28_7 m_2_10 m_28_8, rfl, by decide +kernel, by decide +kernel, by decide +kernel⟩
theorem cvX2_70 : gCV RX2 70 2 0 yX2_readMonths cX2_readMonths 1 (some .boolean) := ⟨RX2, TX2, 8, rfl, gi_V m_28_11 m_28_12 m_28_13 m_2_10 m_28_14, rfl, by decide +kernel, by decide +kernel, by decide +kernel⟩
theorem cvX2_73 : gCV RX2 73 2 0 yX2_readPayment cX2_readPayment 1 (some .boolean) := ⟨RX2, TX2, 8, rfl, gi_V m_28_15 m_28_16 m_28_17 m_2_10 m_28_18, rfl, by decide +kernel, by decide +kernel, by decide +kernel⟩
theorem cvX2_76 : gCV RX2 76 2 0 yX2_readFailing cX2_readFailing 1 (some .boolean) := ⟨RX2, TX2, 8, rfl, gi_V m_28_19 m_28_20 m_28_21 m_2_10 m_28_22, rfl, by decide +kernel, by decide +kernel, by decide +kernel⟩
theorem cvX2_79 : gCV RX2 79 9 0 yX9_step cX9_step 1 none := ⟨RX9, TX9, 11, rfl, gi_V m_28_1 m_13_2 m_13_3 m_1_14 m_13_4, rfl, by decide +kernel, by decide +kernel, by decide +kernel⟩
theorem cvX2_83 : gCV RX2 83 9 2 yX9_passNumber cX9_passNumber 3 (some .boolean) := ⟨RX9, TX9, 11, rfl, gi_V m_28_2 m_19_20 m_19_21 m_1_14 m_19_22, rfl, by decide +kernel, by decide +kernel, by decide +kernel⟩
theorem cvX2_94 : gCV RX2 94 10 1 yX10_accountNamed cX10_accountNamed 3 (some .int) := ⟨RX10, TX10, 20, rfl, gi_V m_28_3 m_17_12 m_17_13 m_1_18 m_17_14, rfl, by decide +kernel, by decide +kernel, by decide +kernel⟩
theorem cvX3_104 : gCV RX3 104 3 3 yX3_windUp cX3_windUp 6 none := ⟨RX3, TX3, 4, rfl, gi_V m_36_1 m_36_2 m_36_3 m_2_18 m_36_4, rfl, by decide +kernel, by decide +kernel, by decide +kernel⟩
theorem cvX3_123 : gCV RX3 123 5 1 yX5_clear cX5_clear 2 none := ⟨RX5, TX5, 7, rfl, gi_V m_36_10 m_5_5 m_5_6 m_3_2 m_5_7, rfl, by decide +kernel, by decide +kernel, by decide +kernel⟩
theorem cvX3_126 : gCV RX3 126 3 1 yX3_split cX3_split 5 none := ⟨RX3, TX3, 4, rfl, gi_V m_36_11 m_36_12 m_36_13 m_2_18 m_36_14, rfl, by decide +kernel, by decide +kernel, by decide +kernel⟩
theorem cvX3_142 : gCV RX3 142 3 4 yX3_setOff cX3_setOff 10 (some .int) := ⟨RX3, TX3, 4, rfl, gi_V m_36_21 m_36_22 m_36_23 m_2_18 m_37_0, rfl, by decide +kernel, by decide +kernel, by decide +kernel⟩
theorem cvX3_149 : gCV RX3 149 3 2 yX3_divide cX3_divide 5 none := ⟨RX3, TX3, 4, rfl, gi_V m_37_5 m_37_6 m_37_7 m_2_18 m_37_8, rfl, by decide +kernel, by decide +kernel, by decide +kernel⟩
theorem cvX3_167 : gCV RX3 167 1 2 yX1_share cX1_share 5 (some .int) := ⟨RX1, TX1, 7, rfl, gi_V m_36_20 m_34_11 m_34_12 m_2_14 m_34_13, rfl, by decide +kernel, by decide +kernel, by decide +kernel⟩
theorem cvX3_171 : gCV RX3 171 10 2 yX10_ownerOf cX10_ownerOf 5 (some .int) := ⟨RX10, TX10, 20, rfl, gi_V m_37_4 m_18_15 m_18_16 m_1_18 m_18_17, rfl, by decide +kernel, by decide +kernel, by decide +kernel⟩
theorem cvX3_179 : gCV RX3 179 4 0 yX4_clear cX4_clear 1 none := ⟨RX4, TX4, 5, rfl, gi_V m_37_11 m_34_4 m_34_5 m_6_18 m_34_6, rfl, by decide +kernel, by decide +kernel, by decide +kernel⟩
theorem cvX3_181 : gCV RX3 181 4 1 yX4_add cX4_add 3 none := ⟨RX4, TX4, 5, rfl, gi_V m_37_12 m_34_16 m_34_17 m_6_18 m_34_18, rfl, by decide +kernel, by decide +kernel, by decide +kernel⟩
theorem cvX3_185 : gCV RX3 185 5 1 yX5_all cX5_all 6 (some .long) := ⟨RX5, TX5, 7, rfl, gi_V m_37_13 m_37_14 m_37_15 m_3_2 m_37_16, rfl, by decide +kernel, by decide +kernel, by decide +kernel⟩
theorem cvX3_189 : gCV RX3 189 4 1 yX4_divide cX4_divide 8 none := ⟨RX4, TX4, 5, rfl, gi_V m_37_21 m_35_16 m_35_17 m_6_18 m_35_18, rfl, by decide +kernel, by decide +kernel, by decide +kernel⟩
theorem cvX3_30 : gCV RX3 30 3 2 yX3_putCoins cX3_putCoins 3 (some .boolean) := ⟨RX3, TX3, 4, rfl, gi_V m_29_19 m_29_20 m_29_21 m_2_18 m_29_22, rfl, by decide +kernel, by decide +kernel, by decide +kernel⟩
theorem cvX3_34 : gCV RX3 34 3 2 yX3_takeCoins cX3_takeCoins 3 (some .boolean) := ⟨RX3, TX3, 4, rfl, gi_V m_30_21 m_30_22 m_30_23 m_2_18 m_31_0, rfl, by decide +kernel, by decide +kernel, by decide +kernel⟩
theorem cvX3_37 : gCV RX3 37 3 2 yX3_mergeBanks cX3_mergeBanks 3 (some .boolean) := ⟨RX3, TX3, 4, rfl, gi_V m_31_1 m_31_2 m_31_3 m_2_18 m_31_4, rfl, by decide +kernel, by decide +kernel, by decide +kernel⟩
theorem cvX3_40 : gCV RX3 40 3 1 yX3_passMonths cX3_passMonths 2 (some .boolean) := ⟨RX3, TX3, 4, rfl, gi_V m_31_12 m_31_13 m_31_14 m_2_18 m_31_15, rfl, by decide +kernel, by decide +kernel, by decide +kernel⟩
theorem cvX3_44 : gCV RX3 44 3 2 yX3_payLoan cX3_payLoan 3 (some .boolean) := ⟨RX3, TX3, 4, rfl, gi_V m_31_16 m_31_17 m_31_18 m_2_18 m_31_19, rfl, by decide +kernel, by decide +kernel, by decide +kernel⟩
theorem cvX3_47 : gCV RX3 47 3 2 yX3_failBank cX3_failBank 4 (some .boolean) := ⟨RX3, TX3, 4, rfl, gi_V m_32_1 m_32_2 m_32_3 m_2_18 m_32_4, rfl, by decide +kernel, by decide +kernel, by decide +kernel⟩
theorem cvX3_51 : gCV RX3 51 10 1 yX10_isAccount cX10_isAccount 2 (some .boolean) := ⟨RX10, TX10, 20, rfl, gi_V m_30_2 m_30_3 m_30_4 m_1_18 m_30_5, rfl, by decide +kernel, by decide +kernel, by decide +kernel⟩
theorem cvX3_56 : gCS RX3 56 1 yX3_isAmount cX3_isAmount 1 (some .boolean) := ⟨gi_S m_30_6 m_30_7 m_2_18 m_30_8, by decide +kernel, by decide +kernel, by decide +kernel⟩
theorem cvX3_68 : gCV RX3 68 8 1 yX8_nowAt cX8_nowAt 4 (some .int) := ⟨RX8, TX8, 7, rfl, gi_V m_30_9 m_30_10 m_30_11 m_1_22 m_30_12, rfl, by decide +kernel, by decide +kernel, by decide +kernel⟩
theorem cvX3_72 : gCV RX3 72 8 1 yX8_isOpen cX8_isOpen 2 (some .boolean) := ⟨RX8, TX8, 7, rfl, gi_V m_30_17 m_30_18 m_30_19 m_1_22 m_30_20, rfl, by decide +kernel, by decide +kernel, by decide +kernel⟩
theorem cvX3_75 : gCV RX3 75 10 1 yX10_isBank cX10_isBank 2 (some .boolean) := ⟨RX10, TX10, 20, rfl, gi_V m_31_8 m_31_9 m_31_10 m_1_18 m_31_11, rfl, by decide +kernel, by decide +kernel, by decide +kernel⟩
theorem cvX3_88 : gCV RX3 88 10 1 yX10_isLoan cX10_isLoan 2 (some .boolean) := ⟨RX10, TX10, 20, rfl, gi_V m_31_21 m_31_22 m_31_23 m_1_18 m_32_0, rfl, by decide +kernel, by decide +kernel, by decide +kernel⟩
theorem cvX3_94 : gCV RX3 94 1 1 yX1_insure cX1_insure 4 none := ⟨RX1, TX1, 7, rfl, gi_V m_32_10 m_32_11 m_32_12 m_2_14 m_32_13, rfl, by decide +kernel, by decide +kernel, by decide +kernel⟩
theorem cvX4_35 : gCV RX4 35 4 0 yX4_greatestRest cX4_greatestRest 3 (some .int) := ⟨RX4, TX4, 5, rfl, gi_V m_35_21 m_35_22 m_35_23 m_6_18 m_36_0, rfl, by decide +kernel, by decide +kernel, by decide +kernel⟩
theorem cvX5_39 : gCS RX5 39 2 yJ7_fill_53178 cJ7_fill_53178 4 none := ⟨gi_S m_5_9 m_5_10 m_5_11 m_5_12, by decide +kernel, by decide +kernel, by decide +kernel⟩
theorem cvX5_51 : gCV RX5 51 5 1 yX5_row cX5_row 2 (some (.array .int)) := ⟨RX5, TX5, 7, rfl, gi_V m_37_17 m_37_18 m_37_19 m_3_2 m_37_20, rfl, by decide +kernel, by decide +kernel, by decide +kernel⟩
theorem cvX6_46 : gCV RX6 46 1 1 yX1_setMonth cX1_setMonth 3 none := ⟨RX1, TX1, 7, rfl, gi_V m_56_17 m_32_19 m_32_20 m_2_14 m_32_21, rfl, by decide +kernel, by decide +kernel, by decide +kernel⟩
theorem cvX6_57 : gCV RX6 57 1 3 yX1_gather cX1_gather 6 none := ⟨RX1, TX1, 7, rfl, gi_V m_56_18 m_34_0 m_34_1 m_2_14 m_34_2, rfl, by decide +kernel, by decide +kernel, by decide +kernel⟩
theorem cvX6_80 : gCV RX6 80 8 1 yX8_isOpen cX8_isOpen 2 (some .boolean) := ⟨RX8, TX8, 7, rfl, gi_V m_56_19 m_30_18 m_30_19 m_1_22 m_30_20, rfl, by decide +kernel, by decide +kernel, by decide +kernel⟩
theorem cvX7_25 : gCV RX7 25 8 1 yX8_copy cX8_copy 2 none := ⟨RX8, TX8, 7, rfl, gi_V m_29_6 m_29_7 m_29_8 m_1_22 m_29_9, rfl, by decide +kernel, by decide +kernel, by decide +kernel⟩
theorem cvX8_50 : gCS RX8 50 2 yJ7_fill_53178 cJ7_fill_53178 4 none := ⟨gi_S m_8_16 m_5_10 m_5_11 m_5_12, by decide +kernel, by decide +kernel, by decide +kernel⟩
theorem cvX8_56 : gCV RX8 56 5 1 yX5_clear cX5_clear 2 none := ⟨RX5, TX5, 7, rfl, gi_V m_8_17 m_5_5 m_5_6 m_3_2 m_5_7, rfl, by decide +kernel, by decide +kernel, by decide +kernel⟩
theorem cvX8_60 : gCV RX8 60 5 1 yX5_copy cX5_copy 2 none := ⟨RX5, TX5, 7, rfl, gi_V m_29_10 m_29_11 m_29_12 m_3_2 m_29_13, rfl, by decide +kernel, by decide +kernel, by decide +kernel⟩
theorem cvX8_64 : gCV RX8 64 8 1 yX8_isMerged cX8_isMerged 2 (some .boolean) := ⟨RX8, TX8, 7, rfl, gi_V m_30_13 m_30_14 m_30_15 m_1_22 m_30_16, rfl, by decide +kernel, by decide +kernel, by decide +kernel⟩
theorem cvX9_28 : gCV RX9 28 9 0 yX9_step cX9_step 1 none := ⟨RX9, TX9, 11, rfl, gi_V m_13_1 m_13_2 m_13_3 m_1_14 m_13_4, rfl, by decide +kernel, by decide +kernel, by decide +kernel⟩
theorem cvX9_31 : gCS RX9 31 1 yX9_isBlank cX9_isBlank 1 (some .boolean) := ⟨gi_S m_13_10 m_13_11 m_1_14 m_13_12, by decide +kernel, by decide +kernel, by decide +kernel⟩
theorem cvX9_51 : gCS RX9 51 1 yX9_isLetter cX9_isLetter 1 (some .boolean) := ⟨gi_S m_13_13 m_13_14 m_1_14 m_13_15, by decide +kernel, by decide +kernel, by decide +kernel⟩
theorem cvX9_54 : gCV RX9 54 9 0 yX9_scanWord cX9_scanWord 1 none := ⟨RX9, TX9, 11, rfl, gi_V m_13_16 m_13_17 m_13_18 m_1_14 m_13_19, rfl, by decide +kernel, by decide +kernel, by decide +kernel⟩
theorem cvX9_57 : gCV RX9 57 9 0 yX9_reserved cX9_reserved 6 (some .int) := ⟨RX9, TX9, 11, rfl, gi_V m_13_21 m_13_22 m_13_23 m_1_14 m_14_0, rfl, by decide +kernel, by decide +kernel, by decide +kernel⟩
theorem cvX9_61 : gCS RX9 61 1 yX9_isDigit cX9_isDigit 1 (some .boolean) := ⟨gi_S m_16_2 m_16_3 m_1_14 m_16_4, by decide +kernel, by decide +kernel, by decide +kernel⟩
theorem cvX9_64 : gCV RX9 64 9 0 yX9_scanNumber cX9_scanNumber 1 none := ⟨RX9, TX9, 11, rfl, gi_V m_16_5 m_16_6 m_16_7 m_1_14 m_16_8, rfl, by decide +kernel, by decide +kernel, by decide +kernel⟩
theorem cvX9_79 : gCV RX9 79 9 1 yX9_refuse cX9_refuse 2 (some .boolean) := ⟨RX9, TX9, 11, rfl, gi_V m_17_19 m_17_20 m_17_21 m_1_14 m_17_22, rfl, by decide +kernel, by decide +kernel, by decide +kernel⟩
theorem fX0_102 : gFL RX0 102 10 4 := ⟨RX10, TX10, 20, rfl, inlX10, by decide, m_20_21⟩
theorem fX0_105 : gFL RX0 105 10 5 := ⟨RX10, TX10, 20, rfl, inlX10, by decide, m_21_2⟩
theorem fX0_108 : gFL RX0 108 10 3 := ⟨RX10, TX10, 20, rfl, inlX10, by decide, m_21_7⟩
theorem fX0_12 : gFL RX0 12 0 0 := ⟨RX0, TX0, 2, rfl, inlX0, by decide, m_6_0⟩
theorem fX0_124 : gFL RX0 124 10 17 := ⟨RX10, TX10, 20, rfl, inlX10, by decide, m_21_8⟩
theorem fX0_128 : gFL RX0 128 10 18 := ⟨RX10, TX10, 20, rfl, inlX10, by decide, m_21_9⟩
theorem fX0_131 : gFL RX0 131 10 19 := ⟨RX10, TX10, 20, rfl, inlX10, by decide, m_21_10⟩
theorem fX0_134 : gFL RX0 134 10 2 := ⟨RX10, TX10, 20, rfl, inlX10, by decide, m_16_13⟩
theorem fX0_140 : gFL RX0 140 10 14 := ⟨RX10, TX10, 20, rfl, inlX10, by decide, m_16_15⟩
theorem fX0_152 : gFL RX0 152 10 8 := ⟨RX10, TX10, 20, rfl, inlX10, by decide, m_16_16⟩
theorem fX0_155 : gFL RX0 155 10 9 := ⟨RX10, TX10, 20, rfl, inlX10, by decide, m_16_17⟩
theorem fX0_158 : gFL RX0 158 10 10 := ⟨RX10, TX10, 20, rfl, inlX10, by decide, m_16_18⟩
theorem fX0_161 : gFL RX0 161 10 13 := ⟨RX10, TX10, 20, rfl, inlX10, by decide, m_18_12⟩
theorem fX0_18 : gFL RX0 18 0 1 := ⟨RX0, TX0, 2, rfl, inlX0, by decide, m_6_1⟩
theorem fX0_180 : gFL RX0 180 9 5 := ⟨RX9, TX9, 11, rfl, inlX9, by decide, m_19_15⟩
theorem fX0_183 : gFL RX0 183 10 11 := ⟨RX10, TX10, 20, rfl, inlX10, by decide, m_19_17⟩
theorem fX0_186 : gFL RX0 186 10 12 := ⟨RX10, TX10, 20, rfl, inlX10, by decide, m_20_4⟩
theorem fX0_33 : gFL RX0 33 9 3 := ⟨RX9, TX9, 11, rfl, inlX9, by decide, m_12_5⟩
theorem fX0_37 : gFL RX0 37 9 4 := ⟨RX9, TX9, 11, rfl, inlX9, by decide, m_12_6⟩
theorem fX0_69 : gFL RX0 69 10 0 := ⟨RX10, TX10, 20, rfl, inlX10, by decide, m_20_9⟩
theorem fX0_72 : gFL RX0 72 9 7 := ⟨RX9, TX9, 11, rfl, inlX9, by decide, m_16_14⟩
theorem fX0_84 : gFL RX0 84 10 6 := ⟨RX10, TX10, 20, rfl, inlX10, by decide, m_20_10⟩
theorem fX0_88 : gFL RX0 88 10 1 := ⟨RX10, TX10, 20, rfl, inlX10, by decide, m_20_15⟩
theorem fX0_91 : gFL RX0 91 10 7 := ⟨RX10, TX10, 20, rfl, inlX10, by decide, m_20_16⟩
theorem fX0_99 : gFL RX0 99 9 6 := ⟨RX9, TX9, 11, rfl, inlX9, by decide, m_19_18⟩
theorem fX10_10 : gFL RX10 10 10 4 := ⟨RX10, TX10, 20, rfl, inlX10, by decide, m_3_14⟩
theorem fX10_16 : gFL RX10 16 10 5 := ⟨RX10, TX10, 20, rfl, inlX10, by decide, m_3_15⟩
theorem fX10_19 : gFL RX10 19 10 6 := ⟨RX10, TX10, 20, rfl, inlX10, by decide, m_3_17⟩
theorem fX10_23 : gFL RX10 23 10 7 := ⟨RX10, TX10, 20, rfl, inlX10, by decide, m_3_18⟩
theorem fX10_26 : gFL RX10 26 10 8 := ⟨RX10, TX10, 20, rfl, inlX10, by decide, m_3_19⟩
theorem fX10_29 : gFL RX10 29 10 9 := ⟨RX10, TX10, 20, rfl, inlX10, by decide, m_3_21⟩
theorem fX10_33 : gFL RX10 33 10 10 := ⟨RX10, TX10, 20, rfl, inlX10, by decide, m_3_22⟩
theorem fX10_36 : gFL RX10 36 10 11 := ⟨RX10, TX10, 20, rfl, inlX10, by decide, m_3_23⟩
theorem fX10_39 : gFL RX10 39 10 12 := ⟨RX10, TX10, 20, rfl, inlX10, by decide, m_4_0⟩
theorem fX10_42 : gFL RX10 42 10 13 := ⟨RX10, TX10, 20, rfl, inlX10, by decide, m_4_1⟩
theorem fX10_45 : gFL RX10 45 10 14 := ⟨RX10, TX10, 20, rfl, inlX10, by decide, m_4_2⟩
theorem fX10_48 : gFL RX10 48 10 15 := ⟨RX10, TX10, 20, rfl, inlX10, by decide, m_4_3⟩
theorem fX10_51 : gFL RX10 51 10 16 := ⟨RX10, TX10, 20, rfl, inlX10, by decide, m_4_4⟩
theorem fX10_54 : gFL RX10 54 10 17 := ⟨RX10, TX10, 20, rfl, inlX10, by decide, m_4_5⟩
theorem fX10_57 : gFL RX10 57 10 18 := ⟨RX10, TX10, 20, rfl, inlX10, by decide, m_4_6⟩
theorem fX10_60 : gFL RX10 60 10 19 := ⟨RX10, TX10, 20, rfl, inlX10, by decide, m_4_7⟩
theorem fX10_63 : gFL RX10 63 10 0 := ⟨RX10, TX10, 20, rfl, inlX10, by decide, m_12_11⟩
theorem fX10_66 : gFL RX10 66 10 1 := ⟨RX10, TX10, 20, rfl, inlX10, by decide, m_12_12⟩
theorem fX10_69 : gFL RX10 69 10 2 := ⟨RX10, TX10, 20, rfl, inlX10, by decide, m_12_13⟩
theorem fX10_72 : gFL RX10 72 10 3 := ⟨RX10, TX10, 20, rfl, inlX10, by decide, m_12_14⟩
theorem fX11_103 : gFL RX11 103 0 0 := ⟨RX0, TX0, 2, rfl, inlX0, by decide, m_11_23⟩
theorem fX11_112 : gFL RX11 112 10 2 := ⟨RX10, TX10, 20, rfl, inlX10, by decide, m_12_0⟩
theorem fX11_116 : gFL RX11 116 2 0 := ⟨RX2, TX2, 8, rfl, inlX2, by decide, m_26_22⟩
theorem fX11_119 : gFL RX11 119 11 10 := ⟨RX11, TX11, 11, rfl, inlX11, by decide, m_26_23⟩
theorem fX11_12 : gFL RX11 12 11 0 := ⟨RX11, TX11, 11, rfl, inlX11, by decide, m_1_15⟩
theorem fX11_126 : gFL RX11 126 2 1 := ⟨RX2, TX2, 8, rfl, inlX2, by decide, m_27_0⟩
theorem fX11_130 : gFL RX11 130 2 2 := ⟨RX2, TX2, 8, rfl, inlX2, by decide, m_27_1⟩
theorem fX11_133 : gFL RX11 133 2 3 := ⟨RX2, TX2, 8, rfl, inlX2, by decide, m_27_2⟩
theorem fX11_144 : gFL RX11 144 9 1 := ⟨RX9, TX9, 11, rfl, inlX9, by decide, m_43_21⟩
theorem fX11_147 : gFL RX11 147 9 2 := ⟨RX9, TX9, 11, rfl, inlX9, by decide, m_43_22⟩
theorem fX11_153 : gFL RX11 153 9 3 := ⟨RX9, TX9, 11, rfl, inlX9, by decide, m_44_7⟩
theorem fX11_156 : gFL RX11 156 9 7 := ⟨RX9, TX9, 11, rfl, inlX9, by decide, m_44_8⟩
theorem fX11_181 : gFL RX11 181 10 9 := ⟨RX10, TX10, 20, rfl, inlX10, by decide, m_47_14⟩
theorem fX11_184 : gFL RX11 184 10 10 := ⟨RX10, TX10, 20, rfl, inlX10, by decide, m_47_15⟩
theorem fX11_19 : gFL RX11 19 11 1 := ⟨RX11, TX11, 11, rfl, inlX11, by decide, m_1_19⟩
theorem fX11_191 : gFL RX11 191 8 0 := ⟨RX8, TX8, 7, rfl, inlX8, by decide, m_47_16⟩
theorem fX11_198 : gFL RX11 198 8 1 := ⟨RX8, TX8, 7, rfl, inlX8, by decide, m_47_17⟩
theorem fX11_201 : gFL RX11 201 10 13 := ⟨RX10, TX10, 20, rfl, inlX10, by decide, m_47_18⟩
theorem fX11_204 : gFL RX11 204 10 14 := ⟨RX10, TX10, 20, rfl, inlX10, by decide, m_47_19⟩
theorem fX11_207 : gFL RX11 207 10 12 := ⟨RX10, TX10, 20, rfl, inlX10, by decide, m_47_20⟩
theorem fX11_223 : gFL RX11 223 10 15 := ⟨RX10, TX10, 20, rfl, inlX10, by decide, m_48_21⟩
theorem fX11_229 : gFL RX11 229 1 0 := ⟨RX1, TX1, 7, rfl, inlX1, by decide, m_48_22⟩
theorem fX11_235 : gFL RX11 235 8 3 := ⟨RX8, TX8, 7, rfl, inlX8, by decide, m_49_14⟩
theorem fX11_238 : gFL RX11 238 8 4 := ⟨RX8, TX8, 7, rfl, inlX8, by decide, m_49_15⟩
theorem fX11_241 : gFL RX11 241 8 5 := ⟨RX8, TX8, 7, rfl, inlX8, by decide, m_49_16⟩
theorem fX11_26 : gFL RX11 26 11 2 := ⟨RX11, TX11, 11, rfl, inlX11, by decide, m_1_23⟩
theorem fX11_275 : gFL RX11 275 1 1 := ⟨RX1, TX1, 7, rfl, inlX1, by decide, m_51_11⟩
theorem fX11_279 : gFL RX11 279 4 1 := ⟨RX4, TX4, 5, rfl, inlX4, by decide, m_51_12⟩
theorem fX11_294 : gFL RX11 294 4 0 := ⟨RX4, TX4, 5, rfl, inlX4, by decide, m_51_14⟩
theorem fX11_307 : gFL RX11 307 8 6 := ⟨RX8, TX8, 7, rfl, inlX8, by decide, m_54_15⟩
theorem fX11_314 : gFL RX11 314 5 0 := ⟨RX5, TX5, 7, rfl, inlX5, by decide, m_55_1⟩
theorem fX11_320 : gFL RX11 320 5 1 := ⟨RX5, TX5, 7, rfl, inlX5, by decide, m_55_2⟩
theorem fX11_326 : gFL RX11 326 10 17 := ⟨RX10, TX10, 20, rfl, inlX10, by decide, m_55_16⟩
theorem fX11_329 : gFL RX11 329 10 18 := ⟨RX10, TX10, 20, rfl, inlX10, by decide, m_51_1⟩
theorem fX11_33 : gFL RX11 33 11 3 := ⟨RX11, TX11, 11, rfl, inlX11, by decide, m_2_3⟩
theorem fX11_332 : gFL RX11 332 8 2 := ⟨RX8, TX8, 7, rfl, inlX8, by decide, m_51_2⟩
theorem fX11_338 : gFL RX11 338 6 1 := ⟨RX6, TX6, 9, rfl, inlX6, by decide, m_56_2⟩
theorem fX11_346 : gFL RX11 346 6 2 := ⟨RX6, TX6, 9, rfl, inlX6, by decide, m_56_3⟩
theorem fX11_359 : gFL RX11 359 6 0 := ⟨RX6, TX6, 9, rfl, inlX6, by decide, m_57_17⟩
theorem fX11_360 : gFL RX11 360 6 3 := ⟨RX6, TX6, 9, rfl, inlX6, by decide, m_57_18⟩
theorem fX11_363 : gFL RX11 363 6 4 := ⟨RX6, TX6, 9, rfl, inlX6, by decide, m_57_19⟩
theorem fX11_366 : gFL RX11 366 6 5 := ⟨RX6, TX6, 9, rfl, inlX6, by decide, m_57_20⟩
theorem fX11_374 : gFL RX11 374 10 0 := ⟨RX10, TX10, 20, rfl, inlX10, by decide, m_60_6⟩
theorem fX11_392 : gFL RX11 392 10 1 := ⟨RX10, TX10, 20, rfl, inlX10, by decide, m_61_14⟩
theorem fX11_402 : gFL RX11 402 10 3 := ⟨RX10, TX10, 20, rfl, inlX10, by decide, m_51_0⟩
theorem fX11_405 : gFL RX11 405 10 4 := ⟨RX10, TX10, 20, rfl, inlX10, by decide, m_62_1⟩
theorem fX11_408 : gFL RX11 408 10 5 := ⟨RX10, TX10, 20, rfl, inlX10, by decide, m_62_2⟩
theorem fX11_411 : gFL RX11 411 7 0 := ⟨RX7, TX7, 3, rfl, inlX7, by decide, m_62_3⟩
theorem fX11_42 : gFL RX11 42 11 4 := ⟨RX11, TX11, 11, rfl, inlX11, by decide, m_2_7⟩
theorem fX11_51 : gFL RX11 51 11 5 := ⟨RX11, TX11, 11, rfl, inlX11, by decide, m_2_11⟩
theorem fX11_60 : gFL RX11 60 11 6 := ⟨RX11, TX11, 11, rfl, inlX11, by decide, m_2_15⟩
theorem fX11_69 : gFL RX11 69 11 7 := ⟨RX11, TX11, 11, rfl, inlX11, by decide, m_2_19⟩
theorem fX11_76 : gFL RX11 76 11 8 := ⟨RX11, TX11, 11, rfl, inlX11, by decide, m_2_23⟩
theorem fX11_83 : gFL RX11 83 11 9 := ⟨RX11, TX11, 11, rfl, inlX11, by decide, m_3_3⟩
theorem fX11_91 : gFL RX11 91 9 0 := ⟨RX9, TX9, 11, rfl, inlX9, by decide, m_10_17⟩
theorem fX12_102 : gFL RX12 102 12 45 := ⟨RX12, TX12, 48, rfl, inlX12, by decide, m_10_4⟩
theorem fX12_105 : gFL RX12 105 12 46 := ⟨RX12, TX12, 48, rfl, inlX12, by decide, m_10_5⟩
theorem fX12_108 : gFL RX12 108 12 47 := ⟨RX12, TX12, 48, rfl, inlX12, by decide, m_10_6⟩
theorem fX12_115 : gFL RX12 115 12 17 := ⟨RX12, TX12, 48, rfl, inlX12, by decide, m_10_12⟩
theorem fX12_118 : gFL RX12 118 12 20 := ⟨RX12, TX12, 48, rfl, inlX12, by decide, m_11_3⟩
theorem fX12_129 : gFL RX12 129 12 27 := ⟨RX12, TX12, 48, rfl, inlX12, by decide, m_22_10⟩
theorem fX12_13 : gFL RX12 13 12 1 := ⟨RX12, TX12, 48, rfl, inlX12, by decide, m_8_23⟩
theorem fX12_136 : gFL RX12 136 12 26 := ⟨RX12, TX12, 48, rfl, inlX12, by decide, m_22_17⟩
theorem fX12_139 : gFL RX12 139 12 28 := ⟨RX12, TX12, 48, rfl, inlX12, by decide, m_22_18⟩
theorem fX12_143 : gFL RX12 143 12 29 := ⟨RX12, TX12, 48, rfl, inlX12, by decide, m_22_19⟩
theorem fX12_146 : gFL RX12 146 12 30 := ⟨RX12, TX12, 48, rfl, inlX12, by decide, m_22_20⟩
theorem fX12_149 : gFL RX12 149 12 25 := ⟨RX12, TX12, 48, rfl, inlX12, by decide, m_22_5⟩
theorem fX12_162 : gFL RX12 162 12 23 := ⟨RX12, TX12, 48, rfl, inlX12, by decide, m_22_11⟩
theorem fX12_165 : gFL RX12 165 12 24 := ⟨RX12, TX12, 48, rfl, inlX12, by decide, m_22_12⟩
theorem fX12_17 : gFL RX12 17 12 2 := ⟨RX12, TX12, 48, rfl, inlX12, by decide, m_9_0⟩
theorem fX12_20 : gFL RX12 20 12 3 := ⟨RX12, TX12, 48, rfl, inlX12, by decide, m_9_1⟩
theorem fX12_23 : gFL RX12 23 12 4 := ⟨RX12, TX12, 48, rfl, inlX12, by decide, m_9_2⟩
theorem fX12_241 : gFL RX12 241 12 31 := ⟨RX12, TX12, 48, rfl, inlX12, by decide, m_23_11⟩
theorem fX12_26 : gFL RX12 26 12 5 := ⟨RX12, TX12, 48, rfl, inlX12, by decide, m_9_3⟩
theorem fX12_287 : gFL RX12 287 12 21 := ⟨RX12, TX12, 48, rfl, inlX12, by decide, m_26_13⟩
theorem fX12_29 : gFL RX12 29 12 6 := ⟨RX12, TX12, 48, rfl, inlX12, by decide, m_9_4⟩
theorem fX12_316 : gFL RX12 316 12 33 := ⟨RX12, TX12, 48, rfl, inlX12, by decide, m_41_23⟩
theorem fX12_32 : gFL RX12 32 12 7 := ⟨RX12, TX12, 48, rfl, inlX12, by decide, m_9_5⟩
theorem fX12_35 : gFL RX12 35 12 8 := ⟨RX12, TX12, 48, rfl, inlX12, by decide, m_9_6⟩
theorem fX12_38 : gFL RX12 38 12 9 := ⟨RX12, TX12, 48, rfl, inlX12, by decide, m_9_7⟩
theorem fX12_41 : gFL RX12 41 12 10 := ⟨RX12, TX12, 48, rfl, inlX12, by decide, m_9_8⟩
theorem fX12_416 : gFL RX12 416 12 43 := ⟨RX12, TX12, 48, rfl, inlX12, by decide, m_38_7⟩
theorem fX12_432 : gFL RX12 432 12 44 := ⟨RX12, TX12, 48, rfl, inlX12, by decide, m_38_8⟩
theorem fX12_44 : gFL RX12 44 12 11 := ⟨RX12, TX12, 48, rfl, inlX12, by decide, m_9_9⟩
theorem fX12_47 : gFL RX12 47 12 12 := ⟨RX12, TX12, 48, rfl, inlX12, by decide, m_9_10⟩
theorem fX12_50 : gFL RX12 50 12 13 := ⟨RX12, TX12, 48, rfl, inlX12, by decide, m_9_11⟩
theorem fX12_53 : gFL RX12 53 12 14 := ⟨RX12, TX12, 48, rfl, inlX12, by decide, m_9_12⟩
theorem fX12_56 : gFL RX12 56 12 15 := ⟨RX12, TX12, 48, rfl, inlX12, by decide, m_9_13⟩
theorem fX12_59 : gFL RX12 59 12 16 := ⟨RX12, TX12, 48, rfl, inlX12, by decide, m_9_14⟩
theorem fX12_62 : gFL RX12 62 12 18 := ⟨RX12, TX12, 48, rfl, inlX12, by decide, m_9_15⟩
theorem fX12_65 : gFL RX12 65 12 19 := ⟨RX12, TX12, 48, rfl, inlX12, by decide, m_9_16⟩
theorem fX12_68 : gFL RX12 68 12 22 := ⟨RX12, TX12, 48, rfl, inlX12, by decide, m_9_17⟩
theorem fX12_7 : gFL RX12 7 12 0 := ⟨RX12, TX12, 48, rfl, inlX12, by decide, m_8_22⟩
theorem fX12_72 : gFL RX12 72 12 32 := ⟨RX12, TX12, 48, rfl, inlX12, by decide, m_9_18⟩
theorem fX12_75 : gFL RX12 75 12 34 := ⟨RX12, TX12, 48, rfl, inlX12, by decide, m_9_19⟩
theorem fX12_78 : gFL RX12 78 12 35 := ⟨RX12, TX12, 48, rfl, inlX12, by decide, m_9_20⟩
theorem fX12_81 : gFL RX12 81 12 36 := ⟨RX12, TX12, 48, rfl, inlX12, by decide, m_9_21⟩
theorem fX12_84 : gFL RX12 84 12 37 := ⟨RX12, TX12, 48, rfl, inlX12, by decide, m_9_22⟩
theorem fX12_87 : gFL RX12 87 12 38 := ⟨RX12, TX12, 48, rfl, inlX12, by decide, m_9_23⟩
theorem fX12_90 : gFL RX12 90 12 39 := ⟨RX12, TX12, 48, rfl, inlX12, by decide, m_10_0⟩
theorem fX12_93 : gFL RX12 93 12 40 := ⟨RX12, TX12, 48, rfl, inlX12, by decide, m_10_1⟩
theorem fX12_96 : gFL RX12 96 12 41 := ⟨RX12, TX12, 48, rfl, inlX12, by decide, m_10_2⟩
theorem fX12_99 : gFL RX12 99 12 42 := ⟨RX12, TX12, 48, rfl, inlX12, by decide, m_10_3⟩
theorem fX1_107 : gFL RX1 107 10 4 := ⟨RX10, TX10, 20, rfl, inlX10, by decide, m_34_23⟩
theorem fX1_117 : gFL RX1 117 10 6 := ⟨RX10, TX10, 20, rfl, inlX10, by decide, m_35_4⟩
theorem fX1_120 : gFL RX1 120 10 14 := ⟨RX10, TX10, 20, rfl, inlX10, by decide, m_35_5⟩
theorem fX1_122 : gFL RX1 122 10 16 := ⟨RX10, TX10, 20, rfl, inlX10, by decide, m_35_6⟩
theorem fX1_139 : gFL RX1 139 10 15 := ⟨RX10, TX10, 20, rfl, inlX10, by decide, m_32_16⟩
theorem fX1_156 : gFL RX1 156 4 3 := ⟨RX4, TX4, 5, rfl, inlX4, by decide, m_33_22⟩
theorem fX1_18 : gFL RX1 18 1 1 := ⟨RX1, TX1, 7, rfl, inlX1, by decide, m_6_19⟩
theorem fX1_22 : gFL RX1 22 1 4 := ⟨RX1, TX1, 7, rfl, inlX1, by decide, m_6_20⟩
theorem fX1_25 : gFL RX1 25 1 5 := ⟨RX1, TX1, 7, rfl, inlX1, by decide, m_6_21⟩
theorem fX1_28 : gFL RX1 28 1 6 := ⟨RX1, TX1, 7, rfl, inlX1, by decide, m_6_22⟩
theorem fX1_32 : gFL RX1 32 1 2 := ⟨RX1, TX1, 7, rfl, inlX1, by decide, m_6_23⟩
theorem fX1_36 : gFL RX1 36 1 3 := ⟨RX1, TX1, 7, rfl, inlX1, by decide, m_7_0⟩
theorem fX1_40 : gFL RX1 40 10 13 := ⟨RX10, TX10, 20, rfl, inlX10, by decide, m_32_15⟩
theorem fX1_45 : gFL RX1 45 8 1 := ⟨RX8, TX8, 7, rfl, inlX8, by decide, m_34_14⟩
theorem fX1_50 : gFL RX1 50 8 4 := ⟨RX8, TX8, 7, rfl, inlX8, by decide, m_33_9⟩
theorem fX1_53 : gFL RX1 53 10 5 := ⟨RX10, TX10, 20, rfl, inlX10, by decide, m_33_10⟩
theorem fX1_57 : gFL RX1 57 10 12 := ⟨RX10, TX10, 20, rfl, inlX10, by decide, m_33_11⟩
theorem fX1_66 : gFL RX1 66 10 10 := ⟨RX10, TX10, 20, rfl, inlX10, by decide, m_33_2⟩
theorem fX1_76 : gFL RX1 76 8 3 := ⟨RX8, TX8, 7, rfl, inlX8, by decide, m_33_3⟩
theorem fX1_82 : gFL RX1 82 10 2 := ⟨RX10, TX10, 20, rfl, inlX10, by decide, m_32_14⟩
theorem fX1_9 : gFL RX1 9 1 0 := ⟨RX1, TX1, 7, rfl, inlX1, by decide, m_6_15⟩
theorem fX1_91 : gFL RX1 91 10 9 := ⟨RX10, TX10, 20, rfl, inlX10, by decide, m_32_17⟩
theorem fX1_97 : gFL RX1 97 4 0 := ⟨RX4, TX4, 5, rfl, inlX4, by decide, m_33_21⟩
theorem fX2_15 : gFL RX2 15 2 2 := ⟨RX2, TX2, 8, rfl, inlX2, by decide, m_6_7⟩
theorem fX2_18 : gFL RX2 18 2 3 := ⟨RX2, TX2, 8, rfl, inlX2, by decide, m_6_8⟩
theorem fX2_21 : gFL RX2 21 2 4 := ⟨RX2, TX2, 8, rfl, inlX2, by decide, m_6_9⟩
theorem fX2_25 : gFL RX2 25 2 5 := ⟨RX2, TX2, 8, rfl, inlX2, by decide, m_6_10⟩
theorem fX2_37 : gFL RX2 37 2 0 := ⟨RX2, TX2, 8, rfl, inlX2, by decide, m_27_7⟩
theorem fX2_41 : gFL RX2 41 9 3 := ⟨RX9, TX9, 11, rfl, inlX9, by decide, m_27_8⟩
theorem fX2_44 : gFL RX2 44 9 4 := ⟨RX9, TX9, 11, rfl, inlX9, by decide, m_27_9⟩
theorem fX2_55 : gFL RX2 55 2 6 := ⟨RX2, TX2, 8, rfl, inlX2, by decide, m_27_10⟩
theorem fX2_58 : gFL RX2 58 2 7 := ⟨RX2, TX2, 8, rfl, inlX2, by decide, m_27_11⟩
theorem fX2_87 : gFL RX2 87 9 6 := ⟨RX9, TX9, 11, rfl, inlX9, by decide, m_27_23⟩
theorem fX2_9 : gFL RX2 9 2 1 := ⟨RX2, TX2, 8, rfl, inlX2, by decide, m_6_6⟩
theorem fX2_90 : gFL RX2 90 9 7 := ⟨RX9, TX9, 11, rfl, inlX9, by decide, m_28_0⟩
theorem fX3_100 : gFL RX3 100 8 6 := ⟨RX8, TX8, 7, rfl, inlX8, by decide, m_32_5⟩
theorem fX3_108 : gFL RX3 108 5 6 := ⟨RX5, TX5, 7, rfl, inlX5, by decide, m_32_6⟩
theorem fX3_117 : gFL RX3 117 10 2 := ⟨RX10, TX10, 20, rfl, inlX10, by decide, m_32_8⟩
theorem fX3_12 : gFL RX3 12 3 3 := ⟨RX3, TX3, 4, rfl, inlX3, by decide, m_7_12⟩
theorem fX3_120 : gFL RX3 120 8 5 := ⟨RX8, TX8, 7, rfl, inlX8, by decide, m_32_9⟩
theorem fX3_130 : gFL RX3 130 10 3 := ⟨RX10, TX10, 20, rfl, inlX10, by decide, m_36_5⟩
theorem fX3_133 : gFL RX3 133 10 18 := ⟨RX10, TX10, 20, rfl, inlX10, by decide, m_36_6⟩
theorem fX3_136 : gFL RX3 136 5 5 := ⟨RX5, TX5, 7, rfl, inlX5, by decide, m_36_7⟩
theorem fX3_139 : gFL RX3 139 10 17 := ⟨RX10, TX10, 20, rfl, inlX10, by decide, m_36_8⟩
theorem fX3_146 : gFL RX3 146 5 3 := ⟨RX5, TX5, 7, rfl, inlX5, by decide, m_36_9⟩
theorem fX3_153 : gFL RX3 153 5 0 := ⟨RX5, TX5, 7, rfl, inlX5, by decide, m_36_15⟩
theorem fX3_156 : gFL RX3 156 10 13 := ⟨RX10, TX10, 20, rfl, inlX10, by decide, m_36_16⟩
theorem fX3_159 : gFL RX3 159 5 2 := ⟨RX5, TX5, 7, rfl, inlX5, by decide, m_36_17⟩
theorem fX3_161 : gFL RX3 161 1 0 := ⟨RX1, TX1, 7, rfl, inlX1, by decide, m_36_18⟩
theorem fX3_164 : gFL RX3 164 5 4 := ⟨RX5, TX5, 7, rfl, inlX5, by decide, m_36_19⟩
theorem fX3_18 : gFL RX3 18 3 0 := ⟨RX3, TX3, 4, rfl, inlX3, by decide, m_7_13⟩
theorem fX3_191 : gFL RX3 191 4 3 := ⟨RX4, TX4, 5, rfl, inlX4, by decide, m_37_9⟩
theorem fX3_195 : gFL RX3 195 5 1 := ⟨RX5, TX5, 7, rfl, inlX5, by decide, m_37_10⟩
theorem fX3_22 : gFL RX3 22 3 1 := ⟨RX3, TX3, 4, rfl, inlX3, by decide, m_7_14⟩
theorem fX3_26 : gFL RX3 26 3 2 := ⟨RX3, TX3, 4, rfl, inlX3, by decide, m_7_15⟩
theorem fX3_59 : gFL RX3 59 8 1 := ⟨RX8, TX8, 7, rfl, inlX8, by decide, m_29_23⟩
theorem fX3_65 : gFL RX3 65 10 10 := ⟨RX10, TX10, 20, rfl, inlX10, by decide, m_30_1⟩
theorem fX3_78 : gFL RX3 78 8 3 := ⟨RX8, TX8, 7, rfl, inlX8, by decide, m_31_5⟩
theorem fX3_81 : gFL RX3 81 8 4 := ⟨RX8, TX8, 7, rfl, inlX8, by decide, m_31_6⟩
theorem fX3_84 : gFL RX3 84 8 0 := ⟨RX8, TX8, 7, rfl, inlX8, by decide, m_31_7⟩
theorem fX3_91 : gFL RX3 91 8 2 := ⟨RX8, TX8, 7, rfl, inlX8, by decide, m_31_20⟩
theorem fX4_15 : gFL RX4 15 4 3 := ⟨RX4, TX4, 5, rfl, inlX4, by decide, m_7_5⟩
theorem fX4_18 : gFL RX4 18 4 4 := ⟨RX4, TX4, 5, rfl, inlX4, by decide, m_7_6⟩
theorem fX4_21 : gFL RX4 21 4 0 := ⟨RX4, TX4, 5, rfl, inlX4, by decide, m_34_7⟩
theorem fX4_25 : gFL RX4 25 4 1 := ⟨RX4, TX4, 5, rfl, inlX4, by decide, m_34_8⟩
theorem fX4_9 : gFL RX4 9 4 2 := ⟨RX4, TX4, 5, rfl, inlX4, by decide, m_7_4⟩
theorem fX5_15 : gFL RX5 15 5 2 := ⟨RX5, TX5, 7, rfl, inlX5, by decide, m_4_23⟩
theorem fX5_19 : gFL RX5 19 5 3 := ⟨RX5, TX5, 7, rfl, inlX5, by decide, m_5_0⟩
theorem fX5_22 : gFL RX5 22 5 4 := ⟨RX5, TX5, 7, rfl, inlX5, by decide, m_5_1⟩
theorem fX5_25 : gFL RX5 25 5 5 := ⟨RX5, TX5, 7, rfl, inlX5, by decide, m_5_2⟩
theorem fX5_28 : gFL RX5 28 5 6 := ⟨RX5, TX5, 7, rfl, inlX5, by decide, m_5_3⟩
theorem fX5_35 : gFL RX5 35 5 1 := ⟨RX5, TX5, 7, rfl, inlX5, by decide, m_5_8⟩
theorem fX5_9 : gFL RX5 9 5 0 := ⟨RX5, TX5, 7, rfl, inlX5, by decide, m_4_22⟩
theorem fX6_15 : gFL RX6 15 6 2 := ⟨RX6, TX6, 9, rfl, inlX6, by decide, m_7_21⟩
theorem fX6_18 : gFL RX6 18 6 3 := ⟨RX6, TX6, 9, rfl, inlX6, by decide, m_7_22⟩
theorem fX6_22 : gFL RX6 22 6 4 := ⟨RX6, TX6, 9, rfl, inlX6, by decide, m_7_23⟩
theorem fX6_25 : gFL RX6 25 6 5 := ⟨RX6, TX6, 9, rfl, inlX6, by decide, m_8_0⟩
theorem fX6_28 : gFL RX6 28 6 6 := ⟨RX6, TX6, 9, rfl, inlX6, by decide, m_8_1⟩
theorem fX6_32 : gFL RX6 32 6 7 := ⟨RX6, TX6, 9, rfl, inlX6, by decide, m_8_2⟩
theorem fX6_36 : gFL RX6 36 6 8 := ⟨RX6, TX6, 9, rfl, inlX6, by decide, m_8_3⟩
theorem fX6_40 : gFL RX6 40 8 0 := ⟨RX8, TX8, 7, rfl, inlX8, by decide, m_56_11⟩
theorem fX6_52 : gFL RX6 52 10 1 := ⟨RX10, TX10, 20, rfl, inlX10, by decide, m_56_12⟩
theorem fX6_61 : gFL RX6 61 1 1 := ⟨RX1, TX1, 7, rfl, inlX1, by decide, m_56_13⟩
theorem fX6_65 : gFL RX6 65 4 1 := ⟨RX4, TX4, 5, rfl, inlX4, by decide, m_56_14⟩
theorem fX6_71 : gFL RX6 71 10 4 := ⟨RX10, TX10, 20, rfl, inlX10, by decide, m_56_15⟩
theorem fX6_84 : gFL RX6 84 6 0 := ⟨RX6, TX6, 9, rfl, inlX6, by decide, m_58_1⟩
theorem fX6_9 : gFL RX6 9 6 1 := ⟨RX6, TX6, 9, rfl, inlX6, by decide, m_7_20⟩
theorem fX7_11 : gFL RX7 11 7 2 := ⟨RX7, TX7, 3, rfl, inlX7, by decide, m_5_18⟩
theorem fX7_18 : gFL RX7 18 7 0 := ⟨RX7, TX7, 3, rfl, inlX7, by decide, m_22_0⟩
theorem fX7_22 : gFL RX7 22 7 1 := ⟨RX7, TX7, 3, rfl, inlX7, by decide, m_29_5⟩
theorem fX8_15 : gFL RX8 15 8 2 := ⟨RX8, TX8, 7, rfl, inlX8, by decide, m_4_12⟩
theorem fX8_18 : gFL RX8 18 8 3 := ⟨RX8, TX8, 7, rfl, inlX8, by decide, m_4_13⟩
theorem fX8_21 : gFL RX8 21 8 4 := ⟨RX8, TX8, 7, rfl, inlX8, by decide, m_4_14⟩
theorem fX8_24 : gFL RX8 24 8 5 := ⟨RX8, TX8, 7, rfl, inlX8, by decide, m_4_15⟩
theorem fX8_30 : gFL RX8 30 8 6 := ⟨RX8, TX8, 7, rfl, inlX8, by decide, m_4_17⟩
theorem fX8_34 : gFL RX8 34 8 0 := ⟨RX8, TX8, 7, rfl, inlX8, by decide, m_8_9⟩
theorem fX8_38 : gFL RX8 38 10 11 := ⟨RX10, TX10, 20, rfl, inlX10, by decide, m_8_10⟩
theorem fX8_47 : gFL RX8 47 10 19 := ⟨RX10, TX10, 20, rfl, inlX10, by decide, m_8_15⟩
theorem fX8_9 : gFL RX8 9 8 1 := ⟨RX8, TX8, 7, rfl, inlX8, by decide, m_4_11⟩
theorem fX9_15 : gFL RX9 15 9 8 := ⟨RX9, TX9, 11, rfl, inlX9, by decide, m_3_9⟩
theorem fX9_19 : gFL RX9 19 9 0 := ⟨RX9, TX9, 11, rfl, inlX9, by decide, m_10_22⟩
theorem fX9_22 : gFL RX9 22 9 1 := ⟨RX9, TX9, 11, rfl, inlX9, by decide, m_12_19⟩
theorem fX9_25 : gFL RX9 25 9 10 := ⟨RX9, TX9, 11, rfl, inlX9, by decide, m_13_0⟩
theorem fX9_35 : gFL RX9 35 9 9 := ⟨RX9, TX9, 11, rfl, inlX9, by decide, m_13_5⟩
theorem fX9_38 : gFL RX9 38 9 4 := ⟨RX9, TX9, 11, rfl, inlX9, by decide, m_13_6⟩
theorem fX9_41 : gFL RX9 41 9 7 := ⟨RX9, TX9, 11, rfl, inlX9, by decide, m_13_7⟩
theorem fX9_45 : gFL RX9 45 9 5 := ⟨RX9, TX9, 11, rfl, inlX9, by decide, m_13_8⟩
theorem fX9_48 : gFL RX9 48 9 3 := ⟨RX9, TX9, 11, rfl, inlX9, by decide, m_13_9⟩
theorem fX9_83 : gFL RX9 83 9 6 := ⟨RX9, TX9, 11, rfl, inlX9, by decide, m_19_23⟩
theorem fX9_9 : gFL RX9 9 9 2 := ⟨RX9, TX9, 11, rfl, inlX9, by decide, m_3_7⟩

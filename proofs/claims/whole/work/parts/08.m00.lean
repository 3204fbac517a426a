/-! CoverDeskModel.isIn(JJJ)Z -/
theorem dX12_isIn_0 : decode cX12_isIn 0 = .ok (.lload_n 0, 1) := by decide +kernel
theorem dX12_isIn_1 : decode cX12_isIn 1 = .ok (.lload_n 2, 1) := by decide +kernel
theorem dX12_isIn_2 : decode cX12_isIn 2 = .ok (.lcmp, 1) := by decide +kernel
theorem dX12_isIn_3 : decode cX12_isIn 3 = .ok (.ifCond .lt 14, 3) := by decide +kernel
theorem dX12_isIn_6 : decode cX12_isIn 6 = .ok (.lload_n 0, 1) := by decide +kernel
theorem dX12_isIn_7 : decode cX12_isIn 7 = .ok (.lload 4, 2) := by decide +kernel
theorem dX12_isIn_9 : decode cX12_isIn 9 = .ok (.lcmp, 1) := by decide +kernel
theorem dX12_isIn_10 : decode cX12_isIn 10 = .ok (.ifCond .gt 7, 3) := by decide +kernel
theorem dX12_isIn_13 : decode cX12_isIn 13 = .ok (.iconst 1, 1) := by decide +kernel
theorem dX12_isIn_14 : decode cX12_isIn 14 = .ok (.goto 4, 3) := by decide +kernel
theorem dX12_isIn_17 : decode cX12_isIn 17 = .ok (.iconst 0, 1) := by decide +kernel
theorem dX12_isIn_18 : decode cX12_isIn 18 = .ok (.ireturn, 1) := by decide +kernel
def X12_isIn_b18 (u : gM)  (s0 : Int32) : Option Int32 :=
bI s0
def X12_isIn_b17 (u : gM)   : Option Int32 :=
(X12_isIn_b18 u 0)
def X12_isIn (u : gM)  (x0 : Int64) (x2 : Int64) (x4 : Int64) : Option Int32 :=
(if (lg_cmp x0 x2) < 0 then (X12_isIn_b17 u)
  else (if 0 < (lg_cmp x0 x4) then (X12_isIn_b17 u)
    else (X12_isIn_b18 u 1)))
set_option maxRecDepth 20000 in
theorem v_X12_isIn_b18 {κ : gK} {B : Nat} {u : gM} (X : gX κ B skM cX12_isIn 6 RX12 (some .boolean) 0 0)   {s0 : Int32} {w : Int32} (hM : X12_isIn_b18 u s0 = some w) : gV κ B skM 6 ((some (.int w)), u) 18 [none, none, none, none, none, none] [.int s0] u := by
  unfold X12_isIn_b18 at hM
  obtain ⟨hv, rfl⟩ := bI_of hM
  exact g_zret X hv dX12_isIn_18
set_option maxRecDepth 20000 in
theorem v_X12_isIn_b17 {κ : gK} {B : Nat} {u : gM} (X : gX κ B skM cX12_isIn 6 RX12 (some .boolean) 0 0)    {w : Int32} (hM : X12_isIn_b17 u = some w) : gV κ B skM 6 ((some (.int w)), u) 17 [none, none, none, none, none, none] [] u := by
  unfold X12_isIn_b17 at hM
  refine g_iconst X (v := 0) dX12_isIn_17 (by decide) ?_
  refine g_mk [false, false, false, false, false, false] [none, none, none, none, none, none] rfl ?_
  exact v_X12_isIn_b18 X  hM
set_option maxRecDepth 20000 in
theorem v_X12_isIn {κ : gK} {B : Nat} {u : gM} (X : gX κ B skM cX12_isIn 6 RX12 (some .boolean) 0 0)   {x0 : Int64} {x2 : Int64} {x4 : Int64} {w : Int32} (hM : X12_isIn u x0 x2 x4 = some w) : gV κ B skM 6 ((some (.int w)), u) 0 [some (.long x0), none, some (.long x2), none, some (.long x4), none] [] u := by
  unfold X12_isIn at hM
  refine g_lload_n X dX12_isIn_0 rfl ?_
  refine g_lload_n X dX12_isIn_1 rfl ?_
  refine g_lcmp X dX12_isIn_2 ?_
  refine g_if_lt (tgt := 17) X dX12_isIn_3 (by decide) (fun c3 => ?_) (fun c3 => ?_)
  · rw [if_pos c3] at hM
    refine g_mk [false, false, false, false, false, false] [none, none, none, none, none, none] rfl ?_
    exact v_X12_isIn_b17 X  hM
  · rw [if_neg c3] at hM
    refine g_lload_n X dX12_isIn_6 rfl ?_
    refine g_lload X dX12_isIn_7 rfl ?_
    refine g_lcmp X dX12_isIn_9 ?_
    refine g_if_gt (tgt := 17) X dX12_isIn_10 (by decide) (fun c10 => ?_) (fun c10 => ?_)
    · rw [if_pos c10] at hM
      refine g_mk [false, false, false, false, false, false] [none, none, none, none, none, none] rfl ?_
      exact v_X12_isIn_b17 X  hM
    · rw [if_neg c10] at hM
      refine g_iconst X (v := 1) dX12_isIn_13 (by decide) ?_
      refine g_goto (tgt := 18) X dX12_isIn_14 (by decide) ?_
      refine g_mk [false, false, false, false, false, false] [none, none, none, none, none, none] rfl ?_
      exact v_X12_isIn_b18 X  hM
theorem s_X12_isIn {x0 : Int64} {x2 : Int64} {x4 : Int64} {u : gM} {w : Int32} (hM : X12_isIn u x0 x2 x4 = some w) : gMet skM yX12_isIn cX12_isIn 6 (some .boolean) 0 0 (fun B adK => [.long x0, .long x2, .long x4]) u ((fun _ => some (.int w)), u) := by
  refine gMet.of (by decide) (fun _ _ => Nat.le_of_ble_eq_true rfl) (fun κ B X => ?_)
  have X : gX κ B skM cX12_isIn 6 RX12 (some .boolean) 0 0 := X
  refine g_mk [true, false, true, false, true, false] [some (.long x0), none, some (.long x2), none, some (.long x4), none] rfl ?_
  exact v_X12_isIn X  hM

/-! CoverDeskModel.isAccount(I)Z -/
theorem dX12_isAccount_0 : decode cX12_isAccount 0 = .ok (.iload_n 1, 1) := by decide +kernel
theorem dX12_isAccount_1 : decode cX12_isAccount 1 = .ok (.i2l, 1) := by decide +kernel
theorem dX12_isAccount_2 : decode cX12_isAccount 2 = .ok (.lconst 0, 1) := by decide +kernel
theorem dX12_isAccount_3 : decode cX12_isAccount 3 = .ok (.aload_n 0, 1) := by decide +kernel
theorem dX12_isAccount_4 : decode cX12_isAccount 4 = .ok (.getfield 7, 3) := by decide +kernel
theorem dX12_isAccount_7 : decode cX12_isAccount 7 = .ok (.iconst 2, 1) := by decide +kernel
theorem dX12_isAccount_8 : decode cX12_isAccount 8 = .ok (.iaload, 1) := by decide +kernel
theorem dX12_isAccount_9 : decode cX12_isAccount 9 = .ok (.iconst 1, 1) := by decide +kernel
theorem dX12_isAccount_10 : decode cX12_isAccount 10 = .ok (.isub, 1) := by decide +kernel
theorem dX12_isAccount_11 : decode cX12_isAccount 11 = .ok (.i2l, 1) := by decide +kernel
theorem dX12_isAccount_12 : decode cX12_isAccount 12 = .ok (.invokestatic 125, 3) := by decide +kernel
theorem dX12_isAccount_15 : decode cX12_isAccount 15 = .ok (.ireturn, 1) := by decide +kernel
def X12_isAccount (u : gM)  (x1 : Int32) : Option Int32 :=
((aI skM u 1 2).bind fun v8 => ((X12_isIn u x1.toInt64 0 (v8 - 1).toInt64).bind fun w12 => bI w12))
set_option maxRecDepth 20000 in
theorem v_X12_isAccount {κ : gK} {B : Nat} {u : gM} (X : gX κ B skM cX12_isAccount 2 RX12 (some .boolean) 1 25)   {x1 : Int32} {w : Int32} (hM : X12_isAccount u x1 = some w) : gV κ B skM 2 ((some (.int w)), u) 0 [some (.ref (B + 0)), some (.int x1)] [] u := by
  unfold X12_isAccount at hM
  refine g_iload_n X dX12_isAccount_0 rfl ?_
  refine g_i2l X dX12_isAccount_1 ?_
  refine g_lconst (v := 0) X dX12_isAccount_2 (by decide) ?_
  refine g_aload_n X dX12_isAccount_3 rfl ?_
  refine g_getR X fX12_7 cM_0 rfl dX12_isAccount_4 ?_
  refine g_iconst X (v := 2) dX12_isAccount_7 (by decide) ?_
  obtain ⟨v8, e8, hM⟩ := bind_of hM
  refine g_iaload X e8 dX12_isAccount_8 ?_
  refine g_iconst X (v := 1) dX12_isAccount_9 (by decide) ?_
  refine g_isub X dX12_isAccount_10 ?_
  refine g_i2l X dX12_isAccount_11 ?_
  obtain ⟨w12, e12, hM⟩ := bind_of hM
  refine g_callSi X (fun B adK => [.long x1.toInt64, .long 0, .long (v8 - 1).toInt64]) (s_X12_isIn e12) cvX12_125 rfl rfl (Nat.le_of_ble_eq_true rfl) ⟨by decide, by decide⟩ dX12_isAccount_12 ?_
  obtain ⟨hv, rfl⟩ := bI_of hM
  exact g_zret X hv dX12_isAccount_15
theorem s_X12_isAccount {x1 : Int32} {u : gM} {w : Int32} (hM : X12_isAccount u x1 = some w) : gMet skM yX12_isAccount cX12_isAccount 2 (some .boolean) 1 25 (fun B adK => [.ref (B + 0), .int x1]) u ((fun _ => some (.int w)), u) := by
  refine gMet.of (by decide) (fun _ _ => Nat.le_of_ble_eq_true rfl) (fun κ B X => ?_)
  have X : gX κ B skM cX12_isAccount 2 RX12 (some .boolean) 1 25 := X
  refine g_mk [true, true] [some (.ref (B + 0)), some (.int x1)] rfl ?_
  exact v_X12_isAccount X  hM

/-! CoverDeskModel.endOf(II)I -/
theorem dX12_endOf_0 : decode cX12_endOf 0 = .ok (.aload_n 0, 1) := by decide +kernel
theorem dX12_endOf_1 : decode cX12_endOf 1 = .ok (.getfield 56, 3) := by decide +kernel
theorem dX12_endOf_4 : decode cX12_endOf 4 = .ok (.bipush 41, 2) := by decide +kernel
theorem dX12_endOf_6 : decode cX12_endOf 6 = .ok (.iload_n 2, 1) := by decide +kernel
theorem dX12_endOf_7 : decode cX12_endOf 7 = .ok (.iadd, 1) := by decide +kernel
theorem dX12_endOf_8 : decode cX12_endOf 8 = .ok (.iaload, 1) := by decide +kernel
theorem dX12_endOf_9 : decode cX12_endOf 9 = .ok (.aload_n 0, 1) := by decide +kernel
theorem dX12_endOf_10 : decode cX12_endOf 10 = .ok (.getfield 7, 3) := by decide +kernel
theorem dX12_endOf_13 : decode cX12_endOf 13 = .ok (.iconst 5, 1) := by decide +kernel
theorem dX12_endOf_14 : decode cX12_endOf 14 = .ok (.iaload, 1) := by decide +kernel
theorem dX12_endOf_15 : decode cX12_endOf 15 = .ok (.iadd, 1) := by decide +kernel
theorem dX12_endOf_16 : decode cX12_endOf 16 = .ok (.istore_n 3, 1) := by decide +kernel
theorem dX12_endOf_17 : decode cX12_endOf 17 = .ok (.aload_n 0, 1) := by decide +kernel
theorem dX12_endOf_18 : decode cX12_endOf 18 = .ok (.getfield 44, 3) := by decide +kernel
theorem dX12_endOf_21 : decode cX12_endOf 21 = .ok (.iload_n 1, 1) := by decide +kernel
theorem dX12_endOf_22 : decode cX12_endOf 22 = .ok (.iaload, 1) := by decide +kernel
theorem dX12_endOf_23 : decode cX12_endOf 23 = .ok (.istore 4, 2) := by decide +kernel
theorem dX12_endOf_25 : decode cX12_endOf 25 = .ok (.iload 4, 2) := by decide +kernel
theorem dX12_endOf_27 : decode cX12_endOf 27 = .ok (.ifCond .ne 7, 3) := by decide +kernel
theorem dX12_endOf_30 : decode cX12_endOf 30 = .ok (.iload_n 3, 1) := by decide +kernel
theorem dX12_endOf_31 : decode cX12_endOf 31 = .ok (.goto 19, 3) := by decide +kernel
theorem dX12_endOf_34 : decode cX12_endOf 34 = .ok (.iload 4, 2) := by decide +kernel
theorem dX12_endOf_36 : decode cX12_endOf 36 = .ok (.iconst 1, 1) := by decide +kernel
theorem dX12_endOf_37 : decode cX12_endOf 37 = .ok (.iload_n 3, 1) := by decide +kernel
theorem dX12_endOf_38 : decode cX12_endOf 38 = .ok (.iload 4, 2) := by decide +kernel
theorem dX12_endOf_40 : decode cX12_endOf 40 = .ok (.iadd, 1) := by decide +kernel
theorem dX12_endOf_41 : decode cX12_endOf 41 = .ok (.iconst 1, 1) := by decide +kernel
theorem dX12_endOf_42 : decode cX12_endOf 42 = .ok (.isub, 1) := by decide +kernel
theorem dX12_endOf_43 : decode cX12_endOf 43 = .ok (.iload 4, 2) := by decide +kernel
theorem dX12_endOf_45 : decode cX12_endOf 45 = .ok (.idiv, 1) := by decide +kernel
theorem dX12_endOf_46 : decode cX12_endOf 46 = .ok (.invokestatic 303, 3) := by decide +kernel
theorem dX12_endOf_49 : decode cX12_endOf 49 = .ok (.imul, 1) := by decide +kernel
theorem dX12_endOf_50 : decode cX12_endOf 50 = .ok (.ireturn, 1) := by decide +kernel
def X12_endOf_b50 (u : gM)  (s0 : Int32) : Option Int32 :=
some s0
def X12_endOf (u : gM)  (x1 : Int32) (x2 : Int32) : Option Int32 :=
((aI skM u 16 (41 + x2)).bind fun v8 => ((aI skM u 1 5).bind fun v14 => ((aI skM u 12 x1).bind fun v22 => (if v22 = 0 then (X12_endOf_b50 u (v8 + v14))
  else (if v22 = 0 then none else (X12_endOf_b50 u (v22 * (mxI 1 ((((v8 + v14) + v22) - 1) / v22)))))))))
set_option maxRecDepth 20000 in
theorem v_X12_endOf_b50 {κ : gK} {B : Nat} {u : gM} (X : gX κ B skM cX12_endOf 5 RX12 (some .int) 1 26)   {s0 : Int32} {w : Int32} (hM : X12_endOf_b50 u s0 = some w) : gV κ B skM 5 ((some (.int w)), u) 50 [none, none, none, none, none] [.int s0] u := by
  unfold X12_endOf_b50 at hM
  cases hM
  exact g_iret X dX12_endOf_50
set_option maxRecDepth 20000 in
theorem v_X12_endOf {κ : gK} {B : Nat} {u : gM} (X : gX κ B skM cX12_endOf 5 RX12 (some .int) 1 26)   {x1 : Int32} {x2 : Int32} {w : Int32} (hM : X12_endOf u x1 x2 = some w) : gV κ B skM 5 ((some (.int w)), u) 0 [some (.ref (B + 0)), some (.int x1), some (.int x2), none, none] [] u := by
  unfold X12_endOf at hM
  refine g_aload_n X dX12_endOf_0 rfl ?_
  refine g_getR X fX12_56 cM_0 rfl dX12_endOf_1 ?_
  refine g_bipush X (v := 41) dX12_endOf_4 (by decide) ?_
  refine g_iload_n X dX12_endOf_6 rfl ?_
  refine g_iadd X dX12_endOf_7 ?_
  obtain ⟨v8, e8, hM⟩ := bind_of hM
  refine g_iaload X e8 dX12_endOf_8 ?_
  refine g_aload_n X dX12_endOf_9 rfl ?_
  refine g_getR X fX12_7 cM_0 rfl dX12_endOf_10 ?_
  refine g_iconst X (v := 5) dX12_endOf_13 (by decide) ?_
  obtain ⟨v14, e14, hM⟩ := bind_of hM
  refine g_iaload X e14 dX12_endOf_14 ?_
  refine g_iadd X dX12_endOf_15 ?_
  refine g_istore_n X [some (.ref (B + 0)), some (.int x1), some (.int x2), some (.int (v8 + v14)), none] dX12_endOf_16 (by decide) rfl ?_
  refine g_aload_n X dX12_endOf_17 rfl ?_
  refine g_getR X fX12_44 cM_0 rfl dX12_endOf_18 ?_
  refine g_iload_n X dX12_endOf_21 rfl ?_
  obtain ⟨v22, e22, hM⟩ := bind_of hM
  refine g_iaload X e22 dX12_endOf_22 ?_
  refine g_istore X [some (.ref (B + 0)), some (.int x1), some (.int x2), some (.int (v8 + v14)), some (.int v22)] dX12_endOf_23 (by decide) rfl ?_
  refine g_iload X dX12_endOf_25 rfl ?_
  refine g_if_ne (tgt := 34) X dX12_endOf_27 (by decide) (fun c27 => ?_) (fun c27 => ?_)
  · rw [if_neg c27] at hM
    refine g_iload X dX12_endOf_34 rfl ?_
    refine g_iconst X (v := 1) dX12_endOf_36 (by decide) ?_
    refine g_iload_n X dX12_endOf_37 rfl ?_
    refine g_iload X dX12_endOf_38 rfl ?_
    refine g_iadd X dX12_endOf_40 ?_
    refine g_iconst X (v := 1) dX12_endOf_41 (by decide) ?_
    refine g_isub X dX12_endOf_42 ?_
    refine g_iload X dX12_endOf_43 rfl ?_
    obtain ⟨n45, hM⟩ := ite_no hM
    refine g_idiv X n45 dX12_endOf_45 ?_
    refine g_maxI X m_42_12 ⟨by decide, Nat.le_of_ble_eq_true rfl⟩ dX12_endOf_46 ?_
    refine g_imul X dX12_endOf_49 ?_
    refine g_mk [false, false, false, false, false] [none, none, none, none, none] rfl ?_
    exact v_X12_endOf_b50 X  hM
  · rw [if_pos c27] at hM
    refine g_iload_n X dX12_endOf_30 rfl ?_
    refine g_goto (tgt := 50) X dX12_endOf_31 (by decide) ?_
    refine g_mk [false, false, false, false, false] [none, none, none, none, none] rfl ?_
    exact v_X12_endOf_b50 X  hM
theorem s_X12_endOf {x1 : Int32} {x2 : Int32} {u : gM} {w : Int32} (hM : X12_endOf u x1 x2 = some w) : gMet skM yX12_endOf cX12_endOf 5 (some .int) 1 26 (fun B adK => [.ref (B + 0), .int x1, .int x2]) u ((fun _ => some (.int w)), u) := by
  refine gMet.of (by decide) (fun _ _ => Nat.le_of_ble_eq_true rfl) (fun κ B X => ?_)
  have X : gX κ B skM cX12_endOf 5 RX12 (some .int) 1 26 := X
  refine g_mk [true, true, true, false, false] [some (.ref (B + 0)), some (.int x1), some (.int x2), none, none] rfl ?_
  exact v_X12_endOf X  hM

/-! CoverDeskModel.countedAt(II)I -/
theorem dX12_countedAt_0 : decode cX12_countedAt 0 = .ok (.aload_n 0, 1) := by decide +kernel
theorem dX12_countedAt_1 : decode cX12_countedAt 1 = .ok (.getfield 26, 3) := by decide +kernel
theorem dX12_countedAt_4 : decode cX12_countedAt 4 = .ok (.iload_n 1, 1) := by decide +kernel
theorem dX12_countedAt_5 : decode cX12_countedAt 5 = .ok (.iaload, 1) := by decide +kernel
theorem dX12_countedAt_6 : decode cX12_countedAt 6 = .ok (.istore_n 3, 1) := by decide +kernel
theorem dX12_countedAt_7 : decode cX12_countedAt 7 = .ok (.aload_n 0, 1) := by decide +kernel
theorem dX12_countedAt_8 : decode cX12_countedAt 8 = .ok (.getfield 56, 3) := by decide +kernel
theorem dX12_countedAt_11 : decode cX12_countedAt 11 = .ok (.bipush 35, 2) := by decide +kernel
theorem dX12_countedAt_13 : decode cX12_countedAt 13 = .ok (.iload_n 3, 1) := by decide +kernel
theorem dX12_countedAt_14 : decode cX12_countedAt 14 = .ok (.iadd, 1) := by decide +kernel
theorem dX12_countedAt_15 : decode cX12_countedAt 15 = .ok (.iaload, 1) := by decide +kernel
theorem dX12_countedAt_16 : decode cX12_countedAt 16 = .ok (.iconst (-1), 1) := by decide +kernel
theorem dX12_countedAt_17 : decode cX12_countedAt 17 = .ok (.if_icmp .eq 26, 3) := by decide +kernel
theorem dX12_countedAt_20 : decode cX12_countedAt 20 = .ok (.iload_n 2, 1) := by decide +kernel
theorem dX12_countedAt_21 : decode cX12_countedAt 21 = .ok (.aload_n 0, 1) := by decide +kernel
theorem dX12_countedAt_22 : decode cX12_countedAt 22 = .ok (.iload_n 1, 1) := by decide +kernel
theorem dX12_countedAt_23 : decode cX12_countedAt 23 = .ok (.iload_n 3, 1) := by decide +kernel
theorem dX12_countedAt_24 : decode cX12_countedAt 24 = .ok (.invokevirtual 309, 3) := by decide +kernel
theorem dX12_countedAt_27 : decode cX12_countedAt 27 = .ok (.if_icmp .lt 16, 3) := by decide +kernel
theorem dX12_countedAt_30 : decode cX12_countedAt 30 = .ok (.aload_n 0, 1) := by decide +kernel
theorem dX12_countedAt_31 : decode cX12_countedAt 31 = .ok (.getfield 56, 3) := by decide +kernel
theorem dX12_countedAt_34 : decode cX12_countedAt 34 = .ok (.bipush 35, 2) := by decide +kernel
theorem dX12_countedAt_36 : decode cX12_countedAt 36 = .ok (.iload_n 3, 1) := by decide +kernel
theorem dX12_countedAt_37 : decode cX12_countedAt 37 = .ok (.iadd, 1) := by decide +kernel
theorem dX12_countedAt_38 : decode cX12_countedAt 38 = .ok (.iaload, 1) := by decide +kernel
theorem dX12_countedAt_39 : decode cX12_countedAt 39 = .ok (.istore_n 3, 1) := by decide +kernel
theorem dX12_countedAt_40 : decode cX12_countedAt 40 = .ok (.goto (-33), 3) := by decide +kernel
theorem dX12_countedAt_43 : decode cX12_countedAt 43 = .ok (.iload_n 3, 1) := by decide +kernel
theorem dX12_countedAt_44 : decode cX12_countedAt 44 = .ok (.ireturn, 1) := by decide +kernel
def X12_countedAt_b43 (u : gM)  (x3 : Int32) : Option Int32 :=
some x3
def X12_countedAt_b7 (u : gM) (k7 : Int32 → Int32 → Int32 → Option Int32) (x1 : Int32) (x2 : Int32) (x3 : Int32) : Option Int32 :=
((aI skM u 16 (35 + x3)).bind fun v15 => (if v15 = (-1) then (X12_countedAt_b43 u x3)
  else ((X12_endOf u x1 x3).bind fun w24 => (if x2 < w24 then (X12_countedAt_b43 u x3)
    else ((aI skM u 16 (35 + x3)).bind fun v38 => (k7 x1 x2 v38))))))
def X12_countedAt_l7 (u : gM)  : Nat → Int32 → Int32 → Int32 → Option Int32
  | 0, _, _, _ => none
  | n + 1, x1, x2, x3 => X12_countedAt_b7 u  (X12_countedAt_l7 u  n) x1 x2 x3
def X12_countedAt (u : gM)  (x1 : Int32) (x2 : Int32) : Option Int32 :=
((aI skM u 6 x1).bind fun v5 => (X12_countedAt_l7 u fz x1 x2 v5))
set_option maxRecDepth 20000 in
theorem v_X12_countedAt_b43 {κ : gK} {B : Nat} {u : gM} (X : gX κ B skM cX12_countedAt 4 RX12 (some .int) 2 50)   {x3 : Int32} {w : Int32} (hM : X12_countedAt_b43 u x3 = some w) : gV κ B skM 4 ((some (.int w)), u) 43 [none, none, none, some (.int x3)] [] u := by
  unfold X12_countedAt_b43 at hM
  refine g_iload_n X dX12_countedAt_43 rfl ?_
  cases hM
  exact g_iret X dX12_countedAt_44
set_option maxRecDepth 20000 in
theorem v_X12_countedAt_b7 {κ : gK} {B : Nat} {u : gM} (X : gX κ B skM cX12_countedAt 4 RX12 (some .int) 2 50) {k7 : Int32 → Int32 → Int32 → Option Int32} (ih7 : ∀ (x1 : Int32) (x2 : Int32) (x3 : Int32) (w : Int32), k7 x1 x2 x3 = some w → gV κ B skM 4 ((some (.int w)), u) 7 [some (.ref (B + 0)), some (.int x1), some (.int x2), some (.int x3)] [] u) {x1 : Int32} {x2 : Int32} {x3 : Int32} {w : Int32} (hM : X12_countedAt_b7 u k7 x1 x2 x3 = some w) : gV κ B skM 4 ((some (.int w)), u) 7 [some (.ref (B + 0)), some (.int x1), some (.int x2), some (.int x3)] [] u := by
  unfold X12_countedAt_b7 at hM
  refine g_aload_n X dX12_countedAt_7 rfl ?_
  refine g_getR X fX12_56 cM_0 rfl dX12_countedAt_8 ?_
  refine g_bipush X (v := 35) dX12_countedAt_11 (by decide) ?_
  refine g_iload_n X dX12_countedAt_13 rfl ?_
  refine g_iadd X dX12_countedAt_14 ?_
  obtain ⟨v15, e15, hM⟩ := bind_of hM
  refine g_iaload X e15 dX12_countedAt_15 ?_
  refine g_iconst X (v := (-1)) dX12_countedAt_16 (by decide) ?_
  refine g_icmp_eq (tgt := 43) X dX12_countedAt_17 (by decide) (fun c17 => ?_) (fun c17 => ?_)
  · rw [if_pos c17] at hM
    refine g_mk [false, false, false, true] [none, none, none, some (.int x3)] rfl ?_
    exact v_X12_countedAt_b43 X  hM
  · rw [if_neg c17] at hM
    refine g_iload_n X dX12_countedAt_20 rfl ?_
    refine g_aload_n X dX12_countedAt_21 rfl ?_
    refine g_iload_n X dX12_countedAt_22 rfl ?_
    refine g_iload_n X dX12_countedAt_23 rfl ?_
    obtain ⟨w24, e24, hM⟩ := bind_of hM
    refine g_callVi X (fun B adK => [.int x1, .int x3]) (s_X12_endOf e24) cvX12_309 cM_0 rfl rfl (Nat.le_of_ble_eq_true rfl) ⟨by decide, by decide⟩ dX12_countedAt_24 ?_
    refine g_icmp_lt (tgt := 43) X dX12_countedAt_27 (by decide) (fun c27 => ?_) (fun c27 => ?_)
    · rw [if_pos c27] at hM
      refine g_mk [false, false, false, true] [none, none, none, some (.int x3)] rfl ?_
      exact v_X12_countedAt_b43 X  hM
    · rw [if_neg c27] at hM
      refine g_aload_n X dX12_countedAt_30 rfl ?_
      refine g_getR X fX12_56 cM_0 rfl dX12_countedAt_31 ?_
      refine g_bipush X (v := 35) dX12_countedAt_34 (by decide) ?_
      refine g_iload_n X dX12_countedAt_36 rfl ?_
      refine g_iadd X dX12_countedAt_37 ?_
      obtain ⟨v38, e38, hM⟩ := bind_of hM
      refine g_iaload X e38 dX12_countedAt_38 ?_
      refine g_istore_n X [some (.ref (B + 0)), some (.int x1), some (.int x2), some (.int v38)] dX12_countedAt_39 (by decide) rfl ?_
      refine g_goto (tgt := 7) X dX12_countedAt_40 (by decide) ?_
      refine g_mk [true, true, true, true] [some (.ref (B + 0)), some (.int x1), some (.int x2), some (.int v38)] rfl ?_
      exact ih7 x1 x2 v38 _ hM
theorem v_X12_countedAt_l7 {κ : gK} {B : Nat} {u : gM} (X : gX κ B skM cX12_countedAt 4 RX12 (some .int) 2 50)   : ∀ (n : Nat) {x1 : Int32} {x2 : Int32} {x3 : Int32} {w : Int32} (hM : X12_countedAt_l7 u  n x1 x2 x3 = some w), gV κ B skM 4 ((some (.int w)), u) 7 [some (.ref (B + 0)), some (.int x1), some (.int x2), some (.int x3)] [] u := by
  intro n
  induction n with
  | zero => intro x1 x2 x3 w hM; exact nomatch (show (none : Option Int32) = some w from hM)
  | succ n ihn => intro x1 x2 x3 w hM; exact v_X12_countedAt_b7 X  (fun x1 x2 x3 w h => ihn h) hM
set_option maxRecDepth 20000 in
theorem v_X12_countedAt {κ : gK} {B : Nat} {u : gM} (X : gX κ B skM cX12_countedAt 4 RX12 (some .int) 2 50)   {x1 : Int32} {x2 : Int32} {w : Int32} (hM : X12_countedAt u x1 x2 = some w) : gV κ B skM 4 ((some (.int w)), u) 0 [some (.ref (B + 0)), some (.int x1), some (.int x2), none] [] u := by
  unfold X12_countedAt at hM
  refine g_aload_n X dX12_countedAt_0 rfl ?_
  refine g_getR X fX12_26 cM_0 rfl dX12_countedAt_1 ?_
  refine g_iload_n X dX12_countedAt_4 rfl ?_
  obtain ⟨v5, e5, hM⟩ := bind_of hM
  refine g_iaload X e5 dX12_countedAt_5 ?_
  refine g_istore_n X [some (.ref (B + 0)), some (.int x1), some (.int x2), some (.int v5)] dX12_countedAt_6 (by decide) rfl ?_
  refine g_mk [true, true, true, true] [some (.ref (B + 0)), some (.int x1), some (.int x2), some (.int v5)] rfl ?_
  exact v_X12_countedAt_l7 X  fz hM
theorem s_X12_countedAt {x1 : Int32} {x2 : Int32} {u : gM} {w : Int32} (hM : X12_countedAt u x1 x2 = some w) : gMet skM yX12_countedAt cX12_countedAt 4 (some .int) 2 50 (fun B adK => [.ref (B + 0), .int x1, .int x2]) u ((fun _ => some (.int w)), u) := by
  refine gMet.of (by decide) (fun _ _ => Nat.le_of_ble_eq_true rfl) (fun κ B X => ?_)
  have X : gX κ B skM cX12_countedAt 4 RX12 (some .int) 2 50 := X
  refine g_mk [true, true, true, false] [some (.ref (B + 0)), some (.int x1), some (.int x2), none] rfl ?_
  exact v_X12_countedAt X  hM

/-! CoverDeskModel.nowAt(I)I -/
theorem dX12_nowAt_0 : decode cX12_nowAt 0 = .ok (.iload_n 1, 1) := by decide +kernel
theorem dX12_nowAt_1 : decode cX12_nowAt 1 = .ok (.istore_n 2, 1) := by decide +kernel
theorem dX12_nowAt_2 : decode cX12_nowAt 2 = .ok (.aload_n 0, 1) := by decide +kernel
theorem dX12_nowAt_3 : decode cX12_nowAt 3 = .ok (.getfield 56, 3) := by decide +kernel
theorem dX12_nowAt_6 : decode cX12_nowAt 6 = .ok (.bipush 35, 2) := by decide +kernel
theorem dX12_nowAt_8 : decode cX12_nowAt 8 = .ok (.iload_n 2, 1) := by decide +kernel
theorem dX12_nowAt_9 : decode cX12_nowAt 9 = .ok (.iadd, 1) := by decide +kernel
theorem dX12_nowAt_10 : decode cX12_nowAt 10 = .ok (.iaload, 1) := by decide +kernel
theorem dX12_nowAt_11 : decode cX12_nowAt 11 = .ok (.iconst (-1), 1) := by decide +kernel
theorem dX12_nowAt_12 : decode cX12_nowAt 12 = .ok (.if_icmp .eq 16, 3) := by decide +kernel
theorem dX12_nowAt_15 : decode cX12_nowAt 15 = .ok (.aload_n 0, 1) := by decide +kernel
theorem dX12_nowAt_16 : decode cX12_nowAt 16 = .ok (.getfield 56, 3) := by decide +kernel
theorem dX12_nowAt_19 : decode cX12_nowAt 19 = .ok (.bipush 35, 2) := by decide +kernel
theorem dX12_nowAt_21 : decode cX12_nowAt 21 = .ok (.iload_n 2, 1) := by decide +kernel
theorem dX12_nowAt_22 : decode cX12_nowAt 22 = .ok (.iadd, 1) := by decide +kernel
theorem dX12_nowAt_23 : decode cX12_nowAt 23 = .ok (.iaload, 1) := by decide +kernel
theorem dX12_nowAt_24 : decode cX12_nowAt 24 = .ok (.istore_n 2, 1) := by decide +kernel
theorem dX12_nowAt_25 : decode cX12_nowAt 25 = .ok (.goto (-23), 3) := by decide +kernel
theorem dX12_nowAt_28 : decode cX12_nowAt 28 = .ok (.iload_n 2, 1) := by decide +kernel
theorem dX12_nowAt_29 : decode cX12_nowAt 29 = .ok (.ireturn, 1) := by decide +kernel
def X12_nowAt_b2 (u : gM) (k2 : Int32 → Option Int32) (x2 : Int32) : Option Int32 :=
((aI skM u 16 (35 + x2)).bind fun v10 => (if v10 = (-1) then some x2
  else ((aI skM u 16 (35 + x2)).bind fun v23 => (k2 v23))))
def X12_nowAt_l2 (u : gM)  : Nat → Int32 → Option Int32
  | 0, _ => none
  | n + 1, x2 => X12_nowAt_b2 u  (X12_nowAt_l2 u  n) x2
def X12_nowAt (u : gM)  (x1 : Int32) : Option Int32 :=
(X12_nowAt_l2 u fz x1)
set_option maxRecDepth 20000 in
theorem v_X12_nowAt_b2 {κ : gK} {B : Nat} {u : gM} (X : gX κ B skM cX12_nowAt 3 RX12 (some .int) 0 0) {k2 : Int32 → Option Int32} (ih2 : ∀ (x2 : Int32) (w : Int32), k2 x2 = some w → gV κ B skM 3 ((some (.int w)), u) 2 [some (.ref (B + 0)), none, some (.int x2)] [] u) {x2 : Int32} {w : Int32} (hM : X12_nowAt_b2 u k2 x2 = some w) : gV κ B skM 3 ((some (.int w)), u) 2 [some (.ref (B + 0)), none, some (.int x2)] [] u := by
  unfold X12_nowAt_b2 at hM
  refine g_aload_n X dX12_nowAt_2 rfl ?_
  refine g_getR X fX12_56 cM_0 rfl dX12_nowAt_3 ?_
  refine g_bipush X (v := 35) dX12_nowAt_6 (by decide) ?_
  refine g_iload_n X dX12_nowAt_8 rfl ?_
  refine g_iadd X dX12_nowAt_9 ?_
  obtain ⟨v10, e10, hM⟩ := bind_of hM
  refine g_iaload X e10 dX12_nowAt_10 ?_
  refine g_iconst X (v := (-1)) dX12_nowAt_11 (by decide) ?_
  refine g_icmp_eq (tgt := 28) X dX12_nowAt_12 (by decide) (fun c12 => ?_) (fun c12 => ?_)
  · rw [if_pos c12] at hM
    refine g_iload_n X dX12_nowAt_28 rfl ?_
    cases hM
    exact g_iret X dX12_nowAt_29
  · rw [if_neg c12] at hM
    refine g_aload_n X dX12_nowAt_15 rfl ?_
    refine g_getR X fX12_56 cM_0 rfl dX12_nowAt_16 ?_
    refine g_bipush X (v := 35) dX12_nowAt_19 (by decide) ?_
    refine g_iload_n X dX12_nowAt_21 rfl ?_
    refine g_iadd X dX12_nowAt_22 ?_
    obtain ⟨v23, e23, hM⟩ := bind_of hM
    refine g_iaload X e23 dX12_nowAt_23 ?_
    refine g_istore_n X [some (.ref (B + 0)), none, some (.int v23)] dX12_nowAt_24 (by decide) rfl ?_
    refine g_goto (tgt := 2) X dX12_nowAt_25 (by decide) ?_
    refine g_mk [true, false, true] [some (.ref (B + 0)), none, some (.int v23)] rfl ?_
    exact ih2 v23 _ hM
theorem v_X12_nowAt_l2 {κ : gK} {B : Nat} {u : gM} (X : gX κ B skM cX12_nowAt 3 RX12 (some .int) 0 0)   : ∀ (n : Nat) {x2 : Int32} {w : Int32} (hM : X12_nowAt_l2 u  n x2 = some w), gV κ B skM 3 ((some (.int w)), u) 2 [some (.ref (B + 0)), none, some (.int x2)] [] u := by
  intro n
  induction n with
  | zero => intro x2 w hM; exact nomatch (show (none : Option Int32) = some w from hM)
  | succ n ihn => intro x2 w hM; exact v_X12_nowAt_b2 X  (fun x2 w h => ihn h) hM
set_option maxRecDepth 20000 in
theorem v_X12_nowAt {κ : gK} {B : Nat} {u : gM} (X : gX κ B skM cX12_nowAt 3 RX12 (some .int) 0 0)   {x1 : Int32} {w : Int32} (hM : X12_nowAt u x1 = some w) : gV κ B skM 3 ((some (.int w)), u) 0 [some (.ref (B + 0)), some (.int x1), none] [] u := by
  unfold X12_nowAt at hM
  refine g_iload_n X dX12_nowAt_0 rfl ?_
  refine g_istore_n X [some (.ref (B + 0)), some (.int x1), some (.int x1)] dX12_nowAt_1 (by decide) rfl ?_
  refine g_mk [true, false, true] [some (.ref (B + 0)), none, some (.int x1)] rfl ?_
  exact v_X12_nowAt_l2 X  fz hM
theorem s_X12_nowAt {x1 : Int32} {u : gM} {w : Int32} (hM : X12_nowAt u x1 = some w) : gMet skM yX12_nowAt cX12_nowAt 3 (some .int) 0 0 (fun B adK => [.ref (B + 0), .int x1]) u ((fun _ => some (.int w)), u) := by
  refine gMet.of (by decide) (fun _ _ => Nat.le_of_ble_eq_true rfl) (fun κ B X => ?_)
  have X : gX κ B skM cX12_nowAt 3 RX12 (some .int) 0 0 := X
  refine g_mk [true, true, false] [some (.ref (B + 0)), some (.int x1), none] rfl ?_
  exact v_X12_nowAt X  hM

/-! CoverDeskModel.kindOf(I)I -/
theorem dX12_kindOf_0 : decode cX12_kindOf 0 = .ok (.iload_n 1, 1) := by decide +kernel
theorem dX12_kindOf_1 : decode cX12_kindOf 1 = .ok (.aload_n 0, 1) := by decide +kernel
theorem dX12_kindOf_2 : decode cX12_kindOf 2 = .ok (.getfield 72, 3) := by decide +kernel
theorem dX12_kindOf_5 : decode cX12_kindOf 5 = .ok (.if_icmp .ne 10, 3) := by decide +kernel
theorem dX12_kindOf_8 : decode cX12_kindOf 8 = .ok (.aload_n 0, 1) := by decide +kernel
theorem dX12_kindOf_9 : decode cX12_kindOf 9 = .ok (.getfield 316, 3) := by decide +kernel
theorem dX12_kindOf_12 : decode cX12_kindOf 12 = .ok (.goto 9, 3) := by decide +kernel
theorem dX12_kindOf_15 : decode cX12_kindOf 15 = .ok (.aload_n 0, 1) := by decide +kernel
theorem dX12_kindOf_16 : decode cX12_kindOf 16 = .ok (.getfield 23, 3) := by decide +kernel
theorem dX12_kindOf_19 : decode cX12_kindOf 19 = .ok (.iload_n 1, 1) := by decide +kernel
theorem dX12_kindOf_20 : decode cX12_kindOf 20 = .ok (.iaload, 1) := by decide +kernel
theorem dX12_kindOf_21 : decode cX12_kindOf 21 = .ok (.ireturn, 1) := by decide +kernel
def X12_kindOf_b21 (u : gM)  (s0 : Int32) : Option Int32 :=
some s0
def X12_kindOf (u : gM)  (x1 : Int32) : Option Int32 :=
(if x1 = (u.1 0 32) then (X12_kindOf_b21 u (u.1 0 33))
  else ((aI skM u 5 x1).bind fun v20 => (X12_kindOf_b21 u v20)))
set_option maxRecDepth 20000 in
theorem v_X12_kindOf_b21 {κ : gK} {B : Nat} {u : gM} (X : gX κ B skM cX12_kindOf 2 RX12 (some .int) 0 0)   {s0 : Int32} {w : Int32} (hM : X12_kindOf_b21 u s0 = some w) : gV κ B skM 2 ((some (.int w)), u) 21 [none, none] [.int s0] u := by
  unfold X12_kindOf_b21 at hM
  cases hM
  exact g_iret X dX12_kindOf_21
set_option maxRecDepth 20000 in
theorem v_X12_kindOf {κ : gK} {B : Nat} {u : gM} (X : gX κ B skM cX12_kindOf 2 RX12 (some .int) 0 0)   {x1 : Int32} {w : Int32} (hM : X12_kindOf u x1 = some w) : gV κ B skM 2 ((some (.int w)), u) 0 [some (.ref (B + 0)), some (.int x1)] [] u := by
  unfold X12_kindOf at hM
  refine g_iload_n X dX12_kindOf_0 rfl ?_
  refine g_aload_n X dX12_kindOf_1 rfl ?_
  refine g_getI X fX12_72 cM_0 rfl dX12_kindOf_2 ?_
  refine g_icmp_ne (tgt := 15) X dX12_kindOf_5 (by decide) (fun c5 => ?_) (fun c5 => ?_)
  · rw [if_neg c5] at hM
    refine g_aload_n X dX12_kindOf_15 rfl ?_
    refine g_getR X fX12_23 cM_0 rfl dX12_kindOf_16 ?_
    refine g_iload_n X dX12_kindOf_19 rfl ?_
    obtain ⟨v20, e20, hM⟩ := bind_of hM
    refine g_iaload X e20 dX12_kindOf_20 ?_
    refine g_mk [false, false] [none, none] rfl ?_
    exact v_X12_kindOf_b21 X  hM
  · rw [if_pos c5] at hM
    refine g_aload_n X dX12_kindOf_8 rfl ?_
    refine g_getI X fX12_316 cM_0 rfl dX12_kindOf_9 ?_
    refine g_goto (tgt := 21) X dX12_kindOf_12 (by decide) ?_
    refine g_mk [false, false] [none, none] rfl ?_
    exact v_X12_kindOf_b21 X  hM
theorem s_X12_kindOf {x1 : Int32} {u : gM} {w : Int32} (hM : X12_kindOf u x1 = some w) : gMet skM yX12_kindOf cX12_kindOf 2 (some .int) 0 0 (fun B adK => [.ref (B + 0), .int x1]) u ((fun _ => some (.int w)), u) := by
  refine gMet.of (by decide) (fun _ _ => Nat.le_of_ble_eq_true rfl) (fun κ B X => ?_)
  have X : gX κ B skM cX12_kindOf 2 RX12 (some .int) 0 0 := X
  refine g_mk [true, true] [some (.ref (B + 0)), some (.int x1)] rfl ?_
  exact v_X12_kindOf X  hM

/-! CoverDeskModel.ownerAt(II)I -/
theorem dX12_ownerAt_0 : decode cX12_ownerAt 0 = .ok (.iconst 0, 1) := by decide +kernel
theorem dX12_ownerAt_1 : decode cX12_ownerAt 1 = .ok (.istore_n 3, 1) := by decide +kernel
theorem dX12_ownerAt_2 : decode cX12_ownerAt 2 = .ok (.iload_n 3, 1) := by decide +kernel
theorem dX12_ownerAt_3 : decode cX12_ownerAt 3 = .ok (.aload_n 0, 1) := by decide +kernel
theorem dX12_ownerAt_4 : decode cX12_ownerAt 4 = .ok (.getfield 29, 3) := by decide +kernel
theorem dX12_ownerAt_7 : decode cX12_ownerAt 7 = .ok (.iload_n 1, 1) := by decide +kernel
theorem dX12_ownerAt_8 : decode cX12_ownerAt 8 = .ok (.iaload, 1) := by decide +kernel
theorem dX12_ownerAt_9 : decode cX12_ownerAt 9 = .ok (.if_icmp .ge 25, 3) := by decide +kernel
theorem dX12_ownerAt_12 : decode cX12_ownerAt 12 = .ok (.aload_n 0, 1) := by decide +kernel
theorem dX12_ownerAt_13 : decode cX12_ownerAt 13 = .ok (.getfield 32, 3) := by decide +kernel
theorem dX12_ownerAt_16 : decode cX12_ownerAt 16 = .ok (.iconst 4, 1) := by decide +kernel
theorem dX12_ownerAt_17 : decode cX12_ownerAt 17 = .ok (.iload_n 1, 1) := by decide +kernel
theorem dX12_ownerAt_18 : decode cX12_ownerAt 18 = .ok (.imul, 1) := by decide +kernel
theorem dX12_ownerAt_19 : decode cX12_ownerAt 19 = .ok (.iload_n 3, 1) := by decide +kernel
theorem dX12_ownerAt_20 : decode cX12_ownerAt 20 = .ok (.iadd, 1) := by decide +kernel
theorem dX12_ownerAt_21 : decode cX12_ownerAt 21 = .ok (.iaload, 1) := by decide +kernel
theorem dX12_ownerAt_22 : decode cX12_ownerAt 22 = .ok (.iload_n 2, 1) := by decide +kernel
theorem dX12_ownerAt_23 : decode cX12_ownerAt 23 = .ok (.if_icmp .ne 5, 3) := by decide +kernel
theorem dX12_ownerAt_26 : decode cX12_ownerAt 26 = .ok (.iload_n 3, 1) := by decide +kernel
theorem dX12_ownerAt_27 : decode cX12_ownerAt 27 = .ok (.ireturn, 1) := by decide +kernel
theorem dX12_ownerAt_28 : decode cX12_ownerAt 28 = .ok (.iinc 3 1, 3) := by decide +kernel
theorem dX12_ownerAt_31 : decode cX12_ownerAt 31 = .ok (.goto (-29), 3) := by decide +kernel
theorem dX12_ownerAt_34 : decode cX12_ownerAt 34 = .ok (.iconst (-1), 1) := by decide +kernel
theorem dX12_ownerAt_35 : decode cX12_ownerAt 35 = .ok (.ireturn, 1) := by decide +kernel
def X12_ownerAt_b2 (u : gM) (k2 : Int32 → Int32 → Int32 → Option Int32) (x1 : Int32) (x2 : Int32) (x3 : Int32) : Option Int32 :=
((aI skM u 7 x1).bind fun v8 => (if v8 ≤ x3 then some (-1)
  else ((aI skM u 8 ((4 * x1) + x3)).bind fun v21 => (if v21 = x2 then some x3
    else (k2 x1 x2 (x3 + 1))))))
def X12_ownerAt_l2 (u : gM)  : Nat → Int32 → Int32 → Int32 → Option Int32
  | 0, _, _, _ => none
  | n + 1, x1, x2, x3 => X12_ownerAt_b2 u  (X12_ownerAt_l2 u  n) x1 x2 x3
def X12_ownerAt (u : gM)  (x1 : Int32) (x2 : Int32) : Option Int32 :=
(X12_ownerAt_l2 u fz x1 x2 0)
set_option maxRecDepth 20000 in
theorem v_X12_ownerAt_b2 {κ : gK} {B : Nat} {u : gM} (X : gX κ B skM cX12_ownerAt 4 RX12 (some .int) 0 0) {k2 : Int32 → Int32 → Int32 → Option Int32} (ih2 : ∀ (x1 : Int32) (x2 : Int32) (x3 : Int32) (w : Int32), k2 x1 x2 x3 = some w → gV κ B skM 4 ((some (.int w)), u) 2 [some (.ref (B + 0)), some (.int x1), some (.int x2), some (.int x3)] [] u) {x1 : Int32} {x2 : Int32} {x3 : Int32} {w : Int32} (hM : X12_ownerAt_b2 u k2 x1 x2 x3 = some w) : gV κ B skM 4 ((some (.int w)), u) 2 [some (.ref (B + 0)), some (.int x1), some (.int x2), some (.int x3)] [] u := by
  unfold X12_ownerAt_b2 at hM
  refine g_iload_n X dX12_ownerAt_2 rfl ?_
  refine g_aload_n X dX12_ownerAt_3 rfl ?_
  refine g_getR X fX12_29 cM_0 rfl dX12_ownerAt_4 ?_
  refine g_iload_n X dX12_ownerAt_7 rfl ?_
  obtain ⟨v8, e8, hM⟩ := bind_of hM
  refine g_iaload X e8 dX12_ownerAt_8 ?_
  refine g_icmp_ge (tgt := 34) X dX12_ownerAt_9 (by decide) (fun c9 => ?_) (fun c9 => ?_)
  · rw [if_pos c9] at hM
    refine g_iconst X (v := (-1)) dX12_ownerAt_34 (by decide) ?_
    cases hM
    exact g_iret X dX12_ownerAt_35
  · rw [if_neg c9] at hM
    refine g_aload_n X dX12_ownerAt_12 rfl ?_
    refine g_getR X fX12_32 cM_0 rfl dX12_ownerAt_13 ?_
    refine g_iconst X (v := 4) dX12_ownerAt_16 (by decide) ?_
    refine g_iload_n X dX12_ownerAt_17 rfl ?_
    refine g_imul X dX12_ownerAt_18 ?_
    refine g_iload_n X dX12_ownerAt_19 rfl ?_
    refine g_iadd X dX12_ownerAt_20 ?_
    obtain ⟨v21, e21, hM⟩ := bind_of hM
    refine g_iaload X e21 dX12_ownerAt_21 ?_
    refine g_iload_n X dX12_ownerAt_22 rfl ?_
    refine g_icmp_ne (tgt := 28) X dX12_ownerAt_23 (by decide) (fun c23 => ?_) (fun c23 => ?_)
    · rw [if_neg c23] at hM
      refine g_iinc (d := 1) X [some (.ref (B + 0)), some (.int x1), some (.int x2), some (.int (x3 + 1))] dX12_ownerAt_28 (by decide) rfl (by decide) rfl ?_
      refine g_goto (tgt := 2) X dX12_ownerAt_31 (by decide) ?_
      refine g_mk [true, true, true, true] [some (.ref (B + 0)), some (.int x1), some (.int x2), some (.int (x3 + 1))] rfl ?_
      exact ih2 x1 x2 (x3 + 1) _ hM
    · rw [if_pos c23] at hM
      refine g_iload_n X dX12_ownerAt_26 rfl ?_
      cases hM
      exact g_iret X dX12_ownerAt_27
theorem v_X12_ownerAt_l2 {κ : gK} {B : Nat} {u : gM} (X : gX κ B skM cX12_ownerAt 4 RX12 (some .int) 0 0)   : ∀ (n : Nat) {x1 : Int32} {x2 : Int32} {x3 : Int32} {w : Int32} (hM : X12_ownerAt_l2 u  n x1 x2 x3 = some w), gV κ B skM 4 ((some (.int w)), u) 2 [some (.ref (B + 0)), some (.int x1), some (.int x2), some (.int x3)] [] u := by
  intro n
  induction n with
  | zero => intro x1 x2 x3 w hM; exact nomatch (show (none : Option Int32) = some w from hM)
  | succ n ihn => intro x1 x2 x3 w hM; exact v_X12_ownerAt_b2 X  (fun x1 x2 x3 w h => ihn h) hM
set_option maxRecDepth 20000 in
theorem v_X12_ownerAt {κ : gK} {B : Nat} {u : gM} (X : gX κ B skM cX12_ownerAt 4 RX12 (some .int) 0 0)   {x1 : Int32} {x2 : Int32} {w : Int32} (hM : X12_ownerAt u x1 x2 = some w) : gV κ B skM 4 ((some (.int w)), u) 0 [some (.ref (B + 0)), some (.int x1), some (.int x2), none] [] u := by
  unfold X12_ownerAt at hM
  refine g_iconst X (v := 0) dX12_ownerAt_0 (by decide) ?_
  refine g_istore_n X [some (.ref (B + 0)), some (.int x1), some (.int x2), some (.int 0)] dX12_ownerAt_1 (by decide) rfl ?_
  refine g_mk [true, true, true, true] [some (.ref (B + 0)), some (.int x1), some (.int x2), some (.int 0)] rfl ?_
  exact v_X12_ownerAt_l2 X  fz hM
theorem s_X12_ownerAt {x1 : Int32} {x2 : Int32} {u : gM} {w : Int32} (hM : X12_ownerAt u x1 x2 = some w) : gMet skM yX12_ownerAt cX12_ownerAt 4 (some .int) 0 0 (fun B adK => [.ref (B + 0), .int x1, .int x2]) u ((fun _ => some (.int w)), u) := by
  refine gMet.of (by decide) (fun _ _ => Nat.le_of_ble_eq_true rfl) (fun κ B X => ?_)
  have X : gX κ B skM cX12_ownerAt 4 RX12 (some .int) 0 0 := X
  refine g_mk [true, true, true, false] [some (.ref (B + 0)), some (.int x1), some (.int x2), none] rfl ?_
  exact v_X12_ownerAt X  hM

/-! CoverDeskModel.isInGroup(IIIII)Z -/
theorem dX12_isInGroup_0 : decode cX12_isInGroup 0 = .ok (.aload_n 0, 1) := by decide +kernel
theorem dX12_isInGroup_1 : decode cX12_isInGroup 1 = .ok (.iload_n 1, 1) := by decide +kernel
theorem dX12_isInGroup_2 : decode cX12_isInGroup 2 = .ok (.invokevirtual 319, 3) := by decide +kernel
theorem dX12_isInGroup_5 : decode cX12_isInGroup 5 = .ok (.iload_n 3, 1) := by decide +kernel
theorem dX12_isInGroup_6 : decode cX12_isInGroup 6 = .ok (.if_icmp .ne 29, 3) := by decide +kernel
theorem dX12_isInGroup_9 : decode cX12_isInGroup 9 = .ok (.aload_n 0, 1) := by decide +kernel
theorem dX12_isInGroup_10 : decode cX12_isInGroup 10 = .ok (.iload_n 1, 1) := by decide +kernel
theorem dX12_isInGroup_11 : decode cX12_isInGroup 11 = .ok (.iload_n 2, 1) := by decide +kernel
theorem dX12_isInGroup_12 : decode cX12_isInGroup 12 = .ok (.invokevirtual 322, 3) := by decide +kernel
theorem dX12_isInGroup_15 : decode cX12_isInGroup 15 = .ok (.iconst (-1), 1) := by decide +kernel
theorem dX12_isInGroup_16 : decode cX12_isInGroup 16 = .ok (.if_icmp .eq 19, 3) := by decide +kernel
theorem dX12_isInGroup_19 : decode cX12_isInGroup 19 = .ok (.aload_n 0, 1) := by decide +kernel
theorem dX12_isInGroup_20 : decode cX12_isInGroup 20 = .ok (.iload_n 1, 1) := by decide +kernel
theorem dX12_isInGroup_21 : decode cX12_isInGroup 21 = .ok (.iload 5, 2) := by decide +kernel
theorem dX12_isInGroup_23 : decode cX12_isInGroup 23 = .ok (.invokevirtual 325, 3) := by decide +kernel
theorem dX12_isInGroup_26 : decode cX12_isInGroup 26 = .ok (.iload 4, 2) := by decide +kernel
theorem dX12_isInGroup_28 : decode cX12_isInGroup 28 = .ok (.if_icmp .ne 7, 3) := by decide +kernel
theorem dX12_isInGroup_31 : decode cX12_isInGroup 31 = .ok (.iconst 1, 1) := by decide +kernel
theorem dX12_isInGroup_32 : decode cX12_isInGroup 32 = .ok (.goto 4, 3) := by decide +kernel
theorem dX12_isInGroup_35 : decode cX12_isInGroup 35 = .ok (.iconst 0, 1) := by decide +kernel
theorem dX12_isInGroup_36 : decode cX12_isInGroup 36 = .ok (.ireturn, 1) := by decide +kernel
def X12_isInGroup_b36 (u : gM)  (s0 : Int32) : Option Int32 :=
bI s0
def X12_isInGroup_b35 (u : gM)   : Option Int32 :=
(X12_isInGroup_b36 u 0)
def X12_isInGroup (u : gM)  (x1 : Int32) (x2 : Int32) (x3 : Int32) (x4 : Int32) (x5 : Int32) : Option Int32 :=
((X12_kindOf u x1).bind fun w2 => (if w2 = x3 then ((X12_ownerAt u x1 x2).bind fun w12 => (if w12 = (-1) then (X12_isInGroup_b35 u)
    else ((X12_countedAt u x1 x5).bind fun w23 => (if w23 = x4 then (X12_isInGroup_b36 u 1)
      else (X12_isInGroup_b35 u)))))
  else (X12_isInGroup_b35 u)))
set_option maxRecDepth 20000 in
theorem v_X12_isInGroup_b36 {κ : gK} {B : Nat} {u : gM} (X : gX κ B skM cX12_isInGroup 6 RX12 (some .boolean) 3 73)   {s0 : Int32} {w : Int32} (hM : X12_isInGroup_b36 u s0 = some w) : gV κ B skM 6 ((some (.int w)), u) 36 [none, none, none, none, none, none] [.int s0] u := by
  unfold X12_isInGroup_b36 at hM
  obtain ⟨hv, rfl⟩ := bI_of hM
  exact g_zret X hv dX12_isInGroup_36
set_option maxRecDepth 20000 in
theorem v_X12_isInGroup_b35 {κ : gK} {B : Nat} {u : gM} (X : gX κ B skM cX12_isInGroup 6 RX12 (some .boolean) 3 73)    {w : Int32} (hM : X12_isInGroup_b35 u = some w) : gV κ B skM 6 ((some (.int w)), u) 35 [none, none, none, none, none, none] [] u := by
  unfold X12_isInGroup_b35 at hM
  refine g_iconst X (v := 0) dX12_isInGroup_35 (by decide) ?_
  refine g_mk [false, false, false, false, false, false] [none, none, none, none, none, none] rfl ?_
  exact v_X12_isInGroup_b36 X  hM
set_option maxRecDepth 20000 in
theorem v_X12_isInGroup {κ : gK} {B : Nat} {u : gM} (X : gX κ B skM cX12_isInGroup 6 RX12 (some .boolean) 3 73)   {x1 : Int32} {x2 : Int32} {x3 : Int32} {x4 : Int32} {x5 : Int32} {w : Int32} (hM : X12_isInGroup u x1 x2 x3 x4 x5 = some w) : gV κ B skM 6 ((some (.int w)), u) 0 [some (.ref (B + 0)), some (.int x1), some (.int x2), some (.int x3), some (.int x4), some (.int x5)] [] u := by
  unfold X12_isInGroup at hM
  refine g_aload_n X dX12_isInGroup_0 rfl ?_
  refine g_iload_n X dX12_isInGroup_1 rfl ?_
  obtain ⟨w2, e2, hM⟩ := bind_of hM
  refine g_callVi X (fun B adK => [.int x1]) (s_X12_kindOf e2) cvX12_319 cM_0 rfl rfl (Nat.le_of_ble_eq_true rfl) ⟨by decide, by decide⟩ dX12_isInGroup_2 ?_
  refine g_iload_n X dX12_isInGroup_5 rfl ?_
  refine g_icmp_ne (tgt := 35) X dX12_isInGroup_6 (by decide) (fun c6 => ?_) (fun c6 => ?_)
  · rw [if_neg c6] at hM
    refine g_mk [false, false, false, false, false, false] [none, none, none, none, none, none] rfl ?_
    exact v_X12_isInGroup_b35 X  hM
  · rw [if_pos c6] at hM
    refine g_aload_n X dX12_isInGroup_9 rfl ?_
    refine g_iload_n X dX12_isInGroup_10 rfl ?_
    refine g_iload_n X dX12_isInGroup_11 rfl ?_
    obtain ⟨w12, e12, hM⟩ := bind_of hM
    refine g_callVi X (fun B adK => [.int x1, .int x2]) (s_X12_ownerAt e12) cvX12_322 cM_0 rfl rfl (Nat.le_of_ble_eq_true rfl) ⟨by decide, by decide⟩ dX12_isInGroup_12 ?_
    refine g_iconst X (v := (-1)) dX12_isInGroup_15 (by decide) ?_
    refine g_icmp_eq (tgt := 35) X dX12_isInGroup_16 (by decide) (fun c16 => ?_) (fun c16 => ?_)
    · rw [if_pos c16] at hM
      refine g_mk [false, false, false, false, false, false] [none, none, none, none, none, none] rfl ?_
      exact v_X12_isInGroup_b35 X  hM
    · rw [if_neg c16] at hM
      refine g_aload_n X dX12_isInGroup_19 rfl ?_
      refine g_iload_n X dX12_isInGroup_20 rfl ?_
      refine g_iload X dX12_isInGroup_21 rfl ?_
      obtain ⟨w23, e23, hM⟩ := bind_of hM
      refine g_callVi X (fun B adK => [.int x1, .int x5]) (s_X12_countedAt e23) cvX12_325 cM_0 rfl rfl (Nat.le_of_ble_eq_true rfl) ⟨by decide, by decide⟩ dX12_isInGroup_23 ?_
      refine g_iload X dX12_isInGroup_26 rfl ?_
      refine g_icmp_ne (tgt := 35) X dX12_isInGroup_28 (by decide) (fun c28 => ?_) (fun c28 => ?_)
      · rw [if_neg c28] at hM
        refine g_mk [false, false, false, false, false, false] [none, none, none, none, none, none] rfl ?_
        exact v_X12_isInGroup_b35 X  hM
      · rw [if_pos c28] at hM
        refine g_iconst X (v := 1) dX12_isInGroup_31 (by decide) ?_
        refine g_goto (tgt := 36) X dX12_isInGroup_32 (by decide) ?_
        refine g_mk [false, false, false, false, false, false] [none, none, none, none, none, none] rfl ?_
        exact v_X12_isInGroup_b36 X  hM
theorem s_X12_isInGroup {x1 : Int32} {x2 : Int32} {x3 : Int32} {x4 : Int32} {x5 : Int32} {u : gM} {w : Int32} (hM : X12_isInGroup u x1 x2 x3 x4 x5 = some w) : gMet skM yX12_isInGroup cX12_isInGroup 6 (some .boolean) 3 73 (fun B adK => [.ref (B + 0), .int x1, .int x2, .int x3, .int x4, .int x5]) u ((fun _ => some (.int w)), u) := by
  refine gMet.of (by decide) (fun _ _ => Nat.le_of_ble_eq_true rfl) (fun κ B X => ?_)
  have X : gX κ B skM cX12_isInGroup 6 RX12 (some .boolean) 3 73 := X
  refine g_mk [true, true, true, true, true, true] [some (.ref (B + 0)), some (.int x1), some (.int x2), some (.int x3), some (.int x4), some (.int x5)] rfl ?_
  exact v_X12_isInGroup X  hM

/-! CoverDeskModel.one(Z)I -/
theorem dX12_one_0 : decode cX12_one 0 = .ok (.iload_n 0, 1) := by decide +kernel
theorem dX12_one_1 : decode cX12_one 1 = .ok (.ifCond .eq 7, 3) := by decide +kernel
theorem dX12_one_4 : decode cX12_one 4 = .ok (.iconst 1, 1) := by decide +kernel
theorem dX12_one_5 : decode cX12_one 5 = .ok (.goto 4, 3) := by decide +kernel
theorem dX12_one_8 : decode cX12_one 8 = .ok (.iconst 0, 1) := by decide +kernel
theorem dX12_one_9 : decode cX12_one 9 = .ok (.ireturn, 1) := by decide +kernel
def X12_one_b9 (u : gM)  (s0 : Int32) : Option Int32 :=
some s0
def X12_one (u : gM)  (x0 : Int32) : Option Int32 :=
(if x0 = 0 then (X12_one_b9 u 0)
  else (X12_one_b9 u 1))
set_option maxRecDepth 20000 in
theorem v_X12_one_b9 {κ : gK} {B : Nat} {u : gM} (X : gX κ B skM cX12_one 1 RX12 (some .int) 0 0)   {s0 : Int32} {w : Int32} (hM : X12_one_b9 u s0 = some w) : gV κ B skM 1 ((some (.int w)), u) 9 [none] [.int s0] u := by
  unfold X12_one_b9 at hM
  cases hM
  exact g_iret X dX12_one_9
set_option maxRecDepth 20000 in
theorem v_X12_one {κ : gK} {B : Nat} {u : gM} (X : gX κ B skM cX12_one 1 RX12 (some .int) 0 0)   {x0 : Int32} {w : Int32} (hM : X12_one u x0 = some w) : gV κ B skM 1 ((some (.int w)), u) 0 [some (.int x0)] [] u := by
  unfold X12_one at hM
  refine g_iload_n X dX12_one_0 rfl ?_
  refine g_if_eq (tgt := 8) X dX12_one_1 (by decide) (fun c1 => ?_) (fun c1 => ?_)
  · rw [if_pos c1] at hM
    refine g_iconst X (v := 0) dX12_one_8 (by decide) ?_
    refine g_mk [false] [none] rfl ?_
    exact v_X12_one_b9 X  hM
  · rw [if_neg c1] at hM
    refine g_iconst X (v := 1) dX12_one_4 (by decide) ?_
    refine g_goto (tgt := 9) X dX12_one_5 (by decide) ?_
    refine g_mk [false] [none] rfl ?_
    exact v_X12_one_b9 X  hM
theorem s_X12_one {x0 : Int32} {u : gM} {w : Int32} (hM : X12_one u x0 = some w) : gMet skM yX12_one cX12_one 1 (some .int) 0 0 (fun B adK => [.int x0]) u ((fun _ => some (.int w)), u) := by
  refine gMet.of (by decide) (fun _ _ => Nat.le_of_ble_eq_true rfl) (fun κ B X => ?_)
  have X : gX κ B skM cX12_one 1 RX12 (some .int) 0 0 := X
  refine g_mk [true] [some (.int x0)] rfl ?_
  exact v_X12_one X  hM

/-! CoverDeskModel.shareOf(II)I -/
theorem dX12_shareOf_0 : decode cX12_shareOf 0 = .ok (.aload_n 0, 1) := by decide +kernel
theorem dX12_shareOf_1 : decode cX12_shareOf 1 = .ok (.getfield 56, 3) := by decide +kernel
theorem dX12_shareOf_4 : decode cX12_shareOf 4 = .ok (.iconst 1, 1) := by decide +kernel
theorem dX12_shareOf_5 : decode cX12_shareOf 5 = .ok (.iload_n 1, 1) := by decide +kernel
theorem dX12_shareOf_6 : decode cX12_shareOf 6 = .ok (.iadd, 1) := by decide +kernel
theorem dX12_shareOf_7 : decode cX12_shareOf 7 = .ok (.iaload, 1) := by decide +kernel
theorem dX12_shareOf_8 : decode cX12_shareOf 8 = .ok (.aload_n 0, 1) := by decide +kernel
theorem dX12_shareOf_9 : decode cX12_shareOf 9 = .ok (.getfield 29, 3) := by decide +kernel
theorem dX12_shareOf_12 : decode cX12_shareOf 12 = .ok (.iload_n 1, 1) := by decide +kernel
theorem dX12_shareOf_13 : decode cX12_shareOf 13 = .ok (.iaload, 1) := by decide +kernel
theorem dX12_shareOf_14 : decode cX12_shareOf 14 = .ok (.idiv, 1) := by decide +kernel
theorem dX12_shareOf_15 : decode cX12_shareOf 15 = .ok (.iload_n 2, 1) := by decide +kernel
theorem dX12_shareOf_16 : decode cX12_shareOf 16 = .ok (.aload_n 0, 1) := by decide +kernel
theorem dX12_shareOf_17 : decode cX12_shareOf 17 = .ok (.getfield 56, 3) := by decide +kernel
theorem dX12_shareOf_20 : decode cX12_shareOf 20 = .ok (.iconst 1, 1) := by decide +kernel
theorem dX12_shareOf_21 : decode cX12_shareOf 21 = .ok (.iload_n 1, 1) := by decide +kernel
theorem dX12_shareOf_22 : decode cX12_shareOf 22 = .ok (.iadd, 1) := by decide +kernel
theorem dX12_shareOf_23 : decode cX12_shareOf 23 = .ok (.iaload, 1) := by decide +kernel
theorem dX12_shareOf_24 : decode cX12_shareOf 24 = .ok (.aload_n 0, 1) := by decide +kernel
theorem dX12_shareOf_25 : decode cX12_shareOf 25 = .ok (.getfield 29, 3) := by decide +kernel
theorem dX12_shareOf_28 : decode cX12_shareOf 28 = .ok (.iload_n 1, 1) := by decide +kernel
theorem dX12_shareOf_29 : decode cX12_shareOf 29 = .ok (.iaload, 1) := by decide +kernel
theorem dX12_shareOf_30 : decode cX12_shareOf 30 = .ok (.irem, 1) := by decide +kernel
theorem dX12_shareOf_31 : decode cX12_shareOf 31 = .ok (.if_icmp .ge 7, 3) := by decide +kernel
theorem dX12_shareOf_34 : decode cX12_shareOf 34 = .ok (.iconst 1, 1) := by decide +kernel
theorem dX12_shareOf_35 : decode cX12_shareOf 35 = .ok (.goto 4, 3) := by decide +kernel
theorem dX12_shareOf_38 : decode cX12_shareOf 38 = .ok (.iconst 0, 1) := by decide +kernel
theorem dX12_shareOf_39 : decode cX12_shareOf 39 = .ok (.invokestatic 312, 3) := by decide +kernel
theorem dX12_shareOf_42 : decode cX12_shareOf 42 = .ok (.iadd, 1) := by decide +kernel
theorem dX12_shareOf_43 : decode cX12_shareOf 43 = .ok (.ireturn, 1) := by decide +kernel
def X12_shareOf_b39 (u : gM)  (s0 : Int32) (s1 : Int32) : Option Int32 :=
((X12_one u s1).bind fun w39 => some (s0 + w39))
def X12_shareOf (u : gM)  (x1 : Int32) (x2 : Int32) : Option Int32 :=
((aI skM u 16 (1 + x1)).bind fun v7 => ((aI skM u 7 x1).bind fun v13 => (if v13 = 0 then none else ((aI skM u 16 (1 + x1)).bind fun v23 => ((aI skM u 7 x1).bind fun v29 => (if v29 = 0 then none else (if (v23 - v23 / v29 * v29) ≤ x2 then (X12_shareOf_b39 u (v7 / v13) 0)
  else (X12_shareOf_b39 u (v7 / v13) 1))))))))
set_option maxRecDepth 20000 in
theorem v_X12_shareOf_b39 {κ : gK} {B : Nat} {u : gM} (X : gX κ B skM cX12_shareOf 3 RX12 (some .int) 1 20)   {s0 : Int32} {s1 : Int32} {w : Int32} (hM : X12_shareOf_b39 u s0 s1 = some w) : gV κ B skM 3 ((some (.int w)), u) 39 [none, none, none] [.int s1, .int s0] u := by
  unfold X12_shareOf_b39 at hM
  obtain ⟨w39, e39, hM⟩ := bind_of hM
  refine g_callSi X (fun B adK => [.int s1]) (s_X12_one e39) cvX12_312 rfl rfl (Nat.le_of_ble_eq_true rfl) ⟨by decide, by decide⟩ dX12_shareOf_39 ?_
  refine g_iadd X dX12_shareOf_42 ?_
  cases hM
  exact g_iret X dX12_shareOf_43
set_option maxRecDepth 20000 in
theorem v_X12_shareOf {κ : gK} {B : Nat} {u : gM} (X : gX κ B skM cX12_shareOf 3 RX12 (some .int) 1 20)   {x1 : Int32} {x2 : Int32} {w : Int32} (hM : X12_shareOf u x1 x2 = some w) : gV κ B skM 3 ((some (.int w)), u) 0 [some (.ref (B + 0)), some (.int x1), some (.int x2)] [] u := by
  unfold X12_shareOf at hM
  refine g_aload_n X dX12_shareOf_0 rfl ?_
  refine g_getR X fX12_56 cM_0 rfl dX12_shareOf_1 ?_
  refine g_iconst X (v := 1) dX12_shareOf_4 (by decide) ?_
  refine g_iload_n X dX12_shareOf_5 rfl ?_
  refine g_iadd X dX12_shareOf_6 ?_
  obtain ⟨v7, e7, hM⟩ := bind_of hM
  refine g_iaload X e7 dX12_shareOf_7 ?_
  refine g_aload_n X dX12_shareOf_8 rfl ?_
  refine g_getR X fX12_29 cM_0 rfl dX12_shareOf_9 ?_
  refine g_iload_n X dX12_shareOf_12 rfl ?_
  obtain ⟨v13, e13, hM⟩ := bind_of hM
  refine g_iaload X e13 dX12_shareOf_13 ?_
  obtain ⟨n14, hM⟩ := ite_no hM
  refine g_idiv X n14 dX12_shareOf_14 ?_
  refine g_iload_n X dX12_shareOf_15 rfl ?_
  refine g_aload_n X dX12_shareOf_16 rfl ?_
  refine g_getR X fX12_56 cM_0 rfl dX12_shareOf_17 ?_
  refine g_iconst X (v := 1) dX12_shareOf_20 (by decide) ?_
  refine g_iload_n X dX12_shareOf_21 rfl ?_
  refine g_iadd X dX12_shareOf_22 ?_
  obtain ⟨v23, e23, hM⟩ := bind_of hM
  refine g_iaload X e23 dX12_shareOf_23 ?_
  refine g_aload_n X dX12_shareOf_24 rfl ?_
  refine g_getR X fX12_29 cM_0 rfl dX12_shareOf_25 ?_
  refine g_iload_n X dX12_shareOf_28 rfl ?_
  obtain ⟨v29, e29, hM⟩ := bind_of hM
  refine g_iaload X e29 dX12_shareOf_29 ?_
  obtain ⟨n30, hM⟩ := ite_no hM
  refine g_irem X n30 dX12_shareOf_30 ?_
  refine g_icmp_ge (tgt := 38) X dX12_shareOf_31 (by decide) (fun c31 => ?_) (fun c31 => ?_)
  · rw [if_pos c31] at hM
    refine g_iconst X (v := 0) dX12_shareOf_38 (by decide) ?_
    refine g_mk [false, false, false] [none, none, none] rfl ?_
    exact v_X12_shareOf_b39 X  hM
  · rw [if_neg c31] at hM
    refine g_iconst X (v := 1) dX12_shareOf_34 (by decide) ?_
    refine g_goto (tgt := 39) X dX12_shareOf_35 (by decide) ?_
    refine g_mk [false, false, false] [none, none, none] rfl ?_
    exact v_X12_shareOf_b39 X  hM
theorem s_X12_shareOf {x1 : Int32} {x2 : Int32} {u : gM} {w : Int32} (hM : X12_shareOf u x1 x2 = some w) : gMet skM yX12_shareOf cX12_shareOf 3 (some .int) 1 20 (fun B adK => [.ref (B + 0), .int x1, .int x2]) u ((fun _ => some (.int w)), u) := by
  refine gMet.of (by decide) (fun _ _ => Nat.le_of_ble_eq_true rfl) (fun κ B X => ?_)
  have X : gX κ B skM cX12_shareOf 3 RX12 (some .int) 1 20 := X
  refine g_mk [true, true, true] [some (.ref (B + 0)), some (.int x1), some (.int x2)] rfl ?_
  exact v_X12_shareOf X  hM

/-! CoverDeskModel.placeIn([JIIJ)I -/
theorem dX12_placeIn_0 : decode cX12_placeIn 0 = .ok (.iconst 0, 1) := by decide +kernel
theorem dX12_placeIn_1 : decode cX12_placeIn 1 = .ok (.istore 5, 2) := by decide +kernel
theorem dX12_placeIn_3 : decode cX12_placeIn 3 = .ok (.iload 5, 2) := by decide +kernel
theorem dX12_placeIn_5 : decode cX12_placeIn 5 = .ok (.iload_n 2, 1) := by decide +kernel
theorem dX12_placeIn_6 : decode cX12_placeIn 6 = .ok (.if_icmp .ge 23, 3) := by decide +kernel
theorem dX12_placeIn_9 : decode cX12_placeIn 9 = .ok (.aload_n 0, 1) := by decide +kernel
theorem dX12_placeIn_10 : decode cX12_placeIn 10 = .ok (.iload_n 1, 1) := by decide +kernel
theorem dX12_placeIn_11 : decode cX12_placeIn 11 = .ok (.iload 5, 2) := by decide +kernel
theorem dX12_placeIn_13 : decode cX12_placeIn 13 = .ok (.iadd, 1) := by decide +kernel
theorem dX12_placeIn_14 : decode cX12_placeIn 14 = .ok (.laload, 1) := by decide +kernel
theorem dX12_placeIn_15 : decode cX12_placeIn 15 = .ok (.lload_n 3, 1) := by decide +kernel
theorem dX12_placeIn_16 : decode cX12_placeIn 16 = .ok (.lcmp, 1) := by decide +kernel
theorem dX12_placeIn_17 : decode cX12_placeIn 17 = .ok (.ifCond .ne 6, 3) := by decide +kernel
theorem dX12_placeIn_20 : decode cX12_placeIn 20 = .ok (.iload 5, 2) := by decide +kernel
theorem dX12_placeIn_22 : decode cX12_placeIn 22 = .ok (.ireturn, 1) := by decide +kernel
theorem dX12_placeIn_23 : decode cX12_placeIn 23 = .ok (.iinc 5 1, 3) := by decide +kernel
theorem dX12_placeIn_26 : decode cX12_placeIn 26 = .ok (.goto (-23), 3) := by decide +kernel
theorem dX12_placeIn_29 : decode cX12_placeIn 29 = .ok (.iconst (-1), 1) := by decide +kernel
theorem dX12_placeIn_30 : decode cX12_placeIn 30 = .ok (.ireturn, 1) := by decide +kernel
def X12_placeIn_b3 (u : gM) (k3 : Nat → Int32 → Int32 → Int64 → Int32 → Option Int32) (x0 : Nat) (x1 : Int32) (x2 : Int32) (x3 : Int64) (x5 : Int32) : Option Int32 :=
(if x2 ≤ x5 then some (-1)
  else ((aJ skM u x0 (x1 + x5)).bind fun v14 => (if (lg_cmp v14 x3) = 0 then some x5
    else (k3 x0 x1 x2 x3 (x5 + 1)))))
def X12_placeIn_l3 (u : gM)  : Nat → Nat → Int32 → Int32 → Int64 → Int32 → Option Int32
  | 0, _, _, _, _, _ => none
  | n + 1, x0, x1, x2, x3, x5 => X12_placeIn_b3 u  (X12_placeIn_l3 u  n) x0 x1 x2 x3 x5
def X12_placeIn (u : gM)  (x0 : Nat) (x1 : Int32) (x2 : Int32) (x3 : Int64) : Option Int32 :=
(X12_placeIn_l3 u fz x0 x1 x2 x3 0)
set_option maxRecDepth 20000 in
theorem v_X12_placeIn_b3 {κ : gK} {B : Nat} {u : gM} (X : gX κ B skM cX12_placeIn 6 RX12 (some .int) 0 0) {k3 : Nat → Int32 → Int32 → Int64 → Int32 → Option Int32} (ih3 : ∀ (x0 : Nat) (x1 : Int32) (x2 : Int32) (x3 : Int64) (x5 : Int32) (w : Int32), k3 x0 x1 x2 x3 x5 = some w → gV κ B skM 6 ((some (.int w)), u) 3 [some (.ref (B + x0)), some (.int x1), some (.int x2), some (.long x3), none, some (.int x5)] [] u) {x0 : Nat} {x1 : Int32} {x2 : Int32} {x3 : Int64} {x5 : Int32} {w : Int32} (hM : X12_placeIn_b3 u k3 x0 x1 x2 x3 x5 = some w) : gV κ B skM 6 ((some (.int w)), u) 3 [some (.ref (B + x0)), some (.int x1), some (.int x2), some (.long x3), none, some (.int x5)] [] u := by
  unfold X12_placeIn_b3 at hM
  refine g_iload X dX12_placeIn_3 rfl ?_
  refine g_iload_n X dX12_placeIn_5 rfl ?_
  refine g_icmp_ge (tgt := 29) X dX12_placeIn_6 (by decide) (fun c6 => ?_) (fun c6 => ?_)
  · rw [if_pos c6] at hM
    refine g_iconst X (v := (-1)) dX12_placeIn_29 (by decide) ?_
    cases hM
    exact g_iret X dX12_placeIn_30
  · rw [if_neg c6] at hM
    refine g_aload_n X dX12_placeIn_9 rfl ?_
    refine g_iload_n X dX12_placeIn_10 rfl ?_
    refine g_iload X dX12_placeIn_11 rfl ?_
    refine g_iadd X dX12_placeIn_13 ?_
    obtain ⟨v14, e14, hM⟩ := bind_of hM
    refine g_laload X e14 dX12_placeIn_14 ?_
    refine g_lload_n X dX12_placeIn_15 rfl ?_
    refine g_lcmp X dX12_placeIn_16 ?_
    refine g_if_ne (tgt := 23) X dX12_placeIn_17 (by decide) (fun c17 => ?_) (fun c17 => ?_)
    · rw [if_neg c17] at hM
      refine g_iinc (d := 1) X [some (.ref (B + x0)), some (.int x1), some (.int x2), some (.long x3), none, some (.int (x5 + 1))] dX12_placeIn_23 (by decide) rfl (by decide) rfl ?_
      refine g_goto (tgt := 3) X dX12_placeIn_26 (by decide) ?_
      refine g_mk [true, true, true, true, false, true] [some (.ref (B + x0)), some (.int x1), some (.int x2), some (.long x3), none, some (.int (x5 + 1))] rfl ?_
      exact ih3 x0 x1 x2 x3 (x5 + 1) _ hM
    · rw [if_pos c17] at hM
      refine g_iload X dX12_placeIn_20 rfl ?_
      cases hM
      exact g_iret X dX12_placeIn_22
theorem v_X12_placeIn_l3 {κ : gK} {B : Nat} {u : gM} (X : gX κ B skM cX12_placeIn 6 RX12 (some .int) 0 0)   : ∀ (n : Nat) {x0 : Nat} {x1 : Int32} {x2 : Int32} {x3 : Int64} {x5 : Int32} {w : Int32} (hM : X12_placeIn_l3 u  n x0 x1 x2 x3 x5 = some w), gV κ B skM 6 ((some (.int w)), u) 3 [some (.ref (B + x0)), some (.int x1), some (.int x2), some (.long x3), none, some (.int x5)] [] u := by
  intro n
  induction n with
  | zero => intro x0 x1 x2 x3 x5 w hM; exact nomatch (show (none : Option Int32) = some w from hM)
  | succ n ihn => intro x0 x1 x2 x3 x5 w hM; exact v_X12_placeIn_b3 X  (fun x0 x1 x2 x3 x5 w h => ihn h) hM
set_option maxRecDepth 20000 in
theorem v_X12_placeIn {κ : gK} {B : Nat} {u : gM} (X : gX κ B skM cX12_placeIn 6 RX12 (some .int) 0 0)   {x0 : Nat} {x1 : Int32} {x2 : Int32} {x3 : Int64} {w : Int32} (hM : X12_placeIn u x0 x1 x2 x3 = some w) : gV κ B skM 6 ((some (.int w)), u) 0 [some (.ref (B + x0)), some (.int x1), some (.int x2), some (.long x3), none, none] [] u := by
  unfold X12_placeIn at hM
  refine g_iconst X (v := 0) dX12_placeIn_0 (by decide) ?_
  refine g_istore X [some (.ref (B + x0)), some (.int x1), some (.int x2), some (.long x3), none, some (.int 0)] dX12_placeIn_1 (by decide) rfl ?_
  refine g_mk [true, true, true, true, false, true] [some (.ref (B + x0)), some (.int x1), some (.int x2), some (.long x3), none, some (.int 0)] rfl ?_
  exact v_X12_placeIn_l3 X  fz hM
theorem s_X12_placeIn {x0 : Nat} {x1 : Int32} {x2 : Int32} {x3 : Int64} {u : gM} {w : Int32} (hM : X12_placeIn u x0 x1 x2 x3 = some w) : gMet skM yX12_placeIn cX12_placeIn 6 (some .int) 0 0 (fun B adK => [.ref (B + x0), .int x1, .int x2, .long x3]) u ((fun _ => some (.int w)), u) := by
  refine gMet.of (by decide) (fun _ _ => Nat.le_of_ble_eq_true rfl) (fun κ B X => ?_)
  have X : gX κ B skM cX12_placeIn 6 RX12 (some .int) 0 0 := X
  refine g_mk [true, true, true, true, false, false] [some (.ref (B + x0)), some (.int x1), some (.int x2), some (.long x3), none, none] rfl ?_
  exact v_X12_placeIn X  hM

/-! CoverDeskModel.mostOf(IIII)J -/
theorem dX12_mostOf_0 : decode cX12_mostOf 0 = .ok (.iload_n 2, 1) := by decide +kernel
theorem dX12_mostOf_1 : decode cX12_mostOf 1 = .ok (.iconst 2, 1) := by decide +kernel
theorem dX12_mostOf_2 : decode cX12_mostOf 2 = .ok (.if_icmp .eq 11, 3) := by decide +kernel
theorem dX12_mostOf_5 : decode cX12_mostOf 5 = .ok (.aload_n 0, 1) := by decide +kernel
theorem dX12_mostOf_6 : decode cX12_mostOf 6 = .ok (.getfield 7, 3) := by decide +kernel
theorem dX12_mostOf_9 : decode cX12_mostOf 9 = .ok (.iconst 4, 1) := by decide +kernel
theorem dX12_mostOf_10 : decode cX12_mostOf 10 = .ok (.iaload, 1) := by decide +kernel
theorem dX12_mostOf_11 : decode cX12_mostOf 11 = .ok (.i2l, 1) := by decide +kernel
theorem dX12_mostOf_12 : decode cX12_mostOf 12 = .ok (.lreturn, 1) := by decide +kernel
theorem dX12_mostOf_13 : decode cX12_mostOf 13 = .ok (.iconst 0, 1) := by decide +kernel
theorem dX12_mostOf_14 : decode cX12_mostOf 14 = .ok (.istore 5, 2) := by decide +kernel
theorem dX12_mostOf_16 : decode cX12_mostOf 16 = .ok (.iconst 0, 1) := by decide +kernel
theorem dX12_mostOf_17 : decode cX12_mostOf 17 = .ok (.istore 6, 2) := by decide +kernel
theorem dX12_mostOf_19 : decode cX12_mostOf 19 = .ok (.iconst 0, 1) := by decide +kernel
theorem dX12_mostOf_20 : decode cX12_mostOf 20 = .ok (.istore 7, 2) := by decide +kernel
theorem dX12_mostOf_22 : decode cX12_mostOf 22 = .ok (.iload 7, 2) := by decide +kernel
theorem dX12_mostOf_24 : decode cX12_mostOf 24 = .ok (.aload_n 0, 1) := by decide +kernel
theorem dX12_mostOf_25 : decode cX12_mostOf 25 = .ok (.getfield 7, 3) := by decide +kernel
theorem dX12_mostOf_28 : decode cX12_mostOf 28 = .ok (.iconst 2, 1) := by decide +kernel
theorem dX12_mostOf_29 : decode cX12_mostOf 29 = .ok (.iaload, 1) := by decide +kernel
theorem dX12_mostOf_30 : decode cX12_mostOf 30 = .ok (.if_icmp .ge 127, 3) := by decide +kernel
theorem dX12_mostOf_33 : decode cX12_mostOf 33 = .ok (.aload_n 0, 1) := by decide +kernel
theorem dX12_mostOf_34 : decode cX12_mostOf 34 = .ok (.iload 7, 2) := by decide +kernel
theorem dX12_mostOf_36 : decode cX12_mostOf 36 = .ok (.iload_n 1, 1) := by decide +kernel
theorem dX12_mostOf_37 : decode cX12_mostOf 37 = .ok (.iload_n 2, 1) := by decide +kernel
theorem dX12_mostOf_38 : decode cX12_mostOf 38 = .ok (.iload_n 3, 1) := by decide +kernel
theorem dX12_mostOf_39 : decode cX12_mostOf 39 = .ok (.iload 4, 2) := by decide +kernel
theorem dX12_mostOf_41 : decode cX12_mostOf 41 = .ok (.invokevirtual 328, 3) := by decide +kernel
theorem dX12_mostOf_44 : decode cX12_mostOf 44 = .ok (.ifCond .ne 6, 3) := by decide +kernel
theorem dX12_mostOf_47 : decode cX12_mostOf 47 = .ok (.goto 104, 3) := by decide +kernel
theorem dX12_mostOf_50 : decode cX12_mostOf 50 = .ok (.iload 6, 2) := by decide +kernel
theorem dX12_mostOf_52 : decode cX12_mostOf 52 = .ok (.iload 7, 2) := by decide +kernel
theorem dX12_mostOf_54 : decode cX12_mostOf 54 = .ok (.aload_n 0, 1) := by decide +kernel
theorem dX12_mostOf_55 : decode cX12_mostOf 55 = .ok (.getfield 75, 3) := by decide +kernel
theorem dX12_mostOf_58 : decode cX12_mostOf 58 = .ok (.if_icmp .ne 7, 3) := by decide +kernel
theorem dX12_mostOf_61 : decode cX12_mostOf 61 = .ok (.iconst 1, 1) := by decide +kernel
theorem dX12_mostOf_62 : decode cX12_mostOf 62 = .ok (.goto 4, 3) := by decide +kernel
theorem dX12_mostOf_65 : decode cX12_mostOf 65 = .ok (.iconst 0, 1) := by decide +kernel
theorem dX12_mostOf_66 : decode cX12_mostOf 66 = .ok (.invokestatic 312, 3) := by decide +kernel
theorem dX12_mostOf_69 : decode cX12_mostOf 69 = .ok (.iadd, 1) := by decide +kernel
theorem dX12_mostOf_70 : decode cX12_mostOf 70 = .ok (.istore 6, 2) := by decide +kernel
theorem dX12_mostOf_72 : decode cX12_mostOf 72 = .ok (.iconst 0, 1) := by decide +kernel
theorem dX12_mostOf_73 : decode cX12_mostOf 73 = .ok (.istore 8, 2) := by decide +kernel
theorem dX12_mostOf_75 : decode cX12_mostOf 75 = .ok (.iload 8, 2) := by decide +kernel
theorem dX12_mostOf_77 : decode cX12_mostOf 77 = .ok (.aload_n 0, 1) := by decide +kernel
theorem dX12_mostOf_78 : decode cX12_mostOf 78 = .ok (.getfield 35, 3) := by decide +kernel
theorem dX12_mostOf_81 : decode cX12_mostOf 81 = .ok (.iload 7, 2) := by decide +kernel
theorem dX12_mostOf_83 : decode cX12_mostOf 83 = .ok (.iaload, 1) := by decide +kernel
theorem dX12_mostOf_84 : decode cX12_mostOf 84 = .ok (.if_icmp .ge 67, 3) := by decide +kernel
theorem dX12_mostOf_87 : decode cX12_mostOf 87 = .ok (.aload_n 0, 1) := by decide +kernel
theorem dX12_mostOf_88 : decode cX12_mostOf 88 = .ok (.getfield 38, 3) := by decide +kernel
theorem dX12_mostOf_91 : decode cX12_mostOf 91 = .ok (.bipush 6, 2) := by decide +kernel
theorem dX12_mostOf_93 : decode cX12_mostOf 93 = .ok (.iload 7, 2) := by decide +kernel
theorem dX12_mostOf_95 : decode cX12_mostOf 95 = .ok (.imul, 1) := by decide +kernel
theorem dX12_mostOf_96 : decode cX12_mostOf 96 = .ok (.iload 8, 2) := by decide +kernel
theorem dX12_mostOf_98 : decode cX12_mostOf 98 = .ok (.iadd, 1) := by decide +kernel
theorem dX12_mostOf_99 : decode cX12_mostOf 99 = .ok (.laload, 1) := by decide +kernel
theorem dX12_mostOf_100 : decode cX12_mostOf 100 = .ok (.lstore 9, 2) := by decide +kernel
theorem dX12_mostOf_102 : decode cX12_mostOf 102 = .ok (.lload 9, 2) := by decide +kernel
theorem dX12_mostOf_104 : decode cX12_mostOf 104 = .ok (.aload_n 0, 1) := by decide +kernel
theorem dX12_mostOf_105 : decode cX12_mostOf 105 = .ok (.getfield 13, 3) := by decide +kernel
theorem dX12_mostOf_108 : decode cX12_mostOf 108 = .ok (.iload_n 1, 1) := by decide +kernel
theorem dX12_mostOf_109 : decode cX12_mostOf 109 = .ok (.laload, 1) := by decide +kernel
theorem dX12_mostOf_110 : decode cX12_mostOf 110 = .ok (.lcmp, 1) := by decide +kernel
theorem dX12_mostOf_111 : decode cX12_mostOf 111 = .ok (.ifCond .eq 34, 3) := by decide +kernel
theorem dX12_mostOf_114 : decode cX12_mostOf 114 = .ok (.aload_n 0, 1) := by decide +kernel
theorem dX12_mostOf_115 : decode cX12_mostOf 115 = .ok (.getfield 78, 3) := by decide +kernel
theorem dX12_mostOf_118 : decode cX12_mostOf 118 = .ok (.iconst 0, 1) := by decide +kernel
theorem dX12_mostOf_119 : decode cX12_mostOf 119 = .ok (.iload 5, 2) := by decide +kernel
theorem dX12_mostOf_121 : decode cX12_mostOf 121 = .ok (.lload 9, 2) := by decide +kernel
theorem dX12_mostOf_123 : decode cX12_mostOf 123 = .ok (.invokestatic 244, 3) := by decide +kernel
theorem dX12_mostOf_126 : decode cX12_mostOf 126 = .ok (.iconst (-1), 1) := by decide +kernel
theorem dX12_mostOf_127 : decode cX12_mostOf 127 = .ok (.if_icmp .eq 6, 3) := by decide +kernel
theorem dX12_mostOf_130 : decode cX12_mostOf 130 = .ok (.goto 15, 3) := by decide +kernel
theorem dX12_mostOf_133 : decode cX12_mostOf 133 = .ok (.aload_n 0, 1) := by decide +kernel
theorem dX12_mostOf_134 : decode cX12_mostOf 134 = .ok (.getfield 78, 3) := by decide +kernel
theorem dX12_mostOf_137 : decode cX12_mostOf 137 = .ok (.iload 5, 2) := by decide +kernel
theorem dX12_mostOf_139 : decode cX12_mostOf 139 = .ok (.lload 9, 2) := by decide +kernel
theorem dX12_mostOf_141 : decode cX12_mostOf 141 = .ok (.lastore, 1) := by decide +kernel
theorem dX12_mostOf_142 : decode cX12_mostOf 142 = .ok (.iinc 5 1, 3) := by decide +kernel
theorem dX12_mostOf_145 : decode cX12_mostOf 145 = .ok (.iinc 8 1, 3) := by decide +kernel
theorem dX12_mostOf_148 : decode cX12_mostOf 148 = .ok (.goto (-73), 3) := by decide +kernel
theorem dX12_mostOf_151 : decode cX12_mostOf 151 = .ok (.iinc 7 1, 3) := by decide +kernel
theorem dX12_mostOf_154 : decode cX12_mostOf 154 = .ok (.goto (-132), 3) := by decide +kernel
theorem dX12_mostOf_157 : decode cX12_mostOf 157 = .ok (.aload_n 0, 1) := by decide +kernel
theorem dX12_mostOf_158 : decode cX12_mostOf 158 = .ok (.getfield 7, 3) := by decide +kernel
theorem dX12_mostOf_161 : decode cX12_mostOf 161 = .ok (.iconst 4, 1) := by decide +kernel
theorem dX12_mostOf_162 : decode cX12_mostOf 162 = .ok (.iaload, 1) := by decide +kernel
theorem dX12_mostOf_163 : decode cX12_mostOf 163 = .ok (.i2l, 1) := by decide +kernel
theorem dX12_mostOf_164 : decode cX12_mostOf 164 = .ok (.iconst 1, 1) := by decide +kernel
theorem dX12_mostOf_165 : decode cX12_mostOf 165 = .ok (.iconst 5, 1) := by decide +kernel
theorem dX12_mostOf_166 : decode cX12_mostOf 166 = .ok (.iload 5, 2) := by decide +kernel
theorem dX12_mostOf_168 : decode cX12_mostOf 168 = .ok (.iload 6, 2) := by decide +kernel
theorem dX12_mostOf_170 : decode cX12_mostOf 170 = .ok (.iadd, 1) := by decide +kernel
theorem dX12_mostOf_171 : decode cX12_mostOf 171 = .ok (.invokestatic 335, 3) := by decide +kernel
theorem dX12_mostOf_174 : decode cX12_mostOf 174 = .ok (.invokestatic 303, 3) := by decide +kernel
theorem dX12_mostOf_177 : decode cX12_mostOf 177 = .ok (.i2l, 1) := by decide +kernel
theorem dX12_mostOf_178 : decode cX12_mostOf 178 = .ok (.lmul, 1) := by decide +kernel
theorem dX12_mostOf_179 : decode cX12_mostOf 179 = .ok (.lreturn, 1) := by decide +kernel
def X12_mostOf_b151 (k22 : Int32 → Int32 → Int32 → Int32 → Int32 → Int32 → Int32 → gM → Option (Int64 × gM)) (x1 : Int32) (x2 : Int32) (x3 : Int32) (x4 : Int32) (x5 : Int32) (x6 : Int32) (x7 : Int32) (u : gM) : Option (Int64 × gM) :=
(k22 x1 x2 x3 x4 x5 x6 (x7 + 1) u)
def X12_mostOf_b145 (k22 : Int32 → Int32 → Int32 → Int32 → Int32 → Int32 → Int32 → gM → Option (Int64 × gM)) (k75 : Int32 → Int32 → Int32 → Int32 → Int32 → Int32 → Int32 → Int32 → gM → Option (Int64 × gM)) (x1 : Int32) (x2 : Int32) (x3 : Int32) (x4 : Int32) (x5 : Int32) (x6 : Int32) (x7 : Int32) (x8 : Int32) (u : gM) : Option (Int64 × gM) :=
(k75 x1 x2 x3 x4 x5 x6 x7 (x8 + 1) u)
def X12_mostOf_b75 (k22 : Int32 → Int32 → Int32 → Int32 → Int32 → Int32 → Int32 → gM → Option (Int64 × gM)) (k75 : Int32 → Int32 → Int32 → Int32 → Int32 → Int32 → Int32 → Int32 → gM → Option (Int64 × gM)) (x1 : Int32) (x2 : Int32) (x3 : Int32) (x4 : Int32) (x5 : Int32) (x6 : Int32) (x7 : Int32) (x8 : Int32) (u : gM) : Option (Int64 × gM) :=
((aI skM u 9 x7).bind fun v83 => (if v83 ≤ x8 then (X12_mostOf_b151 k22 x1 x2 x3 x4 x5 x6 x7 u)
  else ((aJ skM u 10 ((6 * x7) + x8)).bind fun v99 => ((aJ skM u 2 x1).bind fun v109 => (if (lg_cmp v99 v109) = 0 then (X12_mostOf_b145 k22 k75 x1 x2 x3 x4 x5 x6 x7 x8 u)
    else ((X12_placeIn u 20 0 x5 v99).bind fun w123 => (if w123 = (-1) then ((sJ skM u 20 x5 v99).bind fun u141 => (X12_mostOf_b145 k22 k75 x1 x2 x3 x4 (x5 + 1) x6 x7 x8 u141))
      else (X12_mostOf_b145 k22 k75 x1 x2 x3 x4 x5 x6 x7 x8 u))))))))
def X12_mostOf_l75 (k22 : Int32 → Int32 → Int32 → Int32 → Int32 → Int32 → Int32 → gM → Option (Int64 × gM)) : Nat → Int32 → Int32 → Int32 → Int32 → Int32 → Int32 → Int32 → Int32 → gM → Option (Int64 × gM)
  | 0, _, _, _, _, _, _, _, _, _ => none
  | n + 1, x1, x2, x3, x4, x5, x6, x7, x8, u => X12_mostOf_b75 k22 (X12_mostOf_l75 k22 n) x1 x2 x3 x4 x5 x6 x7 x8 u
def X12_mostOf_b66 (k22 : Int32 → Int32 → Int32 → Int32 → Int32 → Int32 → Int32 → gM → Option (Int64 × gM)) (x1 : Int32) (x2 : Int32) (x3 : Int32) (x4 : Int32) (x5 : Int32) (x7 : Int32) (s0 : Int32) (s1 : Int32) (u : gM) : Option (Int64 × gM) :=
((X12_one u s1).bind fun w66 => (X12_mostOf_l75 k22 fz x1 x2 x3 x4 x5 (s0 + w66) x7 0 u))
def X12_mostOf_b22 (k22 : Int32 → Int32 → Int32 → Int32 → Int32 → Int32 → Int32 → gM → Option (Int64 × gM)) (x1 : Int32) (x2 : Int32) (x3 : Int32) (x4 : Int32) (x5 : Int32) (x6 : Int32) (x7 : Int32) (u : gM) : Option (Int64 × gM) :=
((aI skM u 1 2).bind fun v29 => (if v29 ≤ x7 then ((aI skM u 1 4).bind fun v162 => some ((v162.toInt64 * (mxI 1 (mnI 5 (x5 + x6))).toInt64), u))
  else ((X12_isInGroup u x7 x1 x2 x3 x4).bind fun w41 => (if w41 = 0 then (X12_mostOf_b151 k22 x1 x2 x3 x4 x5 x6 x7 u)
    else (if x7 = (u.1 0 34) then (X12_mostOf_b66 k22 x1 x2 x3 x4 x5 x7 x6 1 u)
      else (X12_mostOf_b66 k22 x1 x2 x3 x4 x5 x7 x6 0 u))))))
def X12_mostOf_l22  : Nat → Int32 → Int32 → Int32 → Int32 → Int32 → Int32 → Int32 → gM → Option (Int64 × gM)
  | 0, _, _, _, _, _, _, _, _ => none
  | n + 1, x1, x2, x3, x4, x5, x6, x7, u => X12_mostOf_b22  (X12_mostOf_l22  n) x1 x2 x3 x4 x5 x6 x7 u
def X12_mostOf  (x1 : Int32) (x2 : Int32) (x3 : Int32) (x4 : Int32) (u : gM) : Option (Int64 × gM) :=
(if x2 = 2 then (X12_mostOf_l22 fz x1 x2 x3 x4 0 0 0 u)
  else ((aI skM u 1 4).bind fun v10 => some (v10.toInt64, u)))
set_option maxRecDepth 20000 in
theorem v_X12_mostOf_b151 {κ : gK} {B : Nat} {u : gM} (X : gX κ B skM cX12_mostOf 11 RX12 (some .long) 4 98) {k22 : Int32 → Int32 → Int32 → Int32 → Int32 → Int32 → Int32 → gM → Option (Int64 × gM)} (ih22 : ∀ (x1 : Int32) (x2 : Int32) (x3 : Int32) (x4 : Int32) (x5 : Int32) (x6 : Int32) (x7 : Int32) (u : gM) (w : (Int64 × gM)), k22 x1 x2 x3 x4 x5 x6 x7 u = some w → gV κ B skM 11 ((some (.long w.1)), w.2) 22 [some (.ref (B + 0)), some (.int x1), some (.int x2), some (.int x3), some (.int x4), some (.int x5), some (.int x6), some (.int x7), none, none, none] [] u) {x1 : Int32} {x2 : Int32} {x3 : Int32} {x4 : Int32} {x5 : Int32} {x6 : Int32} {x7 : Int32} {w : (Int64 × gM)} (hM : X12_mostOf_b151 k22 x1 x2 x3 x4 x5 x6 x7 u = some w) : gV κ B skM 11 ((some (.long w.1)), w.2) 151 [some (.ref (B + 0)), some (.int x1), some (.int x2), some (.int x3), some (.int x4), some (.int x5), some (.int x6), some (.int x7), none, none, none] [] u := by
  unfold X12_mostOf_b151 at hM
  refine g_iinc (d := 1) X [some (.ref (B + 0)), some (.int x1), some (.int x2), some (.int x3), some (.int x4), some (.int x5), some (.int x6), some (.int (x7 + 1)), none, none, none] dX12_mostOf_151 (by decide) rfl (by decide) rfl ?_
  refine g_goto (tgt := 22) X dX12_mostOf_154 (by decide) ?_
  refine g_mk [true, true, true, true, true, true, true, true, false, false, false] [some (.ref (B + 0)), some (.int x1), some (.int x2), some (.int x3), some (.int x4), some (.int x5), some (.int x6), some (.int (x7 + 1)), none, none, none] rfl ?_
  exact ih22 x1 x2 x3 x4 x5 x6 (x7 + 1) u _ hM
set_option maxRecDepth 20000 in
theorem v_X12_mostOf_b145 {κ : gK} {B : Nat} {u : gM} (X : gX κ B skM cX12_mostOf 11 RX12 (some .long) 4 98) {k22 : Int32 → Int32 → Int32 → Int32 → Int32 → Int32 → Int32 → gM → Option (Int64 × gM)} {k75 : Int32 → Int32 → Int32 → Int32 → Int32 → Int32 → Int32 → Int32 → gM → Option (Int64 × gM)} (ih22 : ∀ (x1 : Int32) (x2 : Int32) (x3 : Int32) (x4 : Int32) (x5 : Int32) (x6 : Int32) (x7 : Int32) (u : gM) (w : (Int64 × gM)), k22 x1 x2 x3 x4 x5 x6 x7 u = some w → gV κ B skM 11 ((some (.long w.1)), w.2) 22 [some (.ref (B + 0)), some (.int x1), some (.int x2), some (.int x3), some (.int x4), some (.int x5), some (.int x6), some (.int x7), none, none, none] [] u) (ih75 : ∀ (x1 : Int32) (x2 : Int32) (x3 : Int32) (x4 : Int32) (x5 : Int32) (x6 : Int32) (x7 : Int32) (x8 : Int32) (u : gM) (w : (Int64 × gM)), k75 x1 x2 x3 x4 x5 x6 x7 x8 u = some w → gV κ B skM 11 ((some (.long w.1)), w.2) 75 [some (.ref (B + 0)), some (.int x1), some (.int x2), some (.int x3), some (.int x4), some (.int x5), some (.int x6), some (.int x7), some (.int x8), none, none] [] u) {x1 : Int32} {x2 : Int32} {x3 : Int32} {x4 : Int32} {x5 : Int32} {x6 : Int32} {x7 : Int32} {x8 : Int32} {w : (Int64 × gM)} (hM : X12_mostOf_b145 k22 k75 x1 x2 x3 x4 x5 x6 x7 x8 u = some w) : gV κ B skM 11 ((some (.long w.1)), w.2) 145 [some (.ref (B + 0)), some (.int x1), some (.int x2), some (.int x3), some (.int x4), some (.int x5), some (.int x6), some (.int x7), some (.int x8), none, none] [] u := by
  unfold X12_mostOf_b145 at hM
  refine g_iinc (d := 1) X [some (.ref (B + 0)), some (.int x1), some (.int x2), some (.int x3), some (.int x4), some (.int x5), some (.int x6), some (.int x7), some (.int (x8 + 1)), none, none] dX12_mostOf_145 (by decide) rfl (by decide) rfl ?_
  refine g_goto (tgt := 75) X dX12_mostOf_148 (by decide) ?_
  refine g_mk [true, true, true, true, true, true, true, true, true, false, false] [some (.ref (B + 0)), some (.int x1), some (.int x2), some (.int x3), some (.int x4), some (.int x5), some (.int x6), some (.int x7), some (.int (x8 + 1)), none, none] rfl ?_
  exact ih75 x1 x2 x3 x4 x5 x6 x7 (x8 + 1) u _ hM
set_option maxRecDepth 20000 in
theorem v_X12_mostOf_b75 {κ : gK} {B : Nat} {u : gM} (X : gX κ B skM cX12_mostOf 11 RX12 (some .long) 4 98) {k22 : Int32 → Int32 → Int32 → Int32 → Int32 → Int32 → Int32 → gM → Option (Int64 × gM)} {k75 : Int32 → Int32 → Int32 → Int32 → Int32 → Int32 → Int32 → Int32 → gM → Option (Int64 × gM)} (ih22 : ∀ (x1 : Int32) (x2 : Int32) (x3 : Int32) (x4 : Int32) (x5 : Int32) (x6 : Int32) (x7 : Int32) (u : gM) (w : (Int64 × gM)), k22 x1 x2 x3 x4 x5 x6 x7 u = some w → gV κ B skM 11 ((some (.long w.1)), w.2) 22 [some (.ref (B + 0)), some (.int x1), some (.int x2), some (.int x3), some (.int x4), some (.int x5), some (.int x6), some (.int x7), none, none, none] [] u) (ih75 : ∀ (x1 : Int32) (x2 : Int32) (x3 : Int32) (x4 : Int32) (x5 : Int32) (x6 : Int32) (x7 : Int32) (x8 : Int32) (u : gM) (w : (Int64 × gM)), k75 x1 x2 x3 x4 x5 x6 x7 x8 u = some w → gV κ B skM 11 ((some (.long w.1)), w.2) 75 [some (.ref (B + 0)), some (.int x1), some (.int x2), some (.int x3), some (.int x4), some (.int x5), some (.int x6), some (.int x7), some (.int x8), none, none] [] u) {x1 : Int32} {x2 : Int32} {x3 : Int32} {x4 : Int32} {x5 : Int32} {x6 : Int32} {x7 : Int32} {x8 : Int32} {w : (Int64 × gM)} (hM : X12_mostOf_b75 k22 k75 x1 x2 x3 x4 x5 x6 x7 x8 u = some w) : gV κ B skM 11 ((some (.long w.1)), w.2) 75 [some (.ref (B + 0)), some (.int x1), some (.int x2), some (.int x3), some (.int x4), some (.int x5), some (.int x6), some (.int x7), some (.int x8), none, none] [] u := by
  unfold X12_mostOf_b75 at hM
  refine g_iload X dX12_mostOf_75 rfl ?_
  refine g_aload_n X dX12_mostOf_77 rfl ?_
  refine g_getR X fX12_35 cM_0 rfl dX12_mostOf_78 ?_
  refine g_iload X dX12_mostOf_81 rfl ?_
  obtain ⟨v83, e83, hM⟩ := bind_of hM
  refine g_iaload X e83 dX12_mostOf_83 ?_
  refine g_icmp_ge (tgt := 151) X dX12_mostOf_84 (by decide) (fun c84 => ?_) (fun c84 => ?_)
  · rw [if_pos c84] at hM
    refine g_mk [true, true, true, true, true, true, true, true, false, false, false] [some (.ref (B + 0)), some (.int x1), some (.int x2), some (.int x3), some (.int x4), some (.int x5), some (.int x6), some (.int x7), none, none, none] rfl ?_
    exact v_X12_mostOf_b151 X ih22 hM
  · rw [if_neg c84] at hM
    refine g_aload_n X dX12_mostOf_87 rfl ?_
    refine g_getR X fX12_38 cM_0 rfl dX12_mostOf_88 ?_
    refine g_bipush X (v := 6) dX12_mostOf_91 (by decide) ?_
    refine g_iload X dX12_mostOf_93 rfl ?_
    refine g_imul X dX12_mostOf_95 ?_
    refine g_iload X dX12_mostOf_96 rfl ?_
    refine g_iadd X dX12_mostOf_98 ?_
    obtain ⟨v99, e99, hM⟩ := bind_of hM
    refine g_laload X e99 dX12_mostOf_99 ?_
    refine g_lstore X [some (.ref (B + 0)), some (.int x1), some (.int x2), some (.int x3), some (.int x4), some (.int x5), some (.int x6), some (.int x7), some (.int x8), some (.long v99), none] dX12_mostOf_100 (by decide) rfl ?_
    refine g_lload X dX12_mostOf_102 rfl ?_
    refine g_aload_n X dX12_mostOf_104 rfl ?_
    refine g_getR X fX12_13 cM_0 rfl dX12_mostOf_105 ?_
    refine g_iload_n X dX12_mostOf_108 rfl ?_
    obtain ⟨v109, e109, hM⟩ := bind_of hM
    refine g_laload X e109 dX12_mostOf_109 ?_
    refine g_lcmp X dX12_mostOf_110 ?_
    refine g_if_eq (tgt := 145) X dX12_mostOf_111 (by decide) (fun c111 => ?_) (fun c111 => ?_)
    · rw [if_pos c111] at hM
      refine g_mk [true, true, true, true, true, true, true, true, true, false, false] [some (.ref (B + 0)), some (.int x1), some (.int x2), some (.int x3), some (.int x4), some (.int x5), some (.int x6), some (.int x7), some (.int x8), none, none] rfl ?_
      exact v_X12_mostOf_b145 X ih22 ih75 hM
    · rw [if_neg c111] at hM
      refine g_aload_n X dX12_mostOf_114 rfl ?_
      refine g_getR X fX12_78 cM_0 rfl dX12_mostOf_115 ?_
      refine g_iconst X (v := 0) dX12_mostOf_118 (by decide) ?_
      refine g_iload X dX12_mostOf_119 rfl ?_
      refine g_lload X dX12_mostOf_121 rfl ?_
      obtain ⟨w123, e123, hM⟩ := bind_of hM
      refine g_callSi X (fun B adK => [.ref (B + 20), .int 0, .int x5, .long v99]) (s_X12_placeIn e123) cvX12_244 rfl rfl (Nat.le_of_ble_eq_true rfl) ⟨by decide, by decide⟩ dX12_mostOf_123 ?_
      refine g_iconst X (v := (-1)) dX12_mostOf_126 (by decide) ?_
      refine g_icmp_eq (tgt := 133) X dX12_mostOf_127 (by decide) (fun c127 => ?_) (fun c127 => ?_)
      · rw [if_pos c127] at hM
        refine g_aload_n X dX12_mostOf_133 rfl ?_
        refine g_getR X fX12_78 cM_0 rfl dX12_mostOf_134 ?_
        refine g_iload X dX12_mostOf_137 rfl ?_
        refine g_lload X dX12_mostOf_139 rfl ?_
        obtain ⟨u141, e141, hM⟩ := bind_of hM
        refine g_lastore X e141 dX12_mostOf_141 ?_
        refine g_iinc (d := 1) X [some (.ref (B + 0)), some (.int x1), some (.int x2), some (.int x3), some (.int x4), some (.int (x5 + 1)), some (.int x6), some (.int x7), some (.int x8), some (.long v99), none] dX12_mostOf_142 (by decide) rfl (by decide) rfl ?_
        refine g_mk [true, true, true, true, true, true, true, true, true, false, false] [some (.ref (B + 0)), some (.int x1), some (.int x2), some (.int x3), some (.int x4), some (.int (x5 + 1)), some (.int x6), some (.int x7), some (.int x8), none, none] rfl ?_
        exact v_X12_mostOf_b145 X ih22 ih75 hM
      · rw [if_neg c127] at hM
        refine g_goto (tgt := 145) X dX12_mostOf_130 (by decide) ?_
        refine g_mk [true, true, true, true, true, true, true, true, true, false, false] [some (.ref (B + 0)), some (.int x1), some (.int x2), some (.int x3), some (.int x4), some (.int x5), some (.int x6), some (.int x7), some (.int x8), none, none] rfl ?_
        exact v_X12_mostOf_b145 X ih22 ih75 hM
theorem v_X12_mostOf_l75 {κ : gK} {B : Nat} (X : gX κ B skM cX12_mostOf 11 RX12 (some .long) 4 98) {k22 : Int32 → Int32 → Int32 → Int32 → Int32 → Int32 → Int32 → gM → Option (Int64 × gM)} (ih22 : ∀ (x1 : Int32) (x2 : Int32) (x3 : Int32) (x4 : Int32) (x5 : Int32) (x6 : Int32) (x7 : Int32) (u : gM) (w : (Int64 × gM)), k22 x1 x2 x3 x4 x5 x6 x7 u = some w → gV κ B skM 11 ((some (.long w.1)), w.2) 22 [some (.ref (B + 0)), some (.int x1), some (.int x2), some (.int x3), some (.int x4), some (.int x5), some (.int x6), some (.int x7), none, none, none] [] u) : ∀ (n : Nat) {x1 : Int32} {x2 : Int32} {x3 : Int32} {x4 : Int32} {x5 : Int32} {x6 : Int32} {x7 : Int32} {x8 : Int32} {u : gM} {w : (Int64 × gM)} (hM : X12_mostOf_l75 k22 n x1 x2 x3 x4 x5 x6 x7 x8 u = some w), gV κ B skM 11 ((some (.long w.1)), w.2) 75 [some (.ref (B + 0)), some (.int x1), some (.int x2), some (.int x3), some (.int x4), some (.int x5), some (.int x6), some (.int x7), some (.int x8), none, none] [] u := by
  intro n
  induction n with
  | zero => intro x1 x2 x3 x4 x5 x6 x7 x8 u w hM; exact nomatch (show (none : Option (Int64 × gM)) = some w from hM)
  | succ n ihn => intro x1 x2 x3 x4 x5 x6 x7 x8 u w hM; exact v_X12_mostOf_b75 X ih22 (fun x1 x2 x3 x4 x5 x6 x7 x8 u w h => ihn h) hM
set_option maxRecDepth 20000 in
theorem v_X12_mostOf_b66 {κ : gK} {B : Nat} {u : gM} (X : gX κ B skM cX12_mostOf 11 RX12 (some .long) 4 98) {k22 : Int32 → Int32 → Int32 → Int32 → Int32 → Int32 → Int32 → gM → Option (Int64 × gM)} (ih22 : ∀ (x1 : Int32) (x2 : Int32) (x3 : Int32) (x4 : Int32) (x5 : Int32) (x6 : Int32) (x7 : Int32) (u : gM) (w : (Int64 × gM)), k22 x1 x2 x3 x4 x5 x6 x7 u = some w → gV κ B skM 11 ((some (.long w.1)), w.2) 22 [some (.ref (B + 0)), some (.int x1), some (.int x2), some (.int x3), some (.int x4), some (.int x5), some (.int x6), some (.int x7), none, none, none] [] u) {x1 : Int32} {x2 : Int32} {x3 : Int32} {x4 : Int32} {x5 : Int32} {x7 : Int32} {s0 : Int32} {s1 : Int32} {w : (Int64 × gM)} (hM : X12_mostOf_b66 k22 x1 x2 x3 x4 x5 x7 s0 s1 u = some w) : gV κ B skM 11 ((some (.long w.1)), w.2) 66 [some (.ref (B + 0)), some (.int x1), some (.int x2), some (.int x3), some (.int x4), some (.int x5), none, some (.int x7), none, none, none] [.int s1, .int s0] u := by
  unfold X12_mostOf_b66 at hM
  obtain ⟨w66, e66, hM⟩ := bind_of hM
  refine g_callSi X (fun B adK => [.int s1]) (s_X12_one e66) cvX12_312 rfl rfl (Nat.le_of_ble_eq_true rfl) ⟨by decide, by decide⟩ dX12_mostOf_66 ?_
  refine g_iadd X dX12_mostOf_69 ?_
  refine g_istore X [some (.ref (B + 0)), some (.int x1), some (.int x2), some (.int x3), some (.int x4), some (.int x5), some (.int (s0 + w66)), some (.int x7), none, none, none] dX12_mostOf_70 (by decide) rfl ?_
  refine g_iconst X (v := 0) dX12_mostOf_72 (by decide) ?_
  refine g_istore X [some (.ref (B + 0)), some (.int x1), some (.int x2), some (.int x3), some (.int x4), some (.int x5), some (.int (s0 + w66)), some (.int x7), some (.int 0), none, none] dX12_mostOf_73 (by decide) rfl ?_
  refine g_mk [true, true, true, true, true, true, true, true, true, false, false] [some (.ref (B + 0)), some (.int x1), some (.int x2), some (.int x3), some (.int x4), some (.int x5), some (.int (s0 + w66)), some (.int x7), some (.int 0), none, none] rfl ?_
  exact v_X12_mostOf_l75 X ih22 fz hM
set_option maxRecDepth 20000 in
theorem v_X12_mostOf_b22 {κ : gK} {B : Nat} {u : gM} (X : gX κ B skM cX12_mostOf 11 RX12 (some .long) 4 98) {k22 : Int32 → Int32 → Int32 → Int32 → Int32 → Int32 → Int32 → gM → Option (Int64 × gM)} (ih22 : ∀ (x1 : Int32) (x2 : Int32) (x3 : Int32) (x4 : Int32) (x5 : Int32) (x6 : Int32) (x7 : Int32) (u : gM) (w : (Int64 × gM)), k22 x1 x2 x3 x4 x5 x6 x7 u = some w → gV κ B skM 11 ((some (.long w.1)), w.2) 22 [some (.ref (B + 0)), some (.int x1), some (.int x2), some (.int x3), some (.int x4), some (.int x5), some (.int x6), some (.int x7), none, none, none] [] u) {x1 : Int32} {x2 : Int32} {x3 : Int32} {x4 : Int32} {x5 : Int32} {x6 : Int32} {x7 : Int32} {w : (Int64 × gM)} (hM : X12_mostOf_b22 k22 x1 x2 x3 x4 x5 x6 x7 u = some w) : gV κ B skM 11 ((some (.long w.1)), w.2) 22 [some (.ref (B + 0)), some (.int x1), some (.int x2), some (.int x3), some (.int x4), some (.int x5), some (.int x6), some (.int x7), none, none, none] [] u := by
  unfold X12_mostOf_b22 at hM
  refine g_iload X dX12_mostOf_22 rfl ?_
  refine g_aload_n X dX12_mostOf_24 rfl ?_
  refine g_getR X fX12_7 cM_0 rfl dX12_mostOf_25 ?_
  refine g_iconst X (v := 2) dX12_mostOf_28 (by decide) ?_
  obtain ⟨v29, e29, hM⟩ := bind_of hM
  refine g_iaload X e29 dX12_mostOf_29 ?_
  refine g_icmp_ge (tgt := 157) X dX12_mostOf_30 (by decide) (fun c30 => ?_) (fun c30 => ?_)
  · rw [if_pos c30] at hM
    refine g_aload_n X dX12_mostOf_157 rfl ?_
    refine g_getR X fX12_7 cM_0 rfl dX12_mostOf_158 ?_
    refine g_iconst X (v := 4) dX12_mostOf_161 (by decide) ?_
    obtain ⟨v162, e162, hM⟩ := bind_of hM
    refine g_iaload X e162 dX12_mostOf_162 ?_
    refine g_i2l X dX12_mostOf_163 ?_
    refine g_iconst X (v := 1) dX12_mostOf_164 (by decide) ?_
    refine g_iconst X (v := 5) dX12_mostOf_165 (by decide) ?_
    refine g_iload X dX12_mostOf_166 rfl ?_
    refine g_iload X dX12_mostOf_168 rfl ?_
    refine g_iadd X dX12_mostOf_170 ?_
    refine g_minI X m_43_0 ⟨by decide, Nat.le_of_ble_eq_true rfl⟩ dX12_mostOf_171 ?_
    refine g_maxI X m_42_12 ⟨by decide, Nat.le_of_ble_eq_true rfl⟩ dX12_mostOf_174 ?_
    refine g_i2l X dX12_mostOf_177 ?_
    refine g_lmul X dX12_mostOf_178 ?_
    cases hM
    exact g_lret X dX12_mostOf_179
  · rw [if_neg c30] at hM
    refine g_aload_n X dX12_mostOf_33 rfl ?_
    refine g_iload X dX12_mostOf_34 rfl ?_
    refine g_iload_n X dX12_mostOf_36 rfl ?_
    refine g_iload_n X dX12_mostOf_37 rfl ?_
    refine g_iload_n X dX12_mostOf_38 rfl ?_
    refine g_iload X dX12_mostOf_39 rfl ?_
    obtain ⟨w41, e41, hM⟩ := bind_of hM
    refine g_callVi X (fun B adK => [.int x7, .int x1, .int x2, .int x3, .int x4]) (s_X12_isInGroup e41) cvX12_328 cM_0 rfl rfl (Nat.le_of_ble_eq_true rfl) ⟨by decide, by decide⟩ dX12_mostOf_41 ?_
    refine g_if_ne (tgt := 50) X dX12_mostOf_44 (by decide) (fun c44 => ?_) (fun c44 => ?_)
    · rw [if_neg c44] at hM
      refine g_iload X dX12_mostOf_50 rfl ?_
      refine g_iload X dX12_mostOf_52 rfl ?_
      refine g_aload_n X dX12_mostOf_54 rfl ?_
      refine g_getI X fX12_75 cM_0 rfl dX12_mostOf_55 ?_
      refine g_icmp_ne (tgt := 65) X dX12_mostOf_58 (by decide) (fun c58 => ?_) (fun c58 => ?_)
      · rw [if_neg c58] at hM
        refine g_iconst X (v := 0) dX12_mostOf_65 (by decide) ?_
        refine g_mk [true, true, true, true, true, true, false, true, false, false, false] [some (.ref (B + 0)), some (.int x1), some (.int x2), some (.int x3), some (.int x4), some (.int x5), none, some (.int x7), none, none, none] rfl ?_
        exact v_X12_mostOf_b66 X ih22 hM
      · rw [if_pos c58] at hM
        refine g_iconst X (v := 1) dX12_mostOf_61 (by decide) ?_
        refine g_goto (tgt := 66) X dX12_mostOf_62 (by decide) ?_
        refine g_mk [true, true, true, true, true, true, false, true, false, false, false] [some (.ref (B + 0)), some (.int x1), some (.int x2), some (.int x3), some (.int x4), some (.int x5), none, some (.int x7), none, none, none] rfl ?_
        exact v_X12_mostOf_b66 X ih22 hM
    · rw [if_pos c44] at hM
      refine g_goto (tgt := 151) X dX12_mostOf_47 (by decide) ?_
      refine g_mk [true, true, true, true, true, true, true, true, false, false, false] [some (.ref (B + 0)), some (.int x1), some (.int x2), some (.int x3), some (.int x4), some (.int x5), some (.int x6), some (.int x7), none, none, none] rfl ?_
      exact v_X12_mostOf_b151 X ih22 hM
theorem v_X12_mostOf_l22 {κ : gK} {B : Nat} (X : gX κ B skM cX12_mostOf 11 RX12 (some .long) 4 98)   : ∀ (n : Nat) {x1 : Int32} {x2 : Int32} {x3 : Int32} {x4 : Int32} {x5 : Int32} {x6 : Int32} {x7 : Int32} {u : gM} {w : (Int64 × gM)} (hM : X12_mostOf_l22  n x1 x2 x3 x4 x5 x6 x7 u = some w), gV κ B skM 11 ((some (.long w.1)), w.2) 22 [some (.ref (B + 0)), some (.int x1), some (.int x2), some (.int x3), some (.int x4), some (.int x5), some (.int x6), some (.int x7), none, none, none] [] u := by
  intro n
  induction n with
  | zero => intro x1 x2 x3 x4 x5 x6 x7 u w hM; exact nomatch (show (none : Option (Int64 × gM)) = some w from hM)
  | succ n ihn => intro x1 x2 x3 x4 x5 x6 x7 u w hM; exact v_X12_mostOf_b22 X  (fun x1 x2 x3 x4 x5 x6 x7 u w h => ihn h) hM
set_option maxRecDepth 20000 in
theorem v_X12_mostOf {κ : gK} {B : Nat} {u : gM} (X : gX κ B skM cX12_mostOf 11 RX12 (some .long) 4 98)   {x1 : Int32} {x2 : Int32} {x3 : Int32} {x4 : Int32} {w : (Int64 × gM)} (hM : X12_mostOf x1 x2 x3 x4 u = some w) : gV κ B skM 11 ((some (.long w.1)), w.2) 0 [some (.ref (B + 0)), some (.int x1), some (.int x2), some (.int x3), some (.int x4), none, none, none, none, none, none] [] u := by
  unfold X12_mostOf at hM
  refine g_iload_n X dX12_mostOf_0 rfl ?_
  refine g_iconst X (v := 2) dX12_mostOf_1 (by decide) ?_
  refine g_icmp_eq (tgt := 13) X dX12_mostOf_2 (by decide) (fun c2 => ?_) (fun c2 => ?_)
  · rw [if_pos c2] at hM
    refine g_iconst X (v := 0) dX12_mostOf_13 (by decide) ?_
    refine g_istore X [some (.ref (B + 0)), some (.int x1), some (.int x2), some (.int x3), some (.int x4), some (.int 0), none, none, none, none, none] dX12_mostOf_14 (by decide) rfl ?_
    refine g_iconst X (v := 0) dX12_mostOf_16 (by decide) ?_
    refine g_istore X [some (.ref (B + 0)), some (.int x1), some (.int x2), some (.int x3), some (.int x4), some (.int 0), some (.int 0), none, none, none, none] dX12_mostOf_17 (by decide) rfl ?_
    refine g_iconst X (v := 0) dX12_mostOf_19 (by decide) ?_
    refine g_istore X [some (.ref (B + 0)), some (.int x1), some (.int x2), some (.int x3), some (.int x4), some (.int 0), some (.int 0), some (.int 0), none, none, none] dX12_mostOf_20 (by decide) rfl ?_
    refine g_mk [true, true, true, true, true, true, true, true, false, false, false] [some (.ref (B + 0)), some (.int x1), some (.int x2), some (.int x3), some (.int x4), some (.int 0), some (.int 0), some (.int 0), none, none, none] rfl ?_
    exact v_X12_mostOf_l22 X  fz hM
  · rw [if_neg c2] at hM
    refine g_aload_n X dX12_mostOf_5 rfl ?_
    refine g_getR X fX12_7 cM_0 rfl dX12_mostOf_6 ?_
    refine g_iconst X (v := 4) dX12_mostOf_9 (by decide) ?_
    obtain ⟨v10, e10, hM⟩ := bind_of hM
    refine g_iaload X e10 dX12_mostOf_10 ?_
    refine g_i2l X dX12_mostOf_11 ?_
    cases hM
    exact g_lret X dX12_mostOf_12
theorem s_X12_mostOf {x1 : Int32} {x2 : Int32} {x3 : Int32} {x4 : Int32} {u : gM} {w : (Int64 × gM)} (hM : X12_mostOf x1 x2 x3 x4 u = some w) : gMet skM yX12_mostOf cX12_mostOf 11 (some .long) 4 98 (fun B adK => [.ref (B + 0), .int x1, .int x2, .int x3, .int x4]) u ((fun _ => some (.long w.1)), w.2) := by
  refine gMet.of (by decide) (fun _ _ => Nat.le_of_ble_eq_true rfl) (fun κ B X => ?_)
  have X : gX κ B skM cX12_mostOf 11 RX12 (some .long) 4 98 := X
  refine g_mk [true, true, true, true, true, false, false, false, false, false, false] [some (.ref (B + 0)), some (.int x1), some (.int x2), some (.int x3), some (.int x4), none, none, none, none, none, none] rfl ?_
  exact v_X12_mostOf X  hM
theorem fr_X12_mostOf_b151 {S : Nat → Prop} {u0 u : gM} {x1 : Int32} {x2 : Int32} {x3 : Int32} {x4 : Int32} {x5 : Int32} {x6 : Int32} {x7 : Int32} (hs0 : S 20) {k22 : Int32 → Int32 → Int32 → Int32 → Int32 → Int32 → Int32 → gM → Option (Int64 × gM)} (ik22 : ∀ (x1 : Int32) (x2 : Int32) (x3 : Int32) (x4 : Int32) (x5 : Int32) (x6 : Int32) (x7 : Int32) (u : gM) (w : (Int64 × gM)), S 20 → off S u0 u → k22 x1 x2 x3 x4 x5 x6 x7 u = some w → off S u0 w.2) {w : (Int64 × gM)} (hM : X12_mostOf_b151 k22 x1 x2 x3 x4 x5 x6 x7 u = some w) (h0 : off S u0 u) : off S u0 w.2 := by
  unfold X12_mostOf_b151 at hM
  exact ik22 _ _ _ _ _ _ _ _ _ hs0 h0 hM
theorem fr_X12_mostOf_b145 {S : Nat → Prop} {u0 u : gM} {x1 : Int32} {x2 : Int32} {x3 : Int32} {x4 : Int32} {x5 : Int32} {x6 : Int32} {x7 : Int32} {x8 : Int32} (hs0 : S 20) {k22 : Int32 → Int32 → Int32 → Int32 → Int32 → Int32 → Int32 → gM → Option (Int64 × gM)} {k75 : Int32 → Int32 → Int32 → Int32 → Int32 → Int32 → Int32 → Int32 → gM → Option (Int64 × gM)} (ik22 : ∀ (x1 : Int32) (x2 : Int32) (x3 : Int32) (x4 : Int32) (x5 : Int32) (x6 : Int32) (x7 : Int32) (u : gM) (w : (Int64 × gM)), S 20 → off S u0 u → k22 x1 x2 x3 x4 x5 x6 x7 u = some w → off S u0 w.2) (ik75 : ∀ (x1 : Int32) (x2 : Int32) (x3 : Int32) (x4 : Int32) (x5 : Int32) (x6 : Int32) (x7 : Int32) (x8 : Int32) (u : gM) (w : (Int64 × gM)), S 20 → off S u0 u → k75 x1 x2 x3 x4 x5 x6 x7 x8 u = some w → off S u0 w.2) {w : (Int64 × gM)} (hM : X12_mostOf_b145 k22 k75 x1 x2 x3 x4 x5 x6 x7 x8 u = some w) (h0 : off S u0 u) : off S u0 w.2 := by
  unfold X12_mostOf_b145 at hM
  exact ik75 _ _ _ _ _ _ _ _ _ _ hs0 h0 hM
theorem fr_X12_mostOf_b75 {S : Nat → Prop} {u0 u : gM} {x1 : Int32} {x2 : Int32} {x3 : Int32} {x4 : Int32} {x5 : Int32} {x6 : Int32} {x7 : Int32} {x8 : Int32} (hs0 : S 20) {k22 : Int32 → Int32 → Int32 → Int32 → Int32 → Int32 → Int32 → gM → Option (Int64 × gM)} {k75 : Int32 → Int32 → Int32 → Int32 → Int32 → Int32 → Int32 → Int32 → gM → Option (Int64 × gM)} (ik22 : ∀ (x1 : Int32) (x2 : Int32) (x3 : Int32) (x4 : Int32) (x5 : Int32) (x6 : Int32) (x7 : Int32) (u : gM) (w : (Int64 × gM)), S 20 → off S u0 u → k22 x1 x2 x3 x4 x5 x6 x7 u = some w → off S u0 w.2) (ik75 : ∀ (x1 : Int32) (x2 : Int32) (x3 : Int32) (x4 : Int32) (x5 : Int32) (x6 : Int32) (x7 : Int32) (x8 : Int32) (u : gM) (w : (Int64 × gM)), S 20 → off S u0 u → k75 x1 x2 x3 x4 x5 x6 x7 x8 u = some w → off S u0 w.2) {w : (Int64 × gM)} (hM : X12_mostOf_b75 k22 k75 x1 x2 x3 x4 x5 x6 x7 x8 u = some w) (h0 : off S u0 u) : off S u0 w.2 := by
  unfold X12_mostOf_b75 at hM
  obtain ⟨v83, e83, hM⟩ := bind_of hM
  by_cases c84 : v83 ≤ x8
  · rw [if_pos c84] at hM
    exact fr_X12_mostOf_b151 hs0 ik22 hM h0
  · rw [if_neg c84] at hM
    obtain ⟨v99, e99, hM⟩ := bind_of hM
    obtain ⟨v109, e109, hM⟩ := bind_of hM
    by_cases c111 : (lg_cmp v99 v109) = 0
    · rw [if_pos c111] at hM
      exact fr_X12_mostOf_b145 hs0 ik22 ik75 hM h0
    · rw [if_neg c111] at hM
      obtain ⟨w123, e123, hM⟩ := bind_of hM
      by_cases c127 : w123 = (-1)
      · rw [if_pos c127] at hM
        obtain ⟨u141, e141, hM⟩ := bind_of hM
        have h0 := off_sJ hs0 e141 h0
        exact fr_X12_mostOf_b145 hs0 ik22 ik75 hM h0
      · rw [if_neg c127] at hM
        exact fr_X12_mostOf_b145 hs0 ik22 ik75 hM h0
theorem fr_X12_mostOf_l75 {S : Nat → Prop} {u0 : gM} {k22 : Int32 → Int32 → Int32 → Int32 → Int32 → Int32 → Int32 → gM → Option (Int64 × gM)} (ik22 : ∀ (x1 : Int32) (x2 : Int32) (x3 : Int32) (x4 : Int32) (x5 : Int32) (x6 : Int32) (x7 : Int32) (u : gM) (w : (Int64 × gM)), S 20 → off S u0 u → k22 x1 x2 x3 x4 x5 x6 x7 u = some w → off S u0 w.2) : ∀ (n : Nat) {x1 : Int32} {x2 : Int32} {x3 : Int32} {x4 : Int32} {x5 : Int32} {x6 : Int32} {x7 : Int32} {x8 : Int32} (hs0 : S 20) {u : gM} {w : (Int64 × gM)} (h0 : off S u0 u) (hM : X12_mostOf_l75 k22 n x1 x2 x3 x4 x5 x6 x7 x8 u = some w), off S u0 w.2 := by
  intro n
  induction n with
  | zero => intro x1 x2 x3 x4 x5 x6 x7 x8 hs0 u w h0 hM; exact nomatch (show (none : Option (Int64 × gM)) = some w from hM)
  | succ n ihn => intro x1 x2 x3 x4 x5 x6 x7 x8 hs0 u w h0 hM; exact fr_X12_mostOf_b75 hs0 ik22 (fun x1 x2 x3 x4 x5 x6 x7 x8 _ _ hs0 h0 h => ihn hs0 h0 h) hM h0
theorem fr_X12_mostOf_b66 {S : Nat → Prop} {u0 u : gM} {x1 : Int32} {x2 : Int32} {x3 : Int32} {x4 : Int32} {x5 : Int32} {x7 : Int32} {s0 : Int32} {s1 : Int32} (hs0 : S 20) {k22 : Int32 → Int32 → Int32 → Int32 → Int32 → Int32 → Int32 → gM → Option (Int64 × gM)} (ik22 : ∀ (x1 : Int32) (x2 : Int32) (x3 : Int32) (x4 : Int32) (x5 : Int32) (x6 : Int32) (x7 : Int32) (u : gM) (w : (Int64 × gM)), S 20 → off S u0 u → k22 x1 x2 x3 x4 x5 x6 x7 u = some w → off S u0 w.2) {w : (Int64 × gM)} (hM : X12_mostOf_b66 k22 x1 x2 x3 x4 x5 x7 s0 s1 u = some w) (h0 : off S u0 u) : off S u0 w.2 := by
  unfold X12_mostOf_b66 at hM
  obtain ⟨w66, e66, hM⟩ := bind_of hM
  exact fr_X12_mostOf_l75 ik22 fz hs0 h0 hM
theorem fr_X12_mostOf_b22 {S : Nat → Prop} {u0 u : gM} {x1 : Int32} {x2 : Int32} {x3 : Int32} {x4 : Int32} {x5 : Int32} {x6 : Int32} {x7 : Int32} (hs0 : S 20) {k22 : Int32 → Int32 → Int32 → Int32 → Int32 → Int32 → Int32 → gM → Option (Int64 × gM)} (ik22 : ∀ (x1 : Int32) (x2 : Int32) (x3 : Int32) (x4 : Int32) (x5 : Int32) (x6 : Int32) (x7 : Int32) (u : gM) (w : (Int64 × gM)), S 20 → off S u0 u → k22 x1 x2 x3 x4 x5 x6 x7 u = some w → off S u0 w.2) {w : (Int64 × gM)} (hM : X12_mostOf_b22 k22 x1 x2 x3 x4 x5 x6 x7 u = some w) (h0 : off S u0 u) : off S u0 w.2 := by
  unfold X12_mostOf_b22 at hM
  obtain ⟨v29, e29, hM⟩ := bind_of hM
  by_cases c30 : v29 ≤ x7
  · rw [if_pos c30] at hM
    obtain ⟨v162, e162, hM⟩ := bind_of hM
    cases hM
    exact h0
  · rw [if_neg c30] at hM
    obtain ⟨w41, e41, hM⟩ := bind_of hM
    by_cases c44 : w41 = 0
    · rw [if_pos c44] at hM
      exact fr_X12_mostOf_b151 hs0 ik22 hM h0
    · rw [if_neg c44] at hM
      by_cases c58 : x7 = (u.1 0 34)
      · rw [if_pos c58] at hM
        exact fr_X12_mostOf_b66 hs0 ik22 hM h0
      · rw [if_neg c58] at hM
        exact fr_X12_mostOf_b66 hs0 ik22 hM h0
theorem fr_X12_mostOf_l22 {S : Nat → Prop} {u0 : gM}   : ∀ (n : Nat) {x1 : Int32} {x2 : Int32} {x3 : Int32} {x4 : Int32} {x5 : Int32} {x6 : Int32} {x7 : Int32} (hs0 : S 20) {u : gM} {w : (Int64 × gM)} (h0 : off S u0 u) (hM : X12_mostOf_l22  n x1 x2 x3 x4 x5 x6 x7 u = some w), off S u0 w.2 := by
  intro n
  induction n with
  | zero => intro x1 x2 x3 x4 x5 x6 x7 hs0 u w h0 hM; exact nomatch (show (none : Option (Int64 × gM)) = some w from hM)
  | succ n ihn => intro x1 x2 x3 x4 x5 x6 x7 hs0 u w h0 hM; exact fr_X12_mostOf_b22 hs0  (fun x1 x2 x3 x4 x5 x6 x7 _ _ hs0 h0 h => ihn hs0 h0 h) hM h0
theorem fr_X12_mostOf {S : Nat → Prop} {u0 u : gM} {x1 : Int32} {x2 : Int32} {x3 : Int32} {x4 : Int32} (hs0 : S 20)   {w : (Int64 × gM)} (hM : X12_mostOf x1 x2 x3 x4 u = some w) (h0 : off S u0 u) : off S u0 w.2 := by
  unfold X12_mostOf at hM
  by_cases c2 : x2 = 2
  · rw [if_pos c2] at hM
    exact fr_X12_mostOf_l22  fz hs0 h0 hM
  · rw [if_neg c2] at hM
    obtain ⟨v10, e10, hM⟩ := bind_of hM
    cases hM
    exact h0
/-! CoverDeskModel.divides(JI)V -/
theorem dX12_divides_0 : decode cX12_divides 0 = .ok (.lconst 0, 1) := by decide +kernel
theorem dX12_divides_1 : decode cX12_divides 1 = .ok (.lstore 4, 2) := by decide +kernel
theorem dX12_divides_3 : decode cX12_divides 3 = .ok (.iconst 0, 1) := by decide +kernel
theorem dX12_divides_4 : decode cX12_divides 4 = .ok (.istore 6, 2) := by decide +kernel
theorem dX12_divides_6 : decode cX12_divides 6 = .ok (.iload 6, 2) := by decide +kernel
theorem dX12_divides_8 : decode cX12_divides 8 = .ok (.iload_n 3, 1) := by decide +kernel
theorem dX12_divides_9 : decode cX12_divides 9 = .ok (.if_icmp .ge 21, 3) := by decide +kernel
theorem dX12_divides_12 : decode cX12_divides 12 = .ok (.lload 4, 2) := by decide +kernel
theorem dX12_divides_14 : decode cX12_divides 14 = .ok (.aload_n 0, 1) := by decide +kernel
theorem dX12_divides_15 : decode cX12_divides 15 = .ok (.getfield 81, 3) := by decide +kernel
theorem dX12_divides_18 : decode cX12_divides 18 = .ok (.iload 6, 2) := by decide +kernel
theorem dX12_divides_20 : decode cX12_divides 20 = .ok (.laload, 1) := by decide +kernel
theorem dX12_divides_21 : decode cX12_divides 21 = .ok (.ladd, 1) := by decide +kernel
theorem dX12_divides_22 : decode cX12_divides 22 = .ok (.lstore 4, 2) := by decide +kernel
theorem dX12_divides_24 : decode cX12_divides 24 = .ok (.iinc 6 1, 3) := by decide +kernel
theorem dX12_divides_27 : decode cX12_divides 27 = .ok (.goto (-21), 3) := by decide +kernel
theorem dX12_divides_30 : decode cX12_divides 30 = .ok (.lload_n 1, 1) := by decide +kernel
theorem dX12_divides_31 : decode cX12_divides 31 = .ok (.lload 4, 2) := by decide +kernel
theorem dX12_divides_33 : decode cX12_divides 33 = .ok (.invokestatic 338, 3) := by decide +kernel
theorem dX12_divides_36 : decode cX12_divides 36 = .ok (.lstore 6, 2) := by decide +kernel
theorem dX12_divides_38 : decode cX12_divides 38 = .ok (.lload_n 1, 1) := by decide +kernel
theorem dX12_divides_39 : decode cX12_divides 39 = .ok (.lload 4, 2) := by decide +kernel
theorem dX12_divides_41 : decode cX12_divides 41 = .ok (.lcmp, 1) := by decide +kernel
theorem dX12_divides_42 : decode cX12_divides 42 = .ok (.ifCond .lt 33, 3) := by decide +kernel
theorem dX12_divides_45 : decode cX12_divides 45 = .ok (.iconst 0, 1) := by decide +kernel
theorem dX12_divides_46 : decode cX12_divides 46 = .ok (.istore 8, 2) := by decide +kernel
theorem dX12_divides_48 : decode cX12_divides 48 = .ok (.iload 8, 2) := by decide +kernel
theorem dX12_divides_50 : decode cX12_divides 50 = .ok (.iload_n 3, 1) := by decide +kernel
theorem dX12_divides_51 : decode cX12_divides 51 = .ok (.if_icmp .ge 23, 3) := by decide +kernel
theorem dX12_divides_54 : decode cX12_divides 54 = .ok (.aload_n 0, 1) := by decide +kernel
theorem dX12_divides_55 : decode cX12_divides 55 = .ok (.getfield 84, 3) := by decide +kernel
theorem dX12_divides_58 : decode cX12_divides 58 = .ok (.iload 8, 2) := by decide +kernel
theorem dX12_divides_60 : decode cX12_divides 60 = .ok (.aload_n 0, 1) := by decide +kernel
theorem dX12_divides_61 : decode cX12_divides 61 = .ok (.getfield 81, 3) := by decide +kernel
theorem dX12_divides_64 : decode cX12_divides 64 = .ok (.iload 8, 2) := by decide +kernel
theorem dX12_divides_66 : decode cX12_divides 66 = .ok (.laload, 1) := by decide +kernel
theorem dX12_divides_67 : decode cX12_divides 67 = .ok (.lastore, 1) := by decide +kernel
theorem dX12_divides_68 : decode cX12_divides 68 = .ok (.iinc 8 1, 3) := by decide +kernel
theorem dX12_divides_71 : decode cX12_divides 71 = .ok (.goto (-23), 3) := by decide +kernel
theorem dX12_divides_74 : decode cX12_divides 74 = .ok (.return_, 1) := by decide +kernel
theorem dX12_divides_75 : decode cX12_divides 75 = .ok (.lload 6, 2) := by decide +kernel
theorem dX12_divides_77 : decode cX12_divides 77 = .ok (.lstore 8, 2) := by decide +kernel
theorem dX12_divides_79 : decode cX12_divides 79 = .ok (.iconst 0, 1) := by decide +kernel
theorem dX12_divides_80 : decode cX12_divides 80 = .ok (.istore 10, 2) := by decide +kernel
theorem dX12_divides_82 : decode cX12_divides 82 = .ok (.iload 10, 2) := by decide +kernel
theorem dX12_divides_84 : decode cX12_divides 84 = .ok (.iload_n 3, 1) := by decide +kernel
theorem dX12_divides_85 : decode cX12_divides 85 = .ok (.if_icmp .ge 61, 3) := by decide +kernel
theorem dX12_divides_88 : decode cX12_divides 88 = .ok (.aload_n 0, 1) := by decide +kernel
theorem dX12_divides_89 : decode cX12_divides 89 = .ok (.getfield 84, 3) := by decide +kernel
theorem dX12_divides_92 : decode cX12_divides 92 = .ok (.iload 10, 2) := by decide +kernel
theorem dX12_divides_94 : decode cX12_divides 94 = .ok (.lload 8, 2) := by decide +kernel
theorem dX12_divides_96 : decode cX12_divides 96 = .ok (.aload_n 0, 1) := by decide +kernel
theorem dX12_divides_97 : decode cX12_divides 97 = .ok (.getfield 81, 3) := by decide +kernel
theorem dX12_divides_100 : decode cX12_divides 100 = .ok (.iload 10, 2) := by decide +kernel
theorem dX12_divides_102 : decode cX12_divides 102 = .ok (.laload, 1) := by decide +kernel
theorem dX12_divides_103 : decode cX12_divides 103 = .ok (.lmul, 1) := by decide +kernel
theorem dX12_divides_104 : decode cX12_divides 104 = .ok (.lload 4, 2) := by decide +kernel
theorem dX12_divides_106 : decode cX12_divides 106 = .ok (.ldiv, 1) := by decide +kernel
theorem dX12_divides_107 : decode cX12_divides 107 = .ok (.lastore, 1) := by decide +kernel
theorem dX12_divides_108 : decode cX12_divides 108 = .ok (.aload_n 0, 1) := by decide +kernel
theorem dX12_divides_109 : decode cX12_divides 109 = .ok (.getfield 87, 3) := by decide +kernel
theorem dX12_divides_112 : decode cX12_divides 112 = .ok (.iload 10, 2) := by decide +kernel
theorem dX12_divides_114 : decode cX12_divides 114 = .ok (.lload 8, 2) := by decide +kernel
theorem dX12_divides_116 : decode cX12_divides 116 = .ok (.aload_n 0, 1) := by decide +kernel
theorem dX12_divides_117 : decode cX12_divides 117 = .ok (.getfield 81, 3) := by decide +kernel
theorem dX12_divides_120 : decode cX12_divides 120 = .ok (.iload 10, 2) := by decide +kernel
theorem dX12_divides_122 : decode cX12_divides 122 = .ok (.laload, 1) := by decide +kernel
theorem dX12_divides_123 : decode cX12_divides 123 = .ok (.lmul, 1) := by decide +kernel
theorem dX12_divides_124 : decode cX12_divides 124 = .ok (.lload 4, 2) := by decide +kernel
theorem dX12_divides_126 : decode cX12_divides 126 = .ok (.lrem, 1) := by decide +kernel
theorem dX12_divides_127 : decode cX12_divides 127 = .ok (.lastore, 1) := by decide +kernel
theorem dX12_divides_128 : decode cX12_divides 128 = .ok (.lload 6, 2) := by decide +kernel
theorem dX12_divides_130 : decode cX12_divides 130 = .ok (.aload_n 0, 1) := by decide +kernel
theorem dX12_divides_131 : decode cX12_divides 131 = .ok (.getfield 84, 3) := by decide +kernel
theorem dX12_divides_134 : decode cX12_divides 134 = .ok (.iload 10, 2) := by decide +kernel
theorem dX12_divides_136 : decode cX12_divides 136 = .ok (.laload, 1) := by decide +kernel
theorem dX12_divides_137 : decode cX12_divides 137 = .ok (.lsub, 1) := by decide +kernel
theorem dX12_divides_138 : decode cX12_divides 138 = .ok (.lstore 6, 2) := by decide +kernel
theorem dX12_divides_140 : decode cX12_divides 140 = .ok (.iinc 10 1, 3) := by decide +kernel
theorem dX12_divides_143 : decode cX12_divides 143 = .ok (.goto (-61), 3) := by decide +kernel
theorem dX12_divides_146 : decode cX12_divides 146 = .ok (.lload 6, 2) := by decide +kernel
theorem dX12_divides_148 : decode cX12_divides 148 = .ok (.lconst 0, 1) := by decide +kernel
theorem dX12_divides_149 : decode cX12_divides 149 = .ok (.lcmp, 1) := by decide +kernel
theorem dX12_divides_150 : decode cX12_divides 150 = .ok (.ifCond .le 73, 3) := by decide +kernel
theorem dX12_divides_153 : decode cX12_divides 153 = .ok (.iconst 0, 1) := by decide +kernel
theorem dX12_divides_154 : decode cX12_divides 154 = .ok (.istore 10, 2) := by decide +kernel
theorem dX12_divides_156 : decode cX12_divides 156 = .ok (.iconst 1, 1) := by decide +kernel
theorem dX12_divides_157 : decode cX12_divides 157 = .ok (.istore 11, 2) := by decide +kernel
theorem dX12_divides_159 : decode cX12_divides 159 = .ok (.iload 11, 2) := by decide +kernel
theorem dX12_divides_161 : decode cX12_divides 161 = .ok (.iload_n 3, 1) := by decide +kernel
theorem dX12_divides_162 : decode cX12_divides 162 = .ok (.if_icmp .ge 31, 3) := by decide +kernel
theorem dX12_divides_165 : decode cX12_divides 165 = .ok (.aload_n 0, 1) := by decide +kernel
theorem dX12_divides_166 : decode cX12_divides 166 = .ok (.getfield 87, 3) := by decide +kernel
theorem dX12_divides_169 : decode cX12_divides 169 = .ok (.iload 11, 2) := by decide +kernel
theorem dX12_divides_171 : decode cX12_divides 171 = .ok (.laload, 1) := by decide +kernel
theorem dX12_divides_172 : decode cX12_divides 172 = .ok (.aload_n 0, 1) := by decide +kernel
theorem dX12_divides_173 : decode cX12_divides 173 = .ok (.getfield 87, 3) := by decide +kernel
theorem dX12_divides_176 : decode cX12_divides 176 = .ok (.iload 10, 2) := by decide +kernel
theorem dX12_divides_178 : decode cX12_divides 178 = .ok (.laload, 1) := by decide +kernel
theorem dX12_divides_179 : decode cX12_divides 179 = .ok (.lcmp, 1) := by decide +kernel
theorem dX12_divides_180 : decode cX12_divides 180 = .ok (.ifCond .le 7, 3) := by decide +kernel
theorem dX12_divides_183 : decode cX12_divides 183 = .ok (.iload 11, 2) := by decide +kernel
theorem dX12_divides_185 : decode cX12_divides 185 = .ok (.istore 10, 2) := by decide +kernel
theorem dX12_divides_187 : decode cX12_divides 187 = .ok (.iinc 11 1, 3) := by decide +kernel
theorem dX12_divides_190 : decode cX12_divides 190 = .ok (.goto (-31), 3) := by decide +kernel
theorem dX12_divides_193 : decode cX12_divides 193 = .ok (.aload_n 0, 1) := by decide +kernel
theorem dX12_divides_194 : decode cX12_divides 194 = .ok (.getfield 84, 3) := by decide +kernel
theorem dX12_divides_197 : decode cX12_divides 197 = .ok (.iload 10, 2) := by decide +kernel
theorem dX12_divides_199 : decode cX12_divides 199 = .ok (.dup2, 1) := by decide +kernel
theorem dX12_divides_200 : decode cX12_divides 200 = .ok (.laload, 1) := by decide +kernel
theorem dX12_divides_201 : decode cX12_divides 201 = .ok (.lconst 1, 1) := by decide +kernel
theorem dX12_divides_202 : decode cX12_divides 202 = .ok (.ladd, 1) := by decide +kernel
theorem dX12_divides_203 : decode cX12_divides 203 = .ok (.lastore, 1) := by decide +kernel
theorem dX12_divides_204 : decode cX12_divides 204 = .ok (.aload_n 0, 1) := by decide +kernel
theorem dX12_divides_205 : decode cX12_divides 205 = .ok (.getfield 87, 3) := by decide +kernel
theorem dX12_divides_208 : decode cX12_divides 208 = .ok (.iload 10, 2) := by decide +kernel
theorem dX12_divides_210 : decode cX12_divides 210 = .ok (.ldc2_w 341, 3) := by decide +kernel
theorem dX12_divides_213 : decode cX12_divides 213 = .ok (.lastore, 1) := by decide +kernel
theorem dX12_divides_214 : decode cX12_divides 214 = .ok (.lload 6, 2) := by decide +kernel
theorem dX12_divides_216 : decode cX12_divides 216 = .ok (.lconst 1, 1) := by decide +kernel
theorem dX12_divides_217 : decode cX12_divides 217 = .ok (.lsub, 1) := by decide +kernel
theorem dX12_divides_218 : decode cX12_divides 218 = .ok (.lstore 6, 2) := by decide +kernel
theorem dX12_divides_220 : decode cX12_divides 220 = .ok (.goto (-74), 3) := by decide +kernel
theorem dX12_divides_223 : decode cX12_divides 223 = .ok (.return_, 1) := by decide +kernel
def X12_divides_b187 (k146 : Int32 → Int64 → gM → Option gM) (k159 : Int32 → Int64 → Int32 → Int32 → gM → Option gM) (x3 : Int32) (x6 : Int64) (x10 : Int32) (x11 : Int32) (u : gM) : Option gM :=
(k159 x3 x6 x10 (x11 + 1) u)
def X12_divides_b159 (k146 : Int32 → Int64 → gM → Option gM) (k159 : Int32 → Int64 → Int32 → Int32 → gM → Option gM) (x3 : Int32) (x6 : Int64) (x10 : Int32) (x11 : Int32) (u : gM) : Option gM :=
(if x3 ≤ x11 then ((aJ skM u 22 x10).bind fun v200 => ((sJ skM u 22 x10 (v200 + 1)).bind fun u203 => ((sJ skM u203 23 x10 (-1)).bind fun u213 => (k146 x3 (x6 - 1) u213))))
  else ((aJ skM u 23 x11).bind fun v171 => ((aJ skM u 23 x10).bind fun v178 => (if (lg_cmp v171 v178) ≤ 0 then (X12_divides_b187 k146 k159 x3 x6 x10 x11 u)
    else (X12_divides_b187 k146 k159 x3 x6 x11 x11 u)))))
def X12_divides_l159 (k146 : Int32 → Int64 → gM → Option gM) : Nat → Int32 → Int64 → Int32 → Int32 → gM → Option gM
  | 0, _, _, _, _, _ => none
  | n + 1, x3, x6, x10, x11, u => X12_divides_b159 k146 (X12_divides_l159 k146 n) x3 x6 x10 x11 u
def X12_divides_b146 (k146 : Int32 → Int64 → gM → Option gM) (x3 : Int32) (x6 : Int64) (u : gM) : Option gM :=
(if (lg_cmp x6 0) ≤ 0 then some u
  else (X12_divides_l159 k146 fz x3 x6 0 1 u))
def X12_divides_l146  : Nat → Int32 → Int64 → gM → Option gM
  | 0, _, _, _ => none
  | n + 1, x3, x6, u => X12_divides_b146  (X12_divides_l146  n) x3 x6 u
def X12_divides_b82 (k82 : Int32 → Int64 → Int64 → Int64 → Int32 → gM → Option gM) (x3 : Int32) (x4 : Int64) (x6 : Int64) (x8 : Int64) (x10 : Int32) (u : gM) : Option gM :=
(if x3 ≤ x10 then (X12_divides_l146 fz x3 x6 u)
  else ((aJ skM u 21 x10).bind fun v102 => (if x4 = 0 then none else ((sJ skM u 22 x10 ((x8 * v102) / x4)).bind fun u107 => ((aJ skM u107 21 x10).bind fun v122 => (if x4 = 0 then none else ((sJ skM u107 23 x10 ((x8 * v122) - (x8 * v122) / x4 * x4)).bind fun u127 => ((aJ skM u127 22 x10).bind fun v136 => (k82 x3 x4 (x6 - v136) x8 (x10 + 1) u127)))))))))
def X12_divides_l82  : Nat → Int32 → Int64 → Int64 → Int64 → Int32 → gM → Option gM
  | 0, _, _, _, _, _, _ => none
  | n + 1, x3, x4, x6, x8, x10, u => X12_divides_b82  (X12_divides_l82  n) x3 x4 x6 x8 x10 u
def X12_divides_b48 (k48 : Int32 → Int32 → gM → Option gM) (x3 : Int32) (x8 : Int32) (u : gM) : Option gM :=
(if x3 ≤ x8 then some u
  else ((aJ skM u 21 x8).bind fun v66 => ((sJ skM u 22 x8 v66).bind fun u67 => (k48 x3 (x8 + 1) u67))))
def X12_divides_l48  : Nat → Int32 → Int32 → gM → Option gM
  | 0, _, _, _ => none
  | n + 1, x3, x8, u => X12_divides_b48  (X12_divides_l48  n) x3 x8 u
def X12_divides_b6 (k6 : Int64 → Int32 → Int64 → Int32 → gM → Option gM) (x1 : Int64) (x3 : Int32) (x4 : Int64) (x6 : Int32) (u : gM) : Option gM :=
(if x3 ≤ x6 then (if (lg_cmp x1 x4) < 0 then (X12_divides_l82 fz x3 x4 (mnJ x1 x4) (mnJ x1 x4) 0 u)
    else (X12_divides_l48 fz x3 0 u))
  else ((aJ skM u 21 x6).bind fun v20 => (k6 x1 x3 (x4 + v20) (x6 + 1) u)))
def X12_divides_l6  : Nat → Int64 → Int32 → Int64 → Int32 → gM → Option gM
  | 0, _, _, _, _, _ => none
  | n + 1, x1, x3, x4, x6, u => X12_divides_b6  (X12_divides_l6  n) x1 x3 x4 x6 u
def X12_divides  (x1 : Int64) (x3 : Int32) (u : gM) : Option gM :=
(X12_divides_l6 fz x1 x3 0 0 u)
set_option maxRecDepth 20000 in
theorem v_X12_divides_b187 {κ : gK} {B : Nat} {u : gM} (X : gX κ B skM cX12_divides 12 RX12 none 1 26) {k146 : Int32 → Int64 → gM → Option gM} {k159 : Int32 → Int64 → Int32 → Int32 → gM → Option gM} (ih146 : ∀ (x3 : Int32) (x6 : Int64) (u : gM) (w : gM), k146 x3 x6 u = some w → gV κ B skM 12 ((none), w) 146 [some (.ref (B + 0)), none, none, some (.int x3), none, none, some (.long x6), none, none, none, none, none] [] u) (ih159 : ∀ (x3 : Int32) (x6 : Int64) (x10 : Int32) (x11 : Int32) (u : gM) (w : gM), k159 x3 x6 x10 x11 u = some w → gV κ B skM 12 ((none), w) 159 [some (.ref (B + 0)), none, none, some (.int x3), none, none, some (.long x6), none, none, none, some (.int x10), some (.int x11)] [] u) {x3 : Int32} {x6 : Int64} {x10 : Int32} {x11 : Int32} {w : gM} (hM : X12_divides_b187 k146 k159 x3 x6 x10 x11 u = some w) : gV κ B skM 12 ((none), w) 187 [some (.ref (B + 0)), none, none, some (.int x3), none, none, some (.long x6), none, none, none, some (.int x10), some (.int x11)] [] u := by
  unfold X12_divides_b187 at hM
  refine g_iinc (d := 1) X [some (.ref (B + 0)), none, none, some (.int x3), none, none, some (.long x6), none, none, none, some (.int x10), some (.int (x11 + 1))] dX12_divides_187 (by decide) rfl (by decide) rfl ?_
  refine g_goto (tgt := 159) X dX12_divides_190 (by decide) ?_
  refine g_mk [true, false, false, true, false, false, true, false, false, false, true, true] [some (.ref (B + 0)), none, none, some (.int x3), none, none, some (.long x6), none, none, none, some (.int x10), some (.int (x11 + 1))] rfl ?_
  exact ih159 x3 x6 x10 (x11 + 1) u _ hM
set_option maxRecDepth 20000 in
theorem v_X12_divides_b159 {κ : gK} {B : Nat} {u : gM} (X : gX κ B skM cX12_divides 12 RX12 none 1 26) {k146 : Int32 → Int64 → gM → Option gM} {k159 : Int32 → Int64 → Int32 → Int32 → gM → Option gM} (ih146 : ∀ (x3 : Int32) (x6 : Int64) (u : gM) (w : gM), k146 x3 x6 u = some w → gV κ B skM 12 ((none), w) 146 [some (.ref (B + 0)), none, none, some (.int x3), none, none, some (.long x6), none, none, none, none, none] [] u) (ih159 : ∀ (x3 : Int32) (x6 : Int64) (x10 : Int32) (x11 : Int32) (u : gM) (w : gM), k159 x3 x6 x10 x11 u = some w → gV κ B skM 12 ((none), w) 159 [some (.ref (B + 0)), none, none, some (.int x3), none, none, some (.long x6), none, none, none, some (.int x10), some (.int x11)] [] u) {x3 : Int32} {x6 : Int64} {x10 : Int32} {x11 : Int32} {w : gM} (hM : X12_divides_b159 k146 k159 x3 x6 x10 x11 u = some w) : gV κ B skM 12 ((none), w) 159 [some (.ref (B + 0)), none, none, some (.int x3), none, none, some (.long x6), none, none, none, some (.int x10), some (.int x11)] [] u := by
  unfold X12_divides_b159 at hM
  refine g_iload X dX12_divides_159 rfl ?_
  refine g_iload_n X dX12_divides_161 rfl ?_
  refine g_icmp_ge (tgt := 193) X dX12_divides_162 (by decide) (fun c162 => ?_) (fun c162 => ?_)
  · rw [if_pos c162] at hM
    refine g_aload_n X dX12_divides_193 rfl ?_
    refine g_getR X fX12_84 cM_0 rfl dX12_divides_194 ?_
    refine g_iload X dX12_divides_197 rfl ?_
    refine g_dup2_11 X rfl rfl dX12_divides_199 ?_
    obtain ⟨v200, e200, hM⟩ := bind_of hM
    refine g_laload X e200 dX12_divides_200 ?_
    refine g_lconst (v := 1) X dX12_divides_201 (by decide) ?_
    refine g_ladd X dX12_divides_202 ?_
    obtain ⟨u203, e203, hM⟩ := bind_of hM
    refine g_lastore X e203 dX12_divides_203 ?_
    refine g_aload_n X dX12_divides_204 rfl ?_
    refine g_getR X fX12_87 cM_0 rfl dX12_divides_205 ?_
    refine g_iload X dX12_divides_208 rfl ?_
    refine g_ldc2 (v := (-1)) X m_43_8 dX12_divides_210 ?_
    obtain ⟨u213, e213, hM⟩ := bind_of hM
    refine g_lastore X e213 dX12_divides_213 ?_
    refine g_lload X dX12_divides_214 rfl ?_
    refine g_lconst (v := 1) X dX12_divides_216 (by decide) ?_
    refine g_lsub X dX12_divides_217 ?_
    refine g_lstore X [some (.ref (B + 0)), none, none, some (.int x3), none, none, some (.long (x6 - 1)), none, none, none, some (.int x10), some (.int x11)] dX12_divides_218 (by decide) rfl ?_
    refine g_goto (tgt := 146) X dX12_divides_220 (by decide) ?_
    refine g_mk [true, false, false, true, false, false, true, false, false, false, false, false] [some (.ref (B + 0)), none, none, some (.int x3), none, none, some (.long (x6 - 1)), none, none, none, none, none] rfl ?_
    exact ih146 x3 (x6 - 1) u213 _ hM
  · rw [if_neg c162] at hM
    refine g_aload_n X dX12_divides_165 rfl ?_
    refine g_getR X fX12_87 cM_0 rfl dX12_divides_166 ?_
    refine g_iload X dX12_divides_169 rfl ?_
    obtain ⟨v171, e171, hM⟩ := bind_of hM
    refine g_laload X e171 dX12_divides_171 ?_
    refine g_aload_n X dX12_divides_172 rfl ?_
    refine g_getR X fX12_87 cM_0 rfl dX12_divides_173 ?_
    refine g_iload X dX12_divides_176 rfl ?_
    obtain ⟨v178, e178, hM⟩ := bind_of hM
    refine g_laload X e178 dX12_divides_178 ?_
    refine g_lcmp X dX12_divides_179 ?_
    refine g_if_le (tgt := 187) X dX12_divides_180 (by decide) (fun c180 => ?_) (fun c180 => ?_)
    · rw [if_pos c180] at hM
      refine g_mk [true, false, false, true, false, false, true, false, false, false, true, true] [some (.ref (B + 0)), none, none, some (.int x3), none, none, some (.long x6), none, none, none, some (.int x10), some (.int x11)] rfl ?_
      exact v_X12_divides_b187 X ih146 ih159 hM
    · rw [if_neg c180] at hM
      refine g_iload X dX12_divides_183 rfl ?_
      refine g_istore X [some (.ref (B + 0)), none, none, some (.int x3), none, none, some (.long x6), none, none, none, some (.int x11), some (.int x11)] dX12_divides_185 (by decide) rfl ?_
      refine g_mk [true, false, false, true, false, false, true, false, false, false, true, true] [some (.ref (B + 0)), none, none, some (.int x3), none, none, some (.long x6), none, none, none, some (.int x11), some (.int x11)] rfl ?_
      exact v_X12_divides_b187 X ih146 ih159 hM
theorem v_X12_divides_l159 {κ : gK} {B : Nat} (X : gX κ B skM cX12_divides 12 RX12 none 1 26) {k146 : Int32 → Int64 → gM → Option gM} (ih146 : ∀ (x3 : Int32) (x6 : Int64) (u : gM) (w : gM), k146 x3 x6 u = some w → gV κ B skM 12 ((none), w) 146 [some (.ref (B + 0)), none, none, some (.int x3), none, none, some (.long x6), none, none, none, none, none] [] u) : ∀ (n : Nat) {x3 : Int32} {x6 : Int64} {x10 : Int32} {x11 : Int32} {u : gM} {w : gM} (hM : X12_divides_l159 k146 n x3 x6 x10 x11 u = some w), gV κ B skM 12 ((none), w) 159 [some (.ref (B + 0)), none, none, some (.int x3), none, none, some (.long x6), none, none, none, some (.int x10), some (.int x11)] [] u := by
  intro n
  induction n with
  | zero => intro x3 x6 x10 x11 u w hM; exact nomatch (show (none : Option gM) = some w from hM)
  | succ n ihn => intro x3 x6 x10 x11 u w hM; exact v_X12_divides_b159 X ih146 (fun x3 x6 x10 x11 u w h => ihn h) hM
set_option maxRecDepth 20000 in
theorem v_X12_divides_b146 {κ : gK} {B : Nat} {u : gM} (X : gX κ B skM cX12_divides 12 RX12 none 1 26) {k146 : Int32 → Int64 → gM → Option gM} (ih146 : ∀ (x3 : Int32) (x6 : Int64) (u : gM) (w : gM), k146 x3 x6 u = some w → gV κ B skM 12 ((none), w) 146 [some (.ref (B + 0)), none, none, some (.int x3), none, none, some (.long x6), none, none, none, none, none] [] u) {x3 : Int32} {x6 : Int64} {w : gM} (hM : X12_divides_b146 k146 x3 x6 u = some w) : gV κ B skM 12 ((none), w) 146 [some (.ref (B + 0)), none, none, some (.int x3), none, none, some (.long x6), none, none, none, none, none] [] u := by
  unfold X12_divides_b146 at hM
  refine g_lload X dX12_divides_146 rfl ?_
  refine g_lconst (v := 0) X dX12_divides_148 (by decide) ?_
  refine g_lcmp X dX12_divides_149 ?_
  refine g_if_le (tgt := 223) X dX12_divides_150 (by decide) (fun c150 => ?_) (fun c150 => ?_)
  · rw [if_pos c150] at hM
    cases hM
    exact g_vret X dX12_divides_223
  · rw [if_neg c150] at hM
    refine g_iconst X (v := 0) dX12_divides_153 (by decide) ?_
    refine g_istore X [some (.ref (B + 0)), none, none, some (.int x3), none, none, some (.long x6), none, none, none, some (.int 0), none] dX12_divides_154 (by decide) rfl ?_
    refine g_iconst X (v := 1) dX12_divides_156 (by decide) ?_
    refine g_istore X [some (.ref (B + 0)), none, none, some (.int x3), none, none, some (.long x6), none, none, none, some (.int 0), some (.int 1)] dX12_divides_157 (by decide) rfl ?_
    refine g_mk [true, false, false, true, false, false, true, false, false, false, true, true] [some (.ref (B + 0)), none, none, some (.int x3), none, none, some (.long x6), none, none, none, some (.int 0), some (.int 1)] rfl ?_
    exact v_X12_divides_l159 X ih146 fz hM
theorem v_X12_divides_l146 {κ : gK} {B : Nat} (X : gX κ B skM cX12_divides 12 RX12 none 1 26)   : ∀ (n : Nat) {x3 : Int32} {x6 : Int64} {u : gM} {w : gM} (hM : X12_divides_l146  n x3 x6 u = some w), gV κ B skM 12 ((none), w) 146 [some (.ref (B + 0)), none, none, some (.int x3), none, none, some (.long x6), none, none, none, none, none] [] u := by
  intro n
  induction n with
  | zero => intro x3 x6 u w hM; exact nomatch (show (none : Option gM) = some w from hM)
  | succ n ihn => intro x3 x6 u w hM; exact v_X12_divides_b146 X  (fun x3 x6 u w h => ihn h) hM
set_option maxRecDepth 20000 in
theorem v_X12_divides_b82 {κ : gK} {B : Nat} {u : gM} (X : gX κ B skM cX12_divides 12 RX12 none 1 26) {k82 : Int32 → Int64 → Int64 → Int64 → Int32 → gM → Option gM} (ih82 : ∀ (x3 : Int32) (x4 : Int64) (x6 : Int64) (x8 : Int64) (x10 : Int32) (u : gM) (w : gM), k82 x3 x4 x6 x8 x10 u = some w → gV κ B skM 12 ((none), w) 82 [some (.ref (B + 0)), none, none, some (.int x3), some (.long x4), none, some (.long x6), none, some (.long x8), none, some (.int x10), none] [] u) {x3 : Int32} {x4 : Int64} {x6 : Int64} {x8 : Int64} {x10 : Int32} {w : gM} (hM : X12_divides_b82 k82 x3 x4 x6 x8 x10 u = some w) : gV κ B skM 12 ((none), w) 82 [some (.ref (B + 0)), none, none, some (.int x3), some (.long x4), none, some (.long x6), none, some (.long x8), none, some (.int x10), none] [] u := by
  unfold X12_divides_b82 at hM
  refine g_iload X dX12_divides_82 rfl ?_
  refine g_iload_n X dX12_divides_84 rfl ?_
  refine g_icmp_ge (tgt := 146) X dX12_divides_85 (by decide) (fun c85 => ?_) (fun c85 => ?_)
  · rw [if_pos c85] at hM
    refine g_mk [true, false, false, true, false, false, true, false, false, false, false, false] [some (.ref (B + 0)), none, none, some (.int x3), none, none, some (.long x6), none, none, none, none, none] rfl ?_
    exact v_X12_divides_l146 X  fz hM
  · rw [if_neg c85] at hM
    refine g_aload_n X dX12_divides_88 rfl ?_
    refine g_getR X fX12_84 cM_0 rfl dX12_divides_89 ?_
    refine g_iload X dX12_divides_92 rfl ?_
    refine g_lload X dX12_divides_94 rfl ?_
    refine g_aload_n X dX12_divides_96 rfl ?_
    refine g_getR X fX12_81 cM_0 rfl dX12_divides_97 ?_
    refine g_iload X dX12_divides_100 rfl ?_
    obtain ⟨v102, e102, hM⟩ := bind_of hM
    refine g_laload X e102 dX12_divides_102 ?_
    refine g_lmul X dX12_divides_103 ?_
    refine g_lload X dX12_divides_104 rfl ?_
    obtain ⟨n106, hM⟩ := ite_no hM
    refine g_ldiv X n106 dX12_divides_106 ?_
    obtain ⟨u107, e107, hM⟩ := bind_of hM
    refine g_lastore X e107 dX12_divides_107 ?_
    refine g_aload_n X dX12_divides_108 rfl ?_
    refine g_getR X fX12_87 cM_0 rfl dX12_divides_109 ?_
    refine g_iload X dX12_divides_112 rfl ?_
    refine g_lload X dX12_divides_114 rfl ?_
    refine g_aload_n X dX12_divides_116 rfl ?_
    refine g_getR X fX12_81 cM_0 rfl dX12_divides_117 ?_
    refine g_iload X dX12_divides_120 rfl ?_
    obtain ⟨v122, e122, hM⟩ := bind_of hM
    refine g_laload X e122 dX12_divides_122 ?_
    refine g_lmul X dX12_divides_123 ?_
    refine g_lload X dX12_divides_124 rfl ?_
    obtain ⟨n126, hM⟩ := ite_no hM
    refine g_lrem X n126 dX12_divides_126 ?_
    obtain ⟨u127, e127, hM⟩ := bind_of hM
    refine g_lastore X e127 dX12_divides_127 ?_
    refine g_lload X dX12_divides_128 rfl ?_
    refine g_aload_n X dX12_divides_130 rfl ?_
    refine g_getR X fX12_84 cM_0 rfl dX12_divides_131 ?_
    refine g_iload X dX12_divides_134 rfl ?_
    obtain ⟨v136, e136, hM⟩ := bind_of hM
    refine g_laload X e136 dX12_divides_136 ?_
    refine g_lsub X dX12_divides_137 ?_
    refine g_lstore X [some (.ref (B + 0)), none, none, some (.int x3), some (.long x4), none, some (.long (x6 - v136)), none, some (.long x8), none, some (.int x10), none] dX12_divides_138 (by decide) rfl ?_
    refine g_iinc (d := 1) X [some (.ref (B + 0)), none, none, some (.int x3), some (.long x4), none, some (.long (x6 - v136)), none, some (.long x8), none, some (.int (x10 + 1)), none] dX12_divides_140 (by decide) rfl (by decide) rfl ?_
    refine g_goto (tgt := 82) X dX12_divides_143 (by decide) ?_
    refine g_mk [true, false, false, true, true, false, true, false, true, false, true, false] [some (.ref (B + 0)), none, none, some (.int x3), some (.long x4), none, some (.long (x6 - v136)), none, some (.long x8), none, some (.int (x10 + 1)), none] rfl ?_
    exact ih82 x3 x4 (x6 - v136) x8 (x10 + 1) u127 _ hM
theorem v_X12_divides_l82 {κ : gK} {B : Nat} (X : gX κ B skM cX12_divides 12 RX12 none 1 26)   : ∀ (n : Nat) {x3 : Int32} {x4 : Int64} {x6 : Int64} {x8 : Int64} {x10 : Int32} {u : gM} {w : gM} (hM : X12_divides_l82  n x3 x4 x6 x8 x10 u = some w), gV κ B skM 12 ((none), w) 82 [some (.ref (B + 0)), none, none, some (.int x3), some (.long x4), none, some (.long x6), none, some (.long x8), none, some (.int x10), none] [] u := by
  intro n
  induction n with
  | zero => intro x3 x4 x6 x8 x10 u w hM; exact nomatch (show (none : Option gM) = some w from hM)
  | succ n ihn => intro x3 x4 x6 x8 x10 u w hM; exact v_X12_divides_b82 X  (fun x3 x4 x6 x8 x10 u w h => ihn h) hM
set_option maxRecDepth 20000 in
theorem v_X12_divides_b48 {κ : gK} {B : Nat} {u : gM} (X : gX κ B skM cX12_divides 12 RX12 none 1 26) {k48 : Int32 → Int32 → gM → Option gM} (ih48 : ∀ (x3 : Int32) (x8 : Int32) (u : gM) (w : gM), k48 x3 x8 u = some w → gV κ B skM 12 ((none), w) 48 [some (.ref (B + 0)), none, none, some (.int x3), none, none, none, none, some (.int x8), none, none, none] [] u) {x3 : Int32} {x8 : Int32} {w : gM} (hM : X12_divides_b48 k48 x3 x8 u = some w) : gV κ B skM 12 ((none), w) 48 [some (.ref (B + 0)), none, none, some (.int x3), none, none, none, none, some (.int x8), none, none, none] [] u := by
  unfold X12_divides_b48 at hM
  refine g_iload X dX12_divides_48 rfl ?_
  refine g_iload_n X dX12_divides_50 rfl ?_
  refine g_icmp_ge (tgt := 74) X dX12_divides_51 (by decide) (fun c51 => ?_) (fun c51 => ?_)
  · rw [if_pos c51] at hM
    cases hM
    exact g_vret X dX12_divides_74
  · rw [if_neg c51] at hM
    refine g_aload_n X dX12_divides_54 rfl ?_
    refine g_getR X fX12_84 cM_0 rfl dX12_divides_55 ?_
    refine g_iload X dX12_divides_58 rfl ?_
    refine g_aload_n X dX12_divides_60 rfl ?_
    refine g_getR X fX12_81 cM_0 rfl dX12_divides_61 ?_
    refine g_iload X dX12_divides_64 rfl ?_
    obtain ⟨v66, e66, hM⟩ := bind_of hM
    refine g_laload X e66 dX12_divides_66 ?_
    obtain ⟨u67, e67, hM⟩ := bind_of hM
    refine g_lastore X e67 dX12_divides_67 ?_
    refine g_iinc (d := 1) X [some (.ref (B + 0)), none, none, some (.int x3), none, none, none, none, some (.int (x8 + 1)), none, none, none] dX12_divides_68 (by decide) rfl (by decide) rfl ?_
    refine g_goto (tgt := 48) X dX12_divides_71 (by decide) ?_
    refine g_mk [true, false, false, true, false, false, false, false, true, false, false, false] [some (.ref (B + 0)), none, none, some (.int x3), none, none, none, none, some (.int (x8 + 1)), none, none, none] rfl ?_
    exact ih48 x3 (x8 + 1) u67 _ hM
theorem v_X12_divides_l48 {κ : gK} {B : Nat} (X : gX κ B skM cX12_divides 12 RX12 none 1 26)   : ∀ (n : Nat) {x3 : Int32} {x8 : Int32} {u : gM} {w : gM} (hM : X12_divides_l48  n x3 x8 u = some w), gV κ B skM 12 ((none), w) 48 [some (.ref (B + 0)), none, none, some (.int x3), none, none, none, none, some (.int x8), none, none, none] [] u := by
  intro n
  induction n with
  | zero => intro x3 x8 u w hM; exact nomatch (show (none : Option gM) = some w from hM)
  | succ n ihn => intro x3 x8 u w hM; exact v_X12_divides_b48 X  (fun x3 x8 u w h => ihn h) hM
set_option maxRecDepth 20000 in
theorem v_X12_divides_b6 {κ : gK} {B : Nat} {u : gM} (X : gX κ B skM cX12_divides 12 RX12 none 1 26) {k6 : Int64 → Int32 → Int64 → Int32 → gM → Option gM} (ih6 : ∀ (x1 : Int64) (x3 : Int32) (x4 : Int64) (x6 : Int32) (u : gM) (w : gM), k6 x1 x3 x4 x6 u = some w → gV κ B skM 12 ((none), w) 6 [some (.ref (B + 0)), some (.long x1), none, some (.int x3), some (.long x4), none, some (.int x6), none, none, none, none, none] [] u) {x1 : Int64} {x3 : Int32} {x4 : Int64} {x6 : Int32} {w : gM} (hM : X12_divides_b6 k6 x1 x3 x4 x6 u = some w) : gV κ B skM 12 ((none), w) 6 [some (.ref (B + 0)), some (.long x1), none, some (.int x3), some (.long x4), none, some (.int x6), none, none, none, none, none] [] u := by
  unfold X12_divides_b6 at hM
  refine g_iload X dX12_divides_6 rfl ?_
  refine g_iload_n X dX12_divides_8 rfl ?_
  refine g_icmp_ge (tgt := 30) X dX12_divides_9 (by decide) (fun c9 => ?_) (fun c9 => ?_)
  · rw [if_pos c9] at hM
    refine g_lload_n X dX12_divides_30 rfl ?_
    refine g_lload X dX12_divides_31 rfl ?_
    refine g_minJ X m_43_5 ⟨by decide, Nat.le_of_ble_eq_true rfl⟩ dX12_divides_33 ?_
    refine g_lstore X [some (.ref (B + 0)), some (.long x1), none, some (.int x3), some (.long x4), none, some (.long (mnJ x1 x4)), none, none, none, none, none] dX12_divides_36 (by decide) rfl ?_
    refine g_lload_n X dX12_divides_38 rfl ?_
    refine g_lload X dX12_divides_39 rfl ?_
    refine g_lcmp X dX12_divides_41 ?_
    refine g_if_lt (tgt := 75) X dX12_divides_42 (by decide) (fun c42 => ?_) (fun c42 => ?_)
    · rw [if_pos c42] at hM
      refine g_lload X dX12_divides_75 rfl ?_
      refine g_lstore X [some (.ref (B + 0)), some (.long x1), none, some (.int x3), some (.long x4), none, some (.long (mnJ x1 x4)), none, some (.long (mnJ x1 x4)), none, none, none] dX12_divides_77 (by decide) rfl ?_
      refine g_iconst X (v := 0) dX12_divides_79 (by decide) ?_
      refine g_istore X [some (.ref (B + 0)), some (.long x1), none, some (.int x3), some (.long x4), none, some (.long (mnJ x1 x4)), none, some (.long (mnJ x1 x4)), none, some (.int 0), none] dX12_divides_80 (by decide) rfl ?_
      refine g_mk [true, false, false, true, true, false, true, false, true, false, true, false] [some (.ref (B + 0)), none, none, some (.int x3), some (.long x4), none, some (.long (mnJ x1 x4)), none, some (.long (mnJ x1 x4)), none, some (.int 0), none] rfl ?_
      exact v_X12_divides_l82 X  fz hM
    · rw [if_neg c42] at hM
      refine g_iconst X (v := 0) dX12_divides_45 (by decide) ?_
      refine g_istore X [some (.ref (B + 0)), some (.long x1), none, some (.int x3), some (.long x4), none, some (.long (mnJ x1 x4)), none, some (.int 0), none, none, none] dX12_divides_46 (by decide) rfl ?_
      refine g_mk [true, false, false, true, false, false, false, false, true, false, false, false] [some (.ref (B + 0)), none, none, some (.int x3), none, none, none, none, some (.int 0), none, none, none] rfl ?_
      exact v_X12_divides_l48 X  fz hM
  · rw [if_neg c9] at hM
    refine g_lload X dX12_divides_12 rfl ?_
    refine g_aload_n X dX12_divides_14 rfl ?_
    refine g_getR X fX12_81 cM_0 rfl dX12_divides_15 ?_
    refine g_iload X dX12_divides_18 rfl ?_
    obtain ⟨v20, e20, hM⟩ := bind_of hM
    refine g_laload X e20 dX12_divides_20 ?_
    refine g_ladd X dX12_divides_21 ?_
    refine g_lstore X [some (.ref (B + 0)), some (.long x1), none, some (.int x3), some (.long (x4 + v20)), none, some (.int x6), none, none, none, none, none] dX12_divides_22 (by decide) rfl ?_
    refine g_iinc (d := 1) X [some (.ref (B + 0)), some (.long x1), none, some (.int x3), some (.long (x4 + v20)), none, some (.int (x6 + 1)), none, none, none, none, none] dX12_divides_24 (by decide) rfl (by decide) rfl ?_
    refine g_goto (tgt := 6) X dX12_divides_27 (by decide) ?_
    refine g_mk [true, true, false, true, true, false, true, false, false, false, false, false] [some (.ref (B + 0)), some (.long x1), none, some (.int x3), some (.long (x4 + v20)), none, some (.int (x6 + 1)), none, none, none, none, none] rfl ?_
    exact ih6 x1 x3 (x4 + v20) (x6 + 1) u _ hM
theorem v_X12_divides_l6 {κ : gK} {B : Nat} (X : gX κ B skM cX12_divides 12 RX12 none 1 26)   : ∀ (n : Nat) {x1 : Int64} {x3 : Int32} {x4 : Int64} {x6 : Int32} {u : gM} {w : gM} (hM : X12_divides_l6  n x1 x3 x4 x6 u = some w), gV κ B skM 12 ((none), w) 6 [some (.ref (B + 0)), some (.long x1), none, some (.int x3), some (.long x4), none, some (.int x6), none, none, none, none, none] [] u := by
  intro n
  induction n with
  | zero => intro x1 x3 x4 x6 u w hM; exact nomatch (show (none : Option gM) = some w from hM)
  | succ n ihn => intro x1 x3 x4 x6 u w hM; exact v_X12_divides_b6 X  (fun x1 x3 x4 x6 u w h => ihn h) hM
set_option maxRecDepth 20000 in
theorem v_X12_divides {κ : gK} {B : Nat} {u : gM} (X : gX κ B skM cX12_divides 12 RX12 none 1 26)   {x1 : Int64} {x3 : Int32} {w : gM} (hM : X12_divides x1 x3 u = some w) : gV κ B skM 12 ((none), w) 0 [some (.ref (B + 0)), some (.long x1), none, some (.int x3), none, none, none, none, none, none, none, none] [] u := by
  unfold X12_divides at hM
  refine g_lconst (v := 0) X dX12_divides_0 (by decide) ?_
  refine g_lstore X [some (.ref (B + 0)), some (.long x1), none, some (.int x3), some (.long 0), none, none, none, none, none, none, none] dX12_divides_1 (by decide) rfl ?_
  refine g_iconst X (v := 0) dX12_divides_3 (by decide) ?_
  refine g_istore X [some (.ref (B + 0)), some (.long x1), none, some (.int x3), some (.long 0), none, some (.int 0), none, none, none, none, none] dX12_divides_4 (by decide) rfl ?_
  refine g_mk [true, true, false, true, true, false, true, false, false, false, false, false] [some (.ref (B + 0)), some (.long x1), none, some (.int x3), some (.long 0), none, some (.int 0), none, none, none, none, none] rfl ?_
  exact v_X12_divides_l6 X  fz hM
theorem s_X12_divides {x1 : Int64} {x3 : Int32} {u : gM} {w : gM} (hM : X12_divides x1 x3 u = some w) : gMet skM yX12_divides cX12_divides 12 none 1 26 (fun B adK => [.ref (B + 0), .long x1, .int x3]) u ((fun _ => none), w) := by
  refine gMet.of (by decide) (fun _ _ => Nat.le_of_ble_eq_true rfl) (fun κ B X => ?_)
  have X : gX κ B skM cX12_divides 12 RX12 none 1 26 := X
  refine g_mk [true, true, false, true, false, false, false, false, false, false, false, false] [some (.ref (B + 0)), some (.long x1), none, some (.int x3), none, none, none, none, none, none, none, none] rfl ?_
  exact v_X12_divides X  hM
theorem fr_X12_divides_b187 {S : Nat → Prop} {u0 u : gM} {x3 : Int32} {x6 : Int64} {x10 : Int32} {x11 : Int32} (hs0 : S 22) (hs1 : S 23) {k146 : Int32 → Int64 → gM → Option gM} {k159 : Int32 → Int64 → Int32 → Int32 → gM → Option gM} (ik146 : ∀ (x3 : Int32) (x6 : Int64) (u : gM) (w : gM), S 22 → S 23 → off S u0 u → k146 x3 x6 u = some w → off S u0 w) (ik159 : ∀ (x3 : Int32) (x6 : Int64) (x10 : Int32) (x11 : Int32) (u : gM) (w : gM), S 22 → S 23 → off S u0 u → k159 x3 x6 x10 x11 u = some w → off S u0 w) {w : gM} (hM : X12_divides_b187 k146 k159 x3 x6 x10 x11 u = some w) (h0 : off S u0 u) : off S u0 w := by
  unfold X12_divides_b187 at hM
  exact ik159 _ _ _ _ _ _ hs0 hs1 h0 hM
theorem fr_X12_divides_b159 {S : Nat → Prop} {u0 u : gM} {x3 : Int32} {x6 : Int64} {x10 : Int32} {x11 : Int32} (hs0 : S 22) (hs1 : S 23) {k146 : Int32 → Int64 → gM → Option gM} {k159 : Int32 → Int64 → Int32 → Int32 → gM → Option gM} (ik146 : ∀ (x3 : Int32) (x6 : Int64) (u : gM) (w : gM), S 22 → S 23 → off S u0 u → k146 x3 x6 u = some w → off S u0 w) (ik159 : ∀ (x3 : Int32) (x6 : Int64) (x10 : Int32) (x11 : Int32) (u : gM) (w : gM), S 22 → S 23 → off S u0 u → k159 x3 x6 x10 x11 u = some w → off S u0 w) {w : gM} (hM : X12_divides_b159 k146 k159 x3 x6 x10 x11 u = some w) (h0 : off S u0 u) : off S u0 w := by
  unfold X12_divides_b159 at hM
  by_cases c162 : x3 ≤ x11
  · rw [if_pos c162] at hM
    obtain ⟨v200, e200, hM⟩ := bind_of hM
    obtain ⟨u203, e203, hM⟩ := bind_of hM
    have h0 := off_sJ hs0 e203 h0
    obtain ⟨u213, e213, hM⟩ := bind_of hM
    have h0 := off_sJ hs1 e213 h0
    exact ik146 _ _ _ _ hs0 hs1 h0 hM
  · rw [if_neg c162] at hM
    obtain ⟨v171, e171, hM⟩ := bind_of hM
    obtain ⟨v178, e178, hM⟩ := bind_of hM
    by_cases c180 : (lg_cmp v171 v178) ≤ 0
    · rw [if_pos c180] at hM
      exact fr_X12_divides_b187 hs0 hs1 ik146 ik159 hM h0
    · rw [if_neg c180] at hM
      exact fr_X12_divides_b187 hs0 hs1 ik146 ik159 hM h0
theorem fr_X12_divides_l159 {S : Nat → Prop} {u0 : gM} {k146 : Int32 → Int64 → gM → Option gM} (ik146 : ∀ (x3 : Int32) (x6 : Int64) (u : gM) (w : gM), S 22 → S 23 → off S u0 u → k146 x3 x6 u = some w → off S u0 w) : ∀ (n : Nat) {x3 : Int32} {x6 : Int64} {x10 : Int32} {x11 : Int32} (hs0 : S 22) (hs1 : S 23) {u : gM} {w : gM} (h0 : off S u0 u) (hM : X12_divides_l159 k146 n x3 x6 x10 x11 u = some w), off S u0 w := by
  intro n
  induction n with
  | zero => intro x3 x6 x10 x11 hs0 hs1 u w h0 hM; exact nomatch (show (none : Option gM) = some w from hM)
  | succ n ihn => intro x3 x6 x10 x11 hs0 hs1 u w h0 hM; exact fr_X12_divides_b159 hs0 hs1 ik146 (fun x3 x6 x10 x11 _ _ hs0 hs1 h0 h => ihn hs0 hs1 h0 h) hM h0
theorem fr_X12_divides_b146 {S : Nat → Prop} {u0 u : gM} {x3 : Int32} {x6 : Int64} (hs0 : S 22) (hs1 : S 23) {k146 : Int32 → Int64 → gM → Option gM} (ik146 : ∀ (x3 : Int32) (x6 : Int64) (u : gM) (w : gM), S 22 → S 23 → off S u0 u → k146 x3 x6 u = some w → off S u0 w) {w : gM} (hM : X12_divides_b146 k146 x3 x6 u = some w) (h0 : off S u0 u) : off S u0 w := by
  unfold X12_divides_b146 at hM
  by_cases c150 : (lg_cmp x6 0) ≤ 0
  · rw [if_pos c150] at hM
    cases hM
    exact h0
  · rw [if_neg c150] at hM
    exact fr_X12_divides_l159 ik146 fz hs0 hs1 h0 hM
theorem fr_X12_divides_l146 {S : Nat → Prop} {u0 : gM}   : ∀ (n : Nat) {x3 : Int32} {x6 : Int64} (hs0 : S 22) (hs1 : S 23) {u : gM} {w : gM} (h0 : off S u0 u) (hM : X12_divides_l146  n x3 x6 u = some w), off S u0 w := by
  intro n
  induction n with
  | zero => intro x3 x6 hs0 hs1 u w h0 hM; exact nomatch (show (none : Option gM) = some w from hM)
  | succ n ihn => intro x3 x6 hs0 hs1 u w h0 hM; exact fr_X12_divides_b146 hs0 hs1  (fun x3 x6 _ _ hs0 hs1 h0 h => ihn hs0 hs1 h0 h) hM h0
theorem fr_X12_divides_b82 {S : Nat → Prop} {u0 u : gM} {x3 : Int32} {x4 : Int64} {x6 : Int64} {x8 : Int64} {x10 : Int32} (hs0 : S 22) (hs1 : S 23) {k82 : Int32 → Int64 → Int64 → Int64 → Int32 → gM → Option gM} (ik82 : ∀ (x3 : Int32) (x4 : Int64) (x6 : Int64) (x8 : Int64) (x10 : Int32) (u : gM) (w : gM), S 22 → S 23 → off S u0 u → k82 x3 x4 x6 x8 x10 u = some w → off S u0 w) {w : gM} (hM : X12_divides_b82 k82 x3 x4 x6 x8 x10 u = some w) (h0 : off S u0 u) : off S u0 w := by
  unfold X12_divides_b82 at hM
  by_cases c85 : x3 ≤ x10
  · rw [if_pos c85] at hM
    exact fr_X12_divides_l146  fz hs0 hs1 h0 hM
  · rw [if_neg c85] at hM
    obtain ⟨v102, e102, hM⟩ := bind_of hM
    obtain ⟨n106, hM⟩ := ite_no hM
    obtain ⟨u107, e107, hM⟩ := bind_of hM
    have h0 := off_sJ hs0 e107 h0
    obtain ⟨v122, e122, hM⟩ := bind_of hM
    obtain ⟨n126, hM⟩ := ite_no hM
    obtain ⟨u127, e127, hM⟩ := bind_of hM
    have h0 := off_sJ hs1 e127 h0
    obtain ⟨v136, e136, hM⟩ := bind_of hM
    exact ik82 _ _ _ _ _ _ _ hs0 hs1 h0 hM
theorem fr_X12_divides_l82 {S : Nat → Prop} {u0 : gM}   : ∀ (n : Nat) {x3 : Int32} {x4 : Int64} {x6 : Int64} {x8 : Int64} {x10 : Int32} (hs0 : S 22) (hs1 : S 23) {u : gM} {w : gM} (h0 : off S u0 u) (hM : X12_divides_l82  n x3 x4 x6 x8 x10 u = some w), off S u0 w := by
  intro n
  induction n with
  | zero => intro x3 x4 x6 x8 x10 hs0 hs1 u w h0 hM; exact nomatch (show (none : Option gM) = some w from hM)
  | succ n ihn => intro x3 x4 x6 x8 x10 hs0 hs1 u w h0 hM; exact fr_X12_divides_b82 hs0 hs1  (fun x3 x4 x6 x8 x10 _ _ hs0 hs1 h0 h => ihn hs0 hs1 h0 h) hM h0
theorem fr_X12_divides_b48 {S : Nat → Prop} {u0 u : gM} {x3 : Int32} {x8 : Int32} (hs0 : S 22) {k48 : Int32 → Int32 → gM → Option gM} (ik48 : ∀ (x3 : Int32) (x8 : Int32) (u : gM) (w : gM), S 22 → off S u0 u → k48 x3 x8 u = some w → off S u0 w) {w : gM} (hM : X12_divides_b48 k48 x3 x8 u = some w) (h0 : off S u0 u) : off S u0 w := by
  unfold X12_divides_b48 at hM
  by_cases c51 : x3 ≤ x8
  · rw [if_pos c51] at hM
    cases hM
    exact h0
  · rw [if_neg c51] at hM
    obtain ⟨v66, e66, hM⟩ := bind_of hM
    obtain ⟨u67, e67, hM⟩ := bind_of hM
    have h0 := off_sJ hs0 e67 h0
    exact ik48 _ _ _ _ hs0 h0 hM
theorem fr_X12_divides_l48 {S : Nat → Prop} {u0 : gM}   : ∀ (n : Nat) {x3 : Int32} {x8 : Int32} (hs0 : S 22) {u : gM} {w : gM} (h0 : off S u0 u) (hM : X12_divides_l48  n x3 x8 u = some w), off S u0 w := by
  intro n
  induction n with
  | zero => intro x3 x8 hs0 u w h0 hM; exact nomatch (show (none : Option gM) = some w from hM)
  | succ n ihn => intro x3 x8 hs0 u w h0 hM; exact fr_X12_divides_b48 hs0  (fun x3 x8 _ _ hs0 h0 h => ihn hs0 h0 h) hM h0
theorem fr_X12_divides_b6 {S : Nat → Prop} {u0 u : gM} {x1 : Int64} {x3 : Int32} {x4 : Int64} {x6 : Int32} (hs0 : S 22) (hs1 : S 23) {k6 : Int64 → Int32 → Int64 → Int32 → gM → Option gM} (ik6 : ∀ (x1 : Int64) (x3 : Int32) (x4 : Int64) (x6 : Int32) (u : gM) (w : gM), S 22 → S 23 → off S u0 u → k6 x1 x3 x4 x6 u = some w → off S u0 w) {w : gM} (hM : X12_divides_b6 k6 x1 x3 x4 x6 u = some w) (h0 : off S u0 u) : off S u0 w := by
  unfold X12_divides_b6 at hM
  by_cases c9 : x3 ≤ x6
  · rw [if_pos c9] at hM
    by_cases c42 : (lg_cmp x1 x4) < 0
    · rw [if_pos c42] at hM
      exact fr_X12_divides_l82  fz hs0 hs1 h0 hM
    · rw [if_neg c42] at hM
      exact fr_X12_divides_l48  fz hs0 h0 hM
  · rw [if_neg c9] at hM
    obtain ⟨v20, e20, hM⟩ := bind_of hM
    exact ik6 _ _ _ _ _ _ hs0 hs1 h0 hM
theorem fr_X12_divides_l6 {S : Nat → Prop} {u0 : gM}   : ∀ (n : Nat) {x1 : Int64} {x3 : Int32} {x4 : Int64} {x6 : Int32} (hs0 : S 22) (hs1 : S 23) {u : gM} {w : gM} (h0 : off S u0 u) (hM : X12_divides_l6  n x1 x3 x4 x6 u = some w), off S u0 w := by
  intro n
  induction n with
  | zero => intro x1 x3 x4 x6 hs0 hs1 u w h0 hM; exact nomatch (show (none : Option gM) = some w from hM)
  | succ n ihn => intro x1 x3 x4 x6 hs0 hs1 u w h0 hM; exact fr_X12_divides_b6 hs0 hs1  (fun x1 x3 x4 x6 _ _ hs0 hs1 h0 h => ihn hs0 hs1 h0 h) hM h0
theorem fr_X12_divides {S : Nat → Prop} {u0 u : gM} {x1 : Int64} {x3 : Int32} (hs0 : S 22) (hs1 : S 23)   {w : gM} (hM : X12_divides x1 x3 u = some w) (h0 : off S u0 u) : off S u0 w := by
  unfold X12_divides at hM
  exact fr_X12_divides_l6  fz hs0 hs1 h0 hM
/-! CoverDeskModel.insuresGroup(IIII)V -/
theorem dX12_insuresGroup_0 : decode cX12_insuresGroup 0 = .ok (.iconst 0, 1) := by decide +kernel
theorem dX12_insuresGroup_1 : decode cX12_insuresGroup 1 = .ok (.istore 5, 2) := by decide +kernel
theorem dX12_insuresGroup_3 : decode cX12_insuresGroup 3 = .ok (.iconst 0, 1) := by decide +kernel
theorem dX12_insuresGroup_4 : decode cX12_insuresGroup 4 = .ok (.istore 6, 2) := by decide +kernel
theorem dX12_insuresGroup_6 : decode cX12_insuresGroup 6 = .ok (.iload 6, 2) := by decide +kernel
theorem dX12_insuresGroup_8 : decode cX12_insuresGroup 8 = .ok (.aload_n 0, 1) := by decide +kernel
theorem dX12_insuresGroup_9 : decode cX12_insuresGroup 9 = .ok (.getfield 7, 3) := by decide +kernel
theorem dX12_insuresGroup_12 : decode cX12_insuresGroup 12 = .ok (.iconst 2, 1) := by decide +kernel
theorem dX12_insuresGroup_13 : decode cX12_insuresGroup 13 = .ok (.iaload, 1) := by decide +kernel
theorem dX12_insuresGroup_14 : decode cX12_insuresGroup 14 = .ok (.if_icmp .ge 50, 3) := by decide +kernel
theorem dX12_insuresGroup_17 : decode cX12_insuresGroup 17 = .ok (.aload_n 0, 1) := by decide +kernel
theorem dX12_insuresGroup_18 : decode cX12_insuresGroup 18 = .ok (.iload 6, 2) := by decide +kernel
theorem dX12_insuresGroup_20 : decode cX12_insuresGroup 20 = .ok (.iload_n 1, 1) := by decide +kernel
theorem dX12_insuresGroup_21 : decode cX12_insuresGroup 21 = .ok (.iload_n 2, 1) := by decide +kernel
theorem dX12_insuresGroup_22 : decode cX12_insuresGroup 22 = .ok (.iload_n 3, 1) := by decide +kernel
theorem dX12_insuresGroup_23 : decode cX12_insuresGroup 23 = .ok (.iload 4, 2) := by decide +kernel
theorem dX12_insuresGroup_25 : decode cX12_insuresGroup 25 = .ok (.invokevirtual 328, 3) := by decide +kernel
theorem dX12_insuresGroup_28 : decode cX12_insuresGroup 28 = .ok (.ifCond .ne 6, 3) := by decide +kernel
theorem dX12_insuresGroup_31 : decode cX12_insuresGroup 31 = .ok (.goto 27, 3) := by decide +kernel
theorem dX12_insuresGroup_34 : decode cX12_insuresGroup 34 = .ok (.aload_n 0, 1) := by decide +kernel
theorem dX12_insuresGroup_35 : decode cX12_insuresGroup 35 = .ok (.getfield 81, 3) := by decide +kernel
theorem dX12_insuresGroup_38 : decode cX12_insuresGroup 38 = .ok (.iload 5, 2) := by decide +kernel
theorem dX12_insuresGroup_40 : decode cX12_insuresGroup 40 = .ok (.aload_n 0, 1) := by decide +kernel
theorem dX12_insuresGroup_41 : decode cX12_insuresGroup 41 = .ok (.iload 6, 2) := by decide +kernel
theorem dX12_insuresGroup_43 : decode cX12_insuresGroup 43 = .ok (.aload_n 0, 1) := by decide +kernel
theorem dX12_insuresGroup_44 : decode cX12_insuresGroup 44 = .ok (.iload 6, 2) := by decide +kernel
theorem dX12_insuresGroup_46 : decode cX12_insuresGroup 46 = .ok (.iload_n 1, 1) := by decide +kernel
theorem dX12_insuresGroup_47 : decode cX12_insuresGroup 47 = .ok (.invokevirtual 322, 3) := by decide +kernel
theorem dX12_insuresGroup_50 : decode cX12_insuresGroup 50 = .ok (.invokevirtual 332, 3) := by decide +kernel
theorem dX12_insuresGroup_53 : decode cX12_insuresGroup 53 = .ok (.i2l, 1) := by decide +kernel
theorem dX12_insuresGroup_54 : decode cX12_insuresGroup 54 = .ok (.lastore, 1) := by decide +kernel
theorem dX12_insuresGroup_55 : decode cX12_insuresGroup 55 = .ok (.iinc 5 1, 3) := by decide +kernel
theorem dX12_insuresGroup_58 : decode cX12_insuresGroup 58 = .ok (.iinc 6 1, 3) := by decide +kernel
theorem dX12_insuresGroup_61 : decode cX12_insuresGroup 61 = .ok (.goto (-55), 3) := by decide +kernel
theorem dX12_insuresGroup_64 : decode cX12_insuresGroup 64 = .ok (.iload 5, 2) := by decide +kernel
theorem dX12_insuresGroup_66 : decode cX12_insuresGroup 66 = .ok (.ifCond .ne 4, 3) := by decide +kernel
theorem dX12_insuresGroup_69 : decode cX12_insuresGroup 69 = .ok (.return_, 1) := by decide +kernel
theorem dX12_insuresGroup_70 : decode cX12_insuresGroup 70 = .ok (.aload_n 0, 1) := by decide +kernel
theorem dX12_insuresGroup_71 : decode cX12_insuresGroup 71 = .ok (.aload_n 0, 1) := by decide +kernel
theorem dX12_insuresGroup_72 : decode cX12_insuresGroup 72 = .ok (.iload_n 1, 1) := by decide +kernel
theorem dX12_insuresGroup_73 : decode cX12_insuresGroup 73 = .ok (.iload_n 2, 1) := by decide +kernel
theorem dX12_insuresGroup_74 : decode cX12_insuresGroup 74 = .ok (.iload_n 3, 1) := by decide +kernel
theorem dX12_insuresGroup_75 : decode cX12_insuresGroup 75 = .ok (.iload 4, 2) := by decide +kernel
theorem dX12_insuresGroup_77 : decode cX12_insuresGroup 77 = .ok (.invokevirtual 347, 3) := by decide +kernel
theorem dX12_insuresGroup_80 : decode cX12_insuresGroup 80 = .ok (.iload 5, 2) := by decide +kernel
theorem dX12_insuresGroup_82 : decode cX12_insuresGroup 82 = .ok (.invokevirtual 351, 3) := by decide +kernel
theorem dX12_insuresGroup_85 : decode cX12_insuresGroup 85 = .ok (.iconst 0, 1) := by decide +kernel
theorem dX12_insuresGroup_86 : decode cX12_insuresGroup 86 = .ok (.istore 5, 2) := by decide +kernel
theorem dX12_insuresGroup_88 : decode cX12_insuresGroup 88 = .ok (.iconst 0, 1) := by decide +kernel
theorem dX12_insuresGroup_89 : decode cX12_insuresGroup 89 = .ok (.istore 6, 2) := by decide +kernel
theorem dX12_insuresGroup_91 : decode cX12_insuresGroup 91 = .ok (.iload 6, 2) := by decide +kernel
theorem dX12_insuresGroup_93 : decode cX12_insuresGroup 93 = .ok (.aload_n 0, 1) := by decide +kernel
theorem dX12_insuresGroup_94 : decode cX12_insuresGroup 94 = .ok (.getfield 7, 3) := by decide +kernel
theorem dX12_insuresGroup_97 : decode cX12_insuresGroup 97 = .ok (.iconst 2, 1) := by decide +kernel
theorem dX12_insuresGroup_98 : decode cX12_insuresGroup 98 = .ok (.iaload, 1) := by decide +kernel
theorem dX12_insuresGroup_99 : decode cX12_insuresGroup 99 = .ok (.if_icmp .ge 53, 3) := by decide +kernel
theorem dX12_insuresGroup_102 : decode cX12_insuresGroup 102 = .ok (.aload_n 0, 1) := by decide +kernel
theorem dX12_insuresGroup_103 : decode cX12_insuresGroup 103 = .ok (.iload 6, 2) := by decide +kernel
theorem dX12_insuresGroup_105 : decode cX12_insuresGroup 105 = .ok (.iload_n 1, 1) := by decide +kernel
theorem dX12_insuresGroup_106 : decode cX12_insuresGroup 106 = .ok (.iload_n 2, 1) := by decide +kernel
theorem dX12_insuresGroup_107 : decode cX12_insuresGroup 107 = .ok (.iload_n 3, 1) := by decide +kernel
theorem dX12_insuresGroup_108 : decode cX12_insuresGroup 108 = .ok (.iload 4, 2) := by decide +kernel
theorem dX12_insuresGroup_110 : decode cX12_insuresGroup 110 = .ok (.invokevirtual 328, 3) := by decide +kernel
theorem dX12_insuresGroup_113 : decode cX12_insuresGroup 113 = .ok (.ifCond .ne 6, 3) := by decide +kernel
theorem dX12_insuresGroup_116 : decode cX12_insuresGroup 116 = .ok (.goto 30, 3) := by decide +kernel
theorem dX12_insuresGroup_119 : decode cX12_insuresGroup 119 = .ok (.aload_n 0, 1) := by decide +kernel
theorem dX12_insuresGroup_120 : decode cX12_insuresGroup 120 = .ok (.getfield 90, 3) := by decide +kernel
theorem dX12_insuresGroup_123 : decode cX12_insuresGroup 123 = .ok (.iconst 4, 1) := by decide +kernel
theorem dX12_insuresGroup_124 : decode cX12_insuresGroup 124 = .ok (.iload 6, 2) := by decide +kernel
theorem dX12_insuresGroup_126 : decode cX12_insuresGroup 126 = .ok (.imul, 1) := by decide +kernel
theorem dX12_insuresGroup_127 : decode cX12_insuresGroup 127 = .ok (.aload_n 0, 1) := by decide +kernel
theorem dX12_insuresGroup_128 : decode cX12_insuresGroup 128 = .ok (.iload 6, 2) := by decide +kernel
theorem dX12_insuresGroup_130 : decode cX12_insuresGroup 130 = .ok (.iload_n 1, 1) := by decide +kernel
theorem dX12_insuresGroup_131 : decode cX12_insuresGroup 131 = .ok (.invokevirtual 322, 3) := by decide +kernel
theorem dX12_insuresGroup_134 : decode cX12_insuresGroup 134 = .ok (.iadd, 1) := by decide +kernel
theorem dX12_insuresGroup_135 : decode cX12_insuresGroup 135 = .ok (.aload_n 0, 1) := by decide +kernel
theorem dX12_insuresGroup_136 : decode cX12_insuresGroup 136 = .ok (.getfield 84, 3) := by decide +kernel
theorem dX12_insuresGroup_139 : decode cX12_insuresGroup 139 = .ok (.iload 5, 2) := by decide +kernel
theorem dX12_insuresGroup_141 : decode cX12_insuresGroup 141 = .ok (.laload, 1) := by decide +kernel
theorem dX12_insuresGroup_142 : decode cX12_insuresGroup 142 = .ok (.lastore, 1) := by decide +kernel
theorem dX12_insuresGroup_143 : decode cX12_insuresGroup 143 = .ok (.iinc 5 1, 3) := by decide +kernel
theorem dX12_insuresGroup_146 : decode cX12_insuresGroup 146 = .ok (.iinc 6 1, 3) := by decide +kernel
theorem dX12_insuresGroup_149 : decode cX12_insuresGroup 149 = .ok (.goto (-58), 3) := by decide +kernel
theorem dX12_insuresGroup_152 : decode cX12_insuresGroup 152 = .ok (.return_, 1) := by decide +kernel
def X12_insuresGroup_b146 (k91 : Int32 → Int32 → Int32 → Int32 → Int32 → Int32 → gM → Option gM) (x1 : Int32) (x2 : Int32) (x3 : Int32) (x4 : Int32) (x5 : Int32) (x6 : Int32) (u : gM) : Option gM :=
(k91 x1 x2 x3 x4 x5 (x6 + 1) u)
def X12_insuresGroup_b91 (k91 : Int32 → Int32 → Int32 → Int32 → Int32 → Int32 → gM → Option gM) (x1 : Int32) (x2 : Int32) (x3 : Int32) (x4 : Int32) (x5 : Int32) (x6 : Int32) (u : gM) : Option gM :=
((aI skM u 1 2).bind fun v98 => (if v98 ≤ x6 then some u
  else ((X12_isInGroup u x6 x1 x2 x3 x4).bind fun w110 => (if w110 = 0 then (X12_insuresGroup_b146 k91 x1 x2 x3 x4 x5 x6 u)
    else ((X12_ownerAt u x6 x1).bind fun w131 => ((aJ skM u 22 x5).bind fun v141 => ((sJ skM u 24 ((4 * x6) + w131) v141).bind fun u142 => (X12_insuresGroup_b146 k91 x1 x2 x3 x4 (x5 + 1) x6 u142))))))))
def X12_insuresGroup_l91  : Nat → Int32 → Int32 → Int32 → Int32 → Int32 → Int32 → gM → Option gM
  | 0, _, _, _, _, _, _, _ => none
  | n + 1, x1, x2, x3, x4, x5, x6, u => X12_insuresGroup_b91  (X12_insuresGroup_l91  n) x1 x2 x3 x4 x5 x6 u
def X12_insuresGroup_b58 (k6 : Int32 → Int32 → Int32 → Int32 → Int32 → Int32 → gM → Option gM) (x1 : Int32) (x2 : Int32) (x3 : Int32) (x4 : Int32) (x5 : Int32) (x6 : Int32) (u : gM) : Option gM :=
(k6 x1 x2 x3 x4 x5 (x6 + 1) u)
def X12_insuresGroup_b6 (k6 : Int32 → Int32 → Int32 → Int32 → Int32 → Int32 → gM → Option gM) (x1 : Int32) (x2 : Int32) (x3 : Int32) (x4 : Int32) (x5 : Int32) (x6 : Int32) (u : gM) : Option gM :=
((aI skM u 1 2).bind fun v13 => (if v13 ≤ x6 then (if x5 = 0 then some u
    else ((X12_mostOf x1 x2 x3 x4 u).bind fun w77 => ((X12_divides w77.1 x5 w77.2).bind fun w82 => (X12_insuresGroup_l91 fz x1 x2 x3 x4 0 0 w82))))
  else ((X12_isInGroup u x6 x1 x2 x3 x4).bind fun w25 => (if w25 = 0 then (X12_insuresGroup_b58 k6 x1 x2 x3 x4 x5 x6 u)
    else ((X12_ownerAt u x6 x1).bind fun w47 => ((X12_shareOf u x6 w47).bind fun w50 => ((sJ skM u 21 x5 w50.toInt64).bind fun u54 => (X12_insuresGroup_b58 k6 x1 x2 x3 x4 (x5 + 1) x6 u54))))))))
def X12_insuresGroup_l6  : Nat → Int32 → Int32 → Int32 → Int32 → Int32 → Int32 → gM → Option gM
  | 0, _, _, _, _, _, _, _ => none
  | n + 1, x1, x2, x3, x4, x5, x6, u => X12_insuresGroup_b6  (X12_insuresGroup_l6  n) x1 x2 x3 x4 x5 x6 u
def X12_insuresGroup  (x1 : Int32) (x2 : Int32) (x3 : Int32) (x4 : Int32) (u : gM) : Option gM :=
(X12_insuresGroup_l6 fz x1 x2 x3 x4 0 0 u)
set_option maxRecDepth 20000 in
theorem v_X12_insuresGroup_b146 {κ : gK} {B : Nat} {u : gM} (X : gX κ B skM cX12_insuresGroup 7 RX12 none 5 128) {k91 : Int32 → Int32 → Int32 → Int32 → Int32 → Int32 → gM → Option gM} (ih91 : ∀ (x1 : Int32) (x2 : Int32) (x3 : Int32) (x4 : Int32) (x5 : Int32) (x6 : Int32) (u : gM) (w : gM), k91 x1 x2 x3 x4 x5 x6 u = some w → gV κ B skM 7 ((none), w) 91 [some (.ref (B + 0)), some (.int x1), some (.int x2), some (.int x3), some (.int x4), some (.int x5), some (.int x6)] [] u) {x1 : Int32} {x2 : Int32} {x3 : Int32} {x4 : Int32} {x5 : Int32} {x6 : Int32} {w : gM} (hM : X12_insuresGroup_b146 k91 x1 x2 x3 x4 x5 x6 u = some w) : gV κ B skM 7 ((none), w) 146 [some (.ref (B + 0)), some (.int x1), some (.int x2), some (.int x3), some (.int x4), some (.int x5), some (.int x6)] [] u := by
  unfold X12_insuresGroup_b146 at hM
  refine g_iinc (d := 1) X [some (.ref (B + 0)), some (.int x1), some (.int x2), some (.int x3), some (.int x4), some (.int x5), some (.int (x6 + 1))] dX12_insuresGroup_146 (by decide) rfl (by decide) rfl ?_
  refine g_goto (tgt := 91) X dX12_insuresGroup_149 (by decide) ?_
  refine g_mk [true, true, true, true, true, true, true] [some (.ref (B + 0)), some (.int x1), some (.int x2), some (.int x3), some (.int x4), some (.int x5), some (.int (x6 + 1))] rfl ?_
  exact ih91 x1 x2 x3 x4 x5 (x6 + 1) u _ hM
set_option maxRecDepth 20000 in
theorem v_X12_insuresGroup_b91 {κ : gK} {B : Nat} {u : gM} (X : gX κ B skM cX12_insuresGroup 7 RX12 none 5 128) {k91 : Int32 → Int32 → Int32 → Int32 → Int32 → Int32 → gM → Option gM} (ih91 : ∀ (x1 : Int32) (x2 : Int32) (x3 : Int32) (x4 : Int32) (x5 : Int32) (x6 : Int32) (u : gM) (w : gM), k91 x1 x2 x3 x4 x5 x6 u = some w → gV κ B skM 7 ((none), w) 91 [some (.ref (B + 0)), some (.int x1), some (.int x2), some (.int x3), some (.int x4), some (.int x5), some (.int x6)] [] u) {x1 : Int32} {x2 : Int32} {x3 : Int32} {x4 : Int32} {x5 : Int32} {x6 : Int32} {w : gM} (hM : X12_insuresGroup_b91 k91 x1 x2 x3 x4 x5 x6 u = some w) : gV κ B skM 7 ((none), w) 91 [some (.ref (B + 0)), some (.int x1), some (.int x2), some (.int x3), some (.int x4), some (.int x5), some (.int x6)] [] u := by
  unfold X12_insuresGroup_b91 at hM
  refine g_iload X dX12_insuresGroup_91 rfl ?_
  refine g_aload_n X dX12_insuresGroup_93 rfl ?_
  refine g_getR X fX12_7 cM_0 rfl dX12_insuresGroup_94 ?_
  refine g_iconst X (v := 2) dX12_insuresGroup_97 (by decide) ?_
  obtain ⟨v98, e98, hM⟩ := bind_of hM
  refine g_iaload X e98 dX12_insuresGroup_98 ?_
  refine g_icmp_ge (tgt := 152) X dX12_insuresGroup_99 (by decide) (fun c99 => ?_) (fun c99 => ?_)
  · rw [if_pos c99] at hM
    cases hM
    exact g_vret X dX12_insuresGroup_152
  · rw [if_neg c99] at hM
    refine g_aload_n X dX12_insuresGroup_102 rfl ?_
    refine g_iload X dX12_insuresGroup_103 rfl ?_
    refine g_iload_n X dX12_insuresGroup_105 rfl ?_
    refine g_iload_n X dX12_insuresGroup_106 rfl ?_
    refine g_iload_n X dX12_insuresGroup_107 rfl ?_
    refine g_iload X dX12_insuresGroup_108 rfl ?_
    obtain ⟨w110, e110, hM⟩ := bind_of hM
    refine g_callVi X (fun B adK => [.int x6, .int x1, .int x2, .int x3, .int x4]) (s_X12_isInGroup e110) cvX12_328 cM_0 rfl rfl (Nat.le_of_ble_eq_true rfl) ⟨by decide, by decide⟩ dX12_insuresGroup_110 ?_
    refine g_if_ne (tgt := 119) X dX12_insuresGroup_113 (by decide) (fun c113 => ?_) (fun c113 => ?_)
    · rw [if_neg c113] at hM
      refine g_aload_n X dX12_insuresGroup_119 rfl ?_
      refine g_getR X fX12_90 cM_0 rfl dX12_insuresGroup_120 ?_
      refine g_iconst X (v := 4) dX12_insuresGroup_123 (by decide) ?_
      refine g_iload X dX12_insuresGroup_124 rfl ?_
      refine g_imul X dX12_insuresGroup_126 ?_
      refine g_aload_n X dX12_insuresGroup_127 rfl ?_
      refine g_iload X dX12_insuresGroup_128 rfl ?_
      refine g_iload_n X dX12_insuresGroup_130 rfl ?_
      obtain ⟨w131, e131, hM⟩ := bind_of hM
      refine g_callVi X (fun B adK => [.int x6, .int x1]) (s_X12_ownerAt e131) cvX12_322 cM_0 rfl rfl (Nat.le_of_ble_eq_true rfl) ⟨by decide, by decide⟩ dX12_insuresGroup_131 ?_
      refine g_iadd X dX12_insuresGroup_134 ?_
      refine g_aload_n X dX12_insuresGroup_135 rfl ?_
      refine g_getR X fX12_84 cM_0 rfl dX12_insuresGroup_136 ?_
      refine g_iload X dX12_insuresGroup_139 rfl ?_
      obtain ⟨v141, e141, hM⟩ := bind_of hM
      refine g_laload X e141 dX12_insuresGroup_141 ?_
      obtain ⟨u142, e142, hM⟩ := bind_of hM
      refine g_lastore X e142 dX12_insuresGroup_142 ?_
      refine g_iinc (d := 1) X [some (.ref (B + 0)), some (.int x1), some (.int x2), some (.int x3), some (.int x4), some (.int (x5 + 1)), some (.int x6)] dX12_insuresGroup_143 (by decide) rfl (by decide) rfl ?_
      refine g_mk [true, true, true, true, true, true, true] [some (.ref (B + 0)), some (.int x1), some (.int x2), some (.int x3), some (.int x4), some (.int (x5 + 1)), some (.int x6)] rfl ?_
      exact v_X12_insuresGroup_b146 X ih91 hM
    · rw [if_pos c113] at hM
      refine g_goto (tgt := 146) X dX12_insuresGroup_116 (by decide) ?_
      refine g_mk [true, true, true, true, true, true, true] [some (.ref (B + 0)), some (.int x1), some (.int x2), some (.int x3), some (.int x4), some (.int x5), some (.int x6)] rfl ?_
      exact v_X12_insuresGroup_b146 X ih91 hM
theorem v_X12_insuresGroup_l91 {κ : gK} {B : Nat} (X : gX κ B skM cX12_insuresGroup 7 RX12 none 5 128)   : ∀ (n : Nat) {x1 : Int32} {x2 : Int32} {x3 : Int32} {x4 : Int32} {x5 : Int32} {x6 : Int32} {u : gM} {w : gM} (hM : X12_insuresGroup_l91  n x1 x2 x3 x4 x5 x6 u = some w), gV κ B skM 7 ((none), w) 91 [some (.ref (B + 0)), some (.int x1), some (.int x2), some (.int x3), some (.int x4), some (.int x5), some (.int x6)] [] u := by
  intro n
  induction n with
  | zero => intro x1 x2 x3 x4 x5 x6 u w hM; exact nomatch (show (none : Option gM) = some w from hM)
  | succ n ihn => intro x1 x2 x3 x4 x5 x6 u w hM; exact v_X12_insuresGroup_b91 X  (fun x1 x2 x3 x4 x5 x6 u w h => ihn h) hM
set_option maxRecDepth 20000 in
theorem v_X12_insuresGroup_b58 {κ : gK} {B : Nat} {u : gM} (X : gX κ B skM cX12_insuresGroup 7 RX12 none 5 128) {k6 : Int32 → Int32 → Int32 → Int32 → Int32 → Int32 → gM → Option gM} (ih6 : ∀ (x1 : Int32) (x2 : Int32) (x3 : Int32) (x4 : Int32) (x5 : Int32) (x6 : Int32) (u : gM) (w : gM), k6 x1 x2 x3 x4 x5 x6 u = some w → gV κ B skM 7 ((none), w) 6 [some (.ref (B + 0)), some (.int x1), some (.int x2), some (.int x3), some (.int x4), some (.int x5), some (.int x6)] [] u) {x1 : Int32} {x2 : Int32} {x3 : Int32} {x4 : Int32} {x5 : Int32} {x6 : Int32} {w : gM} (hM : X12_insuresGroup_b58 k6 x1 x2 x3 x4 x5 x6 u = some w) : gV κ B skM 7 ((none), w) 58 [some (.ref (B + 0)), some (.int x1), some (.int x2), some (.int x3), some (.int x4), some (.int x5), some (.int x6)] [] u := by
  unfold X12_insuresGroup_b58 at hM
  refine g_iinc (d := 1) X [some (.ref (B + 0)), some (.int x1), some (.int x2), some (.int x3), some (.int x4), some (.int x5), some (.int (x6 + 1))] dX12_insuresGroup_58 (by decide) rfl (by decide) rfl ?_
  refine g_goto (tgt := 6) X dX12_insuresGroup_61 (by decide) ?_
  refine g_mk [true, true, true, true, true, true, true] [some (.ref (B + 0)), some (.int x1), some (.int x2), some (.int x3), some (.int x4), some (.int x5), some (.int (x6 + 1))] rfl ?_
  exact ih6 x1 x2 x3 x4 x5 (x6 + 1) u _ hM
set_option maxRecDepth 20000 in
theorem v_X12_insuresGroup_b6 {κ : gK} {B : Nat} {u : gM} (X : gX κ B skM cX12_insuresGroup 7 RX12 none 5 128) {k6 : Int32 → Int32 → Int32 → Int32 → Int32 → Int32 → gM → Option gM} (ih6 : ∀ (x1 : Int32) (x2 : Int32) (x3 : Int32) (x4 : Int32) (x5 : Int32) (x6 : Int32) (u : gM) (w : gM), k6 x1 x2 x3 x4 x5 x6 u = some w → gV κ B skM 7 ((none), w) 6 [some (.ref (B + 0)), some (.int x1), some (.int x2), some (.int x3), some (.int x4), some (.int x5), some (.int x6)] [] u) {x1 : Int32} {x2 : Int32} {x3 : Int32} {x4 : Int32} {x5 : Int32} {x6 : Int32} {w : gM} (hM : X12_insuresGroup_b6 k6 x1 x2 x3 x4 x5 x6 u = some w) : gV κ B skM 7 ((none), w) 6 [some (.ref (B + 0)), some (.int x1), some (.int x2), some (.int x3), some (.int x4), some (.int x5), some (.int x6)] [] u := by
  unfold X12_insuresGroup_b6 at hM
  refine g_iload X dX12_insuresGroup_6 rfl ?_
  refine g_aload_n X dX12_insuresGroup_8 rfl ?_
  refine g_getR X fX12_7 cM_0 rfl dX12_insuresGroup_9 ?_
  refine g_iconst X (v := 2) dX12_insuresGroup_12 (by decide) ?_
  obtain ⟨v13, e13, hM⟩ := bind_of hM
  refine g_iaload X e13 dX12_insuresGroup_13 ?_
  refine g_icmp_ge (tgt := 64) X dX12_insuresGroup_14 (by decide) (fun c14 => ?_) (fun c14 => ?_)
  · rw [if_pos c14] at hM
    refine g_iload X dX12_insuresGroup_64 rfl ?_
    refine g_if_ne (tgt := 70) X dX12_insuresGroup_66 (by decide) (fun c66 => ?_) (fun c66 => ?_)
    · rw [if_neg c66] at hM
      refine g_aload_n X dX12_insuresGroup_70 rfl ?_
      refine g_aload_n X dX12_insuresGroup_71 rfl ?_
      refine g_iload_n X dX12_insuresGroup_72 rfl ?_
      refine g_iload_n X dX12_insuresGroup_73 rfl ?_
      refine g_iload_n X dX12_insuresGroup_74 rfl ?_
      refine g_iload X dX12_insuresGroup_75 rfl ?_
      obtain ⟨w77, e77, hM⟩ := bind_of hM
      refine g_callVl X (fun B adK => [.int x1, .int x2, .int x3, .int x4]) (s_X12_mostOf e77) cvX12_347 cM_0 rfl rfl (Nat.le_of_ble_eq_true rfl) ⟨by decide, by decide⟩ dX12_insuresGroup_77 ?_
      refine g_iload X dX12_insuresGroup_80 rfl ?_
      obtain ⟨w82, e82, hM⟩ := bind_of hM
      refine g_callVv X (fun B adK => [.long w77.1, .int x5]) (s_X12_divides e82) cvX12_351 cM_0 rfl rfl (Nat.le_of_ble_eq_true rfl) ⟨by decide, by decide⟩ dX12_insuresGroup_82 ?_
      refine g_iconst X (v := 0) dX12_insuresGroup_85 (by decide) ?_
      refine g_istore X [some (.ref (B + 0)), some (.int x1), some (.int x2), some (.int x3), some (.int x4), some (.int 0), some (.int x6)] dX12_insuresGroup_86 (by decide) rfl ?_
      refine g_iconst X (v := 0) dX12_insuresGroup_88 (by decide) ?_
      refine g_istore X [some (.ref (B + 0)), some (.int x1), some (.int x2), some (.int x3), some (.int x4), some (.int 0), some (.int 0)] dX12_insuresGroup_89 (by decide) rfl ?_
      refine g_mk [true, true, true, true, true, true, true] [some (.ref (B + 0)), some (.int x1), some (.int x2), some (.int x3), some (.int x4), some (.int 0), some (.int 0)] rfl ?_
      exact v_X12_insuresGroup_l91 X  fz hM
    · rw [if_pos c66] at hM
      cases hM
      exact g_vret X dX12_insuresGroup_69
  · rw [if_neg c14] at hM
    refine g_aload_n X dX12_insuresGroup_17 rfl ?_
    refine g_iload X dX12_insuresGroup_18 rfl ?_
    refine g_iload_n X dX12_insuresGroup_20 rfl ?_
    refine g_iload_n X dX12_insuresGroup_21 rfl ?_
    refine g_iload_n X dX12_insuresGroup_22 rfl ?_
    refine g_iload X dX12_insuresGroup_23 rfl ?_
    obtain ⟨w25, e25, hM⟩ := bind_of hM
    refine g_callVi X (fun B adK => [.int x6, .int x1, .int x2, .int x3, .int x4]) (s_X12_isInGroup e25) cvX12_328 cM_0 rfl rfl (Nat.le_of_ble_eq_true rfl) ⟨by decide, by decide⟩ dX12_insuresGroup_25 ?_
    refine g_if_ne (tgt := 34) X dX12_insuresGroup_28 (by decide) (fun c28 => ?_) (fun c28 => ?_)
    · rw [if_neg c28] at hM
      refine g_aload_n X dX12_insuresGroup_34 rfl ?_
      refine g_getR X fX12_81 cM_0 rfl dX12_insuresGroup_35 ?_
      refine g_iload X dX12_insuresGroup_38 rfl ?_
      refine g_aload_n X dX12_insuresGroup_40 rfl ?_
      refine g_iload X dX12_insuresGroup_41 rfl ?_
      refine g_aload_n X dX12_insuresGroup_43 rfl ?_
      refine g_iload X dX12_insuresGroup_44 rfl ?_
      refine g_iload_n X dX12_insuresGroup_46 rfl ?_
      obtain ⟨w47, e47, hM⟩ := bind_of hM
      refine g_callVi X (fun B adK => [.int x6, .int x1]) (s_X12_ownerAt e47) cvX12_322 cM_0 rfl rfl (Nat.le_of_ble_eq_true rfl) ⟨by decide, by decide⟩ dX12_insuresGroup_47 ?_
      obtain ⟨w50, e50, hM⟩ := bind_of hM
      refine g_callVi X (fun B adK => [.int x6, .int w47]) (s_X12_shareOf e50) cvX12_332 cM_0 rfl rfl (Nat.le_of_ble_eq_true rfl) ⟨by decide, by decide⟩ dX12_insuresGroup_50 ?_
      refine g_i2l X dX12_insuresGroup_53 ?_
      obtain ⟨u54, e54, hM⟩ := bind_of hM
      refine g_lastore X e54 dX12_insuresGroup_54 ?_
      refine g_iinc (d := 1) X [some (.ref (B + 0)), some (.int x1), some (.int x2), some (.int x3), some (.int x4), some (.int (x5 + 1)), some (.int x6)] dX12_insuresGroup_55 (by decide) rfl (by decide) rfl ?_
      refine g_mk [true, true, true, true, true, true, true] [some (.ref (B + 0)), some (.int x1), some (.int x2), some (.int x3), some (.int x4), some (.int (x5 + 1)), some (.int x6)] rfl ?_
      exact v_X12_insuresGroup_b58 X ih6 hM
    · rw [if_pos c28] at hM
      refine g_goto (tgt := 58) X dX12_insuresGroup_31 (by decide) ?_
      refine g_mk [true, true, true, true, true, true, true] [some (.ref (B + 0)), some (.int x1), some (.int x2), some (.int x3), some (.int x4), some (.int x5), some (.int x6)] rfl ?_
      exact v_X12_insuresGroup_b58 X ih6 hM
theorem v_X12_insuresGroup_l6 {κ : gK} {B : Nat} (X : gX κ B skM cX12_insuresGroup 7 RX12 none 5 128)   : ∀ (n : Nat) {x1 : Int32} {x2 : Int32} {x3 : Int32} {x4 : Int32} {x5 : Int32} {x6 : Int32} {u : gM} {w : gM} (hM : X12_insuresGroup_l6  n x1 x2 x3 x4 x5 x6 u = some w), gV κ B skM 7 ((none), w) 6 [some (.ref (B + 0)), some (.int x1), some (.int x2), some (.int x3), some (.int x4), some (.int x5), some (.int x6)] [] u := by
  intro n
  induction n with
  | zero => intro x1 x2 x3 x4 x5 x6 u w hM; exact nomatch (show (none : Option gM) = some w from hM)
  | succ n ihn => intro x1 x2 x3 x4 x5 x6 u w hM; exact v_X12_insuresGroup_b6 X  (fun x1 x2 x3 x4 x5 x6 u w h => ihn h) hM
set_option maxRecDepth 20000 in
theorem v_X12_insuresGroup {κ : gK} {B : Nat} {u : gM} (X : gX κ B skM cX12_insuresGroup 7 RX12 none 5 128)   {x1 : Int32} {x2 : Int32} {x3 : Int32} {x4 : Int32} {w : gM} (hM : X12_insuresGroup x1 x2 x3 x4 u = some w) : gV κ B skM 7 ((none), w) 0 [some (.ref (B + 0)), some (.int x1), some (.int x2), some (.int x3), some (.int x4), none, none] [] u := by
  unfold X12_insuresGroup at hM
  refine g_iconst X (v := 0) dX12_insuresGroup_0 (by decide) ?_
  refine g_istore X [some (.ref (B + 0)), some (.int x1), some (.int x2), some (.int x3), some (.int x4), some (.int 0), none] dX12_insuresGroup_1 (by decide) rfl ?_
  refine g_iconst X (v := 0) dX12_insuresGroup_3 (by decide) ?_
  refine g_istore X [some (.ref (B + 0)), some (.int x1), some (.int x2), some (.int x3), some (.int x4), some (.int 0), some (.int 0)] dX12_insuresGroup_4 (by decide) rfl ?_
  refine g_mk [true, true, true, true, true, true, true] [some (.ref (B + 0)), some (.int x1), some (.int x2), some (.int x3), some (.int x4), some (.int 0), some (.int 0)] rfl ?_
  exact v_X12_insuresGroup_l6 X  fz hM
theorem s_X12_insuresGroup {x1 : Int32} {x2 : Int32} {x3 : Int32} {x4 : Int32} {u : gM} {w : gM} (hM : X12_insuresGroup x1 x2 x3 x4 u = some w) : gMet skM yX12_insuresGroup cX12_insuresGroup 7 none 5 128 (fun B adK => [.ref (B + 0), .int x1, .int x2, .int x3, .int x4]) u ((fun _ => none), w) := by
  refine gMet.of (by decide) (fun _ _ => Nat.le_of_ble_eq_true rfl) (fun κ B X => ?_)
  have X : gX κ B skM cX12_insuresGroup 7 RX12 none 5 128 := X
  refine g_mk [true, true, true, true, true, false, false] [some (.ref (B + 0)), some (.int x1), some (.int x2), some (.int x3), some (.int x4), none, none] rfl ?_
  exact v_X12_insuresGroup X  hM
theorem fr_X12_insuresGroup_b146 {S : Nat → Prop} {u0 u : gM} {x1 : Int32} {x2 : Int32} {x3 : Int32} {x4 : Int32} {x5 : Int32} {x6 : Int32} (hs0 : S 24) {k91 : Int32 → Int32 → Int32 → Int32 → Int32 → Int32 → gM → Option gM} (ik91 : ∀ (x1 : Int32) (x2 : Int32) (x3 : Int32) (x4 : Int32) (x5 : Int32) (x6 : Int32) (u : gM) (w : gM), S 24 → off S u0 u → k91 x1 x2 x3 x4 x5 x6 u = some w → off S u0 w) {w : gM} (hM : X12_insuresGroup_b146 k91 x1 x2 x3 x4 x5 x6 u = some w) (h0 : off S u0 u) : off S u0 w := by
  unfold X12_insuresGroup_b146 at hM
  exact ik91 _ _ _ _ _ _ _ _ hs0 h0 hM
theorem fr_X12_insuresGroup_b91 {S : Nat → Prop} {u0 u : gM} {x1 : Int32} {x2 : Int32} {x3 : Int32} {x4 : Int32} {x5 : Int32} {x6 : Int32} (hs0 : S 24) {k91 : Int32 → Int32 → Int32 → Int32 → Int32 → Int32 → gM → Option gM} (ik91 : ∀ (x1 : Int32) (x2 : Int32) (x3 : Int32) (x4 : Int32) (x5 : Int32) (x6 : Int32) (u : gM) (w : gM), S 24 → off S u0 u → k91 x1 x2 x3 x4 x5 x6 u = some w → off S u0 w) {w : gM} (hM : X12_insuresGroup_b91 k91 x1 x2 x3 x4 x5 x6 u = some w) (h0 : off S u0 u) : off S u0 w := by
  unfold X12_insuresGroup_b91 at hM
  obtain ⟨v98, e98, hM⟩ := bind_of hM
  by_cases c99 : v98 ≤ x6
  · rw [if_pos c99] at hM
    cases hM
    exact h0
  · rw [if_neg c99] at hM
    obtain ⟨w110, e110, hM⟩ := bind_of hM
    by_cases c113 : w110 = 0
    · rw [if_pos c113] at hM
      exact fr_X12_insuresGroup_b146 hs0 ik91 hM h0
    · rw [if_neg c113] at hM
      obtain ⟨w131, e131, hM⟩ := bind_of hM
      obtain ⟨v141, e141, hM⟩ := bind_of hM
      obtain ⟨u142, e142, hM⟩ := bind_of hM
      have h0 := off_sJ hs0 e142 h0
      exact fr_X12_insuresGroup_b146 hs0 ik91 hM h0
theorem fr_X12_insuresGroup_l91 {S : Nat → Prop} {u0 : gM}   : ∀ (n : Nat) {x1 : Int32} {x2 : Int32} {x3 : Int32} {x4 : Int32} {x5 : Int32} {x6 : Int32} (hs0 : S 24) {u : gM} {w : gM} (h0 : off S u0 u) (hM : X12_insuresGroup_l91  n x1 x2 x3 x4 x5 x6 u = some w), off S u0 w := by
  intro n
  induction n with
  | zero => intro x1 x2 x3 x4 x5 x6 hs0 u w h0 hM; exact nomatch (show (none : Option gM) = some w from hM)
  | succ n ihn => intro x1 x2 x3 x4 x5 x6 hs0 u w h0 hM; exact fr_X12_insuresGroup_b91 hs0  (fun x1 x2 x3 x4 x5 x6 _ _ hs0 h0 h => ihn hs0 h0 h) hM h0
theorem fr_X12_insuresGroup_b58 {S : Nat → Prop} {u0 u : gM} {x1 : Int32} {x2 : Int32} {x3 : Int32} {x4 : Int32} {x5 : Int32} {x6 : Int32} (hs0 : S 20) (hs1 : S 21) (hs2 : S 22) (hs3 : S 23) (hs4 : S 24) {k6 : Int32 → Int32 → Int32 → Int32 → Int32 → Int32 → gM → Option gM} (ik6 : ∀ (x1 : Int32) (x2 : Int32) (x3 : Int32) (x4 : Int32) (x5 : Int32) (x6 : Int32) (u : gM) (w : gM), S 20 → S 21 → S 22 → S 23 → S 24 → off S u0 u → k6 x1 x2 x3 x4 x5 x6 u = some w → off S u0 w) {w : gM} (hM : X12_insuresGroup_b58 k6 x1 x2 x3 x4 x5 x6 u = some w) (h0 : off S u0 u) : off S u0 w := by
  unfold X12_insuresGroup_b58 at hM
  exact ik6 _ _ _ _ _ _ _ _ hs0 hs1 hs2 hs3 hs4 h0 hM
theorem fr_X12_insuresGroup_b6 {S : Nat → Prop} {u0 u : gM} {x1 : Int32} {x2 : Int32} {x3 : Int32} {x4 : Int32} {x5 : Int32} {x6 : Int32} (hs0 : S 20) (hs1 : S 21) (hs2 : S 22) (hs3 : S 23) (hs4 : S 24) {k6 : Int32 → Int32 → Int32 → Int32 → Int32 → Int32 → gM → Option gM} (ik6 : ∀ (x1 : Int32) (x2 : Int32) (x3 : Int32) (x4 : Int32) (x5 : Int32) (x6 : Int32) (u : gM) (w : gM), S 20 → S 21 → S 22 → S 23 → S 24 → off S u0 u → k6 x1 x2 x3 x4 x5 x6 u = some w → off S u0 w) {w : gM} (hM : X12_insuresGroup_b6 k6 x1 x2 x3 x4 x5 x6 u = some w) (h0 : off S u0 u) : off S u0 w := by
  unfold X12_insuresGroup_b6 at hM
  obtain ⟨v13, e13, hM⟩ := bind_of hM
  by_cases c14 : v13 ≤ x6
  · rw [if_pos c14] at hM
    by_cases c66 : x5 = 0
    · rw [if_pos c66] at hM
      cases hM
      exact h0
    · rw [if_neg c66] at hM
      obtain ⟨w77, e77, hM⟩ := bind_of hM
      have h0 := fr_X12_mostOf hs0 e77 h0
      obtain ⟨w82, e82, hM⟩ := bind_of hM
      have h0 := fr_X12_divides hs2 hs3 e82 h0
      exact fr_X12_insuresGroup_l91  fz hs4 h0 hM
  · rw [if_neg c14] at hM
    obtain ⟨w25, e25, hM⟩ := bind_of hM
    by_cases c28 : w25 = 0
    · rw [if_pos c28] at hM
      exact fr_X12_insuresGroup_b58 hs0 hs1 hs2 hs3 hs4 ik6 hM h0
    · rw [if_neg c28] at hM
      obtain ⟨w47, e47, hM⟩ := bind_of hM
      obtain ⟨w50, e50, hM⟩ := bind_of hM
      obtain ⟨u54, e54, hM⟩ := bind_of hM
      have h0 := off_sJ hs1 e54 h0
      exact fr_X12_insuresGroup_b58 hs0 hs1 hs2 hs3 hs4 ik6 hM h0
theorem fr_X12_insuresGroup_l6 {S : Nat → Prop} {u0 : gM}   : ∀ (n : Nat) {x1 : Int32} {x2 : Int32} {x3 : Int32} {x4 : Int32} {x5 : Int32} {x6 : Int32} (hs0 : S 20) (hs1 : S 21) (hs2 : S 22) (hs3 : S 23) (hs4 : S 24) {u : gM} {w : gM} (h0 : off S u0 u) (hM : X12_insuresGroup_l6  n x1 x2 x3 x4 x5 x6 u = some w), off S u0 w := by
  intro n
  induction n with
  | zero => intro x1 x2 x3 x4 x5 x6 hs0 hs1 hs2 hs3 hs4 u w h0 hM; exact nomatch (show (none : Option gM) = some w from hM)
  | succ n ihn => intro x1 x2 x3 x4 x5 x6 hs0 hs1 hs2 hs3 hs4 u w h0 hM; exact fr_X12_insuresGroup_b6 hs0 hs1 hs2 hs3 hs4  (fun x1 x2 x3 x4 x5 x6 _ _ hs0 hs1 hs2 hs3 hs4 h0 h => ihn hs0 hs1 hs2 hs3 hs4 h0 h) hM h0
theorem fr_X12_insuresGroup {S : Nat → Prop} {u0 u : gM} {x1 : Int32} {x2 : Int32} {x3 : Int32} {x4 : Int32} (hs0 : S 20) (hs1 : S 21) (hs2 : S 22) (hs3 : S 23) (hs4 : S 24)   {w : gM} (hM : X12_insuresGroup x1 x2 x3 x4 u = some w) (h0 : off S u0 u) : off S u0 w := by
  unfold X12_insuresGroup at hM
  exact fr_X12_insuresGroup_l6  fz hs0 hs1 hs2 hs3 hs4 h0 hM
/-! CoverDeskModel.insures(I)V -/
theorem dX12_insures_0 : decode cX12_insures 0 = .ok (.iconst 0, 1) := by decide +kernel
theorem dX12_insures_1 : decode cX12_insures 1 = .ok (.istore_n 2, 1) := by decide +kernel
theorem dX12_insures_2 : decode cX12_insures 2 = .ok (.iload_n 2, 1) := by decide +kernel
theorem dX12_insures_3 : decode cX12_insures 3 = .ok (.aload_n 0, 1) := by decide +kernel
theorem dX12_insures_4 : decode cX12_insures 4 = .ok (.getfield 7, 3) := by decide +kernel
theorem dX12_insures_7 : decode cX12_insures 7 = .ok (.iconst 0, 1) := by decide +kernel
theorem dX12_insures_8 : decode cX12_insures 8 = .ok (.iaload, 1) := by decide +kernel
theorem dX12_insures_9 : decode cX12_insures 9 = .ok (.if_icmp .ge 51, 3) := by decide +kernel
theorem dX12_insures_12 : decode cX12_insures 12 = .ok (.iconst 0, 1) := by decide +kernel
theorem dX12_insures_13 : decode cX12_insures 13 = .ok (.istore_n 3, 1) := by decide +kernel
theorem dX12_insures_14 : decode cX12_insures 14 = .ok (.iload_n 3, 1) := by decide +kernel
theorem dX12_insures_15 : decode cX12_insures 15 = .ok (.iconst 5, 1) := by decide +kernel
theorem dX12_insures_16 : decode cX12_insures 16 = .ok (.if_icmp .ge 38, 3) := by decide +kernel
theorem dX12_insures_19 : decode cX12_insures 19 = .ok (.iconst 0, 1) := by decide +kernel
theorem dX12_insures_20 : decode cX12_insures 20 = .ok (.istore 4, 2) := by decide +kernel
theorem dX12_insures_22 : decode cX12_insures 22 = .ok (.iload 4, 2) := by decide +kernel
theorem dX12_insures_24 : decode cX12_insures 24 = .ok (.aload_n 0, 1) := by decide +kernel
theorem dX12_insures_25 : decode cX12_insures 25 = .ok (.getfield 7, 3) := by decide +kernel
theorem dX12_insures_28 : decode cX12_insures 28 = .ok (.iconst 1, 1) := by decide +kernel
theorem dX12_insures_29 : decode cX12_insures 29 = .ok (.iaload, 1) := by decide +kernel
theorem dX12_insures_30 : decode cX12_insures 30 = .ok (.if_icmp .ge 18, 3) := by decide +kernel
theorem dX12_insures_33 : decode cX12_insures 33 = .ok (.aload_n 0, 1) := by decide +kernel
theorem dX12_insures_34 : decode cX12_insures 34 = .ok (.iload_n 2, 1) := by decide +kernel
theorem dX12_insures_35 : decode cX12_insures 35 = .ok (.iload_n 3, 1) := by decide +kernel
theorem dX12_insures_36 : decode cX12_insures 36 = .ok (.iload 4, 2) := by decide +kernel
theorem dX12_insures_38 : decode cX12_insures 38 = .ok (.iload_n 1, 1) := by decide +kernel
theorem dX12_insures_39 : decode cX12_insures 39 = .ok (.invokevirtual 343, 3) := by decide +kernel
theorem dX12_insures_42 : decode cX12_insures 42 = .ok (.iinc 4 1, 3) := by decide +kernel
theorem dX12_insures_45 : decode cX12_insures 45 = .ok (.goto (-23), 3) := by decide +kernel
theorem dX12_insures_48 : decode cX12_insures 48 = .ok (.iinc 3 1, 3) := by decide +kernel
theorem dX12_insures_51 : decode cX12_insures 51 = .ok (.goto (-37), 3) := by decide +kernel
theorem dX12_insures_54 : decode cX12_insures 54 = .ok (.iinc 2 1, 3) := by decide +kernel
theorem dX12_insures_57 : decode cX12_insures 57 = .ok (.goto (-55), 3) := by decide +kernel
theorem dX12_insures_60 : decode cX12_insures 60 = .ok (.return_, 1) := by decide +kernel
def X12_insures_b22 (k2 : Int32 → Int32 → gM → Option gM) (k14 : Int32 → Int32 → Int32 → gM → Option gM) (k22 : Int32 → Int32 → Int32 → Int32 → gM → Option gM) (x1 : Int32) (x2 : Int32) (x3 : Int32) (x4 : Int32) (u : gM) : Option gM :=
((aI skM u 1 1).bind fun v29 => (if v29 ≤ x4 then (k14 x1 x2 (x3 + 1) u)
  else ((X12_insuresGroup x2 x3 x4 x1 u).bind fun w39 => (k22 x1 x2 x3 (x4 + 1) w39))))
def X12_insures_l22 (k2 : Int32 → Int32 → gM → Option gM) (k14 : Int32 → Int32 → Int32 → gM → Option gM) : Nat → Int32 → Int32 → Int32 → Int32 → gM → Option gM
  | 0, _, _, _, _, _ => none
  | n + 1, x1, x2, x3, x4, u => X12_insures_b22 k2 k14 (X12_insures_l22 k2 k14 n) x1 x2 x3 x4 u
def X12_insures_b14 (k2 : Int32 → Int32 → gM → Option gM) (k14 : Int32 → Int32 → Int32 → gM → Option gM) (x1 : Int32) (x2 : Int32) (x3 : Int32) (u : gM) : Option gM :=
(if 5 ≤ x3 then (k2 x1 (x2 + 1) u)
  else (X12_insures_l22 k2 k14 fz x1 x2 x3 0 u))
def X12_insures_l14 (k2 : Int32 → Int32 → gM → Option gM) : Nat → Int32 → Int32 → Int32 → gM → Option gM
  | 0, _, _, _, _ => none
  | n + 1, x1, x2, x3, u => X12_insures_b14 k2 (X12_insures_l14 k2 n) x1 x2 x3 u
def X12_insures_b2 (k2 : Int32 → Int32 → gM → Option gM) (x1 : Int32) (x2 : Int32) (u : gM) : Option gM :=
((aI skM u 1 0).bind fun v8 => (if v8 ≤ x2 then some u
  else (X12_insures_l14 k2 fz x1 x2 0 u)))
def X12_insures_l2  : Nat → Int32 → Int32 → gM → Option gM
  | 0, _, _, _ => none
  | n + 1, x1, x2, u => X12_insures_b2  (X12_insures_l2  n) x1 x2 u
def X12_insures  (x1 : Int32) (u : gM) : Option gM :=
(X12_insures_l2 fz x1 0 u)
set_option maxRecDepth 20000 in
theorem v_X12_insures_b22 {κ : gK} {B : Nat} {u : gM} (X : gX κ B skM cX12_insures 5 RX12 none 6 154) {k2 : Int32 → Int32 → gM → Option gM} {k14 : Int32 → Int32 → Int32 → gM → Option gM} {k22 : Int32 → Int32 → Int32 → Int32 → gM → Option gM} (ih2 : ∀ (x1 : Int32) (x2 : Int32) (u : gM) (w : gM), k2 x1 x2 u = some w → gV κ B skM 5 ((none), w) 2 [some (.ref (B + 0)), some (.int x1), some (.int x2), none, none] [] u) (ih14 : ∀ (x1 : Int32) (x2 : Int32) (x3 : Int32) (u : gM) (w : gM), k14 x1 x2 x3 u = some w → gV κ B skM 5 ((none), w) 14 [some (.ref (B + 0)), some (.int x1), some (.int x2), some (.int x3), none] [] u) (ih22 : ∀ (x1 : Int32) (x2 : Int32) (x3 : Int32) (x4 : Int32) (u : gM) (w : gM), k22 x1 x2 x3 x4 u = some w → gV κ B skM 5 ((none), w) 22 [some (.ref (B + 0)), some (.int x1), some (.int x2), some (.int x3), some (.int x4)] [] u) {x1 : Int32} {x2 : Int32} {x3 : Int32} {x4 : Int32} {w : gM} (hM : X12_insures_b22 k2 k14 k22 x1 x2 x3 x4 u = some w) : gV κ B skM 5 ((none), w) 22 [some (.ref (B + 0)), some (.int x1), some (.int x2), some (.int x3), some (.int x4)] [] u := by
  unfold X12_insures_b22 at hM
  refine g_iload X dX12_insures_22 rfl ?_
  refine g_aload_n X dX12_insures_24 rfl ?_
  refine g_getR X fX12_7 cM_0 rfl dX12_insures_25 ?_
  refine g_iconst X (v := 1) dX12_insures_28 (by decide) ?_
  obtain ⟨v29, e29, hM⟩ := bind_of hM
  refine g_iaload X e29 dX12_insures_29 ?_
  refine g_icmp_ge (tgt := 48) X dX12_insures_30 (by decide) (fun c30 => ?_) (fun c30 => ?_)
  · rw [if_pos c30] at hM
    refine g_iinc (d := 1) X [some (.ref (B + 0)), some (.int x1), some (.int x2), some (.int (x3 + 1)), some (.int x4)] dX12_insures_48 (by decide) rfl (by decide) rfl ?_
    refine g_goto (tgt := 14) X dX12_insures_51 (by decide) ?_
    refine g_mk [true, true, true, true, false] [some (.ref (B + 0)), some (.int x1), some (.int x2), some (.int (x3 + 1)), none] rfl ?_
    exact ih14 x1 x2 (x3 + 1) u _ hM
  · rw [if_neg c30] at hM
    refine g_aload_n X dX12_insures_33 rfl ?_
    refine g_iload_n X dX12_insures_34 rfl ?_
    refine g_iload_n X dX12_insures_35 rfl ?_
    refine g_iload X dX12_insures_36 rfl ?_
    refine g_iload_n X dX12_insures_38 rfl ?_
    obtain ⟨w39, e39, hM⟩ := bind_of hM
    refine g_callVv X (fun B adK => [.int x2, .int x3, .int x4, .int x1]) (s_X12_insuresGroup e39) cvX12_343 cM_0 rfl rfl (Nat.le_of_ble_eq_true rfl) ⟨by decide, by decide⟩ dX12_insures_39 ?_
    refine g_iinc (d := 1) X [some (.ref (B + 0)), some (.int x1), some (.int x2), some (.int x3), some (.int (x4 + 1))] dX12_insures_42 (by decide) rfl (by decide) rfl ?_
    refine g_goto (tgt := 22) X dX12_insures_45 (by decide) ?_
    refine g_mk [true, true, true, true, true] [some (.ref (B + 0)), some (.int x1), some (.int x2), some (.int x3), some (.int (x4 + 1))] rfl ?_
    exact ih22 x1 x2 x3 (x4 + 1) w39 _ hM
theorem v_X12_insures_l22 {κ : gK} {B : Nat} (X : gX κ B skM cX12_insures 5 RX12 none 6 154) {k2 : Int32 → Int32 → gM → Option gM} {k14 : Int32 → Int32 → Int32 → gM → Option gM} (ih2 : ∀ (x1 : Int32) (x2 : Int32) (u : gM) (w : gM), k2 x1 x2 u = some w → gV κ B skM 5 ((none), w) 2 [some (.ref (B + 0)), some (.int x1), some (.int x2), none, none] [] u) (ih14 : ∀ (x1 : Int32) (x2 : Int32) (x3 : Int32) (u : gM) (w : gM), k14 x1 x2 x3 u = some w → gV κ B skM 5 ((none), w) 14 [some (.ref (B + 0)), some (.int x1), some (.int x2), some (.int x3), none] [] u) : ∀ (n : Nat) {x1 : Int32} {x2 : Int32} {x3 : Int32} {x4 : Int32} {u : gM} {w : gM} (hM : X12_insures_l22 k2 k14 n x1 x2 x3 x4 u = some w), gV κ B skM 5 ((none), w) 22 [some (.ref (B + 0)), some (.int x1), some (.int x2), some (.int x3), some (.int x4)] [] u := by
  intro n
  induction n with
  | zero => intro x1 x2 x3 x4 u w hM; exact nomatch (show (none : Option gM) = some w from hM)
  | succ n ihn => intro x1 x2 x3 x4 u w hM; exact v_X12_insures_b22 X ih2 ih14 (fun x1 x2 x3 x4 u w h => ihn h) hM
set_option maxRecDepth 20000 in
theorem v_X12_insures_b14 {κ : gK} {B : Nat} {u : gM} (X : gX κ B skM cX12_insures 5 RX12 none 6 154) {k2 : Int32 → Int32 → gM → Option gM} {k14 : Int32 → Int32 → Int32 → gM → Option gM} (ih2 : ∀ (x1 : Int32) (x2 : Int32) (u : gM) (w : gM), k2 x1 x2 u = some w → gV κ B skM 5 ((none), w) 2 [some (.ref (B + 0)), some (.int x1), some (.int x2), none, none] [] u) (ih14 : ∀ (x1 : Int32) (x2 : Int32) (x3 : Int32) (u : gM) (w : gM), k14 x1 x2 x3 u = some w → gV κ B skM 5 ((none), w) 14 [some (.ref (B + 0)), some (.int x1), some (.int x2), some (.int x3), none] [] u) {x1 : Int32} {x2 : Int32} {x3 : Int32} {w : gM} (hM : X12_insures_b14 k2 k14 x1 x2 x3 u = some w) : gV κ B skM 5 ((none), w) 14 [some (.ref (B + 0)), some (.int x1), some (.int x2), some (.int x3), none] [] u := by
  unfold X12_insures_b14 at hM
  refine g_iload_n X dX12_insures_14 rfl ?_
  refine g_iconst X (v := 5) dX12_insures_15 (by decide) ?_
  refine g_icmp_ge (tgt := 54) X dX12_insures_16 (by decide) (fun c16 => ?_) (fun c16 => ?_)
  · rw [if_pos c16] at hM
    refine g_iinc (d := 1) X [some (.ref (B + 0)), some (.int x1), some (.int (x2 + 1)), some (.int x3), none] dX12_insures_54 (by decide) rfl (by decide) rfl ?_
    refine g_goto (tgt := 2) X dX12_insures_57 (by decide) ?_
    refine g_mk [true, true, true, false, false] [some (.ref (B + 0)), some (.int x1), some (.int (x2 + 1)), none, none] rfl ?_
    exact ih2 x1 (x2 + 1) u _ hM
  · rw [if_neg c16] at hM
    refine g_iconst X (v := 0) dX12_insures_19 (by decide) ?_
    refine g_istore X [some (.ref (B + 0)), some (.int x1), some (.int x2), some (.int x3), some (.int 0)] dX12_insures_20 (by decide) rfl ?_
    refine g_mk [true, true, true, true, true] [some (.ref (B + 0)), some (.int x1), some (.int x2), some (.int x3), some (.int 0)] rfl ?_
    exact v_X12_insures_l22 X ih2 ih14 fz hM
theorem v_X12_insures_l14 {κ : gK} {B : Nat} (X : gX κ B skM cX12_insures 5 RX12 none 6 154) {k2 : Int32 → Int32 → gM → Option gM} (ih2 : ∀ (x1 : Int32) (x2 : Int32) (u : gM) (w : gM), k2 x1 x2 u = some w → gV κ B skM 5 ((none), w) 2 [some (.ref (B + 0)), some (.int x1), some (.int x2), none, none] [] u) : ∀ (n : Nat) {x1 : Int32} {x2 : Int32} {x3 : Int32} {u : gM} {w : gM} (hM : X12_insures_l14 k2 n x1 x2 x3 u = some w), gV κ B skM 5 ((none), w) 14 [some (.ref (B + 0)), some (.int x1), some (.int x2), some (.int x3), none] [] u := by
  intro n
  induction n with
  | zero => intro x1 x2 x3 u w hM; exact nomatch (show (none : Option gM) = some w from hM)
  | succ n ihn => intro x1 x2 x3 u w hM; exact v_X12_insures_b14 X ih2 (fun x1 x2 x3 u w h => ihn h) hM
set_option maxRecDepth 20000 in
theorem v_X12_insures_b2 {κ : gK} {B : Nat} {u : gM} (X : gX κ B skM cX12_insures 5 RX12 none 6 154) {k2 : Int32 → Int32 → gM → Option gM} (ih2 : ∀ (x1 : Int32) (x2 : Int32) (u : gM) (w : gM), k2 x1 x2 u = some w → gV κ B skM 5 ((none), w) 2 [some (.ref (B + 0)), some (.int x1), some (.int x2), none, none] [] u) {x1 : Int32} {x2 : Int32} {w : gM} (hM : X12_insures_b2 k2 x1 x2 u = some w) : gV κ B skM 5 ((none), w) 2 [some (.ref (B + 0)), some (.int x1), some (.int x2), none, none] [] u := by
  unfold X12_insures_b2 at hM
  refine g_iload_n X dX12_insures_2 rfl ?_
  refine g_aload_n X dX12_insures_3 rfl ?_
  refine g_getR X fX12_7 cM_0 rfl dX12_insures_4 ?_
  refine g_iconst X (v := 0) dX12_insures_7 (by decide) ?_
  obtain ⟨v8, e8, hM⟩ := bind_of hM
  refine g_iaload X e8 dX12_insures_8 ?_
  refine g_icmp_ge (tgt := 60) X dX12_insures_9 (by decide) (fun c9 => ?_) (fun c9 => ?_)
  · rw [if_pos c9] at hM
    cases hM
    exact g_vret X dX12_insures_60
  · rw [if_neg c9] at hM
    refine g_iconst X (v := 0) dX12_insures_12 (by decide) ?_
    refine g_istore_n X [some (.ref (B + 0)), some (.int x1), some (.int x2), some (.int 0), none] dX12_insures_13 (by decide) rfl ?_
    refine g_mk [true, true, true, true, false] [some (.ref (B + 0)), some (.int x1), some (.int x2), some (.int 0), none] rfl ?_
    exact v_X12_insures_l14 X ih2 fz hM
theorem v_X12_insures_l2 {κ : gK} {B : Nat} (X : gX κ B skM cX12_insures 5 RX12 none 6 154)   : ∀ (n : Nat) {x1 : Int32} {x2 : Int32} {u : gM} {w : gM} (hM : X12_insures_l2  n x1 x2 u = some w), gV κ B skM 5 ((none), w) 2 [some (.ref (B + 0)), some (.int x1), some (.int x2), none, none] [] u := by
  intro n
  induction n with
  | zero => intro x1 x2 u w hM; exact nomatch (show (none : Option gM) = some w from hM)
  | succ n ihn => intro x1 x2 u w hM; exact v_X12_insures_b2 X  (fun x1 x2 u w h => ihn h) hM
set_option maxRecDepth 20000 in
theorem v_X12_insures {κ : gK} {B : Nat} {u : gM} (X : gX κ B skM cX12_insures 5 RX12 none 6 154)   {x1 : Int32} {w : gM} (hM : X12_insures x1 u = some w) : gV κ B skM 5 ((none), w) 0 [some (.ref (B + 0)), some (.int x1), none, none, none] [] u := by
  unfold X12_insures at hM
  refine g_iconst X (v := 0) dX12_insures_0 (by decide) ?_
  refine g_istore_n X [some (.ref (B + 0)), some (.int x1), some (.int 0), none, none] dX12_insures_1 (by decide) rfl ?_
  refine g_mk [true, true, true, false, false] [some (.ref (B + 0)), some (.int x1), some (.int 0), none, none] rfl ?_
  exact v_X12_insures_l2 X  fz hM
theorem s_X12_insures {x1 : Int32} {u : gM} {w : gM} (hM : X12_insures x1 u = some w) : gMet skM yX12_insures cX12_insures 5 none 6 154 (fun B adK => [.ref (B + 0), .int x1]) u ((fun _ => none), w) := by
  refine gMet.of (by decide) (fun _ _ => Nat.le_of_ble_eq_true rfl) (fun κ B X => ?_)
  have X : gX κ B skM cX12_insures 5 RX12 none 6 154 := X
  refine g_mk [true, true, false, false, false] [some (.ref (B + 0)), some (.int x1), none, none, none] rfl ?_
  exact v_X12_insures X  hM
theorem fr_X12_insures_b22 {S : Nat → Prop} {u0 u : gM} {x1 : Int32} {x2 : Int32} {x3 : Int32} {x4 : Int32} (hs0 : S 20) (hs1 : S 21) (hs2 : S 22) (hs3 : S 23) (hs4 : S 24) {k2 : Int32 → Int32 → gM → Option gM} {k14 : Int32 → Int32 → Int32 → gM → Option gM} {k22 : Int32 → Int32 → Int32 → Int32 → gM → Option gM} (ik2 : ∀ (x1 : Int32) (x2 : Int32) (u : gM) (w : gM), S 20 → S 21 → S 22 → S 23 → S 24 → off S u0 u → k2 x1 x2 u = some w → off S u0 w) (ik14 : ∀ (x1 : Int32) (x2 : Int32) (x3 : Int32) (u : gM) (w : gM), S 20 → S 21 → S 22 → S 23 → S 24 → off S u0 u → k14 x1 x2 x3 u = some w → off S u0 w) (ik22 : ∀ (x1 : Int32) (x2 : Int32) (x3 : Int32) (x4 : Int32) (u : gM) (w : gM), S 20 → S 21 → S 22 → S 23 → S 24 → off S u0 u → k22 x1 x2 x3 x4 u = some w → off S u0 w) {w : gM} (hM : X12_insures_b22 k2 k14 k22 x1 x2 x3 x4 u = some w) (h0 : off S u0 u) : off S u0 w := by
  unfold X12_insures_b22 at hM
  obtain ⟨v29, e29, hM⟩ := bind_of hM
  by_cases c30 : v29 ≤ x4
  · rw [if_pos c30] at hM
    exact ik14 _ _ _ _ _ hs0 hs1 hs2 hs3 hs4 h0 hM
  · rw [if_neg c30] at hM
    obtain ⟨w39, e39, hM⟩ := bind_of hM
    have h0 := fr_X12_insuresGroup hs0 hs1 hs2 hs3 hs4 e39 h0
    exact ik22 _ _ _ _ _ _ hs0 hs1 hs2 hs3 hs4 h0 hM
theorem fr_X12_insures_l22 {S : Nat → Prop} {u0 : gM} {k2 : Int32 → Int32 → gM → Option gM} {k14 : Int32 → Int32 → Int32 → gM → Option gM} (ik2 : ∀ (x1 : Int32) (x2 : Int32) (u : gM) (w : gM), S 20 → S 21 → S 22 → S 23 → S 24 → off S u0 u → k2 x1 x2 u = some w → off S u0 w) (ik14 : ∀ (x1 : Int32) (x2 : Int32) (x3 : Int32) (u : gM) (w : gM), S 20 → S 21 → S 22 → S 23 → S 24 → off S u0 u → k14 x1 x2 x3 u = some w → off S u0 w) : ∀ (n : Nat) {x1 : Int32} {x2 : Int32} {x3 : Int32} {x4 : Int32} (hs0 : S 20) (hs1 : S 21) (hs2 : S 22) (hs3 : S 23) (hs4 : S 24) {u : gM} {w : gM} (h0 : off S u0 u) (hM : X12_insures_l22 k2 k14 n x1 x2 x3 x4 u = some w), off S u0 w := by
  intro n
  induction n with
  | zero => intro x1 x2 x3 x4 hs0 hs1 hs2 hs3 hs4 u w h0 hM; exact nomatch (show (none : Option gM) = some w from hM)
  | succ n ihn => intro x1 x2 x3 x4 hs0 hs1 hs2 hs3 hs4 u w h0 hM; exact fr_X12_insures_b22 hs0 hs1 hs2 hs3 hs4 ik2 ik14 (fun x1 x2 x3 x4 _ _ hs0 hs1 hs2 hs3 hs4 h0 h => ihn hs0 hs1 hs2 hs3 hs4 h0 h) hM h0
theorem fr_X12_insures_b14 {S : Nat → Prop} {u0 u : gM} {x1 : Int32} {x2 : Int32} {x3 : Int32} (hs0 : S 20) (hs1 : S 21) (hs2 : S 22) (hs3 : S 23) (hs4 : S 24) {k2 : Int32 → Int32 → gM → Option gM} {k14 : Int32 → Int32 → Int32 → gM → Option gM} (ik2 : ∀ (x1 : Int32) (x2 : Int32) (u : gM) (w : gM), S 20 → S 21 → S 22 → S 23 → S 24 → off S u0 u → k2 x1 x2 u = some w → off S u0 w) (ik14 : ∀ (x1 : Int32) (x2 : Int32) (x3 : Int32) (u : gM) (w : gM), S 20 → S 21 → S 22 → S 23 → S 24 → off S u0 u → k14 x1 x2 x3 u = some w → off S u0 w) {w : gM} (hM : X12_insures_b14 k2 k14 x1 x2 x3 u = some w) (h0 : off S u0 u) : off S u0 w := by
  unfold X12_insures_b14 at hM
  by_cases c16 : 5 ≤ x3
  · rw [if_pos c16] at hM
    exact ik2 _ _ _ _ hs0 hs1 hs2 hs3 hs4 h0 hM
  · rw [if_neg c16] at hM
    exact fr_X12_insures_l22 ik2 ik14 fz hs0 hs1 hs2 hs3 hs4 h0 hM
theorem fr_X12_insures_l14 {S : Nat → Prop} {u0 : gM} {k2 : Int32 → Int32 → gM → Option gM} (ik2 : ∀ (x1 : Int32) (x2 : Int32) (u : gM) (w : gM), S 20 → S 21 → S 22 → S 23 → S 24 → off S u0 u → k2 x1 x2 u = some w → off S u0 w) : ∀ (n : Nat) {x1 : Int32} {x2 : Int32} {x3 : Int32} (hs0 : S 20) (hs1 : S 21) (hs2 : S 22) (hs3 : S 23) (hs4 : S 24) {u : gM} {w : gM} (h0 : off S u0 u) (hM : X12_insures_l14 k2 n x1 x2 x3 u = some w), off S u0 w := by
  intro n
  induction n with
  | zero => intro x1 x2 x3 hs0 hs1 hs2 hs3 hs4 u w h0 hM; exact nomatch (show (none : Option gM) = some w from hM)
  | succ n ihn => intro x1 x2 x3 hs0 hs1 hs2 hs3 hs4 u w h0 hM; exact fr_X12_insures_b14 hs0 hs1 hs2 hs3 hs4 ik2 (fun x1 x2 x3 _ _ hs0 hs1 hs2 hs3 hs4 h0 h => ihn hs0 hs1 hs2 hs3 hs4 h0 h) hM h0
theorem fr_X12_insures_b2 {S : Nat → Prop} {u0 u : gM} {x1 : Int32} {x2 : Int32} (hs0 : S 20) (hs1 : S 21) (hs2 : S 22) (hs3 : S 23) (hs4 : S 24) {k2 : Int32 → Int32 → gM → Option gM} (ik2 : ∀ (x1 : Int32) (x2 : Int32) (u : gM) (w : gM), S 20 → S 21 → S 22 → S 23 → S 24 → off S u0 u → k2 x1 x2 u = some w → off S u0 w) {w : gM} (hM : X12_insures_b2 k2 x1 x2 u = some w) (h0 : off S u0 u) : off S u0 w := by
  unfold X12_insures_b2 at hM
  obtain ⟨v8, e8, hM⟩ := bind_of hM
  by_cases c9 : v8 ≤ x2
  · rw [if_pos c9] at hM
    cases hM
    exact h0
  · rw [if_neg c9] at hM
    exact fr_X12_insures_l14 ik2 fz hs0 hs1 hs2 hs3 hs4 h0 hM
theorem fr_X12_insures_l2 {S : Nat → Prop} {u0 : gM}   : ∀ (n : Nat) {x1 : Int32} {x2 : Int32} (hs0 : S 20) (hs1 : S 21) (hs2 : S 22) (hs3 : S 23) (hs4 : S 24) {u : gM} {w : gM} (h0 : off S u0 u) (hM : X12_insures_l2  n x1 x2 u = some w), off S u0 w := by
  intro n
  induction n with
  | zero => intro x1 x2 hs0 hs1 hs2 hs3 hs4 u w h0 hM; exact nomatch (show (none : Option gM) = some w from hM)
  | succ n ihn => intro x1 x2 hs0 hs1 hs2 hs3 hs4 u w h0 hM; exact fr_X12_insures_b2 hs0 hs1 hs2 hs3 hs4  (fun x1 x2 _ _ hs0 hs1 hs2 hs3 hs4 h0 h => ihn hs0 hs1 hs2 hs3 hs4 h0 h) hM h0
theorem fr_X12_insures {S : Nat → Prop} {u0 u : gM} {x1 : Int32} (hs0 : S 20) (hs1 : S 21) (hs2 : S 22) (hs3 : S 23) (hs4 : S 24)   {w : gM} (hM : X12_insures x1 u = some w) (h0 : off S u0 u) : off S u0 w := by
  unfold X12_insures at hM
  exact fr_X12_insures_l2  fz hs0 hs1 hs2 hs3 hs4 h0 hM
/-! CoverDeskModel.insuredIn(I)J -/
theorem dX12_insuredIn_0 : decode cX12_insuredIn 0 = .ok (.aload_n 0, 1) := by decide +kernel
theorem dX12_insuredIn_1 : decode cX12_insuredIn 1 = .ok (.aload_n 0, 1) := by decide +kernel
theorem dX12_insuredIn_2 : decode cX12_insuredIn 2 = .ok (.getfield 56, 3) := by decide +kernel
theorem dX12_insuredIn_5 : decode cX12_insuredIn 5 = .ok (.iconst 0, 1) := by decide +kernel
theorem dX12_insuredIn_6 : decode cX12_insuredIn 6 = .ok (.iaload, 1) := by decide +kernel
theorem dX12_insuredIn_7 : decode cX12_insuredIn 7 = .ok (.invokevirtual 380, 3) := by decide +kernel
theorem dX12_insuredIn_10 : decode cX12_insuredIn 10 = .ok (.lconst 0, 1) := by decide +kernel
theorem dX12_insuredIn_11 : decode cX12_insuredIn 11 = .ok (.lstore_n 2, 1) := by decide +kernel
theorem dX12_insuredIn_12 : decode cX12_insuredIn 12 = .ok (.iconst 0, 1) := by decide +kernel
theorem dX12_insuredIn_13 : decode cX12_insuredIn 13 = .ok (.istore 4, 2) := by decide +kernel
theorem dX12_insuredIn_15 : decode cX12_insuredIn 15 = .ok (.iload 4, 2) := by decide +kernel
theorem dX12_insuredIn_17 : decode cX12_insuredIn 17 = .ok (.aload_n 0, 1) := by decide +kernel
theorem dX12_insuredIn_18 : decode cX12_insuredIn 18 = .ok (.getfield 29, 3) := by decide +kernel
theorem dX12_insuredIn_21 : decode cX12_insuredIn 21 = .ok (.iload_n 1, 1) := by decide +kernel
theorem dX12_insuredIn_22 : decode cX12_insuredIn 22 = .ok (.iaload, 1) := by decide +kernel
theorem dX12_insuredIn_23 : decode cX12_insuredIn 23 = .ok (.if_icmp .ge 23, 3) := by decide +kernel
theorem dX12_insuredIn_26 : decode cX12_insuredIn 26 = .ok (.lload_n 2, 1) := by decide +kernel
theorem dX12_insuredIn_27 : decode cX12_insuredIn 27 = .ok (.aload_n 0, 1) := by decide +kernel
theorem dX12_insuredIn_28 : decode cX12_insuredIn 28 = .ok (.getfield 90, 3) := by decide +kernel
theorem dX12_insuredIn_31 : decode cX12_insuredIn 31 = .ok (.iconst 4, 1) := by decide +kernel
theorem dX12_insuredIn_32 : decode cX12_insuredIn 32 = .ok (.iload_n 1, 1) := by decide +kernel
theorem dX12_insuredIn_33 : decode cX12_insuredIn 33 = .ok (.imul, 1) := by decide +kernel
theorem dX12_insuredIn_34 : decode cX12_insuredIn 34 = .ok (.iload 4, 2) := by decide +kernel
theorem dX12_insuredIn_36 : decode cX12_insuredIn 36 = .ok (.iadd, 1) := by decide +kernel
theorem dX12_insuredIn_37 : decode cX12_insuredIn 37 = .ok (.laload, 1) := by decide +kernel
theorem dX12_insuredIn_38 : decode cX12_insuredIn 38 = .ok (.ladd, 1) := by decide +kernel
theorem dX12_insuredIn_39 : decode cX12_insuredIn 39 = .ok (.lstore_n 2, 1) := by decide +kernel
theorem dX12_insuredIn_40 : decode cX12_insuredIn 40 = .ok (.iinc 4 1, 3) := by decide +kernel
theorem dX12_insuredIn_43 : decode cX12_insuredIn 43 = .ok (.goto (-28), 3) := by decide +kernel
theorem dX12_insuredIn_46 : decode cX12_insuredIn 46 = .ok (.lload_n 2, 1) := by decide +kernel
theorem dX12_insuredIn_47 : decode cX12_insuredIn 47 = .ok (.lreturn, 1) := by decide +kernel
def X12_insuredIn_b15 (k15 : Int32 → Int64 → Int32 → gM → Option (Int64 × gM)) (x1 : Int32) (x2 : Int64) (x4 : Int32) (u : gM) : Option (Int64 × gM) :=
((aI skM u 7 x1).bind fun v22 => (if v22 ≤ x4 then some (x2, u)
  else ((aJ skM u 24 ((4 * x1) + x4)).bind fun v37 => (k15 x1 (x2 + v37) (x4 + 1) u))))
def X12_insuredIn_l15  : Nat → Int32 → Int64 → Int32 → gM → Option (Int64 × gM)
  | 0, _, _, _, _ => none
  | n + 1, x1, x2, x4, u => X12_insuredIn_b15  (X12_insuredIn_l15  n) x1 x2 x4 u
def X12_insuredIn  (x1 : Int32) (u : gM) : Option (Int64 × gM) :=
((aI skM u 16 0).bind fun v6 => ((X12_insures v6 u).bind fun w7 => (X12_insuredIn_l15 fz x1 0 0 w7)))
set_option maxRecDepth 20000 in
theorem v_X12_insuredIn_b15 {κ : gK} {B : Nat} {u : gM} (X : gX κ B skM cX12_insuredIn 5 RX12 (some .long) 7 178) {k15 : Int32 → Int64 → Int32 → gM → Option (Int64 × gM)} (ih15 : ∀ (x1 : Int32) (x2 : Int64) (x4 : Int32) (u : gM) (w : (Int64 × gM)), k15 x1 x2 x4 u = some w → gV κ B skM 5 ((some (.long w.1)), w.2) 15 [some (.ref (B + 0)), some (.int x1), some (.long x2), none, some (.int x4)] [] u) {x1 : Int32} {x2 : Int64} {x4 : Int32} {w : (Int64 × gM)} (hM : X12_insuredIn_b15 k15 x1 x2 x4 u = some w) : gV κ B skM 5 ((some (.long w.1)), w.2) 15 [some (.ref (B + 0)), some (.int x1), some (.long x2), none, some (.int x4)] [] u := by
  unfold X12_insuredIn_b15 at hM
  refine g_iload X dX12_insuredIn_15 rfl ?_
  refine g_aload_n X dX12_insuredIn_17 rfl ?_
  refine g_getR X fX12_29 cM_0 rfl dX12_insuredIn_18 ?_
  refine g_iload_n X dX12_insuredIn_21 rfl ?_
  obtain ⟨v22, e22, hM⟩ := bind_of hM
  refine g_iaload X e22 dX12_insuredIn_22 ?_
  refine g_icmp_ge (tgt := 46) X dX12_insuredIn_23 (by decide) (fun c23 => ?_) (fun c23 => ?_)
  · rw [if_pos c23] at hM
    refine g_lload_n X dX12_insuredIn_46 rfl ?_
    cases hM
    exact g_lret X dX12_insuredIn_47
  · rw [if_neg c23] at hM
    refine g_lload_n X dX12_insuredIn_26 rfl ?_
    refine g_aload_n X dX12_insuredIn_27 rfl ?_
    refine g_getR X fX12_90 cM_0 rfl dX12_insuredIn_28 ?_
    refine g_iconst X (v := 4) dX12_insuredIn_31 (by decide) ?_
    refine g_iload_n X dX12_insuredIn_32 rfl ?_
    refine g_imul X dX12_insuredIn_33 ?_
    refine g_iload X dX12_insuredIn_34 rfl ?_
    refine g_iadd X dX12_insuredIn_36 ?_
    obtain ⟨v37, e37, hM⟩ := bind_of hM
    refine g_laload X e37 dX12_insuredIn_37 ?_
    refine g_ladd X dX12_insuredIn_38 ?_
    refine g_lstore_n X [some (.ref (B + 0)), some (.int x1), some (.long (x2 + v37)), none, some (.int x4)] dX12_insuredIn_39 (by decide) rfl ?_
    refine g_iinc (d := 1) X [some (.ref (B + 0)), some (.int x1), some (.long (x2 + v37)), none, some (.int (x4 + 1))] dX12_insuredIn_40 (by decide) rfl (by decide) rfl ?_
    refine g_goto (tgt := 15) X dX12_insuredIn_43 (by decide) ?_
    refine g_mk [true, true, true, false, true] [some (.ref (B + 0)), some (.int x1), some (.long (x2 + v37)), none, some (.int (x4 + 1))] rfl ?_
    exact ih15 x1 (x2 + v37) (x4 + 1) u _ hM
theorem v_X12_insuredIn_l15 {κ : gK} {B : Nat} (X : gX κ B skM cX12_insuredIn 5 RX12 (some .long) 7 178)   : ∀ (n : Nat) {x1 : Int32} {x2 : Int64} {x4 : Int32} {u : gM} {w : (Int64 × gM)} (hM : X12_insuredIn_l15  n x1 x2 x4 u = some w), gV κ B skM 5 ((some (.long w.1)), w.2) 15 [some (.ref (B + 0)), some (.int x1), some (.long x2), none, some (.int x4)] [] u := by
  intro n
  induction n with
  | zero => intro x1 x2 x4 u w hM; exact nomatch (show (none : Option (Int64 × gM)) = some w from hM)
  | succ n ihn => intro x1 x2 x4 u w hM; exact v_X12_insuredIn_b15 X  (fun x1 x2 x4 u w h => ihn h) hM
set_option maxRecDepth 20000 in
theorem v_X12_insuredIn {κ : gK} {B : Nat} {u : gM} (X : gX κ B skM cX12_insuredIn 5 RX12 (some .long) 7 178)   {x1 : Int32} {w : (Int64 × gM)} (hM : X12_insuredIn x1 u = some w) : gV κ B skM 5 ((some (.long w.1)), w.2) 0 [some (.ref (B + 0)), some (.int x1), none, none, none] [] u := by
  unfold X12_insuredIn at hM
  refine g_aload_n X dX12_insuredIn_0 rfl ?_
  refine g_aload_n X dX12_insuredIn_1 rfl ?_
  refine g_getR X fX12_56 cM_0 rfl dX12_insuredIn_2 ?_
  refine g_iconst X (v := 0) dX12_insuredIn_5 (by decide) ?_
  obtain ⟨v6, e6, hM⟩ := bind_of hM
  refine g_iaload X e6 dX12_insuredIn_6 ?_
  obtain ⟨w7, e7, hM⟩ := bind_of hM
  refine g_callVv X (fun B adK => [.int v6]) (s_X12_insures e7) cvX12_380 cM_0 rfl rfl (Nat.le_of_ble_eq_true rfl) ⟨by decide, by decide⟩ dX12_insuredIn_7 ?_
  refine g_lconst (v := 0) X dX12_insuredIn_10 (by decide) ?_
  refine g_lstore_n X [some (.ref (B + 0)), some (.int x1), some (.long 0), none, none] dX12_insuredIn_11 (by decide) rfl ?_
  refine g_iconst X (v := 0) dX12_insuredIn_12 (by decide) ?_
  refine g_istore X [some (.ref (B + 0)), some (.int x1), some (.long 0), none, some (.int 0)] dX12_insuredIn_13 (by decide) rfl ?_
  refine g_mk [true, true, true, false, true] [some (.ref (B + 0)), some (.int x1), some (.long 0), none, some (.int 0)] rfl ?_
  exact v_X12_insuredIn_l15 X  fz hM
theorem s_X12_insuredIn {x1 : Int32} {u : gM} {w : (Int64 × gM)} (hM : X12_insuredIn x1 u = some w) : gMet skM yX12_insuredIn cX12_insuredIn 5 (some .long) 7 178 (fun B adK => [.ref (B + 0), .int x1]) u ((fun _ => some (.long w.1)), w.2) := by
  refine gMet.of (by decide) (fun _ _ => Nat.le_of_ble_eq_true rfl) (fun κ B X => ?_)
  have X : gX κ B skM cX12_insuredIn 5 RX12 (some .long) 7 178 := X
  refine g_mk [true, true, false, false, false] [some (.ref (B + 0)), some (.int x1), none, none, none] rfl ?_
  exact v_X12_insuredIn X  hM
theorem fr_X12_insuredIn_b15 {S : Nat → Prop} {u0 u : gM} {x1 : Int32} {x2 : Int64} {x4 : Int32}  {k15 : Int32 → Int64 → Int32 → gM → Option (Int64 × gM)} (ik15 : ∀ (x1 : Int32) (x2 : Int64) (x4 : Int32) (u : gM) (w : (Int64 × gM)), off S u0 u → k15 x1 x2 x4 u = some w → off S u0 w.2) {w : (Int64 × gM)} (hM : X12_insuredIn_b15 k15 x1 x2 x4 u = some w) (h0 : off S u0 u) : off S u0 w.2 := by
  unfold X12_insuredIn_b15 at hM
  obtain ⟨v22, e22, hM⟩ := bind_of hM
  by_cases c23 : v22 ≤ x4
  · rw [if_pos c23] at hM
    cases hM
    exact h0
  · rw [if_neg c23] at hM
    obtain ⟨v37, e37, hM⟩ := bind_of hM
    exact ik15 _ _ _ _ _  h0 hM
theorem fr_X12_insuredIn_l15 {S : Nat → Prop} {u0 : gM}   : ∀ (n : Nat) {x1 : Int32} {x2 : Int64} {x4 : Int32}  {u : gM} {w : (Int64 × gM)} (h0 : off S u0 u) (hM : X12_insuredIn_l15  n x1 x2 x4 u = some w), off S u0 w.2 := by
  intro n
  induction n with
  | zero => intro x1 x2 x4 u w h0 hM; exact nomatch (show (none : Option (Int64 × gM)) = some w from hM)
  | succ n ihn => intro x1 x2 x4 u w h0 hM; exact fr_X12_insuredIn_b15   (fun x1 x2 x4 _ _ h0 h => ihn  h0 h) hM h0
theorem fr_X12_insuredIn {S : Nat → Prop} {u0 u : gM} {x1 : Int32} (hs0 : S 20) (hs1 : S 21) (hs2 : S 22) (hs3 : S 23) (hs4 : S 24)   {w : (Int64 × gM)} (hM : X12_insuredIn x1 u = some w) (h0 : off S u0 u) : off S u0 w.2 := by
  unfold X12_insuredIn at hM
  obtain ⟨v6, e6, hM⟩ := bind_of hM
  obtain ⟨w7, e7, hM⟩ := bind_of hM
  have h0 := fr_X12_insures hs0 hs1 hs2 hs3 hs4 e7 h0
  exact fr_X12_insuredIn_l15  fz  h0 hM
/-! CoverDeskModel.account(II)I -/
theorem dX12_account_0 : decode cX12_account 0 = .ok (.aload_n 0, 1) := by decide +kernel
theorem dX12_account_1 : decode cX12_account 1 = .ok (.iload_n 1, 1) := by decide +kernel
theorem dX12_account_2 : decode cX12_account 2 = .ok (.invokevirtual 362, 3) := by decide +kernel
theorem dX12_account_5 : decode cX12_account 5 = .ok (.ifCond .ne 6, 3) := by decide +kernel
theorem dX12_account_8 : decode cX12_account 8 = .ok (.bipush (-2), 2) := by decide +kernel
theorem dX12_account_10 : decode cX12_account 10 = .ok (.ireturn, 1) := by decide +kernel
theorem dX12_account_11 : decode cX12_account 11 = .ok (.aload_n 0, 1) := by decide +kernel
theorem dX12_account_12 : decode cX12_account 12 = .ok (.iload_n 1, 1) := by decide +kernel
theorem dX12_account_13 : decode cX12_account 13 = .ok (.aload_n 0, 1) := by decide +kernel
theorem dX12_account_14 : decode cX12_account 14 = .ok (.getfield 56, 3) := by decide +kernel
theorem dX12_account_17 : decode cX12_account 17 = .ok (.iconst 0, 1) := by decide +kernel
theorem dX12_account_18 : decode cX12_account 18 = .ok (.iaload, 1) := by decide +kernel
theorem dX12_account_19 : decode cX12_account 19 = .ok (.invokevirtual 325, 3) := by decide +kernel
theorem dX12_account_22 : decode cX12_account 22 = .ok (.istore_n 3, 1) := by decide +kernel
theorem dX12_account_23 : decode cX12_account 23 = .ok (.iload_n 2, 1) := by decide +kernel
theorem dX12_account_24 : decode cX12_account 24 = .ok (.tableswitch 144 0 9 #[56, 63, 70, 81, 83, 92, 99, 106, 113, 120], 56) := by decide +kernel
theorem dX12_account_80 : decode cX12_account 80 = .ok (.aload_n 0, 1) := by decide +kernel
theorem dX12_account_81 : decode cX12_account 81 = .ok (.getfield 23, 3) := by decide +kernel
theorem dX12_account_84 : decode cX12_account 84 = .ok (.iload_n 1, 1) := by decide +kernel
theorem dX12_account_85 : decode cX12_account 85 = .ok (.iaload, 1) := by decide +kernel
theorem dX12_account_86 : decode cX12_account 86 = .ok (.ireturn, 1) := by decide +kernel
theorem dX12_account_87 : decode cX12_account 87 = .ok (.aload_n 0, 1) := by decide +kernel
theorem dX12_account_88 : decode cX12_account 88 = .ok (.getfield 26, 3) := by decide +kernel
theorem dX12_account_91 : decode cX12_account 91 = .ok (.iload_n 1, 1) := by decide +kernel
theorem dX12_account_92 : decode cX12_account 92 = .ok (.iaload, 1) := by decide +kernel
theorem dX12_account_93 : decode cX12_account 93 = .ok (.ireturn, 1) := by decide +kernel
theorem dX12_account_94 : decode cX12_account 94 = .ok (.aload_n 0, 1) := by decide +kernel
theorem dX12_account_95 : decode cX12_account 95 = .ok (.aload_n 0, 1) := by decide +kernel
theorem dX12_account_96 : decode cX12_account 96 = .ok (.getfield 26, 3) := by decide +kernel
theorem dX12_account_99 : decode cX12_account 99 = .ok (.iload_n 1, 1) := by decide +kernel
theorem dX12_account_100 : decode cX12_account 100 = .ok (.iaload, 1) := by decide +kernel
theorem dX12_account_101 : decode cX12_account 101 = .ok (.invokevirtual 366, 3) := by decide +kernel
theorem dX12_account_104 : decode cX12_account 104 = .ok (.ireturn, 1) := by decide +kernel
theorem dX12_account_105 : decode cX12_account 105 = .ok (.iload_n 3, 1) := by decide +kernel
theorem dX12_account_106 : decode cX12_account 106 = .ok (.ireturn, 1) := by decide +kernel
theorem dX12_account_107 : decode cX12_account 107 = .ok (.aload_n 0, 1) := by decide +kernel
theorem dX12_account_108 : decode cX12_account 108 = .ok (.getfield 56, 3) := by decide +kernel
theorem dX12_account_111 : decode cX12_account 111 = .ok (.iconst 1, 1) := by decide +kernel
theorem dX12_account_112 : decode cX12_account 112 = .ok (.iload_n 1, 1) := by decide +kernel
theorem dX12_account_113 : decode cX12_account 113 = .ok (.iadd, 1) := by decide +kernel
theorem dX12_account_114 : decode cX12_account 114 = .ok (.iaload, 1) := by decide +kernel
theorem dX12_account_115 : decode cX12_account 115 = .ok (.ireturn, 1) := by decide +kernel
theorem dX12_account_116 : decode cX12_account 116 = .ok (.aload_n 0, 1) := by decide +kernel
theorem dX12_account_117 : decode cX12_account 117 = .ok (.getfield 29, 3) := by decide +kernel
theorem dX12_account_120 : decode cX12_account 120 = .ok (.iload_n 1, 1) := by decide +kernel
theorem dX12_account_121 : decode cX12_account 121 = .ok (.iaload, 1) := by decide +kernel
theorem dX12_account_122 : decode cX12_account 122 = .ok (.ireturn, 1) := by decide +kernel
theorem dX12_account_123 : decode cX12_account 123 = .ok (.aload_n 0, 1) := by decide +kernel
theorem dX12_account_124 : decode cX12_account 124 = .ok (.getfield 35, 3) := by decide +kernel
theorem dX12_account_127 : decode cX12_account 127 = .ok (.iload_n 1, 1) := by decide +kernel
theorem dX12_account_128 : decode cX12_account 128 = .ok (.iaload, 1) := by decide +kernel
theorem dX12_account_129 : decode cX12_account 129 = .ok (.ireturn, 1) := by decide +kernel
theorem dX12_account_130 : decode cX12_account 130 = .ok (.aload_n 0, 1) := by decide +kernel
theorem dX12_account_131 : decode cX12_account 131 = .ok (.getfield 44, 3) := by decide +kernel
theorem dX12_account_134 : decode cX12_account 134 = .ok (.iload_n 1, 1) := by decide +kernel
theorem dX12_account_135 : decode cX12_account 135 = .ok (.iaload, 1) := by decide +kernel
theorem dX12_account_136 : decode cX12_account 136 = .ok (.ireturn, 1) := by decide +kernel
theorem dX12_account_137 : decode cX12_account 137 = .ok (.aload_n 0, 1) := by decide +kernel
theorem dX12_account_138 : decode cX12_account 138 = .ok (.iload_n 1, 1) := by decide +kernel
theorem dX12_account_139 : decode cX12_account 139 = .ok (.invokevirtual 438, 3) := by decide +kernel
theorem dX12_account_142 : decode cX12_account 142 = .ok (.l2i, 1) := by decide +kernel
theorem dX12_account_143 : decode cX12_account 143 = .ok (.ireturn, 1) := by decide +kernel
theorem dX12_account_144 : decode cX12_account 144 = .ok (.aload_n 0, 1) := by decide +kernel
theorem dX12_account_145 : decode cX12_account 145 = .ok (.getfield 56, 3) := by decide +kernel
theorem dX12_account_148 : decode cX12_account 148 = .ok (.bipush 35, 2) := by decide +kernel
theorem dX12_account_150 : decode cX12_account 150 = .ok (.iload_n 3, 1) := by decide +kernel
theorem dX12_account_151 : decode cX12_account 151 = .ok (.iadd, 1) := by decide +kernel
theorem dX12_account_152 : decode cX12_account 152 = .ok (.iaload, 1) := by decide +kernel
theorem dX12_account_153 : decode cX12_account 153 = .ok (.iconst (-1), 1) := by decide +kernel
theorem dX12_account_154 : decode cX12_account 154 = .ok (.if_icmp .ne 7, 3) := by decide +kernel
theorem dX12_account_157 : decode cX12_account 157 = .ok (.iconst (-1), 1) := by decide +kernel
theorem dX12_account_158 : decode cX12_account 158 = .ok (.goto 9, 3) := by decide +kernel
theorem dX12_account_161 : decode cX12_account 161 = .ok (.aload_n 0, 1) := by decide +kernel
theorem dX12_account_162 : decode cX12_account 162 = .ok (.iload_n 1, 1) := by decide +kernel
theorem dX12_account_163 : decode cX12_account 163 = .ok (.iload_n 3, 1) := by decide +kernel
theorem dX12_account_164 : decode cX12_account 164 = .ok (.invokevirtual 309, 3) := by decide +kernel
theorem dX12_account_167 : decode cX12_account 167 = .ok (.ireturn, 1) := by decide +kernel
theorem dX12_account_168 : decode cX12_account 168 = .ok (.bipush (-2), 2) := by decide +kernel
theorem dX12_account_170 : decode cX12_account 170 = .ok (.ireturn, 1) := by decide +kernel
def X12_account_b167  (s0 : Int32) (u : gM) : Option (Int32 × gM) :=
some (s0, u)
def X12_account  (x1 : Int32) (x2 : Int32) (u : gM) : Option (Int32 × gM) :=
((X12_isAccount u x1).bind fun w2 => (if w2 = 0 then some ((-2), u)
  else ((aI skM u 16 0).bind fun v18 => ((X12_countedAt u x1 v18).bind fun w19 => (if x2 = 0 then ((aI skM u 5 x1).bind fun v85 => some (v85, u))
    else (if x2 = 1 then ((aI skM u 6 x1).bind fun v92 => some (v92, u))
    else (if x2 = 2 then ((aI skM u 6 x1).bind fun v100 => ((X12_nowAt u v100).bind fun w101 => some (w101, u)))
    else (if x2 = 3 then some (w19, u)
    else (if x2 = 4 then ((aI skM u 16 (1 + x1)).bind fun v114 => some (v114, u))
    else (if x2 = 5 then ((aI skM u 7 x1).bind fun v121 => some (v121, u))
    else (if x2 = 6 then ((aI skM u 9 x1).bind fun v128 => some (v128, u))
    else (if x2 = 7 then ((aI skM u 12 x1).bind fun v135 => some (v135, u))
    else (if x2 = 8 then ((X12_insuredIn x1 u).bind fun w139 => some (w139.1.toInt32, w139.2))
    else (if x2 = 9 then ((aI skM u 16 (35 + w19)).bind fun v152 => (if v152 = (-1) then (X12_account_b167 (-1) u)
      else ((X12_endOf u x1 w19).bind fun w164 => (X12_account_b167 w164 u))))
    else some ((-2), u)))))))))))))))
set_option maxRecDepth 20000 in
theorem v_X12_account_b167 {κ : gK} {B : Nat} {u : gM} (X : gX κ B skM cX12_account 4 RX12 (some .int) 8 202)   {s0 : Int32} {w : (Int32 × gM)} (hM : X12_account_b167 s0 u = some w) : gV κ B skM 4 ((some (.int w.1)), w.2) 167 [none, none, none, none] [.int s0] u := by
  unfold X12_account_b167 at hM
  cases hM
  exact g_iret X dX12_account_167
set_option maxRecDepth 20000 in
theorem v_X12_account {κ : gK} {B : Nat} {u : gM} (X : gX κ B skM cX12_account 4 RX12 (some .int) 8 202)   {x1 : Int32} {x2 : Int32} {w : (Int32 × gM)} (hM : X12_account x1 x2 u = some w) : gV κ B skM 4 ((some (.int w.1)), w.2) 0 [some (.ref (B + 0)), some (.int x1), some (.int x2), none] [] u := by
  unfold X12_account at hM
  refine g_aload_n X dX12_account_0 rfl ?_
  refine g_iload_n X dX12_account_1 rfl ?_
  obtain ⟨w2, e2, hM⟩ := bind_of hM
  refine g_callVi X (fun B adK => [.int x1]) (s_X12_isAccount e2) cvX12_362 cM_0 rfl rfl (Nat.le_of_ble_eq_true rfl) ⟨by decide, by decide⟩ dX12_account_2 ?_
  refine g_if_ne (tgt := 11) X dX12_account_5 (by decide) (fun c5 => ?_) (fun c5 => ?_)
  · rw [if_neg c5] at hM
    refine g_aload_n X dX12_account_11 rfl ?_
    refine g_iload_n X dX12_account_12 rfl ?_
    refine g_aload_n X dX12_account_13 rfl ?_
    refine g_getR X fX12_56 cM_0 rfl dX12_account_14 ?_
    refine g_iconst X (v := 0) dX12_account_17 (by decide) ?_
    obtain ⟨v18, e18, hM⟩ := bind_of hM
    refine g_iaload X e18 dX12_account_18 ?_
    obtain ⟨w19, e19, hM⟩ := bind_of hM
    refine g_callVi X (fun B adK => [.int x1, .int v18]) (s_X12_countedAt e19) cvX12_325 cM_0 rfl rfl (Nat.le_of_ble_eq_true rfl) ⟨by decide, by decide⟩ dX12_account_19 ?_
    refine g_istore_n X [some (.ref (B + 0)), some (.int x1), some (.int x2), some (.int w19)] dX12_account_22 (by decide) rfl ?_
    refine g_iload_n X dX12_account_23 rfl ?_
    by_cases h24_0 : x2 = 0
    · rw [if_pos h24_0] at hM
      refine g_tabIn (tgt := 80) (off := 56) X 0 h24_0 dX12_account_24 (by decide) (by decide) (by decide) (by decide) ?_
      refine g_aload_n X dX12_account_80 rfl ?_
      refine g_getR X fX12_23 cM_0 rfl dX12_account_81 ?_
      refine g_iload_n X dX12_account_84 rfl ?_
      obtain ⟨v85, e85, hM⟩ := bind_of hM
      refine g_iaload X e85 dX12_account_85 ?_
      cases hM
      exact g_iret X dX12_account_86
    rw [if_neg h24_0] at hM
    by_cases h24_1 : x2 = 1
    · rw [if_pos h24_1] at hM
      refine g_tabIn (tgt := 87) (off := 63) X 1 h24_1 dX12_account_24 (by decide) (by decide) (by decide) (by decide) ?_
      refine g_aload_n X dX12_account_87 rfl ?_
      refine g_getR X fX12_26 cM_0 rfl dX12_account_88 ?_
      refine g_iload_n X dX12_account_91 rfl ?_
      obtain ⟨v92, e92, hM⟩ := bind_of hM
      refine g_iaload X e92 dX12_account_92 ?_
      cases hM
      exact g_iret X dX12_account_93
    rw [if_neg h24_1] at hM
    by_cases h24_2 : x2 = 2
    · rw [if_pos h24_2] at hM
      refine g_tabIn (tgt := 94) (off := 70) X 2 h24_2 dX12_account_24 (by decide) (by decide) (by decide) (by decide) ?_
      refine g_aload_n X dX12_account_94 rfl ?_
      refine g_aload_n X dX12_account_95 rfl ?_
      refine g_getR X fX12_26 cM_0 rfl dX12_account_96 ?_
      refine g_iload_n X dX12_account_99 rfl ?_
      obtain ⟨v100, e100, hM⟩ := bind_of hM
      refine g_iaload X e100 dX12_account_100 ?_
      obtain ⟨w101, e101, hM⟩ := bind_of hM
      refine g_callVi X (fun B adK => [.int v100]) (s_X12_nowAt e101) cvX12_366 cM_0 rfl rfl (Nat.le_of_ble_eq_true rfl) ⟨by decide, by decide⟩ dX12_account_101 ?_
      cases hM
      exact g_iret X dX12_account_104
    rw [if_neg h24_2] at hM
    by_cases h24_3 : x2 = 3
    · rw [if_pos h24_3] at hM
      refine g_tabIn (tgt := 105) (off := 81) X 3 h24_3 dX12_account_24 (by decide) (by decide) (by decide) (by decide) ?_
      refine g_iload_n X dX12_account_105 rfl ?_
      cases hM
      exact g_iret X dX12_account_106
    rw [if_neg h24_3] at hM
    by_cases h24_4 : x2 = 4
    · rw [if_pos h24_4] at hM
      refine g_tabIn (tgt := 107) (off := 83) X 4 h24_4 dX12_account_24 (by decide) (by decide) (by decide) (by decide) ?_
      refine g_aload_n X dX12_account_107 rfl ?_
      refine g_getR X fX12_56 cM_0 rfl dX12_account_108 ?_
      refine g_iconst X (v := 1) dX12_account_111 (by decide) ?_
      refine g_iload_n X dX12_account_112 rfl ?_
      refine g_iadd X dX12_account_113 ?_
      obtain ⟨v114, e114, hM⟩ := bind_of hM
      refine g_iaload X e114 dX12_account_114 ?_
      cases hM
      exact g_iret X dX12_account_115
    rw [if_neg h24_4] at hM
    by_cases h24_5 : x2 = 5
    · rw [if_pos h24_5] at hM
      refine g_tabIn (tgt := 116) (off := 92) X 5 h24_5 dX12_account_24 (by decide) (by decide) (by decide) (by decide) ?_
      refine g_aload_n X dX12_account_116 rfl ?_
      refine g_getR X fX12_29 cM_0 rfl dX12_account_117 ?_
      refine g_iload_n X dX12_account_120 rfl ?_
      obtain ⟨v121, e121, hM⟩ := bind_of hM
      refine g_iaload X e121 dX12_account_121 ?_
      cases hM
      exact g_iret X dX12_account_122
    rw [if_neg h24_5] at hM
    by_cases h24_6 : x2 = 6
    · rw [if_pos h24_6] at hM
      refine g_tabIn (tgt := 123) (off := 99) X 6 h24_6 dX12_account_24 (by decide) (by decide) (by decide) (by decide) ?_
      refine g_aload_n X dX12_account_123 rfl ?_
      refine g_getR X fX12_35 cM_0 rfl dX12_account_124 ?_
      refine g_iload_n X dX12_account_127 rfl ?_
      obtain ⟨v128, e128, hM⟩ := bind_of hM
      refine g_iaload X e128 dX12_account_128 ?_
      cases hM
      exact g_iret X dX12_account_129
    rw [if_neg h24_6] at hM
    by_cases h24_7 : x2 = 7
    · rw [if_pos h24_7] at hM
      refine g_tabIn (tgt := 130) (off := 106) X 7 h24_7 dX12_account_24 (by decide) (by decide) (by decide) (by decide) ?_
      refine g_aload_n X dX12_account_130 rfl ?_
      refine g_getR X fX12_44 cM_0 rfl dX12_account_131 ?_
      refine g_iload_n X dX12_account_134 rfl ?_
      obtain ⟨v135, e135, hM⟩ := bind_of hM
      refine g_iaload X e135 dX12_account_135 ?_
      cases hM
      exact g_iret X dX12_account_136
    rw [if_neg h24_7] at hM
    by_cases h24_8 : x2 = 8
    · rw [if_pos h24_8] at hM
      refine g_tabIn (tgt := 137) (off := 113) X 8 h24_8 dX12_account_24 (by decide) (by decide) (by decide) (by decide) ?_
      refine g_aload_n X dX12_account_137 rfl ?_
      refine g_iload_n X dX12_account_138 rfl ?_
      obtain ⟨w139, e139, hM⟩ := bind_of hM
      refine g_callVl X (fun B adK => [.int x1]) (s_X12_insuredIn e139) cvX12_438 cM_0 rfl rfl (Nat.le_of_ble_eq_true rfl) ⟨by decide, by decide⟩ dX12_account_139 ?_
      refine g_l2i X dX12_account_142 ?_
      cases hM
      exact g_iret X dX12_account_143
    rw [if_neg h24_8] at hM
    by_cases h24_9 : x2 = 9
    · rw [if_pos h24_9] at hM
      refine g_tabIn (tgt := 144) (off := 120) X 9 h24_9 dX12_account_24 (by decide) (by decide) (by decide) (by decide) ?_
      refine g_aload_n X dX12_account_144 rfl ?_
      refine g_getR X fX12_56 cM_0 rfl dX12_account_145 ?_
      refine g_bipush X (v := 35) dX12_account_148 (by decide) ?_
      refine g_iload_n X dX12_account_150 rfl ?_
      refine g_iadd X dX12_account_151 ?_
      obtain ⟨v152, e152, hM⟩ := bind_of hM
      refine g_iaload X e152 dX12_account_152 ?_
      refine g_iconst X (v := (-1)) dX12_account_153 (by decide) ?_
      refine g_icmp_ne (tgt := 161) X dX12_account_154 (by decide) (fun c154 => ?_) (fun c154 => ?_)
      · rw [if_neg c154] at hM
        refine g_aload_n X dX12_account_161 rfl ?_
        refine g_iload_n X dX12_account_162 rfl ?_
        refine g_iload_n X dX12_account_163 rfl ?_
        obtain ⟨w164, e164, hM⟩ := bind_of hM
        refine g_callVi X (fun B adK => [.int x1, .int w19]) (s_X12_endOf e164) cvX12_309 cM_0 rfl rfl (Nat.le_of_ble_eq_true rfl) ⟨by decide, by decide⟩ dX12_account_164 ?_
        refine g_mk [false, false, false, false] [none, none, none, none] rfl ?_
        exact v_X12_account_b167 X  hM
      · rw [if_pos c154] at hM
        refine g_iconst X (v := (-1)) dX12_account_157 (by decide) ?_
        refine g_goto (tgt := 167) X dX12_account_158 (by decide) ?_
        refine g_mk [false, false, false, false] [none, none, none, none] rfl ?_
        exact v_X12_account_b167 X  hM
    rw [if_neg h24_9] at hM
    refine g_tabOut (tgt := 168) X dX12_account_24 (by have q0 := lv_neT (a := 0) h24_0 (by decide); have q1 := lv_neT (a := 1) h24_1 (by decide); have q2 := lv_neT (a := 2) h24_2 (by decide); have q3 := lv_neT (a := 3) h24_3 (by decide); have q4 := lv_neT (a := 4) h24_4 (by decide); have q5 := lv_neT (a := 5) h24_5 (by decide); have q6 := lv_neT (a := 6) h24_6 (by decide); have q7 := lv_neT (a := 7) h24_7 (by decide); have q8 := lv_neT (a := 8) h24_8 (by decide); have q9 := lv_neT (a := 9) h24_9 (by decide); omega) (by decide) ?_
    refine g_bipush X (v := (-2)) dX12_account_168 (by decide) ?_
    cases hM
    exact g_iret X dX12_account_170
  · rw [if_pos c5] at hM
    refine g_bipush X (v := (-2)) dX12_account_8 (by decide) ?_
    cases hM
    exact g_iret X dX12_account_10
theorem s_X12_account {x1 : Int32} {x2 : Int32} {u : gM} {w : (Int32 × gM)} (hM : X12_account x1 x2 u = some w) : gMet skM yX12_account cX12_account 4 (some .int) 8 202 (fun B adK => [.ref (B + 0), .int x1, .int x2]) u ((fun _ => some (.int w.1)), w.2) := by
  refine gMet.of (by decide) (fun _ _ => Nat.le_of_ble_eq_true rfl) (fun κ B X => ?_)
  have X : gX κ B skM cX12_account 4 RX12 (some .int) 8 202 := X
  refine g_mk [true, true, true, false] [some (.ref (B + 0)), some (.int x1), some (.int x2), none] rfl ?_
  exact v_X12_account X  hM
theorem fr_X12_account_b167 {S : Nat → Prop} {u0 u : gM} {s0 : Int32}    {w : (Int32 × gM)} (hM : X12_account_b167 s0 u = some w) (h0 : off S u0 u) : off S u0 w.2 := by
  unfold X12_account_b167 at hM
  cases hM
  exact h0
theorem fr_X12_account {S : Nat → Prop} {u0 u : gM} {x1 : Int32} {x2 : Int32} (hs0 : S 20) (hs1 : S 21) (hs2 : S 22) (hs3 : S 23) (hs4 : S 24)   {w : (Int32 × gM)} (hM : X12_account x1 x2 u = some w) (h0 : off S u0 u) : off S u0 w.2 := by
  unfold X12_account at hM
  obtain ⟨w2, e2, hM⟩ := bind_of hM
  by_cases c5 : w2 = 0
  · rw [if_pos c5] at hM
    cases hM
    exact h0
  · rw [if_neg c5] at hM
    obtain ⟨v18, e18, hM⟩ := bind_of hM
    obtain ⟨w19, e19, hM⟩ := bind_of hM
    by_cases h24_0 : x2 = 0
    · rw [if_pos h24_0] at hM
      obtain ⟨v85, e85, hM⟩ := bind_of hM
      cases hM
      exact h0
    rw [if_neg h24_0] at hM
    by_cases h24_1 : x2 = 1
    · rw [if_pos h24_1] at hM
      obtain ⟨v92, e92, hM⟩ := bind_of hM
      cases hM
      exact h0
    rw [if_neg h24_1] at hM
    by_cases h24_2 : x2 = 2
    · rw [if_pos h24_2] at hM
      obtain ⟨v100, e100, hM⟩ := bind_of hM
      obtain ⟨w101, e101, hM⟩ := bind_of hM
      cases hM
      exact h0
    rw [if_neg h24_2] at hM
    by_cases h24_3 : x2 = 3
    · rw [if_pos h24_3] at hM
      cases hM
      exact h0
    rw [if_neg h24_3] at hM
    by_cases h24_4 : x2 = 4
    · rw [if_pos h24_4] at hM
      obtain ⟨v114, e114, hM⟩ := bind_of hM
      cases hM
      exact h0
    rw [if_neg h24_4] at hM
    by_cases h24_5 : x2 = 5
    · rw [if_pos h24_5] at hM
      obtain ⟨v121, e121, hM⟩ := bind_of hM
      cases hM
      exact h0
    rw [if_neg h24_5] at hM
    by_cases h24_6 : x2 = 6
    · rw [if_pos h24_6] at hM
      obtain ⟨v128, e128, hM⟩ := bind_of hM
      cases hM
      exact h0
    rw [if_neg h24_6] at hM
    by_cases h24_7 : x2 = 7
    · rw [if_pos h24_7] at hM
      obtain ⟨v135, e135, hM⟩ := bind_of hM
      cases hM
      exact h0
    rw [if_neg h24_7] at hM
    by_cases h24_8 : x2 = 8
    · rw [if_pos h24_8] at hM
      obtain ⟨w139, e139, hM⟩ := bind_of hM
      have h0 := fr_X12_insuredIn hs0 hs1 hs2 hs3 hs4 e139 h0
      cases hM
      exact h0
    rw [if_neg h24_8] at hM
    by_cases h24_9 : x2 = 9
    · rw [if_pos h24_9] at hM
      obtain ⟨v152, e152, hM⟩ := bind_of hM
      by_cases c154 : v152 = (-1)
      · rw [if_pos c154] at hM
        exact fr_X12_account_b167   hM h0
      · rw [if_neg c154] at hM
        obtain ⟨w164, e164, hM⟩ := bind_of hM
        exact fr_X12_account_b167   hM h0
    rw [if_neg h24_9] at hM
    cases hM
    exact h0
/-! CoverDeskModel.accountsOf(IIII)I -/
theorem dX12_accountsOf_0 : decode cX12_accountsOf 0 = .ok (.iconst 0, 1) := by decide +kernel
theorem dX12_accountsOf_1 : decode cX12_accountsOf 1 = .ok (.istore 5, 2) := by decide +kernel
theorem dX12_accountsOf_3 : decode cX12_accountsOf 3 = .ok (.iconst 0, 1) := by decide +kernel
theorem dX12_accountsOf_4 : decode cX12_accountsOf 4 = .ok (.istore 6, 2) := by decide +kernel
theorem dX12_accountsOf_6 : decode cX12_accountsOf 6 = .ok (.iload 6, 2) := by decide +kernel
theorem dX12_accountsOf_8 : decode cX12_accountsOf 8 = .ok (.aload_n 0, 1) := by decide +kernel
theorem dX12_accountsOf_9 : decode cX12_accountsOf 9 = .ok (.getfield 7, 3) := by decide +kernel
theorem dX12_accountsOf_12 : decode cX12_accountsOf 12 = .ok (.iconst 2, 1) := by decide +kernel
theorem dX12_accountsOf_13 : decode cX12_accountsOf 13 = .ok (.iaload, 1) := by decide +kernel
theorem dX12_accountsOf_14 : decode cX12_accountsOf 14 = .ok (.if_icmp .ge 28, 3) := by decide +kernel
theorem dX12_accountsOf_17 : decode cX12_accountsOf 17 = .ok (.iload 5, 2) := by decide +kernel
theorem dX12_accountsOf_19 : decode cX12_accountsOf 19 = .ok (.aload_n 0, 1) := by decide +kernel
theorem dX12_accountsOf_20 : decode cX12_accountsOf 20 = .ok (.iload 6, 2) := by decide +kernel
theorem dX12_accountsOf_22 : decode cX12_accountsOf 22 = .ok (.iload_n 1, 1) := by decide +kernel
theorem dX12_accountsOf_23 : decode cX12_accountsOf 23 = .ok (.iload_n 2, 1) := by decide +kernel
theorem dX12_accountsOf_24 : decode cX12_accountsOf 24 = .ok (.iload_n 3, 1) := by decide +kernel
theorem dX12_accountsOf_25 : decode cX12_accountsOf 25 = .ok (.iload 4, 2) := by decide +kernel
theorem dX12_accountsOf_27 : decode cX12_accountsOf 27 = .ok (.invokevirtual 328, 3) := by decide +kernel
theorem dX12_accountsOf_30 : decode cX12_accountsOf 30 = .ok (.invokestatic 312, 3) := by decide +kernel
theorem dX12_accountsOf_33 : decode cX12_accountsOf 33 = .ok (.iadd, 1) := by decide +kernel
theorem dX12_accountsOf_34 : decode cX12_accountsOf 34 = .ok (.istore 5, 2) := by decide +kernel
theorem dX12_accountsOf_36 : decode cX12_accountsOf 36 = .ok (.iinc 6 1, 3) := by decide +kernel
theorem dX12_accountsOf_39 : decode cX12_accountsOf 39 = .ok (.goto (-33), 3) := by decide +kernel
theorem dX12_accountsOf_42 : decode cX12_accountsOf 42 = .ok (.iload 5, 2) := by decide +kernel
theorem dX12_accountsOf_44 : decode cX12_accountsOf 44 = .ok (.ireturn, 1) := by decide +kernel
def X12_accountsOf_b6 (u : gM) (k6 : Int32 → Int32 → Int32 → Int32 → Int32 → Int32 → Option Int32) (x1 : Int32) (x2 : Int32) (x3 : Int32) (x4 : Int32) (x5 : Int32) (x6 : Int32) : Option Int32 :=
((aI skM u 1 2).bind fun v13 => (if v13 ≤ x6 then some x5
  else ((X12_isInGroup u x6 x1 x2 x3 x4).bind fun w27 => ((X12_one u w27).bind fun w30 => (k6 x1 x2 x3 x4 (x5 + w30) (x6 + 1))))))
def X12_accountsOf_l6 (u : gM)  : Nat → Int32 → Int32 → Int32 → Int32 → Int32 → Int32 → Option Int32
  | 0, _, _, _, _, _, _ => none
  | n + 1, x1, x2, x3, x4, x5, x6 => X12_accountsOf_b6 u  (X12_accountsOf_l6 u  n) x1 x2 x3 x4 x5 x6
def X12_accountsOf (u : gM)  (x1 : Int32) (x2 : Int32) (x3 : Int32) (x4 : Int32) : Option Int32 :=
(X12_accountsOf_l6 u fz x1 x2 x3 x4 0 0)
set_option maxRecDepth 20000 in
theorem v_X12_accountsOf_b6 {κ : gK} {B : Nat} {u : gM} (X : gX κ B skM cX12_accountsOf 7 RX12 (some .int) 4 98) {k6 : Int32 → Int32 → Int32 → Int32 → Int32 → Int32 → Option Int32} (ih6 : ∀ (x1 : Int32) (x2 : Int32) (x3 : Int32) (x4 : Int32) (x5 : Int32) (x6 : Int32) (w : Int32), k6 x1 x2 x3 x4 x5 x6 = some w → gV κ B skM 7 ((some (.int w)), u) 6 [some (.ref (B + 0)), some (.int x1), some (.int x2), some (.int x3), some (.int x4), some (.int x5), some (.int x6)] [] u) {x1 : Int32} {x2 : Int32} {x3 : Int32} {x4 : Int32} {x5 : Int32} {x6 : Int32} {w : Int32} (hM : X12_accountsOf_b6 u k6 x1 x2 x3 x4 x5 x6 = some w) : gV κ B skM 7 ((some (.int w)), u) 6 [some (.ref (B + 0)), some (.int x1), some (.int x2), some (.int x3), some (.int x4), some (.int x5), some (.int x6)] [] u := by
  unfold X12_accountsOf_b6 at hM
  refine g_iload X dX12_accountsOf_6 rfl ?_
  refine g_aload_n X dX12_accountsOf_8 rfl ?_
  refine g_getR X fX12_7 cM_0 rfl dX12_accountsOf_9 ?_
  refine g_iconst X (v := 2) dX12_accountsOf_12 (by decide) ?_
  obtain ⟨v13, e13, hM⟩ := bind_of hM
  refine g_iaload X e13 dX12_accountsOf_13 ?_
  refine g_icmp_ge (tgt := 42) X dX12_accountsOf_14 (by decide) (fun c14 => ?_) (fun c14 => ?_)
  · rw [if_pos c14] at hM
    refine g_iload X dX12_accountsOf_42 rfl ?_
    cases hM
    exact g_iret X dX12_accountsOf_44
  · rw [if_neg c14] at hM
    refine g_iload X dX12_accountsOf_17 rfl ?_
    refine g_aload_n X dX12_accountsOf_19 rfl ?_
    refine g_iload X dX12_accountsOf_20 rfl ?_
    refine g_iload_n X dX12_accountsOf_22 rfl ?_
    refine g_iload_n X dX12_accountsOf_23 rfl ?_
    refine g_iload_n X dX12_accountsOf_24 rfl ?_
    refine g_iload X dX12_accountsOf_25 rfl ?_
    obtain ⟨w27, e27, hM⟩ := bind_of hM
    refine g_callVi X (fun B adK => [.int x6, .int x1, .int x2, .int x3, .int x4]) (s_X12_isInGroup e27) cvX12_328 cM_0 rfl rfl (Nat.le_of_ble_eq_true rfl) ⟨by decide, by decide⟩ dX12_accountsOf_27 ?_
    obtain ⟨w30, e30, hM⟩ := bind_of hM
    refine g_callSi X (fun B adK => [.int w27]) (s_X12_one e30) cvX12_312 rfl rfl (Nat.le_of_ble_eq_true rfl) ⟨by decide, by decide⟩ dX12_accountsOf_30 ?_
    refine g_iadd X dX12_accountsOf_33 ?_
    refine g_istore X [some (.ref (B + 0)), some (.int x1), some (.int x2), some (.int x3), some (.int x4), some (.int (x5 + w30)), some (.int x6)] dX12_accountsOf_34 (by decide) rfl ?_
    refine g_iinc (d := 1) X [some (.ref (B + 0)), some (.int x1), some (.int x2), some (.int x3), some (.int x4), some (.int (x5 + w30)), some (.int (x6 + 1))] dX12_accountsOf_36 (by decide) rfl (by decide) rfl ?_
    refine g_goto (tgt := 6) X dX12_accountsOf_39 (by decide) ?_
    refine g_mk [true, true, true, true, true, true, true] [some (.ref (B + 0)), some (.int x1), some (.int x2), some (.int x3), some (.int x4), some (.int (x5 + w30)), some (.int (x6 + 1))] rfl ?_
    exact ih6 x1 x2 x3 x4 (x5 + w30) (x6 + 1) _ hM
theorem v_X12_accountsOf_l6 {κ : gK} {B : Nat} {u : gM} (X : gX κ B skM cX12_accountsOf 7 RX12 (some .int) 4 98)   : ∀ (n : Nat) {x1 : Int32} {x2 : Int32} {x3 : Int32} {x4 : Int32} {x5 : Int32} {x6 : Int32} {w : Int32} (hM : X12_accountsOf_l6 u  n x1 x2 x3 x4 x5 x6 = some w), gV κ B skM 7 ((some (.int w)), u) 6 [some (.ref (B + 0)), some (.int x1), some (.int x2), some (.int x3), some (.int x4), some (.int x5), some (.int x6)] [] u := by
  intro n
  induction n with
  | zero => intro x1 x2 x3 x4 x5 x6 w hM; exact nomatch (show (none : Option Int32) = some w from hM)
  | succ n ihn => intro x1 x2 x3 x4 x5 x6 w hM; exact v_X12_accountsOf_b6 X  (fun x1 x2 x3 x4 x5 x6 w h => ihn h) hM
set_option maxRecDepth 20000 in
theorem v_X12_accountsOf {κ : gK} {B : Nat} {u : gM} (X : gX κ B skM cX12_accountsOf 7 RX12 (some .int) 4 98)   {x1 : Int32} {x2 : Int32} {x3 : Int32} {x4 : Int32} {w : Int32} (hM : X12_accountsOf u x1 x2 x3 x4 = some w) : gV κ B skM 7 ((some (.int w)), u) 0 [some (.ref (B + 0)), some (.int x1), some (.int x2), some (.int x3), some (.int x4), none, none] [] u := by
  unfold X12_accountsOf at hM
  refine g_iconst X (v := 0) dX12_accountsOf_0 (by decide) ?_
  refine g_istore X [some (.ref (B + 0)), some (.int x1), some (.int x2), some (.int x3), some (.int x4), some (.int 0), none] dX12_accountsOf_1 (by decide) rfl ?_
  refine g_iconst X (v := 0) dX12_accountsOf_3 (by decide) ?_
  refine g_istore X [some (.ref (B + 0)), some (.int x1), some (.int x2), some (.int x3), some (.int x4), some (.int 0), some (.int 0)] dX12_accountsOf_4 (by decide) rfl ?_
  refine g_mk [true, true, true, true, true, true, true] [some (.ref (B + 0)), some (.int x1), some (.int x2), some (.int x3), some (.int x4), some (.int 0), some (.int 0)] rfl ?_
  exact v_X12_accountsOf_l6 X  fz hM
theorem s_X12_accountsOf {x1 : Int32} {x2 : Int32} {x3 : Int32} {x4 : Int32} {u : gM} {w : Int32} (hM : X12_accountsOf u x1 x2 x3 x4 = some w) : gMet skM yX12_accountsOf cX12_accountsOf 7 (some .int) 4 98 (fun B adK => [.ref (B + 0), .int x1, .int x2, .int x3, .int x4]) u ((fun _ => some (.int w)), u) := by
  refine gMet.of (by decide) (fun _ _ => Nat.le_of_ble_eq_true rfl) (fun κ B X => ?_)
  have X : gX κ B skM cX12_accountsOf 7 RX12 (some .int) 4 98 := X
  refine g_mk [true, true, true, true, true, false, false] [some (.ref (B + 0)), some (.int x1), some (.int x2), some (.int x3), some (.int x4), none, none] rfl ?_
  exact v_X12_accountsOf X  hM

/-! CoverDeskModel.isPlain(I)Z -/
theorem dX12_isPlain_0 : decode cX12_isPlain 0 = .ok (.iload_n 0, 1) := by decide +kernel
theorem dX12_isPlain_1 : decode cX12_isPlain 1 = .ok (.ifCond .eq 13, 3) := by decide +kernel
theorem dX12_isPlain_4 : decode cX12_isPlain 4 = .ok (.iload_n 0, 1) := by decide +kernel
theorem dX12_isPlain_5 : decode cX12_isPlain 5 = .ok (.iconst 3, 1) := by decide +kernel
theorem dX12_isPlain_6 : decode cX12_isPlain 6 = .ok (.if_icmp .eq 8, 3) := by decide +kernel
theorem dX12_isPlain_9 : decode cX12_isPlain 9 = .ok (.iload_n 0, 1) := by decide +kernel
theorem dX12_isPlain_10 : decode cX12_isPlain 10 = .ok (.iconst 4, 1) := by decide +kernel
theorem dX12_isPlain_11 : decode cX12_isPlain 11 = .ok (.if_icmp .ne 7, 3) := by decide +kernel
theorem dX12_isPlain_14 : decode cX12_isPlain 14 = .ok (.iconst 1, 1) := by decide +kernel
theorem dX12_isPlain_15 : decode cX12_isPlain 15 = .ok (.goto 4, 3) := by decide +kernel
theorem dX12_isPlain_18 : decode cX12_isPlain 18 = .ok (.iconst 0, 1) := by decide +kernel
theorem dX12_isPlain_19 : decode cX12_isPlain 19 = .ok (.ireturn, 1) := by decide +kernel
def X12_isPlain_b19 (u : gM)  (s0 : Int32) : Option Int32 :=
bI s0
def X12_isPlain_b14 (u : gM)   : Option Int32 :=
(X12_isPlain_b19 u 1)
def X12_isPlain (u : gM)  (x0 : Int32) : Option Int32 :=
(if x0 = 0 then (X12_isPlain_b14 u)
  else (if x0 = 3 then (X12_isPlain_b14 u)
    else (if x0 = 4 then (X12_isPlain_b14 u)
      else (X12_isPlain_b19 u 0))))
set_option maxRecDepth 20000 in
theorem v_X12_isPlain_b19 {κ : gK} {B : Nat} {u : gM} (X : gX κ B skM cX12_isPlain 1 RX12 (some .boolean) 0 0)   {s0 : Int32} {w : Int32} (hM : X12_isPlain_b19 u s0 = some w) : gV κ B skM 1 ((some (.int w)), u) 19 [none] [.int s0] u := by
  unfold X12_isPlain_b19 at hM
  obtain ⟨hv, rfl⟩ := bI_of hM
  exact g_zret X hv dX12_isPlain_19
set_option maxRecDepth 20000 in
theorem v_X12_isPlain_b14 {κ : gK} {B : Nat} {u : gM} (X : gX κ B skM cX12_isPlain 1 RX12 (some .boolean) 0 0)    {w : Int32} (hM : X12_isPlain_b14 u = some w) : gV κ B skM 1 ((some (.int w)), u) 14 [none] [] u := by
  unfold X12_isPlain_b14 at hM
  refine g_iconst X (v := 1) dX12_isPlain_14 (by decide) ?_
  refine g_goto (tgt := 19) X dX12_isPlain_15 (by decide) ?_
  refine g_mk [false] [none] rfl ?_
  exact v_X12_isPlain_b19 X  hM
set_option maxRecDepth 20000 in
theorem v_X12_isPlain {κ : gK} {B : Nat} {u : gM} (X : gX κ B skM cX12_isPlain 1 RX12 (some .boolean) 0 0)   {x0 : Int32} {w : Int32} (hM : X12_isPlain u x0 = some w) : gV κ B skM 1 ((some (.int w)), u) 0 [some (.int x0)] [] u := by
  unfold X12_isPlain at hM
  refine g_iload_n X dX12_isPlain_0 rfl ?_
  refine g_if_eq (tgt := 14) X dX12_isPlain_1 (by decide) (fun c1 => ?_) (fun c1 => ?_)
  · rw [if_pos c1] at hM
    refine g_mk [false] [none] rfl ?_
    exact v_X12_isPlain_b14 X  hM
  · rw [if_neg c1] at hM
    refine g_iload_n X dX12_isPlain_4 rfl ?_
    refine g_iconst X (v := 3) dX12_isPlain_5 (by decide) ?_
    refine g_icmp_eq (tgt := 14) X dX12_isPlain_6 (by decide) (fun c6 => ?_) (fun c6 => ?_)
    · rw [if_pos c6] at hM
      refine g_mk [false] [none] rfl ?_
      exact v_X12_isPlain_b14 X  hM
    · rw [if_neg c6] at hM
      refine g_iload_n X dX12_isPlain_9 rfl ?_
      refine g_iconst X (v := 4) dX12_isPlain_10 (by decide) ?_
      refine g_icmp_ne (tgt := 18) X dX12_isPlain_11 (by decide) (fun c11 => ?_) (fun c11 => ?_)
      · rw [if_neg c11] at hM
        refine g_iconst X (v := 0) dX12_isPlain_18 (by decide) ?_
        refine g_mk [false] [none] rfl ?_
        exact v_X12_isPlain_b19 X  hM
      · rw [if_pos c11] at hM
        refine g_mk [false] [none] rfl ?_
        exact v_X12_isPlain_b14 X  hM
theorem s_X12_isPlain {x0 : Int32} {u : gM} {w : Int32} (hM : X12_isPlain u x0 = some w) : gMet skM yX12_isPlain cX12_isPlain 1 (some .boolean) 0 0 (fun B adK => [.int x0]) u ((fun _ => some (.int w)), u) := by
  refine gMet.of (by decide) (fun _ _ => Nat.le_of_ble_eq_true rfl) (fun κ B X => ?_)
  have X : gX κ B skM cX12_isPlain 1 RX12 (some .boolean) 0 0 := X
  refine g_mk [true] [some (.int x0)] rfl ?_
  exact v_X12_isPlain X  hM

/-! CoverDeskModel.sumOf(IIII)J -/
theorem dX12_sumOf_0 : decode cX12_sumOf 0 = .ok (.lconst 0, 1) := by decide +kernel
theorem dX12_sumOf_1 : decode cX12_sumOf 1 = .ok (.lstore 5, 2) := by decide +kernel
theorem dX12_sumOf_3 : decode cX12_sumOf 3 = .ok (.iconst 0, 1) := by decide +kernel
theorem dX12_sumOf_4 : decode cX12_sumOf 4 = .ok (.istore 7, 2) := by decide +kernel
theorem dX12_sumOf_6 : decode cX12_sumOf 6 = .ok (.iload 7, 2) := by decide +kernel
theorem dX12_sumOf_8 : decode cX12_sumOf 8 = .ok (.aload_n 0, 1) := by decide +kernel
theorem dX12_sumOf_9 : decode cX12_sumOf 9 = .ok (.getfield 7, 3) := by decide +kernel
theorem dX12_sumOf_12 : decode cX12_sumOf 12 = .ok (.iconst 2, 1) := by decide +kernel
theorem dX12_sumOf_13 : decode cX12_sumOf 13 = .ok (.iaload, 1) := by decide +kernel
theorem dX12_sumOf_14 : decode cX12_sumOf 14 = .ok (.if_icmp .ge 42, 3) := by decide +kernel
theorem dX12_sumOf_17 : decode cX12_sumOf 17 = .ok (.aload_n 0, 1) := by decide +kernel
theorem dX12_sumOf_18 : decode cX12_sumOf 18 = .ok (.iload 7, 2) := by decide +kernel
theorem dX12_sumOf_20 : decode cX12_sumOf 20 = .ok (.iload_n 1, 1) := by decide +kernel
theorem dX12_sumOf_21 : decode cX12_sumOf 21 = .ok (.iload_n 2, 1) := by decide +kernel
theorem dX12_sumOf_22 : decode cX12_sumOf 22 = .ok (.iload_n 3, 1) := by decide +kernel
theorem dX12_sumOf_23 : decode cX12_sumOf 23 = .ok (.iload 4, 2) := by decide +kernel
theorem dX12_sumOf_25 : decode cX12_sumOf 25 = .ok (.invokevirtual 328, 3) := by decide +kernel
theorem dX12_sumOf_28 : decode cX12_sumOf 28 = .ok (.ifCond .eq 22, 3) := by decide +kernel
theorem dX12_sumOf_31 : decode cX12_sumOf 31 = .ok (.lload 5, 2) := by decide +kernel
theorem dX12_sumOf_33 : decode cX12_sumOf 33 = .ok (.aload_n 0, 1) := by decide +kernel
theorem dX12_sumOf_34 : decode cX12_sumOf 34 = .ok (.iload 7, 2) := by decide +kernel
theorem dX12_sumOf_36 : decode cX12_sumOf 36 = .ok (.aload_n 0, 1) := by decide +kernel
theorem dX12_sumOf_37 : decode cX12_sumOf 37 = .ok (.iload 7, 2) := by decide +kernel
theorem dX12_sumOf_39 : decode cX12_sumOf 39 = .ok (.iload_n 1, 1) := by decide +kernel
theorem dX12_sumOf_40 : decode cX12_sumOf 40 = .ok (.invokevirtual 322, 3) := by decide +kernel
theorem dX12_sumOf_43 : decode cX12_sumOf 43 = .ok (.invokevirtual 332, 3) := by decide +kernel
theorem dX12_sumOf_46 : decode cX12_sumOf 46 = .ok (.i2l, 1) := by decide +kernel
theorem dX12_sumOf_47 : decode cX12_sumOf 47 = .ok (.ladd, 1) := by decide +kernel
theorem dX12_sumOf_48 : decode cX12_sumOf 48 = .ok (.lstore 5, 2) := by decide +kernel
theorem dX12_sumOf_50 : decode cX12_sumOf 50 = .ok (.iinc 7 1, 3) := by decide +kernel
theorem dX12_sumOf_53 : decode cX12_sumOf 53 = .ok (.goto (-47), 3) := by decide +kernel
theorem dX12_sumOf_56 : decode cX12_sumOf 56 = .ok (.lload 5, 2) := by decide +kernel
theorem dX12_sumOf_58 : decode cX12_sumOf 58 = .ok (.lreturn, 1) := by decide +kernel
def X12_sumOf_b50 (u : gM) (k6 : Int32 → Int32 → Int32 → Int32 → Int64 → Int32 → Option Int64) (x1 : Int32) (x2 : Int32) (x3 : Int32) (x4 : Int32) (x5 : Int64) (x7 : Int32) : Option Int64 :=
(k6 x1 x2 x3 x4 x5 (x7 + 1))
def X12_sumOf_b6 (u : gM) (k6 : Int32 → Int32 → Int32 → Int32 → Int64 → Int32 → Option Int64) (x1 : Int32) (x2 : Int32) (x3 : Int32) (x4 : Int32) (x5 : Int64) (x7 : Int32) : Option Int64 :=
((aI skM u 1 2).bind fun v13 => (if v13 ≤ x7 then some x5
  else ((X12_isInGroup u x7 x1 x2 x3 x4).bind fun w25 => (if w25 = 0 then (X12_sumOf_b50 u k6 x1 x2 x3 x4 x5 x7)
    else ((X12_ownerAt u x7 x1).bind fun w40 => ((X12_shareOf u x7 w40).bind fun w43 => (X12_sumOf_b50 u k6 x1 x2 x3 x4 (x5 + w43.toInt64) x7)))))))
def X12_sumOf_l6 (u : gM)  : Nat → Int32 → Int32 → Int32 → Int32 → Int64 → Int32 → Option Int64
  | 0, _, _, _, _, _, _ => none
  | n + 1, x1, x2, x3, x4, x5, x7 => X12_sumOf_b6 u  (X12_sumOf_l6 u  n) x1 x2 x3 x4 x5 x7
def X12_sumOf (u : gM)  (x1 : Int32) (x2 : Int32) (x3 : Int32) (x4 : Int32) : Option Int64 :=
(X12_sumOf_l6 u fz x1 x2 x3 x4 0 0)
set_option maxRecDepth 20000 in
theorem v_X12_sumOf_b50 {κ : gK} {B : Nat} {u : gM} (X : gX κ B skM cX12_sumOf 8 RX12 (some .long) 4 98) {k6 : Int32 → Int32 → Int32 → Int32 → Int64 → Int32 → Option Int64} (ih6 : ∀ (x1 : Int32) (x2 : Int32) (x3 : Int32) (x4 : Int32) (x5 : Int64) (x7 : Int32) (w : Int64), k6 x1 x2 x3 x4 x5 x7 = some w → gV κ B skM 8 ((some (.long w)), u) 6 [some (.ref (B + 0)), some (.int x1), some (.int x2), some (.int x3), some (.int x4), some (.long x5), none, some (.int x7)] [] u) {x1 : Int32} {x2 : Int32} {x3 : Int32} {x4 : Int32} {x5 : Int64} {x7 : Int32} {w : Int64} (hM : X12_sumOf_b50 u k6 x1 x2 x3 x4 x5 x7 = some w) : gV κ B skM 8 ((some (.long w)), u) 50 [some (.ref (B + 0)), some (.int x1), some (.int x2), some (.int x3), some (.int x4), some (.long x5), none, some (.int x7)] [] u := by
  unfold X12_sumOf_b50 at hM
  refine g_iinc (d := 1) X [some (.ref (B + 0)), some (.int x1), some (.int x2), some (.int x3), some (.int x4), some (.long x5), none, some (.int (x7 + 1))] dX12_sumOf_50 (by decide) rfl (by decide) rfl ?_
  refine g_goto (tgt := 6) X dX12_sumOf_53 (by decide) ?_
  refine g_mk [true, true, true, true, true, true, false, true] [some (.ref (B + 0)), some (.int x1), some (.int x2), some (.int x3), some (.int x4), some (.long x5), none, some (.int (x7 + 1))] rfl ?_
  exact ih6 x1 x2 x3 x4 x5 (x7 + 1) _ hM
set_option maxRecDepth 20000 in
theorem v_X12_sumOf_b6 {κ : gK} {B : Nat} {u : gM} (X : gX κ B skM cX12_sumOf 8 RX12 (some .long) 4 98) {k6 : Int32 → Int32 → Int32 → Int32 → Int64 → Int32 → Option Int64} (ih6 : ∀ (x1 : Int32) (x2 : Int32) (x3 : Int32) (x4 : Int32) (x5 : Int64) (x7 : Int32) (w : Int64), k6 x1 x2 x3 x4 x5 x7 = some w → gV κ B skM 8 ((some (.long w)), u) 6 [some (.ref (B + 0)), some (.int x1), some (.int x2), some (.int x3), some (.int x4), some (.long x5), none, some (.int x7)] [] u) {x1 : Int32} {x2 : Int32} {x3 : Int32} {x4 : Int32} {x5 : Int64} {x7 : Int32} {w : Int64} (hM : X12_sumOf_b6 u k6 x1 x2 x3 x4 x5 x7 = some w) : gV κ B skM 8 ((some (.long w)), u) 6 [some (.ref (B + 0)), some (.int x1), some (.int x2), some (.int x3), some (.int x4), some (.long x5), none, some (.int x7)] [] u := by
  unfold X12_sumOf_b6 at hM
  refine g_iload X dX12_sumOf_6 rfl ?_
  refine g_aload_n X dX12_sumOf_8 rfl ?_
  refine g_getR X fX12_7 cM_0 rfl dX12_sumOf_9 ?_
  refine g_iconst X (v := 2) dX12_sumOf_12 (by decide) ?_
  obtain ⟨v13, e13, hM⟩ := bind_of hM
  refine g_iaload X e13 dX12_sumOf_13 ?_
  refine g_icmp_ge (tgt := 56) X dX12_sumOf_14 (by decide) (fun c14 => ?_) (fun c14 => ?_)
  · rw [if_pos c14] at hM
    refine g_lload X dX12_sumOf_56 rfl ?_
    cases hM
    exact g_lret X dX12_sumOf_58
  · rw [if_neg c14] at hM
    refine g_aload_n X dX12_sumOf_17 rfl ?_
    refine g_iload X dX12_sumOf_18 rfl ?_
    refine g_iload_n X dX12_sumOf_20 rfl ?_
    refine g_iload_n X dX12_sumOf_21 rfl ?_
    refine g_iload_n X dX12_sumOf_22 rfl ?_
    refine g_iload X dX12_sumOf_23 rfl ?_
    obtain ⟨w25, e25, hM⟩ := bind_of hM
    refine g_callVi X (fun B adK => [.int x7, .int x1, .int x2, .int x3, .int x4]) (s_X12_isInGroup e25) cvX12_328 cM_0 rfl rfl (Nat.le_of_ble_eq_true rfl) ⟨by decide, by decide⟩ dX12_sumOf_25 ?_
    refine g_if_eq (tgt := 50) X dX12_sumOf_28 (by decide) (fun c28 => ?_) (fun c28 => ?_)
    · rw [if_pos c28] at hM
      refine g_mk [true, true, true, true, true, true, false, true] [some (.ref (B + 0)), some (.int x1), some (.int x2), some (.int x3), some (.int x4), some (.long x5), none, some (.int x7)] rfl ?_
      exact v_X12_sumOf_b50 X ih6 hM
    · rw [if_neg c28] at hM
      refine g_lload X dX12_sumOf_31 rfl ?_
      refine g_aload_n X dX12_sumOf_33 rfl ?_
      refine g_iload X dX12_sumOf_34 rfl ?_
      refine g_aload_n X dX12_sumOf_36 rfl ?_
      refine g_iload X dX12_sumOf_37 rfl ?_
      refine g_iload_n X dX12_sumOf_39 rfl ?_
      obtain ⟨w40, e40, hM⟩ := bind_of hM
      refine g_callVi X (fun B adK => [.int x7, .int x1]) (s_X12_ownerAt e40) cvX12_322 cM_0 rfl rfl (Nat.le_of_ble_eq_true rfl) ⟨by decide, by decide⟩ dX12_sumOf_40 ?_
      obtain ⟨w43, e43, hM⟩ := bind_of hM
      refine g_callVi X (fun B adK => [.int x7, .int w40]) (s_X12_shareOf e43) cvX12_332 cM_0 rfl rfl (Nat.le_of_ble_eq_true rfl) ⟨by decide, by decide⟩ dX12_sumOf_43 ?_
      refine g_i2l X dX12_sumOf_46 ?_
      refine g_ladd X dX12_sumOf_47 ?_
      refine g_lstore X [some (.ref (B + 0)), some (.int x1), some (.int x2), some (.int x3), some (.int x4), some (.long (x5 + w43.toInt64)), none, some (.int x7)] dX12_sumOf_48 (by decide) rfl ?_
      refine g_mk [true, true, true, true, true, true, false, true] [some (.ref (B + 0)), some (.int x1), some (.int x2), some (.int x3), some (.int x4), some (.long (x5 + w43.toInt64)), none, some (.int x7)] rfl ?_
      exact v_X12_sumOf_b50 X ih6 hM
theorem v_X12_sumOf_l6 {κ : gK} {B : Nat} {u : gM} (X : gX κ B skM cX12_sumOf 8 RX12 (some .long) 4 98)   : ∀ (n : Nat) {x1 : Int32} {x2 : Int32} {x3 : Int32} {x4 : Int32} {x5 : Int64} {x7 : Int32} {w : Int64} (hM : X12_sumOf_l6 u  n x1 x2 x3 x4 x5 x7 = some w), gV κ B skM 8 ((some (.long w)), u) 6 [some (.ref (B + 0)), some (.int x1), some (.int x2), some (.int x3), some (.int x4), some (.long x5), none, some (.int x7)] [] u := by
  intro n
  induction n with
  | zero => intro x1 x2 x3 x4 x5 x7 w hM; exact nomatch (show (none : Option Int64) = some w from hM)
  | succ n ihn => intro x1 x2 x3 x4 x5 x7 w hM; exact v_X12_sumOf_b6 X  (fun x1 x2 x3 x4 x5 x7 w h => ihn h) hM
set_option maxRecDepth 20000 in
theorem v_X12_sumOf {κ : gK} {B : Nat} {u : gM} (X : gX κ B skM cX12_sumOf 8 RX12 (some .long) 4 98)   {x1 : Int32} {x2 : Int32} {x3 : Int32} {x4 : Int32} {w : Int64} (hM : X12_sumOf u x1 x2 x3 x4 = some w) : gV κ B skM 8 ((some (.long w)), u) 0 [some (.ref (B + 0)), some (.int x1), some (.int x2), some (.int x3), some (.int x4), none, none, none] [] u := by
  unfold X12_sumOf at hM
  refine g_lconst (v := 0) X dX12_sumOf_0 (by decide) ?_
  refine g_lstore X [some (.ref (B + 0)), some (.int x1), some (.int x2), some (.int x3), some (.int x4), some (.long 0), none, none] dX12_sumOf_1 (by decide) rfl ?_
  refine g_iconst X (v := 0) dX12_sumOf_3 (by decide) ?_
  refine g_istore X [some (.ref (B + 0)), some (.int x1), some (.int x2), some (.int x3), some (.int x4), some (.long 0), none, some (.int 0)] dX12_sumOf_4 (by decide) rfl ?_
  refine g_mk [true, true, true, true, true, true, false, true] [some (.ref (B + 0)), some (.int x1), some (.int x2), some (.int x3), some (.int x4), some (.long 0), none, some (.int 0)] rfl ?_
  exact v_X12_sumOf_l6 X  fz hM
theorem s_X12_sumOf {x1 : Int32} {x2 : Int32} {x3 : Int32} {x4 : Int32} {u : gM} {w : Int64} (hM : X12_sumOf u x1 x2 x3 x4 = some w) : gMet skM yX12_sumOf cX12_sumOf 8 (some .long) 4 98 (fun B adK => [.ref (B + 0), .int x1, .int x2, .int x3, .int x4]) u ((fun _ => some (.long w)), u) := by
  refine gMet.of (by decide) (fun _ _ => Nat.le_of_ble_eq_true rfl) (fun κ B X => ?_)
  have X : gX κ B skM cX12_sumOf 8 RX12 (some .long) 4 98 := X
  refine g_mk [true, true, true, true, true, false, false, false] [some (.ref (B + 0)), some (.int x1), some (.int x2), some (.int x3), some (.int x4), none, none, none] rfl ?_
  exact v_X12_sumOf X  hM

/-! CoverDeskModel.insuredOf(II)J -/
theorem dX12_insuredOf_0 : decode cX12_insuredOf 0 = .ok (.lconst 0, 1) := by decide +kernel
theorem dX12_insuredOf_1 : decode cX12_insuredOf 1 = .ok (.lstore_n 3, 1) := by decide +kernel
theorem dX12_insuredOf_2 : decode cX12_insuredOf 2 = .ok (.iconst 0, 1) := by decide +kernel
theorem dX12_insuredOf_3 : decode cX12_insuredOf 3 = .ok (.istore 5, 2) := by decide +kernel
theorem dX12_insuredOf_5 : decode cX12_insuredOf 5 = .ok (.iload 5, 2) := by decide +kernel
theorem dX12_insuredOf_7 : decode cX12_insuredOf 7 = .ok (.iconst 5, 1) := by decide +kernel
theorem dX12_insuredOf_8 : decode cX12_insuredOf 8 = .ok (.if_icmp .ge 55, 3) := by decide +kernel
theorem dX12_insuredOf_11 : decode cX12_insuredOf 11 = .ok (.iconst 0, 1) := by decide +kernel
theorem dX12_insuredOf_12 : decode cX12_insuredOf 12 = .ok (.istore 6, 2) := by decide +kernel
theorem dX12_insuredOf_14 : decode cX12_insuredOf 14 = .ok (.iload 6, 2) := by decide +kernel
theorem dX12_insuredOf_16 : decode cX12_insuredOf 16 = .ok (.aload_n 0, 1) := by decide +kernel
theorem dX12_insuredOf_17 : decode cX12_insuredOf 17 = .ok (.getfield 7, 3) := by decide +kernel
theorem dX12_insuredOf_20 : decode cX12_insuredOf 20 = .ok (.iconst 1, 1) := by decide +kernel
theorem dX12_insuredOf_21 : decode cX12_insuredOf 21 = .ok (.iaload, 1) := by decide +kernel
theorem dX12_insuredOf_22 : decode cX12_insuredOf 22 = .ok (.if_icmp .ge 35, 3) := by decide +kernel
theorem dX12_insuredOf_25 : decode cX12_insuredOf 25 = .ok (.lload_n 3, 1) := by decide +kernel
theorem dX12_insuredOf_26 : decode cX12_insuredOf 26 = .ok (.aload_n 0, 1) := by decide +kernel
theorem dX12_insuredOf_27 : decode cX12_insuredOf 27 = .ok (.iload_n 1, 1) := by decide +kernel
theorem dX12_insuredOf_28 : decode cX12_insuredOf 28 = .ok (.iload 5, 2) := by decide +kernel
theorem dX12_insuredOf_30 : decode cX12_insuredOf 30 = .ok (.iload 6, 2) := by decide +kernel
theorem dX12_insuredOf_32 : decode cX12_insuredOf 32 = .ok (.iload_n 2, 1) := by decide +kernel
theorem dX12_insuredOf_33 : decode cX12_insuredOf 33 = .ok (.invokevirtual 355, 3) := by decide +kernel
theorem dX12_insuredOf_36 : decode cX12_insuredOf 36 = .ok (.aload_n 0, 1) := by decide +kernel
theorem dX12_insuredOf_37 : decode cX12_insuredOf 37 = .ok (.iload_n 1, 1) := by decide +kernel
theorem dX12_insuredOf_38 : decode cX12_insuredOf 38 = .ok (.iload 5, 2) := by decide +kernel
theorem dX12_insuredOf_40 : decode cX12_insuredOf 40 = .ok (.iload 6, 2) := by decide +kernel
theorem dX12_insuredOf_42 : decode cX12_insuredOf 42 = .ok (.iload_n 2, 1) := by decide +kernel
theorem dX12_insuredOf_43 : decode cX12_insuredOf 43 = .ok (.invokevirtual 347, 3) := by decide +kernel
theorem dX12_insuredOf_46 : decode cX12_insuredOf 46 = .ok (.invokestatic 338, 3) := by decide +kernel
theorem dX12_insuredOf_49 : decode cX12_insuredOf 49 = .ok (.ladd, 1) := by decide +kernel
theorem dX12_insuredOf_50 : decode cX12_insuredOf 50 = .ok (.lstore_n 3, 1) := by decide +kernel
theorem dX12_insuredOf_51 : decode cX12_insuredOf 51 = .ok (.iinc 6 1, 3) := by decide +kernel
theorem dX12_insuredOf_54 : decode cX12_insuredOf 54 = .ok (.goto (-40), 3) := by decide +kernel
theorem dX12_insuredOf_57 : decode cX12_insuredOf 57 = .ok (.iinc 5 1, 3) := by decide +kernel
theorem dX12_insuredOf_60 : decode cX12_insuredOf 60 = .ok (.goto (-55), 3) := by decide +kernel
theorem dX12_insuredOf_63 : decode cX12_insuredOf 63 = .ok (.lload_n 3, 1) := by decide +kernel
theorem dX12_insuredOf_64 : decode cX12_insuredOf 64 = .ok (.lreturn, 1) := by decide +kernel
def X12_insuredOf_b14 (k5 : Int32 → Int32 → Int64 → Int32 → gM → Option (Int64 × gM)) (k14 : Int32 → Int32 → Int64 → Int32 → Int32 → gM → Option (Int64 × gM)) (x1 : Int32) (x2 : Int32) (x3 : Int64) (x5 : Int32) (x6 : Int32) (u : gM) : Option (Int64 × gM) :=
((aI skM u 1 1).bind fun v21 => (if v21 ≤ x6 then (k5 x1 x2 x3 (x5 + 1) u)
  else ((X12_sumOf u x1 x5 x6 x2).bind fun w33 => ((X12_mostOf x1 x5 x6 x2 u).bind fun w43 => (k14 x1 x2 (x3 + (mnJ w33 w43.1)) x5 (x6 + 1) w43.2)))))
def X12_insuredOf_l14 (k5 : Int32 → Int32 → Int64 → Int32 → gM → Option (Int64 × gM)) : Nat → Int32 → Int32 → Int64 → Int32 → Int32 → gM → Option (Int64 × gM)
  | 0, _, _, _, _, _, _ => none
  | n + 1, x1, x2, x3, x5, x6, u => X12_insuredOf_b14 k5 (X12_insuredOf_l14 k5 n) x1 x2 x3 x5 x6 u
def X12_insuredOf_b5 (k5 : Int32 → Int32 → Int64 → Int32 → gM → Option (Int64 × gM)) (x1 : Int32) (x2 : Int32) (x3 : Int64) (x5 : Int32) (u : gM) : Option (Int64 × gM) :=
(if 5 ≤ x5 then some (x3, u)
  else (X12_insuredOf_l14 k5 fz x1 x2 x3 x5 0 u))
def X12_insuredOf_l5  : Nat → Int32 → Int32 → Int64 → Int32 → gM → Option (Int64 × gM)
  | 0, _, _, _, _, _ => none
  | n + 1, x1, x2, x3, x5, u => X12_insuredOf_b5  (X12_insuredOf_l5  n) x1 x2 x3 x5 u
def X12_insuredOf  (x1 : Int32) (x2 : Int32) (u : gM) : Option (Int64 × gM) :=
(X12_insuredOf_l5 fz x1 x2 0 0 u)
set_option maxRecDepth 20000 in
theorem v_X12_insuredOf_b14 {κ : gK} {B : Nat} {u : gM} (X : gX κ B skM cX12_insuredOf 7 RX12 (some .long) 5 128) {k5 : Int32 → Int32 → Int64 → Int32 → gM → Option (Int64 × gM)} {k14 : Int32 → Int32 → Int64 → Int32 → Int32 → gM → Option (Int64 × gM)} (ih5 : ∀ (x1 : Int32) (x2 : Int32) (x3 : Int64) (x5 : Int32) (u : gM) (w : (Int64 × gM)), k5 x1 x2 x3 x5 u = some w → gV κ B skM 7 ((some (.long w.1)), w.2) 5 [some (.ref (B + 0)), some (.int x1), some (.int x2), some (.long x3), none, some (.int x5), none] [] u) (ih14 : ∀ (x1 : Int32) (x2 : Int32) (x3 : Int64) (x5 : Int32) (x6 : Int32) (u : gM) (w : (Int64 × gM)), k14 x1 x2 x3 x5 x6 u = some w → gV κ B skM 7 ((some (.long w.1)), w.2) 14 [some (.ref (B + 0)), some (.int x1), some (.int x2), some (.long x3), none, some (.int x5), some (.int x6)] [] u) {x1 : Int32} {x2 : Int32} {x3 : Int64} {x5 : Int32} {x6 : Int32} {w : (Int64 × gM)} (hM : X12_insuredOf_b14 k5 k14 x1 x2 x3 x5 x6 u = some w) : gV κ B skM 7 ((some (.long w.1)), w.2) 14 [some (.ref (B + 0)), some (.int x1), some (.int x2), some (.long x3), none, some (.int x5), some (.int x6)] [] u := by
  unfold X12_insuredOf_b14 at hM
  refine g_iload X dX12_insuredOf_14 rfl ?_
  refine g_aload_n X dX12_insuredOf_16 rfl ?_
  refine g_getR X fX12_7 cM_0 rfl dX12_insuredOf_17 ?_
  refine g_iconst X (v := 1) dX12_insuredOf_20 (by decide) ?_
  obtain ⟨v21, e21, hM⟩ := bind_of hM
  refine g_iaload X e21 dX12_insuredOf_21 ?_
  refine g_icmp_ge (tgt := 57) X dX12_insuredOf_22 (by decide) (fun c22 => ?_) (fun c22 => ?_)
  · rw [if_pos c22] at hM
    refine g_iinc (d := 1) X [some (.ref (B + 0)), some (.int x1), some (.int x2), some (.long x3), none, some (.int (x5 + 1)), some (.int x6)] dX12_insuredOf_57 (by decide) rfl (by decide) rfl ?_
    refine g_goto (tgt := 5) X dX12_insuredOf_60 (by decide) ?_
    refine g_mk [true, true, true, true, false, true, false] [some (.ref (B + 0)), some (.int x1), some (.int x2), some (.long x3), none, some (.int (x5 + 1)), none] rfl ?_
    exact ih5 x1 x2 x3 (x5 + 1) u _ hM
  · rw [if_neg c22] at hM
    refine g_lload_n X dX12_insuredOf_25 rfl ?_
    refine g_aload_n X dX12_insuredOf_26 rfl ?_
    refine g_iload_n X dX12_insuredOf_27 rfl ?_
    refine g_iload X dX12_insuredOf_28 rfl ?_
    refine g_iload X dX12_insuredOf_30 rfl ?_
    refine g_iload_n X dX12_insuredOf_32 rfl ?_
    obtain ⟨w33, e33, hM⟩ := bind_of hM
    refine g_callVl X (fun B adK => [.int x1, .int x5, .int x6, .int x2]) (s_X12_sumOf e33) cvX12_355 cM_0 rfl rfl (Nat.le_of_ble_eq_true rfl) ⟨by decide, by decide⟩ dX12_insuredOf_33 ?_
    refine g_aload_n X dX12_insuredOf_36 rfl ?_
    refine g_iload_n X dX12_insuredOf_37 rfl ?_
    refine g_iload X dX12_insuredOf_38 rfl ?_
    refine g_iload X dX12_insuredOf_40 rfl ?_
    refine g_iload_n X dX12_insuredOf_42 rfl ?_
    obtain ⟨w43, e43, hM⟩ := bind_of hM
    refine g_callVl X (fun B adK => [.int x1, .int x5, .int x6, .int x2]) (s_X12_mostOf e43) cvX12_347 cM_0 rfl rfl (Nat.le_of_ble_eq_true rfl) ⟨by decide, by decide⟩ dX12_insuredOf_43 ?_
    refine g_minJ X m_43_5 ⟨by decide, Nat.le_of_ble_eq_true rfl⟩ dX12_insuredOf_46 ?_
    refine g_ladd X dX12_insuredOf_49 ?_
    refine g_lstore_n X [some (.ref (B + 0)), some (.int x1), some (.int x2), some (.long (x3 + (mnJ w33 w43.1))), none, some (.int x5), some (.int x6)] dX12_insuredOf_50 (by decide) rfl ?_
    refine g_iinc (d := 1) X [some (.ref (B + 0)), some (.int x1), some (.int x2), some (.long (x3 + (mnJ w33 w43.1))), none, some (.int x5), some (.int (x6 + 1))] dX12_insuredOf_51 (by decide) rfl (by decide) rfl ?_
    refine g_goto (tgt := 14) X dX12_insuredOf_54 (by decide) ?_
    refine g_mk [true, true, true, true, false, true, true] [some (.ref (B + 0)), some (.int x1), some (.int x2), some (.long (x3 + (mnJ w33 w43.1))), none, some (.int x5), some (.int (x6 + 1))] rfl ?_
    exact ih14 x1 x2 (x3 + (mnJ w33 w43.1)) x5 (x6 + 1) w43.2 _ hM
theorem v_X12_insuredOf_l14 {κ : gK} {B : Nat} (X : gX κ B skM cX12_insuredOf 7 RX12 (some .long) 5 128) {k5 : Int32 → Int32 → Int64 → Int32 → gM → Option (Int64 × gM)} (ih5 : ∀ (x1 : Int32) (x2 : Int32) (x3 : Int64) (x5 : Int32) (u : gM) (w : (Int64 × gM)), k5 x1 x2 x3 x5 u = some w → gV κ B skM 7 ((some (.long w.1)), w.2) 5 [some (.ref (B + 0)), some (.int x1), some (.int x2), some (.long x3), none, some (.int x5), none] [] u) : ∀ (n : Nat) {x1 : Int32} {x2 : Int32} {x3 : Int64} {x5 : Int32} {x6 : Int32} {u : gM} {w : (Int64 × gM)} (hM : X12_insuredOf_l14 k5 n x1 x2 x3 x5 x6 u = some w), gV κ B skM 7 ((some (.long w.1)), w.2) 14 [some (.ref (B + 0)), some (.int x1), some (.int x2), some (.long x3), none, some (.int x5), some (.int x6)] [] u := by
  intro n
  induction n with
  | zero => intro x1 x2 x3 x5 x6 u w hM; exact nomatch (show (none : Option (Int64 × gM)) = some w from hM)
  | succ n ihn => intro x1 x2 x3 x5 x6 u w hM; exact v_X12_insuredOf_b14 X ih5 (fun x1 x2 x3 x5 x6 u w h => ihn h) hM
set_option maxRecDepth 20000 in
theorem v_X12_insuredOf_b5 {κ : gK} {B : Nat} {u : gM} (X : gX κ B skM cX12_insuredOf 7 RX12 (some .long) 5 128) {k5 : Int32 → Int32 → Int64 → Int32 → gM → Option (Int64 × gM)} (ih5 : ∀ (x1 : Int32) (x2 : Int32) (x3 : Int64) (x5 : Int32) (u : gM) (w : (Int64 × gM)), k5 x1 x2 x3 x5 u = some w → gV κ B skM 7 ((some (.long w.1)), w.2) 5 [some (.ref (B + 0)), some (.int x1), some (.int x2), some (.long x3), none, some (.int x5), none] [] u) {x1 : Int32} {x2 : Int32} {x3 : Int64} {x5 : Int32} {w : (Int64 × gM)} (hM : X12_insuredOf_b5 k5 x1 x2 x3 x5 u = some w) : gV κ B skM 7 ((some (.long w.1)), w.2) 5 [some (.ref (B + 0)), some (.int x1), some (.int x2), some (.long x3), none, some (.int x5), none] [] u := by
  unfold X12_insuredOf_b5 at hM
  refine g_iload X dX12_insuredOf_5 rfl ?_
  refine g_iconst X (v := 5) dX12_insuredOf_7 (by decide) ?_
  refine g_icmp_ge (tgt := 63) X dX12_insuredOf_8 (by decide) (fun c8 => ?_) (fun c8 => ?_)
  · rw [if_pos c8] at hM
    refine g_lload_n X dX12_insuredOf_63 rfl ?_
    cases hM
    exact g_lret X dX12_insuredOf_64
  · rw [if_neg c8] at hM
    refine g_iconst X (v := 0) dX12_insuredOf_11 (by decide) ?_
    refine g_istore X [some (.ref (B + 0)), some (.int x1), some (.int x2), some (.long x3), none, some (.int x5), some (.int 0)] dX12_insuredOf_12 (by decide) rfl ?_
    refine g_mk [true, true, true, true, false, true, true] [some (.ref (B + 0)), some (.int x1), some (.int x2), some (.long x3), none, some (.int x5), some (.int 0)] rfl ?_
    exact v_X12_insuredOf_l14 X ih5 fz hM
theorem v_X12_insuredOf_l5 {κ : gK} {B : Nat} (X : gX κ B skM cX12_insuredOf 7 RX12 (some .long) 5 128)   : ∀ (n : Nat) {x1 : Int32} {x2 : Int32} {x3 : Int64} {x5 : Int32} {u : gM} {w : (Int64 × gM)} (hM : X12_insuredOf_l5  n x1 x2 x3 x5 u = some w), gV κ B skM 7 ((some (.long w.1)), w.2) 5 [some (.ref (B + 0)), some (.int x1), some (.int x2), some (.long x3), none, some (.int x5), none] [] u := by
  intro n
  induction n with
  | zero => intro x1 x2 x3 x5 u w hM; exact nomatch (show (none : Option (Int64 × gM)) = some w from hM)
  | succ n ihn => intro x1 x2 x3 x5 u w hM; exact v_X12_insuredOf_b5 X  (fun x1 x2 x3 x5 u w h => ihn h) hM
set_option maxRecDepth 20000 in
theorem v_X12_insuredOf {κ : gK} {B : Nat} {u : gM} (X : gX κ B skM cX12_insuredOf 7 RX12 (some .long) 5 128)   {x1 : Int32} {x2 : Int32} {w : (Int64 × gM)} (hM : X12_insuredOf x1 x2 u = some w) : gV κ B skM 7 ((some (.long w.1)), w.2) 0 [some (.ref (B + 0)), some (.int x1), some (.int x2), none, none, none, none] [] u := by
  unfold X12_insuredOf at hM
  refine g_lconst (v := 0) X dX12_insuredOf_0 (by decide) ?_
  refine g_lstore_n X [some (.ref (B + 0)), some (.int x1), some (.int x2), some (.long 0), none, none, none] dX12_insuredOf_1 (by decide) rfl ?_
  refine g_iconst X (v := 0) dX12_insuredOf_2 (by decide) ?_
  refine g_istore X [some (.ref (B + 0)), some (.int x1), some (.int x2), some (.long 0), none, some (.int 0), none] dX12_insuredOf_3 (by decide) rfl ?_
  refine g_mk [true, true, true, true, false, true, false] [some (.ref (B + 0)), some (.int x1), some (.int x2), some (.long 0), none, some (.int 0), none] rfl ?_
  exact v_X12_insuredOf_l5 X  fz hM
theorem s_X12_insuredOf {x1 : Int32} {x2 : Int32} {u : gM} {w : (Int64 × gM)} (hM : X12_insuredOf x1 x2 u = some w) : gMet skM yX12_insuredOf cX12_insuredOf 7 (some .long) 5 128 (fun B adK => [.ref (B + 0), .int x1, .int x2]) u ((fun _ => some (.long w.1)), w.2) := by
  refine gMet.of (by decide) (fun _ _ => Nat.le_of_ble_eq_true rfl) (fun κ B X => ?_)
  have X : gX κ B skM cX12_insuredOf 7 RX12 (some .long) 5 128 := X
  refine g_mk [true, true, true, false, false, false, false] [some (.ref (B + 0)), some (.int x1), some (.int x2), none, none, none, none] rfl ?_
  exact v_X12_insuredOf X  hM
theorem fr_X12_insuredOf_b14 {S : Nat → Prop} {u0 u : gM} {x1 : Int32} {x2 : Int32} {x3 : Int64} {x5 : Int32} {x6 : Int32} (hs0 : S 20) {k5 : Int32 → Int32 → Int64 → Int32 → gM → Option (Int64 × gM)} {k14 : Int32 → Int32 → Int64 → Int32 → Int32 → gM → Option (Int64 × gM)} (ik5 : ∀ (x1 : Int32) (x2 : Int32) (x3 : Int64) (x5 : Int32) (u : gM) (w : (Int64 × gM)), S 20 → off S u0 u → k5 x1 x2 x3 x5 u = some w → off S u0 w.2) (ik14 : ∀ (x1 : Int32) (x2 : Int32) (x3 : Int64) (x5 : Int32) (x6 : Int32) (u : gM) (w : (Int64 × gM)), S 20 → off S u0 u → k14 x1 x2 x3 x5 x6 u = some w → off S u0 w.2) {w : (Int64 × gM)} (hM : X12_insuredOf_b14 k5 k14 x1 x2 x3 x5 x6 u = some w) (h0 : off S u0 u) : off S u0 w.2 := by
  unfold X12_insuredOf_b14 at hM
  obtain ⟨v21, e21, hM⟩ := bind_of hM
  by_cases c22 : v21 ≤ x6
  · rw [if_pos c22] at hM
    exact ik5 _ _ _ _ _ _ hs0 h0 hM
  · rw [if_neg c22] at hM
    obtain ⟨w33, e33, hM⟩ := bind_of hM
    obtain ⟨w43, e43, hM⟩ := bind_of hM
    have h0 := fr_X12_mostOf hs0 e43 h0
    exact ik14 _ _ _ _ _ _ _ hs0 h0 hM
theorem fr_X12_insuredOf_l14 {S : Nat → Prop} {u0 : gM} {k5 : Int32 → Int32 → Int64 → Int32 → gM → Option (Int64 × gM)} (ik5 : ∀ (x1 : Int32) (x2 : Int32) (x3 : Int64) (x5 : Int32) (u : gM) (w : (Int64 × gM)), S 20 → off S u0 u → k5 x1 x2 x3 x5 u = some w → off S u0 w.2) : ∀ (n : Nat) {x1 : Int32} {x2 : Int32} {x3 : Int64} {x5 : Int32} {x6 : Int32} (hs0 : S 20) {u : gM} {w : (Int64 × gM)} (h0 : off S u0 u) (hM : X12_insuredOf_l14 k5 n x1 x2 x3 x5 x6 u = some w), off S u0 w.2 := by
  intro n
  induction n with
  | zero => intro x1 x2 x3 x5 x6 hs0 u w h0 hM; exact nomatch (show (none : Option (Int64 × gM)) = some w from hM)
  | succ n ihn => intro x1 x2 x3 x5 x6 hs0 u w h0 hM; exact fr_X12_insuredOf_b14 hs0 ik5 (fun x1 x2 x3 x5 x6 _ _ hs0 h0 h => ihn hs0 h0 h) hM h0
theorem fr_X12_insuredOf_b5 {S : Nat → Prop} {u0 u : gM} {x1 : Int32} {x2 : Int32} {x3 : Int64} {x5 : Int32} (hs0 : S 20) {k5 : Int32 → Int32 → Int64 → Int32 → gM → Option (Int64 × gM)} (ik5 : ∀ (x1 : Int32) (x2 : Int32) (x3 : Int64) (x5 : Int32) (u : gM) (w : (Int64 × gM)), S 20 → off S u0 u → k5 x1 x2 x3 x5 u = some w → off S u0 w.2) {w : (Int64 × gM)} (hM : X12_insuredOf_b5 k5 x1 x2 x3 x5 u = some w) (h0 : off S u0 u) : off S u0 w.2 := by
  unfold X12_insuredOf_b5 at hM
  by_cases c8 : 5 ≤ x5
  · rw [if_pos c8] at hM
    cases hM
    exact h0
  · rw [if_neg c8] at hM
    exact fr_X12_insuredOf_l14 ik5 fz hs0 h0 hM
theorem fr_X12_insuredOf_l5 {S : Nat → Prop} {u0 : gM}   : ∀ (n : Nat) {x1 : Int32} {x2 : Int32} {x3 : Int64} {x5 : Int32} (hs0 : S 20) {u : gM} {w : (Int64 × gM)} (h0 : off S u0 u) (hM : X12_insuredOf_l5  n x1 x2 x3 x5 u = some w), off S u0 w.2 := by
  intro n
  induction n with
  | zero => intro x1 x2 x3 x5 hs0 u w h0 hM; exact nomatch (show (none : Option (Int64 × gM)) = some w from hM)
  | succ n ihn => intro x1 x2 x3 x5 hs0 u w h0 hM; exact fr_X12_insuredOf_b5 hs0  (fun x1 x2 x3 x5 _ _ hs0 h0 h => ihn hs0 h0 h) hM h0
theorem fr_X12_insuredOf {S : Nat → Prop} {u0 u : gM} {x1 : Int32} {x2 : Int32} (hs0 : S 20)   {w : (Int64 × gM)} (hM : X12_insuredOf x1 x2 u = some w) (h0 : off S u0 u) : off S u0 w.2 := by
  unfold X12_insuredOf at hM
  exact fr_X12_insuredOf_l5  fz hs0 h0 hM
/-! CoverDeskModel.insuredAll()J -/
theorem dX12_insuredAll_0 : decode cX12_insuredAll 0 = .ok (.lconst 0, 1) := by decide +kernel
theorem dX12_insuredAll_1 : decode cX12_insuredAll 1 = .ok (.lstore_n 1, 1) := by decide +kernel
theorem dX12_insuredAll_2 : decode cX12_insuredAll 2 = .ok (.iconst 0, 1) := by decide +kernel
theorem dX12_insuredAll_3 : decode cX12_insuredAll 3 = .ok (.istore_n 3, 1) := by decide +kernel
theorem dX12_insuredAll_4 : decode cX12_insuredAll 4 = .ok (.iload_n 3, 1) := by decide +kernel
theorem dX12_insuredAll_5 : decode cX12_insuredAll 5 = .ok (.aload_n 0, 1) := by decide +kernel
theorem dX12_insuredAll_6 : decode cX12_insuredAll 6 = .ok (.getfield 7, 3) := by decide +kernel
theorem dX12_insuredAll_9 : decode cX12_insuredAll 9 = .ok (.iconst 0, 1) := by decide +kernel
theorem dX12_insuredAll_10 : decode cX12_insuredAll 10 = .ok (.iaload, 1) := by decide +kernel
theorem dX12_insuredAll_11 : decode cX12_insuredAll 11 = .ok (.if_icmp .ge 23, 3) := by decide +kernel
theorem dX12_insuredAll_14 : decode cX12_insuredAll 14 = .ok (.lload_n 1, 1) := by decide +kernel
theorem dX12_insuredAll_15 : decode cX12_insuredAll 15 = .ok (.aload_n 0, 1) := by decide +kernel
theorem dX12_insuredAll_16 : decode cX12_insuredAll 16 = .ok (.iload_n 3, 1) := by decide +kernel
theorem dX12_insuredAll_17 : decode cX12_insuredAll 17 = .ok (.aload_n 0, 1) := by decide +kernel
theorem dX12_insuredAll_18 : decode cX12_insuredAll 18 = .ok (.getfield 56, 3) := by decide +kernel
theorem dX12_insuredAll_21 : decode cX12_insuredAll 21 = .ok (.iconst 0, 1) := by decide +kernel
theorem dX12_insuredAll_22 : decode cX12_insuredAll 22 = .ok (.iaload, 1) := by decide +kernel
theorem dX12_insuredAll_23 : decode cX12_insuredAll 23 = .ok (.invokevirtual 358, 3) := by decide +kernel
theorem dX12_insuredAll_26 : decode cX12_insuredAll 26 = .ok (.ladd, 1) := by decide +kernel
theorem dX12_insuredAll_27 : decode cX12_insuredAll 27 = .ok (.lstore_n 1, 1) := by decide +kernel
theorem dX12_insuredAll_28 : decode cX12_insuredAll 28 = .ok (.iinc 3 1, 3) := by decide +kernel
theorem dX12_insuredAll_31 : decode cX12_insuredAll 31 = .ok (.goto (-27), 3) := by decide +kernel
theorem dX12_insuredAll_34 : decode cX12_insuredAll 34 = .ok (.lload_n 1, 1) := by decide +kernel
theorem dX12_insuredAll_35 : decode cX12_insuredAll 35 = .ok (.lreturn, 1) := by decide +kernel
def X12_insuredAll_b4 (k4 : Int64 → Int32 → gM → Option (Int64 × gM)) (x1 : Int64) (x3 : Int32) (u : gM) : Option (Int64 × gM) :=
((aI skM u 1 0).bind fun v10 => (if v10 ≤ x3 then some (x1, u)
  else ((aI skM u 16 0).bind fun v22 => ((X12_insuredOf x3 v22 u).bind fun w23 => (k4 (x1 + w23.1) (x3 + 1) w23.2)))))
def X12_insuredAll_l4  : Nat → Int64 → Int32 → gM → Option (Int64 × gM)
  | 0, _, _, _ => none
  | n + 1, x1, x3, u => X12_insuredAll_b4  (X12_insuredAll_l4  n) x1 x3 u
def X12_insuredAll   (u : gM) : Option (Int64 × gM) :=
(X12_insuredAll_l4 fz 0 0 u)
set_option maxRecDepth 20000 in
theorem v_X12_insuredAll_b4 {κ : gK} {B : Nat} {u : gM} (X : gX κ B skM cX12_insuredAll 4 RX12 (some .long) 6 154) {k4 : Int64 → Int32 → gM → Option (Int64 × gM)} (ih4 : ∀ (x1 : Int64) (x3 : Int32) (u : gM) (w : (Int64 × gM)), k4 x1 x3 u = some w → gV κ B skM 4 ((some (.long w.1)), w.2) 4 [some (.ref (B + 0)), some (.long x1), none, some (.int x3)] [] u) {x1 : Int64} {x3 : Int32} {w : (Int64 × gM)} (hM : X12_insuredAll_b4 k4 x1 x3 u = some w) : gV κ B skM 4 ((some (.long w.1)), w.2) 4 [some (.ref (B + 0)), some (.long x1), none, some (.int x3)] [] u := by
  unfold X12_insuredAll_b4 at hM
  refine g_iload_n X dX12_insuredAll_4 rfl ?_
  refine g_aload_n X dX12_insuredAll_5 rfl ?_
  refine g_getR X fX12_7 cM_0 rfl dX12_insuredAll_6 ?_
  refine g_iconst X (v := 0) dX12_insuredAll_9 (by decide) ?_
  obtain ⟨v10, e10, hM⟩ := bind_of hM
  refine g_iaload X e10 dX12_insuredAll_10 ?_
  refine g_icmp_ge (tgt := 34) X dX12_insuredAll_11 (by decide) (fun c11 => ?_) (fun c11 => ?_)
  · rw [if_pos c11] at hM
    refine g_lload_n X dX12_insuredAll_34 rfl ?_
    cases hM
    exact g_lret X dX12_insuredAll_35
  · rw [if_neg c11] at hM
    refine g_lload_n X dX12_insuredAll_14 rfl ?_
    refine g_aload_n X dX12_insuredAll_15 rfl ?_
    refine g_iload_n X dX12_insuredAll_16 rfl ?_
    refine g_aload_n X dX12_insuredAll_17 rfl ?_
    refine g_getR X fX12_56 cM_0 rfl dX12_insuredAll_18 ?_
    refine g_iconst X (v := 0) dX12_insuredAll_21 (by decide) ?_
    obtain ⟨v22, e22, hM⟩ := bind_of hM
    refine g_iaload X e22 dX12_insuredAll_22 ?_
    obtain ⟨w23, e23, hM⟩ := bind_of hM
    refine g_callVl X (fun B adK => [.int x3, .int v22]) (s_X12_insuredOf e23) cvX12_358 cM_0 rfl rfl (Nat.le_of_ble_eq_true rfl) ⟨by decide, by decide⟩ dX12_insuredAll_23 ?_
    refine g_ladd X dX12_insuredAll_26 ?_
    refine g_lstore_n X [some (.ref (B + 0)), some (.long (x1 + w23.1)), none, some (.int x3)] dX12_insuredAll_27 (by decide) rfl ?_
    refine g_iinc (d := 1) X [some (.ref (B + 0)), some (.long (x1 + w23.1)), none, some (.int (x3 + 1))] dX12_insuredAll_28 (by decide) rfl (by decide) rfl ?_
    refine g_goto (tgt := 4) X dX12_insuredAll_31 (by decide) ?_
    refine g_mk [true, true, false, true] [some (.ref (B + 0)), some (.long (x1 + w23.1)), none, some (.int (x3 + 1))] rfl ?_
    exact ih4 (x1 + w23.1) (x3 + 1) w23.2 _ hM
theorem v_X12_insuredAll_l4 {κ : gK} {B : Nat} (X : gX κ B skM cX12_insuredAll 4 RX12 (some .long) 6 154)   : ∀ (n : Nat) {x1 : Int64} {x3 : Int32} {u : gM} {w : (Int64 × gM)} (hM : X12_insuredAll_l4  n x1 x3 u = some w), gV κ B skM 4 ((some (.long w.1)), w.2) 4 [some (.ref (B + 0)), some (.long x1), none, some (.int x3)] [] u := by
  intro n
  induction n with
  | zero => intro x1 x3 u w hM; exact nomatch (show (none : Option (Int64 × gM)) = some w from hM)
  | succ n ihn => intro x1 x3 u w hM; exact v_X12_insuredAll_b4 X  (fun x1 x3 u w h => ihn h) hM
set_option maxRecDepth 20000 in
theorem v_X12_insuredAll {κ : gK} {B : Nat} {u : gM} (X : gX κ B skM cX12_insuredAll 4 RX12 (some .long) 6 154)    {w : (Int64 × gM)} (hM : X12_insuredAll u = some w) : gV κ B skM 4 ((some (.long w.1)), w.2) 0 [some (.ref (B + 0)), none, none, none] [] u := by
  unfold X12_insuredAll at hM
  refine g_lconst (v := 0) X dX12_insuredAll_0 (by decide) ?_
  refine g_lstore_n X [some (.ref (B + 0)), some (.long 0), none, none] dX12_insuredAll_1 (by decide) rfl ?_
  refine g_iconst X (v := 0) dX12_insuredAll_2 (by decide) ?_
  refine g_istore_n X [some (.ref (B + 0)), some (.long 0), none, some (.int 0)] dX12_insuredAll_3 (by decide) rfl ?_
  refine g_mk [true, true, false, true] [some (.ref (B + 0)), some (.long 0), none, some (.int 0)] rfl ?_
  exact v_X12_insuredAll_l4 X  fz hM
theorem s_X12_insuredAll  {u : gM} {w : (Int64 × gM)} (hM : X12_insuredAll u = some w) : gMet skM yX12_insuredAll cX12_insuredAll 4 (some .long) 6 154 (fun B adK => [.ref (B + 0)]) u ((fun _ => some (.long w.1)), w.2) := by
  refine gMet.of (by decide) (fun _ _ => Nat.le_of_ble_eq_true rfl) (fun κ B X => ?_)
  have X : gX κ B skM cX12_insuredAll 4 RX12 (some .long) 6 154 := X
  refine g_mk [true, false, false, false] [some (.ref (B + 0)), none, none, none] rfl ?_
  exact v_X12_insuredAll X  hM
theorem fr_X12_insuredAll_b4 {S : Nat → Prop} {u0 u : gM} {x1 : Int64} {x3 : Int32} (hs0 : S 20) {k4 : Int64 → Int32 → gM → Option (Int64 × gM)} (ik4 : ∀ (x1 : Int64) (x3 : Int32) (u : gM) (w : (Int64 × gM)), S 20 → off S u0 u → k4 x1 x3 u = some w → off S u0 w.2) {w : (Int64 × gM)} (hM : X12_insuredAll_b4 k4 x1 x3 u = some w) (h0 : off S u0 u) : off S u0 w.2 := by
  unfold X12_insuredAll_b4 at hM
  obtain ⟨v10, e10, hM⟩ := bind_of hM
  by_cases c11 : v10 ≤ x3
  · rw [if_pos c11] at hM
    cases hM
    exact h0
  · rw [if_neg c11] at hM
    obtain ⟨v22, e22, hM⟩ := bind_of hM
    obtain ⟨w23, e23, hM⟩ := bind_of hM
    have h0 := fr_X12_insuredOf hs0 e23 h0
    exact ik4 _ _ _ _ hs0 h0 hM
theorem fr_X12_insuredAll_l4 {S : Nat → Prop} {u0 : gM}   : ∀ (n : Nat) {x1 : Int64} {x3 : Int32} (hs0 : S 20) {u : gM} {w : (Int64 × gM)} (h0 : off S u0 u) (hM : X12_insuredAll_l4  n x1 x3 u = some w), off S u0 w.2 := by
  intro n
  induction n with
  | zero => intro x1 x3 hs0 u w h0 hM; exact nomatch (show (none : Option (Int64 × gM)) = some w from hM)
  | succ n ihn => intro x1 x3 hs0 u w h0 hM; exact fr_X12_insuredAll_b4 hs0  (fun x1 x3 _ _ hs0 h0 h => ihn hs0 h0 h) hM h0
theorem fr_X12_insuredAll {S : Nat → Prop} {u0 u : gM}  (hs0 : S 20)   {w : (Int64 × gM)} (hM : X12_insuredAll u = some w) (h0 : off S u0 u) : off S u0 w.2 := by
  unfold X12_insuredAll at hM
  exact fr_X12_insuredAll_l4  fz hs0 h0 hM
/-! CoverDeskModel.insuredAs(II)J -/
theorem dX12_insuredAs_0 : decode cX12_insuredAs 0 = .ok (.aload_n 0, 1) := by decide +kernel
theorem dX12_insuredAs_1 : decode cX12_insuredAs 1 = .ok (.iload_n 1, 1) := by decide +kernel
theorem dX12_insuredAs_2 : decode cX12_insuredAs 2 = .ok (.putfield 72, 3) := by decide +kernel
theorem dX12_insuredAs_5 : decode cX12_insuredAs 5 = .ok (.aload_n 0, 1) := by decide +kernel
theorem dX12_insuredAs_6 : decode cX12_insuredAs 6 = .ok (.iload_n 2, 1) := by decide +kernel
theorem dX12_insuredAs_7 : decode cX12_insuredAs 7 = .ok (.putfield 316, 3) := by decide +kernel
theorem dX12_insuredAs_10 : decode cX12_insuredAs 10 = .ok (.aload_n 0, 1) := by decide +kernel
theorem dX12_insuredAs_11 : decode cX12_insuredAs 11 = .ok (.invokevirtual 468, 3) := by decide +kernel
theorem dX12_insuredAs_14 : decode cX12_insuredAs 14 = .ok (.lstore_n 3, 1) := by decide +kernel
theorem dX12_insuredAs_15 : decode cX12_insuredAs 15 = .ok (.aload_n 0, 1) := by decide +kernel
theorem dX12_insuredAs_16 : decode cX12_insuredAs 16 = .ok (.iconst (-1), 1) := by decide +kernel
theorem dX12_insuredAs_17 : decode cX12_insuredAs 17 = .ok (.putfield 72, 3) := by decide +kernel
theorem dX12_insuredAs_20 : decode cX12_insuredAs 20 = .ok (.lload_n 3, 1) := by decide +kernel
theorem dX12_insuredAs_21 : decode cX12_insuredAs 21 = .ok (.lreturn, 1) := by decide +kernel
def X12_insuredAs  (x1 : Int32) (x2 : Int32) (u : gM) : Option (Int64 × gM) :=
((X12_insuredAll (upI (upI u 0 32 x1) 0 33 x2)).bind fun w11 => some (w11.1, upI w11.2 0 32 (-1)))
set_option maxRecDepth 20000 in
theorem v_X12_insuredAs {κ : gK} {B : Nat} {u : gM} (X : gX κ B skM cX12_insuredAs 5 RX12 (some .long) 7 177)   {x1 : Int32} {x2 : Int32} {w : (Int64 × gM)} (hM : X12_insuredAs x1 x2 u = some w) : gV κ B skM 5 ((some (.long w.1)), w.2) 0 [some (.ref (B + 0)), some (.int x1), some (.int x2), none, none] [] u := by
  unfold X12_insuredAs at hM
  refine g_aload_n X dX12_insuredAs_0 rfl ?_
  refine g_iload_n X dX12_insuredAs_1 rfl ?_
  refine g_putI X fX12_72 gc_X12 gp_X12_32 cM_0 rfl dX12_insuredAs_2 ?_
  refine g_aload_n X dX12_insuredAs_5 rfl ?_
  refine g_iload_n X dX12_insuredAs_6 rfl ?_
  refine g_putI X fX12_316 gc_X12 gp_X12_33 cM_0 rfl dX12_insuredAs_7 ?_
  refine g_aload_n X dX12_insuredAs_10 rfl ?_
  obtain ⟨w11, e11, hM⟩ := bind_of hM
  refine g_callVl X (fun B adK => []) (s_X12_insuredAll e11) cvX12_468 cM_0 rfl rfl (Nat.le_of_ble_eq_true rfl) ⟨by decide, by decide⟩ dX12_insuredAs_11 ?_
  refine g_lstore_n X [some (.ref (B + 0)), some (.int x1), some (.int x2), some (.long w11.1), none] dX12_insuredAs_14 (by decide) rfl ?_
  refine g_aload_n X dX12_insuredAs_15 rfl ?_
  refine g_iconst X (v := (-1)) dX12_insuredAs_16 (by decide) ?_
  refine g_putI X fX12_72 gc_X12 gp_X12_32 cM_0 rfl dX12_insuredAs_17 ?_
  refine g_lload_n X dX12_insuredAs_20 rfl ?_
  cases hM
  exact g_lret X dX12_insuredAs_21
theorem s_X12_insuredAs {x1 : Int32} {x2 : Int32} {u : gM} {w : (Int64 × gM)} (hM : X12_insuredAs x1 x2 u = some w) : gMet skM yX12_insuredAs cX12_insuredAs 5 (some .long) 7 177 (fun B adK => [.ref (B + 0), .int x1, .int x2]) u ((fun _ => some (.long w.1)), w.2) := by
  refine gMet.of (by decide) (fun _ _ => Nat.le_of_ble_eq_true rfl) (fun κ B X => ?_)
  have X : gX κ B skM cX12_insuredAs 5 RX12 (some .long) 7 177 := X
  refine g_mk [true, true, true, false, false] [some (.ref (B + 0)), some (.int x1), some (.int x2), none, none] rfl ?_
  exact v_X12_insuredAs X  hM
theorem fr_X12_insuredAs {S : Nat → Prop} {u0 u : gM} {x1 : Int32} {x2 : Int32} (hs0 : S 0) (hs1 : S 20)   {w : (Int64 × gM)} (hM : X12_insuredAs x1 x2 u = some w) (h0 : off S u0 u) : off S u0 w.2 := by
  unfold X12_insuredAs at hM
  have h0 := off_upI (u := u) (k := 0) (j := 32) (x := x1) hs0 h0
  have h0 := off_upI (u := (upI u 0 32 x1)) (k := 0) (j := 33) (x := x2) hs0 h0
  obtain ⟨w11, e11, hM⟩ := bind_of hM
  have h0 := fr_X12_insuredAll hs1 e11 h0
  have h0 := off_upI (u := w11.2) (k := 0) (j := 32) (x := (-1)) hs0 h0
  cases hM
  exact h0
/-! CoverDeskModel.asKind(II)J -/
theorem dX12_asKind_0 : decode cX12_asKind 0 = .ok (.aload_n 0, 1) := by decide +kernel
theorem dX12_asKind_1 : decode cX12_asKind 1 = .ok (.iload_n 1, 1) := by decide +kernel
theorem dX12_asKind_2 : decode cX12_asKind 2 = .ok (.invokevirtual 362, 3) := by decide +kernel
theorem dX12_asKind_5 : decode cX12_asKind 5 = .ok (.ifCond .eq 32, 3) := by decide +kernel
theorem dX12_asKind_8 : decode cX12_asKind 8 = .ok (.aload_n 0, 1) := by decide +kernel
theorem dX12_asKind_9 : decode cX12_asKind 9 = .ok (.getfield 23, 3) := by decide +kernel
theorem dX12_asKind_12 : decode cX12_asKind 12 = .ok (.iload_n 1, 1) := by decide +kernel
theorem dX12_asKind_13 : decode cX12_asKind 13 = .ok (.iaload, 1) := by decide +kernel
theorem dX12_asKind_14 : decode cX12_asKind 14 = .ok (.invokestatic 472, 3) := by decide +kernel
theorem dX12_asKind_17 : decode cX12_asKind 17 = .ok (.ifCond .eq 20, 3) := by decide +kernel
theorem dX12_asKind_20 : decode cX12_asKind 20 = .ok (.iload_n 2, 1) := by decide +kernel
theorem dX12_asKind_21 : decode cX12_asKind 21 = .ok (.invokestatic 472, 3) := by decide +kernel
theorem dX12_asKind_24 : decode cX12_asKind 24 = .ok (.ifCond .eq 13, 3) := by decide +kernel
theorem dX12_asKind_27 : decode cX12_asKind 27 = .ok (.aload_n 0, 1) := by decide +kernel
theorem dX12_asKind_28 : decode cX12_asKind 28 = .ok (.getfield 23, 3) := by decide +kernel
theorem dX12_asKind_31 : decode cX12_asKind 31 = .ok (.iload_n 1, 1) := by decide +kernel
theorem dX12_asKind_32 : decode cX12_asKind 32 = .ok (.iaload, 1) := by decide +kernel
theorem dX12_asKind_33 : decode cX12_asKind 33 = .ok (.iload_n 2, 1) := by decide +kernel
theorem dX12_asKind_34 : decode cX12_asKind 34 = .ok (.if_icmp .ne 7, 3) := by decide +kernel
theorem dX12_asKind_37 : decode cX12_asKind 37 = .ok (.ldc2_w 483, 3) := by decide +kernel
theorem dX12_asKind_40 : decode cX12_asKind 40 = .ok (.lreturn, 1) := by decide +kernel
theorem dX12_asKind_41 : decode cX12_asKind 41 = .ok (.aload_n 0, 1) := by decide +kernel
theorem dX12_asKind_42 : decode cX12_asKind 42 = .ok (.iload_n 1, 1) := by decide +kernel
theorem dX12_asKind_43 : decode cX12_asKind 43 = .ok (.iload_n 2, 1) := by decide +kernel
theorem dX12_asKind_44 : decode cX12_asKind 44 = .ok (.invokevirtual 475, 3) := by decide +kernel
theorem dX12_asKind_47 : decode cX12_asKind 47 = .ok (.aload_n 0, 1) := by decide +kernel
theorem dX12_asKind_48 : decode cX12_asKind 48 = .ok (.invokevirtual 468, 3) := by decide +kernel
theorem dX12_asKind_51 : decode cX12_asKind 51 = .ok (.lsub, 1) := by decide +kernel
theorem dX12_asKind_52 : decode cX12_asKind 52 = .ok (.lreturn, 1) := by decide +kernel
def X12_asKind_b37   (u : gM) : Option (Int64 × gM) :=
some ((-9223372036854775808), u)
def X12_asKind  (x1 : Int32) (x2 : Int32) (u : gM) : Option (Int64 × gM) :=
((X12_isAccount u x1).bind fun w2 => (if w2 = 0 then (X12_asKind_b37 u)
  else ((aI skM u 5 x1).bind fun v13 => ((X12_isPlain u v13).bind fun w14 => (if w14 = 0 then (X12_asKind_b37 u)
    else ((X12_isPlain u x2).bind fun w21 => (if w21 = 0 then (X12_asKind_b37 u)
      else ((aI skM u 5 x1).bind fun v32 => (if v32 = x2 then (X12_asKind_b37 u)
        else ((X12_insuredAs x1 x2 u).bind fun w44 => ((X12_insuredAll w44.2).bind fun w48 => some ((w44.1 - w48.1), w48.2))))))))))))
set_option maxRecDepth 20000 in
theorem v_X12_asKind_b37 {κ : gK} {B : Nat} {u : gM} (X : gX κ B skM cX12_asKind 3 RX12 (some .long) 8 201)    {w : (Int64 × gM)} (hM : X12_asKind_b37 u = some w) : gV κ B skM 3 ((some (.long w.1)), w.2) 37 [none, none, none] [] u := by
  unfold X12_asKind_b37 at hM
  refine g_ldc2 (v := (-9223372036854775808)) X m_61_0 dX12_asKind_37 ?_
  cases hM
  exact g_lret X dX12_asKind_40
set_option maxRecDepth 20000 in
theorem v_X12_asKind {κ : gK} {B : Nat} {u : gM} (X : gX κ B skM cX12_asKind 3 RX12 (some .long) 8 201)   {x1 : Int32} {x2 : Int32} {w : (Int64 × gM)} (hM : X12_asKind x1 x2 u = some w) : gV κ B skM 3 ((some (.long w.1)), w.2) 0 [some (.ref (B + 0)), some (.int x1), some (.int x2)] [] u := by
  unfold X12_asKind at hM
  refine g_aload_n X dX12_asKind_0 rfl ?_
  refine g_iload_n X dX12_asKind_1 rfl ?_
  obtain ⟨w2, e2, hM⟩ := bind_of hM
  refine g_callVi X (fun B adK => [.int x1]) (s_X12_isAccount e2) cvX12_362 cM_0 rfl rfl (Nat.le_of_ble_eq_true rfl) ⟨by decide, by decide⟩ dX12_asKind_2 ?_
  refine g_if_eq (tgt := 37) X dX12_asKind_5 (by decide) (fun c5 => ?_) (fun c5 => ?_)
  · rw [if_pos c5] at hM
    refine g_mk [false, false, false] [none, none, none] rfl ?_
    exact v_X12_asKind_b37 X  hM
  · rw [if_neg c5] at hM
    refine g_aload_n X dX12_asKind_8 rfl ?_
    refine g_getR X fX12_23 cM_0 rfl dX12_asKind_9 ?_
    refine g_iload_n X dX12_asKind_12 rfl ?_
    obtain ⟨v13, e13, hM⟩ := bind_of hM
    refine g_iaload X e13 dX12_asKind_13 ?_
    obtain ⟨w14, e14, hM⟩ := bind_of hM
    refine g_callSi X (fun B adK => [.int v13]) (s_X12_isPlain e14) cvX12_472 rfl rfl (Nat.le_of_ble_eq_true rfl) ⟨by decide, by decide⟩ dX12_asKind_14 ?_
    refine g_if_eq (tgt := 37) X dX12_asKind_17 (by decide) (fun c17 => ?_) (fun c17 => ?_)
    · rw [if_pos c17] at hM
      refine g_mk [false, false, false] [none, none, none] rfl ?_
      exact v_X12_asKind_b37 X  hM
    · rw [if_neg c17] at hM
      refine g_iload_n X dX12_asKind_20 rfl ?_
      obtain ⟨w21, e21, hM⟩ := bind_of hM
      refine g_callSi X (fun B adK => [.int x2]) (s_X12_isPlain e21) cvX12_472 rfl rfl (Nat.le_of_ble_eq_true rfl) ⟨by decide, by decide⟩ dX12_asKind_21 ?_
      refine g_if_eq (tgt := 37) X dX12_asKind_24 (by decide) (fun c24 => ?_) (fun c24 => ?_)
      · rw [if_pos c24] at hM
        refine g_mk [false, false, false] [none, none, none] rfl ?_
        exact v_X12_asKind_b37 X  hM
      · rw [if_neg c24] at hM
        refine g_aload_n X dX12_asKind_27 rfl ?_
        refine g_getR X fX12_23 cM_0 rfl dX12_asKind_28 ?_
        refine g_iload_n X dX12_asKind_31 rfl ?_
        obtain ⟨v32, e32, hM⟩ := bind_of hM
        refine g_iaload X e32 dX12_asKind_32 ?_
        refine g_iload_n X dX12_asKind_33 rfl ?_
        refine g_icmp_ne (tgt := 41) X dX12_asKind_34 (by decide) (fun c34 => ?_) (fun c34 => ?_)
        · rw [if_neg c34] at hM
          refine g_aload_n X dX12_asKind_41 rfl ?_
          refine g_iload_n X dX12_asKind_42 rfl ?_
          refine g_iload_n X dX12_asKind_43 rfl ?_
          obtain ⟨w44, e44, hM⟩ := bind_of hM
          refine g_callVl X (fun B adK => [.int x1, .int x2]) (s_X12_insuredAs e44) cvX12_475 cM_0 rfl rfl (Nat.le_of_ble_eq_true rfl) ⟨by decide, by decide⟩ dX12_asKind_44 ?_
          refine g_aload_n X dX12_asKind_47 rfl ?_
          obtain ⟨w48, e48, hM⟩ := bind_of hM
          refine g_callVl X (fun B adK => []) (s_X12_insuredAll e48) cvX12_468 cM_0 rfl rfl (Nat.le_of_ble_eq_true rfl) ⟨by decide, by decide⟩ dX12_asKind_48 ?_
          refine g_lsub X dX12_asKind_51 ?_
          cases hM
          exact g_lret X dX12_asKind_52
        · rw [if_pos c34] at hM
          refine g_mk [false, false, false] [none, none, none] rfl ?_
          exact v_X12_asKind_b37 X  hM
theorem s_X12_asKind {x1 : Int32} {x2 : Int32} {u : gM} {w : (Int64 × gM)} (hM : X12_asKind x1 x2 u = some w) : gMet skM yX12_asKind cX12_asKind 3 (some .long) 8 201 (fun B adK => [.ref (B + 0), .int x1, .int x2]) u ((fun _ => some (.long w.1)), w.2) := by
  refine gMet.of (by decide) (fun _ _ => Nat.le_of_ble_eq_true rfl) (fun κ B X => ?_)
  have X : gX κ B skM cX12_asKind 3 RX12 (some .long) 8 201 := X
  refine g_mk [true, true, true] [some (.ref (B + 0)), some (.int x1), some (.int x2)] rfl ?_
  exact v_X12_asKind X  hM
theorem fr_X12_asKind_b37 {S : Nat → Prop} {u0 u : gM}     {w : (Int64 × gM)} (hM : X12_asKind_b37 u = some w) (h0 : off S u0 u) : off S u0 w.2 := by
  unfold X12_asKind_b37 at hM
  cases hM
  exact h0
theorem fr_X12_asKind {S : Nat → Prop} {u0 u : gM} {x1 : Int32} {x2 : Int32} (hs0 : S 0) (hs1 : S 20)   {w : (Int64 × gM)} (hM : X12_asKind x1 x2 u = some w) (h0 : off S u0 u) : off S u0 w.2 := by
  unfold X12_asKind at hM
  obtain ⟨w2, e2, hM⟩ := bind_of hM
  by_cases c5 : w2 = 0
  · rw [if_pos c5] at hM
    exact fr_X12_asKind_b37   hM h0
  · rw [if_neg c5] at hM
    obtain ⟨v13, e13, hM⟩ := bind_of hM
    obtain ⟨w14, e14, hM⟩ := bind_of hM
    by_cases c17 : w14 = 0
    · rw [if_pos c17] at hM
      exact fr_X12_asKind_b37   hM h0
    · rw [if_neg c17] at hM
      obtain ⟨w21, e21, hM⟩ := bind_of hM
      by_cases c24 : w21 = 0
      · rw [if_pos c24] at hM
        exact fr_X12_asKind_b37   hM h0
      · rw [if_neg c24] at hM
        obtain ⟨v32, e32, hM⟩ := bind_of hM
        by_cases c34 : v32 = x2
        · rw [if_pos c34] at hM
          exact fr_X12_asKind_b37   hM h0
        · rw [if_neg c34] at hM
          obtain ⟨w44, e44, hM⟩ := bind_of hM
          have h0 := fr_X12_insuredAs hs0 hs1 e44 h0
          obtain ⟨w48, e48, hM⟩ := bind_of hM
          have h0 := fr_X12_insuredAll hs1 e48 h0
          cases hM
          exact h0
/-! CoverDeskModel.isBank(I)Z -/
theorem dX12_isBank_0 : decode cX12_isBank 0 = .ok (.iload_n 1, 1) := by decide +kernel
theorem dX12_isBank_1 : decode cX12_isBank 1 = .ok (.i2l, 1) := by decide +kernel
theorem dX12_isBank_2 : decode cX12_isBank 2 = .ok (.lconst 0, 1) := by decide +kernel
theorem dX12_isBank_3 : decode cX12_isBank 3 = .ok (.aload_n 0, 1) := by decide +kernel
theorem dX12_isBank_4 : decode cX12_isBank 4 = .ok (.getfield 7, 3) := by decide +kernel
theorem dX12_isBank_7 : decode cX12_isBank 7 = .ok (.iconst 1, 1) := by decide +kernel
theorem dX12_isBank_8 : decode cX12_isBank 8 = .ok (.iaload, 1) := by decide +kernel
theorem dX12_isBank_9 : decode cX12_isBank 9 = .ok (.iconst 1, 1) := by decide +kernel
theorem dX12_isBank_10 : decode cX12_isBank 10 = .ok (.isub, 1) := by decide +kernel
theorem dX12_isBank_11 : decode cX12_isBank 11 = .ok (.i2l, 1) := by decide +kernel
theorem dX12_isBank_12 : decode cX12_isBank 12 = .ok (.invokestatic 125, 3) := by decide +kernel
theorem dX12_isBank_15 : decode cX12_isBank 15 = .ok (.ireturn, 1) := by decide +kernel
def X12_isBank (u : gM)  (x1 : Int32) : Option Int32 :=
((aI skM u 1 1).bind fun v8 => ((X12_isIn u x1.toInt64 0 (v8 - 1).toInt64).bind fun w12 => bI w12))
set_option maxRecDepth 20000 in
theorem v_X12_isBank {κ : gK} {B : Nat} {u : gM} (X : gX κ B skM cX12_isBank 2 RX12 (some .boolean) 1 25)   {x1 : Int32} {w : Int32} (hM : X12_isBank u x1 = some w) : gV κ B skM 2 ((some (.int w)), u) 0 [some (.ref (B + 0)), some (.int x1)] [] u := by
  unfold X12_isBank at hM
  refine g_iload_n X dX12_isBank_0 rfl ?_
  refine g_i2l X dX12_isBank_1 ?_
  refine g_lconst (v := 0) X dX12_isBank_2 (by decide) ?_
  refine g_aload_n X dX12_isBank_3 rfl ?_
  refine g_getR X fX12_7 cM_0 rfl dX12_isBank_4 ?_
  refine g_iconst X (v := 1) dX12_isBank_7 (by decide) ?_
  obtain ⟨v8, e8, hM⟩ := bind_of hM
  refine g_iaload X e8 dX12_isBank_8 ?_
  refine g_iconst X (v := 1) dX12_isBank_9 (by decide) ?_
  refine g_isub X dX12_isBank_10 ?_
  refine g_i2l X dX12_isBank_11 ?_
  obtain ⟨w12, e12, hM⟩ := bind_of hM
  refine g_callSi X (fun B adK => [.long x1.toInt64, .long 0, .long (v8 - 1).toInt64]) (s_X12_isIn e12) cvX12_125 rfl rfl (Nat.le_of_ble_eq_true rfl) ⟨by decide, by decide⟩ dX12_isBank_12 ?_
  obtain ⟨hv, rfl⟩ := bI_of hM
  exact g_zret X hv dX12_isBank_15
theorem s_X12_isBank {x1 : Int32} {u : gM} {w : Int32} (hM : X12_isBank u x1 = some w) : gMet skM yX12_isBank cX12_isBank 2 (some .boolean) 1 25 (fun B adK => [.ref (B + 0), .int x1]) u ((fun _ => some (.int w)), u) := by
  refine gMet.of (by decide) (fun _ _ => Nat.le_of_ble_eq_true rfl) (fun κ B X => ?_)
  have X : gX κ B skM cX12_isBank 2 RX12 (some .boolean) 1 25 := X
  refine g_mk [true, true] [some (.ref (B + 0)), some (.int x1)] rfl ?_
  exact v_X12_isBank X  hM

/-! CoverDeskModel.bank(II)I -/
theorem dX12_bank_0 : decode cX12_bank 0 = .ok (.aload_n 0, 1) := by decide +kernel
theorem dX12_bank_1 : decode cX12_bank 1 = .ok (.iload_n 1, 1) := by decide +kernel
theorem dX12_bank_2 : decode cX12_bank 2 = .ok (.invokevirtual 369, 3) := by decide +kernel
theorem dX12_bank_5 : decode cX12_bank 5 = .ok (.ifCond .eq 15, 3) := by decide +kernel
theorem dX12_bank_8 : decode cX12_bank 8 = .ok (.iload_n 2, 1) := by decide +kernel
theorem dX12_bank_9 : decode cX12_bank 9 = .ok (.i2l, 1) := by decide +kernel
theorem dX12_bank_10 : decode cX12_bank 10 = .ok (.lconst 0, 1) := by decide +kernel
theorem dX12_bank_11 : decode cX12_bank 11 = .ok (.ldc2_w 444, 3) := by decide +kernel
theorem dX12_bank_14 : decode cX12_bank 14 = .ok (.invokestatic 125, 3) := by decide +kernel
theorem dX12_bank_17 : decode cX12_bank 17 = .ok (.ifCond .ne 6, 3) := by decide +kernel
theorem dX12_bank_20 : decode cX12_bank 20 = .ok (.bipush (-2), 2) := by decide +kernel
theorem dX12_bank_22 : decode cX12_bank 22 = .ok (.ireturn, 1) := by decide +kernel
theorem dX12_bank_23 : decode cX12_bank 23 = .ok (.iload_n 2, 1) := by decide +kernel
theorem dX12_bank_24 : decode cX12_bank 24 = .ok (.ifCond .ne 13, 3) := by decide +kernel
theorem dX12_bank_27 : decode cX12_bank 27 = .ok (.aload_n 0, 1) := by decide +kernel
theorem dX12_bank_28 : decode cX12_bank 28 = .ok (.getfield 56, 3) := by decide +kernel
theorem dX12_bank_31 : decode cX12_bank 31 = .ok (.bipush 35, 2) := by decide +kernel
theorem dX12_bank_33 : decode cX12_bank 33 = .ok (.iload_n 1, 1) := by decide +kernel
theorem dX12_bank_34 : decode cX12_bank 34 = .ok (.iadd, 1) := by decide +kernel
theorem dX12_bank_35 : decode cX12_bank 35 = .ok (.iaload, 1) := by decide +kernel
theorem dX12_bank_36 : decode cX12_bank 36 = .ok (.ireturn, 1) := by decide +kernel
theorem dX12_bank_37 : decode cX12_bank 37 = .ok (.iload_n 2, 1) := by decide +kernel
theorem dX12_bank_38 : decode cX12_bank 38 = .ok (.iconst 1, 1) := by decide +kernel
theorem dX12_bank_39 : decode cX12_bank 39 = .ok (.if_icmp .ne 13, 3) := by decide +kernel
theorem dX12_bank_42 : decode cX12_bank 42 = .ok (.aload_n 0, 1) := by decide +kernel
theorem dX12_bank_43 : decode cX12_bank 43 = .ok (.getfield 56, 3) := by decide +kernel
theorem dX12_bank_46 : decode cX12_bank 46 = .ok (.bipush 41, 2) := by decide +kernel
theorem dX12_bank_48 : decode cX12_bank 48 = .ok (.iload_n 1, 1) := by decide +kernel
theorem dX12_bank_49 : decode cX12_bank 49 = .ok (.iadd, 1) := by decide +kernel
theorem dX12_bank_50 : decode cX12_bank 50 = .ok (.iaload, 1) := by decide +kernel
theorem dX12_bank_51 : decode cX12_bank 51 = .ok (.ireturn, 1) := by decide +kernel
theorem dX12_bank_52 : decode cX12_bank 52 = .ok (.iload_n 2, 1) := by decide +kernel
theorem dX12_bank_53 : decode cX12_bank 53 = .ok (.iconst 2, 1) := by decide +kernel
theorem dX12_bank_54 : decode cX12_bank 54 = .ok (.if_icmp .ne 13, 3) := by decide +kernel
theorem dX12_bank_57 : decode cX12_bank 57 = .ok (.aload_n 0, 1) := by decide +kernel
theorem dX12_bank_58 : decode cX12_bank 58 = .ok (.getfield 56, 3) := by decide +kernel
theorem dX12_bank_61 : decode cX12_bank 61 = .ok (.bipush 47, 2) := by decide +kernel
theorem dX12_bank_63 : decode cX12_bank 63 = .ok (.iload_n 1, 1) := by decide +kernel
theorem dX12_bank_64 : decode cX12_bank 64 = .ok (.iadd, 1) := by decide +kernel
theorem dX12_bank_65 : decode cX12_bank 65 = .ok (.iaload, 1) := by decide +kernel
theorem dX12_bank_66 : decode cX12_bank 66 = .ok (.ireturn, 1) := by decide +kernel
theorem dX12_bank_67 : decode cX12_bank 67 = .ok (.iconst 0, 1) := by decide +kernel
theorem dX12_bank_68 : decode cX12_bank 68 = .ok (.istore_n 3, 1) := by decide +kernel
theorem dX12_bank_69 : decode cX12_bank 69 = .ok (.iconst 0, 1) := by decide +kernel
theorem dX12_bank_70 : decode cX12_bank 70 = .ok (.istore 4, 2) := by decide +kernel
theorem dX12_bank_72 : decode cX12_bank 72 = .ok (.iload 4, 2) := by decide +kernel
theorem dX12_bank_74 : decode cX12_bank 74 = .ok (.aload_n 0, 1) := by decide +kernel
theorem dX12_bank_75 : decode cX12_bank 75 = .ok (.getfield 7, 3) := by decide +kernel
theorem dX12_bank_78 : decode cX12_bank 78 = .ok (.iconst 2, 1) := by decide +kernel
theorem dX12_bank_79 : decode cX12_bank 79 = .ok (.iaload, 1) := by decide +kernel
theorem dX12_bank_80 : decode cX12_bank 80 = .ok (.if_icmp .ge 55, 3) := by decide +kernel
theorem dX12_bank_83 : decode cX12_bank 83 = .ok (.iload_n 3, 1) := by decide +kernel
theorem dX12_bank_84 : decode cX12_bank 84 = .ok (.iload_n 2, 1) := by decide +kernel
theorem dX12_bank_85 : decode cX12_bank 85 = .ok (.iconst 3, 1) := by decide +kernel
theorem dX12_bank_86 : decode cX12_bank 86 = .ok (.if_icmp .ne 17, 3) := by decide +kernel
theorem dX12_bank_89 : decode cX12_bank 89 = .ok (.aload_n 0, 1) := by decide +kernel
theorem dX12_bank_90 : decode cX12_bank 90 = .ok (.aload_n 0, 1) := by decide +kernel
theorem dX12_bank_91 : decode cX12_bank 91 = .ok (.getfield 26, 3) := by decide +kernel
theorem dX12_bank_94 : decode cX12_bank 94 = .ok (.iload 4, 2) := by decide +kernel
theorem dX12_bank_96 : decode cX12_bank 96 = .ok (.iaload, 1) := by decide +kernel
theorem dX12_bank_97 : decode cX12_bank 97 = .ok (.invokevirtual 366, 3) := by decide +kernel
theorem dX12_bank_100 : decode cX12_bank 100 = .ok (.goto 15, 3) := by decide +kernel
theorem dX12_bank_103 : decode cX12_bank 103 = .ok (.aload_n 0, 1) := by decide +kernel
theorem dX12_bank_104 : decode cX12_bank 104 = .ok (.iload 4, 2) := by decide +kernel
theorem dX12_bank_106 : decode cX12_bank 106 = .ok (.aload_n 0, 1) := by decide +kernel
theorem dX12_bank_107 : decode cX12_bank 107 = .ok (.getfield 56, 3) := by decide +kernel
theorem dX12_bank_110 : decode cX12_bank 110 = .ok (.iconst 0, 1) := by decide +kernel
theorem dX12_bank_111 : decode cX12_bank 111 = .ok (.iaload, 1) := by decide +kernel
theorem dX12_bank_112 : decode cX12_bank 112 = .ok (.invokevirtual 325, 3) := by decide +kernel
theorem dX12_bank_115 : decode cX12_bank 115 = .ok (.iload_n 1, 1) := by decide +kernel
theorem dX12_bank_116 : decode cX12_bank 116 = .ok (.if_icmp .ne 7, 3) := by decide +kernel
theorem dX12_bank_119 : decode cX12_bank 119 = .ok (.iconst 1, 1) := by decide +kernel
theorem dX12_bank_120 : decode cX12_bank 120 = .ok (.goto 4, 3) := by decide +kernel
theorem dX12_bank_123 : decode cX12_bank 123 = .ok (.iconst 0, 1) := by decide +kernel
theorem dX12_bank_124 : decode cX12_bank 124 = .ok (.invokestatic 312, 3) := by decide +kernel
theorem dX12_bank_127 : decode cX12_bank 127 = .ok (.iadd, 1) := by decide +kernel
theorem dX12_bank_128 : decode cX12_bank 128 = .ok (.istore_n 3, 1) := by decide +kernel
theorem dX12_bank_129 : decode cX12_bank 129 = .ok (.iinc 4 1, 3) := by decide +kernel
theorem dX12_bank_132 : decode cX12_bank 132 = .ok (.goto (-60), 3) := by decide +kernel
theorem dX12_bank_135 : decode cX12_bank 135 = .ok (.iload_n 3, 1) := by decide +kernel
theorem dX12_bank_136 : decode cX12_bank 136 = .ok (.ireturn, 1) := by decide +kernel
def X12_bank_b20 (u : gM)   : Option Int32 :=
some (-2)
def X12_bank_b124 (u : gM) (k72 : Int32 → Int32 → Int32 → Int32 → Option Int32) (x1 : Int32) (x2 : Int32) (x4 : Int32) (s0 : Int32) (s1 : Int32) : Option Int32 :=
((X12_one u s1).bind fun w124 => (k72 x1 x2 (s0 + w124) (x4 + 1)))
def X12_bank_b115 (u : gM) (k72 : Int32 → Int32 → Int32 → Int32 → Option Int32) (x1 : Int32) (x2 : Int32) (x4 : Int32) (s0 : Int32) (s1 : Int32) : Option Int32 :=
(if s1 = x1 then (X12_bank_b124 u k72 x1 x2 x4 s0 1)
  else (X12_bank_b124 u k72 x1 x2 x4 s0 0))
def X12_bank_b72 (u : gM) (k72 : Int32 → Int32 → Int32 → Int32 → Option Int32) (x1 : Int32) (x2 : Int32) (x3 : Int32) (x4 : Int32) : Option Int32 :=
((aI skM u 1 2).bind fun v79 => (if v79 ≤ x4 then some x3
  else (if x2 = 3 then ((aI skM u 6 x4).bind fun v96 => ((X12_nowAt u v96).bind fun w97 => (X12_bank_b115 u k72 x1 x2 x4 x3 w97)))
    else ((aI skM u 16 0).bind fun v111 => ((X12_countedAt u x4 v111).bind fun w112 => (X12_bank_b115 u k72 x1 x2 x4 x3 w112))))))
def X12_bank_l72 (u : gM)  : Nat → Int32 → Int32 → Int32 → Int32 → Option Int32
  | 0, _, _, _, _ => none
  | n + 1, x1, x2, x3, x4 => X12_bank_b72 u  (X12_bank_l72 u  n) x1 x2 x3 x4
def X12_bank (u : gM)  (x1 : Int32) (x2 : Int32) : Option Int32 :=
((X12_isBank u x1).bind fun w2 => (if w2 = 0 then (X12_bank_b20 u)
  else ((X12_isIn u x2.toInt64 0 4).bind fun w14 => (if w14 = 0 then (X12_bank_b20 u)
    else (if x2 = 0 then ((aI skM u 16 (35 + x1)).bind fun v35 => some v35)
      else (if x2 = 1 then ((aI skM u 16 (41 + x1)).bind fun v50 => some v50)
        else (if x2 = 2 then ((aI skM u 16 (47 + x1)).bind fun v65 => some v65)
          else (X12_bank_l72 u fz x1 x2 0 0))))))))
set_option maxRecDepth 20000 in
theorem v_X12_bank_b20 {κ : gK} {B : Nat} {u : gM} (X : gX κ B skM cX12_bank 5 RX12 (some .int) 3 73)    {w : Int32} (hM : X12_bank_b20 u = some w) : gV κ B skM 5 ((some (.int w)), u) 20 [none, none, none, none, none] [] u := by
  unfold X12_bank_b20 at hM
  refine g_bipush X (v := (-2)) dX12_bank_20 (by decide) ?_
  cases hM
  exact g_iret X dX12_bank_22
set_option maxRecDepth 20000 in
theorem v_X12_bank_b124 {κ : gK} {B : Nat} {u : gM} (X : gX κ B skM cX12_bank 5 RX12 (some .int) 3 73) {k72 : Int32 → Int32 → Int32 → Int32 → Option Int32} (ih72 : ∀ (x1 : Int32) (x2 : Int32) (x3 : Int32) (x4 : Int32) (w : Int32), k72 x1 x2 x3 x4 = some w → gV κ B skM 5 ((some (.int w)), u) 72 [some (.ref (B + 0)), some (.int x1), some (.int x2), some (.int x3), some (.int x4)] [] u) {x1 : Int32} {x2 : Int32} {x4 : Int32} {s0 : Int32} {s1 : Int32} {w : Int32} (hM : X12_bank_b124 u k72 x1 x2 x4 s0 s1 = some w) : gV κ B skM 5 ((some (.int w)), u) 124 [some (.ref (B + 0)), some (.int x1), some (.int x2), none, some (.int x4)] [.int s1, .int s0] u := by
  unfold X12_bank_b124 at hM
  obtain ⟨w124, e124, hM⟩ := bind_of hM
  refine g_callSi X (fun B adK => [.int s1]) (s_X12_one e124) cvX12_312 rfl rfl (Nat.le_of_ble_eq_true rfl) ⟨by decide, by decide⟩ dX12_bank_124 ?_
  refine g_iadd X dX12_bank_127 ?_
  refine g_istore_n X [some (.ref (B + 0)), some (.int x1), some (.int x2), some (.int (s0 + w124)), some (.int x4)] dX12_bank_128 (by decide) rfl ?_
  refine g_iinc (d := 1) X [some (.ref (B + 0)), some (.int x1), some (.int x2), some (.int (s0 + w124)), some (.int (x4 + 1))] dX12_bank_129 (by decide) rfl (by decide) rfl ?_
  refine g_goto (tgt := 72) X dX12_bank_132 (by decide) ?_
  refine g_mk [true, true, true, true, true] [some (.ref (B + 0)), some (.int x1), some (.int x2), some (.int (s0 + w124)), some (.int (x4 + 1))] rfl ?_
  exact ih72 x1 x2 (s0 + w124) (x4 + 1) _ hM
set_option maxRecDepth 20000 in
theorem v_X12_bank_b115 {κ : gK} {B : Nat} {u : gM} (X : gX κ B skM cX12_bank 5 RX12 (some .int) 3 73) {k72 : Int32 → Int32 → Int32 → Int32 → Option Int32} (ih72 : ∀ (x1 : Int32) (x2 : Int32) (x3 : Int32) (x4 : Int32) (w : Int32), k72 x1 x2 x3 x4 = some w → gV κ B skM 5 ((some (.int w)), u) 72 [some (.ref (B + 0)), some (.int x1), some (.int x2), some (.int x3), some (.int x4)] [] u) {x1 : Int32} {x2 : Int32} {x4 : Int32} {s0 : Int32} {s1 : Int32} {w : Int32} (hM : X12_bank_b115 u k72 x1 x2 x4 s0 s1 = some w) : gV κ B skM 5 ((some (.int w)), u) 115 [some (.ref (B + 0)), some (.int x1), some (.int x2), none, some (.int x4)] [.int s1, .int s0] u := by
  unfold X12_bank_b115 at hM
  refine g_iload_n X dX12_bank_115 rfl ?_
  refine g_icmp_ne (tgt := 123) X dX12_bank_116 (by decide) (fun c116 => ?_) (fun c116 => ?_)
  · rw [if_neg c116] at hM
    refine g_iconst X (v := 0) dX12_bank_123 (by decide) ?_
    refine g_mk [true, true, true, false, true] [some (.ref (B + 0)), some (.int x1), some (.int x2), none, some (.int x4)] rfl ?_
    exact v_X12_bank_b124 X ih72 hM
  · rw [if_pos c116] at hM
    refine g_iconst X (v := 1) dX12_bank_119 (by decide) ?_
    refine g_goto (tgt := 124) X dX12_bank_120 (by decide) ?_
    refine g_mk [true, true, true, false, true] [some (.ref (B + 0)), some (.int x1), some (.int x2), none, some (.int x4)] rfl ?_
    exact v_X12_bank_b124 X ih72 hM
set_option maxRecDepth 20000 in
theorem v_X12_bank_b72 {κ : gK} {B : Nat} {u : gM} (X : gX κ B skM cX12_bank 5 RX12 (some .int) 3 73) {k72 : Int32 → Int32 → Int32 → Int32 → Option Int32} (ih72 : ∀ (x1 : Int32) (x2 : Int32) (x3 : Int32) (x4 : Int32) (w : Int32), k72 x1 x2 x3 x4 = some w → gV κ B skM 5 ((some (.int w)), u) 72 [some (.ref (B + 0)), some (.int x1), some (.int x2), some (.int x3), some (.int x4)] [] u) {x1 : Int32} {x2 : Int32} {x3 : Int32} {x4 : Int32} {w : Int32} (hM : X12_bank_b72 u k72 x1 x2 x3 x4 = some w) : gV κ B skM 5 ((some (.int w)), u) 72 [some (.ref (B + 0)), some (.int x1), some (.int x2), some (.int x3), some (.int x4)] [] u := by
  unfold X12_bank_b72 at hM
  refine g_iload X dX12_bank_72 rfl ?_
  refine g_aload_n X dX12_bank_74 rfl ?_
  refine g_getR X fX12_7 cM_0 rfl dX12_bank_75 ?_
  refine g_iconst X (v := 2) dX12_bank_78 (by decide) ?_
  obtain ⟨v79, e79, hM⟩ := bind_of hM
  refine g_iaload X e79 dX12_bank_79 ?_
  refine g_icmp_ge (tgt := 135) X dX12_bank_80 (by decide) (fun c80 => ?_) (fun c80 => ?_)
  · rw [if_pos c80] at hM
    refine g_iload_n X dX12_bank_135 rfl ?_
    cases hM
    exact g_iret X dX12_bank_136
  · rw [if_neg c80] at hM
    refine g_iload_n X dX12_bank_83 rfl ?_
    refine g_iload_n X dX12_bank_84 rfl ?_
    refine g_iconst X (v := 3) dX12_bank_85 (by decide) ?_
    refine g_icmp_ne (tgt := 103) X dX12_bank_86 (by decide) (fun c86 => ?_) (fun c86 => ?_)
    · rw [if_neg c86] at hM
      refine g_aload_n X dX12_bank_103 rfl ?_
      refine g_iload X dX12_bank_104 rfl ?_
      refine g_aload_n X dX12_bank_106 rfl ?_
      refine g_getR X fX12_56 cM_0 rfl dX12_bank_107 ?_
      refine g_iconst X (v := 0) dX12_bank_110 (by decide) ?_
      obtain ⟨v111, e111, hM⟩ := bind_of hM
      refine g_iaload X e111 dX12_bank_111 ?_
      obtain ⟨w112, e112, hM⟩ := bind_of hM
      refine g_callVi X (fun B adK => [.int x4, .int v111]) (s_X12_countedAt e112) cvX12_325 cM_0 rfl rfl (Nat.le_of_ble_eq_true rfl) ⟨by decide, by decide⟩ dX12_bank_112 ?_
      refine g_mk [true, true, true, false, true] [some (.ref (B + 0)), some (.int x1), some (.int x2), none, some (.int x4)] rfl ?_
      exact v_X12_bank_b115 X ih72 hM
    · rw [if_pos c86] at hM
      refine g_aload_n X dX12_bank_89 rfl ?_
      refine g_aload_n X dX12_bank_90 rfl ?_
      refine g_getR X fX12_26 cM_0 rfl dX12_bank_91 ?_
      refine g_iload X dX12_bank_94 rfl ?_
      obtain ⟨v96, e96, hM⟩ := bind_of hM
      refine g_iaload X e96 dX12_bank_96 ?_
      obtain ⟨w97, e97, hM⟩ := bind_of hM
      refine g_callVi X (fun B adK => [.int v96]) (s_X12_nowAt e97) cvX12_366 cM_0 rfl rfl (Nat.le_of_ble_eq_true rfl) ⟨by decide, by decide⟩ dX12_bank_97 ?_
      refine g_goto (tgt := 115) X dX12_bank_100 (by decide) ?_
      refine g_mk [true, true, true, false, true] [some (.ref (B + 0)), some (.int x1), some (.int x2), none, some (.int x4)] rfl ?_
      exact v_X12_bank_b115 X ih72 hM
theorem v_X12_bank_l72 {κ : gK} {B : Nat} {u : gM} (X : gX κ B skM cX12_bank 5 RX12 (some .int) 3 73)   : ∀ (n : Nat) {x1 : Int32} {x2 : Int32} {x3 : Int32} {x4 : Int32} {w : Int32} (hM : X12_bank_l72 u  n x1 x2 x3 x4 = some w), gV κ B skM 5 ((some (.int w)), u) 72 [some (.ref (B + 0)), some (.int x1), some (.int x2), some (.int x3), some (.int x4)] [] u := by
  intro n
  induction n with
  | zero => intro x1 x2 x3 x4 w hM; exact nomatch (show (none : Option Int32) = some w from hM)
  | succ n ihn => intro x1 x2 x3 x4 w hM; exact v_X12_bank_b72 X  (fun x1 x2 x3 x4 w h => ihn h) hM
set_option maxRecDepth 20000 in
theorem v_X12_bank {κ : gK} {B : Nat} {u : gM} (X : gX κ B skM cX12_bank 5 RX12 (some .int) 3 73)   {x1 : Int32} {x2 : Int32} {w : Int32} (hM : X12_bank u x1 x2 = some w) : gV κ B skM 5 ((some (.int w)), u) 0 [some (.ref (B + 0)), some (.int x1), some (.int x2), none, none] [] u := by
  unfold X12_bank at hM
  refine g_aload_n X dX12_bank_0 rfl ?_
  refine g_iload_n X dX12_bank_1 rfl ?_
  obtain ⟨w2, e2, hM⟩ := bind_of hM
  refine g_callVi X (fun B adK => [.int x1]) (s_X12_isBank e2) cvX12_369 cM_0 rfl rfl (Nat.le_of_ble_eq_true rfl) ⟨by decide, by decide⟩ dX12_bank_2 ?_
  refine g_if_eq (tgt := 20) X dX12_bank_5 (by decide) (fun c5 => ?_) (fun c5 => ?_)
  · rw [if_pos c5] at hM
    refine g_mk [false, false, false, false, false] [none, none, none, none, none] rfl ?_
    exact v_X12_bank_b20 X  hM
  · rw [if_neg c5] at hM
    refine g_iload_n X dX12_bank_8 rfl ?_
    refine g_i2l X dX12_bank_9 ?_
    refine g_lconst (v := 0) X dX12_bank_10 (by decide) ?_
    refine g_ldc2 (v := 4) X m_50_6 dX12_bank_11 ?_
    obtain ⟨w14, e14, hM⟩ := bind_of hM
    refine g_callSi X (fun B adK => [.long x2.toInt64, .long 0, .long 4]) (s_X12_isIn e14) cvX12_125 rfl rfl (Nat.le_of_ble_eq_true rfl) ⟨by decide, by decide⟩ dX12_bank_14 ?_
    refine g_if_ne (tgt := 23) X dX12_bank_17 (by decide) (fun c17 => ?_) (fun c17 => ?_)
    · rw [if_neg c17] at hM
      refine g_iload_n X dX12_bank_23 rfl ?_
      refine g_if_ne (tgt := 37) X dX12_bank_24 (by decide) (fun c24 => ?_) (fun c24 => ?_)
      · rw [if_neg c24] at hM
        refine g_iload_n X dX12_bank_37 rfl ?_
        refine g_iconst X (v := 1) dX12_bank_38 (by decide) ?_
        refine g_icmp_ne (tgt := 52) X dX12_bank_39 (by decide) (fun c39 => ?_) (fun c39 => ?_)
        · rw [if_neg c39] at hM
          refine g_iload_n X dX12_bank_52 rfl ?_
          refine g_iconst X (v := 2) dX12_bank_53 (by decide) ?_
          refine g_icmp_ne (tgt := 67) X dX12_bank_54 (by decide) (fun c54 => ?_) (fun c54 => ?_)
          · rw [if_neg c54] at hM
            refine g_iconst X (v := 0) dX12_bank_67 (by decide) ?_
            refine g_istore_n X [some (.ref (B + 0)), some (.int x1), some (.int x2), some (.int 0), none] dX12_bank_68 (by decide) rfl ?_
            refine g_iconst X (v := 0) dX12_bank_69 (by decide) ?_
            refine g_istore X [some (.ref (B + 0)), some (.int x1), some (.int x2), some (.int 0), some (.int 0)] dX12_bank_70 (by decide) rfl ?_
            refine g_mk [true, true, true, true, true] [some (.ref (B + 0)), some (.int x1), some (.int x2), some (.int 0), some (.int 0)] rfl ?_
            exact v_X12_bank_l72 X  fz hM
          · rw [if_pos c54] at hM
            refine g_aload_n X dX12_bank_57 rfl ?_
            refine g_getR X fX12_56 cM_0 rfl dX12_bank_58 ?_
            refine g_bipush X (v := 47) dX12_bank_61 (by decide) ?_
            refine g_iload_n X dX12_bank_63 rfl ?_
            refine g_iadd X dX12_bank_64 ?_
            obtain ⟨v65, e65, hM⟩ := bind_of hM
            refine g_iaload X e65 dX12_bank_65 ?_
            cases hM
            exact g_iret X dX12_bank_66
        · rw [if_pos c39] at hM
          refine g_aload_n X dX12_bank_42 rfl ?_
          refine g_getR X fX12_56 cM_0 rfl dX12_bank_43 ?_
          refine g_bipush X (v := 41) dX12_bank_46 (by decide) ?_
          refine g_iload_n X dX12_bank_48 rfl ?_
          refine g_iadd X dX12_bank_49 ?_
          obtain ⟨v50, e50, hM⟩ := bind_of hM
          refine g_iaload X e50 dX12_bank_50 ?_
          cases hM
          exact g_iret X dX12_bank_51
      · rw [if_pos c24] at hM
        refine g_aload_n X dX12_bank_27 rfl ?_
        refine g_getR X fX12_56 cM_0 rfl dX12_bank_28 ?_
        refine g_bipush X (v := 35) dX12_bank_31 (by decide) ?_
        refine g_iload_n X dX12_bank_33 rfl ?_
        refine g_iadd X dX12_bank_34 ?_
        obtain ⟨v35, e35, hM⟩ := bind_of hM
        refine g_iaload X e35 dX12_bank_35 ?_
        cases hM
        exact g_iret X dX12_bank_36
    · rw [if_pos c17] at hM
      refine g_mk [false, false, false, false, false] [none, none, none, none, none] rfl ?_
      exact v_X12_bank_b20 X  hM
theorem s_X12_bank {x1 : Int32} {x2 : Int32} {u : gM} {w : Int32} (hM : X12_bank u x1 x2 = some w) : gMet skM yX12_bank cX12_bank 5 (some .int) 3 73 (fun B adK => [.ref (B + 0), .int x1, .int x2]) u ((fun _ => some (.int w)), u) := by
  refine gMet.of (by decide) (fun _ _ => Nat.le_of_ble_eq_true rfl) (fun κ B X => ?_)
  have X : gX κ B skM cX12_bank 5 RX12 (some .int) 3 73 := X
  refine g_mk [true, true, true, false, false] [some (.ref (B + 0)), some (.int x1), some (.int x2), none, none] rfl ?_
  exact v_X12_bank X  hM


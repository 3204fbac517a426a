/-! CoverDeskModel.takesFrom(II)Z -/
theorem dX12_takesFrom_0 : decode cX12_takesFrom 0 = .ok (.aload_n 0, 1) := by decide +kernel
theorem dX12_takesFrom_1 : decode cX12_takesFrom 1 = .ok (.iload_n 1, 1) := by decide +kernel
theorem dX12_takesFrom_2 : decode cX12_takesFrom 2 = .ok (.invokevirtual 362, 3) := by decide +kernel
theorem dX12_takesFrom_5 : decode cX12_takesFrom 5 = .ok (.ifCond .eq 21, 3) := by decide +kernel
theorem dX12_takesFrom_8 : decode cX12_takesFrom 8 = .ok (.iload_n 2, 1) := by decide +kernel
theorem dX12_takesFrom_9 : decode cX12_takesFrom 9 = .ok (.i2l, 1) := by decide +kernel
theorem dX12_takesFrom_10 : decode cX12_takesFrom 10 = .ok (.lconst 1, 1) := by decide +kernel
theorem dX12_takesFrom_11 : decode cX12_takesFrom 11 = .ok (.aload_n 0, 1) := by decide +kernel
theorem dX12_takesFrom_12 : decode cX12_takesFrom 12 = .ok (.getfield 56, 3) := by decide +kernel
theorem dX12_takesFrom_15 : decode cX12_takesFrom 15 = .ok (.iconst 1, 1) := by decide +kernel
theorem dX12_takesFrom_16 : decode cX12_takesFrom 16 = .ok (.iload_n 1, 1) := by decide +kernel
theorem dX12_takesFrom_17 : decode cX12_takesFrom 17 = .ok (.iadd, 1) := by decide +kernel
theorem dX12_takesFrom_18 : decode cX12_takesFrom 18 = .ok (.iaload, 1) := by decide +kernel
theorem dX12_takesFrom_19 : decode cX12_takesFrom 19 = .ok (.i2l, 1) := by decide +kernel
theorem dX12_takesFrom_20 : decode cX12_takesFrom 20 = .ok (.invokestatic 125, 3) := by decide +kernel
theorem dX12_takesFrom_23 : decode cX12_takesFrom 23 = .ok (.ifCond .ne 5, 3) := by decide +kernel
theorem dX12_takesFrom_26 : decode cX12_takesFrom 26 = .ok (.iconst 0, 1) := by decide +kernel
theorem dX12_takesFrom_27 : decode cX12_takesFrom 27 = .ok (.ireturn, 1) := by decide +kernel
theorem dX12_takesFrom_28 : decode cX12_takesFrom 28 = .ok (.aload_n 0, 1) := by decide +kernel
theorem dX12_takesFrom_29 : decode cX12_takesFrom 29 = .ok (.getfield 56, 3) := by decide +kernel
theorem dX12_takesFrom_32 : decode cX12_takesFrom 32 = .ok (.iconst 1, 1) := by decide +kernel
theorem dX12_takesFrom_33 : decode cX12_takesFrom 33 = .ok (.iload_n 1, 1) := by decide +kernel
theorem dX12_takesFrom_34 : decode cX12_takesFrom 34 = .ok (.iadd, 1) := by decide +kernel
theorem dX12_takesFrom_35 : decode cX12_takesFrom 35 = .ok (.dup2, 1) := by decide +kernel
theorem dX12_takesFrom_36 : decode cX12_takesFrom 36 = .ok (.iaload, 1) := by decide +kernel
theorem dX12_takesFrom_37 : decode cX12_takesFrom 37 = .ok (.iload_n 2, 1) := by decide +kernel
theorem dX12_takesFrom_38 : decode cX12_takesFrom 38 = .ok (.isub, 1) := by decide +kernel
theorem dX12_takesFrom_39 : decode cX12_takesFrom 39 = .ok (.iastore, 1) := by decide +kernel
theorem dX12_takesFrom_40 : decode cX12_takesFrom 40 = .ok (.iconst 1, 1) := by decide +kernel
theorem dX12_takesFrom_41 : decode cX12_takesFrom 41 = .ok (.ireturn, 1) := by decide +kernel
def X12_takesFrom_b26   (u : gM) : Option (Int32 × gM) :=
some (0, u)
def X12_takesFrom  (x1 : Int32) (x2 : Int32) (u : gM) : Option (Int32 × gM) :=
((X12_isAccount u x1).bind fun w2 => (if w2 = 0 then (X12_takesFrom_b26 u)
  else ((aI skM u 16 (1 + x1)).bind fun v18 => ((X12_isIn u x2.toInt64 1 v18.toInt64).bind fun w20 => (if w20 = 0 then (X12_takesFrom_b26 u)
    else ((aI skM u 16 (1 + x1)).bind fun v36 => ((sI skM u 16 (1 + x1) (v36 - x2)).bind fun u39 => some (1, u39))))))))
set_option maxRecDepth 20000 in
theorem v_X12_takesFrom_b26 {κ : gK} {B : Nat} {u : gM} (X : gX κ B skM cX12_takesFrom 3 RX12 (some .boolean) 2 46)    {w : (Int32 × gM)} (hM : X12_takesFrom_b26 u = some w) : gV κ B skM 3 ((some (.int w.1)), w.2) 26 [none, none, none] [] u := by
  unfold X12_takesFrom_b26 at hM
  refine g_iconst X (v := 0) dX12_takesFrom_26 (by decide) ?_
  cases hM
  exact g_zret X (Or.inl rfl) dX12_takesFrom_27
set_option maxRecDepth 20000 in
theorem v_X12_takesFrom {κ : gK} {B : Nat} {u : gM} (X : gX κ B skM cX12_takesFrom 3 RX12 (some .boolean) 2 46)   {x1 : Int32} {x2 : Int32} {w : (Int32 × gM)} (hM : X12_takesFrom x1 x2 u = some w) : gV κ B skM 3 ((some (.int w.1)), w.2) 0 [some (.ref (B + 0)), some (.int x1), some (.int x2)] [] u := by
  unfold X12_takesFrom at hM
  refine g_aload_n X dX12_takesFrom_0 rfl ?_
  refine g_iload_n X dX12_takesFrom_1 rfl ?_
  obtain ⟨w2, e2, hM⟩ := bind_of hM
  refine g_callVi X (fun B adK => [.int x1]) (s_X12_isAccount e2) cvX12_362 cM_0 rfl rfl (Nat.le_of_ble_eq_true rfl) ⟨by decide, by decide⟩ dX12_takesFrom_2 ?_
  refine g_if_eq (tgt := 26) X dX12_takesFrom_5 (by decide) (fun c5 => ?_) (fun c5 => ?_)
  · rw [if_pos c5] at hM
    refine g_mk [false, false, false] [none, none, none] rfl ?_
    exact v_X12_takesFrom_b26 X  hM
  · rw [if_neg c5] at hM
    refine g_iload_n X dX12_takesFrom_8 rfl ?_
    refine g_i2l X dX12_takesFrom_9 ?_
    refine g_lconst (v := 1) X dX12_takesFrom_10 (by decide) ?_
    refine g_aload_n X dX12_takesFrom_11 rfl ?_
    refine g_getR X fX12_56 cM_0 rfl dX12_takesFrom_12 ?_
    refine g_iconst X (v := 1) dX12_takesFrom_15 (by decide) ?_
    refine g_iload_n X dX12_takesFrom_16 rfl ?_
    refine g_iadd X dX12_takesFrom_17 ?_
    obtain ⟨v18, e18, hM⟩ := bind_of hM
    refine g_iaload X e18 dX12_takesFrom_18 ?_
    refine g_i2l X dX12_takesFrom_19 ?_
    obtain ⟨w20, e20, hM⟩ := bind_of hM
    refine g_callSi X (fun B adK => [.long x2.toInt64, .long 1, .long v18.toInt64]) (s_X12_isIn e20) cvX12_125 rfl rfl (Nat.le_of_ble_eq_true rfl) ⟨by decide, by decide⟩ dX12_takesFrom_20 ?_
    refine g_if_ne (tgt := 28) X dX12_takesFrom_23 (by decide) (fun c23 => ?_) (fun c23 => ?_)
    · rw [if_neg c23] at hM
      refine g_aload_n X dX12_takesFrom_28 rfl ?_
      refine g_getR X fX12_56 cM_0 rfl dX12_takesFrom_29 ?_
      refine g_iconst X (v := 1) dX12_takesFrom_32 (by decide) ?_
      refine g_iload_n X dX12_takesFrom_33 rfl ?_
      refine g_iadd X dX12_takesFrom_34 ?_
      refine g_dup2_11 X rfl rfl dX12_takesFrom_35 ?_
      obtain ⟨v36, e36, hM⟩ := bind_of hM
      refine g_iaload X e36 dX12_takesFrom_36 ?_
      refine g_iload_n X dX12_takesFrom_37 rfl ?_
      refine g_isub X dX12_takesFrom_38 ?_
      obtain ⟨u39, e39, hM⟩ := bind_of hM
      refine g_iastore X e39 dX12_takesFrom_39 ?_
      refine g_iconst X (v := 1) dX12_takesFrom_40 (by decide) ?_
      cases hM
      exact g_zret X (Or.inr rfl) dX12_takesFrom_41
    · rw [if_pos c23] at hM
      refine g_mk [false, false, false] [none, none, none] rfl ?_
      exact v_X12_takesFrom_b26 X  hM
theorem s_X12_takesFrom {x1 : Int32} {x2 : Int32} {u : gM} {w : (Int32 × gM)} (hM : X12_takesFrom x1 x2 u = some w) : gMet skM yX12_takesFrom cX12_takesFrom 3 (some .boolean) 2 46 (fun B adK => [.ref (B + 0), .int x1, .int x2]) u ((fun _ => some (.int w.1)), w.2) := by
  refine gMet.of (by decide) (fun _ _ => Nat.le_of_ble_eq_true rfl) (fun κ B X => ?_)
  have X : gX κ B skM cX12_takesFrom 3 RX12 (some .boolean) 2 46 := X
  refine g_mk [true, true, true] [some (.ref (B + 0)), some (.int x1), some (.int x2)] rfl ?_
  exact v_X12_takesFrom X  hM
theorem fr_X12_takesFrom_b26 {S : Nat → Prop} {u0 u : gM}     {w : (Int32 × gM)} (hM : X12_takesFrom_b26 u = some w) (h0 : off S u0 u) : off S u0 w.2 := by
  unfold X12_takesFrom_b26 at hM
  cases hM
  exact h0
theorem fr_X12_takesFrom {S : Nat → Prop} {u0 u : gM} {x1 : Int32} {x2 : Int32} (hs0 : S 16)   {w : (Int32 × gM)} (hM : X12_takesFrom x1 x2 u = some w) (h0 : off S u0 u) : off S u0 w.2 := by
  unfold X12_takesFrom at hM
  obtain ⟨w2, e2, hM⟩ := bind_of hM
  by_cases c5 : w2 = 0
  · rw [if_pos c5] at hM
    exact fr_X12_takesFrom_b26   hM h0
  · rw [if_neg c5] at hM
    obtain ⟨v18, e18, hM⟩ := bind_of hM
    obtain ⟨w20, e20, hM⟩ := bind_of hM
    by_cases c23 : w20 = 0
    · rw [if_pos c23] at hM
      exact fr_X12_takesFrom_b26   hM h0
    · rw [if_neg c23] at hM
      obtain ⟨v36, e36, hM⟩ := bind_of hM
      obtain ⟨u39, e39, hM⟩ := bind_of hM
      have h0 := off_sI hs0 e39 h0
      cases hM
      exact h0
/-! CoverDeskModel.isOpen(I)Z -/
theorem dX12_isOpen_0 : decode cX12_isOpen 0 = .ok (.aload_n 0, 1) := by decide +kernel
theorem dX12_isOpen_1 : decode cX12_isOpen 1 = .ok (.getfield 56, 3) := by decide +kernel
theorem dX12_isOpen_4 : decode cX12_isOpen 4 = .ok (.bipush 35, 2) := by decide +kernel
theorem dX12_isOpen_6 : decode cX12_isOpen 6 = .ok (.iload_n 1, 1) := by decide +kernel
theorem dX12_isOpen_7 : decode cX12_isOpen 7 = .ok (.iadd, 1) := by decide +kernel
theorem dX12_isOpen_8 : decode cX12_isOpen 8 = .ok (.iaload, 1) := by decide +kernel
theorem dX12_isOpen_9 : decode cX12_isOpen 9 = .ok (.iconst (-1), 1) := by decide +kernel
theorem dX12_isOpen_10 : decode cX12_isOpen 10 = .ok (.if_icmp .ne 19, 3) := by decide +kernel
theorem dX12_isOpen_13 : decode cX12_isOpen 13 = .ok (.aload_n 0, 1) := by decide +kernel
theorem dX12_isOpen_14 : decode cX12_isOpen 14 = .ok (.getfield 56, 3) := by decide +kernel
theorem dX12_isOpen_17 : decode cX12_isOpen 17 = .ok (.bipush 47, 2) := by decide +kernel
theorem dX12_isOpen_19 : decode cX12_isOpen 19 = .ok (.iload_n 1, 1) := by decide +kernel
theorem dX12_isOpen_20 : decode cX12_isOpen 20 = .ok (.iadd, 1) := by decide +kernel
theorem dX12_isOpen_21 : decode cX12_isOpen 21 = .ok (.iaload, 1) := by decide +kernel
theorem dX12_isOpen_22 : decode cX12_isOpen 22 = .ok (.ifCond .ne 7, 3) := by decide +kernel
theorem dX12_isOpen_25 : decode cX12_isOpen 25 = .ok (.iconst 1, 1) := by decide +kernel
theorem dX12_isOpen_26 : decode cX12_isOpen 26 = .ok (.goto 4, 3) := by decide +kernel
theorem dX12_isOpen_29 : decode cX12_isOpen 29 = .ok (.iconst 0, 1) := by decide +kernel
theorem dX12_isOpen_30 : decode cX12_isOpen 30 = .ok (.ireturn, 1) := by decide +kernel
def X12_isOpen_b30 (u : gM)  (s0 : Int32) : Option Int32 :=
bI s0
def X12_isOpen_b29 (u : gM)   : Option Int32 :=
(X12_isOpen_b30 u 0)
def X12_isOpen (u : gM)  (x1 : Int32) : Option Int32 :=
((aI skM u 16 (35 + x1)).bind fun v8 => (if v8 = (-1) then ((aI skM u 16 (47 + x1)).bind fun v21 => (if v21 = 0 then (X12_isOpen_b30 u 1)
    else (X12_isOpen_b29 u)))
  else (X12_isOpen_b29 u)))
set_option maxRecDepth 20000 in
theorem v_X12_isOpen_b30 {κ : gK} {B : Nat} {u : gM} (X : gX κ B skM cX12_isOpen 2 RX12 (some .boolean) 0 0)   {s0 : Int32} {w : Int32} (hM : X12_isOpen_b30 u s0 = some w) : gV κ B skM 2 ((some (.int w)), u) 30 [none, none] [.int s0] u := by
  unfold X12_isOpen_b30 at hM
  obtain ⟨hv, rfl⟩ := bI_of hM
  exact g_zret X hv dX12_isOpen_30
set_option maxRecDepth 20000 in
theorem v_X12_isOpen_b29 {κ : gK} {B : Nat} {u : gM} (X : gX κ B skM cX12_isOpen 2 RX12 (some .boolean) 0 0)    {w : Int32} (hM : X12_isOpen_b29 u = some w) : gV κ B skM 2 ((some (.int w)), u) 29 [none, none] [] u := by
  unfold X12_isOpen_b29 at hM
  refine g_iconst X (v := 0) dX12_isOpen_29 (by decide) ?_
  refine g_mk [false, false] [none, none] rfl ?_
  exact v_X12_isOpen_b30 X  hM
set_option maxRecDepth 20000 in
theorem v_X12_isOpen {κ : gK} {B : Nat} {u : gM} (X : gX κ B skM cX12_isOpen 2 RX12 (some .boolean) 0 0)   {x1 : Int32} {w : Int32} (hM : X12_isOpen u x1 = some w) : gV κ B skM 2 ((some (.int w)), u) 0 [some (.ref (B + 0)), some (.int x1)] [] u := by
  unfold X12_isOpen at hM
  refine g_aload_n X dX12_isOpen_0 rfl ?_
  refine g_getR X fX12_56 cM_0 rfl dX12_isOpen_1 ?_
  refine g_bipush X (v := 35) dX12_isOpen_4 (by decide) ?_
  refine g_iload_n X dX12_isOpen_6 rfl ?_
  refine g_iadd X dX12_isOpen_7 ?_
  obtain ⟨v8, e8, hM⟩ := bind_of hM
  refine g_iaload X e8 dX12_isOpen_8 ?_
  refine g_iconst X (v := (-1)) dX12_isOpen_9 (by decide) ?_
  refine g_icmp_ne (tgt := 29) X dX12_isOpen_10 (by decide) (fun c10 => ?_) (fun c10 => ?_)
  · rw [if_neg c10] at hM
    refine g_mk [false, false] [none, none] rfl ?_
    exact v_X12_isOpen_b29 X  hM
  · rw [if_pos c10] at hM
    refine g_aload_n X dX12_isOpen_13 rfl ?_
    refine g_getR X fX12_56 cM_0 rfl dX12_isOpen_14 ?_
    refine g_bipush X (v := 47) dX12_isOpen_17 (by decide) ?_
    refine g_iload_n X dX12_isOpen_19 rfl ?_
    refine g_iadd X dX12_isOpen_20 ?_
    obtain ⟨v21, e21, hM⟩ := bind_of hM
    refine g_iaload X e21 dX12_isOpen_21 ?_
    refine g_if_ne (tgt := 29) X dX12_isOpen_22 (by decide) (fun c22 => ?_) (fun c22 => ?_)
    · rw [if_neg c22] at hM
      refine g_mk [false, false] [none, none] rfl ?_
      exact v_X12_isOpen_b29 X  hM
    · rw [if_pos c22] at hM
      refine g_iconst X (v := 1) dX12_isOpen_25 (by decide) ?_
      refine g_goto (tgt := 30) X dX12_isOpen_26 (by decide) ?_
      refine g_mk [false, false] [none, none] rfl ?_
      exact v_X12_isOpen_b30 X  hM
theorem s_X12_isOpen {x1 : Int32} {u : gM} {w : Int32} (hM : X12_isOpen u x1 = some w) : gMet skM yX12_isOpen cX12_isOpen 2 (some .boolean) 0 0 (fun B adK => [.ref (B + 0), .int x1]) u ((fun _ => some (.int w)), u) := by
  refine gMet.of (by decide) (fun _ _ => Nat.le_of_ble_eq_true rfl) (fun κ B X => ?_)
  have X : gX κ B skM cX12_isOpen 2 RX12 (some .boolean) 0 0 := X
  refine g_mk [true, true] [some (.ref (B + 0)), some (.int x1)] rfl ?_
  exact v_X12_isOpen X  hM

/-! CoverDeskModel.merges(II)Z -/
theorem dX12_merges_0 : decode cX12_merges 0 = .ok (.aload_n 0, 1) := by decide +kernel
theorem dX12_merges_1 : decode cX12_merges 1 = .ok (.iload_n 1, 1) := by decide +kernel
theorem dX12_merges_2 : decode cX12_merges 2 = .ok (.invokevirtual 369, 3) := by decide +kernel
theorem dX12_merges_5 : decode cX12_merges 5 = .ok (.ifCond .eq 32, 3) := by decide +kernel
theorem dX12_merges_8 : decode cX12_merges 8 = .ok (.aload_n 0, 1) := by decide +kernel
theorem dX12_merges_9 : decode cX12_merges 9 = .ok (.iload_n 2, 1) := by decide +kernel
theorem dX12_merges_10 : decode cX12_merges 10 = .ok (.invokevirtual 369, 3) := by decide +kernel
theorem dX12_merges_13 : decode cX12_merges 13 = .ok (.ifCond .eq 24, 3) := by decide +kernel
theorem dX12_merges_16 : decode cX12_merges 16 = .ok (.iload_n 1, 1) := by decide +kernel
theorem dX12_merges_17 : decode cX12_merges 17 = .ok (.iload_n 2, 1) := by decide +kernel
theorem dX12_merges_18 : decode cX12_merges 18 = .ok (.if_icmp .eq 19, 3) := by decide +kernel
theorem dX12_merges_21 : decode cX12_merges 21 = .ok (.aload_n 0, 1) := by decide +kernel
theorem dX12_merges_22 : decode cX12_merges 22 = .ok (.iload_n 1, 1) := by decide +kernel
theorem dX12_merges_23 : decode cX12_merges 23 = .ok (.invokevirtual 372, 3) := by decide +kernel
theorem dX12_merges_26 : decode cX12_merges 26 = .ok (.ifCond .eq 11, 3) := by decide +kernel
theorem dX12_merges_29 : decode cX12_merges 29 = .ok (.aload_n 0, 1) := by decide +kernel
theorem dX12_merges_30 : decode cX12_merges 30 = .ok (.iload_n 2, 1) := by decide +kernel
theorem dX12_merges_31 : decode cX12_merges 31 = .ok (.invokevirtual 372, 3) := by decide +kernel
theorem dX12_merges_34 : decode cX12_merges 34 = .ok (.ifCond .ne 5, 3) := by decide +kernel
theorem dX12_merges_37 : decode cX12_merges 37 = .ok (.iconst 0, 1) := by decide +kernel
theorem dX12_merges_38 : decode cX12_merges 38 = .ok (.ireturn, 1) := by decide +kernel
theorem dX12_merges_39 : decode cX12_merges 39 = .ok (.aload_n 0, 1) := by decide +kernel
theorem dX12_merges_40 : decode cX12_merges 40 = .ok (.getfield 56, 3) := by decide +kernel
theorem dX12_merges_43 : decode cX12_merges 43 = .ok (.bipush 35, 2) := by decide +kernel
theorem dX12_merges_45 : decode cX12_merges 45 = .ok (.iload_n 1, 1) := by decide +kernel
theorem dX12_merges_46 : decode cX12_merges 46 = .ok (.iadd, 1) := by decide +kernel
theorem dX12_merges_47 : decode cX12_merges 47 = .ok (.iload_n 2, 1) := by decide +kernel
theorem dX12_merges_48 : decode cX12_merges 48 = .ok (.iastore, 1) := by decide +kernel
theorem dX12_merges_49 : decode cX12_merges 49 = .ok (.aload_n 0, 1) := by decide +kernel
theorem dX12_merges_50 : decode cX12_merges 50 = .ok (.getfield 56, 3) := by decide +kernel
theorem dX12_merges_53 : decode cX12_merges 53 = .ok (.bipush 41, 2) := by decide +kernel
theorem dX12_merges_55 : decode cX12_merges 55 = .ok (.iload_n 1, 1) := by decide +kernel
theorem dX12_merges_56 : decode cX12_merges 56 = .ok (.iadd, 1) := by decide +kernel
theorem dX12_merges_57 : decode cX12_merges 57 = .ok (.aload_n 0, 1) := by decide +kernel
theorem dX12_merges_58 : decode cX12_merges 58 = .ok (.getfield 56, 3) := by decide +kernel
theorem dX12_merges_61 : decode cX12_merges 61 = .ok (.iconst 0, 1) := by decide +kernel
theorem dX12_merges_62 : decode cX12_merges 62 = .ok (.iaload, 1) := by decide +kernel
theorem dX12_merges_63 : decode cX12_merges 63 = .ok (.iastore, 1) := by decide +kernel
theorem dX12_merges_64 : decode cX12_merges 64 = .ok (.iconst 1, 1) := by decide +kernel
theorem dX12_merges_65 : decode cX12_merges 65 = .ok (.ireturn, 1) := by decide +kernel
def X12_merges_b37   (u : gM) : Option (Int32 × gM) :=
some (0, u)
def X12_merges  (x1 : Int32) (x2 : Int32) (u : gM) : Option (Int32 × gM) :=
((X12_isBank u x1).bind fun w2 => (if w2 = 0 then (X12_merges_b37 u)
  else ((X12_isBank u x2).bind fun w10 => (if w10 = 0 then (X12_merges_b37 u)
    else (if x1 = x2 then (X12_merges_b37 u)
      else ((X12_isOpen u x1).bind fun w23 => (if w23 = 0 then (X12_merges_b37 u)
        else ((X12_isOpen u x2).bind fun w31 => (if w31 = 0 then (X12_merges_b37 u)
          else ((sI skM u 16 (35 + x1) x2).bind fun u48 => ((aI skM u48 16 0).bind fun v62 => ((sI skM u48 16 (41 + x1) v62).bind fun u63 => some (1, u63)))))))))))))
set_option maxRecDepth 20000 in
theorem v_X12_merges_b37 {κ : gK} {B : Nat} {u : gM} (X : gX κ B skM cX12_merges 3 RX12 (some .boolean) 2 46)    {w : (Int32 × gM)} (hM : X12_merges_b37 u = some w) : gV κ B skM 3 ((some (.int w.1)), w.2) 37 [none, none, none] [] u := by
  unfold X12_merges_b37 at hM
  refine g_iconst X (v := 0) dX12_merges_37 (by decide) ?_
  cases hM
  exact g_zret X (Or.inl rfl) dX12_merges_38
set_option maxRecDepth 20000 in
theorem v_X12_merges {κ : gK} {B : Nat} {u : gM} (X : gX κ B skM cX12_merges 3 RX12 (some .boolean) 2 46)   {x1 : Int32} {x2 : Int32} {w : (Int32 × gM)} (hM : X12_merges x1 x2 u = some w) : gV κ B skM 3 ((some (.int w.1)), w.2) 0 [some (.ref (B + 0)), some (.int x1), some (.int x2)] [] u := by
  unfold X12_merges at hM
  refine g_aload_n X dX12_merges_0 rfl ?_
  refine g_iload_n X dX12_merges_1 rfl ?_
  obtain ⟨w2, e2, hM⟩ := bind_of hM
  refine g_callVi X (fun B adK => [.int x1]) (s_X12_isBank e2) cvX12_369 cM_0 rfl rfl (Nat.le_of_ble_eq_true rfl) ⟨by decide, by decide⟩ dX12_merges_2 ?_
  refine g_if_eq (tgt := 37) X dX12_merges_5 (by decide) (fun c5 => ?_) (fun c5 => ?_)
  · rw [if_pos c5] at hM
    refine g_mk [false, false, false] [none, none, none] rfl ?_
    exact v_X12_merges_b37 X  hM
  · rw [if_neg c5] at hM
    refine g_aload_n X dX12_merges_8 rfl ?_
    refine g_iload_n X dX12_merges_9 rfl ?_
    obtain ⟨w10, e10, hM⟩ := bind_of hM
    refine g_callVi X (fun B adK => [.int x2]) (s_X12_isBank e10) cvX12_369 cM_0 rfl rfl (Nat.le_of_ble_eq_true rfl) ⟨by decide, by decide⟩ dX12_merges_10 ?_
    refine g_if_eq (tgt := 37) X dX12_merges_13 (by decide) (fun c13 => ?_) (fun c13 => ?_)
    · rw [if_pos c13] at hM
      refine g_mk [false, false, false] [none, none, none] rfl ?_
      exact v_X12_merges_b37 X  hM
    · rw [if_neg c13] at hM
      refine g_iload_n X dX12_merges_16 rfl ?_
      refine g_iload_n X dX12_merges_17 rfl ?_
      refine g_icmp_eq (tgt := 37) X dX12_merges_18 (by decide) (fun c18 => ?_) (fun c18 => ?_)
      · rw [if_pos c18] at hM
        refine g_mk [false, false, false] [none, none, none] rfl ?_
        exact v_X12_merges_b37 X  hM
      · rw [if_neg c18] at hM
        refine g_aload_n X dX12_merges_21 rfl ?_
        refine g_iload_n X dX12_merges_22 rfl ?_
        obtain ⟨w23, e23, hM⟩ := bind_of hM
        refine g_callVi X (fun B adK => [.int x1]) (s_X12_isOpen e23) cvX12_372 cM_0 rfl rfl (Nat.le_of_ble_eq_true rfl) ⟨by decide, by decide⟩ dX12_merges_23 ?_
        refine g_if_eq (tgt := 37) X dX12_merges_26 (by decide) (fun c26 => ?_) (fun c26 => ?_)
        · rw [if_pos c26] at hM
          refine g_mk [false, false, false] [none, none, none] rfl ?_
          exact v_X12_merges_b37 X  hM
        · rw [if_neg c26] at hM
          refine g_aload_n X dX12_merges_29 rfl ?_
          refine g_iload_n X dX12_merges_30 rfl ?_
          obtain ⟨w31, e31, hM⟩ := bind_of hM
          refine g_callVi X (fun B adK => [.int x2]) (s_X12_isOpen e31) cvX12_372 cM_0 rfl rfl (Nat.le_of_ble_eq_true rfl) ⟨by decide, by decide⟩ dX12_merges_31 ?_
          refine g_if_ne (tgt := 39) X dX12_merges_34 (by decide) (fun c34 => ?_) (fun c34 => ?_)
          · rw [if_neg c34] at hM
            refine g_aload_n X dX12_merges_39 rfl ?_
            refine g_getR X fX12_56 cM_0 rfl dX12_merges_40 ?_
            refine g_bipush X (v := 35) dX12_merges_43 (by decide) ?_
            refine g_iload_n X dX12_merges_45 rfl ?_
            refine g_iadd X dX12_merges_46 ?_
            refine g_iload_n X dX12_merges_47 rfl ?_
            obtain ⟨u48, e48, hM⟩ := bind_of hM
            refine g_iastore X e48 dX12_merges_48 ?_
            refine g_aload_n X dX12_merges_49 rfl ?_
            refine g_getR X fX12_56 cM_0 rfl dX12_merges_50 ?_
            refine g_bipush X (v := 41) dX12_merges_53 (by decide) ?_
            refine g_iload_n X dX12_merges_55 rfl ?_
            refine g_iadd X dX12_merges_56 ?_
            refine g_aload_n X dX12_merges_57 rfl ?_
            refine g_getR X fX12_56 cM_0 rfl dX12_merges_58 ?_
            refine g_iconst X (v := 0) dX12_merges_61 (by decide) ?_
            obtain ⟨v62, e62, hM⟩ := bind_of hM
            refine g_iaload X e62 dX12_merges_62 ?_
            obtain ⟨u63, e63, hM⟩ := bind_of hM
            refine g_iastore X e63 dX12_merges_63 ?_
            refine g_iconst X (v := 1) dX12_merges_64 (by decide) ?_
            cases hM
            exact g_zret X (Or.inr rfl) dX12_merges_65
          · rw [if_pos c34] at hM
            refine g_mk [false, false, false] [none, none, none] rfl ?_
            exact v_X12_merges_b37 X  hM
theorem s_X12_merges {x1 : Int32} {x2 : Int32} {u : gM} {w : (Int32 × gM)} (hM : X12_merges x1 x2 u = some w) : gMet skM yX12_merges cX12_merges 3 (some .boolean) 2 46 (fun B adK => [.ref (B + 0), .int x1, .int x2]) u ((fun _ => some (.int w.1)), w.2) := by
  refine gMet.of (by decide) (fun _ _ => Nat.le_of_ble_eq_true rfl) (fun κ B X => ?_)
  have X : gX κ B skM cX12_merges 3 RX12 (some .boolean) 2 46 := X
  refine g_mk [true, true, true] [some (.ref (B + 0)), some (.int x1), some (.int x2)] rfl ?_
  exact v_X12_merges X  hM
theorem fr_X12_merges_b37 {S : Nat → Prop} {u0 u : gM}     {w : (Int32 × gM)} (hM : X12_merges_b37 u = some w) (h0 : off S u0 u) : off S u0 w.2 := by
  unfold X12_merges_b37 at hM
  cases hM
  exact h0
theorem fr_X12_merges {S : Nat → Prop} {u0 u : gM} {x1 : Int32} {x2 : Int32} (hs0 : S 16)   {w : (Int32 × gM)} (hM : X12_merges x1 x2 u = some w) (h0 : off S u0 u) : off S u0 w.2 := by
  unfold X12_merges at hM
  obtain ⟨w2, e2, hM⟩ := bind_of hM
  by_cases c5 : w2 = 0
  · rw [if_pos c5] at hM
    exact fr_X12_merges_b37   hM h0
  · rw [if_neg c5] at hM
    obtain ⟨w10, e10, hM⟩ := bind_of hM
    by_cases c13 : w10 = 0
    · rw [if_pos c13] at hM
      exact fr_X12_merges_b37   hM h0
    · rw [if_neg c13] at hM
      by_cases c18 : x1 = x2
      · rw [if_pos c18] at hM
        exact fr_X12_merges_b37   hM h0
      · rw [if_neg c18] at hM
        obtain ⟨w23, e23, hM⟩ := bind_of hM
        by_cases c26 : w23 = 0
        · rw [if_pos c26] at hM
          exact fr_X12_merges_b37   hM h0
        · rw [if_neg c26] at hM
          obtain ⟨w31, e31, hM⟩ := bind_of hM
          by_cases c34 : w31 = 0
          · rw [if_pos c34] at hM
            exact fr_X12_merges_b37   hM h0
          · rw [if_neg c34] at hM
            obtain ⟨u48, e48, hM⟩ := bind_of hM
            have h0 := off_sI hs0 e48 h0
            obtain ⟨v62, e62, hM⟩ := bind_of hM
            obtain ⟨u63, e63, hM⟩ := bind_of hM
            have h0 := off_sI hs0 e63 h0
            cases hM
            exact h0
/-! CoverDeskModel.passes(I)Z -/
theorem dX12_passes_0 : decode cX12_passes 0 = .ok (.iload_n 1, 1) := by decide +kernel
theorem dX12_passes_1 : decode cX12_passes 1 = .ok (.i2l, 1) := by decide +kernel
theorem dX12_passes_2 : decode cX12_passes 2 = .ok (.lconst 1, 1) := by decide +kernel
theorem dX12_passes_3 : decode cX12_passes 3 = .ok (.ldc2_w 375, 3) := by decide +kernel
theorem dX12_passes_6 : decode cX12_passes 6 = .ok (.invokestatic 125, 3) := by decide +kernel
theorem dX12_passes_9 : decode cX12_passes 9 = .ok (.ifCond .eq 17, 3) := by decide +kernel
theorem dX12_passes_12 : decode cX12_passes 12 = .ok (.aload_n 0, 1) := by decide +kernel
theorem dX12_passes_13 : decode cX12_passes 13 = .ok (.getfield 56, 3) := by decide +kernel
theorem dX12_passes_16 : decode cX12_passes 16 = .ok (.iconst 0, 1) := by decide +kernel
theorem dX12_passes_17 : decode cX12_passes 17 = .ok (.iaload, 1) := by decide +kernel
theorem dX12_passes_18 : decode cX12_passes 18 = .ok (.iload_n 1, 1) := by decide +kernel
theorem dX12_passes_19 : decode cX12_passes 19 = .ok (.iadd, 1) := by decide +kernel
theorem dX12_passes_20 : decode cX12_passes 20 = .ok (.sipush 999, 3) := by decide +kernel
theorem dX12_passes_23 : decode cX12_passes 23 = .ok (.if_icmp .le 5, 3) := by decide +kernel
theorem dX12_passes_26 : decode cX12_passes 26 = .ok (.iconst 0, 1) := by decide +kernel
theorem dX12_passes_27 : decode cX12_passes 27 = .ok (.ireturn, 1) := by decide +kernel
theorem dX12_passes_28 : decode cX12_passes 28 = .ok (.aload_n 0, 1) := by decide +kernel
theorem dX12_passes_29 : decode cX12_passes 29 = .ok (.getfield 56, 3) := by decide +kernel
theorem dX12_passes_32 : decode cX12_passes 32 = .ok (.iconst 0, 1) := by decide +kernel
theorem dX12_passes_33 : decode cX12_passes 33 = .ok (.dup2, 1) := by decide +kernel
theorem dX12_passes_34 : decode cX12_passes 34 = .ok (.iaload, 1) := by decide +kernel
theorem dX12_passes_35 : decode cX12_passes 35 = .ok (.iload_n 1, 1) := by decide +kernel
theorem dX12_passes_36 : decode cX12_passes 36 = .ok (.iadd, 1) := by decide +kernel
theorem dX12_passes_37 : decode cX12_passes 37 = .ok (.iastore, 1) := by decide +kernel
theorem dX12_passes_38 : decode cX12_passes 38 = .ok (.iconst 1, 1) := by decide +kernel
theorem dX12_passes_39 : decode cX12_passes 39 = .ok (.ireturn, 1) := by decide +kernel
def X12_passes_b26   (u : gM) : Option (Int32 × gM) :=
some (0, u)
def X12_passes  (x1 : Int32) (u : gM) : Option (Int32 × gM) :=
((X12_isIn u x1.toInt64 1 99).bind fun w6 => (if w6 = 0 then (X12_passes_b26 u)
  else ((aI skM u 16 0).bind fun v17 => (if (v17 + x1) ≤ 999 then ((aI skM u 16 0).bind fun v34 => ((sI skM u 16 0 (v34 + x1)).bind fun u37 => some (1, u37)))
    else (X12_passes_b26 u)))))
set_option maxRecDepth 20000 in
theorem v_X12_passes_b26 {κ : gK} {B : Nat} {u : gM} (X : gX κ B skM cX12_passes 2 RX12 (some .boolean) 1 25)    {w : (Int32 × gM)} (hM : X12_passes_b26 u = some w) : gV κ B skM 2 ((some (.int w.1)), w.2) 26 [none, none] [] u := by
  unfold X12_passes_b26 at hM
  refine g_iconst X (v := 0) dX12_passes_26 (by decide) ?_
  cases hM
  exact g_zret X (Or.inl rfl) dX12_passes_27
set_option maxRecDepth 20000 in
theorem v_X12_passes {κ : gK} {B : Nat} {u : gM} (X : gX κ B skM cX12_passes 2 RX12 (some .boolean) 1 25)   {x1 : Int32} {w : (Int32 × gM)} (hM : X12_passes x1 u = some w) : gV κ B skM 2 ((some (.int w.1)), w.2) 0 [some (.ref (B + 0)), some (.int x1)] [] u := by
  unfold X12_passes at hM
  refine g_iload_n X dX12_passes_0 rfl ?_
  refine g_i2l X dX12_passes_1 ?_
  refine g_lconst (v := 1) X dX12_passes_2 (by decide) ?_
  refine g_ldc2 (v := 99) X m_40_18 dX12_passes_3 ?_
  obtain ⟨w6, e6, hM⟩ := bind_of hM
  refine g_callSi X (fun B adK => [.long x1.toInt64, .long 1, .long 99]) (s_X12_isIn e6) cvX12_125 rfl rfl (Nat.le_of_ble_eq_true rfl) ⟨by decide, by decide⟩ dX12_passes_6 ?_
  refine g_if_eq (tgt := 26) X dX12_passes_9 (by decide) (fun c9 => ?_) (fun c9 => ?_)
  · rw [if_pos c9] at hM
    refine g_mk [false, false] [none, none] rfl ?_
    exact v_X12_passes_b26 X  hM
  · rw [if_neg c9] at hM
    refine g_aload_n X dX12_passes_12 rfl ?_
    refine g_getR X fX12_56 cM_0 rfl dX12_passes_13 ?_
    refine g_iconst X (v := 0) dX12_passes_16 (by decide) ?_
    obtain ⟨v17, e17, hM⟩ := bind_of hM
    refine g_iaload X e17 dX12_passes_17 ?_
    refine g_iload_n X dX12_passes_18 rfl ?_
    refine g_iadd X dX12_passes_19 ?_
    refine g_sipush X (v := 999) dX12_passes_20 (by decide) ?_
    refine g_icmp_le (tgt := 28) X dX12_passes_23 (by decide) (fun c23 => ?_) (fun c23 => ?_)
    · rw [if_pos c23] at hM
      refine g_aload_n X dX12_passes_28 rfl ?_
      refine g_getR X fX12_56 cM_0 rfl dX12_passes_29 ?_
      refine g_iconst X (v := 0) dX12_passes_32 (by decide) ?_
      refine g_dup2_11 X rfl rfl dX12_passes_33 ?_
      obtain ⟨v34, e34, hM⟩ := bind_of hM
      refine g_iaload X e34 dX12_passes_34 ?_
      refine g_iload_n X dX12_passes_35 rfl ?_
      refine g_iadd X dX12_passes_36 ?_
      obtain ⟨u37, e37, hM⟩ := bind_of hM
      refine g_iastore X e37 dX12_passes_37 ?_
      refine g_iconst X (v := 1) dX12_passes_38 (by decide) ?_
      cases hM
      exact g_zret X (Or.inr rfl) dX12_passes_39
    · rw [if_neg c23] at hM
      refine g_mk [false, false] [none, none] rfl ?_
      exact v_X12_passes_b26 X  hM
theorem s_X12_passes {x1 : Int32} {u : gM} {w : (Int32 × gM)} (hM : X12_passes x1 u = some w) : gMet skM yX12_passes cX12_passes 2 (some .boolean) 1 25 (fun B adK => [.ref (B + 0), .int x1]) u ((fun _ => some (.int w.1)), w.2) := by
  refine gMet.of (by decide) (fun _ _ => Nat.le_of_ble_eq_true rfl) (fun κ B X => ?_)
  have X : gX κ B skM cX12_passes 2 RX12 (some .boolean) 1 25 := X
  refine g_mk [true, true] [some (.ref (B + 0)), some (.int x1)] rfl ?_
  exact v_X12_passes X  hM
theorem fr_X12_passes_b26 {S : Nat → Prop} {u0 u : gM}     {w : (Int32 × gM)} (hM : X12_passes_b26 u = some w) (h0 : off S u0 u) : off S u0 w.2 := by
  unfold X12_passes_b26 at hM
  cases hM
  exact h0
theorem fr_X12_passes {S : Nat → Prop} {u0 u : gM} {x1 : Int32} (hs0 : S 16)   {w : (Int32 × gM)} (hM : X12_passes x1 u = some w) (h0 : off S u0 u) : off S u0 w.2 := by
  unfold X12_passes at hM
  obtain ⟨w6, e6, hM⟩ := bind_of hM
  by_cases c9 : w6 = 0
  · rw [if_pos c9] at hM
    exact fr_X12_passes_b26   hM h0
  · rw [if_neg c9] at hM
    obtain ⟨v17, e17, hM⟩ := bind_of hM
    by_cases c23 : (v17 + x1) ≤ 999
    · rw [if_pos c23] at hM
      obtain ⟨v34, e34, hM⟩ := bind_of hM
      obtain ⟨u37, e37, hM⟩ := bind_of hM
      have h0 := off_sI hs0 e37 h0
      cases hM
      exact h0
    · rw [if_neg c23] at hM
      exact fr_X12_passes_b26   hM h0
/-! CoverDeskModel.isLoan(I)Z -/
theorem dX12_isLoan_0 : decode cX12_isLoan 0 = .ok (.iload_n 1, 1) := by decide +kernel
theorem dX12_isLoan_1 : decode cX12_isLoan 1 = .ok (.i2l, 1) := by decide +kernel
theorem dX12_isLoan_2 : decode cX12_isLoan 2 = .ok (.lconst 0, 1) := by decide +kernel
theorem dX12_isLoan_3 : decode cX12_isLoan 3 = .ok (.aload_n 0, 1) := by decide +kernel
theorem dX12_isLoan_4 : decode cX12_isLoan 4 = .ok (.getfield 7, 3) := by decide +kernel
theorem dX12_isLoan_7 : decode cX12_isLoan 7 = .ok (.iconst 3, 1) := by decide +kernel
theorem dX12_isLoan_8 : decode cX12_isLoan 8 = .ok (.iaload, 1) := by decide +kernel
theorem dX12_isLoan_9 : decode cX12_isLoan 9 = .ok (.iconst 1, 1) := by decide +kernel
theorem dX12_isLoan_10 : decode cX12_isLoan 10 = .ok (.isub, 1) := by decide +kernel
theorem dX12_isLoan_11 : decode cX12_isLoan 11 = .ok (.i2l, 1) := by decide +kernel
theorem dX12_isLoan_12 : decode cX12_isLoan 12 = .ok (.invokestatic 125, 3) := by decide +kernel
theorem dX12_isLoan_15 : decode cX12_isLoan 15 = .ok (.ireturn, 1) := by decide +kernel
def X12_isLoan (u : gM)  (x1 : Int32) : Option Int32 :=
((aI skM u 1 3).bind fun v8 => ((X12_isIn u x1.toInt64 0 (v8 - 1).toInt64).bind fun w12 => bI w12))
set_option maxRecDepth 20000 in
theorem v_X12_isLoan {κ : gK} {B : Nat} {u : gM} (X : gX κ B skM cX12_isLoan 2 RX12 (some .boolean) 1 25)   {x1 : Int32} {w : Int32} (hM : X12_isLoan u x1 = some w) : gV κ B skM 2 ((some (.int w)), u) 0 [some (.ref (B + 0)), some (.int x1)] [] u := by
  unfold X12_isLoan at hM
  refine g_iload_n X dX12_isLoan_0 rfl ?_
  refine g_i2l X dX12_isLoan_1 ?_
  refine g_lconst (v := 0) X dX12_isLoan_2 (by decide) ?_
  refine g_aload_n X dX12_isLoan_3 rfl ?_
  refine g_getR X fX12_7 cM_0 rfl dX12_isLoan_4 ?_
  refine g_iconst X (v := 3) dX12_isLoan_7 (by decide) ?_
  obtain ⟨v8, e8, hM⟩ := bind_of hM
  refine g_iaload X e8 dX12_isLoan_8 ?_
  refine g_iconst X (v := 1) dX12_isLoan_9 (by decide) ?_
  refine g_isub X dX12_isLoan_10 ?_
  refine g_i2l X dX12_isLoan_11 ?_
  obtain ⟨w12, e12, hM⟩ := bind_of hM
  refine g_callSi X (fun B adK => [.long x1.toInt64, .long 0, .long (v8 - 1).toInt64]) (s_X12_isIn e12) cvX12_125 rfl rfl (Nat.le_of_ble_eq_true rfl) ⟨by decide, by decide⟩ dX12_isLoan_12 ?_
  obtain ⟨hv, rfl⟩ := bI_of hM
  exact g_zret X hv dX12_isLoan_15
theorem s_X12_isLoan {x1 : Int32} {u : gM} {w : Int32} (hM : X12_isLoan u x1 = some w) : gMet skM yX12_isLoan cX12_isLoan 2 (some .boolean) 1 25 (fun B adK => [.ref (B + 0), .int x1]) u ((fun _ => some (.int w)), u) := by
  refine gMet.of (by decide) (fun _ _ => Nat.le_of_ble_eq_true rfl) (fun κ B X => ?_)
  have X : gX κ B skM cX12_isLoan 2 RX12 (some .boolean) 1 25 := X
  refine g_mk [true, true] [some (.ref (B + 0)), some (.int x1)] rfl ?_
  exact v_X12_isLoan X  hM

/-! CoverDeskModel.pays(II)Z -/
theorem dX12_pays_0 : decode cX12_pays 0 = .ok (.aload_n 0, 1) := by decide +kernel
theorem dX12_pays_1 : decode cX12_pays 1 = .ok (.iload_n 1, 1) := by decide +kernel
theorem dX12_pays_2 : decode cX12_pays 2 = .ok (.invokevirtual 377, 3) := by decide +kernel
theorem dX12_pays_5 : decode cX12_pays 5 = .ok (.ifCond .eq 22, 3) := by decide +kernel
theorem dX12_pays_8 : decode cX12_pays 8 = .ok (.iload_n 2, 1) := by decide +kernel
theorem dX12_pays_9 : decode cX12_pays 9 = .ok (.i2l, 1) := by decide +kernel
theorem dX12_pays_10 : decode cX12_pays 10 = .ok (.lconst 1, 1) := by decide +kernel
theorem dX12_pays_11 : decode cX12_pays 11 = .ok (.aload_n 0, 1) := by decide +kernel
theorem dX12_pays_12 : decode cX12_pays 12 = .ok (.getfield 56, 3) := by decide +kernel
theorem dX12_pays_15 : decode cX12_pays 15 = .ok (.bipush 25, 2) := by decide +kernel
theorem dX12_pays_17 : decode cX12_pays 17 = .ok (.iload_n 1, 1) := by decide +kernel
theorem dX12_pays_18 : decode cX12_pays 18 = .ok (.iadd, 1) := by decide +kernel
theorem dX12_pays_19 : decode cX12_pays 19 = .ok (.iaload, 1) := by decide +kernel
theorem dX12_pays_20 : decode cX12_pays 20 = .ok (.i2l, 1) := by decide +kernel
theorem dX12_pays_21 : decode cX12_pays 21 = .ok (.invokestatic 125, 3) := by decide +kernel
theorem dX12_pays_24 : decode cX12_pays 24 = .ok (.ifCond .ne 5, 3) := by decide +kernel
theorem dX12_pays_27 : decode cX12_pays 27 = .ok (.iconst 0, 1) := by decide +kernel
theorem dX12_pays_28 : decode cX12_pays 28 = .ok (.ireturn, 1) := by decide +kernel
theorem dX12_pays_29 : decode cX12_pays 29 = .ok (.aload_n 0, 1) := by decide +kernel
theorem dX12_pays_30 : decode cX12_pays 30 = .ok (.getfield 56, 3) := by decide +kernel
theorem dX12_pays_33 : decode cX12_pays 33 = .ok (.bipush 25, 2) := by decide +kernel
theorem dX12_pays_35 : decode cX12_pays 35 = .ok (.iload_n 1, 1) := by decide +kernel
theorem dX12_pays_36 : decode cX12_pays 36 = .ok (.iadd, 1) := by decide +kernel
theorem dX12_pays_37 : decode cX12_pays 37 = .ok (.dup2, 1) := by decide +kernel
theorem dX12_pays_38 : decode cX12_pays 38 = .ok (.iaload, 1) := by decide +kernel
theorem dX12_pays_39 : decode cX12_pays 39 = .ok (.iload_n 2, 1) := by decide +kernel
theorem dX12_pays_40 : decode cX12_pays 40 = .ok (.isub, 1) := by decide +kernel
theorem dX12_pays_41 : decode cX12_pays 41 = .ok (.iastore, 1) := by decide +kernel
theorem dX12_pays_42 : decode cX12_pays 42 = .ok (.iconst 1, 1) := by decide +kernel
theorem dX12_pays_43 : decode cX12_pays 43 = .ok (.ireturn, 1) := by decide +kernel
def X12_pays_b27   (u : gM) : Option (Int32 × gM) :=
some (0, u)
def X12_pays  (x1 : Int32) (x2 : Int32) (u : gM) : Option (Int32 × gM) :=
((X12_isLoan u x1).bind fun w2 => (if w2 = 0 then (X12_pays_b27 u)
  else ((aI skM u 16 (25 + x1)).bind fun v19 => ((X12_isIn u x2.toInt64 1 v19.toInt64).bind fun w21 => (if w21 = 0 then (X12_pays_b27 u)
    else ((aI skM u 16 (25 + x1)).bind fun v38 => ((sI skM u 16 (25 + x1) (v38 - x2)).bind fun u41 => some (1, u41))))))))
set_option maxRecDepth 20000 in
theorem v_X12_pays_b27 {κ : gK} {B : Nat} {u : gM} (X : gX κ B skM cX12_pays 3 RX12 (some .boolean) 2 46)    {w : (Int32 × gM)} (hM : X12_pays_b27 u = some w) : gV κ B skM 3 ((some (.int w.1)), w.2) 27 [none, none, none] [] u := by
  unfold X12_pays_b27 at hM
  refine g_iconst X (v := 0) dX12_pays_27 (by decide) ?_
  cases hM
  exact g_zret X (Or.inl rfl) dX12_pays_28
set_option maxRecDepth 20000 in
theorem v_X12_pays {κ : gK} {B : Nat} {u : gM} (X : gX κ B skM cX12_pays 3 RX12 (some .boolean) 2 46)   {x1 : Int32} {x2 : Int32} {w : (Int32 × gM)} (hM : X12_pays x1 x2 u = some w) : gV κ B skM 3 ((some (.int w.1)), w.2) 0 [some (.ref (B + 0)), some (.int x1), some (.int x2)] [] u := by
  unfold X12_pays at hM
  refine g_aload_n X dX12_pays_0 rfl ?_
  refine g_iload_n X dX12_pays_1 rfl ?_
  obtain ⟨w2, e2, hM⟩ := bind_of hM
  refine g_callVi X (fun B adK => [.int x1]) (s_X12_isLoan e2) cvX12_377 cM_0 rfl rfl (Nat.le_of_ble_eq_true rfl) ⟨by decide, by decide⟩ dX12_pays_2 ?_
  refine g_if_eq (tgt := 27) X dX12_pays_5 (by decide) (fun c5 => ?_) (fun c5 => ?_)
  · rw [if_pos c5] at hM
    refine g_mk [false, false, false] [none, none, none] rfl ?_
    exact v_X12_pays_b27 X  hM
  · rw [if_neg c5] at hM
    refine g_iload_n X dX12_pays_8 rfl ?_
    refine g_i2l X dX12_pays_9 ?_
    refine g_lconst (v := 1) X dX12_pays_10 (by decide) ?_
    refine g_aload_n X dX12_pays_11 rfl ?_
    refine g_getR X fX12_56 cM_0 rfl dX12_pays_12 ?_
    refine g_bipush X (v := 25) dX12_pays_15 (by decide) ?_
    refine g_iload_n X dX12_pays_17 rfl ?_
    refine g_iadd X dX12_pays_18 ?_
    obtain ⟨v19, e19, hM⟩ := bind_of hM
    refine g_iaload X e19 dX12_pays_19 ?_
    refine g_i2l X dX12_pays_20 ?_
    obtain ⟨w21, e21, hM⟩ := bind_of hM
    refine g_callSi X (fun B adK => [.long x2.toInt64, .long 1, .long v19.toInt64]) (s_X12_isIn e21) cvX12_125 rfl rfl (Nat.le_of_ble_eq_true rfl) ⟨by decide, by decide⟩ dX12_pays_21 ?_
    refine g_if_ne (tgt := 29) X dX12_pays_24 (by decide) (fun c24 => ?_) (fun c24 => ?_)
    · rw [if_neg c24] at hM
      refine g_aload_n X dX12_pays_29 rfl ?_
      refine g_getR X fX12_56 cM_0 rfl dX12_pays_30 ?_
      refine g_bipush X (v := 25) dX12_pays_33 (by decide) ?_
      refine g_iload_n X dX12_pays_35 rfl ?_
      refine g_iadd X dX12_pays_36 ?_
      refine g_dup2_11 X rfl rfl dX12_pays_37 ?_
      obtain ⟨v38, e38, hM⟩ := bind_of hM
      refine g_iaload X e38 dX12_pays_38 ?_
      refine g_iload_n X dX12_pays_39 rfl ?_
      refine g_isub X dX12_pays_40 ?_
      obtain ⟨u41, e41, hM⟩ := bind_of hM
      refine g_iastore X e41 dX12_pays_41 ?_
      refine g_iconst X (v := 1) dX12_pays_42 (by decide) ?_
      cases hM
      exact g_zret X (Or.inr rfl) dX12_pays_43
    · rw [if_pos c24] at hM
      refine g_mk [false, false, false] [none, none, none] rfl ?_
      exact v_X12_pays_b27 X  hM
theorem s_X12_pays {x1 : Int32} {x2 : Int32} {u : gM} {w : (Int32 × gM)} (hM : X12_pays x1 x2 u = some w) : gMet skM yX12_pays cX12_pays 3 (some .boolean) 2 46 (fun B adK => [.ref (B + 0), .int x1, .int x2]) u ((fun _ => some (.int w.1)), w.2) := by
  refine gMet.of (by decide) (fun _ _ => Nat.le_of_ble_eq_true rfl) (fun κ B X => ?_)
  have X : gX κ B skM cX12_pays 3 RX12 (some .boolean) 2 46 := X
  refine g_mk [true, true, true] [some (.ref (B + 0)), some (.int x1), some (.int x2)] rfl ?_
  exact v_X12_pays X  hM
theorem fr_X12_pays_b27 {S : Nat → Prop} {u0 u : gM}     {w : (Int32 × gM)} (hM : X12_pays_b27 u = some w) (h0 : off S u0 u) : off S u0 w.2 := by
  unfold X12_pays_b27 at hM
  cases hM
  exact h0
theorem fr_X12_pays {S : Nat → Prop} {u0 u : gM} {x1 : Int32} {x2 : Int32} (hs0 : S 16)   {w : (Int32 × gM)} (hM : X12_pays x1 x2 u = some w) (h0 : off S u0 u) : off S u0 w.2 := by
  unfold X12_pays at hM
  obtain ⟨w2, e2, hM⟩ := bind_of hM
  by_cases c5 : w2 = 0
  · rw [if_pos c5] at hM
    exact fr_X12_pays_b27   hM h0
  · rw [if_neg c5] at hM
    obtain ⟨v19, e19, hM⟩ := bind_of hM
    obtain ⟨w21, e21, hM⟩ := bind_of hM
    by_cases c24 : w21 = 0
    · rw [if_pos c24] at hM
      exact fr_X12_pays_b27   hM h0
    · rw [if_neg c24] at hM
      obtain ⟨v38, e38, hM⟩ := bind_of hM
      obtain ⟨u41, e41, hM⟩ := bind_of hM
      have h0 := off_sI hs0 e41 h0
      cases hM
      exact h0
/-! CoverDeskModel.setsOff(I[J)V -/
theorem dX12_setsOff_0 : decode cX12_setsOff 0 = .ok (.iconst 0, 1) := by decide +kernel
theorem dX12_setsOff_1 : decode cX12_setsOff 1 = .ok (.istore_n 3, 1) := by decide +kernel
theorem dX12_setsOff_2 : decode cX12_setsOff 2 = .ok (.iload_n 3, 1) := by decide +kernel
theorem dX12_setsOff_3 : decode cX12_setsOff 3 = .ok (.bipush 96, 2) := by decide +kernel
theorem dX12_setsOff_5 : decode cX12_setsOff 5 = .ok (.if_icmp .ge 96, 3) := by decide +kernel
theorem dX12_setsOff_8 : decode cX12_setsOff 8 = .ok (.aload_n 0, 1) := by decide +kernel
theorem dX12_setsOff_9 : decode cX12_setsOff 9 = .ok (.getfield 56, 3) := by decide +kernel
theorem dX12_setsOff_12 : decode cX12_setsOff 12 = .ok (.bipush 54, 2) := by decide +kernel
theorem dX12_setsOff_14 : decode cX12_setsOff 14 = .ok (.iload_n 3, 1) := by decide +kernel
theorem dX12_setsOff_15 : decode cX12_setsOff 15 = .ok (.iadd, 1) := by decide +kernel
theorem dX12_setsOff_16 : decode cX12_setsOff 16 = .ok (.iaload, 1) := by decide +kernel
theorem dX12_setsOff_17 : decode cX12_setsOff 17 = .ok (.iconst (-1), 1) := by decide +kernel
theorem dX12_setsOff_18 : decode cX12_setsOff 18 = .ok (.if_icmp .eq 77, 3) := by decide +kernel
theorem dX12_setsOff_21 : decode cX12_setsOff 21 = .ok (.aload_n 0, 1) := by decide +kernel
theorem dX12_setsOff_22 : decode cX12_setsOff 22 = .ok (.getfield 32, 3) := by decide +kernel
theorem dX12_setsOff_25 : decode cX12_setsOff 25 = .ok (.iload_n 3, 1) := by decide +kernel
theorem dX12_setsOff_26 : decode cX12_setsOff 26 = .ok (.iaload, 1) := by decide +kernel
theorem dX12_setsOff_27 : decode cX12_setsOff 27 = .ok (.aload_n 0, 1) := by decide +kernel
theorem dX12_setsOff_28 : decode cX12_setsOff 28 = .ok (.getfield 47, 3) := by decide +kernel
theorem dX12_setsOff_31 : decode cX12_setsOff 31 = .ok (.iload_n 1, 1) := by decide +kernel
theorem dX12_setsOff_32 : decode cX12_setsOff 32 = .ok (.iaload, 1) := by decide +kernel
theorem dX12_setsOff_33 : decode cX12_setsOff 33 = .ok (.if_icmp .eq 6, 3) := by decide +kernel
theorem dX12_setsOff_36 : decode cX12_setsOff 36 = .ok (.goto 59, 3) := by decide +kernel
theorem dX12_setsOff_39 : decode cX12_setsOff 39 = .ok (.aload_n 2, 1) := by decide +kernel
theorem dX12_setsOff_40 : decode cX12_setsOff 40 = .ok (.iload_n 3, 1) := by decide +kernel
theorem dX12_setsOff_41 : decode cX12_setsOff 41 = .ok (.laload, 1) := by decide +kernel
theorem dX12_setsOff_42 : decode cX12_setsOff 42 = .ok (.aload_n 0, 1) := by decide +kernel
theorem dX12_setsOff_43 : decode cX12_setsOff 43 = .ok (.getfield 56, 3) := by decide +kernel
theorem dX12_setsOff_46 : decode cX12_setsOff 46 = .ok (.bipush 25, 2) := by decide +kernel
theorem dX12_setsOff_48 : decode cX12_setsOff 48 = .ok (.iload_n 1, 1) := by decide +kernel
theorem dX12_setsOff_49 : decode cX12_setsOff 49 = .ok (.iadd, 1) := by decide +kernel
theorem dX12_setsOff_50 : decode cX12_setsOff 50 = .ok (.iaload, 1) := by decide +kernel
theorem dX12_setsOff_51 : decode cX12_setsOff 51 = .ok (.i2l, 1) := by decide +kernel
theorem dX12_setsOff_52 : decode cX12_setsOff 52 = .ok (.invokestatic 338, 3) := by decide +kernel
theorem dX12_setsOff_55 : decode cX12_setsOff 55 = .ok (.l2i, 1) := by decide +kernel
theorem dX12_setsOff_56 : decode cX12_setsOff 56 = .ok (.istore 4, 2) := by decide +kernel
theorem dX12_setsOff_58 : decode cX12_setsOff 58 = .ok (.aload_n 2, 1) := by decide +kernel
theorem dX12_setsOff_59 : decode cX12_setsOff 59 = .ok (.iload_n 3, 1) := by decide +kernel
theorem dX12_setsOff_60 : decode cX12_setsOff 60 = .ok (.dup2, 1) := by decide +kernel
theorem dX12_setsOff_61 : decode cX12_setsOff 61 = .ok (.laload, 1) := by decide +kernel
theorem dX12_setsOff_62 : decode cX12_setsOff 62 = .ok (.iload 4, 2) := by decide +kernel
theorem dX12_setsOff_64 : decode cX12_setsOff 64 = .ok (.i2l, 1) := by decide +kernel
theorem dX12_setsOff_65 : decode cX12_setsOff 65 = .ok (.lsub, 1) := by decide +kernel
theorem dX12_setsOff_66 : decode cX12_setsOff 66 = .ok (.lastore, 1) := by decide +kernel
theorem dX12_setsOff_67 : decode cX12_setsOff 67 = .ok (.aload_n 0, 1) := by decide +kernel
theorem dX12_setsOff_68 : decode cX12_setsOff 68 = .ok (.getfield 56, 3) := by decide +kernel
theorem dX12_setsOff_71 : decode cX12_setsOff 71 = .ok (.bipush 25, 2) := by decide +kernel
theorem dX12_setsOff_73 : decode cX12_setsOff 73 = .ok (.iload_n 1, 1) := by decide +kernel
theorem dX12_setsOff_74 : decode cX12_setsOff 74 = .ok (.iadd, 1) := by decide +kernel
theorem dX12_setsOff_75 : decode cX12_setsOff 75 = .ok (.dup2, 1) := by decide +kernel
theorem dX12_setsOff_76 : decode cX12_setsOff 76 = .ok (.iaload, 1) := by decide +kernel
theorem dX12_setsOff_77 : decode cX12_setsOff 77 = .ok (.iload 4, 2) := by decide +kernel
theorem dX12_setsOff_79 : decode cX12_setsOff 79 = .ok (.isub, 1) := by decide +kernel
theorem dX12_setsOff_80 : decode cX12_setsOff 80 = .ok (.iastore, 1) := by decide +kernel
theorem dX12_setsOff_81 : decode cX12_setsOff 81 = .ok (.aload_n 0, 1) := by decide +kernel
theorem dX12_setsOff_82 : decode cX12_setsOff 82 = .ok (.getfield 56, 3) := by decide +kernel
theorem dX12_setsOff_85 : decode cX12_setsOff 85 = .ok (.bipush 54, 2) := by decide +kernel
theorem dX12_setsOff_87 : decode cX12_setsOff 87 = .ok (.iload_n 3, 1) := by decide +kernel
theorem dX12_setsOff_88 : decode cX12_setsOff 88 = .ok (.iadd, 1) := by decide +kernel
theorem dX12_setsOff_89 : decode cX12_setsOff 89 = .ok (.dup2, 1) := by decide +kernel
theorem dX12_setsOff_90 : decode cX12_setsOff 90 = .ok (.iaload, 1) := by decide +kernel
theorem dX12_setsOff_91 : decode cX12_setsOff 91 = .ok (.iload 4, 2) := by decide +kernel
theorem dX12_setsOff_93 : decode cX12_setsOff 93 = .ok (.iadd, 1) := by decide +kernel
theorem dX12_setsOff_94 : decode cX12_setsOff 94 = .ok (.iastore, 1) := by decide +kernel
theorem dX12_setsOff_95 : decode cX12_setsOff 95 = .ok (.iinc 3 1, 3) := by decide +kernel
theorem dX12_setsOff_98 : decode cX12_setsOff 98 = .ok (.goto (-96), 3) := by decide +kernel
theorem dX12_setsOff_101 : decode cX12_setsOff 101 = .ok (.return_, 1) := by decide +kernel
def X12_setsOff_b95 (k2 : Int32 → Nat → Int32 → gM → Option gM) (x1 : Int32) (x2 : Nat) (x3 : Int32) (u : gM) : Option gM :=
(k2 x1 x2 (x3 + 1) u)
def X12_setsOff_b2 (k2 : Int32 → Nat → Int32 → gM → Option gM) (x1 : Int32) (x2 : Nat) (x3 : Int32) (u : gM) : Option gM :=
(if 96 ≤ x3 then some u
  else ((aI skM u 16 (54 + x3)).bind fun v16 => (if v16 = (-1) then (X12_setsOff_b95 k2 x1 x2 x3 u)
    else ((aI skM u 8 x3).bind fun v26 => ((aI skM u 13 x1).bind fun v32 => (if v26 = v32 then ((aJ skM u x2 x3).bind fun v41 => ((aI skM u 16 (25 + x1)).bind fun v50 => ((aJ skM u x2 x3).bind fun v61 => ((sJ skM u x2 x3 (v61 - (mnJ v41 v50.toInt64).toInt32.toInt64)).bind fun u66 => ((aI skM u66 16 (25 + x1)).bind fun v76 => ((sI skM u66 16 (25 + x1) (v76 - (mnJ v41 v50.toInt64).toInt32)).bind fun u80 => ((aI skM u80 16 (54 + x3)).bind fun v90 => ((sI skM u80 16 (54 + x3) (v90 + (mnJ v41 v50.toInt64).toInt32)).bind fun u94 => (X12_setsOff_b95 k2 x1 x2 x3 u94)))))))))
      else (X12_setsOff_b95 k2 x1 x2 x3 u)))))))
def X12_setsOff_l2  : Nat → Int32 → Nat → Int32 → gM → Option gM
  | 0, _, _, _, _ => none
  | n + 1, x1, x2, x3, u => X12_setsOff_b2  (X12_setsOff_l2  n) x1 x2 x3 u
def X12_setsOff  (x1 : Int32) (x2 : Nat) (u : gM) : Option gM :=
(X12_setsOff_l2 fz x1 x2 0 u)
set_option maxRecDepth 20000 in
theorem v_X12_setsOff_b95 {κ : gK} {B : Nat} {u : gM} (X : gX κ B skM cX12_setsOff 5 RX12 none 1 26) {k2 : Int32 → Nat → Int32 → gM → Option gM} (ih2 : ∀ (x1 : Int32) (x2 : Nat) (x3 : Int32) (u : gM) (w : gM), k2 x1 x2 x3 u = some w → gV κ B skM 5 ((none), w) 2 [some (.ref (B + 0)), some (.int x1), some (.ref (B + x2)), some (.int x3), none] [] u) {x1 : Int32} {x2 : Nat} {x3 : Int32} {w : gM} (hM : X12_setsOff_b95 k2 x1 x2 x3 u = some w) : gV κ B skM 5 ((none), w) 95 [some (.ref (B + 0)), some (.int x1), some (.ref (B + x2)), some (.int x3), none] [] u := by
  unfold X12_setsOff_b95 at hM
  refine g_iinc (d := 1) X [some (.ref (B + 0)), some (.int x1), some (.ref (B + x2)), some (.int (x3 + 1)), none] dX12_setsOff_95 (by decide) rfl (by decide) rfl ?_
  refine g_goto (tgt := 2) X dX12_setsOff_98 (by decide) ?_
  refine g_mk [true, true, true, true, false] [some (.ref (B + 0)), some (.int x1), some (.ref (B + x2)), some (.int (x3 + 1)), none] rfl ?_
  exact ih2 x1 x2 (x3 + 1) u _ hM
set_option maxRecDepth 20000 in
theorem v_X12_setsOff_b2 {κ : gK} {B : Nat} {u : gM} (X : gX κ B skM cX12_setsOff 5 RX12 none 1 26) {k2 : Int32 → Nat → Int32 → gM → Option gM} (ih2 : ∀ (x1 : Int32) (x2 : Nat) (x3 : Int32) (u : gM) (w : gM), k2 x1 x2 x3 u = some w → gV κ B skM 5 ((none), w) 2 [some (.ref (B + 0)), some (.int x1), some (.ref (B + x2)), some (.int x3), none] [] u) {x1 : Int32} {x2 : Nat} {x3 : Int32} {w : gM} (hM : X12_setsOff_b2 k2 x1 x2 x3 u = some w) : gV κ B skM 5 ((none), w) 2 [some (.ref (B + 0)), some (.int x1), some (.ref (B + x2)), some (.int x3), none] [] u := by
  unfold X12_setsOff_b2 at hM
  refine g_iload_n X dX12_setsOff_2 rfl ?_
  refine g_bipush X (v := 96) dX12_setsOff_3 (by decide) ?_
  refine g_icmp_ge (tgt := 101) X dX12_setsOff_5 (by decide) (fun c5 => ?_) (fun c5 => ?_)
  · rw [if_pos c5] at hM
    cases hM
    exact g_vret X dX12_setsOff_101
  · rw [if_neg c5] at hM
    refine g_aload_n X dX12_setsOff_8 rfl ?_
    refine g_getR X fX12_56 cM_0 rfl dX12_setsOff_9 ?_
    refine g_bipush X (v := 54) dX12_setsOff_12 (by decide) ?_
    refine g_iload_n X dX12_setsOff_14 rfl ?_
    refine g_iadd X dX12_setsOff_15 ?_
    obtain ⟨v16, e16, hM⟩ := bind_of hM
    refine g_iaload X e16 dX12_setsOff_16 ?_
    refine g_iconst X (v := (-1)) dX12_setsOff_17 (by decide) ?_
    refine g_icmp_eq (tgt := 95) X dX12_setsOff_18 (by decide) (fun c18 => ?_) (fun c18 => ?_)
    · rw [if_pos c18] at hM
      refine g_mk [true, true, true, true, false] [some (.ref (B + 0)), some (.int x1), some (.ref (B + x2)), some (.int x3), none] rfl ?_
      exact v_X12_setsOff_b95 X ih2 hM
    · rw [if_neg c18] at hM
      refine g_aload_n X dX12_setsOff_21 rfl ?_
      refine g_getR X fX12_32 cM_0 rfl dX12_setsOff_22 ?_
      refine g_iload_n X dX12_setsOff_25 rfl ?_
      obtain ⟨v26, e26, hM⟩ := bind_of hM
      refine g_iaload X e26 dX12_setsOff_26 ?_
      refine g_aload_n X dX12_setsOff_27 rfl ?_
      refine g_getR X fX12_47 cM_0 rfl dX12_setsOff_28 ?_
      refine g_iload_n X dX12_setsOff_31 rfl ?_
      obtain ⟨v32, e32, hM⟩ := bind_of hM
      refine g_iaload X e32 dX12_setsOff_32 ?_
      refine g_icmp_eq (tgt := 39) X dX12_setsOff_33 (by decide) (fun c33 => ?_) (fun c33 => ?_)
      · rw [if_pos c33] at hM
        refine g_aload_n X dX12_setsOff_39 rfl ?_
        refine g_iload_n X dX12_setsOff_40 rfl ?_
        obtain ⟨v41, e41, hM⟩ := bind_of hM
        refine g_laload X e41 dX12_setsOff_41 ?_
        refine g_aload_n X dX12_setsOff_42 rfl ?_
        refine g_getR X fX12_56 cM_0 rfl dX12_setsOff_43 ?_
        refine g_bipush X (v := 25) dX12_setsOff_46 (by decide) ?_
        refine g_iload_n X dX12_setsOff_48 rfl ?_
        refine g_iadd X dX12_setsOff_49 ?_
        obtain ⟨v50, e50, hM⟩ := bind_of hM
        refine g_iaload X e50 dX12_setsOff_50 ?_
        refine g_i2l X dX12_setsOff_51 ?_
        refine g_minJ X m_43_5 ⟨by decide, Nat.le_of_ble_eq_true rfl⟩ dX12_setsOff_52 ?_
        refine g_l2i X dX12_setsOff_55 ?_
        refine g_istore X [some (.ref (B + 0)), some (.int x1), some (.ref (B + x2)), some (.int x3), some (.int (mnJ v41 v50.toInt64).toInt32)] dX12_setsOff_56 (by decide) rfl ?_
        refine g_aload_n X dX12_setsOff_58 rfl ?_
        refine g_iload_n X dX12_setsOff_59 rfl ?_
        refine g_dup2_11 X rfl rfl dX12_setsOff_60 ?_
        obtain ⟨v61, e61, hM⟩ := bind_of hM
        refine g_laload X e61 dX12_setsOff_61 ?_
        refine g_iload X dX12_setsOff_62 rfl ?_
        refine g_i2l X dX12_setsOff_64 ?_
        refine g_lsub X dX12_setsOff_65 ?_
        obtain ⟨u66, e66, hM⟩ := bind_of hM
        refine g_lastore X e66 dX12_setsOff_66 ?_
        refine g_aload_n X dX12_setsOff_67 rfl ?_
        refine g_getR X fX12_56 cM_0 rfl dX12_setsOff_68 ?_
        refine g_bipush X (v := 25) dX12_setsOff_71 (by decide) ?_
        refine g_iload_n X dX12_setsOff_73 rfl ?_
        refine g_iadd X dX12_setsOff_74 ?_
        refine g_dup2_11 X rfl rfl dX12_setsOff_75 ?_
        obtain ⟨v76, e76, hM⟩ := bind_of hM
        refine g_iaload X e76 dX12_setsOff_76 ?_
        refine g_iload X dX12_setsOff_77 rfl ?_
        refine g_isub X dX12_setsOff_79 ?_
        obtain ⟨u80, e80, hM⟩ := bind_of hM
        refine g_iastore X e80 dX12_setsOff_80 ?_
        refine g_aload_n X dX12_setsOff_81 rfl ?_
        refine g_getR X fX12_56 cM_0 rfl dX12_setsOff_82 ?_
        refine g_bipush X (v := 54) dX12_setsOff_85 (by decide) ?_
        refine g_iload_n X dX12_setsOff_87 rfl ?_
        refine g_iadd X dX12_setsOff_88 ?_
        refine g_dup2_11 X rfl rfl dX12_setsOff_89 ?_
        obtain ⟨v90, e90, hM⟩ := bind_of hM
        refine g_iaload X e90 dX12_setsOff_90 ?_
        refine g_iload X dX12_setsOff_91 rfl ?_
        refine g_iadd X dX12_setsOff_93 ?_
        obtain ⟨u94, e94, hM⟩ := bind_of hM
        refine g_iastore X e94 dX12_setsOff_94 ?_
        refine g_mk [true, true, true, true, false] [some (.ref (B + 0)), some (.int x1), some (.ref (B + x2)), some (.int x3), none] rfl ?_
        exact v_X12_setsOff_b95 X ih2 hM
      · rw [if_neg c33] at hM
        refine g_goto (tgt := 95) X dX12_setsOff_36 (by decide) ?_
        refine g_mk [true, true, true, true, false] [some (.ref (B + 0)), some (.int x1), some (.ref (B + x2)), some (.int x3), none] rfl ?_
        exact v_X12_setsOff_b95 X ih2 hM
theorem v_X12_setsOff_l2 {κ : gK} {B : Nat} (X : gX κ B skM cX12_setsOff 5 RX12 none 1 26)   : ∀ (n : Nat) {x1 : Int32} {x2 : Nat} {x3 : Int32} {u : gM} {w : gM} (hM : X12_setsOff_l2  n x1 x2 x3 u = some w), gV κ B skM 5 ((none), w) 2 [some (.ref (B + 0)), some (.int x1), some (.ref (B + x2)), some (.int x3), none] [] u := by
  intro n
  induction n with
  | zero => intro x1 x2 x3 u w hM; exact nomatch (show (none : Option gM) = some w from hM)
  | succ n ihn => intro x1 x2 x3 u w hM; exact v_X12_setsOff_b2 X  (fun x1 x2 x3 u w h => ihn h) hM
set_option maxRecDepth 20000 in
theorem v_X12_setsOff {κ : gK} {B : Nat} {u : gM} (X : gX κ B skM cX12_setsOff 5 RX12 none 1 26)   {x1 : Int32} {x2 : Nat} {w : gM} (hM : X12_setsOff x1 x2 u = some w) : gV κ B skM 5 ((none), w) 0 [some (.ref (B + 0)), some (.int x1), some (.ref (B + x2)), none, none] [] u := by
  unfold X12_setsOff at hM
  refine g_iconst X (v := 0) dX12_setsOff_0 (by decide) ?_
  refine g_istore_n X [some (.ref (B + 0)), some (.int x1), some (.ref (B + x2)), some (.int 0), none] dX12_setsOff_1 (by decide) rfl ?_
  refine g_mk [true, true, true, true, false] [some (.ref (B + 0)), some (.int x1), some (.ref (B + x2)), some (.int 0), none] rfl ?_
  exact v_X12_setsOff_l2 X  fz hM
theorem s_X12_setsOff {x1 : Int32} {x2 : Nat} {u : gM} {w : gM} (hM : X12_setsOff x1 x2 u = some w) : gMet skM yX12_setsOff cX12_setsOff 5 none 1 26 (fun B adK => [.ref (B + 0), .int x1, .ref (B + x2)]) u ((fun _ => none), w) := by
  refine gMet.of (by decide) (fun _ _ => Nat.le_of_ble_eq_true rfl) (fun κ B X => ?_)
  have X : gX κ B skM cX12_setsOff 5 RX12 none 1 26 := X
  refine g_mk [true, true, true, false, false] [some (.ref (B + 0)), some (.int x1), some (.ref (B + x2)), none, none] rfl ?_
  exact v_X12_setsOff X  hM
theorem fr_X12_setsOff_b95 {S : Nat → Prop} {u0 u : gM} {x1 : Int32} {x2 : Nat} {x3 : Int32} (hs0 : S 16) (hs1 : S x2) {k2 : Int32 → Nat → Int32 → gM → Option gM} (ik2 : ∀ (x1 : Int32) (x2 : Nat) (x3 : Int32) (u : gM) (w : gM), S 16 → S x2 → off S u0 u → k2 x1 x2 x3 u = some w → off S u0 w) {w : gM} (hM : X12_setsOff_b95 k2 x1 x2 x3 u = some w) (h0 : off S u0 u) : off S u0 w := by
  unfold X12_setsOff_b95 at hM
  exact ik2 _ _ _ _ _ hs0 hs1 h0 hM
theorem fr_X12_setsOff_b2 {S : Nat → Prop} {u0 u : gM} {x1 : Int32} {x2 : Nat} {x3 : Int32} (hs0 : S 16) (hs1 : S x2) {k2 : Int32 → Nat → Int32 → gM → Option gM} (ik2 : ∀ (x1 : Int32) (x2 : Nat) (x3 : Int32) (u : gM) (w : gM), S 16 → S x2 → off S u0 u → k2 x1 x2 x3 u = some w → off S u0 w) {w : gM} (hM : X12_setsOff_b2 k2 x1 x2 x3 u = some w) (h0 : off S u0 u) : off S u0 w := by
  unfold X12_setsOff_b2 at hM
  by_cases c5 : 96 ≤ x3
  · rw [if_pos c5] at hM
    cases hM
    exact h0
  · rw [if_neg c5] at hM
    obtain ⟨v16, e16, hM⟩ := bind_of hM
    by_cases c18 : v16 = (-1)
    · rw [if_pos c18] at hM
      exact fr_X12_setsOff_b95 hs0 hs1 ik2 hM h0
    · rw [if_neg c18] at hM
      obtain ⟨v26, e26, hM⟩ := bind_of hM
      obtain ⟨v32, e32, hM⟩ := bind_of hM
      by_cases c33 : v26 = v32
      · rw [if_pos c33] at hM
        obtain ⟨v41, e41, hM⟩ := bind_of hM
        obtain ⟨v50, e50, hM⟩ := bind_of hM
        obtain ⟨v61, e61, hM⟩ := bind_of hM
        obtain ⟨u66, e66, hM⟩ := bind_of hM
        have h0 := off_sJ hs1 e66 h0
        obtain ⟨v76, e76, hM⟩ := bind_of hM
        obtain ⟨u80, e80, hM⟩ := bind_of hM
        have h0 := off_sI hs0 e80 h0
        obtain ⟨v90, e90, hM⟩ := bind_of hM
        obtain ⟨u94, e94, hM⟩ := bind_of hM
        have h0 := off_sI hs0 e94 h0
        exact fr_X12_setsOff_b95 hs0 hs1 ik2 hM h0
      · rw [if_neg c33] at hM
        exact fr_X12_setsOff_b95 hs0 hs1 ik2 hM h0
theorem fr_X12_setsOff_l2 {S : Nat → Prop} {u0 : gM}   : ∀ (n : Nat) {x1 : Int32} {x2 : Nat} {x3 : Int32} (hs0 : S 16) (hs1 : S x2) {u : gM} {w : gM} (h0 : off S u0 u) (hM : X12_setsOff_l2  n x1 x2 x3 u = some w), off S u0 w := by
  intro n
  induction n with
  | zero => intro x1 x2 x3 hs0 hs1 u w h0 hM; exact nomatch (show (none : Option gM) = some w from hM)
  | succ n ihn => intro x1 x2 x3 hs0 hs1 u w h0 hM; exact fr_X12_setsOff_b2 hs0 hs1  (fun x1 x2 x3 _ _ hs0 hs1 h0 h => ihn hs0 hs1 h0 h) hM h0
theorem fr_X12_setsOff {S : Nat → Prop} {u0 u : gM} {x1 : Int32} {x2 : Nat} (hs0 : S 16) (hs1 : S x2)   {w : gM} (hM : X12_setsOff x1 x2 u = some w) (h0 : off S u0 u) : off S u0 w := by
  unfold X12_setsOff at hM
  exact fr_X12_setsOff_l2  fz hs0 hs1 h0 hM
/-! CoverDeskModel.falls(II)Z -/
theorem dX12_falls_0 : decode cX12_falls 0 = .ok (.aload_n 0, 1) := by decide +kernel
theorem dX12_falls_1 : decode cX12_falls 1 = .ok (.iload_n 1, 1) := by decide +kernel
theorem dX12_falls_2 : decode cX12_falls 2 = .ok (.invokevirtual 369, 3) := by decide +kernel
theorem dX12_falls_5 : decode cX12_falls 5 = .ok (.ifCond .eq 23, 3) := by decide +kernel
theorem dX12_falls_8 : decode cX12_falls 8 = .ok (.aload_n 0, 1) := by decide +kernel
theorem dX12_falls_9 : decode cX12_falls 9 = .ok (.iload_n 1, 1) := by decide +kernel
theorem dX12_falls_10 : decode cX12_falls 10 = .ok (.invokevirtual 372, 3) := by decide +kernel
theorem dX12_falls_13 : decode cX12_falls 13 = .ok (.ifCond .eq 15, 3) := by decide +kernel
theorem dX12_falls_16 : decode cX12_falls 16 = .ok (.iload_n 2, 1) := by decide +kernel
theorem dX12_falls_17 : decode cX12_falls 17 = .ok (.i2l, 1) := by decide +kernel
theorem dX12_falls_18 : decode cX12_falls 18 = .ok (.lconst 0, 1) := by decide +kernel
theorem dX12_falls_19 : decode cX12_falls 19 = .ok (.ldc2_w 258, 3) := by decide +kernel
theorem dX12_falls_22 : decode cX12_falls 22 = .ok (.invokestatic 125, 3) := by decide +kernel
theorem dX12_falls_25 : decode cX12_falls 25 = .ok (.ifCond .ne 5, 3) := by decide +kernel
theorem dX12_falls_28 : decode cX12_falls 28 = .ok (.iconst 0, 1) := by decide +kernel
theorem dX12_falls_29 : decode cX12_falls 29 = .ok (.ireturn, 1) := by decide +kernel
theorem dX12_falls_30 : decode cX12_falls 30 = .ok (.aload_n 0, 1) := by decide +kernel
theorem dX12_falls_31 : decode cX12_falls 31 = .ok (.aload_n 0, 1) := by decide +kernel
theorem dX12_falls_32 : decode cX12_falls 32 = .ok (.getfield 56, 3) := by decide +kernel
theorem dX12_falls_35 : decode cX12_falls 35 = .ok (.iconst 0, 1) := by decide +kernel
theorem dX12_falls_36 : decode cX12_falls 36 = .ok (.iaload, 1) := by decide +kernel
theorem dX12_falls_37 : decode cX12_falls 37 = .ok (.invokevirtual 380, 3) := by decide +kernel
theorem dX12_falls_40 : decode cX12_falls 40 = .ok (.aload_n 0, 1) := by decide +kernel
theorem dX12_falls_41 : decode cX12_falls 41 = .ok (.getfield 56, 3) := by decide +kernel
theorem dX12_falls_44 : decode cX12_falls 44 = .ok (.bipush 53, 2) := by decide +kernel
theorem dX12_falls_46 : decode cX12_falls 46 = .ok (.iload_n 1, 1) := by decide +kernel
theorem dX12_falls_47 : decode cX12_falls 47 = .ok (.iastore, 1) := by decide +kernel
theorem dX12_falls_48 : decode cX12_falls 48 = .ok (.iconst 0, 1) := by decide +kernel
theorem dX12_falls_49 : decode cX12_falls 49 = .ok (.istore_n 3, 1) := by decide +kernel
theorem dX12_falls_50 : decode cX12_falls 50 = .ok (.iload_n 3, 1) := by decide +kernel
theorem dX12_falls_51 : decode cX12_falls 51 = .ok (.bipush 96, 2) := by decide +kernel
theorem dX12_falls_53 : decode cX12_falls 53 = .ok (.if_icmp .ge 163, 3) := by decide +kernel
theorem dX12_falls_56 : decode cX12_falls 56 = .ok (.iload_n 3, 1) := by decide +kernel
theorem dX12_falls_57 : decode cX12_falls 57 = .ok (.iconst 4, 1) := by decide +kernel
theorem dX12_falls_58 : decode cX12_falls 58 = .ok (.idiv, 1) := by decide +kernel
theorem dX12_falls_59 : decode cX12_falls 59 = .ok (.istore 4, 2) := by decide +kernel
theorem dX12_falls_61 : decode cX12_falls 61 = .ok (.aload_n 0, 1) := by decide +kernel
theorem dX12_falls_62 : decode cX12_falls 62 = .ok (.iload 4, 2) := by decide +kernel
theorem dX12_falls_64 : decode cX12_falls 64 = .ok (.invokevirtual 362, 3) := by decide +kernel
theorem dX12_falls_67 : decode cX12_falls 67 = .ok (.ifCond .eq 35, 3) := by decide +kernel
theorem dX12_falls_70 : decode cX12_falls 70 = .ok (.aload_n 0, 1) := by decide +kernel
theorem dX12_falls_71 : decode cX12_falls 71 = .ok (.aload_n 0, 1) := by decide +kernel
theorem dX12_falls_72 : decode cX12_falls 72 = .ok (.getfield 26, 3) := by decide +kernel
theorem dX12_falls_75 : decode cX12_falls 75 = .ok (.iload 4, 2) := by decide +kernel
theorem dX12_falls_77 : decode cX12_falls 77 = .ok (.iaload, 1) := by decide +kernel
theorem dX12_falls_78 : decode cX12_falls 78 = .ok (.invokevirtual 366, 3) := by decide +kernel
theorem dX12_falls_81 : decode cX12_falls 81 = .ok (.iload_n 1, 1) := by decide +kernel
theorem dX12_falls_82 : decode cX12_falls 82 = .ok (.if_icmp .ne 20, 3) := by decide +kernel
theorem dX12_falls_85 : decode cX12_falls 85 = .ok (.iload_n 3, 1) := by decide +kernel
theorem dX12_falls_86 : decode cX12_falls 86 = .ok (.iconst 4, 1) := by decide +kernel
theorem dX12_falls_87 : decode cX12_falls 87 = .ok (.irem, 1) := by decide +kernel
theorem dX12_falls_88 : decode cX12_falls 88 = .ok (.aload_n 0, 1) := by decide +kernel
theorem dX12_falls_89 : decode cX12_falls 89 = .ok (.getfield 29, 3) := by decide +kernel
theorem dX12_falls_92 : decode cX12_falls 92 = .ok (.iload 4, 2) := by decide +kernel
theorem dX12_falls_94 : decode cX12_falls 94 = .ok (.iaload, 1) := by decide +kernel
theorem dX12_falls_95 : decode cX12_falls 95 = .ok (.if_icmp .ge 7, 3) := by decide +kernel
theorem dX12_falls_98 : decode cX12_falls 98 = .ok (.iconst 1, 1) := by decide +kernel
theorem dX12_falls_99 : decode cX12_falls 99 = .ok (.goto 4, 3) := by decide +kernel
theorem dX12_falls_102 : decode cX12_falls 102 = .ok (.iconst 0, 1) := by decide +kernel
theorem dX12_falls_103 : decode cX12_falls 103 = .ok (.istore 5, 2) := by decide +kernel
theorem dX12_falls_105 : decode cX12_falls 105 = .ok (.aload_n 0, 1) := by decide +kernel
theorem dX12_falls_106 : decode cX12_falls 106 = .ok (.getfield 93, 3) := by decide +kernel
theorem dX12_falls_109 : decode cX12_falls 109 = .ok (.iload_n 3, 1) := by decide +kernel
theorem dX12_falls_110 : decode cX12_falls 110 = .ok (.iload 5, 2) := by decide +kernel
theorem dX12_falls_112 : decode cX12_falls 112 = .ok (.ifCond .eq 12, 3) := by decide +kernel
theorem dX12_falls_115 : decode cX12_falls 115 = .ok (.aload_n 0, 1) := by decide +kernel
theorem dX12_falls_116 : decode cX12_falls 116 = .ok (.getfield 90, 3) := by decide +kernel
theorem dX12_falls_119 : decode cX12_falls 119 = .ok (.iload_n 3, 1) := by decide +kernel
theorem dX12_falls_120 : decode cX12_falls 120 = .ok (.laload, 1) := by decide +kernel
theorem dX12_falls_121 : decode cX12_falls 121 = .ok (.goto 4, 3) := by decide +kernel
theorem dX12_falls_124 : decode cX12_falls 124 = .ok (.lconst 0, 1) := by decide +kernel
theorem dX12_falls_125 : decode cX12_falls 125 = .ok (.lastore, 1) := by decide +kernel
theorem dX12_falls_126 : decode cX12_falls 126 = .ok (.aload_n 0, 1) := by decide +kernel
theorem dX12_falls_127 : decode cX12_falls 127 = .ok (.getfield 96, 3) := by decide +kernel
theorem dX12_falls_130 : decode cX12_falls 130 = .ok (.iload_n 3, 1) := by decide +kernel
theorem dX12_falls_131 : decode cX12_falls 131 = .ok (.iload 5, 2) := by decide +kernel
theorem dX12_falls_133 : decode cX12_falls 133 = .ok (.ifCond .eq 23, 3) := by decide +kernel
theorem dX12_falls_136 : decode cX12_falls 136 = .ok (.aload_n 0, 1) := by decide +kernel
theorem dX12_falls_137 : decode cX12_falls 137 = .ok (.iload 4, 2) := by decide +kernel
theorem dX12_falls_139 : decode cX12_falls 139 = .ok (.iload_n 3, 1) := by decide +kernel
theorem dX12_falls_140 : decode cX12_falls 140 = .ok (.iconst 4, 1) := by decide +kernel
theorem dX12_falls_141 : decode cX12_falls 141 = .ok (.irem, 1) := by decide +kernel
theorem dX12_falls_142 : decode cX12_falls 142 = .ok (.invokevirtual 332, 3) := by decide +kernel
theorem dX12_falls_145 : decode cX12_falls 145 = .ok (.i2l, 1) := by decide +kernel
theorem dX12_falls_146 : decode cX12_falls 146 = .ok (.aload_n 0, 1) := by decide +kernel
theorem dX12_falls_147 : decode cX12_falls 147 = .ok (.getfield 90, 3) := by decide +kernel
theorem dX12_falls_150 : decode cX12_falls 150 = .ok (.iload_n 3, 1) := by decide +kernel
theorem dX12_falls_151 : decode cX12_falls 151 = .ok (.laload, 1) := by decide +kernel
theorem dX12_falls_152 : decode cX12_falls 152 = .ok (.lsub, 1) := by decide +kernel
theorem dX12_falls_153 : decode cX12_falls 153 = .ok (.goto 4, 3) := by decide +kernel
theorem dX12_falls_156 : decode cX12_falls 156 = .ok (.lconst 0, 1) := by decide +kernel
theorem dX12_falls_157 : decode cX12_falls 157 = .ok (.lastore, 1) := by decide +kernel
theorem dX12_falls_158 : decode cX12_falls 158 = .ok (.aload_n 0, 1) := by decide +kernel
theorem dX12_falls_159 : decode cX12_falls 159 = .ok (.getfield 56, 3) := by decide +kernel
theorem dX12_falls_162 : decode cX12_falls 162 = .ok (.bipush 54, 2) := by decide +kernel
theorem dX12_falls_164 : decode cX12_falls 164 = .ok (.iload_n 3, 1) := by decide +kernel
theorem dX12_falls_165 : decode cX12_falls 165 = .ok (.iadd, 1) := by decide +kernel
theorem dX12_falls_166 : decode cX12_falls 166 = .ok (.iload 5, 2) := by decide +kernel
theorem dX12_falls_168 : decode cX12_falls 168 = .ok (.ifCond .eq 7, 3) := by decide +kernel
theorem dX12_falls_171 : decode cX12_falls 171 = .ok (.iconst 0, 1) := by decide +kernel
theorem dX12_falls_172 : decode cX12_falls 172 = .ok (.goto 4, 3) := by decide +kernel
theorem dX12_falls_175 : decode cX12_falls 175 = .ok (.iconst (-1), 1) := by decide +kernel
theorem dX12_falls_176 : decode cX12_falls 176 = .ok (.iastore, 1) := by decide +kernel
theorem dX12_falls_177 : decode cX12_falls 177 = .ok (.aload_n 0, 1) := by decide +kernel
theorem dX12_falls_178 : decode cX12_falls 178 = .ok (.getfield 56, 3) := by decide +kernel
theorem dX12_falls_181 : decode cX12_falls 181 = .ok (.sipush 150, 3) := by decide +kernel
theorem dX12_falls_184 : decode cX12_falls 184 = .ok (.iload_n 3, 1) := by decide +kernel
theorem dX12_falls_185 : decode cX12_falls 185 = .ok (.iadd, 1) := by decide +kernel
theorem dX12_falls_186 : decode cX12_falls 186 = .ok (.iconst 0, 1) := by decide +kernel
theorem dX12_falls_187 : decode cX12_falls 187 = .ok (.iastore, 1) := by decide +kernel
theorem dX12_falls_188 : decode cX12_falls 188 = .ok (.aload_n 0, 1) := by decide +kernel
theorem dX12_falls_189 : decode cX12_falls 189 = .ok (.getfield 56, 3) := by decide +kernel
theorem dX12_falls_192 : decode cX12_falls 192 = .ok (.sipush 246, 3) := by decide +kernel
theorem dX12_falls_195 : decode cX12_falls 195 = .ok (.iload_n 3, 1) := by decide +kernel
theorem dX12_falls_196 : decode cX12_falls 196 = .ok (.iadd, 1) := by decide +kernel
theorem dX12_falls_197 : decode cX12_falls 197 = .ok (.iconst 0, 1) := by decide +kernel
theorem dX12_falls_198 : decode cX12_falls 198 = .ok (.iastore, 1) := by decide +kernel
theorem dX12_falls_199 : decode cX12_falls 199 = .ok (.aload_n 0, 1) := by decide +kernel
theorem dX12_falls_200 : decode cX12_falls 200 = .ok (.getfield 56, 3) := by decide +kernel
theorem dX12_falls_203 : decode cX12_falls 203 = .ok (.sipush 342, 3) := by decide +kernel
theorem dX12_falls_206 : decode cX12_falls 206 = .ok (.iload_n 3, 1) := by decide +kernel
theorem dX12_falls_207 : decode cX12_falls 207 = .ok (.iadd, 1) := by decide +kernel
theorem dX12_falls_208 : decode cX12_falls 208 = .ok (.iconst 0, 1) := by decide +kernel
theorem dX12_falls_209 : decode cX12_falls 209 = .ok (.iastore, 1) := by decide +kernel
theorem dX12_falls_210 : decode cX12_falls 210 = .ok (.iinc 3 1, 3) := by decide +kernel
theorem dX12_falls_213 : decode cX12_falls 213 = .ok (.goto (-163), 3) := by decide +kernel
theorem dX12_falls_216 : decode cX12_falls 216 = .ok (.iconst 0, 1) := by decide +kernel
theorem dX12_falls_217 : decode cX12_falls 217 = .ok (.istore_n 3, 1) := by decide +kernel
theorem dX12_falls_218 : decode cX12_falls 218 = .ok (.iload_n 3, 1) := by decide +kernel
theorem dX12_falls_219 : decode cX12_falls 219 = .ok (.aload_n 0, 1) := by decide +kernel
theorem dX12_falls_220 : decode cX12_falls 220 = .ok (.getfield 7, 3) := by decide +kernel
theorem dX12_falls_223 : decode cX12_falls 223 = .ok (.iconst 3, 1) := by decide +kernel
theorem dX12_falls_224 : decode cX12_falls 224 = .ok (.iaload, 1) := by decide +kernel
theorem dX12_falls_225 : decode cX12_falls 225 = .ok (.if_icmp .ge 44, 3) := by decide +kernel
theorem dX12_falls_228 : decode cX12_falls 228 = .ok (.aload_n 0, 1) := by decide +kernel
theorem dX12_falls_229 : decode cX12_falls 229 = .ok (.aload_n 0, 1) := by decide +kernel
theorem dX12_falls_230 : decode cX12_falls 230 = .ok (.getfield 50, 3) := by decide +kernel
theorem dX12_falls_233 : decode cX12_falls 233 = .ok (.iload_n 3, 1) := by decide +kernel
theorem dX12_falls_234 : decode cX12_falls 234 = .ok (.iaload, 1) := by decide +kernel
theorem dX12_falls_235 : decode cX12_falls 235 = .ok (.invokevirtual 366, 3) := by decide +kernel
theorem dX12_falls_238 : decode cX12_falls 238 = .ok (.iload_n 1, 1) := by decide +kernel
theorem dX12_falls_239 : decode cX12_falls 239 = .ok (.if_icmp .eq 6, 3) := by decide +kernel
theorem dX12_falls_242 : decode cX12_falls 242 = .ok (.goto 21, 3) := by decide +kernel
theorem dX12_falls_245 : decode cX12_falls 245 = .ok (.aload_n 0, 1) := by decide +kernel
theorem dX12_falls_246 : decode cX12_falls 246 = .ok (.iload_n 3, 1) := by decide +kernel
theorem dX12_falls_247 : decode cX12_falls 247 = .ok (.aload_n 0, 1) := by decide +kernel
theorem dX12_falls_248 : decode cX12_falls 248 = .ok (.getfield 96, 3) := by decide +kernel
theorem dX12_falls_251 : decode cX12_falls 251 = .ok (.invokevirtual 383, 3) := by decide +kernel
theorem dX12_falls_254 : decode cX12_falls 254 = .ok (.aload_n 0, 1) := by decide +kernel
theorem dX12_falls_255 : decode cX12_falls 255 = .ok (.iload_n 3, 1) := by decide +kernel
theorem dX12_falls_256 : decode cX12_falls 256 = .ok (.aload_n 0, 1) := by decide +kernel
theorem dX12_falls_257 : decode cX12_falls 257 = .ok (.getfield 93, 3) := by decide +kernel
theorem dX12_falls_260 : decode cX12_falls 260 = .ok (.invokevirtual 383, 3) := by decide +kernel
theorem dX12_falls_263 : decode cX12_falls 263 = .ok (.iinc 3 1, 3) := by decide +kernel
theorem dX12_falls_266 : decode cX12_falls 266 = .ok (.goto (-48), 3) := by decide +kernel
theorem dX12_falls_269 : decode cX12_falls 269 = .ok (.lconst 0, 1) := by decide +kernel
theorem dX12_falls_270 : decode cX12_falls 270 = .ok (.lstore_n 3, 1) := by decide +kernel
theorem dX12_falls_271 : decode cX12_falls 271 = .ok (.iconst 0, 1) := by decide +kernel
theorem dX12_falls_272 : decode cX12_falls 272 = .ok (.istore 5, 2) := by decide +kernel
theorem dX12_falls_274 : decode cX12_falls 274 = .ok (.iload 5, 2) := by decide +kernel
theorem dX12_falls_276 : decode cX12_falls 276 = .ok (.bipush 96, 2) := by decide +kernel
theorem dX12_falls_278 : decode cX12_falls 278 = .ok (.if_icmp .ge 33, 3) := by decide +kernel
theorem dX12_falls_281 : decode cX12_falls 281 = .ok (.aload_n 0, 1) := by decide +kernel
theorem dX12_falls_282 : decode cX12_falls 282 = .ok (.getfield 81, 3) := by decide +kernel
theorem dX12_falls_285 : decode cX12_falls 285 = .ok (.iload 5, 2) := by decide +kernel
theorem dX12_falls_287 : decode cX12_falls 287 = .ok (.aload_n 0, 1) := by decide +kernel
theorem dX12_falls_288 : decode cX12_falls 288 = .ok (.getfield 96, 3) := by decide +kernel
theorem dX12_falls_291 : decode cX12_falls 291 = .ok (.iload 5, 2) := by decide +kernel
theorem dX12_falls_293 : decode cX12_falls 293 = .ok (.laload, 1) := by decide +kernel
theorem dX12_falls_294 : decode cX12_falls 294 = .ok (.lastore, 1) := by decide +kernel
theorem dX12_falls_295 : decode cX12_falls 295 = .ok (.lload_n 3, 1) := by decide +kernel
theorem dX12_falls_296 : decode cX12_falls 296 = .ok (.aload_n 0, 1) := by decide +kernel
theorem dX12_falls_297 : decode cX12_falls 297 = .ok (.getfield 93, 3) := by decide +kernel
theorem dX12_falls_300 : decode cX12_falls 300 = .ok (.iload 5, 2) := by decide +kernel
theorem dX12_falls_302 : decode cX12_falls 302 = .ok (.laload, 1) := by decide +kernel
theorem dX12_falls_303 : decode cX12_falls 303 = .ok (.ladd, 1) := by decide +kernel
theorem dX12_falls_304 : decode cX12_falls 304 = .ok (.lstore_n 3, 1) := by decide +kernel
theorem dX12_falls_305 : decode cX12_falls 305 = .ok (.iinc 5 1, 3) := by decide +kernel
theorem dX12_falls_308 : decode cX12_falls 308 = .ok (.goto (-34), 3) := by decide +kernel
theorem dX12_falls_311 : decode cX12_falls 311 = .ok (.aload_n 0, 1) := by decide +kernel
theorem dX12_falls_312 : decode cX12_falls 312 = .ok (.getfield 81, 3) := by decide +kernel
theorem dX12_falls_315 : decode cX12_falls 315 = .ok (.bipush 96, 2) := by decide +kernel
theorem dX12_falls_317 : decode cX12_falls 317 = .ok (.lload_n 3, 1) := by decide +kernel
theorem dX12_falls_318 : decode cX12_falls 318 = .ok (.lastore, 1) := by decide +kernel
theorem dX12_falls_319 : decode cX12_falls 319 = .ok (.aload_n 0, 1) := by decide +kernel
theorem dX12_falls_320 : decode cX12_falls 320 = .ok (.iload_n 2, 1) := by decide +kernel
theorem dX12_falls_321 : decode cX12_falls 321 = .ok (.i2l, 1) := by decide +kernel
theorem dX12_falls_322 : decode cX12_falls 322 = .ok (.bipush 97, 2) := by decide +kernel
theorem dX12_falls_324 : decode cX12_falls 324 = .ok (.invokevirtual 351, 3) := by decide +kernel
theorem dX12_falls_327 : decode cX12_falls 327 = .ok (.iconst 0, 1) := by decide +kernel
theorem dX12_falls_328 : decode cX12_falls 328 = .ok (.istore 5, 2) := by decide +kernel
theorem dX12_falls_330 : decode cX12_falls 330 = .ok (.iload 5, 2) := by decide +kernel
theorem dX12_falls_332 : decode cX12_falls 332 = .ok (.bipush 96, 2) := by decide +kernel
theorem dX12_falls_334 : decode cX12_falls 334 = .ok (.if_icmp .ge 103, 3) := by decide +kernel
theorem dX12_falls_337 : decode cX12_falls 337 = .ok (.aload_n 0, 1) := by decide +kernel
theorem dX12_falls_338 : decode cX12_falls 338 = .ok (.getfield 56, 3) := by decide +kernel
theorem dX12_falls_341 : decode cX12_falls 341 = .ok (.bipush 54, 2) := by decide +kernel
theorem dX12_falls_343 : decode cX12_falls 343 = .ok (.iload 5, 2) := by decide +kernel
theorem dX12_falls_345 : decode cX12_falls 345 = .ok (.iadd, 1) := by decide +kernel
theorem dX12_falls_346 : decode cX12_falls 346 = .ok (.iaload, 1) := by decide +kernel
theorem dX12_falls_347 : decode cX12_falls 347 = .ok (.iconst (-1), 1) := by decide +kernel
theorem dX12_falls_348 : decode cX12_falls 348 = .ok (.if_icmp .ne 6, 3) := by decide +kernel
theorem dX12_falls_351 : decode cX12_falls 351 = .ok (.goto 80, 3) := by decide +kernel
theorem dX12_falls_354 : decode cX12_falls 354 = .ok (.aload_n 0, 1) := by decide +kernel
theorem dX12_falls_355 : decode cX12_falls 355 = .ok (.getfield 56, 3) := by decide +kernel
theorem dX12_falls_358 : decode cX12_falls 358 = .ok (.sipush 150, 3) := by decide +kernel
theorem dX12_falls_361 : decode cX12_falls 361 = .ok (.iload 5, 2) := by decide +kernel
theorem dX12_falls_363 : decode cX12_falls 363 = .ok (.iadd, 1) := by decide +kernel
theorem dX12_falls_364 : decode cX12_falls 364 = .ok (.aload_n 0, 1) := by decide +kernel
theorem dX12_falls_365 : decode cX12_falls 365 = .ok (.getfield 93, 3) := by decide +kernel
theorem dX12_falls_368 : decode cX12_falls 368 = .ok (.iload 5, 2) := by decide +kernel
theorem dX12_falls_370 : decode cX12_falls 370 = .ok (.laload, 1) := by decide +kernel
theorem dX12_falls_371 : decode cX12_falls 371 = .ok (.l2i, 1) := by decide +kernel
theorem dX12_falls_372 : decode cX12_falls 372 = .ok (.iastore, 1) := by decide +kernel
theorem dX12_falls_373 : decode cX12_falls 373 = .ok (.aload_n 0, 1) := by decide +kernel
theorem dX12_falls_374 : decode cX12_falls 374 = .ok (.getfield 56, 3) := by decide +kernel
theorem dX12_falls_377 : decode cX12_falls 377 = .ok (.sipush 246, 3) := by decide +kernel
theorem dX12_falls_380 : decode cX12_falls 380 = .ok (.iload 5, 2) := by decide +kernel
theorem dX12_falls_382 : decode cX12_falls 382 = .ok (.iadd, 1) := by decide +kernel
theorem dX12_falls_383 : decode cX12_falls 383 = .ok (.aload_n 0, 1) := by decide +kernel
theorem dX12_falls_384 : decode cX12_falls 384 = .ok (.getfield 84, 3) := by decide +kernel
theorem dX12_falls_387 : decode cX12_falls 387 = .ok (.iload 5, 2) := by decide +kernel
theorem dX12_falls_389 : decode cX12_falls 389 = .ok (.laload, 1) := by decide +kernel
theorem dX12_falls_390 : decode cX12_falls 390 = .ok (.l2i, 1) := by decide +kernel
theorem dX12_falls_391 : decode cX12_falls 391 = .ok (.iastore, 1) := by decide +kernel
theorem dX12_falls_392 : decode cX12_falls 392 = .ok (.aload_n 0, 1) := by decide +kernel
theorem dX12_falls_393 : decode cX12_falls 393 = .ok (.getfield 56, 3) := by decide +kernel
theorem dX12_falls_396 : decode cX12_falls 396 = .ok (.sipush 342, 3) := by decide +kernel
theorem dX12_falls_399 : decode cX12_falls 399 = .ok (.iload 5, 2) := by decide +kernel
theorem dX12_falls_401 : decode cX12_falls 401 = .ok (.iadd, 1) := by decide +kernel
theorem dX12_falls_402 : decode cX12_falls 402 = .ok (.aload_n 0, 1) := by decide +kernel
theorem dX12_falls_403 : decode cX12_falls 403 = .ok (.getfield 96, 3) := by decide +kernel
theorem dX12_falls_406 : decode cX12_falls 406 = .ok (.iload 5, 2) := by decide +kernel
theorem dX12_falls_408 : decode cX12_falls 408 = .ok (.laload, 1) := by decide +kernel
theorem dX12_falls_409 : decode cX12_falls 409 = .ok (.aload_n 0, 1) := by decide +kernel
theorem dX12_falls_410 : decode cX12_falls 410 = .ok (.getfield 84, 3) := by decide +kernel
theorem dX12_falls_413 : decode cX12_falls 413 = .ok (.iload 5, 2) := by decide +kernel
theorem dX12_falls_415 : decode cX12_falls 415 = .ok (.laload, 1) := by decide +kernel
theorem dX12_falls_416 : decode cX12_falls 416 = .ok (.lsub, 1) := by decide +kernel
theorem dX12_falls_417 : decode cX12_falls 417 = .ok (.l2i, 1) := by decide +kernel
theorem dX12_falls_418 : decode cX12_falls 418 = .ok (.iastore, 1) := by decide +kernel
theorem dX12_falls_419 : decode cX12_falls 419 = .ok (.aload_n 0, 1) := by decide +kernel
theorem dX12_falls_420 : decode cX12_falls 420 = .ok (.getfield 56, 3) := by decide +kernel
theorem dX12_falls_423 : decode cX12_falls 423 = .ok (.iconst 1, 1) := by decide +kernel
theorem dX12_falls_424 : decode cX12_falls 424 = .ok (.iload 5, 2) := by decide +kernel
theorem dX12_falls_426 : decode cX12_falls 426 = .ok (.iconst 4, 1) := by decide +kernel
theorem dX12_falls_427 : decode cX12_falls 427 = .ok (.idiv, 1) := by decide +kernel
theorem dX12_falls_428 : decode cX12_falls 428 = .ok (.iadd, 1) := by decide +kernel
theorem dX12_falls_429 : decode cX12_falls 429 = .ok (.iconst 0, 1) := by decide +kernel
theorem dX12_falls_430 : decode cX12_falls 430 = .ok (.iastore, 1) := by decide +kernel
theorem dX12_falls_431 : decode cX12_falls 431 = .ok (.iinc 5 1, 3) := by decide +kernel
theorem dX12_falls_434 : decode cX12_falls 434 = .ok (.goto (-104), 3) := by decide +kernel
theorem dX12_falls_437 : decode cX12_falls 437 = .ok (.aload_n 0, 1) := by decide +kernel
theorem dX12_falls_438 : decode cX12_falls 438 = .ok (.getfield 56, 3) := by decide +kernel
theorem dX12_falls_441 : decode cX12_falls 441 = .ok (.sipush 438, 3) := by decide +kernel
theorem dX12_falls_444 : decode cX12_falls 444 = .ok (.aload_n 0, 1) := by decide +kernel
theorem dX12_falls_445 : decode cX12_falls 445 = .ok (.getfield 84, 3) := by decide +kernel
theorem dX12_falls_448 : decode cX12_falls 448 = .ok (.bipush 96, 2) := by decide +kernel
theorem dX12_falls_450 : decode cX12_falls 450 = .ok (.laload, 1) := by decide +kernel
theorem dX12_falls_451 : decode cX12_falls 451 = .ok (.l2i, 1) := by decide +kernel
theorem dX12_falls_452 : decode cX12_falls 452 = .ok (.iastore, 1) := by decide +kernel
theorem dX12_falls_453 : decode cX12_falls 453 = .ok (.aload_n 0, 1) := by decide +kernel
theorem dX12_falls_454 : decode cX12_falls 454 = .ok (.getfield 56, 3) := by decide +kernel
theorem dX12_falls_457 : decode cX12_falls 457 = .ok (.bipush 47, 2) := by decide +kernel
theorem dX12_falls_459 : decode cX12_falls 459 = .ok (.iload_n 1, 1) := by decide +kernel
theorem dX12_falls_460 : decode cX12_falls 460 = .ok (.iadd, 1) := by decide +kernel
theorem dX12_falls_461 : decode cX12_falls 461 = .ok (.iconst 1, 1) := by decide +kernel
theorem dX12_falls_462 : decode cX12_falls 462 = .ok (.iastore, 1) := by decide +kernel
theorem dX12_falls_463 : decode cX12_falls 463 = .ok (.iconst 1, 1) := by decide +kernel
theorem dX12_falls_464 : decode cX12_falls 464 = .ok (.ireturn, 1) := by decide +kernel
def X12_falls_b28   (u : gM) : Option (Int32 × gM) :=
some (0, u)
def X12_falls_b431 (k330 : Int32 → Int32 → gM → Option (Int32 × gM)) (x1 : Int32) (x5 : Int32) (u : gM) : Option (Int32 × gM) :=
(k330 x1 (x5 + 1) u)
def X12_falls_b330 (k330 : Int32 → Int32 → gM → Option (Int32 × gM)) (x1 : Int32) (x5 : Int32) (u : gM) : Option (Int32 × gM) :=
(if 96 ≤ x5 then ((aJ skM u 22 96).bind fun v450 => ((sI skM u 16 438 v450.toInt32).bind fun u452 => ((sI skM u452 16 (47 + x1) 1).bind fun u462 => some (1, u462))))
  else ((aI skM u 16 (54 + x5)).bind fun v346 => (if v346 = (-1) then (X12_falls_b431 k330 x1 x5 u)
    else ((aJ skM u 25 x5).bind fun v370 => ((sI skM u 16 (150 + x5) v370.toInt32).bind fun u372 => ((aJ skM u372 22 x5).bind fun v389 => ((sI skM u372 16 (246 + x5) v389.toInt32).bind fun u391 => ((aJ skM u391 26 x5).bind fun v408 => ((aJ skM u391 22 x5).bind fun v415 => ((sI skM u391 16 (342 + x5) (v408 - v415).toInt32).bind fun u418 => ((sI skM u418 16 (1 + (x5 / 4)) 0).bind fun u430 => (X12_falls_b431 k330 x1 x5 u430))))))))))))
def X12_falls_l330  : Nat → Int32 → Int32 → gM → Option (Int32 × gM)
  | 0, _, _, _ => none
  | n + 1, x1, x5, u => X12_falls_b330  (X12_falls_l330  n) x1 x5 u
def X12_falls_b274 (k274 : Int32 → Int32 → Int64 → Int32 → gM → Option (Int32 × gM)) (x1 : Int32) (x2 : Int32) (x3 : Int64) (x5 : Int32) (u : gM) : Option (Int32 × gM) :=
(if 96 ≤ x5 then ((sJ skM u 21 96 x3).bind fun u318 => ((X12_divides x2.toInt64 97 u318).bind fun w324 => (X12_falls_l330 fz x1 0 w324)))
  else ((aJ skM u 26 x5).bind fun v293 => ((sJ skM u 21 x5 v293).bind fun u294 => ((aJ skM u294 25 x5).bind fun v302 => (k274 x1 x2 (x3 + v302) (x5 + 1) u294)))))
def X12_falls_l274  : Nat → Int32 → Int32 → Int64 → Int32 → gM → Option (Int32 × gM)
  | 0, _, _, _, _, _ => none
  | n + 1, x1, x2, x3, x5, u => X12_falls_b274  (X12_falls_l274  n) x1 x2 x3 x5 u
def X12_falls_b263 (k218 : Int32 → Int32 → Int32 → gM → Option (Int32 × gM)) (x1 : Int32) (x2 : Int32) (x3 : Int32) (u : gM) : Option (Int32 × gM) :=
(k218 x1 x2 (x3 + 1) u)
def X12_falls_b218 (k218 : Int32 → Int32 → Int32 → gM → Option (Int32 × gM)) (x1 : Int32) (x2 : Int32) (x3 : Int32) (u : gM) : Option (Int32 × gM) :=
((aI skM u 1 3).bind fun v224 => (if v224 ≤ x3 then (X12_falls_l274 fz x1 x2 0 0 u)
  else ((aI skM u 14 x3).bind fun v234 => ((X12_nowAt u v234).bind fun w235 => (if w235 = x1 then ((X12_setsOff x3 26 u).bind fun w251 => ((X12_setsOff x3 25 w251).bind fun w260 => (X12_falls_b263 k218 x1 x2 x3 w260)))
    else (X12_falls_b263 k218 x1 x2 x3 u))))))
def X12_falls_l218  : Nat → Int32 → Int32 → Int32 → gM → Option (Int32 × gM)
  | 0, _, _, _, _ => none
  | n + 1, x1, x2, x3, u => X12_falls_b218  (X12_falls_l218  n) x1 x2 x3 u
def X12_falls_b176 (k50 : Int32 → Int32 → Int32 → gM → Option (Int32 × gM)) (x1 : Int32) (x2 : Int32) (x3 : Int32) (s1 : Int32) (s2 : Int32) (u : gM) : Option (Int32 × gM) :=
((sI skM u 16 s1 s2).bind fun u176 => ((sI skM u176 16 (150 + x3) 0).bind fun u187 => ((sI skM u187 16 (246 + x3) 0).bind fun u198 => ((sI skM u198 16 (342 + x3) 0).bind fun u209 => (k50 x1 x2 (x3 + 1) u209)))))
def X12_falls_b157 (k50 : Int32 → Int32 → Int32 → gM → Option (Int32 × gM)) (x1 : Int32) (x2 : Int32) (x3 : Int32) (x5 : Int32) (s1 : Int32) (s2 : Int64) (u : gM) : Option (Int32 × gM) :=
((sJ skM u 26 s1 s2).bind fun u157 => (if x5 = 0 then (X12_falls_b176 k50 x1 x2 x3 (54 + x3) (-1) u157)
  else (X12_falls_b176 k50 x1 x2 x3 (54 + x3) 0 u157)))
def X12_falls_b125 (k50 : Int32 → Int32 → Int32 → gM → Option (Int32 × gM)) (x1 : Int32) (x2 : Int32) (x3 : Int32) (x4 : Int32) (x5 : Int32) (s1 : Int32) (s2 : Int64) (u : gM) : Option (Int32 × gM) :=
((sJ skM u 25 s1 s2).bind fun u125 => (if x5 = 0 then (X12_falls_b157 k50 x1 x2 x3 x5 x3 0 u125)
  else ((X12_shareOf u125 x4 (x3 - x3 / 4 * 4)).bind fun w142 => ((aJ skM u125 24 x3).bind fun v151 => (X12_falls_b157 k50 x1 x2 x3 x5 x3 (w142.toInt64 - v151) u125)))))
def X12_falls_b103 (k50 : Int32 → Int32 → Int32 → gM → Option (Int32 × gM)) (x1 : Int32) (x2 : Int32) (x3 : Int32) (x4 : Int32) (s0 : Int32) (u : gM) : Option (Int32 × gM) :=
(if s0 = 0 then (X12_falls_b125 k50 x1 x2 x3 x4 s0 x3 0 u)
  else ((aJ skM u 24 x3).bind fun v120 => (X12_falls_b125 k50 x1 x2 x3 x4 s0 x3 v120 u)))
def X12_falls_b102 (k50 : Int32 → Int32 → Int32 → gM → Option (Int32 × gM)) (x1 : Int32) (x2 : Int32) (x3 : Int32) (x4 : Int32) (u : gM) : Option (Int32 × gM) :=
(X12_falls_b103 k50 x1 x2 x3 x4 0 u)
def X12_falls_b50 (k50 : Int32 → Int32 → Int32 → gM → Option (Int32 × gM)) (x1 : Int32) (x2 : Int32) (x3 : Int32) (u : gM) : Option (Int32 × gM) :=
(if 96 ≤ x3 then (X12_falls_l218 fz x1 x2 0 u)
  else ((X12_isAccount u (x3 / 4)).bind fun w64 => (if w64 = 0 then (X12_falls_b102 k50 x1 x2 x3 (x3 / 4) u)
    else ((aI skM u 6 (x3 / 4)).bind fun v77 => ((X12_nowAt u v77).bind fun w78 => (if w78 = x1 then ((aI skM u 7 (x3 / 4)).bind fun v94 => (if v94 ≤ (x3 - x3 / 4 * 4) then (X12_falls_b102 k50 x1 x2 x3 (x3 / 4) u)
        else (X12_falls_b103 k50 x1 x2 x3 (x3 / 4) 1 u)))
      else (X12_falls_b102 k50 x1 x2 x3 (x3 / 4) u)))))))
def X12_falls_l50  : Nat → Int32 → Int32 → Int32 → gM → Option (Int32 × gM)
  | 0, _, _, _, _ => none
  | n + 1, x1, x2, x3, u => X12_falls_b50  (X12_falls_l50  n) x1 x2 x3 u
def X12_falls  (x1 : Int32) (x2 : Int32) (u : gM) : Option (Int32 × gM) :=
((X12_isBank u x1).bind fun w2 => (if w2 = 0 then (X12_falls_b28 u)
  else ((X12_isOpen u x1).bind fun w10 => (if w10 = 0 then (X12_falls_b28 u)
    else ((X12_isIn u x2.toInt64 0 100000000).bind fun w22 => (if w22 = 0 then (X12_falls_b28 u)
      else ((aI skM u 16 0).bind fun v36 => ((X12_insures v36 u).bind fun w37 => ((sI skM w37 16 53 x1).bind fun u47 => (X12_falls_l50 fz x1 x2 0 u47))))))))))
set_option maxRecDepth 20000 in
theorem v_X12_falls_b28 {κ : gK} {B : Nat} {u : gM} (X : gX κ B skM cX12_falls 6 RX12 (some .boolean) 7 178)    {w : (Int32 × gM)} (hM : X12_falls_b28 u = some w) : gV κ B skM 6 ((some (.int w.1)), w.2) 28 [none, none, none, none, none, none] [] u := by
  unfold X12_falls_b28 at hM
  refine g_iconst X (v := 0) dX12_falls_28 (by decide) ?_
  cases hM
  exact g_zret X (Or.inl rfl) dX12_falls_29
set_option maxRecDepth 20000 in
theorem v_X12_falls_b431 {κ : gK} {B : Nat} {u : gM} (X : gX κ B skM cX12_falls 6 RX12 (some .boolean) 7 178) {k330 : Int32 → Int32 → gM → Option (Int32 × gM)} (ih330 : ∀ (x1 : Int32) (x5 : Int32) (u : gM) (w : (Int32 × gM)), k330 x1 x5 u = some w → gV κ B skM 6 ((some (.int w.1)), w.2) 330 [some (.ref (B + 0)), some (.int x1), none, none, none, some (.int x5)] [] u) {x1 : Int32} {x5 : Int32} {w : (Int32 × gM)} (hM : X12_falls_b431 k330 x1 x5 u = some w) : gV κ B skM 6 ((some (.int w.1)), w.2) 431 [some (.ref (B + 0)), some (.int x1), none, none, none, some (.int x5)] [] u := by
  unfold X12_falls_b431 at hM
  refine g_iinc (d := 1) X [some (.ref (B + 0)), some (.int x1), none, none, none, some (.int (x5 + 1))] dX12_falls_431 (by decide) rfl (by decide) rfl ?_
  refine g_goto (tgt := 330) X dX12_falls_434 (by decide) ?_
  refine g_mk [true, true, false, false, false, true] [some (.ref (B + 0)), some (.int x1), none, none, none, some (.int (x5 + 1))] rfl ?_
  exact ih330 x1 (x5 + 1) u _ hM
set_option maxRecDepth 20000 in
theorem v_X12_falls_b330 {κ : gK} {B : Nat} {u : gM} (X : gX κ B skM cX12_falls 6 RX12 (some .boolean) 7 178) {k330 : Int32 → Int32 → gM → Option (Int32 × gM)} (ih330 : ∀ (x1 : Int32) (x5 : Int32) (u : gM) (w : (Int32 × gM)), k330 x1 x5 u = some w → gV κ B skM 6 ((some (.int w.1)), w.2) 330 [some (.ref (B + 0)), some (.int x1), none, none, none, some (.int x5)] [] u) {x1 : Int32} {x5 : Int32} {w : (Int32 × gM)} (hM : X12_falls_b330 k330 x1 x5 u = some w) : gV κ B skM 6 ((some (.int w.1)), w.2) 330 [some (.ref (B + 0)), some (.int x1), none, none, none, some (.int x5)] [] u := by
  unfold X12_falls_b330 at hM
  refine g_iload X dX12_falls_330 rfl ?_
  refine g_bipush X (v := 96) dX12_falls_332 (by decide) ?_
  refine g_icmp_ge (tgt := 437) X dX12_falls_334 (by decide) (fun c334 => ?_) (fun c334 => ?_)
  · rw [if_pos c334] at hM
    refine g_aload_n X dX12_falls_437 rfl ?_
    refine g_getR X fX12_56 cM_0 rfl dX12_falls_438 ?_
    refine g_sipush X (v := 438) dX12_falls_441 (by decide) ?_
    refine g_aload_n X dX12_falls_444 rfl ?_
    refine g_getR X fX12_84 cM_0 rfl dX12_falls_445 ?_
    refine g_bipush X (v := 96) dX12_falls_448 (by decide) ?_
    obtain ⟨v450, e450, hM⟩ := bind_of hM
    refine g_laload X e450 dX12_falls_450 ?_
    refine g_l2i X dX12_falls_451 ?_
    obtain ⟨u452, e452, hM⟩ := bind_of hM
    refine g_iastore X e452 dX12_falls_452 ?_
    refine g_aload_n X dX12_falls_453 rfl ?_
    refine g_getR X fX12_56 cM_0 rfl dX12_falls_454 ?_
    refine g_bipush X (v := 47) dX12_falls_457 (by decide) ?_
    refine g_iload_n X dX12_falls_459 rfl ?_
    refine g_iadd X dX12_falls_460 ?_
    refine g_iconst X (v := 1) dX12_falls_461 (by decide) ?_
    obtain ⟨u462, e462, hM⟩ := bind_of hM
    refine g_iastore X e462 dX12_falls_462 ?_
    refine g_iconst X (v := 1) dX12_falls_463 (by decide) ?_
    cases hM
    exact g_zret X (Or.inr rfl) dX12_falls_464
  · rw [if_neg c334] at hM
    refine g_aload_n X dX12_falls_337 rfl ?_
    refine g_getR X fX12_56 cM_0 rfl dX12_falls_338 ?_
    refine g_bipush X (v := 54) dX12_falls_341 (by decide) ?_
    refine g_iload X dX12_falls_343 rfl ?_
    refine g_iadd X dX12_falls_345 ?_
    obtain ⟨v346, e346, hM⟩ := bind_of hM
    refine g_iaload X e346 dX12_falls_346 ?_
    refine g_iconst X (v := (-1)) dX12_falls_347 (by decide) ?_
    refine g_icmp_ne (tgt := 354) X dX12_falls_348 (by decide) (fun c348 => ?_) (fun c348 => ?_)
    · rw [if_neg c348] at hM
      refine g_aload_n X dX12_falls_354 rfl ?_
      refine g_getR X fX12_56 cM_0 rfl dX12_falls_355 ?_
      refine g_sipush X (v := 150) dX12_falls_358 (by decide) ?_
      refine g_iload X dX12_falls_361 rfl ?_
      refine g_iadd X dX12_falls_363 ?_
      refine g_aload_n X dX12_falls_364 rfl ?_
      refine g_getR X fX12_93 cM_0 rfl dX12_falls_365 ?_
      refine g_iload X dX12_falls_368 rfl ?_
      obtain ⟨v370, e370, hM⟩ := bind_of hM
      refine g_laload X e370 dX12_falls_370 ?_
      refine g_l2i X dX12_falls_371 ?_
      obtain ⟨u372, e372, hM⟩ := bind_of hM
      refine g_iastore X e372 dX12_falls_372 ?_
      refine g_aload_n X dX12_falls_373 rfl ?_
      refine g_getR X fX12_56 cM_0 rfl dX12_falls_374 ?_
      refine g_sipush X (v := 246) dX12_falls_377 (by decide) ?_
      refine g_iload X dX12_falls_380 rfl ?_
      refine g_iadd X dX12_falls_382 ?_
      refine g_aload_n X dX12_falls_383 rfl ?_
      refine g_getR X fX12_84 cM_0 rfl dX12_falls_384 ?_
      refine g_iload X dX12_falls_387 rfl ?_
      obtain ⟨v389, e389, hM⟩ := bind_of hM
      refine g_laload X e389 dX12_falls_389 ?_
      refine g_l2i X dX12_falls_390 ?_
      obtain ⟨u391, e391, hM⟩ := bind_of hM
      refine g_iastore X e391 dX12_falls_391 ?_
      refine g_aload_n X dX12_falls_392 rfl ?_
      refine g_getR X fX12_56 cM_0 rfl dX12_falls_393 ?_
      refine g_sipush X (v := 342) dX12_falls_396 (by decide) ?_
      refine g_iload X dX12_falls_399 rfl ?_
      refine g_iadd X dX12_falls_401 ?_
      refine g_aload_n X dX12_falls_402 rfl ?_
      refine g_getR X fX12_96 cM_0 rfl dX12_falls_403 ?_
      refine g_iload X dX12_falls_406 rfl ?_
      obtain ⟨v408, e408, hM⟩ := bind_of hM
      refine g_laload X e408 dX12_falls_408 ?_
      refine g_aload_n X dX12_falls_409 rfl ?_
      refine g_getR X fX12_84 cM_0 rfl dX12_falls_410 ?_
      refine g_iload X dX12_falls_413 rfl ?_
      obtain ⟨v415, e415, hM⟩ := bind_of hM
      refine g_laload X e415 dX12_falls_415 ?_
      refine g_lsub X dX12_falls_416 ?_
      refine g_l2i X dX12_falls_417 ?_
      obtain ⟨u418, e418, hM⟩ := bind_of hM
      refine g_iastore X e418 dX12_falls_418 ?_
      refine g_aload_n X dX12_falls_419 rfl ?_
      refine g_getR X fX12_56 cM_0 rfl dX12_falls_420 ?_
      refine g_iconst X (v := 1) dX12_falls_423 (by decide) ?_
      refine g_iload X dX12_falls_424 rfl ?_
      refine g_iconst X (v := 4) dX12_falls_426 (by decide) ?_
      refine g_idiv X (by decide) dX12_falls_427 ?_
      refine g_iadd X dX12_falls_428 ?_
      refine g_iconst X (v := 0) dX12_falls_429 (by decide) ?_
      obtain ⟨u430, e430, hM⟩ := bind_of hM
      refine g_iastore X e430 dX12_falls_430 ?_
      refine g_mk [true, true, false, false, false, true] [some (.ref (B + 0)), some (.int x1), none, none, none, some (.int x5)] rfl ?_
      exact v_X12_falls_b431 X ih330 hM
    · rw [if_pos c348] at hM
      refine g_goto (tgt := 431) X dX12_falls_351 (by decide) ?_
      refine g_mk [true, true, false, false, false, true] [some (.ref (B + 0)), some (.int x1), none, none, none, some (.int x5)] rfl ?_
      exact v_X12_falls_b431 X ih330 hM
theorem v_X12_falls_l330 {κ : gK} {B : Nat} (X : gX κ B skM cX12_falls 6 RX12 (some .boolean) 7 178)   : ∀ (n : Nat) {x1 : Int32} {x5 : Int32} {u : gM} {w : (Int32 × gM)} (hM : X12_falls_l330  n x1 x5 u = some w), gV κ B skM 6 ((some (.int w.1)), w.2) 330 [some (.ref (B + 0)), some (.int x1), none, none, none, some (.int x5)] [] u := by
  intro n
  induction n with
  | zero => intro x1 x5 u w hM; exact nomatch (show (none : Option (Int32 × gM)) = some w from hM)
  | succ n ihn => intro x1 x5 u w hM; exact v_X12_falls_b330 X  (fun x1 x5 u w h => ihn h) hM
set_option maxRecDepth 20000 in
theorem v_X12_falls_b274 {κ : gK} {B : Nat} {u : gM} (X : gX κ B skM cX12_falls 6 RX12 (some .boolean) 7 178) {k274 : Int32 → Int32 → Int64 → Int32 → gM → Option (Int32 × gM)} (ih274 : ∀ (x1 : Int32) (x2 : Int32) (x3 : Int64) (x5 : Int32) (u : gM) (w : (Int32 × gM)), k274 x1 x2 x3 x5 u = some w → gV κ B skM 6 ((some (.int w.1)), w.2) 274 [some (.ref (B + 0)), some (.int x1), some (.int x2), some (.long x3), none, some (.int x5)] [] u) {x1 : Int32} {x2 : Int32} {x3 : Int64} {x5 : Int32} {w : (Int32 × gM)} (hM : X12_falls_b274 k274 x1 x2 x3 x5 u = some w) : gV κ B skM 6 ((some (.int w.1)), w.2) 274 [some (.ref (B + 0)), some (.int x1), some (.int x2), some (.long x3), none, some (.int x5)] [] u := by
  unfold X12_falls_b274 at hM
  refine g_iload X dX12_falls_274 rfl ?_
  refine g_bipush X (v := 96) dX12_falls_276 (by decide) ?_
  refine g_icmp_ge (tgt := 311) X dX12_falls_278 (by decide) (fun c278 => ?_) (fun c278 => ?_)
  · rw [if_pos c278] at hM
    refine g_aload_n X dX12_falls_311 rfl ?_
    refine g_getR X fX12_81 cM_0 rfl dX12_falls_312 ?_
    refine g_bipush X (v := 96) dX12_falls_315 (by decide) ?_
    refine g_lload_n X dX12_falls_317 rfl ?_
    obtain ⟨u318, e318, hM⟩ := bind_of hM
    refine g_lastore X e318 dX12_falls_318 ?_
    refine g_aload_n X dX12_falls_319 rfl ?_
    refine g_iload_n X dX12_falls_320 rfl ?_
    refine g_i2l X dX12_falls_321 ?_
    refine g_bipush X (v := 97) dX12_falls_322 (by decide) ?_
    obtain ⟨w324, e324, hM⟩ := bind_of hM
    refine g_callVv X (fun B adK => [.long x2.toInt64, .int 97]) (s_X12_divides e324) cvX12_351 cM_0 rfl rfl (Nat.le_of_ble_eq_true rfl) ⟨by decide, by decide⟩ dX12_falls_324 ?_
    refine g_iconst X (v := 0) dX12_falls_327 (by decide) ?_
    refine g_istore X [some (.ref (B + 0)), some (.int x1), some (.int x2), some (.long x3), none, some (.int 0)] dX12_falls_328 (by decide) rfl ?_
    refine g_mk [true, true, false, false, false, true] [some (.ref (B + 0)), some (.int x1), none, none, none, some (.int 0)] rfl ?_
    exact v_X12_falls_l330 X  fz hM
  · rw [if_neg c278] at hM
    refine g_aload_n X dX12_falls_281 rfl ?_
    refine g_getR X fX12_81 cM_0 rfl dX12_falls_282 ?_
    refine g_iload X dX12_falls_285 rfl ?_
    refine g_aload_n X dX12_falls_287 rfl ?_
    refine g_getR X fX12_96 cM_0 rfl dX12_falls_288 ?_
    refine g_iload X dX12_falls_291 rfl ?_
    obtain ⟨v293, e293, hM⟩ := bind_of hM
    refine g_laload X e293 dX12_falls_293 ?_
    obtain ⟨u294, e294, hM⟩ := bind_of hM
    refine g_lastore X e294 dX12_falls_294 ?_
    refine g_lload_n X dX12_falls_295 rfl ?_
    refine g_aload_n X dX12_falls_296 rfl ?_
    refine g_getR X fX12_93 cM_0 rfl dX12_falls_297 ?_
    refine g_iload X dX12_falls_300 rfl ?_
    obtain ⟨v302, e302, hM⟩ := bind_of hM
    refine g_laload X e302 dX12_falls_302 ?_
    refine g_ladd X dX12_falls_303 ?_
    refine g_lstore_n X [some (.ref (B + 0)), some (.int x1), some (.int x2), some (.long (x3 + v302)), none, some (.int x5)] dX12_falls_304 (by decide) rfl ?_
    refine g_iinc (d := 1) X [some (.ref (B + 0)), some (.int x1), some (.int x2), some (.long (x3 + v302)), none, some (.int (x5 + 1))] dX12_falls_305 (by decide) rfl (by decide) rfl ?_
    refine g_goto (tgt := 274) X dX12_falls_308 (by decide) ?_
    refine g_mk [true, true, true, true, false, true] [some (.ref (B + 0)), some (.int x1), some (.int x2), some (.long (x3 + v302)), none, some (.int (x5 + 1))] rfl ?_
    exact ih274 x1 x2 (x3 + v302) (x5 + 1) u294 _ hM
theorem v_X12_falls_l274 {κ : gK} {B : Nat} (X : gX κ B skM cX12_falls 6 RX12 (some .boolean) 7 178)   : ∀ (n : Nat) {x1 : Int32} {x2 : Int32} {x3 : Int64} {x5 : Int32} {u : gM} {w : (Int32 × gM)} (hM : X12_falls_l274  n x1 x2 x3 x5 u = some w), gV κ B skM 6 ((some (.int w.1)), w.2) 274 [some (.ref (B + 0)), some (.int x1), some (.int x2), some (.long x3), none, some (.int x5)] [] u := by
  intro n
  induction n with
  | zero => intro x1 x2 x3 x5 u w hM; exact nomatch (show (none : Option (Int32 × gM)) = some w from hM)
  | succ n ihn => intro x1 x2 x3 x5 u w hM; exact v_X12_falls_b274 X  (fun x1 x2 x3 x5 u w h => ihn h) hM
set_option maxRecDepth 20000 in
theorem v_X12_falls_b263 {κ : gK} {B : Nat} {u : gM} (X : gX κ B skM cX12_falls 6 RX12 (some .boolean) 7 178) {k218 : Int32 → Int32 → Int32 → gM → Option (Int32 × gM)} (ih218 : ∀ (x1 : Int32) (x2 : Int32) (x3 : Int32) (u : gM) (w : (Int32 × gM)), k218 x1 x2 x3 u = some w → gV κ B skM 6 ((some (.int w.1)), w.2) 218 [some (.ref (B + 0)), some (.int x1), some (.int x2), some (.int x3), none, none] [] u) {x1 : Int32} {x2 : Int32} {x3 : Int32} {w : (Int32 × gM)} (hM : X12_falls_b263 k218 x1 x2 x3 u = some w) : gV κ B skM 6 ((some (.int w.1)), w.2) 263 [some (.ref (B + 0)), some (.int x1), some (.int x2), some (.int x3), none, none] [] u := by
  unfold X12_falls_b263 at hM
  refine g_iinc (d := 1) X [some (.ref (B + 0)), some (.int x1), some (.int x2), some (.int (x3 + 1)), none, none] dX12_falls_263 (by decide) rfl (by decide) rfl ?_
  refine g_goto (tgt := 218) X dX12_falls_266 (by decide) ?_
  refine g_mk [true, true, true, true, false, false] [some (.ref (B + 0)), some (.int x1), some (.int x2), some (.int (x3 + 1)), none, none] rfl ?_
  exact ih218 x1 x2 (x3 + 1) u _ hM
set_option maxRecDepth 20000 in
theorem v_X12_falls_b218 {κ : gK} {B : Nat} {u : gM} (X : gX κ B skM cX12_falls 6 RX12 (some .boolean) 7 178) {k218 : Int32 → Int32 → Int32 → gM → Option (Int32 × gM)} (ih218 : ∀ (x1 : Int32) (x2 : Int32) (x3 : Int32) (u : gM) (w : (Int32 × gM)), k218 x1 x2 x3 u = some w → gV κ B skM 6 ((some (.int w.1)), w.2) 218 [some (.ref (B + 0)), some (.int x1), some (.int x2), some (.int x3), none, none] [] u) {x1 : Int32} {x2 : Int32} {x3 : Int32} {w : (Int32 × gM)} (hM : X12_falls_b218 k218 x1 x2 x3 u = some w) : gV κ B skM 6 ((some (.int w.1)), w.2) 218 [some (.ref (B + 0)), some (.int x1), some (.int x2), some (.int x3), none, none] [] u := by
  unfold X12_falls_b218 at hM
  refine g_iload_n X dX12_falls_218 rfl ?_
  refine g_aload_n X dX12_falls_219 rfl ?_
  refine g_getR X fX12_7 cM_0 rfl dX12_falls_220 ?_
  refine g_iconst X (v := 3) dX12_falls_223 (by decide) ?_
  obtain ⟨v224, e224, hM⟩ := bind_of hM
  refine g_iaload X e224 dX12_falls_224 ?_
  refine g_icmp_ge (tgt := 269) X dX12_falls_225 (by decide) (fun c225 => ?_) (fun c225 => ?_)
  · rw [if_pos c225] at hM
    refine g_lconst (v := 0) X dX12_falls_269 (by decide) ?_
    refine g_lstore_n X [some (.ref (B + 0)), some (.int x1), some (.int x2), some (.long 0), none, none] dX12_falls_270 (by decide) rfl ?_
    refine g_iconst X (v := 0) dX12_falls_271 (by decide) ?_
    refine g_istore X [some (.ref (B + 0)), some (.int x1), some (.int x2), some (.long 0), none, some (.int 0)] dX12_falls_272 (by decide) rfl ?_
    refine g_mk [true, true, true, true, false, true] [some (.ref (B + 0)), some (.int x1), some (.int x2), some (.long 0), none, some (.int 0)] rfl ?_
    exact v_X12_falls_l274 X  fz hM
  · rw [if_neg c225] at hM
    refine g_aload_n X dX12_falls_228 rfl ?_
    refine g_aload_n X dX12_falls_229 rfl ?_
    refine g_getR X fX12_50 cM_0 rfl dX12_falls_230 ?_
    refine g_iload_n X dX12_falls_233 rfl ?_
    obtain ⟨v234, e234, hM⟩ := bind_of hM
    refine g_iaload X e234 dX12_falls_234 ?_
    obtain ⟨w235, e235, hM⟩ := bind_of hM
    refine g_callVi X (fun B adK => [.int v234]) (s_X12_nowAt e235) cvX12_366 cM_0 rfl rfl (Nat.le_of_ble_eq_true rfl) ⟨by decide, by decide⟩ dX12_falls_235 ?_
    refine g_iload_n X dX12_falls_238 rfl ?_
    refine g_icmp_eq (tgt := 245) X dX12_falls_239 (by decide) (fun c239 => ?_) (fun c239 => ?_)
    · rw [if_pos c239] at hM
      refine g_aload_n X dX12_falls_245 rfl ?_
      refine g_iload_n X dX12_falls_246 rfl ?_
      refine g_aload_n X dX12_falls_247 rfl ?_
      refine g_getR X fX12_96 cM_0 rfl dX12_falls_248 ?_
      obtain ⟨w251, e251, hM⟩ := bind_of hM
      refine g_callVv X (fun B adK => [.int x3, .ref (B + 26)]) (s_X12_setsOff e251) cvX12_383 cM_0 rfl rfl (Nat.le_of_ble_eq_true rfl) ⟨by decide, by decide⟩ dX12_falls_251 ?_
      refine g_aload_n X dX12_falls_254 rfl ?_
      refine g_iload_n X dX12_falls_255 rfl ?_
      refine g_aload_n X dX12_falls_256 rfl ?_
      refine g_getR X fX12_93 cM_0 rfl dX12_falls_257 ?_
      obtain ⟨w260, e260, hM⟩ := bind_of hM
      refine g_callVv X (fun B adK => [.int x3, .ref (B + 25)]) (s_X12_setsOff e260) cvX12_383 cM_0 rfl rfl (Nat.le_of_ble_eq_true rfl) ⟨by decide, by decide⟩ dX12_falls_260 ?_
      refine g_mk [true, true, true, true, false, false] [some (.ref (B + 0)), some (.int x1), some (.int x2), some (.int x3), none, none] rfl ?_
      exact v_X12_falls_b263 X ih218 hM
    · rw [if_neg c239] at hM
      refine g_goto (tgt := 263) X dX12_falls_242 (by decide) ?_
      refine g_mk [true, true, true, true, false, false] [some (.ref (B + 0)), some (.int x1), some (.int x2), some (.int x3), none, none] rfl ?_
      exact v_X12_falls_b263 X ih218 hM
theorem v_X12_falls_l218 {κ : gK} {B : Nat} (X : gX κ B skM cX12_falls 6 RX12 (some .boolean) 7 178)   : ∀ (n : Nat) {x1 : Int32} {x2 : Int32} {x3 : Int32} {u : gM} {w : (Int32 × gM)} (hM : X12_falls_l218  n x1 x2 x3 u = some w), gV κ B skM 6 ((some (.int w.1)), w.2) 218 [some (.ref (B + 0)), some (.int x1), some (.int x2), some (.int x3), none, none] [] u := by
  intro n
  induction n with
  | zero => intro x1 x2 x3 u w hM; exact nomatch (show (none : Option (Int32 × gM)) = some w from hM)
  | succ n ihn => intro x1 x2 x3 u w hM; exact v_X12_falls_b218 X  (fun x1 x2 x3 u w h => ihn h) hM
set_option maxRecDepth 20000 in
theorem v_X12_falls_b176 {κ : gK} {B : Nat} {u : gM} (X : gX κ B skM cX12_falls 6 RX12 (some .boolean) 7 178) {k50 : Int32 → Int32 → Int32 → gM → Option (Int32 × gM)} (ih50 : ∀ (x1 : Int32) (x2 : Int32) (x3 : Int32) (u : gM) (w : (Int32 × gM)), k50 x1 x2 x3 u = some w → gV κ B skM 6 ((some (.int w.1)), w.2) 50 [some (.ref (B + 0)), some (.int x1), some (.int x2), some (.int x3), none, none] [] u) {x1 : Int32} {x2 : Int32} {x3 : Int32} {s1 : Int32} {s2 : Int32} {w : (Int32 × gM)} (hM : X12_falls_b176 k50 x1 x2 x3 s1 s2 u = some w) : gV κ B skM 6 ((some (.int w.1)), w.2) 176 [some (.ref (B + 0)), some (.int x1), some (.int x2), some (.int x3), none, none] [.int s2, .int s1, .ref (B + 16)] u := by
  unfold X12_falls_b176 at hM
  obtain ⟨u176, e176, hM⟩ := bind_of hM
  refine g_iastore X e176 dX12_falls_176 ?_
  refine g_aload_n X dX12_falls_177 rfl ?_
  refine g_getR X fX12_56 cM_0 rfl dX12_falls_178 ?_
  refine g_sipush X (v := 150) dX12_falls_181 (by decide) ?_
  refine g_iload_n X dX12_falls_184 rfl ?_
  refine g_iadd X dX12_falls_185 ?_
  refine g_iconst X (v := 0) dX12_falls_186 (by decide) ?_
  obtain ⟨u187, e187, hM⟩ := bind_of hM
  refine g_iastore X e187 dX12_falls_187 ?_
  refine g_aload_n X dX12_falls_188 rfl ?_
  refine g_getR X fX12_56 cM_0 rfl dX12_falls_189 ?_
  refine g_sipush X (v := 246) dX12_falls_192 (by decide) ?_
  refine g_iload_n X dX12_falls_195 rfl ?_
  refine g_iadd X dX12_falls_196 ?_
  refine g_iconst X (v := 0) dX12_falls_197 (by decide) ?_
  obtain ⟨u198, e198, hM⟩ := bind_of hM
  refine g_iastore X e198 dX12_falls_198 ?_
  refine g_aload_n X dX12_falls_199 rfl ?_
  refine g_getR X fX12_56 cM_0 rfl dX12_falls_200 ?_
  refine g_sipush X (v := 342) dX12_falls_203 (by decide) ?_
  refine g_iload_n X dX12_falls_206 rfl ?_
  refine g_iadd X dX12_falls_207 ?_
  refine g_iconst X (v := 0) dX12_falls_208 (by decide) ?_
  obtain ⟨u209, e209, hM⟩ := bind_of hM
  refine g_iastore X e209 dX12_falls_209 ?_
  refine g_iinc (d := 1) X [some (.ref (B + 0)), some (.int x1), some (.int x2), some (.int (x3 + 1)), none, none] dX12_falls_210 (by decide) rfl (by decide) rfl ?_
  refine g_goto (tgt := 50) X dX12_falls_213 (by decide) ?_
  refine g_mk [true, true, true, true, false, false] [some (.ref (B + 0)), some (.int x1), some (.int x2), some (.int (x3 + 1)), none, none] rfl ?_
  exact ih50 x1 x2 (x3 + 1) u209 _ hM
set_option maxRecDepth 20000 in
theorem v_X12_falls_b157 {κ : gK} {B : Nat} {u : gM} (X : gX κ B skM cX12_falls 6 RX12 (some .boolean) 7 178) {k50 : Int32 → Int32 → Int32 → gM → Option (Int32 × gM)} (ih50 : ∀ (x1 : Int32) (x2 : Int32) (x3 : Int32) (u : gM) (w : (Int32 × gM)), k50 x1 x2 x3 u = some w → gV κ B skM 6 ((some (.int w.1)), w.2) 50 [some (.ref (B + 0)), some (.int x1), some (.int x2), some (.int x3), none, none] [] u) {x1 : Int32} {x2 : Int32} {x3 : Int32} {x5 : Int32} {s1 : Int32} {s2 : Int64} {w : (Int32 × gM)} (hM : X12_falls_b157 k50 x1 x2 x3 x5 s1 s2 u = some w) : gV κ B skM 6 ((some (.int w.1)), w.2) 157 [some (.ref (B + 0)), some (.int x1), some (.int x2), some (.int x3), none, some (.int x5)] [.long s2, .int s1, .ref (B + 26)] u := by
  unfold X12_falls_b157 at hM
  obtain ⟨u157, e157, hM⟩ := bind_of hM
  refine g_lastore X e157 dX12_falls_157 ?_
  refine g_aload_n X dX12_falls_158 rfl ?_
  refine g_getR X fX12_56 cM_0 rfl dX12_falls_159 ?_
  refine g_bipush X (v := 54) dX12_falls_162 (by decide) ?_
  refine g_iload_n X dX12_falls_164 rfl ?_
  refine g_iadd X dX12_falls_165 ?_
  refine g_iload X dX12_falls_166 rfl ?_
  refine g_if_eq (tgt := 175) X dX12_falls_168 (by decide) (fun c168 => ?_) (fun c168 => ?_)
  · rw [if_pos c168] at hM
    refine g_iconst X (v := (-1)) dX12_falls_175 (by decide) ?_
    refine g_mk [true, true, true, true, false, false] [some (.ref (B + 0)), some (.int x1), some (.int x2), some (.int x3), none, none] rfl ?_
    exact v_X12_falls_b176 X ih50 hM
  · rw [if_neg c168] at hM
    refine g_iconst X (v := 0) dX12_falls_171 (by decide) ?_
    refine g_goto (tgt := 176) X dX12_falls_172 (by decide) ?_
    refine g_mk [true, true, true, true, false, false] [some (.ref (B + 0)), some (.int x1), some (.int x2), some (.int x3), none, none] rfl ?_
    exact v_X12_falls_b176 X ih50 hM
set_option maxRecDepth 20000 in
theorem v_X12_falls_b125 {κ : gK} {B : Nat} {u : gM} (X : gX κ B skM cX12_falls 6 RX12 (some .boolean) 7 178) {k50 : Int32 → Int32 → Int32 → gM → Option (Int32 × gM)} (ih50 : ∀ (x1 : Int32) (x2 : Int32) (x3 : Int32) (u : gM) (w : (Int32 × gM)), k50 x1 x2 x3 u = some w → gV κ B skM 6 ((some (.int w.1)), w.2) 50 [some (.ref (B + 0)), some (.int x1), some (.int x2), some (.int x3), none, none] [] u) {x1 : Int32} {x2 : Int32} {x3 : Int32} {x4 : Int32} {x5 : Int32} {s1 : Int32} {s2 : Int64} {w : (Int32 × gM)} (hM : X12_falls_b125 k50 x1 x2 x3 x4 x5 s1 s2 u = some w) : gV κ B skM 6 ((some (.int w.1)), w.2) 125 [some (.ref (B + 0)), some (.int x1), some (.int x2), some (.int x3), some (.int x4), some (.int x5)] [.long s2, .int s1, .ref (B + 25)] u := by
  unfold X12_falls_b125 at hM
  obtain ⟨u125, e125, hM⟩ := bind_of hM
  refine g_lastore X e125 dX12_falls_125 ?_
  refine g_aload_n X dX12_falls_126 rfl ?_
  refine g_getR X fX12_96 cM_0 rfl dX12_falls_127 ?_
  refine g_iload_n X dX12_falls_130 rfl ?_
  refine g_iload X dX12_falls_131 rfl ?_
  refine g_if_eq (tgt := 156) X dX12_falls_133 (by decide) (fun c133 => ?_) (fun c133 => ?_)
  · rw [if_pos c133] at hM
    refine g_lconst (v := 0) X dX12_falls_156 (by decide) ?_
    refine g_mk [true, true, true, true, false, true] [some (.ref (B + 0)), some (.int x1), some (.int x2), some (.int x3), none, some (.int x5)] rfl ?_
    exact v_X12_falls_b157 X ih50 hM
  · rw [if_neg c133] at hM
    refine g_aload_n X dX12_falls_136 rfl ?_
    refine g_iload X dX12_falls_137 rfl ?_
    refine g_iload_n X dX12_falls_139 rfl ?_
    refine g_iconst X (v := 4) dX12_falls_140 (by decide) ?_
    refine g_irem X (by decide) dX12_falls_141 ?_
    obtain ⟨w142, e142, hM⟩ := bind_of hM
    refine g_callVi X (fun B adK => [.int x4, .int (x3 - x3 / 4 * 4)]) (s_X12_shareOf e142) cvX12_332 cM_0 rfl rfl (Nat.le_of_ble_eq_true rfl) ⟨by decide, by decide⟩ dX12_falls_142 ?_
    refine g_i2l X dX12_falls_145 ?_
    refine g_aload_n X dX12_falls_146 rfl ?_
    refine g_getR X fX12_90 cM_0 rfl dX12_falls_147 ?_
    refine g_iload_n X dX12_falls_150 rfl ?_
    obtain ⟨v151, e151, hM⟩ := bind_of hM
    refine g_laload X e151 dX12_falls_151 ?_
    refine g_lsub X dX12_falls_152 ?_
    refine g_goto (tgt := 157) X dX12_falls_153 (by decide) ?_
    refine g_mk [true, true, true, true, false, true] [some (.ref (B + 0)), some (.int x1), some (.int x2), some (.int x3), none, some (.int x5)] rfl ?_
    exact v_X12_falls_b157 X ih50 hM
set_option maxRecDepth 20000 in
theorem v_X12_falls_b103 {κ : gK} {B : Nat} {u : gM} (X : gX κ B skM cX12_falls 6 RX12 (some .boolean) 7 178) {k50 : Int32 → Int32 → Int32 → gM → Option (Int32 × gM)} (ih50 : ∀ (x1 : Int32) (x2 : Int32) (x3 : Int32) (u : gM) (w : (Int32 × gM)), k50 x1 x2 x3 u = some w → gV κ B skM 6 ((some (.int w.1)), w.2) 50 [some (.ref (B + 0)), some (.int x1), some (.int x2), some (.int x3), none, none] [] u) {x1 : Int32} {x2 : Int32} {x3 : Int32} {x4 : Int32} {s0 : Int32} {w : (Int32 × gM)} (hM : X12_falls_b103 k50 x1 x2 x3 x4 s0 u = some w) : gV κ B skM 6 ((some (.int w.1)), w.2) 103 [some (.ref (B + 0)), some (.int x1), some (.int x2), some (.int x3), some (.int x4), none] [.int s0] u := by
  unfold X12_falls_b103 at hM
  refine g_istore X [some (.ref (B + 0)), some (.int x1), some (.int x2), some (.int x3), some (.int x4), some (.int s0)] dX12_falls_103 (by decide) rfl ?_
  refine g_aload_n X dX12_falls_105 rfl ?_
  refine g_getR X fX12_93 cM_0 rfl dX12_falls_106 ?_
  refine g_iload_n X dX12_falls_109 rfl ?_
  refine g_iload X dX12_falls_110 rfl ?_
  refine g_if_eq (tgt := 124) X dX12_falls_112 (by decide) (fun c112 => ?_) (fun c112 => ?_)
  · rw [if_pos c112] at hM
    refine g_lconst (v := 0) X dX12_falls_124 (by decide) ?_
    refine g_mk [true, true, true, true, true, true] [some (.ref (B + 0)), some (.int x1), some (.int x2), some (.int x3), some (.int x4), some (.int s0)] rfl ?_
    exact v_X12_falls_b125 X ih50 hM
  · rw [if_neg c112] at hM
    refine g_aload_n X dX12_falls_115 rfl ?_
    refine g_getR X fX12_90 cM_0 rfl dX12_falls_116 ?_
    refine g_iload_n X dX12_falls_119 rfl ?_
    obtain ⟨v120, e120, hM⟩ := bind_of hM
    refine g_laload X e120 dX12_falls_120 ?_
    refine g_goto (tgt := 125) X dX12_falls_121 (by decide) ?_
    refine g_mk [true, true, true, true, true, true] [some (.ref (B + 0)), some (.int x1), some (.int x2), some (.int x3), some (.int x4), some (.int s0)] rfl ?_
    exact v_X12_falls_b125 X ih50 hM
set_option maxRecDepth 20000 in
theorem v_X12_falls_b102 {κ : gK} {B : Nat} {u : gM} (X : gX κ B skM cX12_falls 6 RX12 (some .boolean) 7 178) {k50 : Int32 → Int32 → Int32 → gM → Option (Int32 × gM)} (ih50 : ∀ (x1 : Int32) (x2 : Int32) (x3 : Int32) (u : gM) (w : (Int32 × gM)), k50 x1 x2 x3 u = some w → gV κ B skM 6 ((some (.int w.1)), w.2) 50 [some (.ref (B + 0)), some (.int x1), some (.int x2), some (.int x3), none, none] [] u) {x1 : Int32} {x2 : Int32} {x3 : Int32} {x4 : Int32} {w : (Int32 × gM)} (hM : X12_falls_b102 k50 x1 x2 x3 x4 u = some w) : gV κ B skM 6 ((some (.int w.1)), w.2) 102 [some (.ref (B + 0)), some (.int x1), some (.int x2), some (.int x3), some (.int x4), none] [] u := by
  unfold X12_falls_b102 at hM
  refine g_iconst X (v := 0) dX12_falls_102 (by decide) ?_
  refine g_mk [true, true, true, true, true, false] [some (.ref (B + 0)), some (.int x1), some (.int x2), some (.int x3), some (.int x4), none] rfl ?_
  exact v_X12_falls_b103 X ih50 hM
set_option maxRecDepth 20000 in
theorem v_X12_falls_b50 {κ : gK} {B : Nat} {u : gM} (X : gX κ B skM cX12_falls 6 RX12 (some .boolean) 7 178) {k50 : Int32 → Int32 → Int32 → gM → Option (Int32 × gM)} (ih50 : ∀ (x1 : Int32) (x2 : Int32) (x3 : Int32) (u : gM) (w : (Int32 × gM)), k50 x1 x2 x3 u = some w → gV κ B skM 6 ((some (.int w.1)), w.2) 50 [some (.ref (B + 0)), some (.int x1), some (.int x2), some (.int x3), none, none] [] u) {x1 : Int32} {x2 : Int32} {x3 : Int32} {w : (Int32 × gM)} (hM : X12_falls_b50 k50 x1 x2 x3 u = some w) : gV κ B skM 6 ((some (.int w.1)), w.2) 50 [some (.ref (B + 0)), some (.int x1), some (.int x2), some (.int x3), none, none] [] u := by
  unfold X12_falls_b50 at hM
  refine g_iload_n X dX12_falls_50 rfl ?_
  refine g_bipush X (v := 96) dX12_falls_51 (by decide) ?_
  refine g_icmp_ge (tgt := 216) X dX12_falls_53 (by decide) (fun c53 => ?_) (fun c53 => ?_)
  · rw [if_pos c53] at hM
    refine g_iconst X (v := 0) dX12_falls_216 (by decide) ?_
    refine g_istore_n X [some (.ref (B + 0)), some (.int x1), some (.int x2), some (.int 0), none, none] dX12_falls_217 (by decide) rfl ?_
    refine g_mk [true, true, true, true, false, false] [some (.ref (B + 0)), some (.int x1), some (.int x2), some (.int 0), none, none] rfl ?_
    exact v_X12_falls_l218 X  fz hM
  · rw [if_neg c53] at hM
    refine g_iload_n X dX12_falls_56 rfl ?_
    refine g_iconst X (v := 4) dX12_falls_57 (by decide) ?_
    refine g_idiv X (by decide) dX12_falls_58 ?_
    refine g_istore X [some (.ref (B + 0)), some (.int x1), some (.int x2), some (.int x3), some (.int (x3 / 4)), none] dX12_falls_59 (by decide) rfl ?_
    refine g_aload_n X dX12_falls_61 rfl ?_
    refine g_iload X dX12_falls_62 rfl ?_
    obtain ⟨w64, e64, hM⟩ := bind_of hM
    refine g_callVi X (fun B adK => [.int (x3 / 4)]) (s_X12_isAccount e64) cvX12_362 cM_0 rfl rfl (Nat.le_of_ble_eq_true rfl) ⟨by decide, by decide⟩ dX12_falls_64 ?_
    refine g_if_eq (tgt := 102) X dX12_falls_67 (by decide) (fun c67 => ?_) (fun c67 => ?_)
    · rw [if_pos c67] at hM
      refine g_mk [true, true, true, true, true, false] [some (.ref (B + 0)), some (.int x1), some (.int x2), some (.int x3), some (.int (x3 / 4)), none] rfl ?_
      exact v_X12_falls_b102 X ih50 hM
    · rw [if_neg c67] at hM
      refine g_aload_n X dX12_falls_70 rfl ?_
      refine g_aload_n X dX12_falls_71 rfl ?_
      refine g_getR X fX12_26 cM_0 rfl dX12_falls_72 ?_
      refine g_iload X dX12_falls_75 rfl ?_
      obtain ⟨v77, e77, hM⟩ := bind_of hM
      refine g_iaload X e77 dX12_falls_77 ?_
      obtain ⟨w78, e78, hM⟩ := bind_of hM
      refine g_callVi X (fun B adK => [.int v77]) (s_X12_nowAt e78) cvX12_366 cM_0 rfl rfl (Nat.le_of_ble_eq_true rfl) ⟨by decide, by decide⟩ dX12_falls_78 ?_
      refine g_iload_n X dX12_falls_81 rfl ?_
      refine g_icmp_ne (tgt := 102) X dX12_falls_82 (by decide) (fun c82 => ?_) (fun c82 => ?_)
      · rw [if_neg c82] at hM
        refine g_mk [true, true, true, true, true, false] [some (.ref (B + 0)), some (.int x1), some (.int x2), some (.int x3), some (.int (x3 / 4)), none] rfl ?_
        exact v_X12_falls_b102 X ih50 hM
      · rw [if_pos c82] at hM
        refine g_iload_n X dX12_falls_85 rfl ?_
        refine g_iconst X (v := 4) dX12_falls_86 (by decide) ?_
        refine g_irem X (by decide) dX12_falls_87 ?_
        refine g_aload_n X dX12_falls_88 rfl ?_
        refine g_getR X fX12_29 cM_0 rfl dX12_falls_89 ?_
        refine g_iload X dX12_falls_92 rfl ?_
        obtain ⟨v94, e94, hM⟩ := bind_of hM
        refine g_iaload X e94 dX12_falls_94 ?_
        refine g_icmp_ge (tgt := 102) X dX12_falls_95 (by decide) (fun c95 => ?_) (fun c95 => ?_)
        · rw [if_pos c95] at hM
          refine g_mk [true, true, true, true, true, false] [some (.ref (B + 0)), some (.int x1), some (.int x2), some (.int x3), some (.int (x3 / 4)), none] rfl ?_
          exact v_X12_falls_b102 X ih50 hM
        · rw [if_neg c95] at hM
          refine g_iconst X (v := 1) dX12_falls_98 (by decide) ?_
          refine g_goto (tgt := 103) X dX12_falls_99 (by decide) ?_
          refine g_mk [true, true, true, true, true, false] [some (.ref (B + 0)), some (.int x1), some (.int x2), some (.int x3), some (.int (x3 / 4)), none] rfl ?_
          exact v_X12_falls_b103 X ih50 hM
theorem v_X12_falls_l50 {κ : gK} {B : Nat} (X : gX κ B skM cX12_falls 6 RX12 (some .boolean) 7 178)   : ∀ (n : Nat) {x1 : Int32} {x2 : Int32} {x3 : Int32} {u : gM} {w : (Int32 × gM)} (hM : X12_falls_l50  n x1 x2 x3 u = some w), gV κ B skM 6 ((some (.int w.1)), w.2) 50 [some (.ref (B + 0)), some (.int x1), some (.int x2), some (.int x3), none, none] [] u := by
  intro n
  induction n with
  | zero => intro x1 x2 x3 u w hM; exact nomatch (show (none : Option (Int32 × gM)) = some w from hM)
  | succ n ihn => intro x1 x2 x3 u w hM; exact v_X12_falls_b50 X  (fun x1 x2 x3 u w h => ihn h) hM
set_option maxRecDepth 20000 in
theorem v_X12_falls {κ : gK} {B : Nat} {u : gM} (X : gX κ B skM cX12_falls 6 RX12 (some .boolean) 7 178)   {x1 : Int32} {x2 : Int32} {w : (Int32 × gM)} (hM : X12_falls x1 x2 u = some w) : gV κ B skM 6 ((some (.int w.1)), w.2) 0 [some (.ref (B + 0)), some (.int x1), some (.int x2), none, none, none] [] u := by
  unfold X12_falls at hM
  refine g_aload_n X dX12_falls_0 rfl ?_
  refine g_iload_n X dX12_falls_1 rfl ?_
  obtain ⟨w2, e2, hM⟩ := bind_of hM
  refine g_callVi X (fun B adK => [.int x1]) (s_X12_isBank e2) cvX12_369 cM_0 rfl rfl (Nat.le_of_ble_eq_true rfl) ⟨by decide, by decide⟩ dX12_falls_2 ?_
  refine g_if_eq (tgt := 28) X dX12_falls_5 (by decide) (fun c5 => ?_) (fun c5 => ?_)
  · rw [if_pos c5] at hM
    refine g_mk [false, false, false, false, false, false] [none, none, none, none, none, none] rfl ?_
    exact v_X12_falls_b28 X  hM
  · rw [if_neg c5] at hM
    refine g_aload_n X dX12_falls_8 rfl ?_
    refine g_iload_n X dX12_falls_9 rfl ?_
    obtain ⟨w10, e10, hM⟩ := bind_of hM
    refine g_callVi X (fun B adK => [.int x1]) (s_X12_isOpen e10) cvX12_372 cM_0 rfl rfl (Nat.le_of_ble_eq_true rfl) ⟨by decide, by decide⟩ dX12_falls_10 ?_
    refine g_if_eq (tgt := 28) X dX12_falls_13 (by decide) (fun c13 => ?_) (fun c13 => ?_)
    · rw [if_pos c13] at hM
      refine g_mk [false, false, false, false, false, false] [none, none, none, none, none, none] rfl ?_
      exact v_X12_falls_b28 X  hM
    · rw [if_neg c13] at hM
      refine g_iload_n X dX12_falls_16 rfl ?_
      refine g_i2l X dX12_falls_17 ?_
      refine g_lconst (v := 0) X dX12_falls_18 (by decide) ?_
      refine g_ldc2 (v := 100000000) X m_23_10 dX12_falls_19 ?_
      obtain ⟨w22, e22, hM⟩ := bind_of hM
      refine g_callSi X (fun B adK => [.long x2.toInt64, .long 0, .long 100000000]) (s_X12_isIn e22) cvX12_125 rfl rfl (Nat.le_of_ble_eq_true rfl) ⟨by decide, by decide⟩ dX12_falls_22 ?_
      refine g_if_ne (tgt := 30) X dX12_falls_25 (by decide) (fun c25 => ?_) (fun c25 => ?_)
      · rw [if_neg c25] at hM
        refine g_aload_n X dX12_falls_30 rfl ?_
        refine g_aload_n X dX12_falls_31 rfl ?_
        refine g_getR X fX12_56 cM_0 rfl dX12_falls_32 ?_
        refine g_iconst X (v := 0) dX12_falls_35 (by decide) ?_
        obtain ⟨v36, e36, hM⟩ := bind_of hM
        refine g_iaload X e36 dX12_falls_36 ?_
        obtain ⟨w37, e37, hM⟩ := bind_of hM
        refine g_callVv X (fun B adK => [.int v36]) (s_X12_insures e37) cvX12_380 cM_0 rfl rfl (Nat.le_of_ble_eq_true rfl) ⟨by decide, by decide⟩ dX12_falls_37 ?_
        refine g_aload_n X dX12_falls_40 rfl ?_
        refine g_getR X fX12_56 cM_0 rfl dX12_falls_41 ?_
        refine g_bipush X (v := 53) dX12_falls_44 (by decide) ?_
        refine g_iload_n X dX12_falls_46 rfl ?_
        obtain ⟨u47, e47, hM⟩ := bind_of hM
        refine g_iastore X e47 dX12_falls_47 ?_
        refine g_iconst X (v := 0) dX12_falls_48 (by decide) ?_
        refine g_istore_n X [some (.ref (B + 0)), some (.int x1), some (.int x2), some (.int 0), none, none] dX12_falls_49 (by decide) rfl ?_
        refine g_mk [true, true, true, true, false, false] [some (.ref (B + 0)), some (.int x1), some (.int x2), some (.int 0), none, none] rfl ?_
        exact v_X12_falls_l50 X  fz hM
      · rw [if_pos c25] at hM
        refine g_mk [false, false, false, false, false, false] [none, none, none, none, none, none] rfl ?_
        exact v_X12_falls_b28 X  hM
theorem s_X12_falls {x1 : Int32} {x2 : Int32} {u : gM} {w : (Int32 × gM)} (hM : X12_falls x1 x2 u = some w) : gMet skM yX12_falls cX12_falls 6 (some .boolean) 7 178 (fun B adK => [.ref (B + 0), .int x1, .int x2]) u ((fun _ => some (.int w.1)), w.2) := by
  refine gMet.of (by decide) (fun _ _ => Nat.le_of_ble_eq_true rfl) (fun κ B X => ?_)
  have X : gX κ B skM cX12_falls 6 RX12 (some .boolean) 7 178 := X
  refine g_mk [true, true, true, false, false, false] [some (.ref (B + 0)), some (.int x1), some (.int x2), none, none, none] rfl ?_
  exact v_X12_falls X  hM
theorem fr_X12_falls_b28 {S : Nat → Prop} {u0 u : gM}     {w : (Int32 × gM)} (hM : X12_falls_b28 u = some w) (h0 : off S u0 u) : off S u0 w.2 := by
  unfold X12_falls_b28 at hM
  cases hM
  exact h0
theorem fr_X12_falls_b431 {S : Nat → Prop} {u0 u : gM} {x1 : Int32} {x5 : Int32} (hs0 : S 16) {k330 : Int32 → Int32 → gM → Option (Int32 × gM)} (ik330 : ∀ (x1 : Int32) (x5 : Int32) (u : gM) (w : (Int32 × gM)), S 16 → off S u0 u → k330 x1 x5 u = some w → off S u0 w.2) {w : (Int32 × gM)} (hM : X12_falls_b431 k330 x1 x5 u = some w) (h0 : off S u0 u) : off S u0 w.2 := by
  unfold X12_falls_b431 at hM
  exact ik330 _ _ _ _ hs0 h0 hM
theorem fr_X12_falls_b330 {S : Nat → Prop} {u0 u : gM} {x1 : Int32} {x5 : Int32} (hs0 : S 16) {k330 : Int32 → Int32 → gM → Option (Int32 × gM)} (ik330 : ∀ (x1 : Int32) (x5 : Int32) (u : gM) (w : (Int32 × gM)), S 16 → off S u0 u → k330 x1 x5 u = some w → off S u0 w.2) {w : (Int32 × gM)} (hM : X12_falls_b330 k330 x1 x5 u = some w) (h0 : off S u0 u) : off S u0 w.2 := by
  unfold X12_falls_b330 at hM
  by_cases c334 : 96 ≤ x5
  · rw [if_pos c334] at hM
    obtain ⟨v450, e450, hM⟩ := bind_of hM
    obtain ⟨u452, e452, hM⟩ := bind_of hM
    have h0 := off_sI hs0 e452 h0
    obtain ⟨u462, e462, hM⟩ := bind_of hM
    have h0 := off_sI hs0 e462 h0
    cases hM
    exact h0
  · rw [if_neg c334] at hM
    obtain ⟨v346, e346, hM⟩ := bind_of hM
    by_cases c348 : v346 = (-1)
    · rw [if_pos c348] at hM
      exact fr_X12_falls_b431 hs0 ik330 hM h0
    · rw [if_neg c348] at hM
      obtain ⟨v370, e370, hM⟩ := bind_of hM
      obtain ⟨u372, e372, hM⟩ := bind_of hM
      have h0 := off_sI hs0 e372 h0
      obtain ⟨v389, e389, hM⟩ := bind_of hM
      obtain ⟨u391, e391, hM⟩ := bind_of hM
      have h0 := off_sI hs0 e391 h0
      obtain ⟨v408, e408, hM⟩ := bind_of hM
      obtain ⟨v415, e415, hM⟩ := bind_of hM
      obtain ⟨u418, e418, hM⟩ := bind_of hM
      have h0 := off_sI hs0 e418 h0
      obtain ⟨u430, e430, hM⟩ := bind_of hM
      have h0 := off_sI hs0 e430 h0
      exact fr_X12_falls_b431 hs0 ik330 hM h0
theorem fr_X12_falls_l330 {S : Nat → Prop} {u0 : gM}   : ∀ (n : Nat) {x1 : Int32} {x5 : Int32} (hs0 : S 16) {u : gM} {w : (Int32 × gM)} (h0 : off S u0 u) (hM : X12_falls_l330  n x1 x5 u = some w), off S u0 w.2 := by
  intro n
  induction n with
  | zero => intro x1 x5 hs0 u w h0 hM; exact nomatch (show (none : Option (Int32 × gM)) = some w from hM)
  | succ n ihn => intro x1 x5 hs0 u w h0 hM; exact fr_X12_falls_b330 hs0  (fun x1 x5 _ _ hs0 h0 h => ihn hs0 h0 h) hM h0
theorem fr_X12_falls_b274 {S : Nat → Prop} {u0 u : gM} {x1 : Int32} {x2 : Int32} {x3 : Int64} {x5 : Int32} (hs0 : S 16) (hs1 : S 21) (hs2 : S 22) (hs3 : S 23) {k274 : Int32 → Int32 → Int64 → Int32 → gM → Option (Int32 × gM)} (ik274 : ∀ (x1 : Int32) (x2 : Int32) (x3 : Int64) (x5 : Int32) (u : gM) (w : (Int32 × gM)), S 16 → S 21 → S 22 → S 23 → off S u0 u → k274 x1 x2 x3 x5 u = some w → off S u0 w.2) {w : (Int32 × gM)} (hM : X12_falls_b274 k274 x1 x2 x3 x5 u = some w) (h0 : off S u0 u) : off S u0 w.2 := by
  unfold X12_falls_b274 at hM
  by_cases c278 : 96 ≤ x5
  · rw [if_pos c278] at hM
    obtain ⟨u318, e318, hM⟩ := bind_of hM
    have h0 := off_sJ hs1 e318 h0
    obtain ⟨w324, e324, hM⟩ := bind_of hM
    have h0 := fr_X12_divides hs2 hs3 e324 h0
    exact fr_X12_falls_l330  fz hs0 h0 hM
  · rw [if_neg c278] at hM
    obtain ⟨v293, e293, hM⟩ := bind_of hM
    obtain ⟨u294, e294, hM⟩ := bind_of hM
    have h0 := off_sJ hs1 e294 h0
    obtain ⟨v302, e302, hM⟩ := bind_of hM
    exact ik274 _ _ _ _ _ _ hs0 hs1 hs2 hs3 h0 hM
theorem fr_X12_falls_l274 {S : Nat → Prop} {u0 : gM}   : ∀ (n : Nat) {x1 : Int32} {x2 : Int32} {x3 : Int64} {x5 : Int32} (hs0 : S 16) (hs1 : S 21) (hs2 : S 22) (hs3 : S 23) {u : gM} {w : (Int32 × gM)} (h0 : off S u0 u) (hM : X12_falls_l274  n x1 x2 x3 x5 u = some w), off S u0 w.2 := by
  intro n
  induction n with
  | zero => intro x1 x2 x3 x5 hs0 hs1 hs2 hs3 u w h0 hM; exact nomatch (show (none : Option (Int32 × gM)) = some w from hM)
  | succ n ihn => intro x1 x2 x3 x5 hs0 hs1 hs2 hs3 u w h0 hM; exact fr_X12_falls_b274 hs0 hs1 hs2 hs3  (fun x1 x2 x3 x5 _ _ hs0 hs1 hs2 hs3 h0 h => ihn hs0 hs1 hs2 hs3 h0 h) hM h0
theorem fr_X12_falls_b263 {S : Nat → Prop} {u0 u : gM} {x1 : Int32} {x2 : Int32} {x3 : Int32} (hs0 : S 16) (hs1 : S 21) (hs2 : S 22) (hs3 : S 23) (hs4 : S 25) (hs5 : S 26) {k218 : Int32 → Int32 → Int32 → gM → Option (Int32 × gM)} (ik218 : ∀ (x1 : Int32) (x2 : Int32) (x3 : Int32) (u : gM) (w : (Int32 × gM)), S 16 → S 21 → S 22 → S 23 → S 25 → S 26 → off S u0 u → k218 x1 x2 x3 u = some w → off S u0 w.2) {w : (Int32 × gM)} (hM : X12_falls_b263 k218 x1 x2 x3 u = some w) (h0 : off S u0 u) : off S u0 w.2 := by
  unfold X12_falls_b263 at hM
  exact ik218 _ _ _ _ _ hs0 hs1 hs2 hs3 hs4 hs5 h0 hM
theorem fr_X12_falls_b218 {S : Nat → Prop} {u0 u : gM} {x1 : Int32} {x2 : Int32} {x3 : Int32} (hs0 : S 16) (hs1 : S 21) (hs2 : S 22) (hs3 : S 23) (hs4 : S 25) (hs5 : S 26) {k218 : Int32 → Int32 → Int32 → gM → Option (Int32 × gM)} (ik218 : ∀ (x1 : Int32) (x2 : Int32) (x3 : Int32) (u : gM) (w : (Int32 × gM)), S 16 → S 21 → S 22 → S 23 → S 25 → S 26 → off S u0 u → k218 x1 x2 x3 u = some w → off S u0 w.2) {w : (Int32 × gM)} (hM : X12_falls_b218 k218 x1 x2 x3 u = some w) (h0 : off S u0 u) : off S u0 w.2 := by
  unfold X12_falls_b218 at hM
  obtain ⟨v224, e224, hM⟩ := bind_of hM
  by_cases c225 : v224 ≤ x3
  · rw [if_pos c225] at hM
    exact fr_X12_falls_l274  fz hs0 hs1 hs2 hs3 h0 hM
  · rw [if_neg c225] at hM
    obtain ⟨v234, e234, hM⟩ := bind_of hM
    obtain ⟨w235, e235, hM⟩ := bind_of hM
    by_cases c239 : w235 = x1
    · rw [if_pos c239] at hM
      obtain ⟨w251, e251, hM⟩ := bind_of hM
      have h0 := fr_X12_setsOff hs0 hs5 e251 h0
      obtain ⟨w260, e260, hM⟩ := bind_of hM
      have h0 := fr_X12_setsOff hs0 hs4 e260 h0
      exact fr_X12_falls_b263 hs0 hs1 hs2 hs3 hs4 hs5 ik218 hM h0
    · rw [if_neg c239] at hM
      exact fr_X12_falls_b263 hs0 hs1 hs2 hs3 hs4 hs5 ik218 hM h0
theorem fr_X12_falls_l218 {S : Nat → Prop} {u0 : gM}   : ∀ (n : Nat) {x1 : Int32} {x2 : Int32} {x3 : Int32} (hs0 : S 16) (hs1 : S 21) (hs2 : S 22) (hs3 : S 23) (hs4 : S 25) (hs5 : S 26) {u : gM} {w : (Int32 × gM)} (h0 : off S u0 u) (hM : X12_falls_l218  n x1 x2 x3 u = some w), off S u0 w.2 := by
  intro n
  induction n with
  | zero => intro x1 x2 x3 hs0 hs1 hs2 hs3 hs4 hs5 u w h0 hM; exact nomatch (show (none : Option (Int32 × gM)) = some w from hM)
  | succ n ihn => intro x1 x2 x3 hs0 hs1 hs2 hs3 hs4 hs5 u w h0 hM; exact fr_X12_falls_b218 hs0 hs1 hs2 hs3 hs4 hs5  (fun x1 x2 x3 _ _ hs0 hs1 hs2 hs3 hs4 hs5 h0 h => ihn hs0 hs1 hs2 hs3 hs4 hs5 h0 h) hM h0
theorem fr_X12_falls_b176 {S : Nat → Prop} {u0 u : gM} {x1 : Int32} {x2 : Int32} {x3 : Int32} {s1 : Int32} {s2 : Int32} (hs0 : S 16) (hs1 : S 21) (hs2 : S 22) (hs3 : S 23) (hs4 : S 25) (hs5 : S 26) {k50 : Int32 → Int32 → Int32 → gM → Option (Int32 × gM)} (ik50 : ∀ (x1 : Int32) (x2 : Int32) (x3 : Int32) (u : gM) (w : (Int32 × gM)), S 16 → S 21 → S 22 → S 23 → S 25 → S 26 → off S u0 u → k50 x1 x2 x3 u = some w → off S u0 w.2) {w : (Int32 × gM)} (hM : X12_falls_b176 k50 x1 x2 x3 s1 s2 u = some w) (h0 : off S u0 u) : off S u0 w.2 := by
  unfold X12_falls_b176 at hM
  obtain ⟨u176, e176, hM⟩ := bind_of hM
  have h0 := off_sI hs0 e176 h0
  obtain ⟨u187, e187, hM⟩ := bind_of hM
  have h0 := off_sI hs0 e187 h0
  obtain ⟨u198, e198, hM⟩ := bind_of hM
  have h0 := off_sI hs0 e198 h0
  obtain ⟨u209, e209, hM⟩ := bind_of hM
  have h0 := off_sI hs0 e209 h0
  exact ik50 _ _ _ _ _ hs0 hs1 hs2 hs3 hs4 hs5 h0 hM
theorem fr_X12_falls_b157 {S : Nat → Prop} {u0 u : gM} {x1 : Int32} {x2 : Int32} {x3 : Int32} {x5 : Int32} {s1 : Int32} {s2 : Int64} (hs0 : S 16) (hs1 : S 21) (hs2 : S 22) (hs3 : S 23) (hs4 : S 25) (hs5 : S 26) {k50 : Int32 → Int32 → Int32 → gM → Option (Int32 × gM)} (ik50 : ∀ (x1 : Int32) (x2 : Int32) (x3 : Int32) (u : gM) (w : (Int32 × gM)), S 16 → S 21 → S 22 → S 23 → S 25 → S 26 → off S u0 u → k50 x1 x2 x3 u = some w → off S u0 w.2) {w : (Int32 × gM)} (hM : X12_falls_b157 k50 x1 x2 x3 x5 s1 s2 u = some w) (h0 : off S u0 u) : off S u0 w.2 := by
  unfold X12_falls_b157 at hM
  obtain ⟨u157, e157, hM⟩ := bind_of hM
  have h0 := off_sJ hs5 e157 h0
  by_cases c168 : x5 = 0
  · rw [if_pos c168] at hM
    exact fr_X12_falls_b176 hs0 hs1 hs2 hs3 hs4 hs5 ik50 hM h0
  · rw [if_neg c168] at hM
    exact fr_X12_falls_b176 hs0 hs1 hs2 hs3 hs4 hs5 ik50 hM h0
theorem fr_X12_falls_b125 {S : Nat → Prop} {u0 u : gM} {x1 : Int32} {x2 : Int32} {x3 : Int32} {x4 : Int32} {x5 : Int32} {s1 : Int32} {s2 : Int64} (hs0 : S 16) (hs1 : S 21) (hs2 : S 22) (hs3 : S 23) (hs4 : S 25) (hs5 : S 26) {k50 : Int32 → Int32 → Int32 → gM → Option (Int32 × gM)} (ik50 : ∀ (x1 : Int32) (x2 : Int32) (x3 : Int32) (u : gM) (w : (Int32 × gM)), S 16 → S 21 → S 22 → S 23 → S 25 → S 26 → off S u0 u → k50 x1 x2 x3 u = some w → off S u0 w.2) {w : (Int32 × gM)} (hM : X12_falls_b125 k50 x1 x2 x3 x4 x5 s1 s2 u = some w) (h0 : off S u0 u) : off S u0 w.2 := by
  unfold X12_falls_b125 at hM
  obtain ⟨u125, e125, hM⟩ := bind_of hM
  have h0 := off_sJ hs4 e125 h0
  by_cases c133 : x5 = 0
  · rw [if_pos c133] at hM
    exact fr_X12_falls_b157 hs0 hs1 hs2 hs3 hs4 hs5 ik50 hM h0
  · rw [if_neg c133] at hM
    obtain ⟨w142, e142, hM⟩ := bind_of hM
    obtain ⟨v151, e151, hM⟩ := bind_of hM
    exact fr_X12_falls_b157 hs0 hs1 hs2 hs3 hs4 hs5 ik50 hM h0
theorem fr_X12_falls_b103 {S : Nat → Prop} {u0 u : gM} {x1 : Int32} {x2 : Int32} {x3 : Int32} {x4 : Int32} {s0 : Int32} (hs0 : S 16) (hs1 : S 21) (hs2 : S 22) (hs3 : S 23) (hs4 : S 25) (hs5 : S 26) {k50 : Int32 → Int32 → Int32 → gM → Option (Int32 × gM)} (ik50 : ∀ (x1 : Int32) (x2 : Int32) (x3 : Int32) (u : gM) (w : (Int32 × gM)), S 16 → S 21 → S 22 → S 23 → S 25 → S 26 → off S u0 u → k50 x1 x2 x3 u = some w → off S u0 w.2) {w : (Int32 × gM)} (hM : X12_falls_b103 k50 x1 x2 x3 x4 s0 u = some w) (h0 : off S u0 u) : off S u0 w.2 := by
  unfold X12_falls_b103 at hM
  by_cases c112 : s0 = 0
  · rw [if_pos c112] at hM
    exact fr_X12_falls_b125 hs0 hs1 hs2 hs3 hs4 hs5 ik50 hM h0
  · rw [if_neg c112] at hM
    obtain ⟨v120, e120, hM⟩ := bind_of hM
    exact fr_X12_falls_b125 hs0 hs1 hs2 hs3 hs4 hs5 ik50 hM h0
theorem fr_X12_falls_b102 {S : Nat → Prop} {u0 u : gM} {x1 : Int32} {x2 : Int32} {x3 : Int32} {x4 : Int32} (hs0 : S 16) (hs1 : S 21) (hs2 : S 22) (hs3 : S 23) (hs4 : S 25) (hs5 : S 26) {k50 : Int32 → Int32 → Int32 → gM → Option (Int32 × gM)} (ik50 : ∀ (x1 : Int32) (x2 : Int32) (x3 : Int32) (u : gM) (w : (Int32 × gM)), S 16 → S 21 → S 22 → S 23 → S 25 → S 26 → off S u0 u → k50 x1 x2 x3 u = some w → off S u0 w.2) {w : (Int32 × gM)} (hM : X12_falls_b102 k50 x1 x2 x3 x4 u = some w) (h0 : off S u0 u) : off S u0 w.2 := by
  unfold X12_falls_b102 at hM
  exact fr_X12_falls_b103 hs0 hs1 hs2 hs3 hs4 hs5 ik50 hM h0
theorem fr_X12_falls_b50 {S : Nat → Prop} {u0 u : gM} {x1 : Int32} {x2 : Int32} {x3 : Int32} (hs0 : S 16) (hs1 : S 21) (hs2 : S 22) (hs3 : S 23) (hs4 : S 25) (hs5 : S 26) {k50 : Int32 → Int32 → Int32 → gM → Option (Int32 × gM)} (ik50 : ∀ (x1 : Int32) (x2 : Int32) (x3 : Int32) (u : gM) (w : (Int32 × gM)), S 16 → S 21 → S 22 → S 23 → S 25 → S 26 → off S u0 u → k50 x1 x2 x3 u = some w → off S u0 w.2) {w : (Int32 × gM)} (hM : X12_falls_b50 k50 x1 x2 x3 u = some w) (h0 : off S u0 u) : off S u0 w.2 := by
  unfold X12_falls_b50 at hM
  by_cases c53 : 96 ≤ x3
  · rw [if_pos c53] at hM
    exact fr_X12_falls_l218  fz hs0 hs1 hs2 hs3 hs4 hs5 h0 hM
  · rw [if_neg c53] at hM
    obtain ⟨w64, e64, hM⟩ := bind_of hM
    by_cases c67 : w64 = 0
    · rw [if_pos c67] at hM
      exact fr_X12_falls_b102 hs0 hs1 hs2 hs3 hs4 hs5 ik50 hM h0
    · rw [if_neg c67] at hM
      obtain ⟨v77, e77, hM⟩ := bind_of hM
      obtain ⟨w78, e78, hM⟩ := bind_of hM
      by_cases c82 : w78 = x1
      · rw [if_pos c82] at hM
        obtain ⟨v94, e94, hM⟩ := bind_of hM
        by_cases c95 : v94 ≤ (x3 - x3 / 4 * 4)
        · rw [if_pos c95] at hM
          exact fr_X12_falls_b102 hs0 hs1 hs2 hs3 hs4 hs5 ik50 hM h0
        · rw [if_neg c95] at hM
          exact fr_X12_falls_b103 hs0 hs1 hs2 hs3 hs4 hs5 ik50 hM h0
      · rw [if_neg c82] at hM
        exact fr_X12_falls_b102 hs0 hs1 hs2 hs3 hs4 hs5 ik50 hM h0
theorem fr_X12_falls_l50 {S : Nat → Prop} {u0 : gM}   : ∀ (n : Nat) {x1 : Int32} {x2 : Int32} {x3 : Int32} (hs0 : S 16) (hs1 : S 21) (hs2 : S 22) (hs3 : S 23) (hs4 : S 25) (hs5 : S 26) {u : gM} {w : (Int32 × gM)} (h0 : off S u0 u) (hM : X12_falls_l50  n x1 x2 x3 u = some w), off S u0 w.2 := by
  intro n
  induction n with
  | zero => intro x1 x2 x3 hs0 hs1 hs2 hs3 hs4 hs5 u w h0 hM; exact nomatch (show (none : Option (Int32 × gM)) = some w from hM)
  | succ n ihn => intro x1 x2 x3 hs0 hs1 hs2 hs3 hs4 hs5 u w h0 hM; exact fr_X12_falls_b50 hs0 hs1 hs2 hs3 hs4 hs5  (fun x1 x2 x3 _ _ hs0 hs1 hs2 hs3 hs4 hs5 h0 h => ihn hs0 hs1 hs2 hs3 hs4 hs5 h0 h) hM h0
theorem fr_X12_falls {S : Nat → Prop} {u0 u : gM} {x1 : Int32} {x2 : Int32} (hs0 : S 16) (hs1 : S 20) (hs2 : S 21) (hs3 : S 22) (hs4 : S 23) (hs5 : S 24) (hs6 : S 25) (hs7 : S 26)   {w : (Int32 × gM)} (hM : X12_falls x1 x2 u = some w) (h0 : off S u0 u) : off S u0 w.2 := by
  unfold X12_falls at hM
  obtain ⟨w2, e2, hM⟩ := bind_of hM
  by_cases c5 : w2 = 0
  · rw [if_pos c5] at hM
    exact fr_X12_falls_b28   hM h0
  · rw [if_neg c5] at hM
    obtain ⟨w10, e10, hM⟩ := bind_of hM
    by_cases c13 : w10 = 0
    · rw [if_pos c13] at hM
      exact fr_X12_falls_b28   hM h0
    · rw [if_neg c13] at hM
      obtain ⟨w22, e22, hM⟩ := bind_of hM
      by_cases c25 : w22 = 0
      · rw [if_pos c25] at hM
        exact fr_X12_falls_b28   hM h0
      · rw [if_neg c25] at hM
        obtain ⟨v36, e36, hM⟩ := bind_of hM
        obtain ⟨w37, e37, hM⟩ := bind_of hM
        have h0 := fr_X12_insures hs1 hs2 hs3 hs4 hs5 e37 h0
        obtain ⟨u47, e47, hM⟩ := bind_of hM
        have h0 := off_sI hs0 e47 h0
        exact fr_X12_falls_l50  fz hs0 hs2 hs3 hs4 hs6 hs7 h0 hM
/-! CoverDeskModel.does(I)Z -/
theorem dX12_does_0 : decode cX12_does 0 = .ok (.aload_n 0, 1) := by decide +kernel
theorem dX12_does_1 : decode cX12_does 1 = .ok (.getfield 99, 3) := by decide +kernel
theorem dX12_does_4 : decode cX12_does 4 = .ok (.iconst 3, 1) := by decide +kernel
theorem dX12_does_5 : decode cX12_does 5 = .ok (.iload_n 1, 1) := by decide +kernel
theorem dX12_does_6 : decode cX12_does 6 = .ok (.imul, 1) := by decide +kernel
theorem dX12_does_7 : decode cX12_does 7 = .ok (.iconst 1, 1) := by decide +kernel
theorem dX12_does_8 : decode cX12_does 8 = .ok (.iadd, 1) := by decide +kernel
theorem dX12_does_9 : decode cX12_does 9 = .ok (.iaload, 1) := by decide +kernel
theorem dX12_does_10 : decode cX12_does 10 = .ok (.istore_n 2, 1) := by decide +kernel
theorem dX12_does_11 : decode cX12_does 11 = .ok (.aload_n 0, 1) := by decide +kernel
theorem dX12_does_12 : decode cX12_does 12 = .ok (.getfield 99, 3) := by decide +kernel
theorem dX12_does_15 : decode cX12_does 15 = .ok (.iconst 3, 1) := by decide +kernel
theorem dX12_does_16 : decode cX12_does 16 = .ok (.iload_n 1, 1) := by decide +kernel
theorem dX12_does_17 : decode cX12_does 17 = .ok (.imul, 1) := by decide +kernel
theorem dX12_does_18 : decode cX12_does 18 = .ok (.iconst 2, 1) := by decide +kernel
theorem dX12_does_19 : decode cX12_does 19 = .ok (.iadd, 1) := by decide +kernel
theorem dX12_does_20 : decode cX12_does 20 = .ok (.iaload, 1) := by decide +kernel
theorem dX12_does_21 : decode cX12_does 21 = .ok (.istore_n 3, 1) := by decide +kernel
theorem dX12_does_22 : decode cX12_does 22 = .ok (.aload_n 0, 1) := by decide +kernel
theorem dX12_does_23 : decode cX12_does 23 = .ok (.getfield 99, 3) := by decide +kernel
theorem dX12_does_26 : decode cX12_does 26 = .ok (.iconst 3, 1) := by decide +kernel
theorem dX12_does_27 : decode cX12_does 27 = .ok (.iload_n 1, 1) := by decide +kernel
theorem dX12_does_28 : decode cX12_does 28 = .ok (.imul, 1) := by decide +kernel
theorem dX12_does_29 : decode cX12_does 29 = .ok (.iaload, 1) := by decide +kernel
theorem dX12_does_30 : decode cX12_does 30 = .ok (.tableswitch 68 0 4 #[34, 41, 48, 55, 61], 34) := by decide +kernel
theorem dX12_does_64 : decode cX12_does 64 = .ok (.aload_n 0, 1) := by decide +kernel
theorem dX12_does_65 : decode cX12_does 65 = .ok (.iload_n 2, 1) := by decide +kernel
theorem dX12_does_66 : decode cX12_does 66 = .ok (.iload_n 3, 1) := by decide +kernel
theorem dX12_does_67 : decode cX12_does 67 = .ok (.invokevirtual 393, 3) := by decide +kernel
theorem dX12_does_70 : decode cX12_does 70 = .ok (.ireturn, 1) := by decide +kernel
theorem dX12_does_71 : decode cX12_does 71 = .ok (.aload_n 0, 1) := by decide +kernel
theorem dX12_does_72 : decode cX12_does 72 = .ok (.iload_n 2, 1) := by decide +kernel
theorem dX12_does_73 : decode cX12_does 73 = .ok (.iload_n 3, 1) := by decide +kernel
theorem dX12_does_74 : decode cX12_does 74 = .ok (.invokevirtual 401, 3) := by decide +kernel
theorem dX12_does_77 : decode cX12_does 77 = .ok (.ireturn, 1) := by decide +kernel
theorem dX12_does_78 : decode cX12_does 78 = .ok (.aload_n 0, 1) := by decide +kernel
theorem dX12_does_79 : decode cX12_does 79 = .ok (.iload_n 2, 1) := by decide +kernel
theorem dX12_does_80 : decode cX12_does 80 = .ok (.iload_n 3, 1) := by decide +kernel
theorem dX12_does_81 : decode cX12_does 81 = .ok (.invokevirtual 404, 3) := by decide +kernel
theorem dX12_does_84 : decode cX12_does 84 = .ok (.ireturn, 1) := by decide +kernel
theorem dX12_does_85 : decode cX12_does 85 = .ok (.aload_n 0, 1) := by decide +kernel
theorem dX12_does_86 : decode cX12_does 86 = .ok (.iload_n 2, 1) := by decide +kernel
theorem dX12_does_87 : decode cX12_does 87 = .ok (.invokevirtual 407, 3) := by decide +kernel
theorem dX12_does_90 : decode cX12_does 90 = .ok (.ireturn, 1) := by decide +kernel
theorem dX12_does_91 : decode cX12_does 91 = .ok (.aload_n 0, 1) := by decide +kernel
theorem dX12_does_92 : decode cX12_does 92 = .ok (.iload_n 2, 1) := by decide +kernel
theorem dX12_does_93 : decode cX12_does 93 = .ok (.iload_n 3, 1) := by decide +kernel
theorem dX12_does_94 : decode cX12_does 94 = .ok (.invokevirtual 410, 3) := by decide +kernel
theorem dX12_does_97 : decode cX12_does 97 = .ok (.ireturn, 1) := by decide +kernel
theorem dX12_does_98 : decode cX12_does 98 = .ok (.aload_n 0, 1) := by decide +kernel
theorem dX12_does_99 : decode cX12_does 99 = .ok (.iload_n 2, 1) := by decide +kernel
theorem dX12_does_100 : decode cX12_does 100 = .ok (.iload_n 3, 1) := by decide +kernel
theorem dX12_does_101 : decode cX12_does 101 = .ok (.invokevirtual 413, 3) := by decide +kernel
theorem dX12_does_104 : decode cX12_does 104 = .ok (.ireturn, 1) := by decide +kernel
def X12_does  (x1 : Int32) (u : gM) : Option (Int32 × gM) :=
((aI skM u 27 ((3 * x1) + 1)).bind fun v9 => ((aI skM u 27 ((3 * x1) + 2)).bind fun v20 => ((aI skM u 27 (3 * x1)).bind fun v29 => (if v29 = 0 then ((X12_puts v9 v20 u).bind fun w67 => ((bI w67.1).bind fun v70 => some (v70, w67.2)))
  else (if v29 = 1 then ((X12_takesFrom v9 v20 u).bind fun w74 => ((bI w74.1).bind fun v77 => some (v77, w74.2)))
  else (if v29 = 2 then ((X12_merges v9 v20 u).bind fun w81 => ((bI w81.1).bind fun v84 => some (v84, w81.2)))
  else (if v29 = 3 then ((X12_passes v9 u).bind fun w87 => ((bI w87.1).bind fun v90 => some (v90, w87.2)))
  else (if v29 = 4 then ((X12_pays v9 v20 u).bind fun w94 => ((bI w94.1).bind fun v97 => some (v97, w94.2)))
  else ((X12_falls v9 v20 u).bind fun w101 => ((bI w101.1).bind fun v104 => some (v104, w101.2)))))))))))
set_option maxRecDepth 20000 in
theorem v_X12_does {κ : gK} {B : Nat} {u : gM} (X : gX κ B skM cX12_does 4 RX12 (some .boolean) 8 203)   {x1 : Int32} {w : (Int32 × gM)} (hM : X12_does x1 u = some w) : gV κ B skM 4 ((some (.int w.1)), w.2) 0 [some (.ref (B + 0)), some (.int x1), none, none] [] u := by
  unfold X12_does at hM
  refine g_aload_n X dX12_does_0 rfl ?_
  refine g_getR X fX12_99 cM_0 rfl dX12_does_1 ?_
  refine g_iconst X (v := 3) dX12_does_4 (by decide) ?_
  refine g_iload_n X dX12_does_5 rfl ?_
  refine g_imul X dX12_does_6 ?_
  refine g_iconst X (v := 1) dX12_does_7 (by decide) ?_
  refine g_iadd X dX12_does_8 ?_
  obtain ⟨v9, e9, hM⟩ := bind_of hM
  refine g_iaload X e9 dX12_does_9 ?_
  refine g_istore_n X [some (.ref (B + 0)), some (.int x1), some (.int v9), none] dX12_does_10 (by decide) rfl ?_
  refine g_aload_n X dX12_does_11 rfl ?_
  refine g_getR X fX12_99 cM_0 rfl dX12_does_12 ?_
  refine g_iconst X (v := 3) dX12_does_15 (by decide) ?_
  refine g_iload_n X dX12_does_16 rfl ?_
  refine g_imul X dX12_does_17 ?_
  refine g_iconst X (v := 2) dX12_does_18 (by decide) ?_
  refine g_iadd X dX12_does_19 ?_
  obtain ⟨v20, e20, hM⟩ := bind_of hM
  refine g_iaload X e20 dX12_does_20 ?_
  refine g_istore_n X [some (.ref (B + 0)), some (.int x1), some (.int v9), some (.int v20)] dX12_does_21 (by decide) rfl ?_
  refine g_aload_n X dX12_does_22 rfl ?_
  refine g_getR X fX12_99 cM_0 rfl dX12_does_23 ?_
  refine g_iconst X (v := 3) dX12_does_26 (by decide) ?_
  refine g_iload_n X dX12_does_27 rfl ?_
  refine g_imul X dX12_does_28 ?_
  obtain ⟨v29, e29, hM⟩ := bind_of hM
  refine g_iaload X e29 dX12_does_29 ?_
  by_cases h30_0 : v29 = 0
  · rw [if_pos h30_0] at hM
    refine g_tabIn (tgt := 64) (off := 34) X 0 h30_0 dX12_does_30 (by decide) (by decide) (by decide) (by decide) ?_
    refine g_aload_n X dX12_does_64 rfl ?_
    refine g_iload_n X dX12_does_65 rfl ?_
    refine g_iload_n X dX12_does_66 rfl ?_
    obtain ⟨w67, e67, hM⟩ := bind_of hM
    refine g_callVi X (fun B adK => [.int v9, .int v20]) (s_X12_puts e67) cvX12_393 cM_0 rfl rfl (Nat.le_of_ble_eq_true rfl) ⟨by decide, by decide⟩ dX12_does_67 ?_
    obtain ⟨v70, e70, hM⟩ := bind_of hM
    obtain ⟨hv, rfl⟩ := bI_of e70
    cases hM
    exact g_zret X hv dX12_does_70
  rw [if_neg h30_0] at hM
  by_cases h30_1 : v29 = 1
  · rw [if_pos h30_1] at hM
    refine g_tabIn (tgt := 71) (off := 41) X 1 h30_1 dX12_does_30 (by decide) (by decide) (by decide) (by decide) ?_
    refine g_aload_n X dX12_does_71 rfl ?_
    refine g_iload_n X dX12_does_72 rfl ?_
    refine g_iload_n X dX12_does_73 rfl ?_
    obtain ⟨w74, e74, hM⟩ := bind_of hM
    refine g_callVi X (fun B adK => [.int v9, .int v20]) (s_X12_takesFrom e74) cvX12_401 cM_0 rfl rfl (Nat.le_of_ble_eq_true rfl) ⟨by decide, by decide⟩ dX12_does_74 ?_
    obtain ⟨v77, e77, hM⟩ := bind_of hM
    obtain ⟨hv, rfl⟩ := bI_of e77
    cases hM
    exact g_zret X hv dX12_does_77
  rw [if_neg h30_1] at hM
  by_cases h30_2 : v29 = 2
  · rw [if_pos h30_2] at hM
    refine g_tabIn (tgt := 78) (off := 48) X 2 h30_2 dX12_does_30 (by decide) (by decide) (by decide) (by decide) ?_
    refine g_aload_n X dX12_does_78 rfl ?_
    refine g_iload_n X dX12_does_79 rfl ?_
    refine g_iload_n X dX12_does_80 rfl ?_
    obtain ⟨w81, e81, hM⟩ := bind_of hM
    refine g_callVi X (fun B adK => [.int v9, .int v20]) (s_X12_merges e81) cvX12_404 cM_0 rfl rfl (Nat.le_of_ble_eq_true rfl) ⟨by decide, by decide⟩ dX12_does_81 ?_
    obtain ⟨v84, e84, hM⟩ := bind_of hM
    obtain ⟨hv, rfl⟩ := bI_of e84
    cases hM
    exact g_zret X hv dX12_does_84
  rw [if_neg h30_2] at hM
  by_cases h30_3 : v29 = 3
  · rw [if_pos h30_3] at hM
    refine g_tabIn (tgt := 85) (off := 55) X 3 h30_3 dX12_does_30 (by decide) (by decide) (by decide) (by decide) ?_
    refine g_aload_n X dX12_does_85 rfl ?_
    refine g_iload_n X dX12_does_86 rfl ?_
    obtain ⟨w87, e87, hM⟩ := bind_of hM
    refine g_callVi X (fun B adK => [.int v9]) (s_X12_passes e87) cvX12_407 cM_0 rfl rfl (Nat.le_of_ble_eq_true rfl) ⟨by decide, by decide⟩ dX12_does_87 ?_
    obtain ⟨v90, e90, hM⟩ := bind_of hM
    obtain ⟨hv, rfl⟩ := bI_of e90
    cases hM
    exact g_zret X hv dX12_does_90
  rw [if_neg h30_3] at hM
  by_cases h30_4 : v29 = 4
  · rw [if_pos h30_4] at hM
    refine g_tabIn (tgt := 91) (off := 61) X 4 h30_4 dX12_does_30 (by decide) (by decide) (by decide) (by decide) ?_
    refine g_aload_n X dX12_does_91 rfl ?_
    refine g_iload_n X dX12_does_92 rfl ?_
    refine g_iload_n X dX12_does_93 rfl ?_
    obtain ⟨w94, e94, hM⟩ := bind_of hM
    refine g_callVi X (fun B adK => [.int v9, .int v20]) (s_X12_pays e94) cvX12_410 cM_0 rfl rfl (Nat.le_of_ble_eq_true rfl) ⟨by decide, by decide⟩ dX12_does_94 ?_
    obtain ⟨v97, e97, hM⟩ := bind_of hM
    obtain ⟨hv, rfl⟩ := bI_of e97
    cases hM
    exact g_zret X hv dX12_does_97
  rw [if_neg h30_4] at hM
  refine g_tabOut (tgt := 98) X dX12_does_30 (by have q0 := lv_neT (a := 0) h30_0 (by decide); have q1 := lv_neT (a := 1) h30_1 (by decide); have q2 := lv_neT (a := 2) h30_2 (by decide); have q3 := lv_neT (a := 3) h30_3 (by decide); have q4 := lv_neT (a := 4) h30_4 (by decide); omega) (by decide) ?_
  refine g_aload_n X dX12_does_98 rfl ?_
  refine g_iload_n X dX12_does_99 rfl ?_
  refine g_iload_n X dX12_does_100 rfl ?_
  obtain ⟨w101, e101, hM⟩ := bind_of hM
  refine g_callVi X (fun B adK => [.int v9, .int v20]) (s_X12_falls e101) cvX12_413 cM_0 rfl rfl (Nat.le_of_ble_eq_true rfl) ⟨by decide, by decide⟩ dX12_does_101 ?_
  obtain ⟨v104, e104, hM⟩ := bind_of hM
  obtain ⟨hv, rfl⟩ := bI_of e104
  cases hM
  exact g_zret X hv dX12_does_104
theorem s_X12_does {x1 : Int32} {u : gM} {w : (Int32 × gM)} (hM : X12_does x1 u = some w) : gMet skM yX12_does cX12_does 4 (some .boolean) 8 203 (fun B adK => [.ref (B + 0), .int x1]) u ((fun _ => some (.int w.1)), w.2) := by
  refine gMet.of (by decide) (fun _ _ => Nat.le_of_ble_eq_true rfl) (fun κ B X => ?_)
  have X : gX κ B skM cX12_does 4 RX12 (some .boolean) 8 203 := X
  refine g_mk [true, true, false, false] [some (.ref (B + 0)), some (.int x1), none, none] rfl ?_
  exact v_X12_does X  hM
theorem fr_X12_does {S : Nat → Prop} {u0 u : gM} {x1 : Int32} (hs0 : S 16) (hs1 : S 20) (hs2 : S 21) (hs3 : S 22) (hs4 : S 23) (hs5 : S 24) (hs6 : S 25) (hs7 : S 26)   {w : (Int32 × gM)} (hM : X12_does x1 u = some w) (h0 : off S u0 u) : off S u0 w.2 := by
  unfold X12_does at hM
  obtain ⟨v9, e9, hM⟩ := bind_of hM
  obtain ⟨v20, e20, hM⟩ := bind_of hM
  obtain ⟨v29, e29, hM⟩ := bind_of hM
  by_cases h30_0 : v29 = 0
  · rw [if_pos h30_0] at hM
    obtain ⟨w67, e67, hM⟩ := bind_of hM
    have h0 := fr_X12_puts hs0 e67 h0
    obtain ⟨v70, e70, hM⟩ := bind_of hM
    cases hM
    exact h0
  rw [if_neg h30_0] at hM
  by_cases h30_1 : v29 = 1
  · rw [if_pos h30_1] at hM
    obtain ⟨w74, e74, hM⟩ := bind_of hM
    have h0 := fr_X12_takesFrom hs0 e74 h0
    obtain ⟨v77, e77, hM⟩ := bind_of hM
    cases hM
    exact h0
  rw [if_neg h30_1] at hM
  by_cases h30_2 : v29 = 2
  · rw [if_pos h30_2] at hM
    obtain ⟨w81, e81, hM⟩ := bind_of hM
    have h0 := fr_X12_merges hs0 e81 h0
    obtain ⟨v84, e84, hM⟩ := bind_of hM
    cases hM
    exact h0
  rw [if_neg h30_2] at hM
  by_cases h30_3 : v29 = 3
  · rw [if_pos h30_3] at hM
    obtain ⟨w87, e87, hM⟩ := bind_of hM
    have h0 := fr_X12_passes hs0 e87 h0
    obtain ⟨v90, e90, hM⟩ := bind_of hM
    cases hM
    exact h0
  rw [if_neg h30_3] at hM
  by_cases h30_4 : v29 = 4
  · rw [if_pos h30_4] at hM
    obtain ⟨w94, e94, hM⟩ := bind_of hM
    have h0 := fr_X12_pays hs0 e94 h0
    obtain ⟨v97, e97, hM⟩ := bind_of hM
    cases hM
    exact h0
  rw [if_neg h30_4] at hM
  obtain ⟨w101, e101, hM⟩ := bind_of hM
  have h0 := fr_X12_falls hs0 hs1 hs2 hs3 hs4 hs5 hs6 hs7 e101 h0
  obtain ⟨v104, e104, hM⟩ := bind_of hM
  cases hM
  exact h0
/-! CoverDeskModel.keeps()V -/
theorem dX12_keeps_0 : decode cX12_keeps 0 = .ok (.aload_n 0, 1) := by decide +kernel
theorem dX12_keeps_1 : decode cX12_keeps 1 = .ok (.getfield 115, 3) := by decide +kernel
theorem dX12_keeps_4 : decode cX12_keeps 4 = .ok (.bipush 6, 2) := by decide +kernel
theorem dX12_keeps_6 : decode cX12_keeps 6 = .ok (.if_icmp .ne 44, 3) := by decide +kernel
theorem dX12_keeps_9 : decode cX12_keeps 9 = .ok (.iconst 0, 1) := by decide +kernel
theorem dX12_keeps_10 : decode cX12_keeps 10 = .ok (.istore_n 1, 1) := by decide +kernel
theorem dX12_keeps_11 : decode cX12_keeps 11 = .ok (.iload_n 1, 1) := by decide +kernel
theorem dX12_keeps_12 : decode cX12_keeps 12 = .ok (.sipush 2195, 3) := by decide +kernel
theorem dX12_keeps_15 : decode cX12_keeps 15 = .ok (.if_icmp .ge 25, 3) := by decide +kernel
theorem dX12_keeps_18 : decode cX12_keeps 18 = .ok (.aload_n 0, 1) := by decide +kernel
theorem dX12_keeps_19 : decode cX12_keeps 19 = .ok (.getfield 59, 3) := by decide +kernel
theorem dX12_keeps_22 : decode cX12_keeps 22 = .ok (.iload_n 1, 1) := by decide +kernel
theorem dX12_keeps_23 : decode cX12_keeps 23 = .ok (.aload_n 0, 1) := by decide +kernel
theorem dX12_keeps_24 : decode cX12_keeps 24 = .ok (.getfield 59, 3) := by decide +kernel
theorem dX12_keeps_27 : decode cX12_keeps 27 = .ok (.iload_n 1, 1) := by decide +kernel
theorem dX12_keeps_28 : decode cX12_keeps 28 = .ok (.sipush 439, 3) := by decide +kernel
theorem dX12_keeps_31 : decode cX12_keeps 31 = .ok (.iadd, 1) := by decide +kernel
theorem dX12_keeps_32 : decode cX12_keeps 32 = .ok (.iaload, 1) := by decide +kernel
theorem dX12_keeps_33 : decode cX12_keeps 33 = .ok (.iastore, 1) := by decide +kernel
theorem dX12_keeps_34 : decode cX12_keeps 34 = .ok (.iinc 1 1, 3) := by decide +kernel
theorem dX12_keeps_37 : decode cX12_keeps 37 = .ok (.goto (-26), 3) := by decide +kernel
theorem dX12_keeps_40 : decode cX12_keeps 40 = .ok (.aload_n 0, 1) := by decide +kernel
theorem dX12_keeps_41 : decode cX12_keeps 41 = .ok (.dup, 1) := by decide +kernel
theorem dX12_keeps_42 : decode cX12_keeps 42 = .ok (.getfield 115, 3) := by decide +kernel
theorem dX12_keeps_45 : decode cX12_keeps 45 = .ok (.iconst 1, 1) := by decide +kernel
theorem dX12_keeps_46 : decode cX12_keeps 46 = .ok (.isub, 1) := by decide +kernel
theorem dX12_keeps_47 : decode cX12_keeps 47 = .ok (.putfield 115, 3) := by decide +kernel
theorem dX12_keeps_50 : decode cX12_keeps 50 = .ok (.iconst 0, 1) := by decide +kernel
theorem dX12_keeps_51 : decode cX12_keeps 51 = .ok (.istore_n 1, 1) := by decide +kernel
theorem dX12_keeps_52 : decode cX12_keeps 52 = .ok (.iload_n 1, 1) := by decide +kernel
theorem dX12_keeps_53 : decode cX12_keeps 53 = .ok (.sipush 439, 3) := by decide +kernel
theorem dX12_keeps_56 : decode cX12_keeps 56 = .ok (.if_icmp .ge 30, 3) := by decide +kernel
theorem dX12_keeps_59 : decode cX12_keeps 59 = .ok (.aload_n 0, 1) := by decide +kernel
theorem dX12_keeps_60 : decode cX12_keeps 60 = .ok (.getfield 59, 3) := by decide +kernel
theorem dX12_keeps_63 : decode cX12_keeps 63 = .ok (.sipush 439, 3) := by decide +kernel
theorem dX12_keeps_66 : decode cX12_keeps 66 = .ok (.aload_n 0, 1) := by decide +kernel
theorem dX12_keeps_67 : decode cX12_keeps 67 = .ok (.getfield 115, 3) := by decide +kernel
theorem dX12_keeps_70 : decode cX12_keeps 70 = .ok (.imul, 1) := by decide +kernel
theorem dX12_keeps_71 : decode cX12_keeps 71 = .ok (.iload_n 1, 1) := by decide +kernel
theorem dX12_keeps_72 : decode cX12_keeps 72 = .ok (.iadd, 1) := by decide +kernel
theorem dX12_keeps_73 : decode cX12_keeps 73 = .ok (.aload_n 0, 1) := by decide +kernel
theorem dX12_keeps_74 : decode cX12_keeps 74 = .ok (.getfield 62, 3) := by decide +kernel
theorem dX12_keeps_77 : decode cX12_keeps 77 = .ok (.iload_n 1, 1) := by decide +kernel
theorem dX12_keeps_78 : decode cX12_keeps 78 = .ok (.iaload, 1) := by decide +kernel
theorem dX12_keeps_79 : decode cX12_keeps 79 = .ok (.iastore, 1) := by decide +kernel
theorem dX12_keeps_80 : decode cX12_keeps 80 = .ok (.iinc 1 1, 3) := by decide +kernel
theorem dX12_keeps_83 : decode cX12_keeps 83 = .ok (.goto (-31), 3) := by decide +kernel
theorem dX12_keeps_86 : decode cX12_keeps 86 = .ok (.aload_n 0, 1) := by decide +kernel
theorem dX12_keeps_87 : decode cX12_keeps 87 = .ok (.dup, 1) := by decide +kernel
theorem dX12_keeps_88 : decode cX12_keeps 88 = .ok (.getfield 115, 3) := by decide +kernel
theorem dX12_keeps_91 : decode cX12_keeps 91 = .ok (.iconst 1, 1) := by decide +kernel
theorem dX12_keeps_92 : decode cX12_keeps 92 = .ok (.iadd, 1) := by decide +kernel
theorem dX12_keeps_93 : decode cX12_keeps 93 = .ok (.putfield 115, 3) := by decide +kernel
theorem dX12_keeps_96 : decode cX12_keeps 96 = .ok (.return_, 1) := by decide +kernel
def X12_keeps_b52 (k52 : Int32 → gM → Option gM) (x1 : Int32) (u : gM) : Option gM :=
(if 439 ≤ x1 then some (upI u 0 17 ((u.1 0 17) + 1))
  else ((aI skM u 18 x1).bind fun v78 => ((sI skM u 17 ((439 * (u.1 0 17)) + x1) v78).bind fun u79 => (k52 (x1 + 1) u79))))
def X12_keeps_l52  : Nat → Int32 → gM → Option gM
  | 0, _, _ => none
  | n + 1, x1, u => X12_keeps_b52  (X12_keeps_l52  n) x1 u
def X12_keeps_b50   (u : gM) : Option gM :=
(X12_keeps_l52 fz 0 u)
def X12_keeps_b11 (k11 : Int32 → gM → Option gM) (x1 : Int32) (u : gM) : Option gM :=
(if 2195 ≤ x1 then (X12_keeps_b50 (upI u 0 17 ((u.1 0 17) - 1)))
  else ((aI skM u 17 (x1 + 439)).bind fun v32 => ((sI skM u 17 x1 v32).bind fun u33 => (k11 (x1 + 1) u33))))
def X12_keeps_l11  : Nat → Int32 → gM → Option gM
  | 0, _, _ => none
  | n + 1, x1, u => X12_keeps_b11  (X12_keeps_l11  n) x1 u
def X12_keeps   (u : gM) : Option gM :=
(if (u.1 0 17) = 6 then (X12_keeps_l11 fz 0 u)
  else (X12_keeps_b50 u))
set_option maxRecDepth 20000 in
theorem v_X12_keeps_b52 {κ : gK} {B : Nat} {u : gM} (X : gX κ B skM cX12_keeps 2 RX12 none 0 0) {k52 : Int32 → gM → Option gM} (ih52 : ∀ (x1 : Int32) (u : gM) (w : gM), k52 x1 u = some w → gV κ B skM 2 ((none), w) 52 [some (.ref (B + 0)), some (.int x1)] [] u) {x1 : Int32} {w : gM} (hM : X12_keeps_b52 k52 x1 u = some w) : gV κ B skM 2 ((none), w) 52 [some (.ref (B + 0)), some (.int x1)] [] u := by
  unfold X12_keeps_b52 at hM
  refine g_iload_n X dX12_keeps_52 rfl ?_
  refine g_sipush X (v := 439) dX12_keeps_53 (by decide) ?_
  refine g_icmp_ge (tgt := 86) X dX12_keeps_56 (by decide) (fun c56 => ?_) (fun c56 => ?_)
  · rw [if_pos c56] at hM
    refine g_aload_n X dX12_keeps_86 rfl ?_
    refine g_dup X rfl dX12_keeps_87 ?_
    refine g_getI X fX12_115 cM_0 rfl dX12_keeps_88 ?_
    refine g_iconst X (v := 1) dX12_keeps_91 (by decide) ?_
    refine g_iadd X dX12_keeps_92 ?_
    refine g_putI X fX12_115 gc_X12 gp_X12_17 cM_0 rfl dX12_keeps_93 ?_
    cases hM
    exact g_vret X dX12_keeps_96
  · rw [if_neg c56] at hM
    refine g_aload_n X dX12_keeps_59 rfl ?_
    refine g_getR X fX12_59 cM_0 rfl dX12_keeps_60 ?_
    refine g_sipush X (v := 439) dX12_keeps_63 (by decide) ?_
    refine g_aload_n X dX12_keeps_66 rfl ?_
    refine g_getI X fX12_115 cM_0 rfl dX12_keeps_67 ?_
    refine g_imul X dX12_keeps_70 ?_
    refine g_iload_n X dX12_keeps_71 rfl ?_
    refine g_iadd X dX12_keeps_72 ?_
    refine g_aload_n X dX12_keeps_73 rfl ?_
    refine g_getR X fX12_62 cM_0 rfl dX12_keeps_74 ?_
    refine g_iload_n X dX12_keeps_77 rfl ?_
    obtain ⟨v78, e78, hM⟩ := bind_of hM
    refine g_iaload X e78 dX12_keeps_78 ?_
    obtain ⟨u79, e79, hM⟩ := bind_of hM
    refine g_iastore X e79 dX12_keeps_79 ?_
    refine g_iinc (d := 1) X [some (.ref (B + 0)), some (.int (x1 + 1))] dX12_keeps_80 (by decide) rfl (by decide) rfl ?_
    refine g_goto (tgt := 52) X dX12_keeps_83 (by decide) ?_
    refine g_mk [true, true] [some (.ref (B + 0)), some (.int (x1 + 1))] rfl ?_
    exact ih52 (x1 + 1) u79 _ hM
theorem v_X12_keeps_l52 {κ : gK} {B : Nat} (X : gX κ B skM cX12_keeps 2 RX12 none 0 0)   : ∀ (n : Nat) {x1 : Int32} {u : gM} {w : gM} (hM : X12_keeps_l52  n x1 u = some w), gV κ B skM 2 ((none), w) 52 [some (.ref (B + 0)), some (.int x1)] [] u := by
  intro n
  induction n with
  | zero => intro x1 u w hM; exact nomatch (show (none : Option gM) = some w from hM)
  | succ n ihn => intro x1 u w hM; exact v_X12_keeps_b52 X  (fun x1 u w h => ihn h) hM
set_option maxRecDepth 20000 in
theorem v_X12_keeps_b50 {κ : gK} {B : Nat} {u : gM} (X : gX κ B skM cX12_keeps 2 RX12 none 0 0)    {w : gM} (hM : X12_keeps_b50 u = some w) : gV κ B skM 2 ((none), w) 50 [some (.ref (B + 0)), none] [] u := by
  unfold X12_keeps_b50 at hM
  refine g_iconst X (v := 0) dX12_keeps_50 (by decide) ?_
  refine g_istore_n X [some (.ref (B + 0)), some (.int 0)] dX12_keeps_51 (by decide) rfl ?_
  refine g_mk [true, true] [some (.ref (B + 0)), some (.int 0)] rfl ?_
  exact v_X12_keeps_l52 X  fz hM
set_option maxRecDepth 20000 in
theorem v_X12_keeps_b11 {κ : gK} {B : Nat} {u : gM} (X : gX κ B skM cX12_keeps 2 RX12 none 0 0) {k11 : Int32 → gM → Option gM} (ih11 : ∀ (x1 : Int32) (u : gM) (w : gM), k11 x1 u = some w → gV κ B skM 2 ((none), w) 11 [some (.ref (B + 0)), some (.int x1)] [] u) {x1 : Int32} {w : gM} (hM : X12_keeps_b11 k11 x1 u = some w) : gV κ B skM 2 ((none), w) 11 [some (.ref (B + 0)), some (.int x1)] [] u := by
  unfold X12_keeps_b11 at hM
  refine g_iload_n X dX12_keeps_11 rfl ?_
  refine g_sipush X (v := 2195) dX12_keeps_12 (by decide) ?_
  refine g_icmp_ge (tgt := 40) X dX12_keeps_15 (by decide) (fun c15 => ?_) (fun c15 => ?_)
  · rw [if_pos c15] at hM
    refine g_aload_n X dX12_keeps_40 rfl ?_
    refine g_dup X rfl dX12_keeps_41 ?_
    refine g_getI X fX12_115 cM_0 rfl dX12_keeps_42 ?_
    refine g_iconst X (v := 1) dX12_keeps_45 (by decide) ?_
    refine g_isub X dX12_keeps_46 ?_
    refine g_putI X fX12_115 gc_X12 gp_X12_17 cM_0 rfl dX12_keeps_47 ?_
    refine g_mk [true, false] [some (.ref (B + 0)), none] rfl ?_
    exact v_X12_keeps_b50 X  hM
  · rw [if_neg c15] at hM
    refine g_aload_n X dX12_keeps_18 rfl ?_
    refine g_getR X fX12_59 cM_0 rfl dX12_keeps_19 ?_
    refine g_iload_n X dX12_keeps_22 rfl ?_
    refine g_aload_n X dX12_keeps_23 rfl ?_
    refine g_getR X fX12_59 cM_0 rfl dX12_keeps_24 ?_
    refine g_iload_n X dX12_keeps_27 rfl ?_
    refine g_sipush X (v := 439) dX12_keeps_28 (by decide) ?_
    refine g_iadd X dX12_keeps_31 ?_
    obtain ⟨v32, e32, hM⟩ := bind_of hM
    refine g_iaload X e32 dX12_keeps_32 ?_
    obtain ⟨u33, e33, hM⟩ := bind_of hM
    refine g_iastore X e33 dX12_keeps_33 ?_
    refine g_iinc (d := 1) X [some (.ref (B + 0)), some (.int (x1 + 1))] dX12_keeps_34 (by decide) rfl (by decide) rfl ?_
    refine g_goto (tgt := 11) X dX12_keeps_37 (by decide) ?_
    refine g_mk [true, true] [some (.ref (B + 0)), some (.int (x1 + 1))] rfl ?_
    exact ih11 (x1 + 1) u33 _ hM
theorem v_X12_keeps_l11 {κ : gK} {B : Nat} (X : gX κ B skM cX12_keeps 2 RX12 none 0 0)   : ∀ (n : Nat) {x1 : Int32} {u : gM} {w : gM} (hM : X12_keeps_l11  n x1 u = some w), gV κ B skM 2 ((none), w) 11 [some (.ref (B + 0)), some (.int x1)] [] u := by
  intro n
  induction n with
  | zero => intro x1 u w hM; exact nomatch (show (none : Option gM) = some w from hM)
  | succ n ihn => intro x1 u w hM; exact v_X12_keeps_b11 X  (fun x1 u w h => ihn h) hM
set_option maxRecDepth 20000 in
theorem v_X12_keeps {κ : gK} {B : Nat} {u : gM} (X : gX κ B skM cX12_keeps 2 RX12 none 0 0)    {w : gM} (hM : X12_keeps u = some w) : gV κ B skM 2 ((none), w) 0 [some (.ref (B + 0)), none] [] u := by
  unfold X12_keeps at hM
  refine g_aload_n X dX12_keeps_0 rfl ?_
  refine g_getI X fX12_115 cM_0 rfl dX12_keeps_1 ?_
  refine g_bipush X (v := 6) dX12_keeps_4 (by decide) ?_
  refine g_icmp_ne (tgt := 50) X dX12_keeps_6 (by decide) (fun c6 => ?_) (fun c6 => ?_)
  · rw [if_neg c6] at hM
    refine g_mk [true, false] [some (.ref (B + 0)), none] rfl ?_
    exact v_X12_keeps_b50 X  hM
  · rw [if_pos c6] at hM
    refine g_iconst X (v := 0) dX12_keeps_9 (by decide) ?_
    refine g_istore_n X [some (.ref (B + 0)), some (.int 0)] dX12_keeps_10 (by decide) rfl ?_
    refine g_mk [true, true] [some (.ref (B + 0)), some (.int 0)] rfl ?_
    exact v_X12_keeps_l11 X  fz hM
theorem s_X12_keeps  {u : gM} {w : gM} (hM : X12_keeps u = some w) : gMet skM yX12_keeps cX12_keeps 2 none 0 0 (fun B adK => [.ref (B + 0)]) u ((fun _ => none), w) := by
  refine gMet.of (by decide) (fun _ _ => Nat.le_of_ble_eq_true rfl) (fun κ B X => ?_)
  have X : gX κ B skM cX12_keeps 2 RX12 none 0 0 := X
  refine g_mk [true, false] [some (.ref (B + 0)), none] rfl ?_
  exact v_X12_keeps X  hM
theorem fr_X12_keeps_b52 {S : Nat → Prop} {u0 u : gM} {x1 : Int32} (hs0 : S 0) (hs1 : S 17) {k52 : Int32 → gM → Option gM} (ik52 : ∀ (x1 : Int32) (u : gM) (w : gM), S 0 → S 17 → off S u0 u → k52 x1 u = some w → off S u0 w) {w : gM} (hM : X12_keeps_b52 k52 x1 u = some w) (h0 : off S u0 u) : off S u0 w := by
  unfold X12_keeps_b52 at hM
  by_cases c56 : 439 ≤ x1
  · rw [if_pos c56] at hM
    have h0 := off_upI (u := u) (k := 0) (j := 17) (x := ((u.1 0 17) + 1)) hs0 h0
    cases hM
    exact h0
  · rw [if_neg c56] at hM
    obtain ⟨v78, e78, hM⟩ := bind_of hM
    obtain ⟨u79, e79, hM⟩ := bind_of hM
    have h0 := off_sI hs1 e79 h0
    exact ik52 _ _ _ hs0 hs1 h0 hM
theorem fr_X12_keeps_l52 {S : Nat → Prop} {u0 : gM}   : ∀ (n : Nat) {x1 : Int32} (hs0 : S 0) (hs1 : S 17) {u : gM} {w : gM} (h0 : off S u0 u) (hM : X12_keeps_l52  n x1 u = some w), off S u0 w := by
  intro n
  induction n with
  | zero => intro x1 hs0 hs1 u w h0 hM; exact nomatch (show (none : Option gM) = some w from hM)
  | succ n ihn => intro x1 hs0 hs1 u w h0 hM; exact fr_X12_keeps_b52 hs0 hs1  (fun x1 _ _ hs0 hs1 h0 h => ihn hs0 hs1 h0 h) hM h0
theorem fr_X12_keeps_b50 {S : Nat → Prop} {u0 u : gM}  (hs0 : S 0) (hs1 : S 17)   {w : gM} (hM : X12_keeps_b50 u = some w) (h0 : off S u0 u) : off S u0 w := by
  unfold X12_keeps_b50 at hM
  exact fr_X12_keeps_l52  fz hs0 hs1 h0 hM
theorem fr_X12_keeps_b11 {S : Nat → Prop} {u0 u : gM} {x1 : Int32} (hs0 : S 0) (hs1 : S 17) {k11 : Int32 → gM → Option gM} (ik11 : ∀ (x1 : Int32) (u : gM) (w : gM), S 0 → S 17 → off S u0 u → k11 x1 u = some w → off S u0 w) {w : gM} (hM : X12_keeps_b11 k11 x1 u = some w) (h0 : off S u0 u) : off S u0 w := by
  unfold X12_keeps_b11 at hM
  by_cases c15 : 2195 ≤ x1
  · rw [if_pos c15] at hM
    have h0 := off_upI (u := u) (k := 0) (j := 17) (x := ((u.1 0 17) - 1)) hs0 h0
    exact fr_X12_keeps_b50 hs0 hs1  hM h0
  · rw [if_neg c15] at hM
    obtain ⟨v32, e32, hM⟩ := bind_of hM
    obtain ⟨u33, e33, hM⟩ := bind_of hM
    have h0 := off_sI hs1 e33 h0
    exact ik11 _ _ _ hs0 hs1 h0 hM
theorem fr_X12_keeps_l11 {S : Nat → Prop} {u0 : gM}   : ∀ (n : Nat) {x1 : Int32} (hs0 : S 0) (hs1 : S 17) {u : gM} {w : gM} (h0 : off S u0 u) (hM : X12_keeps_l11  n x1 u = some w), off S u0 w := by
  intro n
  induction n with
  | zero => intro x1 hs0 hs1 u w h0 hM; exact nomatch (show (none : Option gM) = some w from hM)
  | succ n ihn => intro x1 hs0 hs1 u w h0 hM; exact fr_X12_keeps_b11 hs0 hs1  (fun x1 _ _ hs0 hs1 h0 h => ihn hs0 hs1 h0 h) hM h0
theorem fr_X12_keeps {S : Nat → Prop} {u0 u : gM}  (hs0 : S 0) (hs1 : S 17)   {w : gM} (hM : X12_keeps u = some w) (h0 : off S u0 u) : off S u0 w := by
  unfold X12_keeps at hM
  by_cases c6 : (u.1 0 17) = 6
  · rw [if_pos c6] at hM
    exact fr_X12_keeps_l11  fz hs0 hs1 h0 hM
  · rw [if_neg c6] at hM
    exact fr_X12_keeps_b50 hs0 hs1  hM h0
/-! CoverDeskModel.day()I -/
theorem dX12_day_0 : decode cX12_day 0 = .ok (.aload_n 0, 1) := by decide +kernel
theorem dX12_day_1 : decode cX12_day 1 = .ok (.iconst 0, 1) := by decide +kernel
theorem dX12_day_2 : decode cX12_day 2 = .ok (.putfield 416, 3) := by decide +kernel
theorem dX12_day_5 : decode cX12_day 5 = .ok (.aload_n 0, 1) := by decide +kernel
theorem dX12_day_6 : decode cX12_day 6 = .ok (.invokevirtual 290, 3) := by decide +kernel
theorem dX12_day_9 : decode cX12_day 9 = .ok (.aload_n 0, 1) := by decide +kernel
theorem dX12_day_10 : decode cX12_day 10 = .ok (.getfield 149, 3) := by decide +kernel
theorem dX12_day_13 : decode cX12_day 13 = .ok (.ifCond .eq 7, 3) := by decide +kernel
theorem dX12_day_16 : decode cX12_day 16 = .ok (.iconst 1, 1) := by decide +kernel
theorem dX12_day_17 : decode cX12_day 17 = .ok (.goto 4, 3) := by decide +kernel
theorem dX12_day_20 : decode cX12_day 20 = .ok (.iconst 0, 1) := by decide +kernel
theorem dX12_day_21 : decode cX12_day 21 = .ok (.istore_n 1, 1) := by decide +kernel
theorem dX12_day_22 : decode cX12_day 22 = .ok (.iload_n 1, 1) := by decide +kernel
theorem dX12_day_23 : decode cX12_day 23 = .ok (.ifCond .eq 26, 3) := by decide +kernel
theorem dX12_day_26 : decode cX12_day 26 = .ok (.aload_n 0, 1) := by decide +kernel
theorem dX12_day_27 : decode cX12_day 27 = .ok (.invokevirtual 429, 3) := by decide +kernel
theorem dX12_day_30 : decode cX12_day 30 = .ok (.ifCond .eq 14, 3) := by decide +kernel
theorem dX12_day_33 : decode cX12_day 33 = .ok (.aload_n 0, 1) := by decide +kernel
theorem dX12_day_34 : decode cX12_day 34 = .ok (.getfield 149, 3) := by decide +kernel
theorem dX12_day_37 : decode cX12_day 37 = .ok (.ifCond .eq 7, 3) := by decide +kernel
theorem dX12_day_40 : decode cX12_day 40 = .ok (.iconst 1, 1) := by decide +kernel
theorem dX12_day_41 : decode cX12_day 41 = .ok (.goto 4, 3) := by decide +kernel
theorem dX12_day_44 : decode cX12_day 44 = .ok (.iconst 0, 1) := by decide +kernel
theorem dX12_day_45 : decode cX12_day 45 = .ok (.istore_n 1, 1) := by decide +kernel
theorem dX12_day_46 : decode cX12_day 46 = .ok (.goto (-24), 3) := by decide +kernel
theorem dX12_day_49 : decode cX12_day 49 = .ok (.aload_n 0, 1) := by decide +kernel
theorem dX12_day_50 : decode cX12_day 50 = .ok (.invokevirtual 296, 3) := by decide +kernel
theorem dX12_day_53 : decode cX12_day 53 = .ok (.ifCond .ne 5, 3) := by decide +kernel
theorem dX12_day_56 : decode cX12_day 56 = .ok (.iconst (-1), 1) := by decide +kernel
theorem dX12_day_57 : decode cX12_day 57 = .ok (.ireturn, 1) := by decide +kernel
theorem dX12_day_58 : decode cX12_day 58 = .ok (.aload_n 0, 1) := by decide +kernel
theorem dX12_day_59 : decode cX12_day 59 = .ok (.aload_n 0, 1) := by decide +kernel
theorem dX12_day_60 : decode cX12_day 60 = .ok (.getfield 416, 3) := by decide +kernel
theorem dX12_day_63 : decode cX12_day 63 = .ok (.putfield 432, 3) := by decide +kernel
theorem dX12_day_66 : decode cX12_day 66 = .ok (.aload_n 0, 1) := by decide +kernel
theorem dX12_day_67 : decode cX12_day 67 = .ok (.invokevirtual 390, 3) := by decide +kernel
theorem dX12_day_70 : decode cX12_day 70 = .ok (.iconst 0, 1) := by decide +kernel
theorem dX12_day_71 : decode cX12_day 71 = .ok (.istore_n 2, 1) := by decide +kernel
theorem dX12_day_72 : decode cX12_day 72 = .ok (.iload_n 2, 1) := by decide +kernel
theorem dX12_day_73 : decode cX12_day 73 = .ok (.aload_n 0, 1) := by decide +kernel
theorem dX12_day_74 : decode cX12_day 74 = .ok (.getfield 416, 3) := by decide +kernel
theorem dX12_day_77 : decode cX12_day 77 = .ok (.if_icmp .ge 17, 3) := by decide +kernel
theorem dX12_day_80 : decode cX12_day 80 = .ok (.aload_n 0, 1) := by decide +kernel
theorem dX12_day_81 : decode cX12_day 81 = .ok (.iload_n 2, 1) := by decide +kernel
theorem dX12_day_82 : decode cX12_day 82 = .ok (.invokevirtual 435, 3) := by decide +kernel
theorem dX12_day_85 : decode cX12_day 85 = .ok (.ifCond .eq 9, 3) := by decide +kernel
theorem dX12_day_88 : decode cX12_day 88 = .ok (.iinc 2 1, 3) := by decide +kernel
theorem dX12_day_91 : decode cX12_day 91 = .ok (.goto (-19), 3) := by decide +kernel
theorem dX12_day_94 : decode cX12_day 94 = .ok (.iload_n 2, 1) := by decide +kernel
theorem dX12_day_95 : decode cX12_day 95 = .ok (.ifCond .le 7, 3) := by decide +kernel
theorem dX12_day_98 : decode cX12_day 98 = .ok (.aload_n 0, 1) := by decide +kernel
theorem dX12_day_99 : decode cX12_day 99 = .ok (.invokevirtual 387, 3) := by decide +kernel
theorem dX12_day_102 : decode cX12_day 102 = .ok (.iload_n 2, 1) := by decide +kernel
theorem dX12_day_103 : decode cX12_day 103 = .ok (.ireturn, 1) := by decide +kernel
def X12_day_b102  (x2 : Int32) (u : gM) : Option (Int32 × gM) :=
some (x2, u)
def X12_day_b94  (x2 : Int32) (u : gM) : Option (Int32 × gM) :=
(if x2 ≤ 0 then (X12_day_b102 x2 u)
  else ((X12_keeps u).bind fun w99 => (X12_day_b102 x2 w99)))
def X12_day_b72 (k72 : Int32 → gM → Option (Int32 × gM)) (x2 : Int32) (u : gM) : Option (Int32 × gM) :=
(if (u.1 0 43) ≤ x2 then (X12_day_b94 x2 u)
  else ((X12_does x2 u).bind fun w82 => (if w82.1 = 0 then (X12_day_b94 x2 w82.2)
    else (k72 (x2 + 1) w82.2))))
def X12_day_l72  : Nat → Int32 → gM → Option (Int32 × gM)
  | 0, _, _ => none
  | n + 1, x2, u => X12_day_b72  (X12_day_l72  n) x2 u
def X12_day_b45 (k22 : Int32 → gM → Option (Int32 × gM)) (s0 : Int32) (u : gM) : Option (Int32 × gM) :=
(k22 s0 u)
def X12_day_b44 (k22 : Int32 → gM → Option (Int32 × gM))  (u : gM) : Option (Int32 × gM) :=
(X12_day_b45 k22 0 u)
def X12_day_b22 (k22 : Int32 → gM → Option (Int32 × gM)) (x1 : Int32) (u : gM) : Option (Int32 × gM) :=
(if x1 = 0 then ((X12_isRead u).bind fun w50 => (if w50.1 = 0 then some ((-1), w50.2)
    else ((X12_laysAside (upI w50.2 0 44 (w50.2.1 0 43))).bind fun w67 => (X12_day_l72 fz 0 w67))))
  else ((X12_readDeed u).bind fun w27 => (if w27.1 = 0 then (X12_day_b44 k22 w27.2)
    else (if (w27.2.1 0 25) = 0 then (X12_day_b44 k22 w27.2)
      else (X12_day_b45 k22 1 w27.2)))))
def X12_day_l22  : Nat → Int32 → gM → Option (Int32 × gM)
  | 0, _, _ => none
  | n + 1, x1, u => X12_day_b22  (X12_day_l22  n) x1 u
def X12_day_b21  (s0 : Int32) (u : gM) : Option (Int32 × gM) :=
(X12_day_l22 fz s0 u)
def X12_day   (u : gM) : Option (Int32 × gM) :=
((X12_begins (upI u 0 43 0)).bind fun w6 => (if (w6.1 0 25) = 0 then (X12_day_b21 0 w6)
  else (X12_day_b21 1 w6)))
set_option maxRecDepth 20000 in
theorem v_X12_day_b102 {κ : gK} {B : Nat} {u : gM} (X : gX κ B skM cX12_day 3 RX12 (some .int) 11 246)   {x2 : Int32} {w : (Int32 × gM)} (hM : X12_day_b102 x2 u = some w) : gV κ B skM 3 ((some (.int w.1)), w.2) 102 [none, none, some (.int x2)] [] u := by
  unfold X12_day_b102 at hM
  refine g_iload_n X dX12_day_102 rfl ?_
  cases hM
  exact g_iret X dX12_day_103
set_option maxRecDepth 20000 in
theorem v_X12_day_b94 {κ : gK} {B : Nat} {u : gM} (X : gX κ B skM cX12_day 3 RX12 (some .int) 11 246)   {x2 : Int32} {w : (Int32 × gM)} (hM : X12_day_b94 x2 u = some w) : gV κ B skM 3 ((some (.int w.1)), w.2) 94 [some (.ref (B + 0)), none, some (.int x2)] [] u := by
  unfold X12_day_b94 at hM
  refine g_iload_n X dX12_day_94 rfl ?_
  refine g_if_le (tgt := 102) X dX12_day_95 (by decide) (fun c95 => ?_) (fun c95 => ?_)
  · rw [if_pos c95] at hM
    refine g_mk [false, false, true] [none, none, some (.int x2)] rfl ?_
    exact v_X12_day_b102 X  hM
  · rw [if_neg c95] at hM
    refine g_aload_n X dX12_day_98 rfl ?_
    obtain ⟨w99, e99, hM⟩ := bind_of hM
    refine g_callVv X (fun B adK => []) (s_X12_keeps e99) cvX12_387 cM_0 rfl rfl (Nat.le_of_ble_eq_true rfl) ⟨by decide, by decide⟩ dX12_day_99 ?_
    refine g_mk [false, false, true] [none, none, some (.int x2)] rfl ?_
    exact v_X12_day_b102 X  hM
set_option maxRecDepth 20000 in
theorem v_X12_day_b72 {κ : gK} {B : Nat} {u : gM} (X : gX κ B skM cX12_day 3 RX12 (some .int) 11 246) {k72 : Int32 → gM → Option (Int32 × gM)} (ih72 : ∀ (x2 : Int32) (u : gM) (w : (Int32 × gM)), k72 x2 u = some w → gV κ B skM 3 ((some (.int w.1)), w.2) 72 [some (.ref (B + 0)), none, some (.int x2)] [] u) {x2 : Int32} {w : (Int32 × gM)} (hM : X12_day_b72 k72 x2 u = some w) : gV κ B skM 3 ((some (.int w.1)), w.2) 72 [some (.ref (B + 0)), none, some (.int x2)] [] u := by
  unfold X12_day_b72 at hM
  refine g_iload_n X dX12_day_72 rfl ?_
  refine g_aload_n X dX12_day_73 rfl ?_
  refine g_getI X fX12_416 cM_0 rfl dX12_day_74 ?_
  refine g_icmp_ge (tgt := 94) X dX12_day_77 (by decide) (fun c77 => ?_) (fun c77 => ?_)
  · rw [if_pos c77] at hM
    refine g_mk [true, false, true] [some (.ref (B + 0)), none, some (.int x2)] rfl ?_
    exact v_X12_day_b94 X  hM
  · rw [if_neg c77] at hM
    refine g_aload_n X dX12_day_80 rfl ?_
    refine g_iload_n X dX12_day_81 rfl ?_
    obtain ⟨w82, e82, hM⟩ := bind_of hM
    refine g_callVi X (fun B adK => [.int x2]) (s_X12_does e82) cvX12_435 cM_0 rfl rfl (Nat.le_of_ble_eq_true rfl) ⟨by decide, by decide⟩ dX12_day_82 ?_
    refine g_if_eq (tgt := 94) X dX12_day_85 (by decide) (fun c85 => ?_) (fun c85 => ?_)
    · rw [if_pos c85] at hM
      refine g_mk [true, false, true] [some (.ref (B + 0)), none, some (.int x2)] rfl ?_
      exact v_X12_day_b94 X  hM
    · rw [if_neg c85] at hM
      refine g_iinc (d := 1) X [some (.ref (B + 0)), none, some (.int (x2 + 1))] dX12_day_88 (by decide) rfl (by decide) rfl ?_
      refine g_goto (tgt := 72) X dX12_day_91 (by decide) ?_
      refine g_mk [true, false, true] [some (.ref (B + 0)), none, some (.int (x2 + 1))] rfl ?_
      exact ih72 (x2 + 1) w82.2 _ hM
theorem v_X12_day_l72 {κ : gK} {B : Nat} (X : gX κ B skM cX12_day 3 RX12 (some .int) 11 246)   : ∀ (n : Nat) {x2 : Int32} {u : gM} {w : (Int32 × gM)} (hM : X12_day_l72  n x2 u = some w), gV κ B skM 3 ((some (.int w.1)), w.2) 72 [some (.ref (B + 0)), none, some (.int x2)] [] u := by
  intro n
  induction n with
  | zero => intro x2 u w hM; exact nomatch (show (none : Option (Int32 × gM)) = some w from hM)
  | succ n ihn => intro x2 u w hM; exact v_X12_day_b72 X  (fun x2 u w h => ihn h) hM
set_option maxRecDepth 20000 in
theorem v_X12_day_b45 {κ : gK} {B : Nat} {u : gM} (X : gX κ B skM cX12_day 3 RX12 (some .int) 11 246) {k22 : Int32 → gM → Option (Int32 × gM)} (ih22 : ∀ (x1 : Int32) (u : gM) (w : (Int32 × gM)), k22 x1 u = some w → gV κ B skM 3 ((some (.int w.1)), w.2) 22 [some (.ref (B + 0)), some (.int x1), none] [] u) {s0 : Int32} {w : (Int32 × gM)} (hM : X12_day_b45 k22 s0 u = some w) : gV κ B skM 3 ((some (.int w.1)), w.2) 45 [some (.ref (B + 0)), none, none] [.int s0] u := by
  unfold X12_day_b45 at hM
  refine g_istore_n X [some (.ref (B + 0)), some (.int s0), none] dX12_day_45 (by decide) rfl ?_
  refine g_goto (tgt := 22) X dX12_day_46 (by decide) ?_
  refine g_mk [true, true, false] [some (.ref (B + 0)), some (.int s0), none] rfl ?_
  exact ih22 s0 u _ hM
set_option maxRecDepth 20000 in
theorem v_X12_day_b44 {κ : gK} {B : Nat} {u : gM} (X : gX κ B skM cX12_day 3 RX12 (some .int) 11 246) {k22 : Int32 → gM → Option (Int32 × gM)} (ih22 : ∀ (x1 : Int32) (u : gM) (w : (Int32 × gM)), k22 x1 u = some w → gV κ B skM 3 ((some (.int w.1)), w.2) 22 [some (.ref (B + 0)), some (.int x1), none] [] u)  {w : (Int32 × gM)} (hM : X12_day_b44 k22 u = some w) : gV κ B skM 3 ((some (.int w.1)), w.2) 44 [some (.ref (B + 0)), none, none] [] u := by
  unfold X12_day_b44 at hM
  refine g_iconst X (v := 0) dX12_day_44 (by decide) ?_
  refine g_mk [true, false, false] [some (.ref (B + 0)), none, none] rfl ?_
  exact v_X12_day_b45 X ih22 hM
set_option maxRecDepth 20000 in
theorem v_X12_day_b22 {κ : gK} {B : Nat} {u : gM} (X : gX κ B skM cX12_day 3 RX12 (some .int) 11 246) {k22 : Int32 → gM → Option (Int32 × gM)} (ih22 : ∀ (x1 : Int32) (u : gM) (w : (Int32 × gM)), k22 x1 u = some w → gV κ B skM 3 ((some (.int w.1)), w.2) 22 [some (.ref (B + 0)), some (.int x1), none] [] u) {x1 : Int32} {w : (Int32 × gM)} (hM : X12_day_b22 k22 x1 u = some w) : gV κ B skM 3 ((some (.int w.1)), w.2) 22 [some (.ref (B + 0)), some (.int x1), none] [] u := by
  unfold X12_day_b22 at hM
  refine g_iload_n X dX12_day_22 rfl ?_
  refine g_if_eq (tgt := 49) X dX12_day_23 (by decide) (fun c23 => ?_) (fun c23 => ?_)
  · rw [if_pos c23] at hM
    refine g_aload_n X dX12_day_49 rfl ?_
    obtain ⟨w50, e50, hM⟩ := bind_of hM
    refine g_callVi X (fun B adK => []) (s_X12_isRead e50) cvX12_296 cM_0 rfl rfl (Nat.le_of_ble_eq_true rfl) ⟨by decide, by decide⟩ dX12_day_50 ?_
    refine g_if_ne (tgt := 58) X dX12_day_53 (by decide) (fun c53 => ?_) (fun c53 => ?_)
    · rw [if_neg c53] at hM
      refine g_aload_n X dX12_day_58 rfl ?_
      refine g_aload_n X dX12_day_59 rfl ?_
      refine g_getI X fX12_416 cM_0 rfl dX12_day_60 ?_
      refine g_putI X fX12_432 gc_X12 gp_X12_44 cM_0 rfl dX12_day_63 ?_
      refine g_aload_n X dX12_day_66 rfl ?_
      obtain ⟨w67, e67, hM⟩ := bind_of hM
      refine g_callVv X (fun B adK => []) (s_X12_laysAside e67) cvX12_390 cM_0 rfl rfl (Nat.le_of_ble_eq_true rfl) ⟨by decide, by decide⟩ dX12_day_67 ?_
      refine g_iconst X (v := 0) dX12_day_70 (by decide) ?_
      refine g_istore_n X [some (.ref (B + 0)), some (.int x1), some (.int 0)] dX12_day_71 (by decide) rfl ?_
      refine g_mk [true, false, true] [some (.ref (B + 0)), none, some (.int 0)] rfl ?_
      exact v_X12_day_l72 X  fz hM
    · rw [if_pos c53] at hM
      refine g_iconst X (v := (-1)) dX12_day_56 (by decide) ?_
      cases hM
      exact g_iret X dX12_day_57
  · rw [if_neg c23] at hM
    refine g_aload_n X dX12_day_26 rfl ?_
    obtain ⟨w27, e27, hM⟩ := bind_of hM
    refine g_callVi X (fun B adK => []) (s_X12_readDeed e27) cvX12_429 cM_0 rfl rfl (Nat.le_of_ble_eq_true rfl) ⟨by decide, by decide⟩ dX12_day_27 ?_
    refine g_if_eq (tgt := 44) X dX12_day_30 (by decide) (fun c30 => ?_) (fun c30 => ?_)
    · rw [if_pos c30] at hM
      refine g_mk [true, false, false] [some (.ref (B + 0)), none, none] rfl ?_
      exact v_X12_day_b44 X ih22 hM
    · rw [if_neg c30] at hM
      refine g_aload_n X dX12_day_33 rfl ?_
      refine g_getI X fX12_149 cM_0 rfl dX12_day_34 ?_
      refine g_if_eq (tgt := 44) X dX12_day_37 (by decide) (fun c37 => ?_) (fun c37 => ?_)
      · rw [if_pos c37] at hM
        refine g_mk [true, false, false] [some (.ref (B + 0)), none, none] rfl ?_
        exact v_X12_day_b44 X ih22 hM
      · rw [if_neg c37] at hM
        refine g_iconst X (v := 1) dX12_day_40 (by decide) ?_
        refine g_goto (tgt := 45) X dX12_day_41 (by decide) ?_
        refine g_mk [true, false, false] [some (.ref (B + 0)), none, none] rfl ?_
        exact v_X12_day_b45 X ih22 hM
theorem v_X12_day_l22 {κ : gK} {B : Nat} (X : gX κ B skM cX12_day 3 RX12 (some .int) 11 246)   : ∀ (n : Nat) {x1 : Int32} {u : gM} {w : (Int32 × gM)} (hM : X12_day_l22  n x1 u = some w), gV κ B skM 3 ((some (.int w.1)), w.2) 22 [some (.ref (B + 0)), some (.int x1), none] [] u := by
  intro n
  induction n with
  | zero => intro x1 u w hM; exact nomatch (show (none : Option (Int32 × gM)) = some w from hM)
  | succ n ihn => intro x1 u w hM; exact v_X12_day_b22 X  (fun x1 u w h => ihn h) hM
set_option maxRecDepth 20000 in
theorem v_X12_day_b21 {κ : gK} {B : Nat} {u : gM} (X : gX κ B skM cX12_day 3 RX12 (some .int) 11 246)   {s0 : Int32} {w : (Int32 × gM)} (hM : X12_day_b21 s0 u = some w) : gV κ B skM 3 ((some (.int w.1)), w.2) 21 [some (.ref (B + 0)), none, none] [.int s0] u := by
  unfold X12_day_b21 at hM
  refine g_istore_n X [some (.ref (B + 0)), some (.int s0), none] dX12_day_21 (by decide) rfl ?_
  refine g_mk [true, true, false] [some (.ref (B + 0)), some (.int s0), none] rfl ?_
  exact v_X12_day_l22 X  fz hM
set_option maxRecDepth 20000 in
theorem v_X12_day {κ : gK} {B : Nat} {u : gM} (X : gX κ B skM cX12_day 3 RX12 (some .int) 11 246)    {w : (Int32 × gM)} (hM : X12_day u = some w) : gV κ B skM 3 ((some (.int w.1)), w.2) 0 [some (.ref (B + 0)), none, none] [] u := by
  unfold X12_day at hM
  refine g_aload_n X dX12_day_0 rfl ?_
  refine g_iconst X (v := 0) dX12_day_1 (by decide) ?_
  refine g_putI X fX12_416 gc_X12 gp_X12_43 cM_0 rfl dX12_day_2 ?_
  refine g_aload_n X dX12_day_5 rfl ?_
  obtain ⟨w6, e6, hM⟩ := bind_of hM
  refine g_callVv X (fun B adK => []) (s_X12_begins e6) cvX12_290 cM_0 rfl rfl (Nat.le_of_ble_eq_true rfl) ⟨by decide, by decide⟩ dX12_day_6 ?_
  refine g_aload_n X dX12_day_9 rfl ?_
  refine g_getI X fX12_149 cM_0 rfl dX12_day_10 ?_
  refine g_if_eq (tgt := 20) X dX12_day_13 (by decide) (fun c13 => ?_) (fun c13 => ?_)
  · rw [if_pos c13] at hM
    refine g_iconst X (v := 0) dX12_day_20 (by decide) ?_
    refine g_mk [true, false, false] [some (.ref (B + 0)), none, none] rfl ?_
    exact v_X12_day_b21 X  hM
  · rw [if_neg c13] at hM
    refine g_iconst X (v := 1) dX12_day_16 (by decide) ?_
    refine g_goto (tgt := 21) X dX12_day_17 (by decide) ?_
    refine g_mk [true, false, false] [some (.ref (B + 0)), none, none] rfl ?_
    exact v_X12_day_b21 X  hM
theorem s_X12_day  {u : gM} {w : (Int32 × gM)} (hM : X12_day u = some w) : gMet skM yX12_day cX12_day 3 (some .int) 11 246 (fun B adK => [.ref (B + 0)]) u ((fun _ => some (.int w.1)), w.2) := by
  refine gMet.of (by decide) (fun _ _ => Nat.le_of_ble_eq_true rfl) (fun κ B X => ?_)
  have X : gX κ B skM cX12_day 3 RX12 (some .int) 11 246 := X
  refine g_mk [true, false, false] [some (.ref (B + 0)), none, none] rfl ?_
  exact v_X12_day X  hM
theorem fr_X12_day_b102 {S : Nat → Prop} {u0 u : gM} {x2 : Int32}    {w : (Int32 × gM)} (hM : X12_day_b102 x2 u = some w) (h0 : off S u0 u) : off S u0 w.2 := by
  unfold X12_day_b102 at hM
  cases hM
  exact h0
theorem fr_X12_day_b94 {S : Nat → Prop} {u0 u : gM} {x2 : Int32} (hs0 : S 0) (hs1 : S 17)   {w : (Int32 × gM)} (hM : X12_day_b94 x2 u = some w) (h0 : off S u0 u) : off S u0 w.2 := by
  unfold X12_day_b94 at hM
  by_cases c95 : x2 ≤ 0
  · rw [if_pos c95] at hM
    exact fr_X12_day_b102   hM h0
  · rw [if_neg c95] at hM
    obtain ⟨w99, e99, hM⟩ := bind_of hM
    have h0 := fr_X12_keeps hs0 hs1 e99 h0
    exact fr_X12_day_b102   hM h0
theorem fr_X12_day_b72 {S : Nat → Prop} {u0 u : gM} {x2 : Int32} (hs0 : S 0) (hs1 : S 16) (hs2 : S 17) (hs3 : S 20) (hs4 : S 21) (hs5 : S 22) (hs6 : S 23) (hs7 : S 24) (hs8 : S 25) (hs9 : S 26) {k72 : Int32 → gM → Option (Int32 × gM)} (ik72 : ∀ (x2 : Int32) (u : gM) (w : (Int32 × gM)), S 0 → S 16 → S 17 → S 20 → S 21 → S 22 → S 23 → S 24 → S 25 → S 26 → off S u0 u → k72 x2 u = some w → off S u0 w.2) {w : (Int32 × gM)} (hM : X12_day_b72 k72 x2 u = some w) (h0 : off S u0 u) : off S u0 w.2 := by
  unfold X12_day_b72 at hM
  by_cases c77 : (u.1 0 43) ≤ x2
  · rw [if_pos c77] at hM
    exact fr_X12_day_b94 hs0 hs2  hM h0
  · rw [if_neg c77] at hM
    obtain ⟨w82, e82, hM⟩ := bind_of hM
    have h0 := fr_X12_does hs1 hs3 hs4 hs5 hs6 hs7 hs8 hs9 e82 h0
    by_cases c85 : w82.1 = 0
    · rw [if_pos c85] at hM
      exact fr_X12_day_b94 hs0 hs2  hM h0
    · rw [if_neg c85] at hM
      exact ik72 _ _ _ hs0 hs1 hs2 hs3 hs4 hs5 hs6 hs7 hs8 hs9 h0 hM
theorem fr_X12_day_l72 {S : Nat → Prop} {u0 : gM}   : ∀ (n : Nat) {x2 : Int32} (hs0 : S 0) (hs1 : S 16) (hs2 : S 17) (hs3 : S 20) (hs4 : S 21) (hs5 : S 22) (hs6 : S 23) (hs7 : S 24) (hs8 : S 25) (hs9 : S 26) {u : gM} {w : (Int32 × gM)} (h0 : off S u0 u) (hM : X12_day_l72  n x2 u = some w), off S u0 w.2 := by
  intro n
  induction n with
  | zero => intro x2 hs0 hs1 hs2 hs3 hs4 hs5 hs6 hs7 hs8 hs9 u w h0 hM; exact nomatch (show (none : Option (Int32 × gM)) = some w from hM)
  | succ n ihn => intro x2 hs0 hs1 hs2 hs3 hs4 hs5 hs6 hs7 hs8 hs9 u w h0 hM; exact fr_X12_day_b72 hs0 hs1 hs2 hs3 hs4 hs5 hs6 hs7 hs8 hs9  (fun x2 _ _ hs0 hs1 hs2 hs3 hs4 hs5 hs6 hs7 hs8 hs9 h0 h => ihn hs0 hs1 hs2 hs3 hs4 hs5 hs6 hs7 hs8 hs9 h0 h) hM h0
theorem fr_X12_day_b45 {S : Nat → Prop} {u0 u : gM} {s0 : Int32} (hs0 : S 0) (hs1 : S 16) (hs2 : S 17) (hs3 : S 18) (hs4 : S 20) (hs5 : S 21) (hs6 : S 22) (hs7 : S 23) (hs8 : S 24) (hs9 : S 25) (hs10 : S 26) (hs11 : S 27) {k22 : Int32 → gM → Option (Int32 × gM)} (ik22 : ∀ (x1 : Int32) (u : gM) (w : (Int32 × gM)), S 0 → S 16 → S 17 → S 18 → S 20 → S 21 → S 22 → S 23 → S 24 → S 25 → S 26 → S 27 → off S u0 u → k22 x1 u = some w → off S u0 w.2) {w : (Int32 × gM)} (hM : X12_day_b45 k22 s0 u = some w) (h0 : off S u0 u) : off S u0 w.2 := by
  unfold X12_day_b45 at hM
  exact ik22 _ _ _ hs0 hs1 hs2 hs3 hs4 hs5 hs6 hs7 hs8 hs9 hs10 hs11 h0 hM
theorem fr_X12_day_b44 {S : Nat → Prop} {u0 u : gM}  (hs0 : S 0) (hs1 : S 16) (hs2 : S 17) (hs3 : S 18) (hs4 : S 20) (hs5 : S 21) (hs6 : S 22) (hs7 : S 23) (hs8 : S 24) (hs9 : S 25) (hs10 : S 26) (hs11 : S 27) {k22 : Int32 → gM → Option (Int32 × gM)} (ik22 : ∀ (x1 : Int32) (u : gM) (w : (Int32 × gM)), S 0 → S 16 → S 17 → S 18 → S 20 → S 21 → S 22 → S 23 → S 24 → S 25 → S 26 → S 27 → off S u0 u → k22 x1 u = some w → off S u0 w.2) {w : (Int32 × gM)} (hM : X12_day_b44 k22 u = some w) (h0 : off S u0 u) : off S u0 w.2 := by
  unfold X12_day_b44 at hM
  exact fr_X12_day_b45 hs0 hs1 hs2 hs3 hs4 hs5 hs6 hs7 hs8 hs9 hs10 hs11 ik22 hM h0
theorem fr_X12_day_b22 {S : Nat → Prop} {u0 u : gM} {x1 : Int32} (hs0 : S 0) (hs1 : S 16) (hs2 : S 17) (hs3 : S 18) (hs4 : S 20) (hs5 : S 21) (hs6 : S 22) (hs7 : S 23) (hs8 : S 24) (hs9 : S 25) (hs10 : S 26) (hs11 : S 27) {k22 : Int32 → gM → Option (Int32 × gM)} (ik22 : ∀ (x1 : Int32) (u : gM) (w : (Int32 × gM)), S 0 → S 16 → S 17 → S 18 → S 20 → S 21 → S 22 → S 23 → S 24 → S 25 → S 26 → S 27 → off S u0 u → k22 x1 u = some w → off S u0 w.2) {w : (Int32 × gM)} (hM : X12_day_b22 k22 x1 u = some w) (h0 : off S u0 u) : off S u0 w.2 := by
  unfold X12_day_b22 at hM
  by_cases c23 : x1 = 0
  · rw [if_pos c23] at hM
    obtain ⟨w50, e50, hM⟩ := bind_of hM
    have h0 := fr_X12_isRead hs0 e50 h0
    by_cases c53 : w50.1 = 0
    · rw [if_pos c53] at hM
      cases hM
      exact h0
    · rw [if_neg c53] at hM
      have h0 := off_upI (u := w50.2) (k := 0) (j := 44) (x := (w50.2.1 0 43)) hs0 h0
      obtain ⟨w67, e67, hM⟩ := bind_of hM
      have h0 := fr_X12_laysAside hs3 e67 h0
      exact fr_X12_day_l72  fz hs0 hs1 hs2 hs4 hs5 hs6 hs7 hs8 hs9 hs10 h0 hM
  · rw [if_neg c23] at hM
    obtain ⟨w27, e27, hM⟩ := bind_of hM
    have h0 := fr_X12_readDeed hs0 hs11 e27 h0
    by_cases c30 : w27.1 = 0
    · rw [if_pos c30] at hM
      exact fr_X12_day_b44 hs0 hs1 hs2 hs3 hs4 hs5 hs6 hs7 hs8 hs9 hs10 hs11 ik22 hM h0
    · rw [if_neg c30] at hM
      by_cases c37 : (w27.2.1 0 25) = 0
      · rw [if_pos c37] at hM
        exact fr_X12_day_b44 hs0 hs1 hs2 hs3 hs4 hs5 hs6 hs7 hs8 hs9 hs10 hs11 ik22 hM h0
      · rw [if_neg c37] at hM
        exact fr_X12_day_b45 hs0 hs1 hs2 hs3 hs4 hs5 hs6 hs7 hs8 hs9 hs10 hs11 ik22 hM h0
theorem fr_X12_day_l22 {S : Nat → Prop} {u0 : gM}   : ∀ (n : Nat) {x1 : Int32} (hs0 : S 0) (hs1 : S 16) (hs2 : S 17) (hs3 : S 18) (hs4 : S 20) (hs5 : S 21) (hs6 : S 22) (hs7 : S 23) (hs8 : S 24) (hs9 : S 25) (hs10 : S 26) (hs11 : S 27) {u : gM} {w : (Int32 × gM)} (h0 : off S u0 u) (hM : X12_day_l22  n x1 u = some w), off S u0 w.2 := by
  intro n
  induction n with
  | zero => intro x1 hs0 hs1 hs2 hs3 hs4 hs5 hs6 hs7 hs8 hs9 hs10 hs11 u w h0 hM; exact nomatch (show (none : Option (Int32 × gM)) = some w from hM)
  | succ n ihn => intro x1 hs0 hs1 hs2 hs3 hs4 hs5 hs6 hs7 hs8 hs9 hs10 hs11 u w h0 hM; exact fr_X12_day_b22 hs0 hs1 hs2 hs3 hs4 hs5 hs6 hs7 hs8 hs9 hs10 hs11  (fun x1 _ _ hs0 hs1 hs2 hs3 hs4 hs5 hs6 hs7 hs8 hs9 hs10 hs11 h0 h => ihn hs0 hs1 hs2 hs3 hs4 hs5 hs6 hs7 hs8 hs9 hs10 hs11 h0 h) hM h0
theorem fr_X12_day_b21 {S : Nat → Prop} {u0 u : gM} {s0 : Int32} (hs0 : S 0) (hs1 : S 16) (hs2 : S 17) (hs3 : S 18) (hs4 : S 20) (hs5 : S 21) (hs6 : S 22) (hs7 : S 23) (hs8 : S 24) (hs9 : S 25) (hs10 : S 26) (hs11 : S 27)   {w : (Int32 × gM)} (hM : X12_day_b21 s0 u = some w) (h0 : off S u0 u) : off S u0 w.2 := by
  unfold X12_day_b21 at hM
  exact fr_X12_day_l22  fz hs0 hs1 hs2 hs3 hs4 hs5 hs6 hs7 hs8 hs9 hs10 hs11 h0 hM
theorem fr_X12_day {S : Nat → Prop} {u0 u : gM}  (hs0 : S 0) (hs1 : S 16) (hs2 : S 17) (hs3 : S 18) (hs4 : S 20) (hs5 : S 21) (hs6 : S 22) (hs7 : S 23) (hs8 : S 24) (hs9 : S 25) (hs10 : S 26) (hs11 : S 27)   {w : (Int32 × gM)} (hM : X12_day u = some w) (h0 : off S u0 u) : off S u0 w.2 := by
  unfold X12_day at hM
  have h0 := off_upI (u := u) (k := 0) (j := 43) (x := 0) hs0 h0
  obtain ⟨w6, e6, hM⟩ := bind_of hM
  have h0 := fr_X12_begins hs0 e6 h0
  by_cases c13 : (w6.1 0 25) = 0
  · rw [if_pos c13] at hM
    exact fr_X12_day_b21 hs0 hs1 hs2 hs3 hs4 hs5 hs6 hs7 hs8 hs9 hs10 hs11  hM h0
  · rw [if_neg c13] at hM
    exact fr_X12_day_b21 hs0 hs1 hs2 hs3 hs4 hs5 hs6 hs7 hs8 hs9 hs10 hs11  hM h0
/-! CoverDeskModel.end(I)Z -/
theorem dX12_end_0 : decode cX12_end 0 = .ok (.iload_n 1, 1) := by decide +kernel
theorem dX12_end_1 : decode cX12_end 1 = .ok (.i2l, 1) := by decide +kernel
theorem dX12_end_2 : decode cX12_end 2 = .ok (.lconst 0, 1) := by decide +kernel
theorem dX12_end_3 : decode cX12_end 3 = .ok (.aload_n 0, 1) := by decide +kernel
theorem dX12_end_4 : decode cX12_end 4 = .ok (.getfield 118, 3) := by decide +kernel
theorem dX12_end_7 : decode cX12_end 7 = .ok (.i2l, 1) := by decide +kernel
theorem dX12_end_8 : decode cX12_end 8 = .ok (.invokestatic 125, 3) := by decide +kernel
theorem dX12_end_11 : decode cX12_end 11 = .ok (.ifCond .ne 5, 3) := by decide +kernel
theorem dX12_end_14 : decode cX12_end 14 = .ok (.iconst 0, 1) := by decide +kernel
theorem dX12_end_15 : decode cX12_end 15 = .ok (.ireturn, 1) := by decide +kernel
theorem dX12_end_16 : decode cX12_end 16 = .ok (.aload_n 0, 1) := by decide +kernel
theorem dX12_end_17 : decode cX12_end 17 = .ok (.iload_n 1, 1) := by decide +kernel
theorem dX12_end_18 : decode cX12_end 18 = .ok (.putfield 118, 3) := by decide +kernel
theorem dX12_end_21 : decode cX12_end 21 = .ok (.iconst 1, 1) := by decide +kernel
theorem dX12_end_22 : decode cX12_end 22 = .ok (.ireturn, 1) := by decide +kernel
def X12_end  (x1 : Int32) (u : gM) : Option (Int32 × gM) :=
((X12_isIn u x1.toInt64 0 (u.1 0 20).toInt64).bind fun w8 => (if w8 = 0 then some (0, u)
  else some (1, upI u 0 20 x1)))
set_option maxRecDepth 20000 in
theorem v_X12_end {κ : gK} {B : Nat} {u : gM} (X : gX κ B skM cX12_end 2 RX12 (some .boolean) 1 25)   {x1 : Int32} {w : (Int32 × gM)} (hM : X12_end x1 u = some w) : gV κ B skM 2 ((some (.int w.1)), w.2) 0 [some (.ref (B + 0)), some (.int x1)] [] u := by
  unfold X12_end at hM
  refine g_iload_n X dX12_end_0 rfl ?_
  refine g_i2l X dX12_end_1 ?_
  refine g_lconst (v := 0) X dX12_end_2 (by decide) ?_
  refine g_aload_n X dX12_end_3 rfl ?_
  refine g_getI X fX12_118 cM_0 rfl dX12_end_4 ?_
  refine g_i2l X dX12_end_7 ?_
  obtain ⟨w8, e8, hM⟩ := bind_of hM
  refine g_callSi X (fun B adK => [.long x1.toInt64, .long 0, .long (u.1 0 20).toInt64]) (s_X12_isIn e8) cvX12_125 rfl rfl (Nat.le_of_ble_eq_true rfl) ⟨by decide, by decide⟩ dX12_end_8 ?_
  refine g_if_ne (tgt := 16) X dX12_end_11 (by decide) (fun c11 => ?_) (fun c11 => ?_)
  · rw [if_neg c11] at hM
    refine g_aload_n X dX12_end_16 rfl ?_
    refine g_iload_n X dX12_end_17 rfl ?_
    refine g_putI X fX12_118 gc_X12 gp_X12_20 cM_0 rfl dX12_end_18 ?_
    refine g_iconst X (v := 1) dX12_end_21 (by decide) ?_
    cases hM
    exact g_zret X (Or.inr rfl) dX12_end_22
  · rw [if_pos c11] at hM
    refine g_iconst X (v := 0) dX12_end_14 (by decide) ?_
    cases hM
    exact g_zret X (Or.inl rfl) dX12_end_15
theorem s_X12_end {x1 : Int32} {u : gM} {w : (Int32 × gM)} (hM : X12_end x1 u = some w) : gMet skM yX12_end cX12_end 2 (some .boolean) 1 25 (fun B adK => [.ref (B + 0), .int x1]) u ((fun _ => some (.int w.1)), w.2) := by
  refine gMet.of (by decide) (fun _ _ => Nat.le_of_ble_eq_true rfl) (fun κ B X => ?_)
  have X : gX κ B skM cX12_end 2 RX12 (some .boolean) 1 25 := X
  refine g_mk [true, true] [some (.ref (B + 0)), some (.int x1)] rfl ?_
  exact v_X12_end X  hM
theorem fr_X12_end {S : Nat → Prop} {u0 u : gM} {x1 : Int32} (hs0 : S 0)   {w : (Int32 × gM)} (hM : X12_end x1 u = some w) (h0 : off S u0 u) : off S u0 w.2 := by
  unfold X12_end at hM
  obtain ⟨w8, e8, hM⟩ := bind_of hM
  by_cases c11 : w8 = 0
  · rw [if_pos c11] at hM
    cases hM
    exact h0
  · rw [if_neg c11] at hM
    have h0 := off_upI (u := u) (k := 0) (j := 20) (x := x1) hs0 h0
    cases hM
    exact h0
/-! CoverDeskModel.isDone(Z)Z -/
theorem dX12_isDone_0 : decode cX12_isDone 0 = .ok (.iload_n 1, 1) := by decide +kernel
theorem dX12_isDone_1 : decode cX12_isDone 1 = .ok (.ifCond .eq 7, 3) := by decide +kernel
theorem dX12_isDone_4 : decode cX12_isDone 4 = .ok (.aload_n 0, 1) := by decide +kernel
theorem dX12_isDone_5 : decode cX12_isDone 5 = .ok (.invokevirtual 387, 3) := by decide +kernel
theorem dX12_isDone_8 : decode cX12_isDone 8 = .ok (.iload_n 1, 1) := by decide +kernel
theorem dX12_isDone_9 : decode cX12_isDone 9 = .ok (.ireturn, 1) := by decide +kernel
def X12_isDone_b8  (x1 : Int32) (u : gM) : Option (Int32 × gM) :=
((bI x1).bind fun v9 => some (v9, u))
def X12_isDone  (x1 : Int32) (u : gM) : Option (Int32 × gM) :=
(if x1 = 0 then (X12_isDone_b8 x1 u)
  else ((X12_keeps u).bind fun w5 => (X12_isDone_b8 x1 w5)))
set_option maxRecDepth 20000 in
theorem v_X12_isDone_b8 {κ : gK} {B : Nat} {u : gM} (X : gX κ B skM cX12_isDone 2 RX12 (some .boolean) 1 21)   {x1 : Int32} {w : (Int32 × gM)} (hM : X12_isDone_b8 x1 u = some w) : gV κ B skM 2 ((some (.int w.1)), w.2) 8 [none, some (.int x1)] [] u := by
  unfold X12_isDone_b8 at hM
  refine g_iload_n X dX12_isDone_8 rfl ?_
  obtain ⟨v9, e9, hM⟩ := bind_of hM
  obtain ⟨hv, rfl⟩ := bI_of e9
  cases hM
  exact g_zret X hv dX12_isDone_9
set_option maxRecDepth 20000 in
theorem v_X12_isDone {κ : gK} {B : Nat} {u : gM} (X : gX κ B skM cX12_isDone 2 RX12 (some .boolean) 1 21)   {x1 : Int32} {w : (Int32 × gM)} (hM : X12_isDone x1 u = some w) : gV κ B skM 2 ((some (.int w.1)), w.2) 0 [some (.ref (B + 0)), some (.int x1)] [] u := by
  unfold X12_isDone at hM
  refine g_iload_n X dX12_isDone_0 rfl ?_
  refine g_if_eq (tgt := 8) X dX12_isDone_1 (by decide) (fun c1 => ?_) (fun c1 => ?_)
  · rw [if_pos c1] at hM
    refine g_mk [false, true] [none, some (.int x1)] rfl ?_
    exact v_X12_isDone_b8 X  hM
  · rw [if_neg c1] at hM
    refine g_aload_n X dX12_isDone_4 rfl ?_
    obtain ⟨w5, e5, hM⟩ := bind_of hM
    refine g_callVv X (fun B adK => []) (s_X12_keeps e5) cvX12_387 cM_0 rfl rfl (Nat.le_of_ble_eq_true rfl) ⟨by decide, by decide⟩ dX12_isDone_5 ?_
    refine g_mk [false, true] [none, some (.int x1)] rfl ?_
    exact v_X12_isDone_b8 X  hM
theorem s_X12_isDone {x1 : Int32} {u : gM} {w : (Int32 × gM)} (hM : X12_isDone x1 u = some w) : gMet skM yX12_isDone cX12_isDone 2 (some .boolean) 1 21 (fun B adK => [.ref (B + 0), .int x1]) u ((fun _ => some (.int w.1)), w.2) := by
  refine gMet.of (by decide) (fun _ _ => Nat.le_of_ble_eq_true rfl) (fun κ B X => ?_)
  have X : gX κ B skM cX12_isDone 2 RX12 (some .boolean) 1 21 := X
  refine g_mk [true, true] [some (.ref (B + 0)), some (.int x1)] rfl ?_
  exact v_X12_isDone X  hM
theorem fr_X12_isDone_b8 {S : Nat → Prop} {u0 u : gM} {x1 : Int32}    {w : (Int32 × gM)} (hM : X12_isDone_b8 x1 u = some w) (h0 : off S u0 u) : off S u0 w.2 := by
  unfold X12_isDone_b8 at hM
  obtain ⟨v9, e9, hM⟩ := bind_of hM
  cases hM
  exact h0
theorem fr_X12_isDone {S : Nat → Prop} {u0 u : gM} {x1 : Int32} (hs0 : S 0) (hs1 : S 17)   {w : (Int32 × gM)} (hM : X12_isDone x1 u = some w) (h0 : off S u0 u) : off S u0 w.2 := by
  unfold X12_isDone at hM
  by_cases c1 : x1 = 0
  · rw [if_pos c1] at hM
    exact fr_X12_isDone_b8   hM h0
  · rw [if_neg c1] at hM
    obtain ⟨w5, e5, hM⟩ := bind_of hM
    have h0 := fr_X12_keeps hs0 hs1 e5 h0
    exact fr_X12_isDone_b8   hM h0
/-! CoverDeskModel.fail(II)Z -/
theorem dX12_fail_0 : decode cX12_fail 0 = .ok (.aload_n 0, 1) := by decide +kernel
theorem dX12_fail_1 : decode cX12_fail 1 = .ok (.invokevirtual 390, 3) := by decide +kernel
theorem dX12_fail_4 : decode cX12_fail 4 = .ok (.aload_n 0, 1) := by decide +kernel
theorem dX12_fail_5 : decode cX12_fail 5 = .ok (.aload_n 0, 1) := by decide +kernel
theorem dX12_fail_6 : decode cX12_fail 6 = .ok (.iload_n 1, 1) := by decide +kernel
theorem dX12_fail_7 : decode cX12_fail 7 = .ok (.iload_n 2, 1) := by decide +kernel
theorem dX12_fail_8 : decode cX12_fail 8 = .ok (.invokevirtual 413, 3) := by decide +kernel
theorem dX12_fail_11 : decode cX12_fail 11 = .ok (.invokevirtual 397, 3) := by decide +kernel
theorem dX12_fail_14 : decode cX12_fail 14 = .ok (.ireturn, 1) := by decide +kernel
def X12_fail  (x1 : Int32) (x2 : Int32) (u : gM) : Option (Int32 × gM) :=
((X12_laysAside u).bind fun w1 => ((X12_falls x1 x2 w1).bind fun w8 => ((X12_isDone w8.1 w8.2).bind fun w11 => ((bI w11.1).bind fun v14 => some (v14, w11.2)))))
set_option maxRecDepth 20000 in
theorem v_X12_fail {κ : gK} {B : Nat} {u : gM} (X : gX κ B skM cX12_fail 3 RX12 (some .boolean) 8 203)   {x1 : Int32} {x2 : Int32} {w : (Int32 × gM)} (hM : X12_fail x1 x2 u = some w) : gV κ B skM 3 ((some (.int w.1)), w.2) 0 [some (.ref (B + 0)), some (.int x1), some (.int x2)] [] u := by
  unfold X12_fail at hM
  refine g_aload_n X dX12_fail_0 rfl ?_
  obtain ⟨w1, e1, hM⟩ := bind_of hM
  refine g_callVv X (fun B adK => []) (s_X12_laysAside e1) cvX12_390 cM_0 rfl rfl (Nat.le_of_ble_eq_true rfl) ⟨by decide, by decide⟩ dX12_fail_1 ?_
  refine g_aload_n X dX12_fail_4 rfl ?_
  refine g_aload_n X dX12_fail_5 rfl ?_
  refine g_iload_n X dX12_fail_6 rfl ?_
  refine g_iload_n X dX12_fail_7 rfl ?_
  obtain ⟨w8, e8, hM⟩ := bind_of hM
  refine g_callVi X (fun B adK => [.int x1, .int x2]) (s_X12_falls e8) cvX12_413 cM_0 rfl rfl (Nat.le_of_ble_eq_true rfl) ⟨by decide, by decide⟩ dX12_fail_8 ?_
  obtain ⟨w11, e11, hM⟩ := bind_of hM
  refine g_callVi X (fun B adK => [.int w8.1]) (s_X12_isDone e11) cvX12_397 cM_0 rfl rfl (Nat.le_of_ble_eq_true rfl) ⟨by decide, by decide⟩ dX12_fail_11 ?_
  obtain ⟨v14, e14, hM⟩ := bind_of hM
  obtain ⟨hv, rfl⟩ := bI_of e14
  cases hM
  exact g_zret X hv dX12_fail_14
theorem s_X12_fail {x1 : Int32} {x2 : Int32} {u : gM} {w : (Int32 × gM)} (hM : X12_fail x1 x2 u = some w) : gMet skM yX12_fail cX12_fail 3 (some .boolean) 8 203 (fun B adK => [.ref (B + 0), .int x1, .int x2]) u ((fun _ => some (.int w.1)), w.2) := by
  refine gMet.of (by decide) (fun _ _ => Nat.le_of_ble_eq_true rfl) (fun κ B X => ?_)
  have X : gX κ B skM cX12_fail 3 RX12 (some .boolean) 8 203 := X
  refine g_mk [true, true, true] [some (.ref (B + 0)), some (.int x1), some (.int x2)] rfl ?_
  exact v_X12_fail X  hM
theorem fr_X12_fail {S : Nat → Prop} {u0 u : gM} {x1 : Int32} {x2 : Int32} (hs0 : S 0) (hs1 : S 16) (hs2 : S 17) (hs3 : S 18) (hs4 : S 20) (hs5 : S 21) (hs6 : S 22) (hs7 : S 23) (hs8 : S 24) (hs9 : S 25) (hs10 : S 26)   {w : (Int32 × gM)} (hM : X12_fail x1 x2 u = some w) (h0 : off S u0 u) : off S u0 w.2 := by
  unfold X12_fail at hM
  obtain ⟨w1, e1, hM⟩ := bind_of hM
  have h0 := fr_X12_laysAside hs3 e1 h0
  obtain ⟨w8, e8, hM⟩ := bind_of hM
  have h0 := fr_X12_falls hs1 hs4 hs5 hs6 hs7 hs8 hs9 hs10 e8 h0
  obtain ⟨w11, e11, hM⟩ := bind_of hM
  have h0 := fr_X12_isDone hs0 hs2 e11 h0
  obtain ⟨v14, e14, hM⟩ := bind_of hM
  cases hM
  exact h0
/-! CoverDeskModel.fault(I)I -/
theorem dX12_fault_0 : decode cX12_fault 0 = .ok (.iload_n 1, 1) := by decide +kernel
theorem dX12_fault_1 : decode cX12_fault 1 = .ok (.ifCond .ne 10, 3) := by decide +kernel
theorem dX12_fault_4 : decode cX12_fault 4 = .ok (.aload_n 0, 1) := by decide +kernel
theorem dX12_fault_5 : decode cX12_fault 5 = .ok (.getfield 287, 3) := by decide +kernel
theorem dX12_fault_8 : decode cX12_fault 8 = .ok (.goto 16, 3) := by decide +kernel
theorem dX12_fault_11 : decode cX12_fault 11 = .ok (.iload_n 1, 1) := by decide +kernel
theorem dX12_fault_12 : decode cX12_fault 12 = .ok (.iconst 1, 1) := by decide +kernel
theorem dX12_fault_13 : decode cX12_fault 13 = .ok (.if_icmp .ne 10, 3) := by decide +kernel
theorem dX12_fault_16 : decode cX12_fault 16 = .ok (.aload_n 0, 1) := by decide +kernel
theorem dX12_fault_17 : decode cX12_fault 17 = .ok (.getfield 68, 3) := by decide +kernel
theorem dX12_fault_20 : decode cX12_fault 20 = .ok (.goto 4, 3) := by decide +kernel
theorem dX12_fault_23 : decode cX12_fault 23 = .ok (.iconst (-1), 1) := by decide +kernel
theorem dX12_fault_24 : decode cX12_fault 24 = .ok (.ireturn, 1) := by decide +kernel
def X12_fault_b24 (u : gM)  (s0 : Int32) : Option Int32 :=
some s0
def X12_fault (u : gM)  (x1 : Int32) : Option Int32 :=
(if x1 = 0 then (X12_fault_b24 u (u.1 0 21))
  else (if x1 = 1 then (X12_fault_b24 u (u.1 0 22))
    else (X12_fault_b24 u (-1))))
set_option maxRecDepth 20000 in
theorem v_X12_fault_b24 {κ : gK} {B : Nat} {u : gM} (X : gX κ B skM cX12_fault 2 RX12 (some .int) 0 0)   {s0 : Int32} {w : Int32} (hM : X12_fault_b24 u s0 = some w) : gV κ B skM 2 ((some (.int w)), u) 24 [none, none] [.int s0] u := by
  unfold X12_fault_b24 at hM
  cases hM
  exact g_iret X dX12_fault_24
set_option maxRecDepth 20000 in
theorem v_X12_fault {κ : gK} {B : Nat} {u : gM} (X : gX κ B skM cX12_fault 2 RX12 (some .int) 0 0)   {x1 : Int32} {w : Int32} (hM : X12_fault u x1 = some w) : gV κ B skM 2 ((some (.int w)), u) 0 [some (.ref (B + 0)), some (.int x1)] [] u := by
  unfold X12_fault at hM
  refine g_iload_n X dX12_fault_0 rfl ?_
  refine g_if_ne (tgt := 11) X dX12_fault_1 (by decide) (fun c1 => ?_) (fun c1 => ?_)
  · rw [if_neg c1] at hM
    refine g_iload_n X dX12_fault_11 rfl ?_
    refine g_iconst X (v := 1) dX12_fault_12 (by decide) ?_
    refine g_icmp_ne (tgt := 23) X dX12_fault_13 (by decide) (fun c13 => ?_) (fun c13 => ?_)
    · rw [if_neg c13] at hM
      refine g_iconst X (v := (-1)) dX12_fault_23 (by decide) ?_
      refine g_mk [false, false] [none, none] rfl ?_
      exact v_X12_fault_b24 X  hM
    · rw [if_pos c13] at hM
      refine g_aload_n X dX12_fault_16 rfl ?_
      refine g_getI X fX12_68 cM_0 rfl dX12_fault_17 ?_
      refine g_goto (tgt := 24) X dX12_fault_20 (by decide) ?_
      refine g_mk [false, false] [none, none] rfl ?_
      exact v_X12_fault_b24 X  hM
  · rw [if_pos c1] at hM
    refine g_aload_n X dX12_fault_4 rfl ?_
    refine g_getI X fX12_287 cM_0 rfl dX12_fault_5 ?_
    refine g_goto (tgt := 24) X dX12_fault_8 (by decide) ?_
    refine g_mk [false, false] [none, none] rfl ?_
    exact v_X12_fault_b24 X  hM
theorem s_X12_fault {x1 : Int32} {u : gM} {w : Int32} (hM : X12_fault u x1 = some w) : gMet skM yX12_fault cX12_fault 2 (some .int) 0 0 (fun B adK => [.ref (B + 0), .int x1]) u ((fun _ => some (.int w)), u) := by
  refine gMet.of (by decide) (fun _ _ => Nat.le_of_ble_eq_true rfl) (fun κ B X => ?_)
  have X : gX κ B skM cX12_fault 2 RX12 (some .int) 0 0 := X
  refine g_mk [true, true] [some (.ref (B + 0)), some (.int x1)] rfl ?_
  exact v_X12_fault X  hM

/-! CoverDeskModel.four(I)V -/
theorem dX12_four_0 : decode cX12_four 0 = .ok (.bipush 24, 2) := by decide +kernel
theorem dX12_four_2 : decode cX12_four 2 = .ok (.istore_n 2, 1) := by decide +kernel
theorem dX12_four_3 : decode cX12_four 3 = .ok (.iload_n 2, 1) := by decide +kernel
theorem dX12_four_4 : decode cX12_four 4 = .ok (.ifCond .lt 35, 3) := by decide +kernel
theorem dX12_four_7 : decode cX12_four 7 = .ok (.aload_n 0, 1) := by decide +kernel
theorem dX12_four_8 : decode cX12_four 8 = .ok (.getfield 65, 3) := by decide +kernel
theorem dX12_four_11 : decode cX12_four 11 = .ok (.aload_n 0, 1) := by decide +kernel
theorem dX12_four_12 : decode cX12_four 12 = .ok (.getfield 118, 3) := by decide +kernel
theorem dX12_four_15 : decode cX12_four 15 = .ok (.iload_n 1, 1) := by decide +kernel
theorem dX12_four_16 : decode cX12_four 16 = .ok (.iload_n 2, 1) := by decide +kernel
theorem dX12_four_17 : decode cX12_four 17 = .ok (.ishr, 1) := by decide +kernel
theorem dX12_four_18 : decode cX12_four 18 = .ok (.sipush 255, 3) := by decide +kernel
theorem dX12_four_21 : decode cX12_four 21 = .ok (.iand, 1) := by decide +kernel
theorem dX12_four_22 : decode cX12_four 22 = .ok (.iastore, 1) := by decide +kernel
theorem dX12_four_23 : decode cX12_four 23 = .ok (.aload_n 0, 1) := by decide +kernel
theorem dX12_four_24 : decode cX12_four 24 = .ok (.dup, 1) := by decide +kernel
theorem dX12_four_25 : decode cX12_four 25 = .ok (.getfield 118, 3) := by decide +kernel
theorem dX12_four_28 : decode cX12_four 28 = .ok (.iconst 1, 1) := by decide +kernel
theorem dX12_four_29 : decode cX12_four 29 = .ok (.iadd, 1) := by decide +kernel
theorem dX12_four_30 : decode cX12_four 30 = .ok (.putfield 118, 3) := by decide +kernel
theorem dX12_four_33 : decode cX12_four 33 = .ok (.iinc 2 (-8), 3) := by decide +kernel
theorem dX12_four_36 : decode cX12_four 36 = .ok (.goto (-33), 3) := by decide +kernel
theorem dX12_four_39 : decode cX12_four 39 = .ok (.return_, 1) := by decide +kernel
def X12_four_b3 (k3 : Int32 → Int32 → gM → Option gM) (x1 : Int32) (x2 : Int32) (u : gM) : Option gM :=
(if x2 < 0 then some u
  else ((sI skM u 19 (u.1 0 20) ((x1 >>> (x2 &&& 31)) &&& 255)).bind fun u22 => (k3 x1 (x2 + (-8)) (upI u22 0 20 ((u22.1 0 20) + 1)))))
def X12_four_l3  : Nat → Int32 → Int32 → gM → Option gM
  | 0, _, _, _ => none
  | n + 1, x1, x2, u => X12_four_b3  (X12_four_l3  n) x1 x2 u
def X12_four  (x1 : Int32) (u : gM) : Option gM :=
(X12_four_l3 fz x1 24 u)
set_option maxRecDepth 20000 in
theorem v_X12_four_b3 {κ : gK} {B : Nat} {u : gM} (X : gX κ B skM cX12_four 3 RX12 none 0 0) {k3 : Int32 → Int32 → gM → Option gM} (ih3 : ∀ (x1 : Int32) (x2 : Int32) (u : gM) (w : gM), k3 x1 x2 u = some w → gV κ B skM 3 ((none), w) 3 [some (.ref (B + 0)), some (.int x1), some (.int x2)] [] u) {x1 : Int32} {x2 : Int32} {w : gM} (hM : X12_four_b3 k3 x1 x2 u = some w) : gV κ B skM 3 ((none), w) 3 [some (.ref (B + 0)), some (.int x1), some (.int x2)] [] u := by
  unfold X12_four_b3 at hM
  refine g_iload_n X dX12_four_3 rfl ?_
  refine g_if_lt (tgt := 39) X dX12_four_4 (by decide) (fun c4 => ?_) (fun c4 => ?_)
  · rw [if_pos c4] at hM
    cases hM
    exact g_vret X dX12_four_39
  · rw [if_neg c4] at hM
    refine g_aload_n X dX12_four_7 rfl ?_
    refine g_getR X fX12_65 cM_0 rfl dX12_four_8 ?_
    refine g_aload_n X dX12_four_11 rfl ?_
    refine g_getI X fX12_118 cM_0 rfl dX12_four_12 ?_
    refine g_iload_n X dX12_four_15 rfl ?_
    refine g_iload_n X dX12_four_16 rfl ?_
    refine g_ishr X dX12_four_17 ?_
    refine g_sipush X (v := 255) dX12_four_18 (by decide) ?_
    refine g_iand X dX12_four_21 ?_
    obtain ⟨u22, e22, hM⟩ := bind_of hM
    refine g_iastore X e22 dX12_four_22 ?_
    refine g_aload_n X dX12_four_23 rfl ?_
    refine g_dup X rfl dX12_four_24 ?_
    refine g_getI X fX12_118 cM_0 rfl dX12_four_25 ?_
    refine g_iconst X (v := 1) dX12_four_28 (by decide) ?_
    refine g_iadd X dX12_four_29 ?_
    refine g_putI X fX12_118 gc_X12 gp_X12_20 cM_0 rfl dX12_four_30 ?_
    refine g_iinc (d := (-8)) X [some (.ref (B + 0)), some (.int x1), some (.int (x2 + (-8)))] dX12_four_33 (by decide) rfl (by decide) rfl ?_
    refine g_goto (tgt := 3) X dX12_four_36 (by decide) ?_
    refine g_mk [true, true, true] [some (.ref (B + 0)), some (.int x1), some (.int (x2 + (-8)))] rfl ?_
    exact ih3 x1 (x2 + (-8)) (upI u22 0 20 ((u22.1 0 20) + 1)) _ hM
theorem v_X12_four_l3 {κ : gK} {B : Nat} (X : gX κ B skM cX12_four 3 RX12 none 0 0)   : ∀ (n : Nat) {x1 : Int32} {x2 : Int32} {u : gM} {w : gM} (hM : X12_four_l3  n x1 x2 u = some w), gV κ B skM 3 ((none), w) 3 [some (.ref (B + 0)), some (.int x1), some (.int x2)] [] u := by
  intro n
  induction n with
  | zero => intro x1 x2 u w hM; exact nomatch (show (none : Option gM) = some w from hM)
  | succ n ihn => intro x1 x2 u w hM; exact v_X12_four_b3 X  (fun x1 x2 u w h => ihn h) hM
set_option maxRecDepth 20000 in
theorem v_X12_four {κ : gK} {B : Nat} {u : gM} (X : gX κ B skM cX12_four 3 RX12 none 0 0)   {x1 : Int32} {w : gM} (hM : X12_four x1 u = some w) : gV κ B skM 3 ((none), w) 0 [some (.ref (B + 0)), some (.int x1), none] [] u := by
  unfold X12_four at hM
  refine g_bipush X (v := 24) dX12_four_0 (by decide) ?_
  refine g_istore_n X [some (.ref (B + 0)), some (.int x1), some (.int 24)] dX12_four_2 (by decide) rfl ?_
  refine g_mk [true, true, true] [some (.ref (B + 0)), some (.int x1), some (.int 24)] rfl ?_
  exact v_X12_four_l3 X  fz hM
theorem s_X12_four {x1 : Int32} {u : gM} {w : gM} (hM : X12_four x1 u = some w) : gMet skM yX12_four cX12_four 3 none 0 0 (fun B adK => [.ref (B + 0), .int x1]) u ((fun _ => none), w) := by
  refine gMet.of (by decide) (fun _ _ => Nat.le_of_ble_eq_true rfl) (fun κ B X => ?_)
  have X : gX κ B skM cX12_four 3 RX12 none 0 0 := X
  refine g_mk [true, true, false] [some (.ref (B + 0)), some (.int x1), none] rfl ?_
  exact v_X12_four X  hM
theorem fr_X12_four_b3 {S : Nat → Prop} {u0 u : gM} {x1 : Int32} {x2 : Int32} (hs0 : S 0) (hs1 : S 19) {k3 : Int32 → Int32 → gM → Option gM} (ik3 : ∀ (x1 : Int32) (x2 : Int32) (u : gM) (w : gM), S 0 → S 19 → off S u0 u → k3 x1 x2 u = some w → off S u0 w) {w : gM} (hM : X12_four_b3 k3 x1 x2 u = some w) (h0 : off S u0 u) : off S u0 w := by
  unfold X12_four_b3 at hM
  by_cases c4 : x2 < 0
  · rw [if_pos c4] at hM
    cases hM
    exact h0
  · rw [if_neg c4] at hM
    obtain ⟨u22, e22, hM⟩ := bind_of hM
    have h0 := off_sI hs1 e22 h0
    have h0 := off_upI (u := u22) (k := 0) (j := 20) (x := ((u22.1 0 20) + 1)) hs0 h0
    exact ik3 _ _ _ _ hs0 hs1 h0 hM
theorem fr_X12_four_l3 {S : Nat → Prop} {u0 : gM}   : ∀ (n : Nat) {x1 : Int32} {x2 : Int32} (hs0 : S 0) (hs1 : S 19) {u : gM} {w : gM} (h0 : off S u0 u) (hM : X12_four_l3  n x1 x2 u = some w), off S u0 w := by
  intro n
  induction n with
  | zero => intro x1 x2 hs0 hs1 u w h0 hM; exact nomatch (show (none : Option gM) = some w from hM)
  | succ n ihn => intro x1 x2 hs0 hs1 u w h0 hM; exact fr_X12_four_b3 hs0 hs1  (fun x1 x2 _ _ hs0 hs1 h0 h => ihn hs0 hs1 h0 h) hM h0
theorem fr_X12_four {S : Nat → Prop} {u0 u : gM} {x1 : Int32} (hs0 : S 0) (hs1 : S 19)   {w : gM} (hM : X12_four x1 u = some w) (h0 : off S u0 u) : off S u0 w := by
  unfold X12_four at hM
  exact fr_X12_four_l3  fz hs0 hs1 h0 hM
/-! CoverDeskModel.feed(IIIII)I -/
theorem dX12_feed_0 : decode cX12_feed 0 = .ok (.aload_n 0, 1) := by decide +kernel
theorem dX12_feed_1 : decode cX12_feed 1 = .ok (.getfield 118, 3) := by decide +kernel
theorem dX12_feed_4 : decode cX12_feed 4 = .ok (.bipush 20, 2) := by decide +kernel
theorem dX12_feed_6 : decode cX12_feed 6 = .ok (.iadd, 1) := by decide +kernel
theorem dX12_feed_7 : decode cX12_feed 7 = .ok (.sipush 700, 3) := by decide +kernel
theorem dX12_feed_10 : decode cX12_feed 10 = .ok (.if_icmp .le 5, 3) := by decide +kernel
theorem dX12_feed_13 : decode cX12_feed 13 = .ok (.iconst (-1), 1) := by decide +kernel
theorem dX12_feed_14 : decode cX12_feed 14 = .ok (.ireturn, 1) := by decide +kernel
theorem dX12_feed_15 : decode cX12_feed 15 = .ok (.aload_n 0, 1) := by decide +kernel
theorem dX12_feed_16 : decode cX12_feed 16 = .ok (.iload_n 1, 1) := by decide +kernel
theorem dX12_feed_17 : decode cX12_feed 17 = .ok (.invokevirtual 121, 3) := by decide +kernel
theorem dX12_feed_20 : decode cX12_feed 20 = .ok (.aload_n 0, 1) := by decide +kernel
theorem dX12_feed_21 : decode cX12_feed 21 = .ok (.iload_n 2, 1) := by decide +kernel
theorem dX12_feed_22 : decode cX12_feed 22 = .ok (.invokevirtual 121, 3) := by decide +kernel
theorem dX12_feed_25 : decode cX12_feed 25 = .ok (.aload_n 0, 1) := by decide +kernel
theorem dX12_feed_26 : decode cX12_feed 26 = .ok (.iload_n 3, 1) := by decide +kernel
theorem dX12_feed_27 : decode cX12_feed 27 = .ok (.invokevirtual 121, 3) := by decide +kernel
theorem dX12_feed_30 : decode cX12_feed 30 = .ok (.aload_n 0, 1) := by decide +kernel
theorem dX12_feed_31 : decode cX12_feed 31 = .ok (.iload 4, 2) := by decide +kernel
theorem dX12_feed_33 : decode cX12_feed 33 = .ok (.invokevirtual 121, 3) := by decide +kernel
theorem dX12_feed_36 : decode cX12_feed 36 = .ok (.aload_n 0, 1) := by decide +kernel
theorem dX12_feed_37 : decode cX12_feed 37 = .ok (.iload 5, 2) := by decide +kernel
theorem dX12_feed_39 : decode cX12_feed 39 = .ok (.invokevirtual 121, 3) := by decide +kernel
theorem dX12_feed_42 : decode cX12_feed 42 = .ok (.aload_n 0, 1) := by decide +kernel
theorem dX12_feed_43 : decode cX12_feed 43 = .ok (.getfield 118, 3) := by decide +kernel
theorem dX12_feed_46 : decode cX12_feed 46 = .ok (.ireturn, 1) := by decide +kernel
def X12_feed  (x1 : Int32) (x2 : Int32) (x3 : Int32) (x4 : Int32) (x5 : Int32) (u : gM) : Option (Int32 × gM) :=
(if ((u.1 0 20) + 20) ≤ 700 then ((X12_four x1 u).bind fun w17 => ((X12_four x2 w17).bind fun w22 => ((X12_four x3 w22).bind fun w27 => ((X12_four x4 w27).bind fun w33 => ((X12_four x5 w33).bind fun w39 => some ((w39.1 0 20), w39))))))
  else some ((-1), u))
set_option maxRecDepth 20000 in
theorem v_X12_feed {κ : gK} {B : Nat} {u : gM} (X : gX κ B skM cX12_feed 6 RX12 (some .int) 1 22)   {x1 : Int32} {x2 : Int32} {x3 : Int32} {x4 : Int32} {x5 : Int32} {w : (Int32 × gM)} (hM : X12_feed x1 x2 x3 x4 x5 u = some w) : gV κ B skM 6 ((some (.int w.1)), w.2) 0 [some (.ref (B + 0)), some (.int x1), some (.int x2), some (.int x3), some (.int x4), some (.int x5)] [] u := by
  unfold X12_feed at hM
  refine g_aload_n X dX12_feed_0 rfl ?_
  refine g_getI X fX12_118 cM_0 rfl dX12_feed_1 ?_
  refine g_bipush X (v := 20) dX12_feed_4 (by decide) ?_
  refine g_iadd X dX12_feed_6 ?_
  refine g_sipush X (v := 700) dX12_feed_7 (by decide) ?_
  refine g_icmp_le (tgt := 15) X dX12_feed_10 (by decide) (fun c10 => ?_) (fun c10 => ?_)
  · rw [if_pos c10] at hM
    refine g_aload_n X dX12_feed_15 rfl ?_
    refine g_iload_n X dX12_feed_16 rfl ?_
    obtain ⟨w17, e17, hM⟩ := bind_of hM
    refine g_callVv X (fun B adK => [.int x1]) (s_X12_four e17) cvX12_121 cM_0 rfl rfl (Nat.le_of_ble_eq_true rfl) ⟨by decide, by decide⟩ dX12_feed_17 ?_
    refine g_aload_n X dX12_feed_20 rfl ?_
    refine g_iload_n X dX12_feed_21 rfl ?_
    obtain ⟨w22, e22, hM⟩ := bind_of hM
    refine g_callVv X (fun B adK => [.int x2]) (s_X12_four e22) cvX12_121 cM_0 rfl rfl (Nat.le_of_ble_eq_true rfl) ⟨by decide, by decide⟩ dX12_feed_22 ?_
    refine g_aload_n X dX12_feed_25 rfl ?_
    refine g_iload_n X dX12_feed_26 rfl ?_
    obtain ⟨w27, e27, hM⟩ := bind_of hM
    refine g_callVv X (fun B adK => [.int x3]) (s_X12_four e27) cvX12_121 cM_0 rfl rfl (Nat.le_of_ble_eq_true rfl) ⟨by decide, by decide⟩ dX12_feed_27 ?_
    refine g_aload_n X dX12_feed_30 rfl ?_
    refine g_iload X dX12_feed_31 rfl ?_
    obtain ⟨w33, e33, hM⟩ := bind_of hM
    refine g_callVv X (fun B adK => [.int x4]) (s_X12_four e33) cvX12_121 cM_0 rfl rfl (Nat.le_of_ble_eq_true rfl) ⟨by decide, by decide⟩ dX12_feed_33 ?_
    refine g_aload_n X dX12_feed_36 rfl ?_
    refine g_iload X dX12_feed_37 rfl ?_
    obtain ⟨w39, e39, hM⟩ := bind_of hM
    refine g_callVv X (fun B adK => [.int x5]) (s_X12_four e39) cvX12_121 cM_0 rfl rfl (Nat.le_of_ble_eq_true rfl) ⟨by decide, by decide⟩ dX12_feed_39 ?_
    refine g_aload_n X dX12_feed_42 rfl ?_
    refine g_getI X fX12_118 cM_0 rfl dX12_feed_43 ?_
    cases hM
    exact g_iret X dX12_feed_46
  · rw [if_neg c10] at hM
    refine g_iconst X (v := (-1)) dX12_feed_13 (by decide) ?_
    cases hM
    exact g_iret X dX12_feed_14
theorem s_X12_feed {x1 : Int32} {x2 : Int32} {x3 : Int32} {x4 : Int32} {x5 : Int32} {u : gM} {w : (Int32 × gM)} (hM : X12_feed x1 x2 x3 x4 x5 u = some w) : gMet skM yX12_feed cX12_feed 6 (some .int) 1 22 (fun B adK => [.ref (B + 0), .int x1, .int x2, .int x3, .int x4, .int x5]) u ((fun _ => some (.int w.1)), w.2) := by
  refine gMet.of (by decide) (fun _ _ => Nat.le_of_ble_eq_true rfl) (fun κ B X => ?_)
  have X : gX κ B skM cX12_feed 6 RX12 (some .int) 1 22 := X
  refine g_mk [true, true, true, true, true, true] [some (.ref (B + 0)), some (.int x1), some (.int x2), some (.int x3), some (.int x4), some (.int x5)] rfl ?_
  exact v_X12_feed X  hM
theorem fr_X12_feed {S : Nat → Prop} {u0 u : gM} {x1 : Int32} {x2 : Int32} {x3 : Int32} {x4 : Int32} {x5 : Int32} (hs0 : S 0) (hs1 : S 19)   {w : (Int32 × gM)} (hM : X12_feed x1 x2 x3 x4 x5 u = some w) (h0 : off S u0 u) : off S u0 w.2 := by
  unfold X12_feed at hM
  by_cases c10 : ((u.1 0 20) + 20) ≤ 700
  · rw [if_pos c10] at hM
    obtain ⟨w17, e17, hM⟩ := bind_of hM
    have h0 := fr_X12_four hs0 hs1 e17 h0
    obtain ⟨w22, e22, hM⟩ := bind_of hM
    have h0 := fr_X12_four hs0 hs1 e22 h0
    obtain ⟨w27, e27, hM⟩ := bind_of hM
    have h0 := fr_X12_four hs0 hs1 e27 h0
    obtain ⟨w33, e33, hM⟩ := bind_of hM
    have h0 := fr_X12_four hs0 hs1 e33 h0
    obtain ⟨w39, e39, hM⟩ := bind_of hM
    have h0 := fr_X12_four hs0 hs1 e39 h0
    cases hM
    exact h0
  · rw [if_neg c10] at hM
    cases hM
    exact h0
/-! CoverDeskModel.isPerson(I)Z -/
theorem dX12_isPerson_0 : decode cX12_isPerson 0 = .ok (.iload_n 1, 1) := by decide +kernel
theorem dX12_isPerson_1 : decode cX12_isPerson 1 = .ok (.i2l, 1) := by decide +kernel
theorem dX12_isPerson_2 : decode cX12_isPerson 2 = .ok (.lconst 0, 1) := by decide +kernel
theorem dX12_isPerson_3 : decode cX12_isPerson 3 = .ok (.aload_n 0, 1) := by decide +kernel
theorem dX12_isPerson_4 : decode cX12_isPerson 4 = .ok (.getfield 7, 3) := by decide +kernel
theorem dX12_isPerson_7 : decode cX12_isPerson 7 = .ok (.iconst 0, 1) := by decide +kernel
theorem dX12_isPerson_8 : decode cX12_isPerson 8 = .ok (.iaload, 1) := by decide +kernel
theorem dX12_isPerson_9 : decode cX12_isPerson 9 = .ok (.iconst 1, 1) := by decide +kernel
theorem dX12_isPerson_10 : decode cX12_isPerson 10 = .ok (.isub, 1) := by decide +kernel
theorem dX12_isPerson_11 : decode cX12_isPerson 11 = .ok (.i2l, 1) := by decide +kernel
theorem dX12_isPerson_12 : decode cX12_isPerson 12 = .ok (.invokestatic 125, 3) := by decide +kernel
theorem dX12_isPerson_15 : decode cX12_isPerson 15 = .ok (.ireturn, 1) := by decide +kernel
def X12_isPerson (u : gM)  (x1 : Int32) : Option Int32 :=
((aI skM u 1 0).bind fun v8 => ((X12_isIn u x1.toInt64 0 (v8 - 1).toInt64).bind fun w12 => bI w12))
set_option maxRecDepth 20000 in
theorem v_X12_isPerson {κ : gK} {B : Nat} {u : gM} (X : gX κ B skM cX12_isPerson 2 RX12 (some .boolean) 1 25)   {x1 : Int32} {w : Int32} (hM : X12_isPerson u x1 = some w) : gV κ B skM 2 ((some (.int w)), u) 0 [some (.ref (B + 0)), some (.int x1)] [] u := by
  unfold X12_isPerson at hM
  refine g_iload_n X dX12_isPerson_0 rfl ?_
  refine g_i2l X dX12_isPerson_1 ?_
  refine g_lconst (v := 0) X dX12_isPerson_2 (by decide) ?_
  refine g_aload_n X dX12_isPerson_3 rfl ?_
  refine g_getR X fX12_7 cM_0 rfl dX12_isPerson_4 ?_
  refine g_iconst X (v := 0) dX12_isPerson_7 (by decide) ?_
  obtain ⟨v8, e8, hM⟩ := bind_of hM
  refine g_iaload X e8 dX12_isPerson_8 ?_
  refine g_iconst X (v := 1) dX12_isPerson_9 (by decide) ?_
  refine g_isub X dX12_isPerson_10 ?_
  refine g_i2l X dX12_isPerson_11 ?_
  obtain ⟨w12, e12, hM⟩ := bind_of hM
  refine g_callSi X (fun B adK => [.long x1.toInt64, .long 0, .long (v8 - 1).toInt64]) (s_X12_isIn e12) cvX12_125 rfl rfl (Nat.le_of_ble_eq_true rfl) ⟨by decide, by decide⟩ dX12_isPerson_12 ?_
  obtain ⟨hv, rfl⟩ := bI_of hM
  exact g_zret X hv dX12_isPerson_15
theorem s_X12_isPerson {x1 : Int32} {u : gM} {w : Int32} (hM : X12_isPerson u x1 = some w) : gMet skM yX12_isPerson cX12_isPerson 2 (some .boolean) 1 25 (fun B adK => [.ref (B + 0), .int x1]) u ((fun _ => some (.int w)), u) := by
  refine gMet.of (by decide) (fun _ _ => Nat.le_of_ble_eq_true rfl) (fun κ B X => ?_)
  have X : gX κ B skM cX12_isPerson 2 RX12 (some .boolean) 1 25 := X
  refine g_mk [true, true] [some (.ref (B + 0)), some (.int x1)] rfl ?_
  exact v_X12_isPerson X  hM

/-! CoverDeskModel.group(IIIII)J -/
theorem dX12_group_0 : decode cX12_group 0 = .ok (.aload_n 0, 1) := by decide +kernel
theorem dX12_group_1 : decode cX12_group 1 = .ok (.iload_n 1, 1) := by decide +kernel
theorem dX12_group_2 : decode cX12_group 2 = .ok (.invokevirtual 446, 3) := by decide +kernel
theorem dX12_group_5 : decode cX12_group 5 = .ok (.ifCond .eq 49, 3) := by decide +kernel
theorem dX12_group_8 : decode cX12_group 8 = .ok (.iload_n 2, 1) := by decide +kernel
theorem dX12_group_9 : decode cX12_group 9 = .ok (.i2l, 1) := by decide +kernel
theorem dX12_group_10 : decode cX12_group 10 = .ok (.lconst 0, 1) := by decide +kernel
theorem dX12_group_11 : decode cX12_group 11 = .ok (.ldc2_w 444, 3) := by decide +kernel
theorem dX12_group_14 : decode cX12_group 14 = .ok (.invokestatic 125, 3) := by decide +kernel
theorem dX12_group_17 : decode cX12_group 17 = .ok (.ifCond .eq 37, 3) := by decide +kernel
theorem dX12_group_20 : decode cX12_group 20 = .ok (.aload_n 0, 1) := by decide +kernel
theorem dX12_group_21 : decode cX12_group 21 = .ok (.iload_n 3, 1) := by decide +kernel
theorem dX12_group_22 : decode cX12_group 22 = .ok (.invokevirtual 369, 3) := by decide +kernel
theorem dX12_group_25 : decode cX12_group 25 = .ok (.ifCond .eq 29, 3) := by decide +kernel
theorem dX12_group_28 : decode cX12_group 28 = .ok (.iload 4, 2) := by decide +kernel
theorem dX12_group_30 : decode cX12_group 30 = .ok (.i2l, 1) := by decide +kernel
theorem dX12_group_31 : decode cX12_group 31 = .ok (.lconst 0, 1) := by decide +kernel
theorem dX12_group_32 : decode cX12_group 32 = .ok (.ldc2_w 449, 3) := by decide +kernel
theorem dX12_group_35 : decode cX12_group 35 = .ok (.invokestatic 125, 3) := by decide +kernel
theorem dX12_group_38 : decode cX12_group 38 = .ok (.ifCond .eq 16, 3) := by decide +kernel
theorem dX12_group_41 : decode cX12_group 41 = .ok (.iload 5, 2) := by decide +kernel
theorem dX12_group_43 : decode cX12_group 43 = .ok (.i2l, 1) := by decide +kernel
theorem dX12_group_44 : decode cX12_group 44 = .ok (.lconst 0, 1) := by decide +kernel
theorem dX12_group_45 : decode cX12_group 45 = .ok (.ldc2_w 451, 3) := by decide +kernel
theorem dX12_group_48 : decode cX12_group 48 = .ok (.invokestatic 125, 3) := by decide +kernel
theorem dX12_group_51 : decode cX12_group 51 = .ok (.ifCond .ne 7, 3) := by decide +kernel
theorem dX12_group_54 : decode cX12_group 54 = .ok (.ldc2_w 341, 3) := by decide +kernel
theorem dX12_group_57 : decode cX12_group 57 = .ok (.lreturn, 1) := by decide +kernel
theorem dX12_group_58 : decode cX12_group 58 = .ok (.aload_n 0, 1) := by decide +kernel
theorem dX12_group_59 : decode cX12_group 59 = .ok (.iload_n 1, 1) := by decide +kernel
theorem dX12_group_60 : decode cX12_group 60 = .ok (.iload_n 2, 1) := by decide +kernel
theorem dX12_group_61 : decode cX12_group 61 = .ok (.iload_n 3, 1) := by decide +kernel
theorem dX12_group_62 : decode cX12_group 62 = .ok (.iload 4, 2) := by decide +kernel
theorem dX12_group_64 : decode cX12_group 64 = .ok (.invokevirtual 453, 3) := by decide +kernel
theorem dX12_group_67 : decode cX12_group 67 = .ok (.istore 6, 2) := by decide +kernel
theorem dX12_group_69 : decode cX12_group 69 = .ok (.aload_n 0, 1) := by decide +kernel
theorem dX12_group_70 : decode cX12_group 70 = .ok (.iload_n 1, 1) := by decide +kernel
theorem dX12_group_71 : decode cX12_group 71 = .ok (.iload_n 2, 1) := by decide +kernel
theorem dX12_group_72 : decode cX12_group 72 = .ok (.iload_n 3, 1) := by decide +kernel
theorem dX12_group_73 : decode cX12_group 73 = .ok (.iload 4, 2) := by decide +kernel
theorem dX12_group_75 : decode cX12_group 75 = .ok (.invokevirtual 355, 3) := by decide +kernel
theorem dX12_group_78 : decode cX12_group 78 = .ok (.lstore 7, 2) := by decide +kernel
theorem dX12_group_80 : decode cX12_group 80 = .ok (.iload 6, 2) := by decide +kernel
theorem dX12_group_82 : decode cX12_group 82 = .ok (.ifCond .ne 7, 3) := by decide +kernel
theorem dX12_group_85 : decode cX12_group 85 = .ok (.lconst 0, 1) := by decide +kernel
theorem dX12_group_86 : decode cX12_group 86 = .ok (.goto 12, 3) := by decide +kernel
theorem dX12_group_89 : decode cX12_group 89 = .ok (.aload_n 0, 1) := by decide +kernel
theorem dX12_group_90 : decode cX12_group 90 = .ok (.iload_n 1, 1) := by decide +kernel
theorem dX12_group_91 : decode cX12_group 91 = .ok (.iload_n 2, 1) := by decide +kernel
theorem dX12_group_92 : decode cX12_group 92 = .ok (.iload_n 3, 1) := by decide +kernel
theorem dX12_group_93 : decode cX12_group 93 = .ok (.iload 4, 2) := by decide +kernel
theorem dX12_group_95 : decode cX12_group 95 = .ok (.invokevirtual 347, 3) := by decide +kernel
theorem dX12_group_98 : decode cX12_group 98 = .ok (.lstore 9, 2) := by decide +kernel
theorem dX12_group_100 : decode cX12_group 100 = .ok (.iload 5, 2) := by decide +kernel
theorem dX12_group_102 : decode cX12_group 102 = .ok (.ifCond .ne 8, 3) := by decide +kernel
theorem dX12_group_105 : decode cX12_group 105 = .ok (.lload 7, 2) := by decide +kernel
theorem dX12_group_107 : decode cX12_group 107 = .ok (.goto 33, 3) := by decide +kernel
theorem dX12_group_110 : decode cX12_group 110 = .ok (.iload 5, 2) := by decide +kernel
theorem dX12_group_112 : decode cX12_group 112 = .ok (.iconst 1, 1) := by decide +kernel
theorem dX12_group_113 : decode cX12_group 113 = .ok (.if_icmp .ne 8, 3) := by decide +kernel
theorem dX12_group_116 : decode cX12_group 116 = .ok (.lload 9, 2) := by decide +kernel
theorem dX12_group_118 : decode cX12_group 118 = .ok (.goto 22, 3) := by decide +kernel
theorem dX12_group_121 : decode cX12_group 121 = .ok (.iload 5, 2) := by decide +kernel
theorem dX12_group_123 : decode cX12_group 123 = .ok (.iconst 2, 1) := by decide +kernel
theorem dX12_group_124 : decode cX12_group 124 = .ok (.if_icmp .ne 13, 3) := by decide +kernel
theorem dX12_group_127 : decode cX12_group 127 = .ok (.lload 7, 2) := by decide +kernel
theorem dX12_group_129 : decode cX12_group 129 = .ok (.lload 9, 2) := by decide +kernel
theorem dX12_group_131 : decode cX12_group 131 = .ok (.invokestatic 338, 3) := by decide +kernel
theorem dX12_group_134 : decode cX12_group 134 = .ok (.goto 6, 3) := by decide +kernel
theorem dX12_group_137 : decode cX12_group 137 = .ok (.iload 6, 2) := by decide +kernel
theorem dX12_group_139 : decode cX12_group 139 = .ok (.i2l, 1) := by decide +kernel
theorem dX12_group_140 : decode cX12_group 140 = .ok (.lreturn, 1) := by decide +kernel
def X12_group_b54   (u : gM) : Option (Int64 × gM) :=
some ((-1), u)
def X12_group_b140  (s0 : Int64) (u : gM) : Option (Int64 × gM) :=
some (s0, u)
def X12_group_b98  (x5 : Int32) (x6 : Int32) (x7 : Int64) (s0 : Int64) (u : gM) : Option (Int64 × gM) :=
(if x5 = 0 then (X12_group_b140 x7 u)
  else (if x5 = 1 then (X12_group_b140 s0 u)
    else (if x5 = 2 then (X12_group_b140 (mnJ x7 s0) u)
      else (X12_group_b140 x6.toInt64 u))))
def X12_group  (x1 : Int32) (x2 : Int32) (x3 : Int32) (x4 : Int32) (x5 : Int32) (u : gM) : Option (Int64 × gM) :=
((X12_isPerson u x1).bind fun w2 => (if w2 = 0 then (X12_group_b54 u)
  else ((X12_isIn u x2.toInt64 0 4).bind fun w14 => (if w14 = 0 then (X12_group_b54 u)
    else ((X12_isBank u x3).bind fun w22 => (if w22 = 0 then (X12_group_b54 u)
      else ((X12_isIn u x4.toInt64 0 999).bind fun w35 => (if w35 = 0 then (X12_group_b54 u)
        else ((X12_isIn u x5.toInt64 0 3).bind fun w48 => (if w48 = 0 then (X12_group_b54 u)
          else ((X12_accountsOf u x1 x2 x3 x4).bind fun w64 => ((X12_sumOf u x1 x2 x3 x4).bind fun w75 => (if w64 = 0 then (X12_group_b98 x5 w64 w75 0 u)
            else ((X12_mostOf x1 x2 x3 x4 u).bind fun w95 => (X12_group_b98 x5 w64 w75 w95.1 w95.2)))))))))))))))
set_option maxRecDepth 20000 in
theorem v_X12_group_b54 {κ : gK} {B : Nat} {u : gM} (X : gX κ B skM cX12_group 11 RX12 (some .long) 5 128)    {w : (Int64 × gM)} (hM : X12_group_b54 u = some w) : gV κ B skM 11 ((some (.long w.1)), w.2) 54 [none, none, none, none, none, none, none, none, none, none, none] [] u := by
  unfold X12_group_b54 at hM
  refine g_ldc2 (v := (-1)) X m_43_8 dX12_group_54 ?_
  cases hM
  exact g_lret X dX12_group_57
set_option maxRecDepth 20000 in
theorem v_X12_group_b140 {κ : gK} {B : Nat} {u : gM} (X : gX κ B skM cX12_group 11 RX12 (some .long) 5 128)   {s0 : Int64} {w : (Int64 × gM)} (hM : X12_group_b140 s0 u = some w) : gV κ B skM 11 ((some (.long w.1)), w.2) 140 [none, none, none, none, none, none, none, none, none, none, none] [.long s0] u := by
  unfold X12_group_b140 at hM
  cases hM
  exact g_lret X dX12_group_140
set_option maxRecDepth 20000 in
theorem v_X12_group_b98 {κ : gK} {B : Nat} {u : gM} (X : gX κ B skM cX12_group 11 RX12 (some .long) 5 128)   {x5 : Int32} {x6 : Int32} {x7 : Int64} {s0 : Int64} {w : (Int64 × gM)} (hM : X12_group_b98 x5 x6 x7 s0 u = some w) : gV κ B skM 11 ((some (.long w.1)), w.2) 98 [none, none, none, none, none, some (.int x5), some (.int x6), some (.long x7), none, none, none] [.long s0] u := by
  unfold X12_group_b98 at hM
  refine g_lstore X [none, none, none, none, none, some (.int x5), some (.int x6), some (.long x7), none, some (.long s0), none] dX12_group_98 (by decide) rfl ?_
  refine g_iload X dX12_group_100 rfl ?_
  refine g_if_ne (tgt := 110) X dX12_group_102 (by decide) (fun c102 => ?_) (fun c102 => ?_)
  · rw [if_neg c102] at hM
    refine g_iload X dX12_group_110 rfl ?_
    refine g_iconst X (v := 1) dX12_group_112 (by decide) ?_
    refine g_icmp_ne (tgt := 121) X dX12_group_113 (by decide) (fun c113 => ?_) (fun c113 => ?_)
    · rw [if_neg c113] at hM
      refine g_iload X dX12_group_121 rfl ?_
      refine g_iconst X (v := 2) dX12_group_123 (by decide) ?_
      refine g_icmp_ne (tgt := 137) X dX12_group_124 (by decide) (fun c124 => ?_) (fun c124 => ?_)
      · rw [if_neg c124] at hM
        refine g_iload X dX12_group_137 rfl ?_
        refine g_i2l X dX12_group_139 ?_
        refine g_mk [false, false, false, false, false, false, false, false, false, false, false] [none, none, none, none, none, none, none, none, none, none, none] rfl ?_
        exact v_X12_group_b140 X  hM
      · rw [if_pos c124] at hM
        refine g_lload X dX12_group_127 rfl ?_
        refine g_lload X dX12_group_129 rfl ?_
        refine g_minJ X m_43_5 ⟨by decide, Nat.le_of_ble_eq_true rfl⟩ dX12_group_131 ?_
        refine g_goto (tgt := 140) X dX12_group_134 (by decide) ?_
        refine g_mk [false, false, false, false, false, false, false, false, false, false, false] [none, none, none, none, none, none, none, none, none, none, none] rfl ?_
        exact v_X12_group_b140 X  hM
    · rw [if_pos c113] at hM
      refine g_lload X dX12_group_116 rfl ?_
      refine g_goto (tgt := 140) X dX12_group_118 (by decide) ?_
      refine g_mk [false, false, false, false, false, false, false, false, false, false, false] [none, none, none, none, none, none, none, none, none, none, none] rfl ?_
      exact v_X12_group_b140 X  hM
  · rw [if_pos c102] at hM
    refine g_lload X dX12_group_105 rfl ?_
    refine g_goto (tgt := 140) X dX12_group_107 (by decide) ?_
    refine g_mk [false, false, false, false, false, false, false, false, false, false, false] [none, none, none, none, none, none, none, none, none, none, none] rfl ?_
    exact v_X12_group_b140 X  hM
set_option maxRecDepth 20000 in
theorem v_X12_group {κ : gK} {B : Nat} {u : gM} (X : gX κ B skM cX12_group 11 RX12 (some .long) 5 128)   {x1 : Int32} {x2 : Int32} {x3 : Int32} {x4 : Int32} {x5 : Int32} {w : (Int64 × gM)} (hM : X12_group x1 x2 x3 x4 x5 u = some w) : gV κ B skM 11 ((some (.long w.1)), w.2) 0 [some (.ref (B + 0)), some (.int x1), some (.int x2), some (.int x3), some (.int x4), some (.int x5), none, none, none, none, none] [] u := by
  unfold X12_group at hM
  refine g_aload_n X dX12_group_0 rfl ?_
  refine g_iload_n X dX12_group_1 rfl ?_
  obtain ⟨w2, e2, hM⟩ := bind_of hM
  refine g_callVi X (fun B adK => [.int x1]) (s_X12_isPerson e2) cvX12_446 cM_0 rfl rfl (Nat.le_of_ble_eq_true rfl) ⟨by decide, by decide⟩ dX12_group_2 ?_
  refine g_if_eq (tgt := 54) X dX12_group_5 (by decide) (fun c5 => ?_) (fun c5 => ?_)
  · rw [if_pos c5] at hM
    refine g_mk [false, false, false, false, false, false, false, false, false, false, false] [none, none, none, none, none, none, none, none, none, none, none] rfl ?_
    exact v_X12_group_b54 X  hM
  · rw [if_neg c5] at hM
    refine g_iload_n X dX12_group_8 rfl ?_
    refine g_i2l X dX12_group_9 ?_
    refine g_lconst (v := 0) X dX12_group_10 (by decide) ?_
    refine g_ldc2 (v := 4) X m_50_6 dX12_group_11 ?_
    obtain ⟨w14, e14, hM⟩ := bind_of hM
    refine g_callSi X (fun B adK => [.long x2.toInt64, .long 0, .long 4]) (s_X12_isIn e14) cvX12_125 rfl rfl (Nat.le_of_ble_eq_true rfl) ⟨by decide, by decide⟩ dX12_group_14 ?_
    refine g_if_eq (tgt := 54) X dX12_group_17 (by decide) (fun c17 => ?_) (fun c17 => ?_)
    · rw [if_pos c17] at hM
      refine g_mk [false, false, false, false, false, false, false, false, false, false, false] [none, none, none, none, none, none, none, none, none, none, none] rfl ?_
      exact v_X12_group_b54 X  hM
    · rw [if_neg c17] at hM
      refine g_aload_n X dX12_group_20 rfl ?_
      refine g_iload_n X dX12_group_21 rfl ?_
      obtain ⟨w22, e22, hM⟩ := bind_of hM
      refine g_callVi X (fun B adK => [.int x3]) (s_X12_isBank e22) cvX12_369 cM_0 rfl rfl (Nat.le_of_ble_eq_true rfl) ⟨by decide, by decide⟩ dX12_group_22 ?_
      refine g_if_eq (tgt := 54) X dX12_group_25 (by decide) (fun c25 => ?_) (fun c25 => ?_)
      · rw [if_pos c25] at hM
        refine g_mk [false, false, false, false, false, false, false, false, false, false, false] [none, none, none, none, none, none, none, none, none, none, none] rfl ?_
        exact v_X12_group_b54 X  hM
      · rw [if_neg c25] at hM
        refine g_iload X dX12_group_28 rfl ?_
        refine g_i2l X dX12_group_30 ?_
        refine g_lconst (v := 0) X dX12_group_31 (by decide) ?_
        refine g_ldc2 (v := 999) X m_52_2 dX12_group_32 ?_
        obtain ⟨w35, e35, hM⟩ := bind_of hM
        refine g_callSi X (fun B adK => [.long x4.toInt64, .long 0, .long 999]) (s_X12_isIn e35) cvX12_125 rfl rfl (Nat.le_of_ble_eq_true rfl) ⟨by decide, by decide⟩ dX12_group_35 ?_
        refine g_if_eq (tgt := 54) X dX12_group_38 (by decide) (fun c38 => ?_) (fun c38 => ?_)
        · rw [if_pos c38] at hM
          refine g_mk [false, false, false, false, false, false, false, false, false, false, false] [none, none, none, none, none, none, none, none, none, none, none] rfl ?_
          exact v_X12_group_b54 X  hM
        · rw [if_neg c38] at hM
          refine g_iload X dX12_group_41 rfl ?_
          refine g_i2l X dX12_group_43 ?_
          refine g_lconst (v := 0) X dX12_group_44 (by decide) ?_
          refine g_ldc2 (v := 3) X m_52_3 dX12_group_45 ?_
          obtain ⟨w48, e48, hM⟩ := bind_of hM
          refine g_callSi X (fun B adK => [.long x5.toInt64, .long 0, .long 3]) (s_X12_isIn e48) cvX12_125 rfl rfl (Nat.le_of_ble_eq_true rfl) ⟨by decide, by decide⟩ dX12_group_48 ?_
          refine g_if_ne (tgt := 58) X dX12_group_51 (by decide) (fun c51 => ?_) (fun c51 => ?_)
          · rw [if_neg c51] at hM
            refine g_aload_n X dX12_group_58 rfl ?_
            refine g_iload_n X dX12_group_59 rfl ?_
            refine g_iload_n X dX12_group_60 rfl ?_
            refine g_iload_n X dX12_group_61 rfl ?_
            refine g_iload X dX12_group_62 rfl ?_
            obtain ⟨w64, e64, hM⟩ := bind_of hM
            refine g_callVi X (fun B adK => [.int x1, .int x2, .int x3, .int x4]) (s_X12_accountsOf e64) cvX12_453 cM_0 rfl rfl (Nat.le_of_ble_eq_true rfl) ⟨by decide, by decide⟩ dX12_group_64 ?_
            refine g_istore X [some (.ref (B + 0)), some (.int x1), some (.int x2), some (.int x3), some (.int x4), some (.int x5), some (.int w64), none, none, none, none] dX12_group_67 (by decide) rfl ?_
            refine g_aload_n X dX12_group_69 rfl ?_
            refine g_iload_n X dX12_group_70 rfl ?_
            refine g_iload_n X dX12_group_71 rfl ?_
            refine g_iload_n X dX12_group_72 rfl ?_
            refine g_iload X dX12_group_73 rfl ?_
            obtain ⟨w75, e75, hM⟩ := bind_of hM
            refine g_callVl X (fun B adK => [.int x1, .int x2, .int x3, .int x4]) (s_X12_sumOf e75) cvX12_355 cM_0 rfl rfl (Nat.le_of_ble_eq_true rfl) ⟨by decide, by decide⟩ dX12_group_75 ?_
            refine g_lstore X [some (.ref (B + 0)), some (.int x1), some (.int x2), some (.int x3), some (.int x4), some (.int x5), some (.int w64), some (.long w75), none, none, none] dX12_group_78 (by decide) rfl ?_
            refine g_iload X dX12_group_80 rfl ?_
            refine g_if_ne (tgt := 89) X dX12_group_82 (by decide) (fun c82 => ?_) (fun c82 => ?_)
            · rw [if_neg c82] at hM
              refine g_aload_n X dX12_group_89 rfl ?_
              refine g_iload_n X dX12_group_90 rfl ?_
              refine g_iload_n X dX12_group_91 rfl ?_
              refine g_iload_n X dX12_group_92 rfl ?_
              refine g_iload X dX12_group_93 rfl ?_
              obtain ⟨w95, e95, hM⟩ := bind_of hM
              refine g_callVl X (fun B adK => [.int x1, .int x2, .int x3, .int x4]) (s_X12_mostOf e95) cvX12_347 cM_0 rfl rfl (Nat.le_of_ble_eq_true rfl) ⟨by decide, by decide⟩ dX12_group_95 ?_
              refine g_mk [false, false, false, false, false, true, true, true, false, false, false] [none, none, none, none, none, some (.int x5), some (.int w64), some (.long w75), none, none, none] rfl ?_
              exact v_X12_group_b98 X  hM
            · rw [if_pos c82] at hM
              refine g_lconst (v := 0) X dX12_group_85 (by decide) ?_
              refine g_goto (tgt := 98) X dX12_group_86 (by decide) ?_
              refine g_mk [false, false, false, false, false, true, true, true, false, false, false] [none, none, none, none, none, some (.int x5), some (.int w64), some (.long w75), none, none, none] rfl ?_
              exact v_X12_group_b98 X  hM
          · rw [if_pos c51] at hM
            refine g_mk [false, false, false, false, false, false, false, false, false, false, false] [none, none, none, none, none, none, none, none, none, none, none] rfl ?_
            exact v_X12_group_b54 X  hM
theorem s_X12_group {x1 : Int32} {x2 : Int32} {x3 : Int32} {x4 : Int32} {x5 : Int32} {u : gM} {w : (Int64 × gM)} (hM : X12_group x1 x2 x3 x4 x5 u = some w) : gMet skM yX12_group cX12_group 11 (some .long) 5 128 (fun B adK => [.ref (B + 0), .int x1, .int x2, .int x3, .int x4, .int x5]) u ((fun _ => some (.long w.1)), w.2) := by
  refine gMet.of (by decide) (fun _ _ => Nat.le_of_ble_eq_true rfl) (fun κ B X => ?_)
  have X : gX κ B skM cX12_group 11 RX12 (some .long) 5 128 := X
  refine g_mk [true, true, true, true, true, true, false, false, false, false, false] [some (.ref (B + 0)), some (.int x1), some (.int x2), some (.int x3), some (.int x4), some (.int x5), none, none, none, none, none] rfl ?_
  exact v_X12_group X  hM
theorem fr_X12_group_b54 {S : Nat → Prop} {u0 u : gM}     {w : (Int64 × gM)} (hM : X12_group_b54 u = some w) (h0 : off S u0 u) : off S u0 w.2 := by
  unfold X12_group_b54 at hM
  cases hM
  exact h0
theorem fr_X12_group_b140 {S : Nat → Prop} {u0 u : gM} {s0 : Int64}    {w : (Int64 × gM)} (hM : X12_group_b140 s0 u = some w) (h0 : off S u0 u) : off S u0 w.2 := by
  unfold X12_group_b140 at hM
  cases hM
  exact h0
theorem fr_X12_group_b98 {S : Nat → Prop} {u0 u : gM} {x5 : Int32} {x6 : Int32} {x7 : Int64} {s0 : Int64}    {w : (Int64 × gM)} (hM : X12_group_b98 x5 x6 x7 s0 u = some w) (h0 : off S u0 u) : off S u0 w.2 := by
  unfold X12_group_b98 at hM
  by_cases c102 : x5 = 0
  · rw [if_pos c102] at hM
    exact fr_X12_group_b140   hM h0
  · rw [if_neg c102] at hM
    by_cases c113 : x5 = 1
    · rw [if_pos c113] at hM
      exact fr_X12_group_b140   hM h0
    · rw [if_neg c113] at hM
      by_cases c124 : x5 = 2
      · rw [if_pos c124] at hM
        exact fr_X12_group_b140   hM h0
      · rw [if_neg c124] at hM
        exact fr_X12_group_b140   hM h0
theorem fr_X12_group {S : Nat → Prop} {u0 u : gM} {x1 : Int32} {x2 : Int32} {x3 : Int32} {x4 : Int32} {x5 : Int32} (hs0 : S 20)   {w : (Int64 × gM)} (hM : X12_group x1 x2 x3 x4 x5 u = some w) (h0 : off S u0 u) : off S u0 w.2 := by
  unfold X12_group at hM
  obtain ⟨w2, e2, hM⟩ := bind_of hM
  by_cases c5 : w2 = 0
  · rw [if_pos c5] at hM
    exact fr_X12_group_b54   hM h0
  · rw [if_neg c5] at hM
    obtain ⟨w14, e14, hM⟩ := bind_of hM
    by_cases c17 : w14 = 0
    · rw [if_pos c17] at hM
      exact fr_X12_group_b54   hM h0
    · rw [if_neg c17] at hM
      obtain ⟨w22, e22, hM⟩ := bind_of hM
      by_cases c25 : w22 = 0
      · rw [if_pos c25] at hM
        exact fr_X12_group_b54   hM h0
      · rw [if_neg c25] at hM
        obtain ⟨w35, e35, hM⟩ := bind_of hM
        by_cases c38 : w35 = 0
        · rw [if_pos c38] at hM
          exact fr_X12_group_b54   hM h0
        · rw [if_neg c38] at hM
          obtain ⟨w48, e48, hM⟩ := bind_of hM
          by_cases c51 : w48 = 0
          · rw [if_pos c51] at hM
            exact fr_X12_group_b54   hM h0
          · rw [if_neg c51] at hM
            obtain ⟨w64, e64, hM⟩ := bind_of hM
            obtain ⟨w75, e75, hM⟩ := bind_of hM
            by_cases c82 : w64 = 0
            · rw [if_pos c82] at hM
              exact fr_X12_group_b98   hM h0
            · rw [if_neg c82] at hM
              obtain ⟨w95, e95, hM⟩ := bind_of hM
              have h0 := fr_X12_mostOf hs0 e95 h0
              exact fr_X12_group_b98   hM h0
/-! CoverDeskModel.heirMore(I)J -/
theorem dX12_heirMore_0 : decode cX12_heirMore 0 = .ok (.aload_n 0, 1) := by decide +kernel
theorem dX12_heirMore_1 : decode cX12_heirMore 1 = .ok (.iload_n 1, 1) := by decide +kernel
theorem dX12_heirMore_2 : decode cX12_heirMore 2 = .ok (.invokevirtual 362, 3) := by decide +kernel
theorem dX12_heirMore_5 : decode cX12_heirMore 5 = .ok (.ifCond .eq 24, 3) := by decide +kernel
theorem dX12_heirMore_8 : decode cX12_heirMore 8 = .ok (.aload_n 0, 1) := by decide +kernel
theorem dX12_heirMore_9 : decode cX12_heirMore 9 = .ok (.getfield 23, 3) := by decide +kernel
theorem dX12_heirMore_12 : decode cX12_heirMore 12 = .ok (.iload_n 1, 1) := by decide +kernel
theorem dX12_heirMore_13 : decode cX12_heirMore 13 = .ok (.iaload, 1) := by decide +kernel
theorem dX12_heirMore_14 : decode cX12_heirMore 14 = .ok (.iconst 2, 1) := by decide +kernel
theorem dX12_heirMore_15 : decode cX12_heirMore 15 = .ok (.if_icmp .ne 14, 3) := by decide +kernel
theorem dX12_heirMore_18 : decode cX12_heirMore 18 = .ok (.aload_n 0, 1) := by decide +kernel
theorem dX12_heirMore_19 : decode cX12_heirMore 19 = .ok (.getfield 35, 3) := by decide +kernel
theorem dX12_heirMore_22 : decode cX12_heirMore 22 = .ok (.iload_n 1, 1) := by decide +kernel
theorem dX12_heirMore_23 : decode cX12_heirMore 23 = .ok (.iaload, 1) := by decide +kernel
theorem dX12_heirMore_24 : decode cX12_heirMore 24 = .ok (.bipush 6, 2) := by decide +kernel
theorem dX12_heirMore_26 : decode cX12_heirMore 26 = .ok (.if_icmp .ne 7, 3) := by decide +kernel
theorem dX12_heirMore_29 : decode cX12_heirMore 29 = .ok (.ldc2_w 341, 3) := by decide +kernel
theorem dX12_heirMore_32 : decode cX12_heirMore 32 = .ok (.lreturn, 1) := by decide +kernel
theorem dX12_heirMore_33 : decode cX12_heirMore 33 = .ok (.aload_n 0, 1) := by decide +kernel
theorem dX12_heirMore_34 : decode cX12_heirMore 34 = .ok (.iload_n 1, 1) := by decide +kernel
theorem dX12_heirMore_35 : decode cX12_heirMore 35 = .ok (.putfield 75, 3) := by decide +kernel
theorem dX12_heirMore_38 : decode cX12_heirMore 38 = .ok (.aload_n 0, 1) := by decide +kernel
theorem dX12_heirMore_39 : decode cX12_heirMore 39 = .ok (.invokevirtual 468, 3) := by decide +kernel
theorem dX12_heirMore_42 : decode cX12_heirMore 42 = .ok (.lstore_n 2, 1) := by decide +kernel
theorem dX12_heirMore_43 : decode cX12_heirMore 43 = .ok (.aload_n 0, 1) := by decide +kernel
theorem dX12_heirMore_44 : decode cX12_heirMore 44 = .ok (.iconst (-1), 1) := by decide +kernel
theorem dX12_heirMore_45 : decode cX12_heirMore 45 = .ok (.putfield 75, 3) := by decide +kernel
theorem dX12_heirMore_48 : decode cX12_heirMore 48 = .ok (.lload_n 2, 1) := by decide +kernel
theorem dX12_heirMore_49 : decode cX12_heirMore 49 = .ok (.aload_n 0, 1) := by decide +kernel
theorem dX12_heirMore_50 : decode cX12_heirMore 50 = .ok (.invokevirtual 468, 3) := by decide +kernel
theorem dX12_heirMore_53 : decode cX12_heirMore 53 = .ok (.lsub, 1) := by decide +kernel
theorem dX12_heirMore_54 : decode cX12_heirMore 54 = .ok (.lreturn, 1) := by decide +kernel
def X12_heirMore_b29   (u : gM) : Option (Int64 × gM) :=
some ((-1), u)
def X12_heirMore  (x1 : Int32) (u : gM) : Option (Int64 × gM) :=
((X12_isAccount u x1).bind fun w2 => (if w2 = 0 then (X12_heirMore_b29 u)
  else ((aI skM u 5 x1).bind fun v13 => (if v13 = 2 then ((aI skM u 9 x1).bind fun v23 => (if v23 = 6 then (X12_heirMore_b29 u)
      else ((X12_insuredAll (upI u 0 34 x1)).bind fun w39 => ((X12_insuredAll (upI w39.2 0 34 (-1))).bind fun w50 => some ((w39.1 - w50.1), w50.2)))))
    else (X12_heirMore_b29 u)))))
set_option maxRecDepth 20000 in
theorem v_X12_heirMore_b29 {κ : gK} {B : Nat} {u : gM} (X : gX κ B skM cX12_heirMore 4 RX12 (some .long) 7 177)    {w : (Int64 × gM)} (hM : X12_heirMore_b29 u = some w) : gV κ B skM 4 ((some (.long w.1)), w.2) 29 [none, none, none, none] [] u := by
  unfold X12_heirMore_b29 at hM
  refine g_ldc2 (v := (-1)) X m_43_8 dX12_heirMore_29 ?_
  cases hM
  exact g_lret X dX12_heirMore_32
set_option maxRecDepth 20000 in
theorem v_X12_heirMore {κ : gK} {B : Nat} {u : gM} (X : gX κ B skM cX12_heirMore 4 RX12 (some .long) 7 177)   {x1 : Int32} {w : (Int64 × gM)} (hM : X12_heirMore x1 u = some w) : gV κ B skM 4 ((some (.long w.1)), w.2) 0 [some (.ref (B + 0)), some (.int x1), none, none] [] u := by
  unfold X12_heirMore at hM
  refine g_aload_n X dX12_heirMore_0 rfl ?_
  refine g_iload_n X dX12_heirMore_1 rfl ?_
  obtain ⟨w2, e2, hM⟩ := bind_of hM
  refine g_callVi X (fun B adK => [.int x1]) (s_X12_isAccount e2) cvX12_362 cM_0 rfl rfl (Nat.le_of_ble_eq_true rfl) ⟨by decide, by decide⟩ dX12_heirMore_2 ?_
  refine g_if_eq (tgt := 29) X dX12_heirMore_5 (by decide) (fun c5 => ?_) (fun c5 => ?_)
  · rw [if_pos c5] at hM
    refine g_mk [false, false, false, false] [none, none, none, none] rfl ?_
    exact v_X12_heirMore_b29 X  hM
  · rw [if_neg c5] at hM
    refine g_aload_n X dX12_heirMore_8 rfl ?_
    refine g_getR X fX12_23 cM_0 rfl dX12_heirMore_9 ?_
    refine g_iload_n X dX12_heirMore_12 rfl ?_
    obtain ⟨v13, e13, hM⟩ := bind_of hM
    refine g_iaload X e13 dX12_heirMore_13 ?_
    refine g_iconst X (v := 2) dX12_heirMore_14 (by decide) ?_
    refine g_icmp_ne (tgt := 29) X dX12_heirMore_15 (by decide) (fun c15 => ?_) (fun c15 => ?_)
    · rw [if_neg c15] at hM
      refine g_mk [false, false, false, false] [none, none, none, none] rfl ?_
      exact v_X12_heirMore_b29 X  hM
    · rw [if_pos c15] at hM
      refine g_aload_n X dX12_heirMore_18 rfl ?_
      refine g_getR X fX12_35 cM_0 rfl dX12_heirMore_19 ?_
      refine g_iload_n X dX12_heirMore_22 rfl ?_
      obtain ⟨v23, e23, hM⟩ := bind_of hM
      refine g_iaload X e23 dX12_heirMore_23 ?_
      refine g_bipush X (v := 6) dX12_heirMore_24 (by decide) ?_
      refine g_icmp_ne (tgt := 33) X dX12_heirMore_26 (by decide) (fun c26 => ?_) (fun c26 => ?_)
      · rw [if_neg c26] at hM
        refine g_aload_n X dX12_heirMore_33 rfl ?_
        refine g_iload_n X dX12_heirMore_34 rfl ?_
        refine g_putI X fX12_75 gc_X12 gp_X12_34 cM_0 rfl dX12_heirMore_35 ?_
        refine g_aload_n X dX12_heirMore_38 rfl ?_
        obtain ⟨w39, e39, hM⟩ := bind_of hM
        refine g_callVl X (fun B adK => []) (s_X12_insuredAll e39) cvX12_468 cM_0 rfl rfl (Nat.le_of_ble_eq_true rfl) ⟨by decide, by decide⟩ dX12_heirMore_39 ?_
        refine g_lstore_n X [some (.ref (B + 0)), some (.int x1), some (.long w39.1), none] dX12_heirMore_42 (by decide) rfl ?_
        refine g_aload_n X dX12_heirMore_43 rfl ?_
        refine g_iconst X (v := (-1)) dX12_heirMore_44 (by decide) ?_
        refine g_putI X fX12_75 gc_X12 gp_X12_34 cM_0 rfl dX12_heirMore_45 ?_
        refine g_lload_n X dX12_heirMore_48 rfl ?_
        refine g_aload_n X dX12_heirMore_49 rfl ?_
        obtain ⟨w50, e50, hM⟩ := bind_of hM
        refine g_callVl X (fun B adK => []) (s_X12_insuredAll e50) cvX12_468 cM_0 rfl rfl (Nat.le_of_ble_eq_true rfl) ⟨by decide, by decide⟩ dX12_heirMore_50 ?_
        refine g_lsub X dX12_heirMore_53 ?_
        cases hM
        exact g_lret X dX12_heirMore_54
      · rw [if_pos c26] at hM
        refine g_mk [false, false, false, false] [none, none, none, none] rfl ?_
        exact v_X12_heirMore_b29 X  hM
theorem s_X12_heirMore {x1 : Int32} {u : gM} {w : (Int64 × gM)} (hM : X12_heirMore x1 u = some w) : gMet skM yX12_heirMore cX12_heirMore 4 (some .long) 7 177 (fun B adK => [.ref (B + 0), .int x1]) u ((fun _ => some (.long w.1)), w.2) := by
  refine gMet.of (by decide) (fun _ _ => Nat.le_of_ble_eq_true rfl) (fun κ B X => ?_)
  have X : gX κ B skM cX12_heirMore 4 RX12 (some .long) 7 177 := X
  refine g_mk [true, true, false, false] [some (.ref (B + 0)), some (.int x1), none, none] rfl ?_
  exact v_X12_heirMore X  hM
theorem fr_X12_heirMore_b29 {S : Nat → Prop} {u0 u : gM}     {w : (Int64 × gM)} (hM : X12_heirMore_b29 u = some w) (h0 : off S u0 u) : off S u0 w.2 := by
  unfold X12_heirMore_b29 at hM
  cases hM
  exact h0
theorem fr_X12_heirMore {S : Nat → Prop} {u0 u : gM} {x1 : Int32} (hs0 : S 0) (hs1 : S 20)   {w : (Int64 × gM)} (hM : X12_heirMore x1 u = some w) (h0 : off S u0 u) : off S u0 w.2 := by
  unfold X12_heirMore at hM
  obtain ⟨w2, e2, hM⟩ := bind_of hM
  by_cases c5 : w2 = 0
  · rw [if_pos c5] at hM
    exact fr_X12_heirMore_b29   hM h0
  · rw [if_neg c5] at hM
    obtain ⟨v13, e13, hM⟩ := bind_of hM
    by_cases c15 : v13 = 2
    · rw [if_pos c15] at hM
      obtain ⟨v23, e23, hM⟩ := bind_of hM
      by_cases c26 : v23 = 6
      · rw [if_pos c26] at hM
        exact fr_X12_heirMore_b29   hM h0
      · rw [if_neg c26] at hM
        have h0 := off_upI (u := u) (k := 0) (j := 34) (x := x1) hs0 h0
        obtain ⟨w39, e39, hM⟩ := bind_of hM
        have h0 := fr_X12_insuredAll hs1 e39 h0
        have h0 := off_upI (u := w39.2) (k := 0) (j := 34) (x := (-1)) hs0 h0
        obtain ⟨w50, e50, hM⟩ := bind_of hM
        have h0 := fr_X12_insuredAll hs1 e50 h0
        cases hM
        exact h0
    · rw [if_neg c15] at hM
      exact fr_X12_heirMore_b29   hM h0
/-! CoverDeskModel.held(II)J -/
theorem dX12_held_0 : decode cX12_held 0 = .ok (.aload_n 0, 1) := by decide +kernel
theorem dX12_held_1 : decode cX12_held 1 = .ok (.iload_n 1, 1) := by decide +kernel
theorem dX12_held_2 : decode cX12_held 2 = .ok (.invokevirtual 369, 3) := by decide +kernel
theorem dX12_held_5 : decode cX12_held 5 = .ok (.ifCond .eq 15, 3) := by decide +kernel
theorem dX12_held_8 : decode cX12_held 8 = .ok (.iload_n 2, 1) := by decide +kernel
theorem dX12_held_9 : decode cX12_held 9 = .ok (.i2l, 1) := by decide +kernel
theorem dX12_held_10 : decode cX12_held 10 = .ok (.lconst 0, 1) := by decide +kernel
theorem dX12_held_11 : decode cX12_held 11 = .ok (.ldc2_w 442, 3) := by decide +kernel
theorem dX12_held_14 : decode cX12_held 14 = .ok (.invokestatic 125, 3) := by decide +kernel
theorem dX12_held_17 : decode cX12_held 17 = .ok (.ifCond .ne 7, 3) := by decide +kernel
theorem dX12_held_20 : decode cX12_held 20 = .ok (.ldc2_w 341, 3) := by decide +kernel
theorem dX12_held_23 : decode cX12_held 23 = .ok (.lreturn, 1) := by decide +kernel
theorem dX12_held_24 : decode cX12_held 24 = .ok (.lconst 0, 1) := by decide +kernel
theorem dX12_held_25 : decode cX12_held 25 = .ok (.lstore_n 3, 1) := by decide +kernel
theorem dX12_held_26 : decode cX12_held 26 = .ok (.iconst 0, 1) := by decide +kernel
theorem dX12_held_27 : decode cX12_held 27 = .ok (.istore 5, 2) := by decide +kernel
theorem dX12_held_29 : decode cX12_held 29 = .ok (.iload 5, 2) := by decide +kernel
theorem dX12_held_31 : decode cX12_held 31 = .ok (.aload_n 0, 1) := by decide +kernel
theorem dX12_held_32 : decode cX12_held 32 = .ok (.getfield 7, 3) := by decide +kernel
theorem dX12_held_35 : decode cX12_held 35 = .ok (.iconst 3, 1) := by decide +kernel
theorem dX12_held_36 : decode cX12_held 36 = .ok (.iaload, 1) := by decide +kernel
theorem dX12_held_37 : decode cX12_held 37 = .ok (.if_icmp .ge 47, 3) := by decide +kernel
theorem dX12_held_40 : decode cX12_held 40 = .ok (.iload_n 2, 1) := by decide +kernel
theorem dX12_held_41 : decode cX12_held 41 = .ok (.iconst 2, 1) := by decide +kernel
theorem dX12_held_42 : decode cX12_held 42 = .ok (.if_icmp .ne 42, 3) := by decide +kernel
theorem dX12_held_45 : decode cX12_held 45 = .ok (.lload_n 3, 1) := by decide +kernel
theorem dX12_held_46 : decode cX12_held 46 = .ok (.aload_n 0, 1) := by decide +kernel
theorem dX12_held_47 : decode cX12_held 47 = .ok (.aload_n 0, 1) := by decide +kernel
theorem dX12_held_48 : decode cX12_held 48 = .ok (.getfield 50, 3) := by decide +kernel
theorem dX12_held_51 : decode cX12_held 51 = .ok (.iload 5, 2) := by decide +kernel
theorem dX12_held_53 : decode cX12_held 53 = .ok (.iaload, 1) := by decide +kernel
theorem dX12_held_54 : decode cX12_held 54 = .ok (.invokevirtual 366, 3) := by decide +kernel
theorem dX12_held_57 : decode cX12_held 57 = .ok (.iload_n 1, 1) := by decide +kernel
theorem dX12_held_58 : decode cX12_held 58 = .ok (.if_icmp .ne 17, 3) := by decide +kernel
theorem dX12_held_61 : decode cX12_held 61 = .ok (.aload_n 0, 1) := by decide +kernel
theorem dX12_held_62 : decode cX12_held 62 = .ok (.getfield 56, 3) := by decide +kernel
theorem dX12_held_65 : decode cX12_held 65 = .ok (.bipush 25, 2) := by decide +kernel
theorem dX12_held_67 : decode cX12_held 67 = .ok (.iload 5, 2) := by decide +kernel
theorem dX12_held_69 : decode cX12_held 69 = .ok (.iadd, 1) := by decide +kernel
theorem dX12_held_70 : decode cX12_held 70 = .ok (.iaload, 1) := by decide +kernel
theorem dX12_held_71 : decode cX12_held 71 = .ok (.i2l, 1) := by decide +kernel
theorem dX12_held_72 : decode cX12_held 72 = .ok (.goto 4, 3) := by decide +kernel
theorem dX12_held_75 : decode cX12_held 75 = .ok (.lconst 0, 1) := by decide +kernel
theorem dX12_held_76 : decode cX12_held 76 = .ok (.ladd, 1) := by decide +kernel
theorem dX12_held_77 : decode cX12_held 77 = .ok (.lstore_n 3, 1) := by decide +kernel
theorem dX12_held_78 : decode cX12_held 78 = .ok (.iinc 5 1, 3) := by decide +kernel
theorem dX12_held_81 : decode cX12_held 81 = .ok (.goto (-52), 3) := by decide +kernel
theorem dX12_held_84 : decode cX12_held 84 = .ok (.iconst 0, 1) := by decide +kernel
theorem dX12_held_85 : decode cX12_held 85 = .ok (.istore 5, 2) := by decide +kernel
theorem dX12_held_87 : decode cX12_held 87 = .ok (.iload 5, 2) := by decide +kernel
theorem dX12_held_89 : decode cX12_held 89 = .ok (.aload_n 0, 1) := by decide +kernel
theorem dX12_held_90 : decode cX12_held 90 = .ok (.getfield 7, 3) := by decide +kernel
theorem dX12_held_93 : decode cX12_held 93 = .ok (.iconst 2, 1) := by decide +kernel
theorem dX12_held_94 : decode cX12_held 94 = .ok (.iaload, 1) := by decide +kernel
theorem dX12_held_95 : decode cX12_held 95 = .ok (.if_icmp .ge 55, 3) := by decide +kernel
theorem dX12_held_98 : decode cX12_held 98 = .ok (.iload_n 2, 1) := by decide +kernel
theorem dX12_held_99 : decode cX12_held 99 = .ok (.iconst 2, 1) := by decide +kernel
theorem dX12_held_100 : decode cX12_held 100 = .ok (.if_icmp .ge 50, 3) := by decide +kernel
theorem dX12_held_103 : decode cX12_held 103 = .ok (.aload_n 0, 1) := by decide +kernel
theorem dX12_held_104 : decode cX12_held 104 = .ok (.aload_n 0, 1) := by decide +kernel
theorem dX12_held_105 : decode cX12_held 105 = .ok (.getfield 26, 3) := by decide +kernel
theorem dX12_held_108 : decode cX12_held 108 = .ok (.iload 5, 2) := by decide +kernel
theorem dX12_held_110 : decode cX12_held 110 = .ok (.iaload, 1) := by decide +kernel
theorem dX12_held_111 : decode cX12_held 111 = .ok (.invokevirtual 366, 3) := by decide +kernel
theorem dX12_held_114 : decode cX12_held 114 = .ok (.iload_n 1, 1) := by decide +kernel
theorem dX12_held_115 : decode cX12_held 115 = .ok (.if_icmp .ne 29, 3) := by decide +kernel
theorem dX12_held_118 : decode cX12_held 118 = .ok (.lload_n 3, 1) := by decide +kernel
theorem dX12_held_119 : decode cX12_held 119 = .ok (.iload_n 2, 1) := by decide +kernel
theorem dX12_held_120 : decode cX12_held 120 = .ok (.ifCond .ne 16, 3) := by decide +kernel
theorem dX12_held_123 : decode cX12_held 123 = .ok (.aload_n 0, 1) := by decide +kernel
theorem dX12_held_124 : decode cX12_held 124 = .ok (.getfield 56, 3) := by decide +kernel
theorem dX12_held_127 : decode cX12_held 127 = .ok (.iconst 1, 1) := by decide +kernel
theorem dX12_held_128 : decode cX12_held 128 = .ok (.iload 5, 2) := by decide +kernel
theorem dX12_held_130 : decode cX12_held 130 = .ok (.iadd, 1) := by decide +kernel
theorem dX12_held_131 : decode cX12_held 131 = .ok (.iaload, 1) := by decide +kernel
theorem dX12_held_132 : decode cX12_held 132 = .ok (.i2l, 1) := by decide +kernel
theorem dX12_held_133 : decode cX12_held 133 = .ok (.goto 9, 3) := by decide +kernel
theorem dX12_held_136 : decode cX12_held 136 = .ok (.aload_n 0, 1) := by decide +kernel
theorem dX12_held_137 : decode cX12_held 137 = .ok (.iload 5, 2) := by decide +kernel
theorem dX12_held_139 : decode cX12_held 139 = .ok (.invokevirtual 438, 3) := by decide +kernel
theorem dX12_held_142 : decode cX12_held 142 = .ok (.ladd, 1) := by decide +kernel
theorem dX12_held_143 : decode cX12_held 143 = .ok (.lstore_n 3, 1) := by decide +kernel
theorem dX12_held_144 : decode cX12_held 144 = .ok (.iinc 5 1, 3) := by decide +kernel
theorem dX12_held_147 : decode cX12_held 147 = .ok (.goto (-60), 3) := by decide +kernel
theorem dX12_held_150 : decode cX12_held 150 = .ok (.lload_n 3, 1) := by decide +kernel
theorem dX12_held_151 : decode cX12_held 151 = .ok (.lreturn, 1) := by decide +kernel
def X12_held_b20   (u : gM) : Option (Int64 × gM) :=
some ((-1), u)
def X12_held_b150  (x3 : Int64) (u : gM) : Option (Int64 × gM) :=
some (x3, u)
def X12_held_b144 (k87 : Int32 → Int32 → Int64 → Int32 → gM → Option (Int64 × gM)) (x1 : Int32) (x2 : Int32) (x3 : Int64) (x5 : Int32) (u : gM) : Option (Int64 × gM) :=
(k87 x1 x2 x3 (x5 + 1) u)
def X12_held_b142 (k87 : Int32 → Int32 → Int64 → Int32 → gM → Option (Int64 × gM)) (x1 : Int32) (x2 : Int32) (x5 : Int32) (s0 : Int64) (s1 : Int64) (u : gM) : Option (Int64 × gM) :=
(X12_held_b144 k87 x1 x2 (s0 + s1) x5 u)
def X12_held_b87 (k87 : Int32 → Int32 → Int64 → Int32 → gM → Option (Int64 × gM)) (x1 : Int32) (x2 : Int32) (x3 : Int64) (x5 : Int32) (u : gM) : Option (Int64 × gM) :=
((aI skM u 1 2).bind fun v94 => (if v94 ≤ x5 then (X12_held_b150 x3 u)
  else (if 2 ≤ x2 then (X12_held_b150 x3 u)
    else ((aI skM u 6 x5).bind fun v110 => ((X12_nowAt u v110).bind fun w111 => (if w111 = x1 then (if x2 = 0 then ((aI skM u 16 (1 + x5)).bind fun v131 => (X12_held_b142 k87 x1 x2 x5 x3 v131.toInt64 u))
        else ((X12_insuredIn x5 u).bind fun w139 => (X12_held_b142 k87 x1 x2 x5 x3 w139.1 w139.2)))
      else (X12_held_b144 k87 x1 x2 x3 x5 u)))))))
def X12_held_l87  : Nat → Int32 → Int32 → Int64 → Int32 → gM → Option (Int64 × gM)
  | 0, _, _, _, _, _ => none
  | n + 1, x1, x2, x3, x5, u => X12_held_b87  (X12_held_l87  n) x1 x2 x3 x5 u
def X12_held_b84  (x1 : Int32) (x2 : Int32) (x3 : Int64) (u : gM) : Option (Int64 × gM) :=
(X12_held_l87 fz x1 x2 x3 0 u)
def X12_held_b76 (k29 : Int32 → Int32 → Int64 → Int32 → gM → Option (Int64 × gM)) (x1 : Int32) (x2 : Int32) (x5 : Int32) (s0 : Int64) (s1 : Int64) (u : gM) : Option (Int64 × gM) :=
(k29 x1 x2 (s0 + s1) (x5 + 1) u)
def X12_held_b29 (k29 : Int32 → Int32 → Int64 → Int32 → gM → Option (Int64 × gM)) (x1 : Int32) (x2 : Int32) (x3 : Int64) (x5 : Int32) (u : gM) : Option (Int64 × gM) :=
((aI skM u 1 3).bind fun v36 => (if v36 ≤ x5 then (X12_held_b84 x1 x2 x3 u)
  else (if x2 = 2 then ((aI skM u 14 x5).bind fun v53 => ((X12_nowAt u v53).bind fun w54 => (if w54 = x1 then ((aI skM u 16 (25 + x5)).bind fun v70 => (X12_held_b76 k29 x1 x2 x5 x3 v70.toInt64 u))
      else (X12_held_b76 k29 x1 x2 x5 x3 0 u))))
    else (X12_held_b84 x1 x2 x3 u))))
def X12_held_l29  : Nat → Int32 → Int32 → Int64 → Int32 → gM → Option (Int64 × gM)
  | 0, _, _, _, _, _ => none
  | n + 1, x1, x2, x3, x5, u => X12_held_b29  (X12_held_l29  n) x1 x2 x3 x5 u
def X12_held  (x1 : Int32) (x2 : Int32) (u : gM) : Option (Int64 × gM) :=
((X12_isBank u x1).bind fun w2 => (if w2 = 0 then (X12_held_b20 u)
  else ((X12_isIn u x2.toInt64 0 2).bind fun w14 => (if w14 = 0 then (X12_held_b20 u)
    else (X12_held_l29 fz x1 x2 0 0 u)))))
set_option maxRecDepth 20000 in
theorem v_X12_held_b20 {κ : gK} {B : Nat} {u : gM} (X : gX κ B skM cX12_held 6 RX12 (some .long) 8 202)    {w : (Int64 × gM)} (hM : X12_held_b20 u = some w) : gV κ B skM 6 ((some (.long w.1)), w.2) 20 [none, none, none, none, none, none] [] u := by
  unfold X12_held_b20 at hM
  refine g_ldc2 (v := (-1)) X m_43_8 dX12_held_20 ?_
  cases hM
  exact g_lret X dX12_held_23
set_option maxRecDepth 20000 in
theorem v_X12_held_b150 {κ : gK} {B : Nat} {u : gM} (X : gX κ B skM cX12_held 6 RX12 (some .long) 8 202)   {x3 : Int64} {w : (Int64 × gM)} (hM : X12_held_b150 x3 u = some w) : gV κ B skM 6 ((some (.long w.1)), w.2) 150 [none, none, none, some (.long x3), none, none] [] u := by
  unfold X12_held_b150 at hM
  refine g_lload_n X dX12_held_150 rfl ?_
  cases hM
  exact g_lret X dX12_held_151
set_option maxRecDepth 20000 in
theorem v_X12_held_b144 {κ : gK} {B : Nat} {u : gM} (X : gX κ B skM cX12_held 6 RX12 (some .long) 8 202) {k87 : Int32 → Int32 → Int64 → Int32 → gM → Option (Int64 × gM)} (ih87 : ∀ (x1 : Int32) (x2 : Int32) (x3 : Int64) (x5 : Int32) (u : gM) (w : (Int64 × gM)), k87 x1 x2 x3 x5 u = some w → gV κ B skM 6 ((some (.long w.1)), w.2) 87 [some (.ref (B + 0)), some (.int x1), some (.int x2), some (.long x3), none, some (.int x5)] [] u) {x1 : Int32} {x2 : Int32} {x3 : Int64} {x5 : Int32} {w : (Int64 × gM)} (hM : X12_held_b144 k87 x1 x2 x3 x5 u = some w) : gV κ B skM 6 ((some (.long w.1)), w.2) 144 [some (.ref (B + 0)), some (.int x1), some (.int x2), some (.long x3), none, some (.int x5)] [] u := by
  unfold X12_held_b144 at hM
  refine g_iinc (d := 1) X [some (.ref (B + 0)), some (.int x1), some (.int x2), some (.long x3), none, some (.int (x5 + 1))] dX12_held_144 (by decide) rfl (by decide) rfl ?_
  refine g_goto (tgt := 87) X dX12_held_147 (by decide) ?_
  refine g_mk [true, true, true, true, false, true] [some (.ref (B + 0)), some (.int x1), some (.int x2), some (.long x3), none, some (.int (x5 + 1))] rfl ?_
  exact ih87 x1 x2 x3 (x5 + 1) u _ hM
set_option maxRecDepth 20000 in
theorem v_X12_held_b142 {κ : gK} {B : Nat} {u : gM} (X : gX κ B skM cX12_held 6 RX12 (some .long) 8 202) {k87 : Int32 → Int32 → Int64 → Int32 → gM → Option (Int64 × gM)} (ih87 : ∀ (x1 : Int32) (x2 : Int32) (x3 : Int64) (x5 : Int32) (u : gM) (w : (Int64 × gM)), k87 x1 x2 x3 x5 u = some w → gV κ B skM 6 ((some (.long w.1)), w.2) 87 [some (.ref (B + 0)), some (.int x1), some (.int x2), some (.long x3), none, some (.int x5)] [] u) {x1 : Int32} {x2 : Int32} {x5 : Int32} {s0 : Int64} {s1 : Int64} {w : (Int64 × gM)} (hM : X12_held_b142 k87 x1 x2 x5 s0 s1 u = some w) : gV κ B skM 6 ((some (.long w.1)), w.2) 142 [some (.ref (B + 0)), some (.int x1), some (.int x2), none, none, some (.int x5)] [.long s1, .long s0] u := by
  unfold X12_held_b142 at hM
  refine g_ladd X dX12_held_142 ?_
  refine g_lstore_n X [some (.ref (B + 0)), some (.int x1), some (.int x2), some (.long (s0 + s1)), none, some (.int x5)] dX12_held_143 (by decide) rfl ?_
  refine g_mk [true, true, true, true, false, true] [some (.ref (B + 0)), some (.int x1), some (.int x2), some (.long (s0 + s1)), none, some (.int x5)] rfl ?_
  exact v_X12_held_b144 X ih87 hM
set_option maxRecDepth 20000 in
theorem v_X12_held_b87 {κ : gK} {B : Nat} {u : gM} (X : gX κ B skM cX12_held 6 RX12 (some .long) 8 202) {k87 : Int32 → Int32 → Int64 → Int32 → gM → Option (Int64 × gM)} (ih87 : ∀ (x1 : Int32) (x2 : Int32) (x3 : Int64) (x5 : Int32) (u : gM) (w : (Int64 × gM)), k87 x1 x2 x3 x5 u = some w → gV κ B skM 6 ((some (.long w.1)), w.2) 87 [some (.ref (B + 0)), some (.int x1), some (.int x2), some (.long x3), none, some (.int x5)] [] u) {x1 : Int32} {x2 : Int32} {x3 : Int64} {x5 : Int32} {w : (Int64 × gM)} (hM : X12_held_b87 k87 x1 x2 x3 x5 u = some w) : gV κ B skM 6 ((some (.long w.1)), w.2) 87 [some (.ref (B + 0)), some (.int x1), some (.int x2), some (.long x3), none, some (.int x5)] [] u := by
  unfold X12_held_b87 at hM
  refine g_iload X dX12_held_87 rfl ?_
  refine g_aload_n X dX12_held_89 rfl ?_
  refine g_getR X fX12_7 cM_0 rfl dX12_held_90 ?_
  refine g_iconst X (v := 2) dX12_held_93 (by decide) ?_
  obtain ⟨v94, e94, hM⟩ := bind_of hM
  refine g_iaload X e94 dX12_held_94 ?_
  refine g_icmp_ge (tgt := 150) X dX12_held_95 (by decide) (fun c95 => ?_) (fun c95 => ?_)
  · rw [if_pos c95] at hM
    refine g_mk [false, false, false, true, false, false] [none, none, none, some (.long x3), none, none] rfl ?_
    exact v_X12_held_b150 X  hM
  · rw [if_neg c95] at hM
    refine g_iload_n X dX12_held_98 rfl ?_
    refine g_iconst X (v := 2) dX12_held_99 (by decide) ?_
    refine g_icmp_ge (tgt := 150) X dX12_held_100 (by decide) (fun c100 => ?_) (fun c100 => ?_)
    · rw [if_pos c100] at hM
      refine g_mk [false, false, false, true, false, false] [none, none, none, some (.long x3), none, none] rfl ?_
      exact v_X12_held_b150 X  hM
    · rw [if_neg c100] at hM
      refine g_aload_n X dX12_held_103 rfl ?_
      refine g_aload_n X dX12_held_104 rfl ?_
      refine g_getR X fX12_26 cM_0 rfl dX12_held_105 ?_
      refine g_iload X dX12_held_108 rfl ?_
      obtain ⟨v110, e110, hM⟩ := bind_of hM
      refine g_iaload X e110 dX12_held_110 ?_
      obtain ⟨w111, e111, hM⟩ := bind_of hM
      refine g_callVi X (fun B adK => [.int v110]) (s_X12_nowAt e111) cvX12_366 cM_0 rfl rfl (Nat.le_of_ble_eq_true rfl) ⟨by decide, by decide⟩ dX12_held_111 ?_
      refine g_iload_n X dX12_held_114 rfl ?_
      refine g_icmp_ne (tgt := 144) X dX12_held_115 (by decide) (fun c115 => ?_) (fun c115 => ?_)
      · rw [if_neg c115] at hM
        refine g_mk [true, true, true, true, false, true] [some (.ref (B + 0)), some (.int x1), some (.int x2), some (.long x3), none, some (.int x5)] rfl ?_
        exact v_X12_held_b144 X ih87 hM
      · rw [if_pos c115] at hM
        refine g_lload_n X dX12_held_118 rfl ?_
        refine g_iload_n X dX12_held_119 rfl ?_
        refine g_if_ne (tgt := 136) X dX12_held_120 (by decide) (fun c120 => ?_) (fun c120 => ?_)
        · rw [if_neg c120] at hM
          refine g_aload_n X dX12_held_136 rfl ?_
          refine g_iload X dX12_held_137 rfl ?_
          obtain ⟨w139, e139, hM⟩ := bind_of hM
          refine g_callVl X (fun B adK => [.int x5]) (s_X12_insuredIn e139) cvX12_438 cM_0 rfl rfl (Nat.le_of_ble_eq_true rfl) ⟨by decide, by decide⟩ dX12_held_139 ?_
          refine g_mk [true, true, true, false, false, true] [some (.ref (B + 0)), some (.int x1), some (.int x2), none, none, some (.int x5)] rfl ?_
          exact v_X12_held_b142 X ih87 hM
        · rw [if_pos c120] at hM
          refine g_aload_n X dX12_held_123 rfl ?_
          refine g_getR X fX12_56 cM_0 rfl dX12_held_124 ?_
          refine g_iconst X (v := 1) dX12_held_127 (by decide) ?_
          refine g_iload X dX12_held_128 rfl ?_
          refine g_iadd X dX12_held_130 ?_
          obtain ⟨v131, e131, hM⟩ := bind_of hM
          refine g_iaload X e131 dX12_held_131 ?_
          refine g_i2l X dX12_held_132 ?_
          refine g_goto (tgt := 142) X dX12_held_133 (by decide) ?_
          refine g_mk [true, true, true, false, false, true] [some (.ref (B + 0)), some (.int x1), some (.int x2), none, none, some (.int x5)] rfl ?_
          exact v_X12_held_b142 X ih87 hM
theorem v_X12_held_l87 {κ : gK} {B : Nat} (X : gX κ B skM cX12_held 6 RX12 (some .long) 8 202)   : ∀ (n : Nat) {x1 : Int32} {x2 : Int32} {x3 : Int64} {x5 : Int32} {u : gM} {w : (Int64 × gM)} (hM : X12_held_l87  n x1 x2 x3 x5 u = some w), gV κ B skM 6 ((some (.long w.1)), w.2) 87 [some (.ref (B + 0)), some (.int x1), some (.int x2), some (.long x3), none, some (.int x5)] [] u := by
  intro n
  induction n with
  | zero => intro x1 x2 x3 x5 u w hM; exact nomatch (show (none : Option (Int64 × gM)) = some w from hM)
  | succ n ihn => intro x1 x2 x3 x5 u w hM; exact v_X12_held_b87 X  (fun x1 x2 x3 x5 u w h => ihn h) hM
set_option maxRecDepth 20000 in
theorem v_X12_held_b84 {κ : gK} {B : Nat} {u : gM} (X : gX κ B skM cX12_held 6 RX12 (some .long) 8 202)   {x1 : Int32} {x2 : Int32} {x3 : Int64} {w : (Int64 × gM)} (hM : X12_held_b84 x1 x2 x3 u = some w) : gV κ B skM 6 ((some (.long w.1)), w.2) 84 [some (.ref (B + 0)), some (.int x1), some (.int x2), some (.long x3), none, none] [] u := by
  unfold X12_held_b84 at hM
  refine g_iconst X (v := 0) dX12_held_84 (by decide) ?_
  refine g_istore X [some (.ref (B + 0)), some (.int x1), some (.int x2), some (.long x3), none, some (.int 0)] dX12_held_85 (by decide) rfl ?_
  refine g_mk [true, true, true, true, false, true] [some (.ref (B + 0)), some (.int x1), some (.int x2), some (.long x3), none, some (.int 0)] rfl ?_
  exact v_X12_held_l87 X  fz hM
set_option maxRecDepth 20000 in
theorem v_X12_held_b76 {κ : gK} {B : Nat} {u : gM} (X : gX κ B skM cX12_held 6 RX12 (some .long) 8 202) {k29 : Int32 → Int32 → Int64 → Int32 → gM → Option (Int64 × gM)} (ih29 : ∀ (x1 : Int32) (x2 : Int32) (x3 : Int64) (x5 : Int32) (u : gM) (w : (Int64 × gM)), k29 x1 x2 x3 x5 u = some w → gV κ B skM 6 ((some (.long w.1)), w.2) 29 [some (.ref (B + 0)), some (.int x1), some (.int x2), some (.long x3), none, some (.int x5)] [] u) {x1 : Int32} {x2 : Int32} {x5 : Int32} {s0 : Int64} {s1 : Int64} {w : (Int64 × gM)} (hM : X12_held_b76 k29 x1 x2 x5 s0 s1 u = some w) : gV κ B skM 6 ((some (.long w.1)), w.2) 76 [some (.ref (B + 0)), some (.int x1), some (.int x2), none, none, some (.int x5)] [.long s1, .long s0] u := by
  unfold X12_held_b76 at hM
  refine g_ladd X dX12_held_76 ?_
  refine g_lstore_n X [some (.ref (B + 0)), some (.int x1), some (.int x2), some (.long (s0 + s1)), none, some (.int x5)] dX12_held_77 (by decide) rfl ?_
  refine g_iinc (d := 1) X [some (.ref (B + 0)), some (.int x1), some (.int x2), some (.long (s0 + s1)), none, some (.int (x5 + 1))] dX12_held_78 (by decide) rfl (by decide) rfl ?_
  refine g_goto (tgt := 29) X dX12_held_81 (by decide) ?_
  refine g_mk [true, true, true, true, false, true] [some (.ref (B + 0)), some (.int x1), some (.int x2), some (.long (s0 + s1)), none, some (.int (x5 + 1))] rfl ?_
  exact ih29 x1 x2 (s0 + s1) (x5 + 1) u _ hM
set_option maxRecDepth 20000 in
theorem v_X12_held_b29 {κ : gK} {B : Nat} {u : gM} (X : gX κ B skM cX12_held 6 RX12 (some .long) 8 202) {k29 : Int32 → Int32 → Int64 → Int32 → gM → Option (Int64 × gM)} (ih29 : ∀ (x1 : Int32) (x2 : Int32) (x3 : Int64) (x5 : Int32) (u : gM) (w : (Int64 × gM)), k29 x1 x2 x3 x5 u = some w → gV κ B skM 6 ((some (.long w.1)), w.2) 29 [some (.ref (B + 0)), some (.int x1), some (.int x2), some (.long x3), none, some (.int x5)] [] u) {x1 : Int32} {x2 : Int32} {x3 : Int64} {x5 : Int32} {w : (Int64 × gM)} (hM : X12_held_b29 k29 x1 x2 x3 x5 u = some w) : gV κ B skM 6 ((some (.long w.1)), w.2) 29 [some (.ref (B + 0)), some (.int x1), some (.int x2), some (.long x3), none, some (.int x5)] [] u := by
  unfold X12_held_b29 at hM
  refine g_iload X dX12_held_29 rfl ?_
  refine g_aload_n X dX12_held_31 rfl ?_
  refine g_getR X fX12_7 cM_0 rfl dX12_held_32 ?_
  refine g_iconst X (v := 3) dX12_held_35 (by decide) ?_
  obtain ⟨v36, e36, hM⟩ := bind_of hM
  refine g_iaload X e36 dX12_held_36 ?_
  refine g_icmp_ge (tgt := 84) X dX12_held_37 (by decide) (fun c37 => ?_) (fun c37 => ?_)
  · rw [if_pos c37] at hM
    refine g_mk [true, true, true, true, false, false] [some (.ref (B + 0)), some (.int x1), some (.int x2), some (.long x3), none, none] rfl ?_
    exact v_X12_held_b84 X  hM
  · rw [if_neg c37] at hM
    refine g_iload_n X dX12_held_40 rfl ?_
    refine g_iconst X (v := 2) dX12_held_41 (by decide) ?_
    refine g_icmp_ne (tgt := 84) X dX12_held_42 (by decide) (fun c42 => ?_) (fun c42 => ?_)
    · rw [if_neg c42] at hM
      refine g_mk [true, true, true, true, false, false] [some (.ref (B + 0)), some (.int x1), some (.int x2), some (.long x3), none, none] rfl ?_
      exact v_X12_held_b84 X  hM
    · rw [if_pos c42] at hM
      refine g_lload_n X dX12_held_45 rfl ?_
      refine g_aload_n X dX12_held_46 rfl ?_
      refine g_aload_n X dX12_held_47 rfl ?_
      refine g_getR X fX12_50 cM_0 rfl dX12_held_48 ?_
      refine g_iload X dX12_held_51 rfl ?_
      obtain ⟨v53, e53, hM⟩ := bind_of hM
      refine g_iaload X e53 dX12_held_53 ?_
      obtain ⟨w54, e54, hM⟩ := bind_of hM
      refine g_callVi X (fun B adK => [.int v53]) (s_X12_nowAt e54) cvX12_366 cM_0 rfl rfl (Nat.le_of_ble_eq_true rfl) ⟨by decide, by decide⟩ dX12_held_54 ?_
      refine g_iload_n X dX12_held_57 rfl ?_
      refine g_icmp_ne (tgt := 75) X dX12_held_58 (by decide) (fun c58 => ?_) (fun c58 => ?_)
      · rw [if_neg c58] at hM
        refine g_lconst (v := 0) X dX12_held_75 (by decide) ?_
        refine g_mk [true, true, true, false, false, true] [some (.ref (B + 0)), some (.int x1), some (.int x2), none, none, some (.int x5)] rfl ?_
        exact v_X12_held_b76 X ih29 hM
      · rw [if_pos c58] at hM
        refine g_aload_n X dX12_held_61 rfl ?_
        refine g_getR X fX12_56 cM_0 rfl dX12_held_62 ?_
        refine g_bipush X (v := 25) dX12_held_65 (by decide) ?_
        refine g_iload X dX12_held_67 rfl ?_
        refine g_iadd X dX12_held_69 ?_
        obtain ⟨v70, e70, hM⟩ := bind_of hM
        refine g_iaload X e70 dX12_held_70 ?_
        refine g_i2l X dX12_held_71 ?_
        refine g_goto (tgt := 76) X dX12_held_72 (by decide) ?_
        refine g_mk [true, true, true, false, false, true] [some (.ref (B + 0)), some (.int x1), some (.int x2), none, none, some (.int x5)] rfl ?_
        exact v_X12_held_b76 X ih29 hM
theorem v_X12_held_l29 {κ : gK} {B : Nat} (X : gX κ B skM cX12_held 6 RX12 (some .long) 8 202)   : ∀ (n : Nat) {x1 : Int32} {x2 : Int32} {x3 : Int64} {x5 : Int32} {u : gM} {w : (Int64 × gM)} (hM : X12_held_l29  n x1 x2 x3 x5 u = some w), gV κ B skM 6 ((some (.long w.1)), w.2) 29 [some (.ref (B + 0)), some (.int x1), some (.int x2), some (.long x3), none, some (.int x5)] [] u := by
  intro n
  induction n with
  | zero => intro x1 x2 x3 x5 u w hM; exact nomatch (show (none : Option (Int64 × gM)) = some w from hM)
  | succ n ihn => intro x1 x2 x3 x5 u w hM; exact v_X12_held_b29 X  (fun x1 x2 x3 x5 u w h => ihn h) hM
set_option maxRecDepth 20000 in
theorem v_X12_held {κ : gK} {B : Nat} {u : gM} (X : gX κ B skM cX12_held 6 RX12 (some .long) 8 202)   {x1 : Int32} {x2 : Int32} {w : (Int64 × gM)} (hM : X12_held x1 x2 u = some w) : gV κ B skM 6 ((some (.long w.1)), w.2) 0 [some (.ref (B + 0)), some (.int x1), some (.int x2), none, none, none] [] u := by
  unfold X12_held at hM
  refine g_aload_n X dX12_held_0 rfl ?_
  refine g_iload_n X dX12_held_1 rfl ?_
  obtain ⟨w2, e2, hM⟩ := bind_of hM
  refine g_callVi X (fun B adK => [.int x1]) (s_X12_isBank e2) cvX12_369 cM_0 rfl rfl (Nat.le_of_ble_eq_true rfl) ⟨by decide, by decide⟩ dX12_held_2 ?_
  refine g_if_eq (tgt := 20) X dX12_held_5 (by decide) (fun c5 => ?_) (fun c5 => ?_)
  · rw [if_pos c5] at hM
    refine g_mk [false, false, false, false, false, false] [none, none, none, none, none, none] rfl ?_
    exact v_X12_held_b20 X  hM
  · rw [if_neg c5] at hM
    refine g_iload_n X dX12_held_8 rfl ?_
    refine g_i2l X dX12_held_9 ?_
    refine g_lconst (v := 0) X dX12_held_10 (by decide) ?_
    refine g_ldc2 (v := 2) X m_49_9 dX12_held_11 ?_
    obtain ⟨w14, e14, hM⟩ := bind_of hM
    refine g_callSi X (fun B adK => [.long x2.toInt64, .long 0, .long 2]) (s_X12_isIn e14) cvX12_125 rfl rfl (Nat.le_of_ble_eq_true rfl) ⟨by decide, by decide⟩ dX12_held_14 ?_
    refine g_if_ne (tgt := 24) X dX12_held_17 (by decide) (fun c17 => ?_) (fun c17 => ?_)
    · rw [if_neg c17] at hM
      refine g_lconst (v := 0) X dX12_held_24 (by decide) ?_
      refine g_lstore_n X [some (.ref (B + 0)), some (.int x1), some (.int x2), some (.long 0), none, none] dX12_held_25 (by decide) rfl ?_
      refine g_iconst X (v := 0) dX12_held_26 (by decide) ?_
      refine g_istore X [some (.ref (B + 0)), some (.int x1), some (.int x2), some (.long 0), none, some (.int 0)] dX12_held_27 (by decide) rfl ?_
      refine g_mk [true, true, true, true, false, true] [some (.ref (B + 0)), some (.int x1), some (.int x2), some (.long 0), none, some (.int 0)] rfl ?_
      exact v_X12_held_l29 X  fz hM
    · rw [if_pos c17] at hM
      refine g_mk [false, false, false, false, false, false] [none, none, none, none, none, none] rfl ?_
      exact v_X12_held_b20 X  hM
theorem s_X12_held {x1 : Int32} {x2 : Int32} {u : gM} {w : (Int64 × gM)} (hM : X12_held x1 x2 u = some w) : gMet skM yX12_held cX12_held 6 (some .long) 8 202 (fun B adK => [.ref (B + 0), .int x1, .int x2]) u ((fun _ => some (.long w.1)), w.2) := by
  refine gMet.of (by decide) (fun _ _ => Nat.le_of_ble_eq_true rfl) (fun κ B X => ?_)
  have X : gX κ B skM cX12_held 6 RX12 (some .long) 8 202 := X
  refine g_mk [true, true, true, false, false, false] [some (.ref (B + 0)), some (.int x1), some (.int x2), none, none, none] rfl ?_
  exact v_X12_held X  hM
theorem fr_X12_held_b20 {S : Nat → Prop} {u0 u : gM}     {w : (Int64 × gM)} (hM : X12_held_b20 u = some w) (h0 : off S u0 u) : off S u0 w.2 := by
  unfold X12_held_b20 at hM
  cases hM
  exact h0
theorem fr_X12_held_b150 {S : Nat → Prop} {u0 u : gM} {x3 : Int64}    {w : (Int64 × gM)} (hM : X12_held_b150 x3 u = some w) (h0 : off S u0 u) : off S u0 w.2 := by
  unfold X12_held_b150 at hM
  cases hM
  exact h0
theorem fr_X12_held_b144 {S : Nat → Prop} {u0 u : gM} {x1 : Int32} {x2 : Int32} {x3 : Int64} {x5 : Int32} (hs0 : S 20) (hs1 : S 21) (hs2 : S 22) (hs3 : S 23) (hs4 : S 24) {k87 : Int32 → Int32 → Int64 → Int32 → gM → Option (Int64 × gM)} (ik87 : ∀ (x1 : Int32) (x2 : Int32) (x3 : Int64) (x5 : Int32) (u : gM) (w : (Int64 × gM)), S 20 → S 21 → S 22 → S 23 → S 24 → off S u0 u → k87 x1 x2 x3 x5 u = some w → off S u0 w.2) {w : (Int64 × gM)} (hM : X12_held_b144 k87 x1 x2 x3 x5 u = some w) (h0 : off S u0 u) : off S u0 w.2 := by
  unfold X12_held_b144 at hM
  exact ik87 _ _ _ _ _ _ hs0 hs1 hs2 hs3 hs4 h0 hM
theorem fr_X12_held_b142 {S : Nat → Prop} {u0 u : gM} {x1 : Int32} {x2 : Int32} {x5 : Int32} {s0 : Int64} {s1 : Int64} (hs0 : S 20) (hs1 : S 21) (hs2 : S 22) (hs3 : S 23) (hs4 : S 24) {k87 : Int32 → Int32 → Int64 → Int32 → gM → Option (Int64 × gM)} (ik87 : ∀ (x1 : Int32) (x2 : Int32) (x3 : Int64) (x5 : Int32) (u : gM) (w : (Int64 × gM)), S 20 → S 21 → S 22 → S 23 → S 24 → off S u0 u → k87 x1 x2 x3 x5 u = some w → off S u0 w.2) {w : (Int64 × gM)} (hM : X12_held_b142 k87 x1 x2 x5 s0 s1 u = some w) (h0 : off S u0 u) : off S u0 w.2 := by
  unfold X12_held_b142 at hM
  exact fr_X12_held_b144 hs0 hs1 hs2 hs3 hs4 ik87 hM h0
theorem fr_X12_held_b87 {S : Nat → Prop} {u0 u : gM} {x1 : Int32} {x2 : Int32} {x3 : Int64} {x5 : Int32} (hs0 : S 20) (hs1 : S 21) (hs2 : S 22) (hs3 : S 23) (hs4 : S 24) {k87 : Int32 → Int32 → Int64 → Int32 → gM → Option (Int64 × gM)} (ik87 : ∀ (x1 : Int32) (x2 : Int32) (x3 : Int64) (x5 : Int32) (u : gM) (w : (Int64 × gM)), S 20 → S 21 → S 22 → S 23 → S 24 → off S u0 u → k87 x1 x2 x3 x5 u = some w → off S u0 w.2) {w : (Int64 × gM)} (hM : X12_held_b87 k87 x1 x2 x3 x5 u = some w) (h0 : off S u0 u) : off S u0 w.2 := by
  unfold X12_held_b87 at hM
  obtain ⟨v94, e94, hM⟩ := bind_of hM
  by_cases c95 : v94 ≤ x5
  · rw [if_pos c95] at hM
    exact fr_X12_held_b150   hM h0
  · rw [if_neg c95] at hM
    by_cases c100 : 2 ≤ x2
    · rw [if_pos c100] at hM
      exact fr_X12_held_b150   hM h0
    · rw [if_neg c100] at hM
      obtain ⟨v110, e110, hM⟩ := bind_of hM
      obtain ⟨w111, e111, hM⟩ := bind_of hM
      by_cases c115 : w111 = x1
      · rw [if_pos c115] at hM
        by_cases c120 : x2 = 0
        · rw [if_pos c120] at hM
          obtain ⟨v131, e131, hM⟩ := bind_of hM
          exact fr_X12_held_b142 hs0 hs1 hs2 hs3 hs4 ik87 hM h0
        · rw [if_neg c120] at hM
          obtain ⟨w139, e139, hM⟩ := bind_of hM
          have h0 := fr_X12_insuredIn hs0 hs1 hs2 hs3 hs4 e139 h0
          exact fr_X12_held_b142 hs0 hs1 hs2 hs3 hs4 ik87 hM h0
      · rw [if_neg c115] at hM
        exact fr_X12_held_b144 hs0 hs1 hs2 hs3 hs4 ik87 hM h0
theorem fr_X12_held_l87 {S : Nat → Prop} {u0 : gM}   : ∀ (n : Nat) {x1 : Int32} {x2 : Int32} {x3 : Int64} {x5 : Int32} (hs0 : S 20) (hs1 : S 21) (hs2 : S 22) (hs3 : S 23) (hs4 : S 24) {u : gM} {w : (Int64 × gM)} (h0 : off S u0 u) (hM : X12_held_l87  n x1 x2 x3 x5 u = some w), off S u0 w.2 := by
  intro n
  induction n with
  | zero => intro x1 x2 x3 x5 hs0 hs1 hs2 hs3 hs4 u w h0 hM; exact nomatch (show (none : Option (Int64 × gM)) = some w from hM)
  | succ n ihn => intro x1 x2 x3 x5 hs0 hs1 hs2 hs3 hs4 u w h0 hM; exact fr_X12_held_b87 hs0 hs1 hs2 hs3 hs4  (fun x1 x2 x3 x5 _ _ hs0 hs1 hs2 hs3 hs4 h0 h => ihn hs0 hs1 hs2 hs3 hs4 h0 h) hM h0
theorem fr_X12_held_b84 {S : Nat → Prop} {u0 u : gM} {x1 : Int32} {x2 : Int32} {x3 : Int64} (hs0 : S 20) (hs1 : S 21) (hs2 : S 22) (hs3 : S 23) (hs4 : S 24)   {w : (Int64 × gM)} (hM : X12_held_b84 x1 x2 x3 u = some w) (h0 : off S u0 u) : off S u0 w.2 := by
  unfold X12_held_b84 at hM
  exact fr_X12_held_l87  fz hs0 hs1 hs2 hs3 hs4 h0 hM
theorem fr_X12_held_b76 {S : Nat → Prop} {u0 u : gM} {x1 : Int32} {x2 : Int32} {x5 : Int32} {s0 : Int64} {s1 : Int64} (hs0 : S 20) (hs1 : S 21) (hs2 : S 22) (hs3 : S 23) (hs4 : S 24) {k29 : Int32 → Int32 → Int64 → Int32 → gM → Option (Int64 × gM)} (ik29 : ∀ (x1 : Int32) (x2 : Int32) (x3 : Int64) (x5 : Int32) (u : gM) (w : (Int64 × gM)), S 20 → S 21 → S 22 → S 23 → S 24 → off S u0 u → k29 x1 x2 x3 x5 u = some w → off S u0 w.2) {w : (Int64 × gM)} (hM : X12_held_b76 k29 x1 x2 x5 s0 s1 u = some w) (h0 : off S u0 u) : off S u0 w.2 := by
  unfold X12_held_b76 at hM
  exact ik29 _ _ _ _ _ _ hs0 hs1 hs2 hs3 hs4 h0 hM
theorem fr_X12_held_b29 {S : Nat → Prop} {u0 u : gM} {x1 : Int32} {x2 : Int32} {x3 : Int64} {x5 : Int32} (hs0 : S 20) (hs1 : S 21) (hs2 : S 22) (hs3 : S 23) (hs4 : S 24) {k29 : Int32 → Int32 → Int64 → Int32 → gM → Option (Int64 × gM)} (ik29 : ∀ (x1 : Int32) (x2 : Int32) (x3 : Int64) (x5 : Int32) (u : gM) (w : (Int64 × gM)), S 20 → S 21 → S 22 → S 23 → S 24 → off S u0 u → k29 x1 x2 x3 x5 u = some w → off S u0 w.2) {w : (Int64 × gM)} (hM : X12_held_b29 k29 x1 x2 x3 x5 u = some w) (h0 : off S u0 u) : off S u0 w.2 := by
  unfold X12_held_b29 at hM
  obtain ⟨v36, e36, hM⟩ := bind_of hM
  by_cases c37 : v36 ≤ x5
  · rw [if_pos c37] at hM
    exact fr_X12_held_b84 hs0 hs1 hs2 hs3 hs4  hM h0
  · rw [if_neg c37] at hM
    by_cases c42 : x2 = 2
    · rw [if_pos c42] at hM
      obtain ⟨v53, e53, hM⟩ := bind_of hM
      obtain ⟨w54, e54, hM⟩ := bind_of hM
      by_cases c58 : w54 = x1
      · rw [if_pos c58] at hM
        obtain ⟨v70, e70, hM⟩ := bind_of hM
        exact fr_X12_held_b76 hs0 hs1 hs2 hs3 hs4 ik29 hM h0
      · rw [if_neg c58] at hM
        exact fr_X12_held_b76 hs0 hs1 hs2 hs3 hs4 ik29 hM h0
    · rw [if_neg c42] at hM
      exact fr_X12_held_b84 hs0 hs1 hs2 hs3 hs4  hM h0
theorem fr_X12_held_l29 {S : Nat → Prop} {u0 : gM}   : ∀ (n : Nat) {x1 : Int32} {x2 : Int32} {x3 : Int64} {x5 : Int32} (hs0 : S 20) (hs1 : S 21) (hs2 : S 22) (hs3 : S 23) (hs4 : S 24) {u : gM} {w : (Int64 × gM)} (h0 : off S u0 u) (hM : X12_held_l29  n x1 x2 x3 x5 u = some w), off S u0 w.2 := by
  intro n
  induction n with
  | zero => intro x1 x2 x3 x5 hs0 hs1 hs2 hs3 hs4 u w h0 hM; exact nomatch (show (none : Option (Int64 × gM)) = some w from hM)
  | succ n ihn => intro x1 x2 x3 x5 hs0 hs1 hs2 hs3 hs4 u w h0 hM; exact fr_X12_held_b29 hs0 hs1 hs2 hs3 hs4  (fun x1 x2 x3 x5 _ _ hs0 hs1 hs2 hs3 hs4 h0 h => ihn hs0 hs1 hs2 hs3 hs4 h0 h) hM h0
theorem fr_X12_held {S : Nat → Prop} {u0 u : gM} {x1 : Int32} {x2 : Int32} (hs0 : S 20) (hs1 : S 21) (hs2 : S 22) (hs3 : S 23) (hs4 : S 24)   {w : (Int64 × gM)} (hM : X12_held x1 x2 u = some w) (h0 : off S u0 u) : off S u0 w.2 := by
  unfold X12_held at hM
  obtain ⟨w2, e2, hM⟩ := bind_of hM
  by_cases c5 : w2 = 0
  · rw [if_pos c5] at hM
    exact fr_X12_held_b20   hM h0
  · rw [if_neg c5] at hM
    obtain ⟨w14, e14, hM⟩ := bind_of hM
    by_cases c17 : w14 = 0
    · rw [if_pos c17] at hM
      exact fr_X12_held_b20   hM h0
    · rw [if_neg c17] at hM
      exact fr_X12_held_l29  fz hs0 hs1 hs2 hs3 hs4 h0 hM

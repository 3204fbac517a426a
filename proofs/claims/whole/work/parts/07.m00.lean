/-! CoverDesk$Told.isAccount(I)Z -/
theorem dX10_isAccount_0 : decode cX10_isAccount 0 = .ok (.iload_n 1, 1) := by decide +kernel
theorem dX10_isAccount_1 : decode cX10_isAccount 1 = .ok (.ifCond .lt 15, 3) := by decide +kernel
theorem dX10_isAccount_4 : decode cX10_isAccount 4 = .ok (.iload_n 1, 1) := by decide +kernel
theorem dX10_isAccount_5 : decode cX10_isAccount 5 = .ok (.aload_n 0, 1) := by decide +kernel
theorem dX10_isAccount_6 : decode cX10_isAccount 6 = .ok (.getfield 69, 3) := by decide +kernel
theorem dX10_isAccount_9 : decode cX10_isAccount 9 = .ok (.if_icmp .ge 7, 3) := by decide +kernel
theorem dX10_isAccount_12 : decode cX10_isAccount 12 = .ok (.iconst 1, 1) := by decide +kernel
theorem dX10_isAccount_13 : decode cX10_isAccount 13 = .ok (.goto 4, 3) := by decide +kernel
theorem dX10_isAccount_16 : decode cX10_isAccount 16 = .ok (.iconst 0, 1) := by decide +kernel
theorem dX10_isAccount_17 : decode cX10_isAccount 17 = .ok (.ireturn, 1) := by decide +kernel
def X10_isAccount_b17 (u : gM)  (s0 : Int32) : Option Int32 :=
bI s0
def X10_isAccount_b16 (u : gM)   : Option Int32 :=
(X10_isAccount_b17 u 0)
def X10_isAccount (u : gM)  (x0 : Nat) (x1 : Int32) : Option Int32 :=
(if x1 < 0 then (X10_isAccount_b16 u)
  else (if isO skC x0 10 = true then (if (u.1 x0 2) ≤ x1 then (X10_isAccount_b16 u)
    else (X10_isAccount_b17 u 1))
 else none))
set_option maxRecDepth 20000 in
theorem v_X10_isAccount_b17 {κ : gK} {B : Nat} {u : gM} (X : gX κ B skC cX10_isAccount 2 RX10 (some .boolean) 0 0)   {s0 : Int32} {w : Int32} (hM : X10_isAccount_b17 u s0 = some w) : gV κ B skC 2 ((some (.int w)), u) 17 [none, none] [.int s0] u := by
  unfold X10_isAccount_b17 at hM
  obtain ⟨hv, rfl⟩ := bI_of hM
  exact g_zret X hv dX10_isAccount_17
set_option maxRecDepth 20000 in
theorem v_X10_isAccount_b16 {κ : gK} {B : Nat} {u : gM} (X : gX κ B skC cX10_isAccount 2 RX10 (some .boolean) 0 0)    {w : Int32} (hM : X10_isAccount_b16 u = some w) : gV κ B skC 2 ((some (.int w)), u) 16 [none, none] [] u := by
  unfold X10_isAccount_b16 at hM
  refine g_iconst X (v := 0) dX10_isAccount_16 (by decide) ?_
  refine g_mk [false, false] [none, none] rfl ?_
  exact v_X10_isAccount_b17 X  hM
set_option maxRecDepth 20000 in
theorem v_X10_isAccount {κ : gK} {B : Nat} {u : gM} (X : gX κ B skC cX10_isAccount 2 RX10 (some .boolean) 0 0)   {x0 : Nat} {x1 : Int32} {w : Int32} (hM : X10_isAccount u x0 x1 = some w) : gV κ B skC 2 ((some (.int w)), u) 0 [some (.ref (B + x0)), some (.int x1)] [] u := by
  unfold X10_isAccount at hM
  refine g_iload_n X dX10_isAccount_0 rfl ?_
  refine g_if_lt (tgt := 16) X dX10_isAccount_1 (by decide) (fun c1 => ?_) (fun c1 => ?_)
  · rw [if_pos c1] at hM
    refine g_mk [false, false] [none, none] rfl ?_
    exact v_X10_isAccount_b16 X  hM
  · rw [if_neg c1] at hM
    refine g_iload_n X dX10_isAccount_4 rfl ?_
    refine g_aload_n X dX10_isAccount_5 rfl ?_
    obtain ⟨o0, hM⟩ := ite_of hM
    refine g_getI X fX10_69 (sh_X10 o0) rfl dX10_isAccount_6 ?_
    refine g_icmp_ge (tgt := 16) X dX10_isAccount_9 (by decide) (fun c9 => ?_) (fun c9 => ?_)
    · rw [if_pos c9] at hM
      refine g_mk [false, false] [none, none] rfl ?_
      exact v_X10_isAccount_b16 X  hM
    · rw [if_neg c9] at hM
      refine g_iconst X (v := 1) dX10_isAccount_12 (by decide) ?_
      refine g_goto (tgt := 17) X dX10_isAccount_13 (by decide) ?_
      refine g_mk [false, false] [none, none] rfl ?_
      exact v_X10_isAccount_b17 X  hM
theorem s_X10_isAccount {x0 : Nat} {x1 : Int32} {u : gM} {w : Int32} (hM : X10_isAccount u x0 x1 = some w) : gMet skC yX10_isAccount cX10_isAccount 2 (some .boolean) 0 0 (fun B adK => [.ref (B + x0), .int x1]) u ((fun _ => some (.int w)), u) := by
  refine gMet.of (by decide) (fun _ _ => Nat.le_of_ble_eq_true rfl) (fun κ B X => ?_)
  have X : gX κ B skC cX10_isAccount 2 RX10 (some .boolean) 0 0 := X
  refine g_mk [true, true] [some (.ref (B + x0)), some (.int x1)] rfl ?_
  exact v_X10_isAccount X  hM

/-! CoverDesk$State.isMerged(I)Z -/
theorem dX8_isMerged_0 : decode cX8_isMerged 0 = .ok (.iload_n 1, 1) := by decide +kernel
theorem dX8_isMerged_1 : decode cX8_isMerged 1 = .ok (.ifCond .lt 23, 3) := by decide +kernel
theorem dX8_isMerged_4 : decode cX8_isMerged 4 = .ok (.iload_n 1, 1) := by decide +kernel
theorem dX8_isMerged_5 : decode cX8_isMerged 5 = .ok (.bipush 6, 2) := by decide +kernel
theorem dX8_isMerged_7 : decode cX8_isMerged 7 = .ok (.if_icmp .ge 17, 3) := by decide +kernel
theorem dX8_isMerged_10 : decode cX8_isMerged 10 = .ok (.aload_n 0, 1) := by decide +kernel
theorem dX8_isMerged_11 : decode cX8_isMerged 11 = .ok (.getfield 18, 3) := by decide +kernel
theorem dX8_isMerged_14 : decode cX8_isMerged 14 = .ok (.iload_n 1, 1) := by decide +kernel
theorem dX8_isMerged_15 : decode cX8_isMerged 15 = .ok (.iaload, 1) := by decide +kernel
theorem dX8_isMerged_16 : decode cX8_isMerged 16 = .ok (.iconst (-1), 1) := by decide +kernel
theorem dX8_isMerged_17 : decode cX8_isMerged 17 = .ok (.if_icmp .eq 7, 3) := by decide +kernel
theorem dX8_isMerged_20 : decode cX8_isMerged 20 = .ok (.iconst 1, 1) := by decide +kernel
theorem dX8_isMerged_21 : decode cX8_isMerged 21 = .ok (.goto 4, 3) := by decide +kernel
theorem dX8_isMerged_24 : decode cX8_isMerged 24 = .ok (.iconst 0, 1) := by decide +kernel
theorem dX8_isMerged_25 : decode cX8_isMerged 25 = .ok (.ireturn, 1) := by decide +kernel
def X8_isMerged_b25 (u : gM)  (s0 : Int32) : Option Int32 :=
bI s0
def X8_isMerged_b24 (u : gM)   : Option Int32 :=
(X8_isMerged_b25 u 0)
def X8_isMerged (u : gM)  (x0 : Nat) (x1 : Int32) : Option Int32 :=
(if x1 < 0 then (X8_isMerged_b24 u)
  else (if 6 ≤ x1 then (X8_isMerged_b24 u)
    else (if isO skC x0 8 = true then ((aI skC u (rf skC x0 3) x1).bind fun v15 => (if v15 = (-1) then (X8_isMerged_b24 u)
      else (X8_isMerged_b25 u 1)))
 else none)))
set_option maxRecDepth 20000 in
theorem v_X8_isMerged_b25 {κ : gK} {B : Nat} {u : gM} (X : gX κ B skC cX8_isMerged 2 RX8 (some .boolean) 0 0)   {s0 : Int32} {w : Int32} (hM : X8_isMerged_b25 u s0 = some w) : gV κ B skC 2 ((some (.int w)), u) 25 [none, none] [.int s0] u := by
  unfold X8_isMerged_b25 at hM
  obtain ⟨hv, rfl⟩ := bI_of hM
  exact g_zret X hv dX8_isMerged_25
set_option maxRecDepth 20000 in
theorem v_X8_isMerged_b24 {κ : gK} {B : Nat} {u : gM} (X : gX κ B skC cX8_isMerged 2 RX8 (some .boolean) 0 0)    {w : Int32} (hM : X8_isMerged_b24 u = some w) : gV κ B skC 2 ((some (.int w)), u) 24 [none, none] [] u := by
  unfold X8_isMerged_b24 at hM
  refine g_iconst X (v := 0) dX8_isMerged_24 (by decide) ?_
  refine g_mk [false, false] [none, none] rfl ?_
  exact v_X8_isMerged_b25 X  hM
set_option maxRecDepth 20000 in
theorem v_X8_isMerged {κ : gK} {B : Nat} {u : gM} (X : gX κ B skC cX8_isMerged 2 RX8 (some .boolean) 0 0)   {x0 : Nat} {x1 : Int32} {w : Int32} (hM : X8_isMerged u x0 x1 = some w) : gV κ B skC 2 ((some (.int w)), u) 0 [some (.ref (B + x0)), some (.int x1)] [] u := by
  unfold X8_isMerged at hM
  refine g_iload_n X dX8_isMerged_0 rfl ?_
  refine g_if_lt (tgt := 24) X dX8_isMerged_1 (by decide) (fun c1 => ?_) (fun c1 => ?_)
  · rw [if_pos c1] at hM
    refine g_mk [false, false] [none, none] rfl ?_
    exact v_X8_isMerged_b24 X  hM
  · rw [if_neg c1] at hM
    refine g_iload_n X dX8_isMerged_4 rfl ?_
    refine g_bipush X (v := 6) dX8_isMerged_5 (by decide) ?_
    refine g_icmp_ge (tgt := 24) X dX8_isMerged_7 (by decide) (fun c7 => ?_) (fun c7 => ?_)
    · rw [if_pos c7] at hM
      refine g_mk [false, false] [none, none] rfl ?_
      exact v_X8_isMerged_b24 X  hM
    · rw [if_neg c7] at hM
      refine g_aload_n X dX8_isMerged_10 rfl ?_
      obtain ⟨o0, hM⟩ := ite_of hM
      refine g_getR X fX8_18 (sh_X8 o0) rfl dX8_isMerged_11 ?_
      refine g_iload_n X dX8_isMerged_14 rfl ?_
      obtain ⟨v15, e15, hM⟩ := bind_of hM
      refine g_iaload X e15 dX8_isMerged_15 ?_
      refine g_iconst X (v := (-1)) dX8_isMerged_16 (by decide) ?_
      refine g_icmp_eq (tgt := 24) X dX8_isMerged_17 (by decide) (fun c17 => ?_) (fun c17 => ?_)
      · rw [if_pos c17] at hM
        refine g_mk [false, false] [none, none] rfl ?_
        exact v_X8_isMerged_b24 X  hM
      · rw [if_neg c17] at hM
        refine g_iconst X (v := 1) dX8_isMerged_20 (by decide) ?_
        refine g_goto (tgt := 25) X dX8_isMerged_21 (by decide) ?_
        refine g_mk [false, false] [none, none] rfl ?_
        exact v_X8_isMerged_b25 X  hM
theorem s_X8_isMerged {x0 : Nat} {x1 : Int32} {u : gM} {w : Int32} (hM : X8_isMerged u x0 x1 = some w) : gMet skC yX8_isMerged cX8_isMerged 2 (some .boolean) 0 0 (fun B adK => [.ref (B + x0), .int x1]) u ((fun _ => some (.int w)), u) := by
  refine gMet.of (by decide) (fun _ _ => Nat.le_of_ble_eq_true rfl) (fun κ B X => ?_)
  have X : gX κ B skC cX8_isMerged 2 RX8 (some .boolean) 0 0 := X
  refine g_mk [true, true] [some (.ref (B + x0)), some (.int x1)] rfl ?_
  exact v_X8_isMerged X  hM

/-! CoverDesk$State.nowAt(I)I -/
theorem dX8_nowAt_0 : decode cX8_nowAt 0 = .ok (.iload_n 1, 1) := by decide +kernel
theorem dX8_nowAt_1 : decode cX8_nowAt 1 = .ok (.istore_n 2, 1) := by decide +kernel
theorem dX8_nowAt_2 : decode cX8_nowAt 2 = .ok (.iconst 0, 1) := by decide +kernel
theorem dX8_nowAt_3 : decode cX8_nowAt 3 = .ok (.istore_n 3, 1) := by decide +kernel
theorem dX8_nowAt_4 : decode cX8_nowAt 4 = .ok (.iload_n 3, 1) := by decide +kernel
theorem dX8_nowAt_5 : decode cX8_nowAt 5 = .ok (.bipush 6, 2) := by decide +kernel
theorem dX8_nowAt_7 : decode cX8_nowAt 7 = .ok (.if_icmp .ge 24, 3) := by decide +kernel
theorem dX8_nowAt_10 : decode cX8_nowAt 10 = .ok (.aload_n 0, 1) := by decide +kernel
theorem dX8_nowAt_11 : decode cX8_nowAt 11 = .ok (.iload_n 2, 1) := by decide +kernel
theorem dX8_nowAt_12 : decode cX8_nowAt 12 = .ok (.invokevirtual 64, 3) := by decide +kernel
theorem dX8_nowAt_15 : decode cX8_nowAt 15 = .ok (.ifCond .eq 16, 3) := by decide +kernel
theorem dX8_nowAt_18 : decode cX8_nowAt 18 = .ok (.aload_n 0, 1) := by decide +kernel
theorem dX8_nowAt_19 : decode cX8_nowAt 19 = .ok (.getfield 18, 3) := by decide +kernel
theorem dX8_nowAt_22 : decode cX8_nowAt 22 = .ok (.iload_n 2, 1) := by decide +kernel
theorem dX8_nowAt_23 : decode cX8_nowAt 23 = .ok (.iaload, 1) := by decide +kernel
theorem dX8_nowAt_24 : decode cX8_nowAt 24 = .ok (.istore_n 2, 1) := by decide +kernel
theorem dX8_nowAt_25 : decode cX8_nowAt 25 = .ok (.iinc 3 1, 3) := by decide +kernel
theorem dX8_nowAt_28 : decode cX8_nowAt 28 = .ok (.goto (-24), 3) := by decide +kernel
theorem dX8_nowAt_31 : decode cX8_nowAt 31 = .ok (.iload_n 2, 1) := by decide +kernel
theorem dX8_nowAt_32 : decode cX8_nowAt 32 = .ok (.ireturn, 1) := by decide +kernel
def X8_nowAt_b31 (u : gM)  (x2 : Int32) : Option Int32 :=
some x2
def X8_nowAt_b4 (u : gM) (k4 : Nat → Int32 → Int32 → Option Int32) (x0 : Nat) (x2 : Int32) (x3 : Int32) : Option Int32 :=
(if 6 ≤ x3 then (X8_nowAt_b31 u x2)
  else (if isO skC x0 8 = true then ((X8_isMerged u x0 x2).bind fun w12 => (if w12 = 0 then (X8_nowAt_b31 u x2)
    else ((aI skC u (rf skC x0 3) x2).bind fun v23 => (k4 x0 v23 (x3 + 1)))))
 else none))
def X8_nowAt_l4 (u : gM)  : Nat → Nat → Int32 → Int32 → Option Int32
  | 0, _, _, _ => none
  | n + 1, x0, x2, x3 => X8_nowAt_b4 u  (X8_nowAt_l4 u  n) x0 x2 x3
def X8_nowAt (u : gM)  (x0 : Nat) (x1 : Int32) : Option Int32 :=
(X8_nowAt_l4 u fz x0 x1 0)
set_option maxRecDepth 20000 in
theorem v_X8_nowAt_b31 {κ : gK} {B : Nat} {u : gM} (X : gX κ B skC cX8_nowAt 4 RX8 (some .int) 1 21)   {x2 : Int32} {w : Int32} (hM : X8_nowAt_b31 u x2 = some w) : gV κ B skC 4 ((some (.int w)), u) 31 [none, none, some (.int x2), none] [] u := by
  unfold X8_nowAt_b31 at hM
  refine g_iload_n X dX8_nowAt_31 rfl ?_
  cases hM
  exact g_iret X dX8_nowAt_32
set_option maxRecDepth 20000 in
theorem v_X8_nowAt_b4 {κ : gK} {B : Nat} {u : gM} (X : gX κ B skC cX8_nowAt 4 RX8 (some .int) 1 21) {k4 : Nat → Int32 → Int32 → Option Int32} (ih4 : ∀ (x0 : Nat) (x2 : Int32) (x3 : Int32) (w : Int32), k4 x0 x2 x3 = some w → gV κ B skC 4 ((some (.int w)), u) 4 [some (.ref (B + x0)), none, some (.int x2), some (.int x3)] [] u) {x0 : Nat} {x2 : Int32} {x3 : Int32} {w : Int32} (hM : X8_nowAt_b4 u k4 x0 x2 x3 = some w) : gV κ B skC 4 ((some (.int w)), u) 4 [some (.ref (B + x0)), none, some (.int x2), some (.int x3)] [] u := by
  unfold X8_nowAt_b4 at hM
  refine g_iload_n X dX8_nowAt_4 rfl ?_
  refine g_bipush X (v := 6) dX8_nowAt_5 (by decide) ?_
  refine g_icmp_ge (tgt := 31) X dX8_nowAt_7 (by decide) (fun c7 => ?_) (fun c7 => ?_)
  · rw [if_pos c7] at hM
    refine g_mk [false, false, true, false] [none, none, some (.int x2), none] rfl ?_
    exact v_X8_nowAt_b31 X  hM
  · rw [if_neg c7] at hM
    refine g_aload_n X dX8_nowAt_10 rfl ?_
    refine g_iload_n X dX8_nowAt_11 rfl ?_
    obtain ⟨o0, hM⟩ := ite_of hM
    obtain ⟨w12, e12, hM⟩ := bind_of hM
    refine g_callVi X (fun B adK => [.int x2]) (s_X8_isMerged e12) cvX8_64 (sh_X8 o0) rfl rfl (Nat.le_of_ble_eq_true rfl) ⟨by decide, by decide⟩ dX8_nowAt_12 ?_
    refine g_if_eq (tgt := 31) X dX8_nowAt_15 (by decide) (fun c15 => ?_) (fun c15 => ?_)
    · rw [if_pos c15] at hM
      refine g_mk [false, false, true, false] [none, none, some (.int x2), none] rfl ?_
      exact v_X8_nowAt_b31 X  hM
    · rw [if_neg c15] at hM
      refine g_aload_n X dX8_nowAt_18 rfl ?_
      refine g_getR X fX8_18 (sh_X8 o0) rfl dX8_nowAt_19 ?_
      refine g_iload_n X dX8_nowAt_22 rfl ?_
      obtain ⟨v23, e23, hM⟩ := bind_of hM
      refine g_iaload X e23 dX8_nowAt_23 ?_
      refine g_istore_n X [some (.ref (B + x0)), none, some (.int v23), some (.int x3)] dX8_nowAt_24 (by decide) rfl ?_
      refine g_iinc (d := 1) X [some (.ref (B + x0)), none, some (.int v23), some (.int (x3 + 1))] dX8_nowAt_25 (by decide) rfl (by decide) rfl ?_
      refine g_goto (tgt := 4) X dX8_nowAt_28 (by decide) ?_
      refine g_mk [true, false, true, true] [some (.ref (B + x0)), none, some (.int v23), some (.int (x3 + 1))] rfl ?_
      exact ih4 x0 v23 (x3 + 1) _ hM
theorem v_X8_nowAt_l4 {κ : gK} {B : Nat} {u : gM} (X : gX κ B skC cX8_nowAt 4 RX8 (some .int) 1 21)   : ∀ (n : Nat) {x0 : Nat} {x2 : Int32} {x3 : Int32} {w : Int32} (hM : X8_nowAt_l4 u  n x0 x2 x3 = some w), gV κ B skC 4 ((some (.int w)), u) 4 [some (.ref (B + x0)), none, some (.int x2), some (.int x3)] [] u := by
  intro n
  induction n with
  | zero => intro x0 x2 x3 w hM; exact nomatch (show (none : Option Int32) = some w from hM)
  | succ n ihn => intro x0 x2 x3 w hM; exact v_X8_nowAt_b4 X  (fun x0 x2 x3 w h => ihn h) hM
set_option maxRecDepth 20000 in
theorem v_X8_nowAt {κ : gK} {B : Nat} {u : gM} (X : gX κ B skC cX8_nowAt 4 RX8 (some .int) 1 21)   {x0 : Nat} {x1 : Int32} {w : Int32} (hM : X8_nowAt u x0 x1 = some w) : gV κ B skC 4 ((some (.int w)), u) 0 [some (.ref (B + x0)), some (.int x1), none, none] [] u := by
  unfold X8_nowAt at hM
  refine g_iload_n X dX8_nowAt_0 rfl ?_
  refine g_istore_n X [some (.ref (B + x0)), some (.int x1), some (.int x1), none] dX8_nowAt_1 (by decide) rfl ?_
  refine g_iconst X (v := 0) dX8_nowAt_2 (by decide) ?_
  refine g_istore_n X [some (.ref (B + x0)), some (.int x1), some (.int x1), some (.int 0)] dX8_nowAt_3 (by decide) rfl ?_
  refine g_mk [true, false, true, true] [some (.ref (B + x0)), none, some (.int x1), some (.int 0)] rfl ?_
  exact v_X8_nowAt_l4 X  fz hM
theorem s_X8_nowAt {x0 : Nat} {x1 : Int32} {u : gM} {w : Int32} (hM : X8_nowAt u x0 x1 = some w) : gMet skC yX8_nowAt cX8_nowAt 4 (some .int) 1 21 (fun B adK => [.ref (B + x0), .int x1]) u ((fun _ => some (.int w)), u) := by
  refine gMet.of (by decide) (fun _ _ => Nat.le_of_ble_eq_true rfl) (fun κ B X => ?_)
  have X : gX κ B skC cX8_nowAt 4 RX8 (some .int) 1 21 := X
  refine g_mk [true, true, false, false] [some (.ref (B + x0)), some (.int x1), none, none] rfl ?_
  exact v_X8_nowAt X  hM

/-! CoverDesk$Cover.endOf(II)I -/
theorem dX1_endOf_0 : decode cX1_endOf 0 = .ok (.aload_n 0, 1) := by decide +kernel
theorem dX1_endOf_1 : decode cX1_endOf 1 = .ok (.getfield 36, 3) := by decide +kernel
theorem dX1_endOf_4 : decode cX1_endOf 4 = .ok (.getfield 50, 3) := by decide +kernel
theorem dX1_endOf_7 : decode cX1_endOf 7 = .ok (.iload_n 2, 1) := by decide +kernel
theorem dX1_endOf_8 : decode cX1_endOf 8 = .ok (.iaload, 1) := by decide +kernel
theorem dX1_endOf_9 : decode cX1_endOf 9 = .ok (.aload_n 0, 1) := by decide +kernel
theorem dX1_endOf_10 : decode cX1_endOf 10 = .ok (.getfield 32, 3) := by decide +kernel
theorem dX1_endOf_13 : decode cX1_endOf 13 = .ok (.getfield 53, 3) := by decide +kernel
theorem dX1_endOf_16 : decode cX1_endOf 16 = .ok (.iadd, 1) := by decide +kernel
theorem dX1_endOf_17 : decode cX1_endOf 17 = .ok (.istore_n 3, 1) := by decide +kernel
theorem dX1_endOf_18 : decode cX1_endOf 18 = .ok (.aload_n 0, 1) := by decide +kernel
theorem dX1_endOf_19 : decode cX1_endOf 19 = .ok (.getfield 32, 3) := by decide +kernel
theorem dX1_endOf_22 : decode cX1_endOf 22 = .ok (.getfield 57, 3) := by decide +kernel
theorem dX1_endOf_25 : decode cX1_endOf 25 = .ok (.iload_n 1, 1) := by decide +kernel
theorem dX1_endOf_26 : decode cX1_endOf 26 = .ok (.iaload, 1) := by decide +kernel
theorem dX1_endOf_27 : decode cX1_endOf 27 = .ok (.istore 4, 2) := by decide +kernel
theorem dX1_endOf_29 : decode cX1_endOf 29 = .ok (.iload 4, 2) := by decide +kernel
theorem dX1_endOf_31 : decode cX1_endOf 31 = .ok (.iconst 1, 1) := by decide +kernel
theorem dX1_endOf_32 : decode cX1_endOf 32 = .ok (.if_icmp .ge 5, 3) := by decide +kernel
theorem dX1_endOf_35 : decode cX1_endOf 35 = .ok (.iload_n 3, 1) := by decide +kernel
theorem dX1_endOf_36 : decode cX1_endOf 36 = .ok (.ireturn, 1) := by decide +kernel
theorem dX1_endOf_37 : decode cX1_endOf 37 = .ok (.iconst 1, 1) := by decide +kernel
theorem dX1_endOf_38 : decode cX1_endOf 38 = .ok (.iload_n 3, 1) := by decide +kernel
theorem dX1_endOf_39 : decode cX1_endOf 39 = .ok (.iload 4, 2) := by decide +kernel
theorem dX1_endOf_41 : decode cX1_endOf 41 = .ok (.iadd, 1) := by decide +kernel
theorem dX1_endOf_42 : decode cX1_endOf 42 = .ok (.iconst 1, 1) := by decide +kernel
theorem dX1_endOf_43 : decode cX1_endOf 43 = .ok (.isub, 1) := by decide +kernel
theorem dX1_endOf_44 : decode cX1_endOf 44 = .ok (.iload 4, 2) := by decide +kernel
theorem dX1_endOf_46 : decode cX1_endOf 46 = .ok (.idiv, 1) := by decide +kernel
theorem dX1_endOf_47 : decode cX1_endOf 47 = .ok (.invokestatic 60, 3) := by decide +kernel
theorem dX1_endOf_50 : decode cX1_endOf 50 = .ok (.iload 4, 2) := by decide +kernel
theorem dX1_endOf_52 : decode cX1_endOf 52 = .ok (.imul, 1) := by decide +kernel
theorem dX1_endOf_53 : decode cX1_endOf 53 = .ok (.ireturn, 1) := by decide +kernel
def X1_endOf (u : gM)  (x1 : Int32) (x2 : Int32) : Option Int32 :=
((aI skC u 22 x2).bind fun v8 => ((aI skC u 10 x1).bind fun v26 => (if 1 ≤ v26 then (if v26 = 0 then none else some ((mxI 1 ((((v8 + (u.1 3 5)) + v26) - 1) / v26)) * v26))
  else some (v8 + (u.1 3 5)))))
set_option maxRecDepth 20000 in
theorem v_X1_endOf {κ : gK} {B : Nat} {u : gM} (X : gX κ B skC cX1_endOf 5 RX1 (some .int) 1 26)   {x1 : Int32} {x2 : Int32} {w : Int32} (hM : X1_endOf u x1 x2 = some w) : gV κ B skC 5 ((some (.int w)), u) 0 [some (.ref (B + 136)), some (.int x1), some (.int x2), none, none] [] u := by
  unfold X1_endOf at hM
  refine g_aload_n X dX1_endOf_0 rfl ?_
  refine g_getR X fX1_36 cC_136 rfl dX1_endOf_1 ?_
  refine g_getR X fX1_50 cC_18 rfl dX1_endOf_4 ?_
  refine g_iload_n X dX1_endOf_7 rfl ?_
  obtain ⟨v8, e8, hM⟩ := bind_of hM
  refine g_iaload X e8 dX1_endOf_8 ?_
  refine g_aload_n X dX1_endOf_9 rfl ?_
  refine g_getR X fX1_32 cC_136 rfl dX1_endOf_10 ?_
  refine g_getI X fX1_53 cC_3 rfl dX1_endOf_13 ?_
  refine g_iadd X dX1_endOf_16 ?_
  refine g_istore_n X [some (.ref (B + 136)), some (.int x1), some (.int x2), some (.int (v8 + (u.1 3 5))), none] dX1_endOf_17 (by decide) rfl ?_
  refine g_aload_n X dX1_endOf_18 rfl ?_
  refine g_getR X fX1_32 cC_136 rfl dX1_endOf_19 ?_
  refine g_getR X fX1_57 cC_3 rfl dX1_endOf_22 ?_
  refine g_iload_n X dX1_endOf_25 rfl ?_
  obtain ⟨v26, e26, hM⟩ := bind_of hM
  refine g_iaload X e26 dX1_endOf_26 ?_
  refine g_istore X [some (.ref (B + 136)), some (.int x1), some (.int x2), some (.int (v8 + (u.1 3 5))), some (.int v26)] dX1_endOf_27 (by decide) rfl ?_
  refine g_iload X dX1_endOf_29 rfl ?_
  refine g_iconst X (v := 1) dX1_endOf_31 (by decide) ?_
  refine g_icmp_ge (tgt := 37) X dX1_endOf_32 (by decide) (fun c32 => ?_) (fun c32 => ?_)
  · rw [if_pos c32] at hM
    refine g_iconst X (v := 1) dX1_endOf_37 (by decide) ?_
    refine g_iload_n X dX1_endOf_38 rfl ?_
    refine g_iload X dX1_endOf_39 rfl ?_
    refine g_iadd X dX1_endOf_41 ?_
    refine g_iconst X (v := 1) dX1_endOf_42 (by decide) ?_
    refine g_isub X dX1_endOf_43 ?_
    refine g_iload X dX1_endOf_44 rfl ?_
    obtain ⟨n46, hM⟩ := ite_no hM
    refine g_idiv X n46 dX1_endOf_46 ?_
    refine g_maxI X m_33_12 ⟨by decide, Nat.le_of_ble_eq_true rfl⟩ dX1_endOf_47 ?_
    refine g_iload X dX1_endOf_50 rfl ?_
    refine g_imul X dX1_endOf_52 ?_
    cases hM
    exact g_iret X dX1_endOf_53
  · rw [if_neg c32] at hM
    refine g_iload_n X dX1_endOf_35 rfl ?_
    cases hM
    exact g_iret X dX1_endOf_36
theorem s_X1_endOf {x1 : Int32} {x2 : Int32} {u : gM} {w : Int32} (hM : X1_endOf u x1 x2 = some w) : gMet skC yX1_endOf cX1_endOf 5 (some .int) 1 26 (fun B adK => [.ref (B + 136), .int x1, .int x2]) u ((fun _ => some (.int w)), u) := by
  refine gMet.of (by decide) (fun _ _ => Nat.le_of_ble_eq_true rfl) (fun κ B X => ?_)
  have X : gX κ B skC cX1_endOf 5 RX1 (some .int) 1 26 := X
  refine g_mk [true, true, true, false, false] [some (.ref (B + 136)), some (.int x1), some (.int x2), none, none] rfl ?_
  exact v_X1_endOf X  hM

/-! CoverDesk$Cover.countedAt(II)I -/
theorem dX1_countedAt_0 : decode cX1_countedAt 0 = .ok (.aload_n 0, 1) := by decide +kernel
theorem dX1_countedAt_1 : decode cX1_countedAt 1 = .ok (.getfield 32, 3) := by decide +kernel
theorem dX1_countedAt_4 : decode cX1_countedAt 4 = .ok (.getfield 66, 3) := by decide +kernel
theorem dX1_countedAt_7 : decode cX1_countedAt 7 = .ok (.iload_n 1, 1) := by decide +kernel
theorem dX1_countedAt_8 : decode cX1_countedAt 8 = .ok (.iaload, 1) := by decide +kernel
theorem dX1_countedAt_9 : decode cX1_countedAt 9 = .ok (.istore_n 3, 1) := by decide +kernel
theorem dX1_countedAt_10 : decode cX1_countedAt 10 = .ok (.iconst 0, 1) := by decide +kernel
theorem dX1_countedAt_11 : decode cX1_countedAt 11 = .ok (.istore 4, 2) := by decide +kernel
theorem dX1_countedAt_13 : decode cX1_countedAt 13 = .ok (.iload 4, 2) := by decide +kernel
theorem dX1_countedAt_15 : decode cX1_countedAt 15 = .ok (.bipush 6, 2) := by decide +kernel
theorem dX1_countedAt_17 : decode cX1_countedAt 17 = .ok (.if_icmp .ge 40, 3) := by decide +kernel
theorem dX1_countedAt_20 : decode cX1_countedAt 20 = .ok (.aload_n 0, 1) := by decide +kernel
theorem dX1_countedAt_21 : decode cX1_countedAt 21 = .ok (.getfield 36, 3) := by decide +kernel
theorem dX1_countedAt_24 : decode cX1_countedAt 24 = .ok (.iload_n 3, 1) := by decide +kernel
theorem dX1_countedAt_25 : decode cX1_countedAt 25 = .ok (.invokevirtual 69, 3) := by decide +kernel
theorem dX1_countedAt_28 : decode cX1_countedAt 28 = .ok (.ifCond .eq 29, 3) := by decide +kernel
theorem dX1_countedAt_31 : decode cX1_countedAt 31 = .ok (.iload_n 2, 1) := by decide +kernel
theorem dX1_countedAt_32 : decode cX1_countedAt 32 = .ok (.aload_n 0, 1) := by decide +kernel
theorem dX1_countedAt_33 : decode cX1_countedAt 33 = .ok (.iload_n 1, 1) := by decide +kernel
theorem dX1_countedAt_34 : decode cX1_countedAt 34 = .ok (.iload_n 3, 1) := by decide +kernel
theorem dX1_countedAt_35 : decode cX1_countedAt 35 = .ok (.invokevirtual 73, 3) := by decide +kernel
theorem dX1_countedAt_38 : decode cX1_countedAt 38 = .ok (.if_icmp .lt 19, 3) := by decide +kernel
theorem dX1_countedAt_41 : decode cX1_countedAt 41 = .ok (.aload_n 0, 1) := by decide +kernel
theorem dX1_countedAt_42 : decode cX1_countedAt 42 = .ok (.getfield 36, 3) := by decide +kernel
theorem dX1_countedAt_45 : decode cX1_countedAt 45 = .ok (.getfield 76, 3) := by decide +kernel
theorem dX1_countedAt_48 : decode cX1_countedAt 48 = .ok (.iload_n 3, 1) := by decide +kernel
theorem dX1_countedAt_49 : decode cX1_countedAt 49 = .ok (.iaload, 1) := by decide +kernel
theorem dX1_countedAt_50 : decode cX1_countedAt 50 = .ok (.istore_n 3, 1) := by decide +kernel
theorem dX1_countedAt_51 : decode cX1_countedAt 51 = .ok (.iinc 4 1, 3) := by decide +kernel
theorem dX1_countedAt_54 : decode cX1_countedAt 54 = .ok (.goto (-41), 3) := by decide +kernel
theorem dX1_countedAt_57 : decode cX1_countedAt 57 = .ok (.iload_n 3, 1) := by decide +kernel
theorem dX1_countedAt_58 : decode cX1_countedAt 58 = .ok (.ireturn, 1) := by decide +kernel
def X1_countedAt_b57 (u : gM)  (x3 : Int32) : Option Int32 :=
some x3
def X1_countedAt_b13 (u : gM) (k13 : Int32 → Int32 → Int32 → Int32 → Option Int32) (x1 : Int32) (x2 : Int32) (x3 : Int32) (x4 : Int32) : Option Int32 :=
(if 6 ≤ x4 then (X1_countedAt_b57 u x3)
  else ((X8_isMerged u 18 x3).bind fun w25 => (if w25 = 0 then (X1_countedAt_b57 u x3)
    else ((X1_endOf u x1 x3).bind fun w35 => (if x2 < w35 then (X1_countedAt_b57 u x3)
      else ((aI skC u 21 x3).bind fun v49 => (k13 x1 x2 v49 (x4 + 1))))))))
def X1_countedAt_l13 (u : gM)  : Nat → Int32 → Int32 → Int32 → Int32 → Option Int32
  | 0, _, _, _, _ => none
  | n + 1, x1, x2, x3, x4 => X1_countedAt_b13 u  (X1_countedAt_l13 u  n) x1 x2 x3 x4
def X1_countedAt (u : gM)  (x1 : Int32) (x2 : Int32) : Option Int32 :=
((aI skC u 8 x1).bind fun v8 => (X1_countedAt_l13 u fz x1 x2 v8 0))
set_option maxRecDepth 20000 in
theorem v_X1_countedAt_b57 {κ : gK} {B : Nat} {u : gM} (X : gX κ B skC cX1_countedAt 5 RX1 (some .int) 2 50)   {x3 : Int32} {w : Int32} (hM : X1_countedAt_b57 u x3 = some w) : gV κ B skC 5 ((some (.int w)), u) 57 [none, none, none, some (.int x3), none] [] u := by
  unfold X1_countedAt_b57 at hM
  refine g_iload_n X dX1_countedAt_57 rfl ?_
  cases hM
  exact g_iret X dX1_countedAt_58
set_option maxRecDepth 20000 in
theorem v_X1_countedAt_b13 {κ : gK} {B : Nat} {u : gM} (X : gX κ B skC cX1_countedAt 5 RX1 (some .int) 2 50) {k13 : Int32 → Int32 → Int32 → Int32 → Option Int32} (ih13 : ∀ (x1 : Int32) (x2 : Int32) (x3 : Int32) (x4 : Int32) (w : Int32), k13 x1 x2 x3 x4 = some w → gV κ B skC 5 ((some (.int w)), u) 13 [some (.ref (B + 136)), some (.int x1), some (.int x2), some (.int x3), some (.int x4)] [] u) {x1 : Int32} {x2 : Int32} {x3 : Int32} {x4 : Int32} {w : Int32} (hM : X1_countedAt_b13 u k13 x1 x2 x3 x4 = some w) : gV κ B skC 5 ((some (.int w)), u) 13 [some (.ref (B + 136)), some (.int x1), some (.int x2), some (.int x3), some (.int x4)] [] u := by
  unfold X1_countedAt_b13 at hM
  refine g_iload X dX1_countedAt_13 rfl ?_
  refine g_bipush X (v := 6) dX1_countedAt_15 (by decide) ?_
  refine g_icmp_ge (tgt := 57) X dX1_countedAt_17 (by decide) (fun c17 => ?_) (fun c17 => ?_)
  · rw [if_pos c17] at hM
    refine g_mk [false, false, false, true, false] [none, none, none, some (.int x3), none] rfl ?_
    exact v_X1_countedAt_b57 X  hM
  · rw [if_neg c17] at hM
    refine g_aload_n X dX1_countedAt_20 rfl ?_
    refine g_getR X fX1_36 cC_136 rfl dX1_countedAt_21 ?_
    refine g_iload_n X dX1_countedAt_24 rfl ?_
    obtain ⟨w25, e25, hM⟩ := bind_of hM
    refine g_callVi X (fun B adK => [.int x3]) (s_X8_isMerged e25) cvX1_69 cC_18 rfl rfl (Nat.le_of_ble_eq_true rfl) ⟨by decide, by decide⟩ dX1_countedAt_25 ?_
    refine g_if_eq (tgt := 57) X dX1_countedAt_28 (by decide) (fun c28 => ?_) (fun c28 => ?_)
    · rw [if_pos c28] at hM
      refine g_mk [false, false, false, true, false] [none, none, none, some (.int x3), none] rfl ?_
      exact v_X1_countedAt_b57 X  hM
    · rw [if_neg c28] at hM
      refine g_iload_n X dX1_countedAt_31 rfl ?_
      refine g_aload_n X dX1_countedAt_32 rfl ?_
      refine g_iload_n X dX1_countedAt_33 rfl ?_
      refine g_iload_n X dX1_countedAt_34 rfl ?_
      obtain ⟨w35, e35, hM⟩ := bind_of hM
      refine g_callVi X (fun B adK => [.int x1, .int x3]) (s_X1_endOf e35) cvX1_73 cC_136 rfl rfl (Nat.le_of_ble_eq_true rfl) ⟨by decide, by decide⟩ dX1_countedAt_35 ?_
      refine g_icmp_lt (tgt := 57) X dX1_countedAt_38 (by decide) (fun c38 => ?_) (fun c38 => ?_)
      · rw [if_pos c38] at hM
        refine g_mk [false, false, false, true, false] [none, none, none, some (.int x3), none] rfl ?_
        exact v_X1_countedAt_b57 X  hM
      · rw [if_neg c38] at hM
        refine g_aload_n X dX1_countedAt_41 rfl ?_
        refine g_getR X fX1_36 cC_136 rfl dX1_countedAt_42 ?_
        refine g_getR X fX1_76 cC_18 rfl dX1_countedAt_45 ?_
        refine g_iload_n X dX1_countedAt_48 rfl ?_
        obtain ⟨v49, e49, hM⟩ := bind_of hM
        refine g_iaload X e49 dX1_countedAt_49 ?_
        refine g_istore_n X [some (.ref (B + 136)), some (.int x1), some (.int x2), some (.int v49), some (.int x4)] dX1_countedAt_50 (by decide) rfl ?_
        refine g_iinc (d := 1) X [some (.ref (B + 136)), some (.int x1), some (.int x2), some (.int v49), some (.int (x4 + 1))] dX1_countedAt_51 (by decide) rfl (by decide) rfl ?_
        refine g_goto (tgt := 13) X dX1_countedAt_54 (by decide) ?_
        refine g_mk [true, true, true, true, true] [some (.ref (B + 136)), some (.int x1), some (.int x2), some (.int v49), some (.int (x4 + 1))] rfl ?_
        exact ih13 x1 x2 v49 (x4 + 1) _ hM
theorem v_X1_countedAt_l13 {κ : gK} {B : Nat} {u : gM} (X : gX κ B skC cX1_countedAt 5 RX1 (some .int) 2 50)   : ∀ (n : Nat) {x1 : Int32} {x2 : Int32} {x3 : Int32} {x4 : Int32} {w : Int32} (hM : X1_countedAt_l13 u  n x1 x2 x3 x4 = some w), gV κ B skC 5 ((some (.int w)), u) 13 [some (.ref (B + 136)), some (.int x1), some (.int x2), some (.int x3), some (.int x4)] [] u := by
  intro n
  induction n with
  | zero => intro x1 x2 x3 x4 w hM; exact nomatch (show (none : Option Int32) = some w from hM)
  | succ n ihn => intro x1 x2 x3 x4 w hM; exact v_X1_countedAt_b13 X  (fun x1 x2 x3 x4 w h => ihn h) hM
set_option maxRecDepth 20000 in
theorem v_X1_countedAt {κ : gK} {B : Nat} {u : gM} (X : gX κ B skC cX1_countedAt 5 RX1 (some .int) 2 50)   {x1 : Int32} {x2 : Int32} {w : Int32} (hM : X1_countedAt u x1 x2 = some w) : gV κ B skC 5 ((some (.int w)), u) 0 [some (.ref (B + 136)), some (.int x1), some (.int x2), none, none] [] u := by
  unfold X1_countedAt at hM
  refine g_aload_n X dX1_countedAt_0 rfl ?_
  refine g_getR X fX1_32 cC_136 rfl dX1_countedAt_1 ?_
  refine g_getR X fX1_66 cC_3 rfl dX1_countedAt_4 ?_
  refine g_iload_n X dX1_countedAt_7 rfl ?_
  obtain ⟨v8, e8, hM⟩ := bind_of hM
  refine g_iaload X e8 dX1_countedAt_8 ?_
  refine g_istore_n X [some (.ref (B + 136)), some (.int x1), some (.int x2), some (.int v8), none] dX1_countedAt_9 (by decide) rfl ?_
  refine g_iconst X (v := 0) dX1_countedAt_10 (by decide) ?_
  refine g_istore X [some (.ref (B + 136)), some (.int x1), some (.int x2), some (.int v8), some (.int 0)] dX1_countedAt_11 (by decide) rfl ?_
  refine g_mk [true, true, true, true, true] [some (.ref (B + 136)), some (.int x1), some (.int x2), some (.int v8), some (.int 0)] rfl ?_
  exact v_X1_countedAt_l13 X  fz hM
theorem s_X1_countedAt {x1 : Int32} {x2 : Int32} {u : gM} {w : Int32} (hM : X1_countedAt u x1 x2 = some w) : gMet skC yX1_countedAt cX1_countedAt 5 (some .int) 2 50 (fun B adK => [.ref (B + 136), .int x1, .int x2]) u ((fun _ => some (.int w)), u) := by
  refine gMet.of (by decide) (fun _ _ => Nat.le_of_ble_eq_true rfl) (fun κ B X => ?_)
  have X : gX κ B skC cX1_countedAt 5 RX1 (some .int) 2 50 := X
  refine g_mk [true, true, true, false, false] [some (.ref (B + 136)), some (.int x1), some (.int x2), none, none] rfl ?_
  exact v_X1_countedAt X  hM

/-! CoverDesk$Cover.setMonth(I)V -/
theorem dX1_setMonth_0 : decode cX1_setMonth 0 = .ok (.iconst 0, 1) := by decide +kernel
theorem dX1_setMonth_1 : decode cX1_setMonth 1 = .ok (.istore_n 2, 1) := by decide +kernel
theorem dX1_setMonth_2 : decode cX1_setMonth 2 = .ok (.iload_n 2, 1) := by decide +kernel
theorem dX1_setMonth_3 : decode cX1_setMonth 3 = .ok (.aload_n 0, 1) := by decide +kernel
theorem dX1_setMonth_4 : decode cX1_setMonth 4 = .ok (.getfield 32, 3) := by decide +kernel
theorem dX1_setMonth_7 : decode cX1_setMonth 7 = .ok (.getfield 82, 3) := by decide +kernel
theorem dX1_setMonth_10 : decode cX1_setMonth 10 = .ok (.if_icmp .ge 21, 3) := by decide +kernel
theorem dX1_setMonth_13 : decode cX1_setMonth 13 = .ok (.aload_n 0, 1) := by decide +kernel
theorem dX1_setMonth_14 : decode cX1_setMonth 14 = .ok (.getfield 22, 3) := by decide +kernel
theorem dX1_setMonth_17 : decode cX1_setMonth 17 = .ok (.iload_n 2, 1) := by decide +kernel
theorem dX1_setMonth_18 : decode cX1_setMonth 18 = .ok (.aload_n 0, 1) := by decide +kernel
theorem dX1_setMonth_19 : decode cX1_setMonth 19 = .ok (.iload_n 2, 1) := by decide +kernel
theorem dX1_setMonth_20 : decode cX1_setMonth 20 = .ok (.iload_n 1, 1) := by decide +kernel
theorem dX1_setMonth_21 : decode cX1_setMonth 21 = .ok (.invokevirtual 79, 3) := by decide +kernel
theorem dX1_setMonth_24 : decode cX1_setMonth 24 = .ok (.iastore, 1) := by decide +kernel
theorem dX1_setMonth_25 : decode cX1_setMonth 25 = .ok (.iinc 2 1, 3) := by decide +kernel
theorem dX1_setMonth_28 : decode cX1_setMonth 28 = .ok (.goto (-26), 3) := by decide +kernel
theorem dX1_setMonth_31 : decode cX1_setMonth 31 = .ok (.return_, 1) := by decide +kernel
def X1_setMonth_b2 (k2 : Int32 → Int32 → gM → Option gM) (x1 : Int32) (x2 : Int32) (u : gM) : Option gM :=
(if (u.1 3 2) ≤ x2 then some u
  else ((X1_countedAt u x2 x1).bind fun w21 => ((sI skC u 142 x2 w21).bind fun u24 => (k2 x1 (x2 + 1) u24))))
def X1_setMonth_l2  : Nat → Int32 → Int32 → gM → Option gM
  | 0, _, _, _ => none
  | n + 1, x1, x2, u => X1_setMonth_b2  (X1_setMonth_l2  n) x1 x2 u
def X1_setMonth  (x1 : Int32) (u : gM) : Option gM :=
(X1_setMonth_l2 fz x1 0 u)
set_option maxRecDepth 20000 in
theorem v_X1_setMonth_b2 {κ : gK} {B : Nat} {u : gM} (X : gX κ B skC cX1_setMonth 3 RX1 none 3 74) {k2 : Int32 → Int32 → gM → Option gM} (ih2 : ∀ (x1 : Int32) (x2 : Int32) (u : gM) (w : gM), k2 x1 x2 u = some w → gV κ B skC 3 ((none), w) 2 [some (.ref (B + 136)), some (.int x1), some (.int x2)] [] u) {x1 : Int32} {x2 : Int32} {w : gM} (hM : X1_setMonth_b2 k2 x1 x2 u = some w) : gV κ B skC 3 ((none), w) 2 [some (.ref (B + 136)), some (.int x1), some (.int x2)] [] u := by
  unfold X1_setMonth_b2 at hM
  refine g_iload_n X dX1_setMonth_2 rfl ?_
  refine g_aload_n X dX1_setMonth_3 rfl ?_
  refine g_getR X fX1_32 cC_136 rfl dX1_setMonth_4 ?_
  refine g_getI X fX1_82 cC_3 rfl dX1_setMonth_7 ?_
  refine g_icmp_ge (tgt := 31) X dX1_setMonth_10 (by decide) (fun c10 => ?_) (fun c10 => ?_)
  · rw [if_pos c10] at hM
    cases hM
    exact g_vret X dX1_setMonth_31
  · rw [if_neg c10] at hM
    refine g_aload_n X dX1_setMonth_13 rfl ?_
    refine g_getR X fX1_22 cC_136 rfl dX1_setMonth_14 ?_
    refine g_iload_n X dX1_setMonth_17 rfl ?_
    refine g_aload_n X dX1_setMonth_18 rfl ?_
    refine g_iload_n X dX1_setMonth_19 rfl ?_
    refine g_iload_n X dX1_setMonth_20 rfl ?_
    obtain ⟨w21, e21, hM⟩ := bind_of hM
    refine g_callVi X (fun B adK => [.int x2, .int x1]) (s_X1_countedAt e21) cvX1_79 cC_136 rfl rfl (Nat.le_of_ble_eq_true rfl) ⟨by decide, by decide⟩ dX1_setMonth_21 ?_
    obtain ⟨u24, e24, hM⟩ := bind_of hM
    refine g_iastore X e24 dX1_setMonth_24 ?_
    refine g_iinc (d := 1) X [some (.ref (B + 136)), some (.int x1), some (.int (x2 + 1))] dX1_setMonth_25 (by decide) rfl (by decide) rfl ?_
    refine g_goto (tgt := 2) X dX1_setMonth_28 (by decide) ?_
    refine g_mk [true, true, true] [some (.ref (B + 136)), some (.int x1), some (.int (x2 + 1))] rfl ?_
    exact ih2 x1 (x2 + 1) u24 _ hM
theorem v_X1_setMonth_l2 {κ : gK} {B : Nat} (X : gX κ B skC cX1_setMonth 3 RX1 none 3 74)   : ∀ (n : Nat) {x1 : Int32} {x2 : Int32} {u : gM} {w : gM} (hM : X1_setMonth_l2  n x1 x2 u = some w), gV κ B skC 3 ((none), w) 2 [some (.ref (B + 136)), some (.int x1), some (.int x2)] [] u := by
  intro n
  induction n with
  | zero => intro x1 x2 u w hM; exact nomatch (show (none : Option gM) = some w from hM)
  | succ n ihn => intro x1 x2 u w hM; exact v_X1_setMonth_b2 X  (fun x1 x2 u w h => ihn h) hM
set_option maxRecDepth 20000 in
theorem v_X1_setMonth {κ : gK} {B : Nat} {u : gM} (X : gX κ B skC cX1_setMonth 3 RX1 none 3 74)   {x1 : Int32} {w : gM} (hM : X1_setMonth x1 u = some w) : gV κ B skC 3 ((none), w) 0 [some (.ref (B + 136)), some (.int x1), none] [] u := by
  unfold X1_setMonth at hM
  refine g_iconst X (v := 0) dX1_setMonth_0 (by decide) ?_
  refine g_istore_n X [some (.ref (B + 136)), some (.int x1), some (.int 0)] dX1_setMonth_1 (by decide) rfl ?_
  refine g_mk [true, true, true] [some (.ref (B + 136)), some (.int x1), some (.int 0)] rfl ?_
  exact v_X1_setMonth_l2 X  fz hM
theorem s_X1_setMonth {x1 : Int32} {u : gM} {w : gM} (hM : X1_setMonth x1 u = some w) : gMet skC yX1_setMonth cX1_setMonth 3 none 3 74 (fun B adK => [.ref (B + 136), .int x1]) u ((fun _ => none), w) := by
  refine gMet.of (by decide) (fun _ _ => Nat.le_of_ble_eq_true rfl) (fun κ B X => ?_)
  have X : gX κ B skC cX1_setMonth 3 RX1 none 3 74 := X
  refine g_mk [true, true, false] [some (.ref (B + 136)), some (.int x1), none] rfl ?_
  exact v_X1_setMonth X  hM
theorem fr_X1_setMonth_b2 {S : Nat → Prop} {u0 u : gM} {x1 : Int32} {x2 : Int32} (hs0 : S 142) {k2 : Int32 → Int32 → gM → Option gM} (ik2 : ∀ (x1 : Int32) (x2 : Int32) (u : gM) (w : gM), S 142 → off S u0 u → k2 x1 x2 u = some w → off S u0 w) {w : gM} (hM : X1_setMonth_b2 k2 x1 x2 u = some w) (h0 : off S u0 u) : off S u0 w := by
  unfold X1_setMonth_b2 at hM
  by_cases c10 : (u.1 3 2) ≤ x2
  · rw [if_pos c10] at hM
    cases hM
    exact h0
  · rw [if_neg c10] at hM
    obtain ⟨w21, e21, hM⟩ := bind_of hM
    obtain ⟨u24, e24, hM⟩ := bind_of hM
    have h0 := off_sI hs0 e24 h0
    exact ik2 _ _ _ _ hs0 h0 hM
theorem fr_X1_setMonth_l2 {S : Nat → Prop} {u0 : gM}   : ∀ (n : Nat) {x1 : Int32} {x2 : Int32} (hs0 : S 142) {u : gM} {w : gM} (h0 : off S u0 u) (hM : X1_setMonth_l2  n x1 x2 u = some w), off S u0 w := by
  intro n
  induction n with
  | zero => intro x1 x2 hs0 u w h0 hM; exact nomatch (show (none : Option gM) = some w from hM)
  | succ n ihn => intro x1 x2 hs0 u w h0 hM; exact fr_X1_setMonth_b2 hs0  (fun x1 x2 _ _ hs0 h0 h => ihn hs0 h0 h) hM h0
theorem fr_X1_setMonth {S : Nat → Prop} {u0 u : gM} {x1 : Int32} (hs0 : S 142)   {w : gM} (hM : X1_setMonth x1 u = some w) (h0 : off S u0 u) : off S u0 w := by
  unfold X1_setMonth at hM
  exact fr_X1_setMonth_l2  fz hs0 h0 hM
/-! java/util/Arrays.fill([II)V -/
theorem dJ7_fill_53178_0 : decode cJ7_fill_53178 0 = .ok (.iconst 0, 1) := by decide +kernel
theorem dJ7_fill_53178_1 : decode cJ7_fill_53178 1 = .ok (.istore_n 2, 1) := by decide +kernel
theorem dJ7_fill_53178_2 : decode cJ7_fill_53178 2 = .ok (.aload_n 0, 1) := by decide +kernel
theorem dJ7_fill_53178_3 : decode cJ7_fill_53178 3 = .ok (.arraylength, 1) := by decide +kernel
theorem dJ7_fill_53178_4 : decode cJ7_fill_53178 4 = .ok (.istore_n 3, 1) := by decide +kernel
theorem dJ7_fill_53178_5 : decode cJ7_fill_53178 5 = .ok (.iload_n 2, 1) := by decide +kernel
theorem dJ7_fill_53178_6 : decode cJ7_fill_53178 6 = .ok (.iload_n 3, 1) := by decide +kernel
theorem dJ7_fill_53178_7 : decode cJ7_fill_53178 7 = .ok (.if_icmp .ge 13, 3) := by decide +kernel
theorem dJ7_fill_53178_10 : decode cJ7_fill_53178 10 = .ok (.aload_n 0, 1) := by decide +kernel
theorem dJ7_fill_53178_11 : decode cJ7_fill_53178 11 = .ok (.iload_n 2, 1) := by decide +kernel
theorem dJ7_fill_53178_12 : decode cJ7_fill_53178 12 = .ok (.iload_n 1, 1) := by decide +kernel
theorem dJ7_fill_53178_13 : decode cJ7_fill_53178 13 = .ok (.iastore, 1) := by decide +kernel
theorem dJ7_fill_53178_14 : decode cJ7_fill_53178 14 = .ok (.iinc 2 1, 3) := by decide +kernel
theorem dJ7_fill_53178_17 : decode cJ7_fill_53178 17 = .ok (.goto (-12), 3) := by decide +kernel
theorem dJ7_fill_53178_20 : decode cJ7_fill_53178 20 = .ok (.return_, 1) := by decide +kernel
def J7_fill_53178_b5 (k5 : Nat → Int32 → Int32 → Int32 → gM → Option gM) (x0 : Nat) (x1 : Int32) (x2 : Int32) (x3 : Int32) (u : gM) : Option gM :=
(if x3 ≤ x2 then some u
  else ((sI skC u x0 x2 x1).bind fun u13 => (k5 x0 x1 (x2 + 1) x3 u13)))
def J7_fill_53178_l5  : Nat → Nat → Int32 → Int32 → Int32 → gM → Option gM
  | 0, _, _, _, _, _ => none
  | n + 1, x0, x1, x2, x3, u => J7_fill_53178_b5  (J7_fill_53178_l5  n) x0 x1 x2 x3 u
def J7_fill_53178  (x0 : Nat) (x1 : Int32) (u : gM) : Option gM :=
((aL skC x0).bind fun v3 => (J7_fill_53178_l5 fz x0 x1 0 v3 u))
set_option maxRecDepth 20000 in
theorem v_J7_fill_53178_b5 {κ : gK} {B : Nat} {u : gM} (X : gX κ B skC cJ7_fill_53178 4 RJ7 none 0 0) {k5 : Nat → Int32 → Int32 → Int32 → gM → Option gM} (ih5 : ∀ (x0 : Nat) (x1 : Int32) (x2 : Int32) (x3 : Int32) (u : gM) (w : gM), k5 x0 x1 x2 x3 u = some w → gV κ B skC 4 ((none), w) 5 [some (.ref (B + x0)), some (.int x1), some (.int x2), some (.int x3)] [] u) {x0 : Nat} {x1 : Int32} {x2 : Int32} {x3 : Int32} {w : gM} (hM : J7_fill_53178_b5 k5 x0 x1 x2 x3 u = some w) : gV κ B skC 4 ((none), w) 5 [some (.ref (B + x0)), some (.int x1), some (.int x2), some (.int x3)] [] u := by
  unfold J7_fill_53178_b5 at hM
  refine g_iload_n X dJ7_fill_53178_5 rfl ?_
  refine g_iload_n X dJ7_fill_53178_6 rfl ?_
  refine g_icmp_ge (tgt := 20) X dJ7_fill_53178_7 (by decide) (fun c7 => ?_) (fun c7 => ?_)
  · rw [if_pos c7] at hM
    cases hM
    exact g_vret X dJ7_fill_53178_20
  · rw [if_neg c7] at hM
    refine g_aload_n X dJ7_fill_53178_10 rfl ?_
    refine g_iload_n X dJ7_fill_53178_11 rfl ?_
    refine g_iload_n X dJ7_fill_53178_12 rfl ?_
    obtain ⟨u13, e13, hM⟩ := bind_of hM
    refine g_iastore X e13 dJ7_fill_53178_13 ?_
    refine g_iinc (d := 1) X [some (.ref (B + x0)), some (.int x1), some (.int (x2 + 1)), some (.int x3)] dJ7_fill_53178_14 (by decide) rfl (by decide) rfl ?_
    refine g_goto (tgt := 5) X dJ7_fill_53178_17 (by decide) ?_
    refine g_mk [true, true, true, true] [some (.ref (B + x0)), some (.int x1), some (.int (x2 + 1)), some (.int x3)] rfl ?_
    exact ih5 x0 x1 (x2 + 1) x3 u13 _ hM
theorem v_J7_fill_53178_l5 {κ : gK} {B : Nat} (X : gX κ B skC cJ7_fill_53178 4 RJ7 none 0 0)   : ∀ (n : Nat) {x0 : Nat} {x1 : Int32} {x2 : Int32} {x3 : Int32} {u : gM} {w : gM} (hM : J7_fill_53178_l5  n x0 x1 x2 x3 u = some w), gV κ B skC 4 ((none), w) 5 [some (.ref (B + x0)), some (.int x1), some (.int x2), some (.int x3)] [] u := by
  intro n
  induction n with
  | zero => intro x0 x1 x2 x3 u w hM; exact nomatch (show (none : Option gM) = some w from hM)
  | succ n ihn => intro x0 x1 x2 x3 u w hM; exact v_J7_fill_53178_b5 X  (fun x0 x1 x2 x3 u w h => ihn h) hM
set_option maxRecDepth 20000 in
theorem v_J7_fill_53178 {κ : gK} {B : Nat} {u : gM} (X : gX κ B skC cJ7_fill_53178 4 RJ7 none 0 0)   {x0 : Nat} {x1 : Int32} {w : gM} (hM : J7_fill_53178 x0 x1 u = some w) : gV κ B skC 4 ((none), w) 0 [some (.ref (B + x0)), some (.int x1), none, none] [] u := by
  unfold J7_fill_53178 at hM
  refine g_iconst X (v := 0) dJ7_fill_53178_0 (by decide) ?_
  refine g_istore_n X [some (.ref (B + x0)), some (.int x1), some (.int 0), none] dJ7_fill_53178_1 (by decide) rfl ?_
  refine g_aload_n X dJ7_fill_53178_2 rfl ?_
  obtain ⟨v3, e3, hM⟩ := bind_of hM
  refine g_alen X e3 dJ7_fill_53178_3 skC_t ?_
  refine g_istore_n X [some (.ref (B + x0)), some (.int x1), some (.int 0), some (.int v3)] dJ7_fill_53178_4 (by decide) rfl ?_
  refine g_mk [true, true, true, true] [some (.ref (B + x0)), some (.int x1), some (.int 0), some (.int v3)] rfl ?_
  exact v_J7_fill_53178_l5 X  fz hM
theorem s_J7_fill_53178 {x0 : Nat} {x1 : Int32} {u : gM} {w : gM} (hM : J7_fill_53178 x0 x1 u = some w) : gMet skC yJ7_fill_53178 cJ7_fill_53178 4 none 0 0 (fun B adK => [.ref (B + x0), .int x1]) u ((fun _ => none), w) := by
  refine gMet.of (by decide) (fun _ _ => Nat.le_of_ble_eq_true rfl) (fun κ B X => ?_)
  have X : gX κ B skC cJ7_fill_53178 4 RJ7 none 0 0 := X
  refine g_mk [true, true, false, false] [some (.ref (B + x0)), some (.int x1), none, none] rfl ?_
  exact v_J7_fill_53178 X  hM
theorem fr_J7_fill_53178_b5 {S : Nat → Prop} {u0 u : gM} {x0 : Nat} {x1 : Int32} {x2 : Int32} {x3 : Int32} (hs0 : S x0) {k5 : Nat → Int32 → Int32 → Int32 → gM → Option gM} (ik5 : ∀ (x0 : Nat) (x1 : Int32) (x2 : Int32) (x3 : Int32) (u : gM) (w : gM), S x0 → off S u0 u → k5 x0 x1 x2 x3 u = some w → off S u0 w) {w : gM} (hM : J7_fill_53178_b5 k5 x0 x1 x2 x3 u = some w) (h0 : off S u0 u) : off S u0 w := by
  unfold J7_fill_53178_b5 at hM
  by_cases c7 : x3 ≤ x2
  · rw [if_pos c7] at hM
    cases hM
    exact h0
  · rw [if_neg c7] at hM
    obtain ⟨u13, e13, hM⟩ := bind_of hM
    have h0 := off_sI hs0 e13 h0
    exact ik5 _ _ _ _ _ _ hs0 h0 hM
theorem fr_J7_fill_53178_l5 {S : Nat → Prop} {u0 : gM}   : ∀ (n : Nat) {x0 : Nat} {x1 : Int32} {x2 : Int32} {x3 : Int32} (hs0 : S x0) {u : gM} {w : gM} (h0 : off S u0 u) (hM : J7_fill_53178_l5  n x0 x1 x2 x3 u = some w), off S u0 w := by
  intro n
  induction n with
  | zero => intro x0 x1 x2 x3 hs0 u w h0 hM; exact nomatch (show (none : Option gM) = some w from hM)
  | succ n ihn => intro x0 x1 x2 x3 hs0 u w h0 hM; exact fr_J7_fill_53178_b5 hs0  (fun x0 x1 x2 x3 _ _ hs0 h0 h => ihn hs0 h0 h) hM h0
theorem fr_J7_fill_53178 {S : Nat → Prop} {u0 u : gM} {x0 : Nat} {x1 : Int32} (hs0 : S x0)   {w : gM} (hM : J7_fill_53178 x0 x1 u = some w) (h0 : off S u0 u) : off S u0 w := by
  unfold J7_fill_53178 at hM
  obtain ⟨v3, e3, hM⟩ := bind_of hM
  exact fr_J7_fill_53178_l5  fz hs0 h0 hM
/-! CoverDesk$Division.clear()V -/
theorem dX4_clear_0 : decode cX4_clear 0 = .ok (.aload_n 0, 1) := by decide +kernel
theorem dX4_clear_1 : decode cX4_clear 1 = .ok (.iconst 0, 1) := by decide +kernel
theorem dX4_clear_2 : decode cX4_clear 2 = .ok (.putfield 21, 3) := by decide +kernel
theorem dX4_clear_5 : decode cX4_clear 5 = .ok (.aload_n 0, 1) := by decide +kernel
theorem dX4_clear_6 : decode cX4_clear 6 = .ok (.lconst 0, 1) := by decide +kernel
theorem dX4_clear_7 : decode cX4_clear 7 = .ok (.putfield 25, 3) := by decide +kernel
theorem dX4_clear_10 : decode cX4_clear 10 = .ok (.return_, 1) := by decide +kernel
def X4_clear  (x0 : Nat) (u : gM) : Option gM :=
(if isO skC x0 4 = true then some (upJ (upI u x0 0 0) x0 1 0)
 else none)
set_option maxRecDepth 20000 in
theorem v_X4_clear {κ : gK} {B : Nat} {u : gM} (X : gX κ B skC cX4_clear 1 RX4 none 0 0)   {x0 : Nat} {w : gM} (hM : X4_clear x0 u = some w) : gV κ B skC 1 ((none), w) 0 [some (.ref (B + x0))] [] u := by
  unfold X4_clear at hM
  refine g_aload_n X dX4_clear_0 rfl ?_
  refine g_iconst X (v := 0) dX4_clear_1 (by decide) ?_
  obtain ⟨o0, hM⟩ := ite_of hM
  refine g_putI X fX4_21 gc_X4 gp_X4_0 (sh_X4 o0) rfl dX4_clear_2 ?_
  refine g_aload_n X dX4_clear_5 rfl ?_
  refine g_lconst (v := 0) X dX4_clear_6 (by decide) ?_
  refine g_putJ X fX4_25 gc_X4 gp_X4_1 (sh_X4 o0) rfl dX4_clear_7 ?_
  cases hM
  exact g_vret X dX4_clear_10
theorem s_X4_clear {x0 : Nat} {u : gM} {w : gM} (hM : X4_clear x0 u = some w) : gMet skC yX4_clear cX4_clear 1 none 0 0 (fun B adK => [.ref (B + x0)]) u ((fun _ => none), w) := by
  refine gMet.of (by decide) (fun _ _ => Nat.le_of_ble_eq_true rfl) (fun κ B X => ?_)
  have X : gX κ B skC cX4_clear 1 RX4 none 0 0 := X
  refine g_mk [true] [some (.ref (B + x0))] rfl ?_
  exact v_X4_clear X  hM
theorem fr_X4_clear {S : Nat → Prop} {u0 u : gM} {x0 : Nat} (hs0 : S x0)   {w : gM} (hM : X4_clear x0 u = some w) (h0 : off S u0 u) : off S u0 w := by
  unfold X4_clear at hM
  obtain ⟨o0, hM⟩ := ite_of hM
  have h0 := off_upI (u := u) (k := x0) (j := 0) (x := 0) hs0 h0
  have h0 := off_upJ (u := (upI u x0 0 0)) (k := x0) (j := 1) (x := 0) hs0 h0
  cases hM
  exact h0
/-! CoverDesk$Told.ownerOf(II)I -/
theorem dX10_ownerOf_0 : decode cX10_ownerOf 0 = .ok (.iload_n 1, 1) := by decide +kernel
theorem dX10_ownerOf_1 : decode cX10_ownerOf 1 = .ok (.iconst 4, 1) := by decide +kernel
theorem dX10_ownerOf_2 : decode cX10_ownerOf 2 = .ok (.imul, 1) := by decide +kernel
theorem dX10_ownerOf_3 : decode cX10_ownerOf 3 = .ok (.istore_n 3, 1) := by decide +kernel
theorem dX10_ownerOf_4 : decode cX10_ownerOf 4 = .ok (.iconst 0, 1) := by decide +kernel
theorem dX10_ownerOf_5 : decode cX10_ownerOf 5 = .ok (.istore 4, 2) := by decide +kernel
theorem dX10_ownerOf_7 : decode cX10_ownerOf 7 = .ok (.iload 4, 2) := by decide +kernel
theorem dX10_ownerOf_9 : decode cX10_ownerOf 9 = .ok (.aload_n 0, 1) := by decide +kernel
theorem dX10_ownerOf_10 : decode cX10_ownerOf 10 = .ok (.getfield 42, 3) := by decide +kernel
theorem dX10_ownerOf_13 : decode cX10_ownerOf 13 = .ok (.iload_n 1, 1) := by decide +kernel
theorem dX10_ownerOf_14 : decode cX10_ownerOf 14 = .ok (.iaload, 1) := by decide +kernel
theorem dX10_ownerOf_15 : decode cX10_ownerOf 15 = .ok (.if_icmp .ge 25, 3) := by decide +kernel
theorem dX10_ownerOf_18 : decode cX10_ownerOf 18 = .ok (.aload_n 0, 1) := by decide +kernel
theorem dX10_ownerOf_19 : decode cX10_ownerOf 19 = .ok (.getfield 48, 3) := by decide +kernel
theorem dX10_ownerOf_22 : decode cX10_ownerOf 22 = .ok (.iload_n 3, 1) := by decide +kernel
theorem dX10_ownerOf_23 : decode cX10_ownerOf 23 = .ok (.iload 4, 2) := by decide +kernel
theorem dX10_ownerOf_25 : decode cX10_ownerOf 25 = .ok (.iadd, 1) := by decide +kernel
theorem dX10_ownerOf_26 : decode cX10_ownerOf 26 = .ok (.iaload, 1) := by decide +kernel
theorem dX10_ownerOf_27 : decode cX10_ownerOf 27 = .ok (.iload_n 2, 1) := by decide +kernel
theorem dX10_ownerOf_28 : decode cX10_ownerOf 28 = .ok (.if_icmp .ne 6, 3) := by decide +kernel
theorem dX10_ownerOf_31 : decode cX10_ownerOf 31 = .ok (.iload 4, 2) := by decide +kernel
theorem dX10_ownerOf_33 : decode cX10_ownerOf 33 = .ok (.ireturn, 1) := by decide +kernel
theorem dX10_ownerOf_34 : decode cX10_ownerOf 34 = .ok (.iinc 4 1, 3) := by decide +kernel
theorem dX10_ownerOf_37 : decode cX10_ownerOf 37 = .ok (.goto (-30), 3) := by decide +kernel
theorem dX10_ownerOf_40 : decode cX10_ownerOf 40 = .ok (.iconst (-1), 1) := by decide +kernel
theorem dX10_ownerOf_41 : decode cX10_ownerOf 41 = .ok (.ireturn, 1) := by decide +kernel
def X10_ownerOf_b7 (u : gM) (k7 : Nat → Int32 → Int32 → Int32 → Int32 → Option Int32) (x0 : Nat) (x1 : Int32) (x2 : Int32) (x3 : Int32) (x4 : Int32) : Option Int32 :=
(if isO skC x0 10 = true then ((aI skC u (rf skC x0 13) x1).bind fun v14 => (if v14 ≤ x4 then some (-1)
  else ((aI skC u (rf skC x0 15) (x3 + x4)).bind fun v26 => (if v26 = x2 then some x4
    else (k7 x0 x1 x2 x3 (x4 + 1))))))
 else none)
def X10_ownerOf_l7 (u : gM)  : Nat → Nat → Int32 → Int32 → Int32 → Int32 → Option Int32
  | 0, _, _, _, _, _ => none
  | n + 1, x0, x1, x2, x3, x4 => X10_ownerOf_b7 u  (X10_ownerOf_l7 u  n) x0 x1 x2 x3 x4
def X10_ownerOf (u : gM)  (x0 : Nat) (x1 : Int32) (x2 : Int32) : Option Int32 :=
(X10_ownerOf_l7 u fz x0 x1 x2 (x1 * 4) 0)
set_option maxRecDepth 20000 in
theorem v_X10_ownerOf_b7 {κ : gK} {B : Nat} {u : gM} (X : gX κ B skC cX10_ownerOf 5 RX10 (some .int) 0 0) {k7 : Nat → Int32 → Int32 → Int32 → Int32 → Option Int32} (ih7 : ∀ (x0 : Nat) (x1 : Int32) (x2 : Int32) (x3 : Int32) (x4 : Int32) (w : Int32), k7 x0 x1 x2 x3 x4 = some w → gV κ B skC 5 ((some (.int w)), u) 7 [some (.ref (B + x0)), some (.int x1), some (.int x2), some (.int x3), some (.int x4)] [] u) {x0 : Nat} {x1 : Int32} {x2 : Int32} {x3 : Int32} {x4 : Int32} {w : Int32} (hM : X10_ownerOf_b7 u k7 x0 x1 x2 x3 x4 = some w) : gV κ B skC 5 ((some (.int w)), u) 7 [some (.ref (B + x0)), some (.int x1), some (.int x2), some (.int x3), some (.int x4)] [] u := by
  unfold X10_ownerOf_b7 at hM
  refine g_iload X dX10_ownerOf_7 rfl ?_
  refine g_aload_n X dX10_ownerOf_9 rfl ?_
  obtain ⟨o0, hM⟩ := ite_of hM
  refine g_getR X fX10_42 (sh_X10 o0) rfl dX10_ownerOf_10 ?_
  refine g_iload_n X dX10_ownerOf_13 rfl ?_
  obtain ⟨v14, e14, hM⟩ := bind_of hM
  refine g_iaload X e14 dX10_ownerOf_14 ?_
  refine g_icmp_ge (tgt := 40) X dX10_ownerOf_15 (by decide) (fun c15 => ?_) (fun c15 => ?_)
  · rw [if_pos c15] at hM
    refine g_iconst X (v := (-1)) dX10_ownerOf_40 (by decide) ?_
    cases hM
    exact g_iret X dX10_ownerOf_41
  · rw [if_neg c15] at hM
    refine g_aload_n X dX10_ownerOf_18 rfl ?_
    refine g_getR X fX10_48 (sh_X10 o0) rfl dX10_ownerOf_19 ?_
    refine g_iload_n X dX10_ownerOf_22 rfl ?_
    refine g_iload X dX10_ownerOf_23 rfl ?_
    refine g_iadd X dX10_ownerOf_25 ?_
    obtain ⟨v26, e26, hM⟩ := bind_of hM
    refine g_iaload X e26 dX10_ownerOf_26 ?_
    refine g_iload_n X dX10_ownerOf_27 rfl ?_
    refine g_icmp_ne (tgt := 34) X dX10_ownerOf_28 (by decide) (fun c28 => ?_) (fun c28 => ?_)
    · rw [if_neg c28] at hM
      refine g_iinc (d := 1) X [some (.ref (B + x0)), some (.int x1), some (.int x2), some (.int x3), some (.int (x4 + 1))] dX10_ownerOf_34 (by decide) rfl (by decide) rfl ?_
      refine g_goto (tgt := 7) X dX10_ownerOf_37 (by decide) ?_
      refine g_mk [true, true, true, true, true] [some (.ref (B + x0)), some (.int x1), some (.int x2), some (.int x3), some (.int (x4 + 1))] rfl ?_
      exact ih7 x0 x1 x2 x3 (x4 + 1) _ hM
    · rw [if_pos c28] at hM
      refine g_iload X dX10_ownerOf_31 rfl ?_
      cases hM
      exact g_iret X dX10_ownerOf_33
theorem v_X10_ownerOf_l7 {κ : gK} {B : Nat} {u : gM} (X : gX κ B skC cX10_ownerOf 5 RX10 (some .int) 0 0)   : ∀ (n : Nat) {x0 : Nat} {x1 : Int32} {x2 : Int32} {x3 : Int32} {x4 : Int32} {w : Int32} (hM : X10_ownerOf_l7 u  n x0 x1 x2 x3 x4 = some w), gV κ B skC 5 ((some (.int w)), u) 7 [some (.ref (B + x0)), some (.int x1), some (.int x2), some (.int x3), some (.int x4)] [] u := by
  intro n
  induction n with
  | zero => intro x0 x1 x2 x3 x4 w hM; exact nomatch (show (none : Option Int32) = some w from hM)
  | succ n ihn => intro x0 x1 x2 x3 x4 w hM; exact v_X10_ownerOf_b7 X  (fun x0 x1 x2 x3 x4 w h => ihn h) hM
set_option maxRecDepth 20000 in
theorem v_X10_ownerOf {κ : gK} {B : Nat} {u : gM} (X : gX κ B skC cX10_ownerOf 5 RX10 (some .int) 0 0)   {x0 : Nat} {x1 : Int32} {x2 : Int32} {w : Int32} (hM : X10_ownerOf u x0 x1 x2 = some w) : gV κ B skC 5 ((some (.int w)), u) 0 [some (.ref (B + x0)), some (.int x1), some (.int x2), none, none] [] u := by
  unfold X10_ownerOf at hM
  refine g_iload_n X dX10_ownerOf_0 rfl ?_
  refine g_iconst X (v := 4) dX10_ownerOf_1 (by decide) ?_
  refine g_imul X dX10_ownerOf_2 ?_
  refine g_istore_n X [some (.ref (B + x0)), some (.int x1), some (.int x2), some (.int (x1 * 4)), none] dX10_ownerOf_3 (by decide) rfl ?_
  refine g_iconst X (v := 0) dX10_ownerOf_4 (by decide) ?_
  refine g_istore X [some (.ref (B + x0)), some (.int x1), some (.int x2), some (.int (x1 * 4)), some (.int 0)] dX10_ownerOf_5 (by decide) rfl ?_
  refine g_mk [true, true, true, true, true] [some (.ref (B + x0)), some (.int x1), some (.int x2), some (.int (x1 * 4)), some (.int 0)] rfl ?_
  exact v_X10_ownerOf_l7 X  fz hM
theorem s_X10_ownerOf {x0 : Nat} {x1 : Int32} {x2 : Int32} {u : gM} {w : Int32} (hM : X10_ownerOf u x0 x1 x2 = some w) : gMet skC yX10_ownerOf cX10_ownerOf 5 (some .int) 0 0 (fun B adK => [.ref (B + x0), .int x1, .int x2]) u ((fun _ => some (.int w)), u) := by
  refine gMet.of (by decide) (fun _ _ => Nat.le_of_ble_eq_true rfl) (fun κ B X => ?_)
  have X : gX κ B skC cX10_ownerOf 5 RX10 (some .int) 0 0 := X
  refine g_mk [true, true, true, false, false] [some (.ref (B + x0)), some (.int x1), some (.int x2), none, none] rfl ?_
  exact v_X10_ownerOf X  hM

/-! CoverDesk$Cover.share(II)I -/
theorem dX1_share_0 : decode cX1_share 0 = .ok (.aload_n 0, 1) := by decide +kernel
theorem dX1_share_1 : decode cX1_share 1 = .ok (.getfield 32, 3) := by decide +kernel
theorem dX1_share_4 : decode cX1_share 4 = .ok (.getfield 40, 3) := by decide +kernel
theorem dX1_share_7 : decode cX1_share 7 = .ok (.iload_n 1, 1) := by decide +kernel
theorem dX1_share_8 : decode cX1_share 8 = .ok (.iaload, 1) := by decide +kernel
theorem dX1_share_9 : decode cX1_share 9 = .ok (.istore_n 3, 1) := by decide +kernel
theorem dX1_share_10 : decode cX1_share 10 = .ok (.iload_n 3, 1) := by decide +kernel
theorem dX1_share_11 : decode cX1_share 11 = .ok (.iconst 1, 1) := by decide +kernel
theorem dX1_share_12 : decode cX1_share 12 = .ok (.if_icmp .ge 5, 3) := by decide +kernel
theorem dX1_share_15 : decode cX1_share 15 = .ok (.iconst 0, 1) := by decide +kernel
theorem dX1_share_16 : decode cX1_share 16 = .ok (.ireturn, 1) := by decide +kernel
theorem dX1_share_17 : decode cX1_share 17 = .ok (.aload_n 0, 1) := by decide +kernel
theorem dX1_share_18 : decode cX1_share 18 = .ok (.getfield 36, 3) := by decide +kernel
theorem dX1_share_21 : decode cX1_share 21 = .ok (.getfield 45, 3) := by decide +kernel
theorem dX1_share_24 : decode cX1_share 24 = .ok (.iload_n 1, 1) := by decide +kernel
theorem dX1_share_25 : decode cX1_share 25 = .ok (.iaload, 1) := by decide +kernel
theorem dX1_share_26 : decode cX1_share 26 = .ok (.istore 4, 2) := by decide +kernel
theorem dX1_share_28 : decode cX1_share 28 = .ok (.iload 4, 2) := by decide +kernel
theorem dX1_share_30 : decode cX1_share 30 = .ok (.iload_n 3, 1) := by decide +kernel
theorem dX1_share_31 : decode cX1_share 31 = .ok (.idiv, 1) := by decide +kernel
theorem dX1_share_32 : decode cX1_share 32 = .ok (.iload_n 2, 1) := by decide +kernel
theorem dX1_share_33 : decode cX1_share 33 = .ok (.iload 4, 2) := by decide +kernel
theorem dX1_share_35 : decode cX1_share 35 = .ok (.iload_n 3, 1) := by decide +kernel
theorem dX1_share_36 : decode cX1_share 36 = .ok (.irem, 1) := by decide +kernel
theorem dX1_share_37 : decode cX1_share 37 = .ok (.if_icmp .ge 7, 3) := by decide +kernel
theorem dX1_share_40 : decode cX1_share 40 = .ok (.iconst 1, 1) := by decide +kernel
theorem dX1_share_41 : decode cX1_share 41 = .ok (.goto 4, 3) := by decide +kernel
theorem dX1_share_44 : decode cX1_share 44 = .ok (.iconst 0, 1) := by decide +kernel
theorem dX1_share_45 : decode cX1_share 45 = .ok (.iadd, 1) := by decide +kernel
theorem dX1_share_46 : decode cX1_share 46 = .ok (.ireturn, 1) := by decide +kernel
def X1_share_b45 (u : gM)  (s0 : Int32) (s1 : Int32) : Option Int32 :=
some (s0 + s1)
def X1_share (u : gM)  (x1 : Int32) (x2 : Int32) : Option Int32 :=
((aI skC u 11 x1).bind fun v8 => (if 1 ≤ v8 then ((aI skC u 19 x1).bind fun v25 => (if v8 = 0 then none else (if v8 = 0 then none else (if (v25 - v25 / v8 * v8) ≤ x2 then (X1_share_b45 u (v25 / v8) 0)
    else (X1_share_b45 u (v25 / v8) 1)))))
  else some 0))
set_option maxRecDepth 20000 in
theorem v_X1_share_b45 {κ : gK} {B : Nat} {u : gM} (X : gX κ B skC cX1_share 5 RX1 (some .int) 0 0)   {s0 : Int32} {s1 : Int32} {w : Int32} (hM : X1_share_b45 u s0 s1 = some w) : gV κ B skC 5 ((some (.int w)), u) 45 [none, none, none, none, none] [.int s1, .int s0] u := by
  unfold X1_share_b45 at hM
  refine g_iadd X dX1_share_45 ?_
  cases hM
  exact g_iret X dX1_share_46
set_option maxRecDepth 20000 in
theorem v_X1_share {κ : gK} {B : Nat} {u : gM} (X : gX κ B skC cX1_share 5 RX1 (some .int) 0 0)   {x1 : Int32} {x2 : Int32} {w : Int32} (hM : X1_share u x1 x2 = some w) : gV κ B skC 5 ((some (.int w)), u) 0 [some (.ref (B + 136)), some (.int x1), some (.int x2), none, none] [] u := by
  unfold X1_share at hM
  refine g_aload_n X dX1_share_0 rfl ?_
  refine g_getR X fX1_32 cC_136 rfl dX1_share_1 ?_
  refine g_getR X fX1_40 cC_3 rfl dX1_share_4 ?_
  refine g_iload_n X dX1_share_7 rfl ?_
  obtain ⟨v8, e8, hM⟩ := bind_of hM
  refine g_iaload X e8 dX1_share_8 ?_
  refine g_istore_n X [some (.ref (B + 136)), some (.int x1), some (.int x2), some (.int v8), none] dX1_share_9 (by decide) rfl ?_
  refine g_iload_n X dX1_share_10 rfl ?_
  refine g_iconst X (v := 1) dX1_share_11 (by decide) ?_
  refine g_icmp_ge (tgt := 17) X dX1_share_12 (by decide) (fun c12 => ?_) (fun c12 => ?_)
  · rw [if_pos c12] at hM
    refine g_aload_n X dX1_share_17 rfl ?_
    refine g_getR X fX1_36 cC_136 rfl dX1_share_18 ?_
    refine g_getR X fX1_45 cC_18 rfl dX1_share_21 ?_
    refine g_iload_n X dX1_share_24 rfl ?_
    obtain ⟨v25, e25, hM⟩ := bind_of hM
    refine g_iaload X e25 dX1_share_25 ?_
    refine g_istore X [some (.ref (B + 136)), some (.int x1), some (.int x2), some (.int v8), some (.int v25)] dX1_share_26 (by decide) rfl ?_
    refine g_iload X dX1_share_28 rfl ?_
    refine g_iload_n X dX1_share_30 rfl ?_
    obtain ⟨n31, hM⟩ := ite_no hM
    refine g_idiv X n31 dX1_share_31 ?_
    refine g_iload_n X dX1_share_32 rfl ?_
    refine g_iload X dX1_share_33 rfl ?_
    refine g_iload_n X dX1_share_35 rfl ?_
    obtain ⟨n36, hM⟩ := ite_no hM
    refine g_irem X n36 dX1_share_36 ?_
    refine g_icmp_ge (tgt := 44) X dX1_share_37 (by decide) (fun c37 => ?_) (fun c37 => ?_)
    · rw [if_pos c37] at hM
      refine g_iconst X (v := 0) dX1_share_44 (by decide) ?_
      refine g_mk [false, false, false, false, false] [none, none, none, none, none] rfl ?_
      exact v_X1_share_b45 X  hM
    · rw [if_neg c37] at hM
      refine g_iconst X (v := 1) dX1_share_40 (by decide) ?_
      refine g_goto (tgt := 45) X dX1_share_41 (by decide) ?_
      refine g_mk [false, false, false, false, false] [none, none, none, none, none] rfl ?_
      exact v_X1_share_b45 X  hM
  · rw [if_neg c12] at hM
    refine g_iconst X (v := 0) dX1_share_15 (by decide) ?_
    cases hM
    exact g_iret X dX1_share_16
theorem s_X1_share {x1 : Int32} {x2 : Int32} {u : gM} {w : Int32} (hM : X1_share u x1 x2 = some w) : gMet skC yX1_share cX1_share 5 (some .int) 0 0 (fun B adK => [.ref (B + 136), .int x1, .int x2]) u ((fun _ => some (.int w)), u) := by
  refine gMet.of (by decide) (fun _ _ => Nat.le_of_ble_eq_true rfl) (fun κ B X => ?_)
  have X : gX κ B skC cX1_share 5 RX1 (some .int) 0 0 := X
  refine g_mk [true, true, true, false, false] [some (.ref (B + 136)), some (.int x1), some (.int x2), none, none] rfl ?_
  exact v_X1_share X  hM

/-! CoverDesk$Division.add(J)V -/
theorem dX4_add_0 : decode cX4_add 0 = .ok (.aload_n 0, 1) := by decide +kernel
theorem dX4_add_1 : decode cX4_add 1 = .ok (.getfield 21, 3) := by decide +kernel
theorem dX4_add_4 : decode cX4_add 4 = .ok (.aload_n 0, 1) := by decide +kernel
theorem dX4_add_5 : decode cX4_add 5 = .ok (.getfield 9, 3) := by decide +kernel
theorem dX4_add_8 : decode cX4_add 8 = .ok (.arraylength, 1) := by decide +kernel
theorem dX4_add_9 : decode cX4_add 9 = .ok (.if_icmp .ge 33, 3) := by decide +kernel
theorem dX4_add_12 : decode cX4_add 12 = .ok (.aload_n 0, 1) := by decide +kernel
theorem dX4_add_13 : decode cX4_add 13 = .ok (.getfield 9, 3) := by decide +kernel
theorem dX4_add_16 : decode cX4_add 16 = .ok (.aload_n 0, 1) := by decide +kernel
theorem dX4_add_17 : decode cX4_add 17 = .ok (.getfield 21, 3) := by decide +kernel
theorem dX4_add_20 : decode cX4_add 20 = .ok (.lload_n 1, 1) := by decide +kernel
theorem dX4_add_21 : decode cX4_add 21 = .ok (.lastore, 1) := by decide +kernel
theorem dX4_add_22 : decode cX4_add 22 = .ok (.aload_n 0, 1) := by decide +kernel
theorem dX4_add_23 : decode cX4_add 23 = .ok (.dup, 1) := by decide +kernel
theorem dX4_add_24 : decode cX4_add 24 = .ok (.getfield 21, 3) := by decide +kernel
theorem dX4_add_27 : decode cX4_add 27 = .ok (.iconst 1, 1) := by decide +kernel
theorem dX4_add_28 : decode cX4_add 28 = .ok (.iadd, 1) := by decide +kernel
theorem dX4_add_29 : decode cX4_add 29 = .ok (.putfield 21, 3) := by decide +kernel
theorem dX4_add_32 : decode cX4_add 32 = .ok (.aload_n 0, 1) := by decide +kernel
theorem dX4_add_33 : decode cX4_add 33 = .ok (.dup, 1) := by decide +kernel
theorem dX4_add_34 : decode cX4_add 34 = .ok (.getfield 25, 3) := by decide +kernel
theorem dX4_add_37 : decode cX4_add 37 = .ok (.lload_n 1, 1) := by decide +kernel
theorem dX4_add_38 : decode cX4_add 38 = .ok (.ladd, 1) := by decide +kernel
theorem dX4_add_39 : decode cX4_add 39 = .ok (.putfield 25, 3) := by decide +kernel
theorem dX4_add_42 : decode cX4_add 42 = .ok (.return_, 1) := by decide +kernel
def X4_add_b42   (u : gM) : Option gM :=
some u
def X4_add  (x0 : Nat) (x1 : Int64) (u : gM) : Option gM :=
(if isO skC x0 4 = true then ((aL skC (rf skC x0 2)).bind fun v8 => (if v8 ≤ (u.1 x0 0) then (X4_add_b42 u)
  else ((sJ skC u (rf skC x0 2) (u.1 x0 0) x1).bind fun u21 => (X4_add_b42 (upJ (upI u21 x0 0 ((u21.1 x0 0) + 1)) x0 1 (((upI u21 x0 0 ((u21.1 x0 0) + 1)).2 x0 1) + x1))))))
 else none)
set_option maxRecDepth 20000 in
theorem v_X4_add_b42 {κ : gK} {B : Nat} {u : gM} (X : gX κ B skC cX4_add 3 RX4 none 0 0)    {w : gM} (hM : X4_add_b42 u = some w) : gV κ B skC 3 ((none), w) 42 [none, none, none] [] u := by
  unfold X4_add_b42 at hM
  cases hM
  exact g_vret X dX4_add_42
set_option maxRecDepth 20000 in
theorem v_X4_add {κ : gK} {B : Nat} {u : gM} (X : gX κ B skC cX4_add 3 RX4 none 0 0)   {x0 : Nat} {x1 : Int64} {w : gM} (hM : X4_add x0 x1 u = some w) : gV κ B skC 3 ((none), w) 0 [some (.ref (B + x0)), some (.long x1), none] [] u := by
  unfold X4_add at hM
  refine g_aload_n X dX4_add_0 rfl ?_
  obtain ⟨o0, hM⟩ := ite_of hM
  refine g_getI X fX4_21 (sh_X4 o0) rfl dX4_add_1 ?_
  refine g_aload_n X dX4_add_4 rfl ?_
  refine g_getR X fX4_9 (sh_X4 o0) rfl dX4_add_5 ?_
  obtain ⟨v8, e8, hM⟩ := bind_of hM
  refine g_alen X e8 dX4_add_8 skC_t ?_
  refine g_icmp_ge (tgt := 42) X dX4_add_9 (by decide) (fun c9 => ?_) (fun c9 => ?_)
  · rw [if_pos c9] at hM
    refine g_mk [false, false, false] [none, none, none] rfl ?_
    exact v_X4_add_b42 X  hM
  · rw [if_neg c9] at hM
    refine g_aload_n X dX4_add_12 rfl ?_
    refine g_getR X fX4_9 (sh_X4 o0) rfl dX4_add_13 ?_
    refine g_aload_n X dX4_add_16 rfl ?_
    refine g_getI X fX4_21 (sh_X4 o0) rfl dX4_add_17 ?_
    refine g_lload_n X dX4_add_20 rfl ?_
    obtain ⟨u21, e21, hM⟩ := bind_of hM
    refine g_lastore X e21 dX4_add_21 ?_
    refine g_aload_n X dX4_add_22 rfl ?_
    refine g_dup X rfl dX4_add_23 ?_
    refine g_getI X fX4_21 (sh_X4 o0) rfl dX4_add_24 ?_
    refine g_iconst X (v := 1) dX4_add_27 (by decide) ?_
    refine g_iadd X dX4_add_28 ?_
    refine g_putI X fX4_21 gc_X4 gp_X4_0 (sh_X4 o0) rfl dX4_add_29 ?_
    refine g_aload_n X dX4_add_32 rfl ?_
    refine g_dup X rfl dX4_add_33 ?_
    refine g_getJ X fX4_25 (sh_X4 o0) rfl dX4_add_34 ?_
    refine g_lload_n X dX4_add_37 rfl ?_
    refine g_ladd X dX4_add_38 ?_
    refine g_putJ X fX4_25 gc_X4 gp_X4_1 (sh_X4 o0) rfl dX4_add_39 ?_
    refine g_mk [false, false, false] [none, none, none] rfl ?_
    exact v_X4_add_b42 X  hM
theorem s_X4_add {x0 : Nat} {x1 : Int64} {u : gM} {w : gM} (hM : X4_add x0 x1 u = some w) : gMet skC yX4_add cX4_add 3 none 0 0 (fun B adK => [.ref (B + x0), .long x1]) u ((fun _ => none), w) := by
  refine gMet.of (by decide) (fun _ _ => Nat.le_of_ble_eq_true rfl) (fun κ B X => ?_)
  have X : gX κ B skC cX4_add 3 RX4 none 0 0 := X
  refine g_mk [true, true, false] [some (.ref (B + x0)), some (.long x1), none] rfl ?_
  exact v_X4_add X  hM
theorem fr_X4_add_b42 {S : Nat → Prop} {u0 u : gM}     {w : gM} (hM : X4_add_b42 u = some w) (h0 : off S u0 u) : off S u0 w := by
  unfold X4_add_b42 at hM
  cases hM
  exact h0
theorem fr_X4_add {S : Nat → Prop} {u0 u : gM} {x0 : Nat} {x1 : Int64} (hs0 : S (rf skC x0 2)) (hs1 : S x0)   {w : gM} (hM : X4_add x0 x1 u = some w) (h0 : off S u0 u) : off S u0 w := by
  unfold X4_add at hM
  obtain ⟨o0, hM⟩ := ite_of hM
  obtain ⟨v8, e8, hM⟩ := bind_of hM
  by_cases c9 : v8 ≤ (u.1 x0 0)
  · rw [if_pos c9] at hM
    exact fr_X4_add_b42   hM h0
  · rw [if_neg c9] at hM
    obtain ⟨u21, e21, hM⟩ := bind_of hM
    have h0 := off_sJ hs0 e21 h0
    have h0 := off_upI (u := u21) (k := x0) (j := 0) (x := ((u21.1 x0 0) + 1)) hs1 h0
    have h0 := off_upJ (u := (upI u21 x0 0 ((u21.1 x0 0) + 1))) (k := x0) (j := 1) (x := (((upI u21 x0 0 ((u21.1 x0 0) + 1)).2 x0 1) + x1)) hs1 h0
    exact fr_X4_add_b42   hM h0
/-! CoverDesk$Cover.gather(III)V -/
theorem dX1_gather_0 : decode cX1_gather 0 = .ok (.aload_n 0, 1) := by decide +kernel
theorem dX1_gather_1 : decode cX1_gather 1 = .ok (.getfield 18, 3) := by decide +kernel
theorem dX1_gather_4 : decode cX1_gather 4 = .ok (.invokevirtual 88, 3) := by decide +kernel
theorem dX1_gather_7 : decode cX1_gather 7 = .ok (.iconst 0, 1) := by decide +kernel
theorem dX1_gather_8 : decode cX1_gather 8 = .ok (.istore 4, 2) := by decide +kernel
theorem dX1_gather_10 : decode cX1_gather 10 = .ok (.iload 4, 2) := by decide +kernel
theorem dX1_gather_12 : decode cX1_gather 12 = .ok (.aload_n 0, 1) := by decide +kernel
theorem dX1_gather_13 : decode cX1_gather 13 = .ok (.getfield 32, 3) := by decide +kernel
theorem dX1_gather_16 : decode cX1_gather 16 = .ok (.getfield 82, 3) := by decide +kernel
theorem dX1_gather_19 : decode cX1_gather 19 = .ok (.if_icmp .ge 87, 3) := by decide +kernel
theorem dX1_gather_22 : decode cX1_gather 22 = .ok (.aload_n 0, 1) := by decide +kernel
theorem dX1_gather_23 : decode cX1_gather 23 = .ok (.getfield 32, 3) := by decide +kernel
theorem dX1_gather_26 : decode cX1_gather 26 = .ok (.getfield 91, 3) := by decide +kernel
theorem dX1_gather_29 : decode cX1_gather 29 = .ok (.iload 4, 2) := by decide +kernel
theorem dX1_gather_31 : decode cX1_gather 31 = .ok (.iaload, 1) := by decide +kernel
theorem dX1_gather_32 : decode cX1_gather 32 = .ok (.iload_n 2, 1) := by decide +kernel
theorem dX1_gather_33 : decode cX1_gather 33 = .ok (.if_icmp .ne 67, 3) := by decide +kernel
theorem dX1_gather_36 : decode cX1_gather 36 = .ok (.aload_n 0, 1) := by decide +kernel
theorem dX1_gather_37 : decode cX1_gather 37 = .ok (.getfield 22, 3) := by decide +kernel
theorem dX1_gather_40 : decode cX1_gather 40 = .ok (.iload 4, 2) := by decide +kernel
theorem dX1_gather_42 : decode cX1_gather 42 = .ok (.iaload, 1) := by decide +kernel
theorem dX1_gather_43 : decode cX1_gather 43 = .ok (.iload_n 3, 1) := by decide +kernel
theorem dX1_gather_44 : decode cX1_gather 44 = .ok (.if_icmp .ne 56, 3) := by decide +kernel
theorem dX1_gather_47 : decode cX1_gather 47 = .ok (.aload_n 0, 1) := by decide +kernel
theorem dX1_gather_48 : decode cX1_gather 48 = .ok (.getfield 32, 3) := by decide +kernel
theorem dX1_gather_51 : decode cX1_gather 51 = .ok (.iload 4, 2) := by decide +kernel
theorem dX1_gather_53 : decode cX1_gather 53 = .ok (.iload_n 1, 1) := by decide +kernel
theorem dX1_gather_54 : decode cX1_gather 54 = .ok (.invokevirtual 94, 3) := by decide +kernel
theorem dX1_gather_57 : decode cX1_gather 57 = .ok (.istore 5, 2) := by decide +kernel
theorem dX1_gather_59 : decode cX1_gather 59 = .ok (.iload 5, 2) := by decide +kernel
theorem dX1_gather_61 : decode cX1_gather 61 = .ok (.iconst (-1), 1) := by decide +kernel
theorem dX1_gather_62 : decode cX1_gather 62 = .ok (.if_icmp .eq 38, 3) := by decide +kernel
theorem dX1_gather_65 : decode cX1_gather 65 = .ok (.aload_n 0, 1) := by decide +kernel
theorem dX1_gather_66 : decode cX1_gather 66 = .ok (.getfield 25, 3) := by decide +kernel
theorem dX1_gather_69 : decode cX1_gather 69 = .ok (.aload_n 0, 1) := by decide +kernel
theorem dX1_gather_70 : decode cX1_gather 70 = .ok (.getfield 18, 3) := by decide +kernel
theorem dX1_gather_73 : decode cX1_gather 73 = .ok (.getfield 97, 3) := by decide +kernel
theorem dX1_gather_76 : decode cX1_gather 76 = .ok (.iload 4, 2) := by decide +kernel
theorem dX1_gather_78 : decode cX1_gather 78 = .ok (.iconst 4, 1) := by decide +kernel
theorem dX1_gather_79 : decode cX1_gather 79 = .ok (.imul, 1) := by decide +kernel
theorem dX1_gather_80 : decode cX1_gather 80 = .ok (.iload 5, 2) := by decide +kernel
theorem dX1_gather_82 : decode cX1_gather 82 = .ok (.iadd, 1) := by decide +kernel
theorem dX1_gather_83 : decode cX1_gather 83 = .ok (.iastore, 1) := by decide +kernel
theorem dX1_gather_84 : decode cX1_gather 84 = .ok (.aload_n 0, 1) := by decide +kernel
theorem dX1_gather_85 : decode cX1_gather 85 = .ok (.getfield 18, 3) := by decide +kernel
theorem dX1_gather_88 : decode cX1_gather 88 = .ok (.aload_n 0, 1) := by decide +kernel
theorem dX1_gather_89 : decode cX1_gather 89 = .ok (.iload 4, 2) := by decide +kernel
theorem dX1_gather_91 : decode cX1_gather 91 = .ok (.iload 5, 2) := by decide +kernel
theorem dX1_gather_93 : decode cX1_gather 93 = .ok (.invokevirtual 100, 3) := by decide +kernel
theorem dX1_gather_96 : decode cX1_gather 96 = .ok (.i2l, 1) := by decide +kernel
theorem dX1_gather_97 : decode cX1_gather 97 = .ok (.invokevirtual 103, 3) := by decide +kernel
theorem dX1_gather_100 : decode cX1_gather 100 = .ok (.iinc 4 1, 3) := by decide +kernel
theorem dX1_gather_103 : decode cX1_gather 103 = .ok (.goto (-93), 3) := by decide +kernel
theorem dX1_gather_106 : decode cX1_gather 106 = .ok (.return_, 1) := by decide +kernel
def X1_gather_b100 (k10 : Int32 → Int32 → Int32 → Int32 → gM → Option gM) (x1 : Int32) (x2 : Int32) (x3 : Int32) (x4 : Int32) (u : gM) : Option gM :=
(k10 x1 x2 x3 (x4 + 1) u)
def X1_gather_b10 (k10 : Int32 → Int32 → Int32 → Int32 → gM → Option gM) (x1 : Int32) (x2 : Int32) (x3 : Int32) (x4 : Int32) (u : gM) : Option gM :=
(if (u.1 3 2) ≤ x4 then some u
  else ((aI skC u 7 x4).bind fun v31 => (if v31 = x2 then ((aI skC u 142 x4).bind fun v42 => (if v42 = x3 then ((X10_ownerOf u 3 x4 x1).bind fun w54 => (if w54 = (-1) then (X1_gather_b100 k10 x1 x2 x3 x4 u)
        else ((sI skC u 143 (u.1 138 0) ((x4 * 4) + w54)).bind fun u83 => ((X1_share u83 x4 w54).bind fun w93 => ((X4_add 138 w93.toInt64 u83).bind fun w97 => (X1_gather_b100 k10 x1 x2 x3 x4 w97))))))
      else (X1_gather_b100 k10 x1 x2 x3 x4 u)))
    else (X1_gather_b100 k10 x1 x2 x3 x4 u))))
def X1_gather_l10  : Nat → Int32 → Int32 → Int32 → Int32 → gM → Option gM
  | 0, _, _, _, _, _ => none
  | n + 1, x1, x2, x3, x4, u => X1_gather_b10  (X1_gather_l10  n) x1 x2 x3 x4 u
def X1_gather  (x1 : Int32) (x2 : Int32) (x3 : Int32) (u : gM) : Option gM :=
((X4_clear 138 u).bind fun w4 => (X1_gather_l10 fz x1 x2 x3 0 w4))
set_option maxRecDepth 20000 in
theorem v_X1_gather_b100 {κ : gK} {B : Nat} {u : gM} (X : gX κ B skC cX1_gather 6 RX1 none 1 24) {k10 : Int32 → Int32 → Int32 → Int32 → gM → Option gM} (ih10 : ∀ (x1 : Int32) (x2 : Int32) (x3 : Int32) (x4 : Int32) (u : gM) (w : gM), k10 x1 x2 x3 x4 u = some w → gV κ B skC 6 ((none), w) 10 [some (.ref (B + 136)), some (.int x1), some (.int x2), some (.int x3), some (.int x4), none] [] u) {x1 : Int32} {x2 : Int32} {x3 : Int32} {x4 : Int32} {w : gM} (hM : X1_gather_b100 k10 x1 x2 x3 x4 u = some w) : gV κ B skC 6 ((none), w) 100 [some (.ref (B + 136)), some (.int x1), some (.int x2), some (.int x3), some (.int x4), none] [] u := by
  unfold X1_gather_b100 at hM
  refine g_iinc (d := 1) X [some (.ref (B + 136)), some (.int x1), some (.int x2), some (.int x3), some (.int (x4 + 1)), none] dX1_gather_100 (by decide) rfl (by decide) rfl ?_
  refine g_goto (tgt := 10) X dX1_gather_103 (by decide) ?_
  refine g_mk [true, true, true, true, true, false] [some (.ref (B + 136)), some (.int x1), some (.int x2), some (.int x3), some (.int (x4 + 1)), none] rfl ?_
  exact ih10 x1 x2 x3 (x4 + 1) u _ hM
set_option maxRecDepth 20000 in
theorem v_X1_gather_b10 {κ : gK} {B : Nat} {u : gM} (X : gX κ B skC cX1_gather 6 RX1 none 1 24) {k10 : Int32 → Int32 → Int32 → Int32 → gM → Option gM} (ih10 : ∀ (x1 : Int32) (x2 : Int32) (x3 : Int32) (x4 : Int32) (u : gM) (w : gM), k10 x1 x2 x3 x4 u = some w → gV κ B skC 6 ((none), w) 10 [some (.ref (B + 136)), some (.int x1), some (.int x2), some (.int x3), some (.int x4), none] [] u) {x1 : Int32} {x2 : Int32} {x3 : Int32} {x4 : Int32} {w : gM} (hM : X1_gather_b10 k10 x1 x2 x3 x4 u = some w) : gV κ B skC 6 ((none), w) 10 [some (.ref (B + 136)), some (.int x1), some (.int x2), some (.int x3), some (.int x4), none] [] u := by
  unfold X1_gather_b10 at hM
  refine g_iload X dX1_gather_10 rfl ?_
  refine g_aload_n X dX1_gather_12 rfl ?_
  refine g_getR X fX1_32 cC_136 rfl dX1_gather_13 ?_
  refine g_getI X fX1_82 cC_3 rfl dX1_gather_16 ?_
  refine g_icmp_ge (tgt := 106) X dX1_gather_19 (by decide) (fun c19 => ?_) (fun c19 => ?_)
  · rw [if_pos c19] at hM
    cases hM
    exact g_vret X dX1_gather_106
  · rw [if_neg c19] at hM
    refine g_aload_n X dX1_gather_22 rfl ?_
    refine g_getR X fX1_32 cC_136 rfl dX1_gather_23 ?_
    refine g_getR X fX1_91 cC_3 rfl dX1_gather_26 ?_
    refine g_iload X dX1_gather_29 rfl ?_
    obtain ⟨v31, e31, hM⟩ := bind_of hM
    refine g_iaload X e31 dX1_gather_31 ?_
    refine g_iload_n X dX1_gather_32 rfl ?_
    refine g_icmp_ne (tgt := 100) X dX1_gather_33 (by decide) (fun c33 => ?_) (fun c33 => ?_)
    · rw [if_neg c33] at hM
      refine g_mk [true, true, true, true, true, false] [some (.ref (B + 136)), some (.int x1), some (.int x2), some (.int x3), some (.int x4), none] rfl ?_
      exact v_X1_gather_b100 X ih10 hM
    · rw [if_pos c33] at hM
      refine g_aload_n X dX1_gather_36 rfl ?_
      refine g_getR X fX1_22 cC_136 rfl dX1_gather_37 ?_
      refine g_iload X dX1_gather_40 rfl ?_
      obtain ⟨v42, e42, hM⟩ := bind_of hM
      refine g_iaload X e42 dX1_gather_42 ?_
      refine g_iload_n X dX1_gather_43 rfl ?_
      refine g_icmp_ne (tgt := 100) X dX1_gather_44 (by decide) (fun c44 => ?_) (fun c44 => ?_)
      · rw [if_neg c44] at hM
        refine g_mk [true, true, true, true, true, false] [some (.ref (B + 136)), some (.int x1), some (.int x2), some (.int x3), some (.int x4), none] rfl ?_
        exact v_X1_gather_b100 X ih10 hM
      · rw [if_pos c44] at hM
        refine g_aload_n X dX1_gather_47 rfl ?_
        refine g_getR X fX1_32 cC_136 rfl dX1_gather_48 ?_
        refine g_iload X dX1_gather_51 rfl ?_
        refine g_iload_n X dX1_gather_53 rfl ?_
        obtain ⟨w54, e54, hM⟩ := bind_of hM
        refine g_callVi X (fun B adK => [.int x4, .int x1]) (s_X10_ownerOf e54) cvX1_94 cC_3 rfl rfl (Nat.le_of_ble_eq_true rfl) ⟨by decide, by decide⟩ dX1_gather_54 ?_
        refine g_istore X [some (.ref (B + 136)), some (.int x1), some (.int x2), some (.int x3), some (.int x4), some (.int w54)] dX1_gather_57 (by decide) rfl ?_
        refine g_iload X dX1_gather_59 rfl ?_
        refine g_iconst X (v := (-1)) dX1_gather_61 (by decide) ?_
        refine g_icmp_eq (tgt := 100) X dX1_gather_62 (by decide) (fun c62 => ?_) (fun c62 => ?_)
        · rw [if_pos c62] at hM
          refine g_mk [true, true, true, true, true, false] [some (.ref (B + 136)), some (.int x1), some (.int x2), some (.int x3), some (.int x4), none] rfl ?_
          exact v_X1_gather_b100 X ih10 hM
        · rw [if_neg c62] at hM
          refine g_aload_n X dX1_gather_65 rfl ?_
          refine g_getR X fX1_25 cC_136 rfl dX1_gather_66 ?_
          refine g_aload_n X dX1_gather_69 rfl ?_
          refine g_getR X fX1_18 cC_136 rfl dX1_gather_70 ?_
          refine g_getI X fX1_97 cC_138 rfl dX1_gather_73 ?_
          refine g_iload X dX1_gather_76 rfl ?_
          refine g_iconst X (v := 4) dX1_gather_78 (by decide) ?_
          refine g_imul X dX1_gather_79 ?_
          refine g_iload X dX1_gather_80 rfl ?_
          refine g_iadd X dX1_gather_82 ?_
          obtain ⟨u83, e83, hM⟩ := bind_of hM
          refine g_iastore X e83 dX1_gather_83 ?_
          refine g_aload_n X dX1_gather_84 rfl ?_
          refine g_getR X fX1_18 cC_136 rfl dX1_gather_85 ?_
          refine g_aload_n X dX1_gather_88 rfl ?_
          refine g_iload X dX1_gather_89 rfl ?_
          refine g_iload X dX1_gather_91 rfl ?_
          obtain ⟨w93, e93, hM⟩ := bind_of hM
          refine g_callVi X (fun B adK => [.int x4, .int w54]) (s_X1_share e93) cvX1_100 cC_136 rfl rfl (Nat.le_of_ble_eq_true rfl) ⟨by decide, by decide⟩ dX1_gather_93 ?_
          refine g_i2l X dX1_gather_96 ?_
          obtain ⟨w97, e97, hM⟩ := bind_of hM
          refine g_callVv X (fun B adK => [.long w93.toInt64]) (s_X4_add e97) cvX1_103 cC_138 rfl rfl (Nat.le_of_ble_eq_true rfl) ⟨by decide, by decide⟩ dX1_gather_97 ?_
          refine g_mk [true, true, true, true, true, false] [some (.ref (B + 136)), some (.int x1), some (.int x2), some (.int x3), some (.int x4), none] rfl ?_
          exact v_X1_gather_b100 X ih10 hM
theorem v_X1_gather_l10 {κ : gK} {B : Nat} (X : gX κ B skC cX1_gather 6 RX1 none 1 24)   : ∀ (n : Nat) {x1 : Int32} {x2 : Int32} {x3 : Int32} {x4 : Int32} {u : gM} {w : gM} (hM : X1_gather_l10  n x1 x2 x3 x4 u = some w), gV κ B skC 6 ((none), w) 10 [some (.ref (B + 136)), some (.int x1), some (.int x2), some (.int x3), some (.int x4), none] [] u := by
  intro n
  induction n with
  | zero => intro x1 x2 x3 x4 u w hM; exact nomatch (show (none : Option gM) = some w from hM)
  | succ n ihn => intro x1 x2 x3 x4 u w hM; exact v_X1_gather_b10 X  (fun x1 x2 x3 x4 u w h => ihn h) hM
set_option maxRecDepth 20000 in
theorem v_X1_gather {κ : gK} {B : Nat} {u : gM} (X : gX κ B skC cX1_gather 6 RX1 none 1 24)   {x1 : Int32} {x2 : Int32} {x3 : Int32} {w : gM} (hM : X1_gather x1 x2 x3 u = some w) : gV κ B skC 6 ((none), w) 0 [some (.ref (B + 136)), some (.int x1), some (.int x2), some (.int x3), none, none] [] u := by
  unfold X1_gather at hM
  refine g_aload_n X dX1_gather_0 rfl ?_
  refine g_getR X fX1_18 cC_136 rfl dX1_gather_1 ?_
  obtain ⟨w4, e4, hM⟩ := bind_of hM
  refine g_callVv X (fun B adK => []) (s_X4_clear e4) cvX1_88 cC_138 rfl rfl (Nat.le_of_ble_eq_true rfl) ⟨by decide, by decide⟩ dX1_gather_4 ?_
  refine g_iconst X (v := 0) dX1_gather_7 (by decide) ?_
  refine g_istore X [some (.ref (B + 136)), some (.int x1), some (.int x2), some (.int x3), some (.int 0), none] dX1_gather_8 (by decide) rfl ?_
  refine g_mk [true, true, true, true, true, false] [some (.ref (B + 136)), some (.int x1), some (.int x2), some (.int x3), some (.int 0), none] rfl ?_
  exact v_X1_gather_l10 X  fz hM
theorem s_X1_gather {x1 : Int32} {x2 : Int32} {x3 : Int32} {u : gM} {w : gM} (hM : X1_gather x1 x2 x3 u = some w) : gMet skC yX1_gather cX1_gather 6 none 1 24 (fun B adK => [.ref (B + 136), .int x1, .int x2, .int x3]) u ((fun _ => none), w) := by
  refine gMet.of (by decide) (fun _ _ => Nat.le_of_ble_eq_true rfl) (fun κ B X => ?_)
  have X : gX κ B skC cX1_gather 6 RX1 none 1 24 := X
  refine g_mk [true, true, true, true, false, false] [some (.ref (B + 136)), some (.int x1), some (.int x2), some (.int x3), none, none] rfl ?_
  exact v_X1_gather X  hM
theorem fr_X1_gather_b100 {S : Nat → Prop} {u0 u : gM} {x1 : Int32} {x2 : Int32} {x3 : Int32} {x4 : Int32} (hs0 : S (rf skC 138 2)) (hs1 : S 138) (hs2 : S 143) {k10 : Int32 → Int32 → Int32 → Int32 → gM → Option gM} (ik10 : ∀ (x1 : Int32) (x2 : Int32) (x3 : Int32) (x4 : Int32) (u : gM) (w : gM), S (rf skC 138 2) → S 138 → S 143 → off S u0 u → k10 x1 x2 x3 x4 u = some w → off S u0 w) {w : gM} (hM : X1_gather_b100 k10 x1 x2 x3 x4 u = some w) (h0 : off S u0 u) : off S u0 w := by
  unfold X1_gather_b100 at hM
  exact ik10 _ _ _ _ _ _ hs0 hs1 hs2 h0 hM
theorem fr_X1_gather_b10 {S : Nat → Prop} {u0 u : gM} {x1 : Int32} {x2 : Int32} {x3 : Int32} {x4 : Int32} (hs0 : S (rf skC 138 2)) (hs1 : S 138) (hs2 : S 143) {k10 : Int32 → Int32 → Int32 → Int32 → gM → Option gM} (ik10 : ∀ (x1 : Int32) (x2 : Int32) (x3 : Int32) (x4 : Int32) (u : gM) (w : gM), S (rf skC 138 2) → S 138 → S 143 → off S u0 u → k10 x1 x2 x3 x4 u = some w → off S u0 w) {w : gM} (hM : X1_gather_b10 k10 x1 x2 x3 x4 u = some w) (h0 : off S u0 u) : off S u0 w := by
  unfold X1_gather_b10 at hM
  by_cases c19 : (u.1 3 2) ≤ x4
  · rw [if_pos c19] at hM
    cases hM
    exact h0
  · rw [if_neg c19] at hM
    obtain ⟨v31, e31, hM⟩ := bind_of hM
    by_cases c33 : v31 = x2
    · rw [if_pos c33] at hM
      obtain ⟨v42, e42, hM⟩ := bind_of hM
      by_cases c44 : v42 = x3
      · rw [if_pos c44] at hM
        obtain ⟨w54, e54, hM⟩ := bind_of hM
        by_cases c62 : w54 = (-1)
        · rw [if_pos c62] at hM
          exact fr_X1_gather_b100 hs0 hs1 hs2 ik10 hM h0
        · rw [if_neg c62] at hM
          obtain ⟨u83, e83, hM⟩ := bind_of hM
          have h0 := off_sI hs2 e83 h0
          obtain ⟨w93, e93, hM⟩ := bind_of hM
          obtain ⟨w97, e97, hM⟩ := bind_of hM
          have h0 := fr_X4_add hs0 hs1 e97 h0
          exact fr_X1_gather_b100 hs0 hs1 hs2 ik10 hM h0
      · rw [if_neg c44] at hM
        exact fr_X1_gather_b100 hs0 hs1 hs2 ik10 hM h0
    · rw [if_neg c33] at hM
      exact fr_X1_gather_b100 hs0 hs1 hs2 ik10 hM h0
theorem fr_X1_gather_l10 {S : Nat → Prop} {u0 : gM}   : ∀ (n : Nat) {x1 : Int32} {x2 : Int32} {x3 : Int32} {x4 : Int32} (hs0 : S (rf skC 138 2)) (hs1 : S 138) (hs2 : S 143) {u : gM} {w : gM} (h0 : off S u0 u) (hM : X1_gather_l10  n x1 x2 x3 x4 u = some w), off S u0 w := by
  intro n
  induction n with
  | zero => intro x1 x2 x3 x4 hs0 hs1 hs2 u w h0 hM; exact nomatch (show (none : Option gM) = some w from hM)
  | succ n ihn => intro x1 x2 x3 x4 hs0 hs1 hs2 u w h0 hM; exact fr_X1_gather_b10 hs0 hs1 hs2  (fun x1 x2 x3 x4 _ _ hs0 hs1 hs2 h0 h => ihn hs0 hs1 hs2 h0 h) hM h0
theorem fr_X1_gather {S : Nat → Prop} {u0 u : gM} {x1 : Int32} {x2 : Int32} {x3 : Int32} (hs0 : S (rf skC 138 2)) (hs1 : S 138) (hs2 : S 143)   {w : gM} (hM : X1_gather x1 x2 x3 u = some w) (h0 : off S u0 u) : off S u0 w := by
  unfold X1_gather at hM
  obtain ⟨w4, e4, hM⟩ := bind_of hM
  have h0 := fr_X4_clear hs1 e4 h0
  exact fr_X1_gather_l10  fz hs0 hs1 hs2 h0 hM
/-! CoverDesk$Told.isPerson(I)Z -/
theorem dX10_isPerson_0 : decode cX10_isPerson 0 = .ok (.iload_n 1, 1) := by decide +kernel
theorem dX10_isPerson_1 : decode cX10_isPerson 1 = .ok (.ifCond .lt 15, 3) := by decide +kernel
theorem dX10_isPerson_4 : decode cX10_isPerson 4 = .ok (.iload_n 1, 1) := by decide +kernel
theorem dX10_isPerson_5 : decode cX10_isPerson 5 = .ok (.aload_n 0, 1) := by decide +kernel
theorem dX10_isPerson_6 : decode cX10_isPerson 6 = .ok (.getfield 63, 3) := by decide +kernel
theorem dX10_isPerson_9 : decode cX10_isPerson 9 = .ok (.if_icmp .ge 7, 3) := by decide +kernel
theorem dX10_isPerson_12 : decode cX10_isPerson 12 = .ok (.iconst 1, 1) := by decide +kernel
theorem dX10_isPerson_13 : decode cX10_isPerson 13 = .ok (.goto 4, 3) := by decide +kernel
theorem dX10_isPerson_16 : decode cX10_isPerson 16 = .ok (.iconst 0, 1) := by decide +kernel
theorem dX10_isPerson_17 : decode cX10_isPerson 17 = .ok (.ireturn, 1) := by decide +kernel
def X10_isPerson_b17 (u : gM)  (s0 : Int32) : Option Int32 :=
bI s0
def X10_isPerson_b16 (u : gM)   : Option Int32 :=
(X10_isPerson_b17 u 0)
def X10_isPerson (u : gM)  (x0 : Nat) (x1 : Int32) : Option Int32 :=
(if x1 < 0 then (X10_isPerson_b16 u)
  else (if isO skC x0 10 = true then (if (u.1 x0 0) ≤ x1 then (X10_isPerson_b16 u)
    else (X10_isPerson_b17 u 1))
 else none))
set_option maxRecDepth 20000 in
theorem v_X10_isPerson_b17 {κ : gK} {B : Nat} {u : gM} (X : gX κ B skC cX10_isPerson 2 RX10 (some .boolean) 0 0)   {s0 : Int32} {w : Int32} (hM : X10_isPerson_b17 u s0 = some w) : gV κ B skC 2 ((some (.int w)), u) 17 [none, none] [.int s0] u := by
  unfold X10_isPerson_b17 at hM
  obtain ⟨hv, rfl⟩ := bI_of hM
  exact g_zret X hv dX10_isPerson_17
set_option maxRecDepth 20000 in
theorem v_X10_isPerson_b16 {κ : gK} {B : Nat} {u : gM} (X : gX κ B skC cX10_isPerson 2 RX10 (some .boolean) 0 0)    {w : Int32} (hM : X10_isPerson_b16 u = some w) : gV κ B skC 2 ((some (.int w)), u) 16 [none, none] [] u := by
  unfold X10_isPerson_b16 at hM
  refine g_iconst X (v := 0) dX10_isPerson_16 (by decide) ?_
  refine g_mk [false, false] [none, none] rfl ?_
  exact v_X10_isPerson_b17 X  hM
set_option maxRecDepth 20000 in
theorem v_X10_isPerson {κ : gK} {B : Nat} {u : gM} (X : gX κ B skC cX10_isPerson 2 RX10 (some .boolean) 0 0)   {x0 : Nat} {x1 : Int32} {w : Int32} (hM : X10_isPerson u x0 x1 = some w) : gV κ B skC 2 ((some (.int w)), u) 0 [some (.ref (B + x0)), some (.int x1)] [] u := by
  unfold X10_isPerson at hM
  refine g_iload_n X dX10_isPerson_0 rfl ?_
  refine g_if_lt (tgt := 16) X dX10_isPerson_1 (by decide) (fun c1 => ?_) (fun c1 => ?_)
  · rw [if_pos c1] at hM
    refine g_mk [false, false] [none, none] rfl ?_
    exact v_X10_isPerson_b16 X  hM
  · rw [if_neg c1] at hM
    refine g_iload_n X dX10_isPerson_4 rfl ?_
    refine g_aload_n X dX10_isPerson_5 rfl ?_
    obtain ⟨o0, hM⟩ := ite_of hM
    refine g_getI X fX10_63 (sh_X10 o0) rfl dX10_isPerson_6 ?_
    refine g_icmp_ge (tgt := 16) X dX10_isPerson_9 (by decide) (fun c9 => ?_) (fun c9 => ?_)
    · rw [if_pos c9] at hM
      refine g_mk [false, false] [none, none] rfl ?_
      exact v_X10_isPerson_b16 X  hM
    · rw [if_neg c9] at hM
      refine g_iconst X (v := 1) dX10_isPerson_12 (by decide) ?_
      refine g_goto (tgt := 17) X dX10_isPerson_13 (by decide) ?_
      refine g_mk [false, false] [none, none] rfl ?_
      exact v_X10_isPerson_b17 X  hM
theorem s_X10_isPerson {x0 : Nat} {x1 : Int32} {u : gM} {w : Int32} (hM : X10_isPerson u x0 x1 = some w) : gMet skC yX10_isPerson cX10_isPerson 2 (some .boolean) 0 0 (fun B adK => [.ref (B + x0), .int x1]) u ((fun _ => some (.int w)), u) := by
  refine gMet.of (by decide) (fun _ _ => Nat.le_of_ble_eq_true rfl) (fun κ B X => ?_)
  have X : gX κ B skC cX10_isPerson 2 RX10 (some .boolean) 0 0 := X
  refine g_mk [true, true] [some (.ref (B + x0)), some (.int x1)] rfl ?_
  exact v_X10_isPerson X  hM

/-! CoverDesk$Cover.isAmongHeirs(JI)Z -/
theorem dX1_isAmongHeirs_0 : decode cX1_isAmongHeirs 0 = .ok (.iconst 0, 1) := by decide +kernel
theorem dX1_isAmongHeirs_1 : decode cX1_isAmongHeirs 1 = .ok (.istore 4, 2) := by decide +kernel
theorem dX1_isAmongHeirs_3 : decode cX1_isAmongHeirs 3 = .ok (.iload 4, 2) := by decide +kernel
theorem dX1_isAmongHeirs_5 : decode cX1_isAmongHeirs 5 = .ok (.iload_n 3, 1) := by decide +kernel
theorem dX1_isAmongHeirs_6 : decode cX1_isAmongHeirs 6 = .ok (.if_icmp .ge 23, 3) := by decide +kernel
theorem dX1_isAmongHeirs_9 : decode cX1_isAmongHeirs 9 = .ok (.aload_n 0, 1) := by decide +kernel
theorem dX1_isAmongHeirs_10 : decode cX1_isAmongHeirs 10 = .ok (.getfield 28, 3) := by decide +kernel
theorem dX1_isAmongHeirs_13 : decode cX1_isAmongHeirs 13 = .ok (.iload 4, 2) := by decide +kernel
theorem dX1_isAmongHeirs_15 : decode cX1_isAmongHeirs 15 = .ok (.laload, 1) := by decide +kernel
theorem dX1_isAmongHeirs_16 : decode cX1_isAmongHeirs 16 = .ok (.lload_n 1, 1) := by decide +kernel
theorem dX1_isAmongHeirs_17 : decode cX1_isAmongHeirs 17 = .ok (.lcmp, 1) := by decide +kernel
theorem dX1_isAmongHeirs_18 : decode cX1_isAmongHeirs 18 = .ok (.ifCond .ne 5, 3) := by decide +kernel
theorem dX1_isAmongHeirs_21 : decode cX1_isAmongHeirs 21 = .ok (.iconst 1, 1) := by decide +kernel
theorem dX1_isAmongHeirs_22 : decode cX1_isAmongHeirs 22 = .ok (.ireturn, 1) := by decide +kernel
theorem dX1_isAmongHeirs_23 : decode cX1_isAmongHeirs 23 = .ok (.iinc 4 1, 3) := by decide +kernel
theorem dX1_isAmongHeirs_26 : decode cX1_isAmongHeirs 26 = .ok (.goto (-23), 3) := by decide +kernel
theorem dX1_isAmongHeirs_29 : decode cX1_isAmongHeirs 29 = .ok (.iconst 0, 1) := by decide +kernel
theorem dX1_isAmongHeirs_30 : decode cX1_isAmongHeirs 30 = .ok (.ireturn, 1) := by decide +kernel
def X1_isAmongHeirs_b3 (u : gM) (k3 : Int64 → Int32 → Int32 → Option Int32) (x1 : Int64) (x3 : Int32) (x4 : Int32) : Option Int32 :=
(if x3 ≤ x4 then some 0
  else ((aJ skC u 144 x4).bind fun v15 => (if (lg_cmp v15 x1) = 0 then some 1
    else (k3 x1 x3 (x4 + 1)))))
def X1_isAmongHeirs_l3 (u : gM)  : Nat → Int64 → Int32 → Int32 → Option Int32
  | 0, _, _, _ => none
  | n + 1, x1, x3, x4 => X1_isAmongHeirs_b3 u  (X1_isAmongHeirs_l3 u  n) x1 x3 x4
def X1_isAmongHeirs (u : gM)  (x1 : Int64) (x3 : Int32) : Option Int32 :=
(X1_isAmongHeirs_l3 u fz x1 x3 0)
set_option maxRecDepth 20000 in
theorem v_X1_isAmongHeirs_b3 {κ : gK} {B : Nat} {u : gM} (X : gX κ B skC cX1_isAmongHeirs 5 RX1 (some .boolean) 0 0) {k3 : Int64 → Int32 → Int32 → Option Int32} (ih3 : ∀ (x1 : Int64) (x3 : Int32) (x4 : Int32) (w : Int32), k3 x1 x3 x4 = some w → gV κ B skC 5 ((some (.int w)), u) 3 [some (.ref (B + 136)), some (.long x1), none, some (.int x3), some (.int x4)] [] u) {x1 : Int64} {x3 : Int32} {x4 : Int32} {w : Int32} (hM : X1_isAmongHeirs_b3 u k3 x1 x3 x4 = some w) : gV κ B skC 5 ((some (.int w)), u) 3 [some (.ref (B + 136)), some (.long x1), none, some (.int x3), some (.int x4)] [] u := by
  unfold X1_isAmongHeirs_b3 at hM
  refine g_iload X dX1_isAmongHeirs_3 rfl ?_
  refine g_iload_n X dX1_isAmongHeirs_5 rfl ?_
  refine g_icmp_ge (tgt := 29) X dX1_isAmongHeirs_6 (by decide) (fun c6 => ?_) (fun c6 => ?_)
  · rw [if_pos c6] at hM
    refine g_iconst X (v := 0) dX1_isAmongHeirs_29 (by decide) ?_
    cases hM
    exact g_zret X (Or.inl rfl) dX1_isAmongHeirs_30
  · rw [if_neg c6] at hM
    refine g_aload_n X dX1_isAmongHeirs_9 rfl ?_
    refine g_getR X fX1_28 cC_136 rfl dX1_isAmongHeirs_10 ?_
    refine g_iload X dX1_isAmongHeirs_13 rfl ?_
    obtain ⟨v15, e15, hM⟩ := bind_of hM
    refine g_laload X e15 dX1_isAmongHeirs_15 ?_
    refine g_lload_n X dX1_isAmongHeirs_16 rfl ?_
    refine g_lcmp X dX1_isAmongHeirs_17 ?_
    refine g_if_ne (tgt := 23) X dX1_isAmongHeirs_18 (by decide) (fun c18 => ?_) (fun c18 => ?_)
    · rw [if_neg c18] at hM
      refine g_iinc (d := 1) X [some (.ref (B + 136)), some (.long x1), none, some (.int x3), some (.int (x4 + 1))] dX1_isAmongHeirs_23 (by decide) rfl (by decide) rfl ?_
      refine g_goto (tgt := 3) X dX1_isAmongHeirs_26 (by decide) ?_
      refine g_mk [true, true, false, true, true] [some (.ref (B + 136)), some (.long x1), none, some (.int x3), some (.int (x4 + 1))] rfl ?_
      exact ih3 x1 x3 (x4 + 1) _ hM
    · rw [if_pos c18] at hM
      refine g_iconst X (v := 1) dX1_isAmongHeirs_21 (by decide) ?_
      cases hM
      exact g_zret X (Or.inr rfl) dX1_isAmongHeirs_22
theorem v_X1_isAmongHeirs_l3 {κ : gK} {B : Nat} {u : gM} (X : gX κ B skC cX1_isAmongHeirs 5 RX1 (some .boolean) 0 0)   : ∀ (n : Nat) {x1 : Int64} {x3 : Int32} {x4 : Int32} {w : Int32} (hM : X1_isAmongHeirs_l3 u  n x1 x3 x4 = some w), gV κ B skC 5 ((some (.int w)), u) 3 [some (.ref (B + 136)), some (.long x1), none, some (.int x3), some (.int x4)] [] u := by
  intro n
  induction n with
  | zero => intro x1 x3 x4 w hM; exact nomatch (show (none : Option Int32) = some w from hM)
  | succ n ihn => intro x1 x3 x4 w hM; exact v_X1_isAmongHeirs_b3 X  (fun x1 x3 x4 w h => ihn h) hM
set_option maxRecDepth 20000 in
theorem v_X1_isAmongHeirs {κ : gK} {B : Nat} {u : gM} (X : gX κ B skC cX1_isAmongHeirs 5 RX1 (some .boolean) 0 0)   {x1 : Int64} {x3 : Int32} {w : Int32} (hM : X1_isAmongHeirs u x1 x3 = some w) : gV κ B skC 5 ((some (.int w)), u) 0 [some (.ref (B + 136)), some (.long x1), none, some (.int x3), none] [] u := by
  unfold X1_isAmongHeirs at hM
  refine g_iconst X (v := 0) dX1_isAmongHeirs_0 (by decide) ?_
  refine g_istore X [some (.ref (B + 136)), some (.long x1), none, some (.int x3), some (.int 0)] dX1_isAmongHeirs_1 (by decide) rfl ?_
  refine g_mk [true, true, false, true, true] [some (.ref (B + 136)), some (.long x1), none, some (.int x3), some (.int 0)] rfl ?_
  exact v_X1_isAmongHeirs_l3 X  fz hM
theorem s_X1_isAmongHeirs {x1 : Int64} {x3 : Int32} {u : gM} {w : Int32} (hM : X1_isAmongHeirs u x1 x3 = some w) : gMet skC yX1_isAmongHeirs cX1_isAmongHeirs 5 (some .boolean) 0 0 (fun B adK => [.ref (B + 136), .long x1, .int x3]) u ((fun _ => some (.int w)), u) := by
  refine gMet.of (by decide) (fun _ _ => Nat.le_of_ble_eq_true rfl) (fun κ B X => ?_)
  have X : gX κ B skC cX1_isAmongHeirs 5 RX1 (some .boolean) 0 0 := X
  refine g_mk [true, true, false, true, false] [some (.ref (B + 136)), some (.long x1), none, some (.int x3), none] rfl ?_
  exact v_X1_isAmongHeirs X  hM

/-! CoverDesk$Cover.unlikeHeirs(I)I -/
theorem dX1_unlikeHeirs_0 : decode cX1_unlikeHeirs 0 = .ok (.aload_n 0, 1) := by decide +kernel
theorem dX1_unlikeHeirs_1 : decode cX1_unlikeHeirs 1 = .ok (.getfield 32, 3) := by decide +kernel
theorem dX1_unlikeHeirs_4 : decode cX1_unlikeHeirs 4 = .ok (.iload_n 1, 1) := by decide +kernel
theorem dX1_unlikeHeirs_5 : decode cX1_unlikeHeirs 5 = .ok (.invokevirtual 114, 3) := by decide +kernel
theorem dX1_unlikeHeirs_8 : decode cX1_unlikeHeirs 8 = .ok (.ifCond .eq 15, 3) := by decide +kernel
theorem dX1_unlikeHeirs_11 : decode cX1_unlikeHeirs 11 = .ok (.aload_n 0, 1) := by decide +kernel
theorem dX1_unlikeHeirs_12 : decode cX1_unlikeHeirs 12 = .ok (.getfield 32, 3) := by decide +kernel
theorem dX1_unlikeHeirs_15 : decode cX1_unlikeHeirs 15 = .ok (.getfield 117, 3) := by decide +kernel
theorem dX1_unlikeHeirs_18 : decode cX1_unlikeHeirs 18 = .ok (.iload_n 1, 1) := by decide +kernel
theorem dX1_unlikeHeirs_19 : decode cX1_unlikeHeirs 19 = .ok (.laload, 1) := by decide +kernel
theorem dX1_unlikeHeirs_20 : decode cX1_unlikeHeirs 20 = .ok (.goto 4, 3) := by decide +kernel
theorem dX1_unlikeHeirs_23 : decode cX1_unlikeHeirs 23 = .ok (.lconst 0, 1) := by decide +kernel
theorem dX1_unlikeHeirs_24 : decode cX1_unlikeHeirs 24 = .ok (.lstore_n 2, 1) := by decide +kernel
theorem dX1_unlikeHeirs_25 : decode cX1_unlikeHeirs 25 = .ok (.iconst 0, 1) := by decide +kernel
theorem dX1_unlikeHeirs_26 : decode cX1_unlikeHeirs 26 = .ok (.istore 4, 2) := by decide +kernel
theorem dX1_unlikeHeirs_28 : decode cX1_unlikeHeirs 28 = .ok (.iconst 0, 1) := by decide +kernel
theorem dX1_unlikeHeirs_29 : decode cX1_unlikeHeirs 29 = .ok (.istore 5, 2) := by decide +kernel
theorem dX1_unlikeHeirs_31 : decode cX1_unlikeHeirs 31 = .ok (.iload 5, 2) := by decide +kernel
theorem dX1_unlikeHeirs_33 : decode cX1_unlikeHeirs 33 = .ok (.aload_n 0, 1) := by decide +kernel
theorem dX1_unlikeHeirs_34 : decode cX1_unlikeHeirs 34 = .ok (.getfield 18, 3) := by decide +kernel
theorem dX1_unlikeHeirs_37 : decode cX1_unlikeHeirs 37 = .ok (.getfield 97, 3) := by decide +kernel
theorem dX1_unlikeHeirs_40 : decode cX1_unlikeHeirs 40 = .ok (.if_icmp .ge 98, 3) := by decide +kernel
theorem dX1_unlikeHeirs_43 : decode cX1_unlikeHeirs 43 = .ok (.aload_n 0, 1) := by decide +kernel
theorem dX1_unlikeHeirs_44 : decode cX1_unlikeHeirs 44 = .ok (.getfield 25, 3) := by decide +kernel
theorem dX1_unlikeHeirs_47 : decode cX1_unlikeHeirs 47 = .ok (.iload 5, 2) := by decide +kernel
theorem dX1_unlikeHeirs_49 : decode cX1_unlikeHeirs 49 = .ok (.iaload, 1) := by decide +kernel
theorem dX1_unlikeHeirs_50 : decode cX1_unlikeHeirs 50 = .ok (.iconst 4, 1) := by decide +kernel
theorem dX1_unlikeHeirs_51 : decode cX1_unlikeHeirs 51 = .ok (.idiv, 1) := by decide +kernel
theorem dX1_unlikeHeirs_52 : decode cX1_unlikeHeirs 52 = .ok (.istore 6, 2) := by decide +kernel
theorem dX1_unlikeHeirs_54 : decode cX1_unlikeHeirs 54 = .ok (.iconst 0, 1) := by decide +kernel
theorem dX1_unlikeHeirs_55 : decode cX1_unlikeHeirs 55 = .ok (.istore 7, 2) := by decide +kernel
theorem dX1_unlikeHeirs_57 : decode cX1_unlikeHeirs 57 = .ok (.iload 7, 2) := by decide +kernel
theorem dX1_unlikeHeirs_59 : decode cX1_unlikeHeirs 59 = .ok (.aload_n 0, 1) := by decide +kernel
theorem dX1_unlikeHeirs_60 : decode cX1_unlikeHeirs 60 = .ok (.getfield 32, 3) := by decide +kernel
theorem dX1_unlikeHeirs_63 : decode cX1_unlikeHeirs 63 = .ok (.getfield 120, 3) := by decide +kernel
theorem dX1_unlikeHeirs_66 : decode cX1_unlikeHeirs 66 = .ok (.iload 6, 2) := by decide +kernel
theorem dX1_unlikeHeirs_68 : decode cX1_unlikeHeirs 68 = .ok (.iaload, 1) := by decide +kernel
theorem dX1_unlikeHeirs_69 : decode cX1_unlikeHeirs 69 = .ok (.if_icmp .ge 63, 3) := by decide +kernel
theorem dX1_unlikeHeirs_72 : decode cX1_unlikeHeirs 72 = .ok (.iload 4, 2) := by decide +kernel
theorem dX1_unlikeHeirs_74 : decode cX1_unlikeHeirs 74 = .ok (.iconst 5, 1) := by decide +kernel
theorem dX1_unlikeHeirs_75 : decode cX1_unlikeHeirs 75 = .ok (.if_icmp .ge 57, 3) := by decide +kernel
theorem dX1_unlikeHeirs_78 : decode cX1_unlikeHeirs 78 = .ok (.aload_n 0, 1) := by decide +kernel
theorem dX1_unlikeHeirs_79 : decode cX1_unlikeHeirs 79 = .ok (.getfield 32, 3) := by decide +kernel
theorem dX1_unlikeHeirs_82 : decode cX1_unlikeHeirs 82 = .ok (.getfield 122, 3) := by decide +kernel
theorem dX1_unlikeHeirs_85 : decode cX1_unlikeHeirs 85 = .ok (.iload 6, 2) := by decide +kernel
theorem dX1_unlikeHeirs_87 : decode cX1_unlikeHeirs 87 = .ok (.bipush 6, 2) := by decide +kernel
theorem dX1_unlikeHeirs_89 : decode cX1_unlikeHeirs 89 = .ok (.imul, 1) := by decide +kernel
theorem dX1_unlikeHeirs_90 : decode cX1_unlikeHeirs 90 = .ok (.iload 7, 2) := by decide +kernel
theorem dX1_unlikeHeirs_92 : decode cX1_unlikeHeirs 92 = .ok (.iadd, 1) := by decide +kernel
theorem dX1_unlikeHeirs_93 : decode cX1_unlikeHeirs 93 = .ok (.laload, 1) := by decide +kernel
theorem dX1_unlikeHeirs_94 : decode cX1_unlikeHeirs 94 = .ok (.lstore 8, 2) := by decide +kernel
theorem dX1_unlikeHeirs_96 : decode cX1_unlikeHeirs 96 = .ok (.lload 8, 2) := by decide +kernel
theorem dX1_unlikeHeirs_98 : decode cX1_unlikeHeirs 98 = .ok (.lload_n 2, 1) := by decide +kernel
theorem dX1_unlikeHeirs_99 : decode cX1_unlikeHeirs 99 = .ok (.lcmp, 1) := by decide +kernel
theorem dX1_unlikeHeirs_100 : decode cX1_unlikeHeirs 100 = .ok (.ifCond .eq 26, 3) := by decide +kernel
theorem dX1_unlikeHeirs_103 : decode cX1_unlikeHeirs 103 = .ok (.aload_n 0, 1) := by decide +kernel
theorem dX1_unlikeHeirs_104 : decode cX1_unlikeHeirs 104 = .ok (.lload 8, 2) := by decide +kernel
theorem dX1_unlikeHeirs_106 : decode cX1_unlikeHeirs 106 = .ok (.iload 4, 2) := by decide +kernel
theorem dX1_unlikeHeirs_108 : decode cX1_unlikeHeirs 108 = .ok (.invokevirtual 125, 3) := by decide +kernel
theorem dX1_unlikeHeirs_111 : decode cX1_unlikeHeirs 111 = .ok (.ifCond .ne 15, 3) := by decide +kernel
theorem dX1_unlikeHeirs_114 : decode cX1_unlikeHeirs 114 = .ok (.aload_n 0, 1) := by decide +kernel
theorem dX1_unlikeHeirs_115 : decode cX1_unlikeHeirs 115 = .ok (.getfield 28, 3) := by decide +kernel
theorem dX1_unlikeHeirs_118 : decode cX1_unlikeHeirs 118 = .ok (.iload 4, 2) := by decide +kernel
theorem dX1_unlikeHeirs_120 : decode cX1_unlikeHeirs 120 = .ok (.lload 8, 2) := by decide +kernel
theorem dX1_unlikeHeirs_122 : decode cX1_unlikeHeirs 122 = .ok (.lastore, 1) := by decide +kernel
theorem dX1_unlikeHeirs_123 : decode cX1_unlikeHeirs 123 = .ok (.iinc 4 1, 3) := by decide +kernel
theorem dX1_unlikeHeirs_126 : decode cX1_unlikeHeirs 126 = .ok (.iinc 7 1, 3) := by decide +kernel
theorem dX1_unlikeHeirs_129 : decode cX1_unlikeHeirs 129 = .ok (.goto (-72), 3) := by decide +kernel
theorem dX1_unlikeHeirs_132 : decode cX1_unlikeHeirs 132 = .ok (.iinc 5 1, 3) := by decide +kernel
theorem dX1_unlikeHeirs_135 : decode cX1_unlikeHeirs 135 = .ok (.goto (-104), 3) := by decide +kernel
theorem dX1_unlikeHeirs_138 : decode cX1_unlikeHeirs 138 = .ok (.iload 4, 2) := by decide +kernel
theorem dX1_unlikeHeirs_140 : decode cX1_unlikeHeirs 140 = .ok (.ireturn, 1) := by decide +kernel
def X1_unlikeHeirs_b132 (k31 : Int64 → Int32 → Int32 → gM → Option (Int32 × gM)) (x2 : Int64) (x4 : Int32) (x5 : Int32) (u : gM) : Option (Int32 × gM) :=
(k31 x2 x4 (x5 + 1) u)
def X1_unlikeHeirs_b126 (k31 : Int64 → Int32 → Int32 → gM → Option (Int32 × gM)) (k57 : Int64 → Int32 → Int32 → Int32 → Int32 → gM → Option (Int32 × gM)) (x2 : Int64) (x4 : Int32) (x5 : Int32) (x6 : Int32) (x7 : Int32) (u : gM) : Option (Int32 × gM) :=
(k57 x2 x4 x5 x6 (x7 + 1) u)
def X1_unlikeHeirs_b57 (k31 : Int64 → Int32 → Int32 → gM → Option (Int32 × gM)) (k57 : Int64 → Int32 → Int32 → Int32 → Int32 → gM → Option (Int32 × gM)) (x2 : Int64) (x4 : Int32) (x5 : Int32) (x6 : Int32) (x7 : Int32) (u : gM) : Option (Int32 × gM) :=
((aI skC u 12 x6).bind fun v68 => (if v68 ≤ x7 then (X1_unlikeHeirs_b132 k31 x2 x4 x5 u)
  else (if 5 ≤ x4 then (X1_unlikeHeirs_b132 k31 x2 x4 x5 u)
    else ((aJ skC u 14 ((x6 * 6) + x7)).bind fun v93 => (if (lg_cmp v93 x2) = 0 then (X1_unlikeHeirs_b126 k31 k57 x2 x4 x5 x6 x7 u)
      else ((X1_isAmongHeirs u v93 x4).bind fun w108 => (if w108 = 0 then ((sJ skC u 144 x4 v93).bind fun u122 => (X1_unlikeHeirs_b126 k31 k57 x2 (x4 + 1) x5 x6 x7 u122))
        else (X1_unlikeHeirs_b126 k31 k57 x2 x4 x5 x6 x7 u))))))))
def X1_unlikeHeirs_l57 (k31 : Int64 → Int32 → Int32 → gM → Option (Int32 × gM)) : Nat → Int64 → Int32 → Int32 → Int32 → Int32 → gM → Option (Int32 × gM)
  | 0, _, _, _, _, _, _ => none
  | n + 1, x2, x4, x5, x6, x7, u => X1_unlikeHeirs_b57 k31 (X1_unlikeHeirs_l57 k31 n) x2 x4 x5 x6 x7 u
def X1_unlikeHeirs_b31 (k31 : Int64 → Int32 → Int32 → gM → Option (Int32 × gM)) (x2 : Int64) (x4 : Int32) (x5 : Int32) (u : gM) : Option (Int32 × gM) :=
(if (u.1 138 0) ≤ x5 then some (x4, u)
  else ((aI skC u 143 x5).bind fun v49 => (X1_unlikeHeirs_l57 k31 fz x2 x4 x5 (v49 / 4) 0 u)))
def X1_unlikeHeirs_l31  : Nat → Int64 → Int32 → Int32 → gM → Option (Int32 × gM)
  | 0, _, _, _, _ => none
  | n + 1, x2, x4, x5, u => X1_unlikeHeirs_b31  (X1_unlikeHeirs_l31  n) x2 x4 x5 u
def X1_unlikeHeirs_b24  (s0 : Int64) (u : gM) : Option (Int32 × gM) :=
(X1_unlikeHeirs_l31 fz s0 0 0 u)
def X1_unlikeHeirs  (x1 : Int32) (u : gM) : Option (Int32 × gM) :=
((X10_isPerson u 3 x1).bind fun w5 => (if w5 = 0 then (X1_unlikeHeirs_b24 0 u)
  else ((aJ skC u 4 x1).bind fun v19 => (X1_unlikeHeirs_b24 v19 u))))
set_option maxRecDepth 20000 in
theorem v_X1_unlikeHeirs_b132 {κ : gK} {B : Nat} {u : gM} (X : gX κ B skC cX1_unlikeHeirs 10 RX1 (some .int) 1 24) {k31 : Int64 → Int32 → Int32 → gM → Option (Int32 × gM)} (ih31 : ∀ (x2 : Int64) (x4 : Int32) (x5 : Int32) (u : gM) (w : (Int32 × gM)), k31 x2 x4 x5 u = some w → gV κ B skC 10 ((some (.int w.1)), w.2) 31 [some (.ref (B + 136)), none, some (.long x2), none, some (.int x4), some (.int x5), none, none, none, none] [] u) {x2 : Int64} {x4 : Int32} {x5 : Int32} {w : (Int32 × gM)} (hM : X1_unlikeHeirs_b132 k31 x2 x4 x5 u = some w) : gV κ B skC 10 ((some (.int w.1)), w.2) 132 [some (.ref (B + 136)), none, some (.long x2), none, some (.int x4), some (.int x5), none, none, none, none] [] u := by
  unfold X1_unlikeHeirs_b132 at hM
  refine g_iinc (d := 1) X [some (.ref (B + 136)), none, some (.long x2), none, some (.int x4), some (.int (x5 + 1)), none, none, none, none] dX1_unlikeHeirs_132 (by decide) rfl (by decide) rfl ?_
  refine g_goto (tgt := 31) X dX1_unlikeHeirs_135 (by decide) ?_
  refine g_mk [true, false, true, false, true, true, false, false, false, false] [some (.ref (B + 136)), none, some (.long x2), none, some (.int x4), some (.int (x5 + 1)), none, none, none, none] rfl ?_
  exact ih31 x2 x4 (x5 + 1) u _ hM
set_option maxRecDepth 20000 in
theorem v_X1_unlikeHeirs_b126 {κ : gK} {B : Nat} {u : gM} (X : gX κ B skC cX1_unlikeHeirs 10 RX1 (some .int) 1 24) {k31 : Int64 → Int32 → Int32 → gM → Option (Int32 × gM)} {k57 : Int64 → Int32 → Int32 → Int32 → Int32 → gM → Option (Int32 × gM)} (ih31 : ∀ (x2 : Int64) (x4 : Int32) (x5 : Int32) (u : gM) (w : (Int32 × gM)), k31 x2 x4 x5 u = some w → gV κ B skC 10 ((some (.int w.1)), w.2) 31 [some (.ref (B + 136)), none, some (.long x2), none, some (.int x4), some (.int x5), none, none, none, none] [] u) (ih57 : ∀ (x2 : Int64) (x4 : Int32) (x5 : Int32) (x6 : Int32) (x7 : Int32) (u : gM) (w : (Int32 × gM)), k57 x2 x4 x5 x6 x7 u = some w → gV κ B skC 10 ((some (.int w.1)), w.2) 57 [some (.ref (B + 136)), none, some (.long x2), none, some (.int x4), some (.int x5), some (.int x6), some (.int x7), none, none] [] u) {x2 : Int64} {x4 : Int32} {x5 : Int32} {x6 : Int32} {x7 : Int32} {w : (Int32 × gM)} (hM : X1_unlikeHeirs_b126 k31 k57 x2 x4 x5 x6 x7 u = some w) : gV κ B skC 10 ((some (.int w.1)), w.2) 126 [some (.ref (B + 136)), none, some (.long x2), none, some (.int x4), some (.int x5), some (.int x6), some (.int x7), none, none] [] u := by
  unfold X1_unlikeHeirs_b126 at hM
  refine g_iinc (d := 1) X [some (.ref (B + 136)), none, some (.long x2), none, some (.int x4), some (.int x5), some (.int x6), some (.int (x7 + 1)), none, none] dX1_unlikeHeirs_126 (by decide) rfl (by decide) rfl ?_
  refine g_goto (tgt := 57) X dX1_unlikeHeirs_129 (by decide) ?_
  refine g_mk [true, false, true, false, true, true, true, true, false, false] [some (.ref (B + 136)), none, some (.long x2), none, some (.int x4), some (.int x5), some (.int x6), some (.int (x7 + 1)), none, none] rfl ?_
  exact ih57 x2 x4 x5 x6 (x7 + 1) u _ hM
set_option maxRecDepth 20000 in
theorem v_X1_unlikeHeirs_b57 {κ : gK} {B : Nat} {u : gM} (X : gX κ B skC cX1_unlikeHeirs 10 RX1 (some .int) 1 24) {k31 : Int64 → Int32 → Int32 → gM → Option (Int32 × gM)} {k57 : Int64 → Int32 → Int32 → Int32 → Int32 → gM → Option (Int32 × gM)} (ih31 : ∀ (x2 : Int64) (x4 : Int32) (x5 : Int32) (u : gM) (w : (Int32 × gM)), k31 x2 x4 x5 u = some w → gV κ B skC 10 ((some (.int w.1)), w.2) 31 [some (.ref (B + 136)), none, some (.long x2), none, some (.int x4), some (.int x5), none, none, none, none] [] u) (ih57 : ∀ (x2 : Int64) (x4 : Int32) (x5 : Int32) (x6 : Int32) (x7 : Int32) (u : gM) (w : (Int32 × gM)), k57 x2 x4 x5 x6 x7 u = some w → gV κ B skC 10 ((some (.int w.1)), w.2) 57 [some (.ref (B + 136)), none, some (.long x2), none, some (.int x4), some (.int x5), some (.int x6), some (.int x7), none, none] [] u) {x2 : Int64} {x4 : Int32} {x5 : Int32} {x6 : Int32} {x7 : Int32} {w : (Int32 × gM)} (hM : X1_unlikeHeirs_b57 k31 k57 x2 x4 x5 x6 x7 u = some w) : gV κ B skC 10 ((some (.int w.1)), w.2) 57 [some (.ref (B + 136)), none, some (.long x2), none, some (.int x4), some (.int x5), some (.int x6), some (.int x7), none, none] [] u := by
  unfold X1_unlikeHeirs_b57 at hM
  refine g_iload X dX1_unlikeHeirs_57 rfl ?_
  refine g_aload_n X dX1_unlikeHeirs_59 rfl ?_
  refine g_getR X fX1_32 cC_136 rfl dX1_unlikeHeirs_60 ?_
  refine g_getR X fX1_120 cC_3 rfl dX1_unlikeHeirs_63 ?_
  refine g_iload X dX1_unlikeHeirs_66 rfl ?_
  obtain ⟨v68, e68, hM⟩ := bind_of hM
  refine g_iaload X e68 dX1_unlikeHeirs_68 ?_
  refine g_icmp_ge (tgt := 132) X dX1_unlikeHeirs_69 (by decide) (fun c69 => ?_) (fun c69 => ?_)
  · rw [if_pos c69] at hM
    refine g_mk [true, false, true, false, true, true, false, false, false, false] [some (.ref (B + 136)), none, some (.long x2), none, some (.int x4), some (.int x5), none, none, none, none] rfl ?_
    exact v_X1_unlikeHeirs_b132 X ih31 hM
  · rw [if_neg c69] at hM
    refine g_iload X dX1_unlikeHeirs_72 rfl ?_
    refine g_iconst X (v := 5) dX1_unlikeHeirs_74 (by decide) ?_
    refine g_icmp_ge (tgt := 132) X dX1_unlikeHeirs_75 (by decide) (fun c75 => ?_) (fun c75 => ?_)
    · rw [if_pos c75] at hM
      refine g_mk [true, false, true, false, true, true, false, false, false, false] [some (.ref (B + 136)), none, some (.long x2), none, some (.int x4), some (.int x5), none, none, none, none] rfl ?_
      exact v_X1_unlikeHeirs_b132 X ih31 hM
    · rw [if_neg c75] at hM
      refine g_aload_n X dX1_unlikeHeirs_78 rfl ?_
      refine g_getR X fX1_32 cC_136 rfl dX1_unlikeHeirs_79 ?_
      refine g_getR X fX1_122 cC_3 rfl dX1_unlikeHeirs_82 ?_
      refine g_iload X dX1_unlikeHeirs_85 rfl ?_
      refine g_bipush X (v := 6) dX1_unlikeHeirs_87 (by decide) ?_
      refine g_imul X dX1_unlikeHeirs_89 ?_
      refine g_iload X dX1_unlikeHeirs_90 rfl ?_
      refine g_iadd X dX1_unlikeHeirs_92 ?_
      obtain ⟨v93, e93, hM⟩ := bind_of hM
      refine g_laload X e93 dX1_unlikeHeirs_93 ?_
      refine g_lstore X [some (.ref (B + 136)), none, some (.long x2), none, some (.int x4), some (.int x5), some (.int x6), some (.int x7), some (.long v93), none] dX1_unlikeHeirs_94 (by decide) rfl ?_
      refine g_lload X dX1_unlikeHeirs_96 rfl ?_
      refine g_lload_n X dX1_unlikeHeirs_98 rfl ?_
      refine g_lcmp X dX1_unlikeHeirs_99 ?_
      refine g_if_eq (tgt := 126) X dX1_unlikeHeirs_100 (by decide) (fun c100 => ?_) (fun c100 => ?_)
      · rw [if_pos c100] at hM
        refine g_mk [true, false, true, false, true, true, true, true, false, false] [some (.ref (B + 136)), none, some (.long x2), none, some (.int x4), some (.int x5), some (.int x6), some (.int x7), none, none] rfl ?_
        exact v_X1_unlikeHeirs_b126 X ih31 ih57 hM
      · rw [if_neg c100] at hM
        refine g_aload_n X dX1_unlikeHeirs_103 rfl ?_
        refine g_lload X dX1_unlikeHeirs_104 rfl ?_
        refine g_iload X dX1_unlikeHeirs_106 rfl ?_
        obtain ⟨w108, e108, hM⟩ := bind_of hM
        refine g_callVi X (fun B adK => [.long v93, .int x4]) (s_X1_isAmongHeirs e108) cvX1_125 cC_136 rfl rfl (Nat.le_of_ble_eq_true rfl) ⟨by decide, by decide⟩ dX1_unlikeHeirs_108 ?_
        refine g_if_ne (tgt := 126) X dX1_unlikeHeirs_111 (by decide) (fun c111 => ?_) (fun c111 => ?_)
        · rw [if_neg c111] at hM
          refine g_mk [true, false, true, false, true, true, true, true, false, false] [some (.ref (B + 136)), none, some (.long x2), none, some (.int x4), some (.int x5), some (.int x6), some (.int x7), none, none] rfl ?_
          exact v_X1_unlikeHeirs_b126 X ih31 ih57 hM
        · rw [if_pos c111] at hM
          refine g_aload_n X dX1_unlikeHeirs_114 rfl ?_
          refine g_getR X fX1_28 cC_136 rfl dX1_unlikeHeirs_115 ?_
          refine g_iload X dX1_unlikeHeirs_118 rfl ?_
          refine g_lload X dX1_unlikeHeirs_120 rfl ?_
          obtain ⟨u122, e122, hM⟩ := bind_of hM
          refine g_lastore X e122 dX1_unlikeHeirs_122 ?_
          refine g_iinc (d := 1) X [some (.ref (B + 136)), none, some (.long x2), none, some (.int (x4 + 1)), some (.int x5), some (.int x6), some (.int x7), some (.long v93), none] dX1_unlikeHeirs_123 (by decide) rfl (by decide) rfl ?_
          refine g_mk [true, false, true, false, true, true, true, true, false, false] [some (.ref (B + 136)), none, some (.long x2), none, some (.int (x4 + 1)), some (.int x5), some (.int x6), some (.int x7), none, none] rfl ?_
          exact v_X1_unlikeHeirs_b126 X ih31 ih57 hM
theorem v_X1_unlikeHeirs_l57 {κ : gK} {B : Nat} (X : gX κ B skC cX1_unlikeHeirs 10 RX1 (some .int) 1 24) {k31 : Int64 → Int32 → Int32 → gM → Option (Int32 × gM)} (ih31 : ∀ (x2 : Int64) (x4 : Int32) (x5 : Int32) (u : gM) (w : (Int32 × gM)), k31 x2 x4 x5 u = some w → gV κ B skC 10 ((some (.int w.1)), w.2) 31 [some (.ref (B + 136)), none, some (.long x2), none, some (.int x4), some (.int x5), none, none, none, none] [] u) : ∀ (n : Nat) {x2 : Int64} {x4 : Int32} {x5 : Int32} {x6 : Int32} {x7 : Int32} {u : gM} {w : (Int32 × gM)} (hM : X1_unlikeHeirs_l57 k31 n x2 x4 x5 x6 x7 u = some w), gV κ B skC 10 ((some (.int w.1)), w.2) 57 [some (.ref (B + 136)), none, some (.long x2), none, some (.int x4), some (.int x5), some (.int x6), some (.int x7), none, none] [] u := by
  intro n
  induction n with
  | zero => intro x2 x4 x5 x6 x7 u w hM; exact nomatch (show (none : Option (Int32 × gM)) = some w from hM)
  | succ n ihn => intro x2 x4 x5 x6 x7 u w hM; exact v_X1_unlikeHeirs_b57 X ih31 (fun x2 x4 x5 x6 x7 u w h => ihn h) hM
set_option maxRecDepth 20000 in
theorem v_X1_unlikeHeirs_b31 {κ : gK} {B : Nat} {u : gM} (X : gX κ B skC cX1_unlikeHeirs 10 RX1 (some .int) 1 24) {k31 : Int64 → Int32 → Int32 → gM → Option (Int32 × gM)} (ih31 : ∀ (x2 : Int64) (x4 : Int32) (x5 : Int32) (u : gM) (w : (Int32 × gM)), k31 x2 x4 x5 u = some w → gV κ B skC 10 ((some (.int w.1)), w.2) 31 [some (.ref (B + 136)), none, some (.long x2), none, some (.int x4), some (.int x5), none, none, none, none] [] u) {x2 : Int64} {x4 : Int32} {x5 : Int32} {w : (Int32 × gM)} (hM : X1_unlikeHeirs_b31 k31 x2 x4 x5 u = some w) : gV κ B skC 10 ((some (.int w.1)), w.2) 31 [some (.ref (B + 136)), none, some (.long x2), none, some (.int x4), some (.int x5), none, none, none, none] [] u := by
  unfold X1_unlikeHeirs_b31 at hM
  refine g_iload X dX1_unlikeHeirs_31 rfl ?_
  refine g_aload_n X dX1_unlikeHeirs_33 rfl ?_
  refine g_getR X fX1_18 cC_136 rfl dX1_unlikeHeirs_34 ?_
  refine g_getI X fX1_97 cC_138 rfl dX1_unlikeHeirs_37 ?_
  refine g_icmp_ge (tgt := 138) X dX1_unlikeHeirs_40 (by decide) (fun c40 => ?_) (fun c40 => ?_)
  · rw [if_pos c40] at hM
    refine g_iload X dX1_unlikeHeirs_138 rfl ?_
    cases hM
    exact g_iret X dX1_unlikeHeirs_140
  · rw [if_neg c40] at hM
    refine g_aload_n X dX1_unlikeHeirs_43 rfl ?_
    refine g_getR X fX1_25 cC_136 rfl dX1_unlikeHeirs_44 ?_
    refine g_iload X dX1_unlikeHeirs_47 rfl ?_
    obtain ⟨v49, e49, hM⟩ := bind_of hM
    refine g_iaload X e49 dX1_unlikeHeirs_49 ?_
    refine g_iconst X (v := 4) dX1_unlikeHeirs_50 (by decide) ?_
    refine g_idiv X (by decide) dX1_unlikeHeirs_51 ?_
    refine g_istore X [some (.ref (B + 136)), none, some (.long x2), none, some (.int x4), some (.int x5), some (.int (v49 / 4)), none, none, none] dX1_unlikeHeirs_52 (by decide) rfl ?_
    refine g_iconst X (v := 0) dX1_unlikeHeirs_54 (by decide) ?_
    refine g_istore X [some (.ref (B + 136)), none, some (.long x2), none, some (.int x4), some (.int x5), some (.int (v49 / 4)), some (.int 0), none, none] dX1_unlikeHeirs_55 (by decide) rfl ?_
    refine g_mk [true, false, true, false, true, true, true, true, false, false] [some (.ref (B + 136)), none, some (.long x2), none, some (.int x4), some (.int x5), some (.int (v49 / 4)), some (.int 0), none, none] rfl ?_
    exact v_X1_unlikeHeirs_l57 X ih31 fz hM
theorem v_X1_unlikeHeirs_l31 {κ : gK} {B : Nat} (X : gX κ B skC cX1_unlikeHeirs 10 RX1 (some .int) 1 24)   : ∀ (n : Nat) {x2 : Int64} {x4 : Int32} {x5 : Int32} {u : gM} {w : (Int32 × gM)} (hM : X1_unlikeHeirs_l31  n x2 x4 x5 u = some w), gV κ B skC 10 ((some (.int w.1)), w.2) 31 [some (.ref (B + 136)), none, some (.long x2), none, some (.int x4), some (.int x5), none, none, none, none] [] u := by
  intro n
  induction n with
  | zero => intro x2 x4 x5 u w hM; exact nomatch (show (none : Option (Int32 × gM)) = some w from hM)
  | succ n ihn => intro x2 x4 x5 u w hM; exact v_X1_unlikeHeirs_b31 X  (fun x2 x4 x5 u w h => ihn h) hM
set_option maxRecDepth 20000 in
theorem v_X1_unlikeHeirs_b24 {κ : gK} {B : Nat} {u : gM} (X : gX κ B skC cX1_unlikeHeirs 10 RX1 (some .int) 1 24)   {s0 : Int64} {w : (Int32 × gM)} (hM : X1_unlikeHeirs_b24 s0 u = some w) : gV κ B skC 10 ((some (.int w.1)), w.2) 24 [some (.ref (B + 136)), none, none, none, none, none, none, none, none, none] [.long s0] u := by
  unfold X1_unlikeHeirs_b24 at hM
  refine g_lstore_n X [some (.ref (B + 136)), none, some (.long s0), none, none, none, none, none, none, none] dX1_unlikeHeirs_24 (by decide) rfl ?_
  refine g_iconst X (v := 0) dX1_unlikeHeirs_25 (by decide) ?_
  refine g_istore X [some (.ref (B + 136)), none, some (.long s0), none, some (.int 0), none, none, none, none, none] dX1_unlikeHeirs_26 (by decide) rfl ?_
  refine g_iconst X (v := 0) dX1_unlikeHeirs_28 (by decide) ?_
  refine g_istore X [some (.ref (B + 136)), none, some (.long s0), none, some (.int 0), some (.int 0), none, none, none, none] dX1_unlikeHeirs_29 (by decide) rfl ?_
  refine g_mk [true, false, true, false, true, true, false, false, false, false] [some (.ref (B + 136)), none, some (.long s0), none, some (.int 0), some (.int 0), none, none, none, none] rfl ?_
  exact v_X1_unlikeHeirs_l31 X  fz hM
set_option maxRecDepth 20000 in
theorem v_X1_unlikeHeirs {κ : gK} {B : Nat} {u : gM} (X : gX κ B skC cX1_unlikeHeirs 10 RX1 (some .int) 1 24)   {x1 : Int32} {w : (Int32 × gM)} (hM : X1_unlikeHeirs x1 u = some w) : gV κ B skC 10 ((some (.int w.1)), w.2) 0 [some (.ref (B + 136)), some (.int x1), none, none, none, none, none, none, none, none] [] u := by
  unfold X1_unlikeHeirs at hM
  refine g_aload_n X dX1_unlikeHeirs_0 rfl ?_
  refine g_getR X fX1_32 cC_136 rfl dX1_unlikeHeirs_1 ?_
  refine g_iload_n X dX1_unlikeHeirs_4 rfl ?_
  obtain ⟨w5, e5, hM⟩ := bind_of hM
  refine g_callVi X (fun B adK => [.int x1]) (s_X10_isPerson e5) cvX1_114 cC_3 rfl rfl (Nat.le_of_ble_eq_true rfl) ⟨by decide, by decide⟩ dX1_unlikeHeirs_5 ?_
  refine g_if_eq (tgt := 23) X dX1_unlikeHeirs_8 (by decide) (fun c8 => ?_) (fun c8 => ?_)
  · rw [if_pos c8] at hM
    refine g_lconst (v := 0) X dX1_unlikeHeirs_23 (by decide) ?_
    refine g_mk [true, false, false, false, false, false, false, false, false, false] [some (.ref (B + 136)), none, none, none, none, none, none, none, none, none] rfl ?_
    exact v_X1_unlikeHeirs_b24 X  hM
  · rw [if_neg c8] at hM
    refine g_aload_n X dX1_unlikeHeirs_11 rfl ?_
    refine g_getR X fX1_32 cC_136 rfl dX1_unlikeHeirs_12 ?_
    refine g_getR X fX1_117 cC_3 rfl dX1_unlikeHeirs_15 ?_
    refine g_iload_n X dX1_unlikeHeirs_18 rfl ?_
    obtain ⟨v19, e19, hM⟩ := bind_of hM
    refine g_laload X e19 dX1_unlikeHeirs_19 ?_
    refine g_goto (tgt := 24) X dX1_unlikeHeirs_20 (by decide) ?_
    refine g_mk [true, false, false, false, false, false, false, false, false, false] [some (.ref (B + 136)), none, none, none, none, none, none, none, none, none] rfl ?_
    exact v_X1_unlikeHeirs_b24 X  hM
theorem s_X1_unlikeHeirs {x1 : Int32} {u : gM} {w : (Int32 × gM)} (hM : X1_unlikeHeirs x1 u = some w) : gMet skC yX1_unlikeHeirs cX1_unlikeHeirs 10 (some .int) 1 24 (fun B adK => [.ref (B + 136), .int x1]) u ((fun _ => some (.int w.1)), w.2) := by
  refine gMet.of (by decide) (fun _ _ => Nat.le_of_ble_eq_true rfl) (fun κ B X => ?_)
  have X : gX κ B skC cX1_unlikeHeirs 10 RX1 (some .int) 1 24 := X
  refine g_mk [true, true, false, false, false, false, false, false, false, false] [some (.ref (B + 136)), some (.int x1), none, none, none, none, none, none, none, none] rfl ?_
  exact v_X1_unlikeHeirs X  hM
theorem fr_X1_unlikeHeirs_b132 {S : Nat → Prop} {u0 u : gM} {x2 : Int64} {x4 : Int32} {x5 : Int32} (hs0 : S 144) {k31 : Int64 → Int32 → Int32 → gM → Option (Int32 × gM)} (ik31 : ∀ (x2 : Int64) (x4 : Int32) (x5 : Int32) (u : gM) (w : (Int32 × gM)), S 144 → off S u0 u → k31 x2 x4 x5 u = some w → off S u0 w.2) {w : (Int32 × gM)} (hM : X1_unlikeHeirs_b132 k31 x2 x4 x5 u = some w) (h0 : off S u0 u) : off S u0 w.2 := by
  unfold X1_unlikeHeirs_b132 at hM
  exact ik31 _ _ _ _ _ hs0 h0 hM
theorem fr_X1_unlikeHeirs_b126 {S : Nat → Prop} {u0 u : gM} {x2 : Int64} {x4 : Int32} {x5 : Int32} {x6 : Int32} {x7 : Int32} (hs0 : S 144) {k31 : Int64 → Int32 → Int32 → gM → Option (Int32 × gM)} {k57 : Int64 → Int32 → Int32 → Int32 → Int32 → gM → Option (Int32 × gM)} (ik31 : ∀ (x2 : Int64) (x4 : Int32) (x5 : Int32) (u : gM) (w : (Int32 × gM)), S 144 → off S u0 u → k31 x2 x4 x5 u = some w → off S u0 w.2) (ik57 : ∀ (x2 : Int64) (x4 : Int32) (x5 : Int32) (x6 : Int32) (x7 : Int32) (u : gM) (w : (Int32 × gM)), S 144 → off S u0 u → k57 x2 x4 x5 x6 x7 u = some w → off S u0 w.2) {w : (Int32 × gM)} (hM : X1_unlikeHeirs_b126 k31 k57 x2 x4 x5 x6 x7 u = some w) (h0 : off S u0 u) : off S u0 w.2 := by
  unfold X1_unlikeHeirs_b126 at hM
  exact ik57 _ _ _ _ _ _ _ hs0 h0 hM
theorem fr_X1_unlikeHeirs_b57 {S : Nat → Prop} {u0 u : gM} {x2 : Int64} {x4 : Int32} {x5 : Int32} {x6 : Int32} {x7 : Int32} (hs0 : S 144) {k31 : Int64 → Int32 → Int32 → gM → Option (Int32 × gM)} {k57 : Int64 → Int32 → Int32 → Int32 → Int32 → gM → Option (Int32 × gM)} (ik31 : ∀ (x2 : Int64) (x4 : Int32) (x5 : Int32) (u : gM) (w : (Int32 × gM)), S 144 → off S u0 u → k31 x2 x4 x5 u = some w → off S u0 w.2) (ik57 : ∀ (x2 : Int64) (x4 : Int32) (x5 : Int32) (x6 : Int32) (x7 : Int32) (u : gM) (w : (Int32 × gM)), S 144 → off S u0 u → k57 x2 x4 x5 x6 x7 u = some w → off S u0 w.2) {w : (Int32 × gM)} (hM : X1_unlikeHeirs_b57 k31 k57 x2 x4 x5 x6 x7 u = some w) (h0 : off S u0 u) : off S u0 w.2 := by
  unfold X1_unlikeHeirs_b57 at hM
  obtain ⟨v68, e68, hM⟩ := bind_of hM
  by_cases c69 : v68 ≤ x7
  · rw [if_pos c69] at hM
    exact fr_X1_unlikeHeirs_b132 hs0 ik31 hM h0
  · rw [if_neg c69] at hM
    by_cases c75 : 5 ≤ x4
    · rw [if_pos c75] at hM
      exact fr_X1_unlikeHeirs_b132 hs0 ik31 hM h0
    · rw [if_neg c75] at hM
      obtain ⟨v93, e93, hM⟩ := bind_of hM
      by_cases c100 : (lg_cmp v93 x2) = 0
      · rw [if_pos c100] at hM
        exact fr_X1_unlikeHeirs_b126 hs0 ik31 ik57 hM h0
      · rw [if_neg c100] at hM
        obtain ⟨w108, e108, hM⟩ := bind_of hM
        by_cases c111 : w108 = 0
        · rw [if_pos c111] at hM
          obtain ⟨u122, e122, hM⟩ := bind_of hM
          have h0 := off_sJ hs0 e122 h0
          exact fr_X1_unlikeHeirs_b126 hs0 ik31 ik57 hM h0
        · rw [if_neg c111] at hM
          exact fr_X1_unlikeHeirs_b126 hs0 ik31 ik57 hM h0
theorem fr_X1_unlikeHeirs_l57 {S : Nat → Prop} {u0 : gM} {k31 : Int64 → Int32 → Int32 → gM → Option (Int32 × gM)} (ik31 : ∀ (x2 : Int64) (x4 : Int32) (x5 : Int32) (u : gM) (w : (Int32 × gM)), S 144 → off S u0 u → k31 x2 x4 x5 u = some w → off S u0 w.2) : ∀ (n : Nat) {x2 : Int64} {x4 : Int32} {x5 : Int32} {x6 : Int32} {x7 : Int32} (hs0 : S 144) {u : gM} {w : (Int32 × gM)} (h0 : off S u0 u) (hM : X1_unlikeHeirs_l57 k31 n x2 x4 x5 x6 x7 u = some w), off S u0 w.2 := by
  intro n
  induction n with
  | zero => intro x2 x4 x5 x6 x7 hs0 u w h0 hM; exact nomatch (show (none : Option (Int32 × gM)) = some w from hM)
  | succ n ihn => intro x2 x4 x5 x6 x7 hs0 u w h0 hM; exact fr_X1_unlikeHeirs_b57 hs0 ik31 (fun x2 x4 x5 x6 x7 _ _ hs0 h0 h => ihn hs0 h0 h) hM h0
theorem fr_X1_unlikeHeirs_b31 {S : Nat → Prop} {u0 u : gM} {x2 : Int64} {x4 : Int32} {x5 : Int32} (hs0 : S 144) {k31 : Int64 → Int32 → Int32 → gM → Option (Int32 × gM)} (ik31 : ∀ (x2 : Int64) (x4 : Int32) (x5 : Int32) (u : gM) (w : (Int32 × gM)), S 144 → off S u0 u → k31 x2 x4 x5 u = some w → off S u0 w.2) {w : (Int32 × gM)} (hM : X1_unlikeHeirs_b31 k31 x2 x4 x5 u = some w) (h0 : off S u0 u) : off S u0 w.2 := by
  unfold X1_unlikeHeirs_b31 at hM
  by_cases c40 : (u.1 138 0) ≤ x5
  · rw [if_pos c40] at hM
    cases hM
    exact h0
  · rw [if_neg c40] at hM
    obtain ⟨v49, e49, hM⟩ := bind_of hM
    exact fr_X1_unlikeHeirs_l57 ik31 fz hs0 h0 hM
theorem fr_X1_unlikeHeirs_l31 {S : Nat → Prop} {u0 : gM}   : ∀ (n : Nat) {x2 : Int64} {x4 : Int32} {x5 : Int32} (hs0 : S 144) {u : gM} {w : (Int32 × gM)} (h0 : off S u0 u) (hM : X1_unlikeHeirs_l31  n x2 x4 x5 u = some w), off S u0 w.2 := by
  intro n
  induction n with
  | zero => intro x2 x4 x5 hs0 u w h0 hM; exact nomatch (show (none : Option (Int32 × gM)) = some w from hM)
  | succ n ihn => intro x2 x4 x5 hs0 u w h0 hM; exact fr_X1_unlikeHeirs_b31 hs0  (fun x2 x4 x5 _ _ hs0 h0 h => ihn hs0 h0 h) hM h0
theorem fr_X1_unlikeHeirs_b24 {S : Nat → Prop} {u0 u : gM} {s0 : Int64} (hs0 : S 144)   {w : (Int32 × gM)} (hM : X1_unlikeHeirs_b24 s0 u = some w) (h0 : off S u0 u) : off S u0 w.2 := by
  unfold X1_unlikeHeirs_b24 at hM
  exact fr_X1_unlikeHeirs_l31  fz hs0 h0 hM
theorem fr_X1_unlikeHeirs {S : Nat → Prop} {u0 u : gM} {x1 : Int32} (hs0 : S 144)   {w : (Int32 × gM)} (hM : X1_unlikeHeirs x1 u = some w) (h0 : off S u0 u) : off S u0 w.2 := by
  unfold X1_unlikeHeirs at hM
  obtain ⟨w5, e5, hM⟩ := bind_of hM
  by_cases c8 : w5 = 0
  · rw [if_pos c8] at hM
    exact fr_X1_unlikeHeirs_b24 hs0  hM h0
  · rw [if_neg c8] at hM
    obtain ⟨v19, e19, hM⟩ := bind_of hM
    exact fr_X1_unlikeHeirs_b24 hs0  hM h0
/-! CoverDesk$Cover.most(II)J -/
theorem dX1_most_0 : decode cX1_most 0 = .ok (.aload_n 0, 1) := by decide +kernel
theorem dX1_most_1 : decode cX1_most 1 = .ok (.getfield 18, 3) := by decide +kernel
theorem dX1_most_4 : decode cX1_most 4 = .ok (.getfield 97, 3) := by decide +kernel
theorem dX1_most_7 : decode cX1_most 7 = .ok (.ifCond .ne 5, 3) := by decide +kernel
theorem dX1_most_10 : decode cX1_most 10 = .ok (.lconst 0, 1) := by decide +kernel
theorem dX1_most_11 : decode cX1_most 11 = .ok (.lreturn, 1) := by decide +kernel
theorem dX1_most_12 : decode cX1_most 12 = .ok (.iload_n 2, 1) := by decide +kernel
theorem dX1_most_13 : decode cX1_most 13 = .ok (.iconst 2, 1) := by decide +kernel
theorem dX1_most_14 : decode cX1_most 14 = .ok (.if_icmp .ne 25, 3) := by decide +kernel
theorem dX1_most_17 : decode cX1_most 17 = .ok (.aload_n 0, 1) := by decide +kernel
theorem dX1_most_18 : decode cX1_most 18 = .ok (.getfield 32, 3) := by decide +kernel
theorem dX1_most_21 : decode cX1_most 21 = .ok (.getfield 107, 3) := by decide +kernel
theorem dX1_most_24 : decode cX1_most 24 = .ok (.i2l, 1) := by decide +kernel
theorem dX1_most_25 : decode cX1_most 25 = .ok (.iconst 1, 1) := by decide +kernel
theorem dX1_most_26 : decode cX1_most 26 = .ok (.aload_n 0, 1) := by decide +kernel
theorem dX1_most_27 : decode cX1_most 27 = .ok (.iload_n 1, 1) := by decide +kernel
theorem dX1_most_28 : decode cX1_most 28 = .ok (.invokevirtual 110, 3) := by decide +kernel
theorem dX1_most_31 : decode cX1_most 31 = .ok (.invokestatic 60, 3) := by decide +kernel
theorem dX1_most_34 : decode cX1_most 34 = .ok (.i2l, 1) := by decide +kernel
theorem dX1_most_35 : decode cX1_most 35 = .ok (.lmul, 1) := by decide +kernel
theorem dX1_most_36 : decode cX1_most 36 = .ok (.goto 11, 3) := by decide +kernel
theorem dX1_most_39 : decode cX1_most 39 = .ok (.aload_n 0, 1) := by decide +kernel
theorem dX1_most_40 : decode cX1_most 40 = .ok (.getfield 32, 3) := by decide +kernel
theorem dX1_most_43 : decode cX1_most 43 = .ok (.getfield 107, 3) := by decide +kernel
theorem dX1_most_46 : decode cX1_most 46 = .ok (.i2l, 1) := by decide +kernel
theorem dX1_most_47 : decode cX1_most 47 = .ok (.lreturn, 1) := by decide +kernel
def X1_most_b47  (s0 : Int64) (u : gM) : Option (Int64 × gM) :=
some (s0, u)
def X1_most  (x1 : Int32) (x2 : Int32) (u : gM) : Option (Int64 × gM) :=
(if (u.1 138 0) = 0 then some (0, u)
  else (if x2 = 2 then ((X1_unlikeHeirs x1 u).bind fun w28 => (X1_most_b47 ((u.1 3 4).toInt64 * (mxI 1 w28.1).toInt64) w28.2))
    else (X1_most_b47 ((u.1 3 4).toInt64) u)))
set_option maxRecDepth 20000 in
theorem v_X1_most_b47 {κ : gK} {B : Nat} {u : gM} (X : gX κ B skC cX1_most 3 RX1 (some .long) 2 53)   {s0 : Int64} {w : (Int64 × gM)} (hM : X1_most_b47 s0 u = some w) : gV κ B skC 3 ((some (.long w.1)), w.2) 47 [none, none, none] [.long s0] u := by
  unfold X1_most_b47 at hM
  cases hM
  exact g_lret X dX1_most_47
set_option maxRecDepth 20000 in
theorem v_X1_most {κ : gK} {B : Nat} {u : gM} (X : gX κ B skC cX1_most 3 RX1 (some .long) 2 53)   {x1 : Int32} {x2 : Int32} {w : (Int64 × gM)} (hM : X1_most x1 x2 u = some w) : gV κ B skC 3 ((some (.long w.1)), w.2) 0 [some (.ref (B + 136)), some (.int x1), some (.int x2)] [] u := by
  unfold X1_most at hM
  refine g_aload_n X dX1_most_0 rfl ?_
  refine g_getR X fX1_18 cC_136 rfl dX1_most_1 ?_
  refine g_getI X fX1_97 cC_138 rfl dX1_most_4 ?_
  refine g_if_ne (tgt := 12) X dX1_most_7 (by decide) (fun c7 => ?_) (fun c7 => ?_)
  · rw [if_neg c7] at hM
    refine g_iload_n X dX1_most_12 rfl ?_
    refine g_iconst X (v := 2) dX1_most_13 (by decide) ?_
    refine g_icmp_ne (tgt := 39) X dX1_most_14 (by decide) (fun c14 => ?_) (fun c14 => ?_)
    · rw [if_neg c14] at hM
      refine g_aload_n X dX1_most_39 rfl ?_
      refine g_getR X fX1_32 cC_136 rfl dX1_most_40 ?_
      refine g_getI X fX1_107 cC_3 rfl dX1_most_43 ?_
      refine g_i2l X dX1_most_46 ?_
      refine g_mk [false, false, false] [none, none, none] rfl ?_
      exact v_X1_most_b47 X  hM
    · rw [if_pos c14] at hM
      refine g_aload_n X dX1_most_17 rfl ?_
      refine g_getR X fX1_32 cC_136 rfl dX1_most_18 ?_
      refine g_getI X fX1_107 cC_3 rfl dX1_most_21 ?_
      refine g_i2l X dX1_most_24 ?_
      refine g_iconst X (v := 1) dX1_most_25 (by decide) ?_
      refine g_aload_n X dX1_most_26 rfl ?_
      refine g_iload_n X dX1_most_27 rfl ?_
      obtain ⟨w28, e28, hM⟩ := bind_of hM
      refine g_callVi X (fun B adK => [.int x1]) (s_X1_unlikeHeirs e28) cvX1_110 cC_136 rfl rfl (Nat.le_of_ble_eq_true rfl) ⟨by decide, by decide⟩ dX1_most_28 ?_
      refine g_maxI X m_33_12 ⟨by decide, Nat.le_of_ble_eq_true rfl⟩ dX1_most_31 ?_
      refine g_i2l X dX1_most_34 ?_
      refine g_lmul X dX1_most_35 ?_
      refine g_goto (tgt := 47) X dX1_most_36 (by decide) ?_
      refine g_mk [false, false, false] [none, none, none] rfl ?_
      exact v_X1_most_b47 X  hM
  · rw [if_pos c7] at hM
    refine g_lconst (v := 0) X dX1_most_10 (by decide) ?_
    cases hM
    exact g_lret X dX1_most_11
theorem s_X1_most {x1 : Int32} {x2 : Int32} {u : gM} {w : (Int64 × gM)} (hM : X1_most x1 x2 u = some w) : gMet skC yX1_most cX1_most 3 (some .long) 2 53 (fun B adK => [.ref (B + 136), .int x1, .int x2]) u ((fun _ => some (.long w.1)), w.2) := by
  refine gMet.of (by decide) (fun _ _ => Nat.le_of_ble_eq_true rfl) (fun κ B X => ?_)
  have X : gX κ B skC cX1_most 3 RX1 (some .long) 2 53 := X
  refine g_mk [true, true, true] [some (.ref (B + 136)), some (.int x1), some (.int x2)] rfl ?_
  exact v_X1_most X  hM
theorem fr_X1_most_b47 {S : Nat → Prop} {u0 u : gM} {s0 : Int64}    {w : (Int64 × gM)} (hM : X1_most_b47 s0 u = some w) (h0 : off S u0 u) : off S u0 w.2 := by
  unfold X1_most_b47 at hM
  cases hM
  exact h0
theorem fr_X1_most {S : Nat → Prop} {u0 u : gM} {x1 : Int32} {x2 : Int32} (hs0 : S 144)   {w : (Int64 × gM)} (hM : X1_most x1 x2 u = some w) (h0 : off S u0 u) : off S u0 w.2 := by
  unfold X1_most at hM
  by_cases c7 : (u.1 138 0) = 0
  · rw [if_pos c7] at hM
    cases hM
    exact h0
  · rw [if_neg c7] at hM
    by_cases c14 : x2 = 2
    · rw [if_pos c14] at hM
      obtain ⟨w28, e28, hM⟩ := bind_of hM
      have h0 := fr_X1_unlikeHeirs hs0 e28 h0
      exact fr_X1_most_b47   hM h0
    · rw [if_neg c14] at hM
      exact fr_X1_most_b47   hM h0
/-! CoverDesk$Division.greatestRest()I -/
theorem dX4_greatestRest_0 : decode cX4_greatestRest 0 = .ok (.iconst 0, 1) := by decide +kernel
theorem dX4_greatestRest_1 : decode cX4_greatestRest 1 = .ok (.istore_n 1, 1) := by decide +kernel
theorem dX4_greatestRest_2 : decode cX4_greatestRest 2 = .ok (.iconst 1, 1) := by decide +kernel
theorem dX4_greatestRest_3 : decode cX4_greatestRest 3 = .ok (.istore_n 2, 1) := by decide +kernel
theorem dX4_greatestRest_4 : decode cX4_greatestRest 4 = .ok (.iload_n 2, 1) := by decide +kernel
theorem dX4_greatestRest_5 : decode cX4_greatestRest 5 = .ok (.aload_n 0, 1) := by decide +kernel
theorem dX4_greatestRest_6 : decode cX4_greatestRest 6 = .ok (.getfield 21, 3) := by decide +kernel
theorem dX4_greatestRest_9 : decode cX4_greatestRest 9 = .ok (.if_icmp .ge 27, 3) := by decide +kernel
theorem dX4_greatestRest_12 : decode cX4_greatestRest 12 = .ok (.aload_n 0, 1) := by decide +kernel
theorem dX4_greatestRest_13 : decode cX4_greatestRest 13 = .ok (.getfield 18, 3) := by decide +kernel
theorem dX4_greatestRest_16 : decode cX4_greatestRest 16 = .ok (.iload_n 2, 1) := by decide +kernel
theorem dX4_greatestRest_17 : decode cX4_greatestRest 17 = .ok (.laload, 1) := by decide +kernel
theorem dX4_greatestRest_18 : decode cX4_greatestRest 18 = .ok (.aload_n 0, 1) := by decide +kernel
theorem dX4_greatestRest_19 : decode cX4_greatestRest 19 = .ok (.getfield 18, 3) := by decide +kernel
theorem dX4_greatestRest_22 : decode cX4_greatestRest 22 = .ok (.iload_n 1, 1) := by decide +kernel
theorem dX4_greatestRest_23 : decode cX4_greatestRest 23 = .ok (.laload, 1) := by decide +kernel
theorem dX4_greatestRest_24 : decode cX4_greatestRest 24 = .ok (.lcmp, 1) := by decide +kernel
theorem dX4_greatestRest_25 : decode cX4_greatestRest 25 = .ok (.ifCond .le 5, 3) := by decide +kernel
theorem dX4_greatestRest_28 : decode cX4_greatestRest 28 = .ok (.iload_n 2, 1) := by decide +kernel
theorem dX4_greatestRest_29 : decode cX4_greatestRest 29 = .ok (.istore_n 1, 1) := by decide +kernel
theorem dX4_greatestRest_30 : decode cX4_greatestRest 30 = .ok (.iinc 2 1, 3) := by decide +kernel
theorem dX4_greatestRest_33 : decode cX4_greatestRest 33 = .ok (.goto (-29), 3) := by decide +kernel
theorem dX4_greatestRest_36 : decode cX4_greatestRest 36 = .ok (.iload_n 1, 1) := by decide +kernel
theorem dX4_greatestRest_37 : decode cX4_greatestRest 37 = .ok (.ireturn, 1) := by decide +kernel
def X4_greatestRest_b30 (u : gM) (k4 : Nat → Int32 → Int32 → Option Int32) (x0 : Nat) (x1 : Int32) (x2 : Int32) : Option Int32 :=
(k4 x0 x1 (x2 + 1))
def X4_greatestRest_b4 (u : gM) (k4 : Nat → Int32 → Int32 → Option Int32) (x0 : Nat) (x1 : Int32) (x2 : Int32) : Option Int32 :=
(if isO skC x0 4 = true then (if (u.1 x0 0) ≤ x2 then some x1
  else ((aJ skC u (rf skC x0 4) x2).bind fun v17 => ((aJ skC u (rf skC x0 4) x1).bind fun v23 => (if (lg_cmp v17 v23) ≤ 0 then (X4_greatestRest_b30 u k4 x0 x1 x2)
    else (X4_greatestRest_b30 u k4 x0 x2 x2)))))
 else none)
def X4_greatestRest_l4 (u : gM)  : Nat → Nat → Int32 → Int32 → Option Int32
  | 0, _, _, _ => none
  | n + 1, x0, x1, x2 => X4_greatestRest_b4 u  (X4_greatestRest_l4 u  n) x0 x1 x2
def X4_greatestRest (u : gM)  (x0 : Nat) : Option Int32 :=
(X4_greatestRest_l4 u fz x0 0 1)
set_option maxRecDepth 20000 in
theorem v_X4_greatestRest_b30 {κ : gK} {B : Nat} {u : gM} (X : gX κ B skC cX4_greatestRest 3 RX4 (some .int) 0 0) {k4 : Nat → Int32 → Int32 → Option Int32} (ih4 : ∀ (x0 : Nat) (x1 : Int32) (x2 : Int32) (w : Int32), k4 x0 x1 x2 = some w → gV κ B skC 3 ((some (.int w)), u) 4 [some (.ref (B + x0)), some (.int x1), some (.int x2)] [] u) {x0 : Nat} {x1 : Int32} {x2 : Int32} {w : Int32} (hM : X4_greatestRest_b30 u k4 x0 x1 x2 = some w) : gV κ B skC 3 ((some (.int w)), u) 30 [some (.ref (B + x0)), some (.int x1), some (.int x2)] [] u := by
  unfold X4_greatestRest_b30 at hM
  refine g_iinc (d := 1) X [some (.ref (B + x0)), some (.int x1), some (.int (x2 + 1))] dX4_greatestRest_30 (by decide) rfl (by decide) rfl ?_
  refine g_goto (tgt := 4) X dX4_greatestRest_33 (by decide) ?_
  refine g_mk [true, true, true] [some (.ref (B + x0)), some (.int x1), some (.int (x2 + 1))] rfl ?_
  exact ih4 x0 x1 (x2 + 1) _ hM
set_option maxRecDepth 20000 in
theorem v_X4_greatestRest_b4 {κ : gK} {B : Nat} {u : gM} (X : gX κ B skC cX4_greatestRest 3 RX4 (some .int) 0 0) {k4 : Nat → Int32 → Int32 → Option Int32} (ih4 : ∀ (x0 : Nat) (x1 : Int32) (x2 : Int32) (w : Int32), k4 x0 x1 x2 = some w → gV κ B skC 3 ((some (.int w)), u) 4 [some (.ref (B + x0)), some (.int x1), some (.int x2)] [] u) {x0 : Nat} {x1 : Int32} {x2 : Int32} {w : Int32} (hM : X4_greatestRest_b4 u k4 x0 x1 x2 = some w) : gV κ B skC 3 ((some (.int w)), u) 4 [some (.ref (B + x0)), some (.int x1), some (.int x2)] [] u := by
  unfold X4_greatestRest_b4 at hM
  refine g_iload_n X dX4_greatestRest_4 rfl ?_
  refine g_aload_n X dX4_greatestRest_5 rfl ?_
  obtain ⟨o0, hM⟩ := ite_of hM
  refine g_getI X fX4_21 (sh_X4 o0) rfl dX4_greatestRest_6 ?_
  refine g_icmp_ge (tgt := 36) X dX4_greatestRest_9 (by decide) (fun c9 => ?_) (fun c9 => ?_)
  · rw [if_pos c9] at hM
    refine g_iload_n X dX4_greatestRest_36 rfl ?_
    cases hM
    exact g_iret X dX4_greatestRest_37
  · rw [if_neg c9] at hM
    refine g_aload_n X dX4_greatestRest_12 rfl ?_
    refine g_getR X fX4_18 (sh_X4 o0) rfl dX4_greatestRest_13 ?_
    refine g_iload_n X dX4_greatestRest_16 rfl ?_
    obtain ⟨v17, e17, hM⟩ := bind_of hM
    refine g_laload X e17 dX4_greatestRest_17 ?_
    refine g_aload_n X dX4_greatestRest_18 rfl ?_
    refine g_getR X fX4_18 (sh_X4 o0) rfl dX4_greatestRest_19 ?_
    refine g_iload_n X dX4_greatestRest_22 rfl ?_
    obtain ⟨v23, e23, hM⟩ := bind_of hM
    refine g_laload X e23 dX4_greatestRest_23 ?_
    refine g_lcmp X dX4_greatestRest_24 ?_
    refine g_if_le (tgt := 30) X dX4_greatestRest_25 (by decide) (fun c25 => ?_) (fun c25 => ?_)
    · rw [if_pos c25] at hM
      refine g_mk [true, true, true] [some (.ref (B + x0)), some (.int x1), some (.int x2)] rfl ?_
      exact v_X4_greatestRest_b30 X ih4 hM
    · rw [if_neg c25] at hM
      refine g_iload_n X dX4_greatestRest_28 rfl ?_
      refine g_istore_n X [some (.ref (B + x0)), some (.int x2), some (.int x2)] dX4_greatestRest_29 (by decide) rfl ?_
      refine g_mk [true, true, true] [some (.ref (B + x0)), some (.int x2), some (.int x2)] rfl ?_
      exact v_X4_greatestRest_b30 X ih4 hM
theorem v_X4_greatestRest_l4 {κ : gK} {B : Nat} {u : gM} (X : gX κ B skC cX4_greatestRest 3 RX4 (some .int) 0 0)   : ∀ (n : Nat) {x0 : Nat} {x1 : Int32} {x2 : Int32} {w : Int32} (hM : X4_greatestRest_l4 u  n x0 x1 x2 = some w), gV κ B skC 3 ((some (.int w)), u) 4 [some (.ref (B + x0)), some (.int x1), some (.int x2)] [] u := by
  intro n
  induction n with
  | zero => intro x0 x1 x2 w hM; exact nomatch (show (none : Option Int32) = some w from hM)
  | succ n ihn => intro x0 x1 x2 w hM; exact v_X4_greatestRest_b4 X  (fun x0 x1 x2 w h => ihn h) hM
set_option maxRecDepth 20000 in
theorem v_X4_greatestRest {κ : gK} {B : Nat} {u : gM} (X : gX κ B skC cX4_greatestRest 3 RX4 (some .int) 0 0)   {x0 : Nat} {w : Int32} (hM : X4_greatestRest u x0 = some w) : gV κ B skC 3 ((some (.int w)), u) 0 [some (.ref (B + x0)), none, none] [] u := by
  unfold X4_greatestRest at hM
  refine g_iconst X (v := 0) dX4_greatestRest_0 (by decide) ?_
  refine g_istore_n X [some (.ref (B + x0)), some (.int 0), none] dX4_greatestRest_1 (by decide) rfl ?_
  refine g_iconst X (v := 1) dX4_greatestRest_2 (by decide) ?_
  refine g_istore_n X [some (.ref (B + x0)), some (.int 0), some (.int 1)] dX4_greatestRest_3 (by decide) rfl ?_
  refine g_mk [true, true, true] [some (.ref (B + x0)), some (.int 0), some (.int 1)] rfl ?_
  exact v_X4_greatestRest_l4 X  fz hM
theorem s_X4_greatestRest {x0 : Nat} {u : gM} {w : Int32} (hM : X4_greatestRest u x0 = some w) : gMet skC yX4_greatestRest cX4_greatestRest 3 (some .int) 0 0 (fun B adK => [.ref (B + x0)]) u ((fun _ => some (.int w)), u) := by
  refine gMet.of (by decide) (fun _ _ => Nat.le_of_ble_eq_true rfl) (fun κ B X => ?_)
  have X : gX κ B skC cX4_greatestRest 3 RX4 (some .int) 0 0 := X
  refine g_mk [true, false, false] [some (.ref (B + x0)), none, none] rfl ?_
  exact v_X4_greatestRest X  hM

/-! CoverDesk$Division.divide(J)V -/
theorem dX4_divide_0 : decode cX4_divide 0 = .ok (.lload_n 1, 1) := by decide +kernel
theorem dX4_divide_1 : decode cX4_divide 1 = .ok (.aload_n 0, 1) := by decide +kernel
theorem dX4_divide_2 : decode cX4_divide 2 = .ok (.getfield 25, 3) := by decide +kernel
theorem dX4_divide_5 : decode cX4_divide 5 = .ok (.lcmp, 1) := by decide +kernel
theorem dX4_divide_6 : decode cX4_divide 6 = .ok (.ifCond .ge 12, 3) := by decide +kernel
theorem dX4_divide_9 : decode cX4_divide 9 = .ok (.aload_n 0, 1) := by decide +kernel
theorem dX4_divide_10 : decode cX4_divide 10 = .ok (.getfield 25, 3) := by decide +kernel
theorem dX4_divide_13 : decode cX4_divide 13 = .ok (.lconst 1, 1) := by decide +kernel
theorem dX4_divide_14 : decode cX4_divide 14 = .ok (.lcmp, 1) := by decide +kernel
theorem dX4_divide_15 : decode cX4_divide 15 = .ok (.ifCond .ge 21, 3) := by decide +kernel
theorem dX4_divide_18 : decode cX4_divide 18 = .ok (.aload_n 0, 1) := by decide +kernel
theorem dX4_divide_19 : decode cX4_divide 19 = .ok (.getfield 9, 3) := by decide +kernel
theorem dX4_divide_22 : decode cX4_divide 22 = .ok (.iconst 0, 1) := by decide +kernel
theorem dX4_divide_23 : decode cX4_divide 23 = .ok (.aload_n 0, 1) := by decide +kernel
theorem dX4_divide_24 : decode cX4_divide 24 = .ok (.getfield 15, 3) := by decide +kernel
theorem dX4_divide_27 : decode cX4_divide 27 = .ok (.iconst 0, 1) := by decide +kernel
theorem dX4_divide_28 : decode cX4_divide 28 = .ok (.aload_n 0, 1) := by decide +kernel
theorem dX4_divide_29 : decode cX4_divide 29 = .ok (.getfield 21, 3) := by decide +kernel
theorem dX4_divide_32 : decode cX4_divide 32 = .ok (.invokestatic 29, 3) := by decide +kernel
theorem dX4_divide_35 : decode cX4_divide 35 = .ok (.return_, 1) := by decide +kernel
theorem dX4_divide_36 : decode cX4_divide 36 = .ok (.lload_n 1, 1) := by decide +kernel
theorem dX4_divide_37 : decode cX4_divide 37 = .ok (.lstore_n 3, 1) := by decide +kernel
theorem dX4_divide_38 : decode cX4_divide 38 = .ok (.iconst 0, 1) := by decide +kernel
theorem dX4_divide_39 : decode cX4_divide 39 = .ok (.istore 5, 2) := by decide +kernel
theorem dX4_divide_41 : decode cX4_divide 41 = .ok (.iload 5, 2) := by decide +kernel
theorem dX4_divide_43 : decode cX4_divide 43 = .ok (.aload_n 0, 1) := by decide +kernel
theorem dX4_divide_44 : decode cX4_divide 44 = .ok (.getfield 21, 3) := by decide +kernel
theorem dX4_divide_47 : decode cX4_divide 47 = .ok (.if_icmp .ge 58, 3) := by decide +kernel
theorem dX4_divide_50 : decode cX4_divide 50 = .ok (.lload_n 1, 1) := by decide +kernel
theorem dX4_divide_51 : decode cX4_divide 51 = .ok (.aload_n 0, 1) := by decide +kernel
theorem dX4_divide_52 : decode cX4_divide 52 = .ok (.getfield 9, 3) := by decide +kernel
theorem dX4_divide_55 : decode cX4_divide 55 = .ok (.iload 5, 2) := by decide +kernel
theorem dX4_divide_57 : decode cX4_divide 57 = .ok (.laload, 1) := by decide +kernel
theorem dX4_divide_58 : decode cX4_divide 58 = .ok (.lmul, 1) := by decide +kernel
theorem dX4_divide_59 : decode cX4_divide 59 = .ok (.lstore 6, 2) := by decide +kernel
theorem dX4_divide_61 : decode cX4_divide 61 = .ok (.aload_n 0, 1) := by decide +kernel
theorem dX4_divide_62 : decode cX4_divide 62 = .ok (.getfield 15, 3) := by decide +kernel
theorem dX4_divide_65 : decode cX4_divide 65 = .ok (.iload 5, 2) := by decide +kernel
theorem dX4_divide_67 : decode cX4_divide 67 = .ok (.lload 6, 2) := by decide +kernel
theorem dX4_divide_69 : decode cX4_divide 69 = .ok (.aload_n 0, 1) := by decide +kernel
theorem dX4_divide_70 : decode cX4_divide 70 = .ok (.getfield 25, 3) := by decide +kernel
theorem dX4_divide_73 : decode cX4_divide 73 = .ok (.ldiv, 1) := by decide +kernel
theorem dX4_divide_74 : decode cX4_divide 74 = .ok (.lastore, 1) := by decide +kernel
theorem dX4_divide_75 : decode cX4_divide 75 = .ok (.aload_n 0, 1) := by decide +kernel
theorem dX4_divide_76 : decode cX4_divide 76 = .ok (.getfield 18, 3) := by decide +kernel
theorem dX4_divide_79 : decode cX4_divide 79 = .ok (.iload 5, 2) := by decide +kernel
theorem dX4_divide_81 : decode cX4_divide 81 = .ok (.lload 6, 2) := by decide +kernel
theorem dX4_divide_83 : decode cX4_divide 83 = .ok (.aload_n 0, 1) := by decide +kernel
theorem dX4_divide_84 : decode cX4_divide 84 = .ok (.getfield 25, 3) := by decide +kernel
theorem dX4_divide_87 : decode cX4_divide 87 = .ok (.lrem, 1) := by decide +kernel
theorem dX4_divide_88 : decode cX4_divide 88 = .ok (.lastore, 1) := by decide +kernel
theorem dX4_divide_89 : decode cX4_divide 89 = .ok (.lload_n 3, 1) := by decide +kernel
theorem dX4_divide_90 : decode cX4_divide 90 = .ok (.aload_n 0, 1) := by decide +kernel
theorem dX4_divide_91 : decode cX4_divide 91 = .ok (.getfield 15, 3) := by decide +kernel
theorem dX4_divide_94 : decode cX4_divide 94 = .ok (.iload 5, 2) := by decide +kernel
theorem dX4_divide_96 : decode cX4_divide 96 = .ok (.laload, 1) := by decide +kernel
theorem dX4_divide_97 : decode cX4_divide 97 = .ok (.lsub, 1) := by decide +kernel
theorem dX4_divide_98 : decode cX4_divide 98 = .ok (.lstore_n 3, 1) := by decide +kernel
theorem dX4_divide_99 : decode cX4_divide 99 = .ok (.iinc 5 1, 3) := by decide +kernel
theorem dX4_divide_102 : decode cX4_divide 102 = .ok (.goto (-61), 3) := by decide +kernel
theorem dX4_divide_105 : decode cX4_divide 105 = .ok (.iconst 0, 1) := by decide +kernel
theorem dX4_divide_106 : decode cX4_divide 106 = .ok (.istore 5, 2) := by decide +kernel
theorem dX4_divide_108 : decode cX4_divide 108 = .ok (.iload 5, 2) := by decide +kernel
theorem dX4_divide_110 : decode cX4_divide 110 = .ok (.aload_n 0, 1) := by decide +kernel
theorem dX4_divide_111 : decode cX4_divide 111 = .ok (.getfield 21, 3) := by decide +kernel
theorem dX4_divide_114 : decode cX4_divide 114 = .ok (.if_icmp .ge 46, 3) := by decide +kernel
theorem dX4_divide_117 : decode cX4_divide 117 = .ok (.lload_n 3, 1) := by decide +kernel
theorem dX4_divide_118 : decode cX4_divide 118 = .ok (.lconst 0, 1) := by decide +kernel
theorem dX4_divide_119 : decode cX4_divide 119 = .ok (.lcmp, 1) := by decide +kernel
theorem dX4_divide_120 : decode cX4_divide 120 = .ok (.ifCond .le 40, 3) := by decide +kernel
theorem dX4_divide_123 : decode cX4_divide 123 = .ok (.aload_n 0, 1) := by decide +kernel
theorem dX4_divide_124 : decode cX4_divide 124 = .ok (.invokevirtual 35, 3) := by decide +kernel
theorem dX4_divide_127 : decode cX4_divide 127 = .ok (.istore 6, 2) := by decide +kernel
theorem dX4_divide_129 : decode cX4_divide 129 = .ok (.aload_n 0, 1) := by decide +kernel
theorem dX4_divide_130 : decode cX4_divide 130 = .ok (.getfield 15, 3) := by decide +kernel
theorem dX4_divide_133 : decode cX4_divide 133 = .ok (.iload 6, 2) := by decide +kernel
theorem dX4_divide_135 : decode cX4_divide 135 = .ok (.dup2, 1) := by decide +kernel
theorem dX4_divide_136 : decode cX4_divide 136 = .ok (.laload, 1) := by decide +kernel
theorem dX4_divide_137 : decode cX4_divide 137 = .ok (.lconst 1, 1) := by decide +kernel
theorem dX4_divide_138 : decode cX4_divide 138 = .ok (.ladd, 1) := by decide +kernel
theorem dX4_divide_139 : decode cX4_divide 139 = .ok (.lastore, 1) := by decide +kernel
theorem dX4_divide_140 : decode cX4_divide 140 = .ok (.aload_n 0, 1) := by decide +kernel
theorem dX4_divide_141 : decode cX4_divide 141 = .ok (.getfield 18, 3) := by decide +kernel
theorem dX4_divide_144 : decode cX4_divide 144 = .ok (.iload 6, 2) := by decide +kernel
theorem dX4_divide_146 : decode cX4_divide 146 = .ok (.ldc2_w 39, 3) := by decide +kernel
theorem dX4_divide_149 : decode cX4_divide 149 = .ok (.lastore, 1) := by decide +kernel
theorem dX4_divide_150 : decode cX4_divide 150 = .ok (.lload_n 3, 1) := by decide +kernel
theorem dX4_divide_151 : decode cX4_divide 151 = .ok (.lconst 1, 1) := by decide +kernel
theorem dX4_divide_152 : decode cX4_divide 152 = .ok (.lsub, 1) := by decide +kernel
theorem dX4_divide_153 : decode cX4_divide 153 = .ok (.lstore_n 3, 1) := by decide +kernel
theorem dX4_divide_154 : decode cX4_divide 154 = .ok (.iinc 5 1, 3) := by decide +kernel
theorem dX4_divide_157 : decode cX4_divide 157 = .ok (.goto (-49), 3) := by decide +kernel
theorem dX4_divide_160 : decode cX4_divide 160 = .ok (.return_, 1) := by decide +kernel
def X4_divide_b18  (x0 : Nat) (u : gM) : Option gM :=
(if isO skC x0 4 = true then ((cpJ skC u (rf skC x0 2) 0 (rf skC x0 3) 0 (u.1 x0 0)).bind fun u32 => some u32)
 else none)
def X4_divide_b160   (u : gM) : Option gM :=
some u
def X4_divide_b108 (k108 : Nat → Int64 → Int32 → gM → Option gM) (x0 : Nat) (x3 : Int64) (x5 : Int32) (u : gM) : Option gM :=
(if isO skC x0 4 = true then (if (u.1 x0 0) ≤ x5 then (X4_divide_b160 u)
  else (if (lg_cmp x3 0) ≤ 0 then (X4_divide_b160 u)
    else ((X4_greatestRest u x0).bind fun w124 => ((aJ skC u (rf skC x0 3) w124).bind fun v136 => ((sJ skC u (rf skC x0 3) w124 (v136 + 1)).bind fun u139 => ((sJ skC u139 (rf skC x0 4) w124 (-1)).bind fun u149 => (k108 x0 (x3 - 1) (x5 + 1) u149)))))))
 else none)
def X4_divide_l108  : Nat → Nat → Int64 → Int32 → gM → Option gM
  | 0, _, _, _, _ => none
  | n + 1, x0, x3, x5, u => X4_divide_b108  (X4_divide_l108  n) x0 x3 x5 u
def X4_divide_b41 (k41 : Nat → Int64 → Int64 → Int32 → gM → Option gM) (x0 : Nat) (x1 : Int64) (x3 : Int64) (x5 : Int32) (u : gM) : Option gM :=
(if isO skC x0 4 = true then (if (u.1 x0 0) ≤ x5 then (X4_divide_l108 fz x0 x3 0 u)
  else ((aJ skC u (rf skC x0 2) x5).bind fun v57 => (if (u.2 x0 1) = 0 then none else ((sJ skC u (rf skC x0 3) x5 ((x1 * v57) / (u.2 x0 1))).bind fun u74 => (if (u74.2 x0 1) = 0 then none else ((sJ skC u74 (rf skC x0 4) x5 ((x1 * v57) - (x1 * v57) / (u74.2 x0 1) * (u74.2 x0 1))).bind fun u88 => ((aJ skC u88 (rf skC x0 3) x5).bind fun v96 => (k41 x0 x1 (x3 - v96) (x5 + 1) u88))))))))
 else none)
def X4_divide_l41  : Nat → Nat → Int64 → Int64 → Int32 → gM → Option gM
  | 0, _, _, _, _, _ => none
  | n + 1, x0, x1, x3, x5, u => X4_divide_b41  (X4_divide_l41  n) x0 x1 x3 x5 u
def X4_divide  (x0 : Nat) (x1 : Int64) (u : gM) : Option gM :=
(if isO skC x0 4 = true then (if 0 ≤ (lg_cmp x1 (u.2 x0 1)) then (X4_divide_b18 x0 u)
  else (if 0 ≤ (lg_cmp (u.2 x0 1) 1) then (X4_divide_l41 fz x0 x1 x1 0 u)
    else (X4_divide_b18 x0 u)))
 else none)
set_option maxRecDepth 20000 in
theorem v_X4_divide_b18 {κ : gK} {B : Nat} {u : gM} (X : gX κ B skC cX4_divide 8 RX4 none 1 26)   {x0 : Nat} {w : gM} (hM : X4_divide_b18 x0 u = some w) : gV κ B skC 8 ((none), w) 18 [some (.ref (B + x0)), none, none, none, none, none, none, none] [] u := by
  unfold X4_divide_b18 at hM
  refine g_aload_n X dX4_divide_18 rfl ?_
  obtain ⟨o0, hM⟩ := ite_of hM
  refine g_getR X fX4_9 (sh_X4 o0) rfl dX4_divide_19 ?_
  refine g_iconst X (v := 0) dX4_divide_22 (by decide) ?_
  refine g_aload_n X dX4_divide_23 rfl ?_
  refine g_getR X fX4_15 (sh_X4 o0) rfl dX4_divide_24 ?_
  refine g_iconst X (v := 0) dX4_divide_27 (by decide) ?_
  refine g_aload_n X dX4_divide_28 rfl ?_
  refine g_getI X fX4_21 (sh_X4 o0) rfl dX4_divide_29 ?_
  obtain ⟨u32, e32, hM⟩ := bind_of hM
  refine g_copyJ X m_35_19 e32 ⟨by decide, by decide⟩ dX4_divide_32 ?_
  cases hM
  exact g_vret X dX4_divide_35
set_option maxRecDepth 20000 in
theorem v_X4_divide_b160 {κ : gK} {B : Nat} {u : gM} (X : gX κ B skC cX4_divide 8 RX4 none 1 26)    {w : gM} (hM : X4_divide_b160 u = some w) : gV κ B skC 8 ((none), w) 160 [none, none, none, none, none, none, none, none] [] u := by
  unfold X4_divide_b160 at hM
  cases hM
  exact g_vret X dX4_divide_160
set_option maxRecDepth 20000 in
theorem v_X4_divide_b108 {κ : gK} {B : Nat} {u : gM} (X : gX κ B skC cX4_divide 8 RX4 none 1 26) {k108 : Nat → Int64 → Int32 → gM → Option gM} (ih108 : ∀ (x0 : Nat) (x3 : Int64) (x5 : Int32) (u : gM) (w : gM), k108 x0 x3 x5 u = some w → gV κ B skC 8 ((none), w) 108 [some (.ref (B + x0)), none, none, some (.long x3), none, some (.int x5), none, none] [] u) {x0 : Nat} {x3 : Int64} {x5 : Int32} {w : gM} (hM : X4_divide_b108 k108 x0 x3 x5 u = some w) : gV κ B skC 8 ((none), w) 108 [some (.ref (B + x0)), none, none, some (.long x3), none, some (.int x5), none, none] [] u := by
  unfold X4_divide_b108 at hM
  refine g_iload X dX4_divide_108 rfl ?_
  refine g_aload_n X dX4_divide_110 rfl ?_
  obtain ⟨o0, hM⟩ := ite_of hM
  refine g_getI X fX4_21 (sh_X4 o0) rfl dX4_divide_111 ?_
  refine g_icmp_ge (tgt := 160) X dX4_divide_114 (by decide) (fun c114 => ?_) (fun c114 => ?_)
  · rw [if_pos c114] at hM
    refine g_mk [false, false, false, false, false, false, false, false] [none, none, none, none, none, none, none, none] rfl ?_
    exact v_X4_divide_b160 X  hM
  · rw [if_neg c114] at hM
    refine g_lload_n X dX4_divide_117 rfl ?_
    refine g_lconst (v := 0) X dX4_divide_118 (by decide) ?_
    refine g_lcmp X dX4_divide_119 ?_
    refine g_if_le (tgt := 160) X dX4_divide_120 (by decide) (fun c120 => ?_) (fun c120 => ?_)
    · rw [if_pos c120] at hM
      refine g_mk [false, false, false, false, false, false, false, false] [none, none, none, none, none, none, none, none] rfl ?_
      exact v_X4_divide_b160 X  hM
    · rw [if_neg c120] at hM
      refine g_aload_n X dX4_divide_123 rfl ?_
      obtain ⟨w124, e124, hM⟩ := bind_of hM
      refine g_callVi X (fun B adK => []) (s_X4_greatestRest e124) cvX4_35 (sh_X4 o0) rfl rfl (Nat.le_of_ble_eq_true rfl) ⟨by decide, by decide⟩ dX4_divide_124 ?_
      refine g_istore X [some (.ref (B + x0)), none, none, some (.long x3), none, some (.int x5), some (.int w124), none] dX4_divide_127 (by decide) rfl ?_
      refine g_aload_n X dX4_divide_129 rfl ?_
      refine g_getR X fX4_15 (sh_X4 o0) rfl dX4_divide_130 ?_
      refine g_iload X dX4_divide_133 rfl ?_
      refine g_dup2_11 X rfl rfl dX4_divide_135 ?_
      obtain ⟨v136, e136, hM⟩ := bind_of hM
      refine g_laload X e136 dX4_divide_136 ?_
      refine g_lconst (v := 1) X dX4_divide_137 (by decide) ?_
      refine g_ladd X dX4_divide_138 ?_
      obtain ⟨u139, e139, hM⟩ := bind_of hM
      refine g_lastore X e139 dX4_divide_139 ?_
      refine g_aload_n X dX4_divide_140 rfl ?_
      refine g_getR X fX4_18 (sh_X4 o0) rfl dX4_divide_141 ?_
      refine g_iload X dX4_divide_144 rfl ?_
      refine g_ldc2 (v := (-1)) X m_35_20 dX4_divide_146 ?_
      obtain ⟨u149, e149, hM⟩ := bind_of hM
      refine g_lastore X e149 dX4_divide_149 ?_
      refine g_lload_n X dX4_divide_150 rfl ?_
      refine g_lconst (v := 1) X dX4_divide_151 (by decide) ?_
      refine g_lsub X dX4_divide_152 ?_
      refine g_lstore_n X [some (.ref (B + x0)), none, none, some (.long (x3 - 1)), none, some (.int x5), some (.int w124), none] dX4_divide_153 (by decide) rfl ?_
      refine g_iinc (d := 1) X [some (.ref (B + x0)), none, none, some (.long (x3 - 1)), none, some (.int (x5 + 1)), some (.int w124), none] dX4_divide_154 (by decide) rfl (by decide) rfl ?_
      refine g_goto (tgt := 108) X dX4_divide_157 (by decide) ?_
      refine g_mk [true, false, false, true, false, true, false, false] [some (.ref (B + x0)), none, none, some (.long (x3 - 1)), none, some (.int (x5 + 1)), none, none] rfl ?_
      exact ih108 x0 (x3 - 1) (x5 + 1) u149 _ hM
theorem v_X4_divide_l108 {κ : gK} {B : Nat} (X : gX κ B skC cX4_divide 8 RX4 none 1 26)   : ∀ (n : Nat) {x0 : Nat} {x3 : Int64} {x5 : Int32} {u : gM} {w : gM} (hM : X4_divide_l108  n x0 x3 x5 u = some w), gV κ B skC 8 ((none), w) 108 [some (.ref (B + x0)), none, none, some (.long x3), none, some (.int x5), none, none] [] u := by
  intro n
  induction n with
  | zero => intro x0 x3 x5 u w hM; exact nomatch (show (none : Option gM) = some w from hM)
  | succ n ihn => intro x0 x3 x5 u w hM; exact v_X4_divide_b108 X  (fun x0 x3 x5 u w h => ihn h) hM
set_option maxRecDepth 20000 in
theorem v_X4_divide_b41 {κ : gK} {B : Nat} {u : gM} (X : gX κ B skC cX4_divide 8 RX4 none 1 26) {k41 : Nat → Int64 → Int64 → Int32 → gM → Option gM} (ih41 : ∀ (x0 : Nat) (x1 : Int64) (x3 : Int64) (x5 : Int32) (u : gM) (w : gM), k41 x0 x1 x3 x5 u = some w → gV κ B skC 8 ((none), w) 41 [some (.ref (B + x0)), some (.long x1), none, some (.long x3), none, some (.int x5), none, none] [] u) {x0 : Nat} {x1 : Int64} {x3 : Int64} {x5 : Int32} {w : gM} (hM : X4_divide_b41 k41 x0 x1 x3 x5 u = some w) : gV κ B skC 8 ((none), w) 41 [some (.ref (B + x0)), some (.long x1), none, some (.long x3), none, some (.int x5), none, none] [] u := by
  unfold X4_divide_b41 at hM
  refine g_iload X dX4_divide_41 rfl ?_
  refine g_aload_n X dX4_divide_43 rfl ?_
  obtain ⟨o0, hM⟩ := ite_of hM
  refine g_getI X fX4_21 (sh_X4 o0) rfl dX4_divide_44 ?_
  refine g_icmp_ge (tgt := 105) X dX4_divide_47 (by decide) (fun c47 => ?_) (fun c47 => ?_)
  · rw [if_pos c47] at hM
    refine g_iconst X (v := 0) dX4_divide_105 (by decide) ?_
    refine g_istore X [some (.ref (B + x0)), some (.long x1), none, some (.long x3), none, some (.int 0), none, none] dX4_divide_106 (by decide) rfl ?_
    refine g_mk [true, false, false, true, false, true, false, false] [some (.ref (B + x0)), none, none, some (.long x3), none, some (.int 0), none, none] rfl ?_
    exact v_X4_divide_l108 X  fz hM
  · rw [if_neg c47] at hM
    refine g_lload_n X dX4_divide_50 rfl ?_
    refine g_aload_n X dX4_divide_51 rfl ?_
    refine g_getR X fX4_9 (sh_X4 o0) rfl dX4_divide_52 ?_
    refine g_iload X dX4_divide_55 rfl ?_
    obtain ⟨v57, e57, hM⟩ := bind_of hM
    refine g_laload X e57 dX4_divide_57 ?_
    refine g_lmul X dX4_divide_58 ?_
    refine g_lstore X [some (.ref (B + x0)), some (.long x1), none, some (.long x3), none, some (.int x5), some (.long (x1 * v57)), none] dX4_divide_59 (by decide) rfl ?_
    refine g_aload_n X dX4_divide_61 rfl ?_
    refine g_getR X fX4_15 (sh_X4 o0) rfl dX4_divide_62 ?_
    refine g_iload X dX4_divide_65 rfl ?_
    refine g_lload X dX4_divide_67 rfl ?_
    refine g_aload_n X dX4_divide_69 rfl ?_
    refine g_getJ X fX4_25 (sh_X4 o0) rfl dX4_divide_70 ?_
    obtain ⟨n73, hM⟩ := ite_no hM
    refine g_ldiv X n73 dX4_divide_73 ?_
    obtain ⟨u74, e74, hM⟩ := bind_of hM
    refine g_lastore X e74 dX4_divide_74 ?_
    refine g_aload_n X dX4_divide_75 rfl ?_
    refine g_getR X fX4_18 (sh_X4 o0) rfl dX4_divide_76 ?_
    refine g_iload X dX4_divide_79 rfl ?_
    refine g_lload X dX4_divide_81 rfl ?_
    refine g_aload_n X dX4_divide_83 rfl ?_
    refine g_getJ X fX4_25 (sh_X4 o0) rfl dX4_divide_84 ?_
    obtain ⟨n87, hM⟩ := ite_no hM
    refine g_lrem X n87 dX4_divide_87 ?_
    obtain ⟨u88, e88, hM⟩ := bind_of hM
    refine g_lastore X e88 dX4_divide_88 ?_
    refine g_lload_n X dX4_divide_89 rfl ?_
    refine g_aload_n X dX4_divide_90 rfl ?_
    refine g_getR X fX4_15 (sh_X4 o0) rfl dX4_divide_91 ?_
    refine g_iload X dX4_divide_94 rfl ?_
    obtain ⟨v96, e96, hM⟩ := bind_of hM
    refine g_laload X e96 dX4_divide_96 ?_
    refine g_lsub X dX4_divide_97 ?_
    refine g_lstore_n X [some (.ref (B + x0)), some (.long x1), none, some (.long (x3 - v96)), none, some (.int x5), some (.long (x1 * v57)), none] dX4_divide_98 (by decide) rfl ?_
    refine g_iinc (d := 1) X [some (.ref (B + x0)), some (.long x1), none, some (.long (x3 - v96)), none, some (.int (x5 + 1)), some (.long (x1 * v57)), none] dX4_divide_99 (by decide) rfl (by decide) rfl ?_
    refine g_goto (tgt := 41) X dX4_divide_102 (by decide) ?_
    refine g_mk [true, true, false, true, false, true, false, false] [some (.ref (B + x0)), some (.long x1), none, some (.long (x3 - v96)), none, some (.int (x5 + 1)), none, none] rfl ?_
    exact ih41 x0 x1 (x3 - v96) (x5 + 1) u88 _ hM
theorem v_X4_divide_l41 {κ : gK} {B : Nat} (X : gX κ B skC cX4_divide 8 RX4 none 1 26)   : ∀ (n : Nat) {x0 : Nat} {x1 : Int64} {x3 : Int64} {x5 : Int32} {u : gM} {w : gM} (hM : X4_divide_l41  n x0 x1 x3 x5 u = some w), gV κ B skC 8 ((none), w) 41 [some (.ref (B + x0)), some (.long x1), none, some (.long x3), none, some (.int x5), none, none] [] u := by
  intro n
  induction n with
  | zero => intro x0 x1 x3 x5 u w hM; exact nomatch (show (none : Option gM) = some w from hM)
  | succ n ihn => intro x0 x1 x3 x5 u w hM; exact v_X4_divide_b41 X  (fun x0 x1 x3 x5 u w h => ihn h) hM
set_option maxRecDepth 20000 in
theorem v_X4_divide {κ : gK} {B : Nat} {u : gM} (X : gX κ B skC cX4_divide 8 RX4 none 1 26)   {x0 : Nat} {x1 : Int64} {w : gM} (hM : X4_divide x0 x1 u = some w) : gV κ B skC 8 ((none), w) 0 [some (.ref (B + x0)), some (.long x1), none, none, none, none, none, none] [] u := by
  unfold X4_divide at hM
  refine g_lload_n X dX4_divide_0 rfl ?_
  refine g_aload_n X dX4_divide_1 rfl ?_
  obtain ⟨o0, hM⟩ := ite_of hM
  refine g_getJ X fX4_25 (sh_X4 o0) rfl dX4_divide_2 ?_
  refine g_lcmp X dX4_divide_5 ?_
  refine g_if_ge (tgt := 18) X dX4_divide_6 (by decide) (fun c6 => ?_) (fun c6 => ?_)
  · rw [if_pos c6] at hM
    refine g_mk [true, false, false, false, false, false, false, false] [some (.ref (B + x0)), none, none, none, none, none, none, none] rfl ?_
    exact v_X4_divide_b18 X  hM
  · rw [if_neg c6] at hM
    refine g_aload_n X dX4_divide_9 rfl ?_
    refine g_getJ X fX4_25 (sh_X4 o0) rfl dX4_divide_10 ?_
    refine g_lconst (v := 1) X dX4_divide_13 (by decide) ?_
    refine g_lcmp X dX4_divide_14 ?_
    refine g_if_ge (tgt := 36) X dX4_divide_15 (by decide) (fun c15 => ?_) (fun c15 => ?_)
    · rw [if_pos c15] at hM
      refine g_lload_n X dX4_divide_36 rfl ?_
      refine g_lstore_n X [some (.ref (B + x0)), some (.long x1), none, some (.long x1), none, none, none, none] dX4_divide_37 (by decide) rfl ?_
      refine g_iconst X (v := 0) dX4_divide_38 (by decide) ?_
      refine g_istore X [some (.ref (B + x0)), some (.long x1), none, some (.long x1), none, some (.int 0), none, none] dX4_divide_39 (by decide) rfl ?_
      refine g_mk [true, true, false, true, false, true, false, false] [some (.ref (B + x0)), some (.long x1), none, some (.long x1), none, some (.int 0), none, none] rfl ?_
      exact v_X4_divide_l41 X  fz hM
    · rw [if_neg c15] at hM
      refine g_mk [true, false, false, false, false, false, false, false] [some (.ref (B + x0)), none, none, none, none, none, none, none] rfl ?_
      exact v_X4_divide_b18 X  hM
theorem s_X4_divide {x0 : Nat} {x1 : Int64} {u : gM} {w : gM} (hM : X4_divide x0 x1 u = some w) : gMet skC yX4_divide cX4_divide 8 none 1 26 (fun B adK => [.ref (B + x0), .long x1]) u ((fun _ => none), w) := by
  refine gMet.of (by decide) (fun _ _ => Nat.le_of_ble_eq_true rfl) (fun κ B X => ?_)
  have X : gX κ B skC cX4_divide 8 RX4 none 1 26 := X
  refine g_mk [true, true, false, false, false, false, false, false] [some (.ref (B + x0)), some (.long x1), none, none, none, none, none, none] rfl ?_
  exact v_X4_divide X  hM
theorem fr_X4_divide_b18 {S : Nat → Prop} {u0 u : gM} {x0 : Nat} (hs0 : S (rf skC x0 3))   {w : gM} (hM : X4_divide_b18 x0 u = some w) (h0 : off S u0 u) : off S u0 w := by
  unfold X4_divide_b18 at hM
  obtain ⟨o0, hM⟩ := ite_of hM
  obtain ⟨u32, e32, hM⟩ := bind_of hM
  have h0 := off_cpJ hs0 e32 h0
  cases hM
  exact h0
theorem fr_X4_divide_b160 {S : Nat → Prop} {u0 u : gM}     {w : gM} (hM : X4_divide_b160 u = some w) (h0 : off S u0 u) : off S u0 w := by
  unfold X4_divide_b160 at hM
  cases hM
  exact h0
theorem fr_X4_divide_b108 {S : Nat → Prop} {u0 u : gM} {x0 : Nat} {x3 : Int64} {x5 : Int32} (hs0 : S (rf skC x0 3)) (hs1 : S (rf skC x0 4)) {k108 : Nat → Int64 → Int32 → gM → Option gM} (ik108 : ∀ (x0 : Nat) (x3 : Int64) (x5 : Int32) (u : gM) (w : gM), S (rf skC x0 3) → S (rf skC x0 4) → off S u0 u → k108 x0 x3 x5 u = some w → off S u0 w) {w : gM} (hM : X4_divide_b108 k108 x0 x3 x5 u = some w) (h0 : off S u0 u) : off S u0 w := by
  unfold X4_divide_b108 at hM
  obtain ⟨o0, hM⟩ := ite_of hM
  by_cases c114 : (u.1 x0 0) ≤ x5
  · rw [if_pos c114] at hM
    exact fr_X4_divide_b160   hM h0
  · rw [if_neg c114] at hM
    by_cases c120 : (lg_cmp x3 0) ≤ 0
    · rw [if_pos c120] at hM
      exact fr_X4_divide_b160   hM h0
    · rw [if_neg c120] at hM
      obtain ⟨w124, e124, hM⟩ := bind_of hM
      obtain ⟨v136, e136, hM⟩ := bind_of hM
      obtain ⟨u139, e139, hM⟩ := bind_of hM
      have h0 := off_sJ hs0 e139 h0
      obtain ⟨u149, e149, hM⟩ := bind_of hM
      have h0 := off_sJ hs1 e149 h0
      exact ik108 _ _ _ _ _ hs0 hs1 h0 hM
theorem fr_X4_divide_l108 {S : Nat → Prop} {u0 : gM}   : ∀ (n : Nat) {x0 : Nat} {x3 : Int64} {x5 : Int32} (hs0 : S (rf skC x0 3)) (hs1 : S (rf skC x0 4)) {u : gM} {w : gM} (h0 : off S u0 u) (hM : X4_divide_l108  n x0 x3 x5 u = some w), off S u0 w := by
  intro n
  induction n with
  | zero => intro x0 x3 x5 hs0 hs1 u w h0 hM; exact nomatch (show (none : Option gM) = some w from hM)
  | succ n ihn => intro x0 x3 x5 hs0 hs1 u w h0 hM; exact fr_X4_divide_b108 hs0 hs1  (fun x0 x3 x5 _ _ hs0 hs1 h0 h => ihn hs0 hs1 h0 h) hM h0
theorem fr_X4_divide_b41 {S : Nat → Prop} {u0 u : gM} {x0 : Nat} {x1 : Int64} {x3 : Int64} {x5 : Int32} (hs0 : S (rf skC x0 3)) (hs1 : S (rf skC x0 4)) {k41 : Nat → Int64 → Int64 → Int32 → gM → Option gM} (ik41 : ∀ (x0 : Nat) (x1 : Int64) (x3 : Int64) (x5 : Int32) (u : gM) (w : gM), S (rf skC x0 3) → S (rf skC x0 4) → off S u0 u → k41 x0 x1 x3 x5 u = some w → off S u0 w) {w : gM} (hM : X4_divide_b41 k41 x0 x1 x3 x5 u = some w) (h0 : off S u0 u) : off S u0 w := by
  unfold X4_divide_b41 at hM
  obtain ⟨o0, hM⟩ := ite_of hM
  by_cases c47 : (u.1 x0 0) ≤ x5
  · rw [if_pos c47] at hM
    exact fr_X4_divide_l108  fz hs0 hs1 h0 hM
  · rw [if_neg c47] at hM
    obtain ⟨v57, e57, hM⟩ := bind_of hM
    obtain ⟨n73, hM⟩ := ite_no hM
    obtain ⟨u74, e74, hM⟩ := bind_of hM
    have h0 := off_sJ hs0 e74 h0
    obtain ⟨n87, hM⟩ := ite_no hM
    obtain ⟨u88, e88, hM⟩ := bind_of hM
    have h0 := off_sJ hs1 e88 h0
    obtain ⟨v96, e96, hM⟩ := bind_of hM
    exact ik41 _ _ _ _ _ _ hs0 hs1 h0 hM
theorem fr_X4_divide_l41 {S : Nat → Prop} {u0 : gM}   : ∀ (n : Nat) {x0 : Nat} {x1 : Int64} {x3 : Int64} {x5 : Int32} (hs0 : S (rf skC x0 3)) (hs1 : S (rf skC x0 4)) {u : gM} {w : gM} (h0 : off S u0 u) (hM : X4_divide_l41  n x0 x1 x3 x5 u = some w), off S u0 w := by
  intro n
  induction n with
  | zero => intro x0 x1 x3 x5 hs0 hs1 u w h0 hM; exact nomatch (show (none : Option gM) = some w from hM)
  | succ n ihn => intro x0 x1 x3 x5 hs0 hs1 u w h0 hM; exact fr_X4_divide_b41 hs0 hs1  (fun x0 x1 x3 x5 _ _ hs0 hs1 h0 h => ihn hs0 hs1 h0 h) hM h0
theorem fr_X4_divide {S : Nat → Prop} {u0 u : gM} {x0 : Nat} {x1 : Int64} (hs0 : S (rf skC x0 3)) (hs1 : S (rf skC x0 4))   {w : gM} (hM : X4_divide x0 x1 u = some w) (h0 : off S u0 u) : off S u0 w := by
  unfold X4_divide at hM
  obtain ⟨o0, hM⟩ := ite_of hM
  by_cases c6 : 0 ≤ (lg_cmp x1 (u.2 x0 1))
  · rw [if_pos c6] at hM
    exact fr_X4_divide_b18 hs0  hM h0
  · rw [if_neg c6] at hM
    by_cases c15 : 0 ≤ (lg_cmp (u.2 x0 1) 1)
    · rw [if_pos c15] at hM
      exact fr_X4_divide_l41  fz hs0 hs1 h0 hM
    · rw [if_neg c15] at hM
      exact fr_X4_divide_b18 hs0  hM h0
/-! CoverDesk$Cover.insureGroup(III)V -/
theorem dX1_insureGroup_0 : decode cX1_insureGroup 0 = .ok (.aload_n 0, 1) := by decide +kernel
theorem dX1_insureGroup_1 : decode cX1_insureGroup 1 = .ok (.iload_n 1, 1) := by decide +kernel
theorem dX1_insureGroup_2 : decode cX1_insureGroup 2 = .ok (.iload_n 2, 1) := by decide +kernel
theorem dX1_insureGroup_3 : decode cX1_insureGroup 3 = .ok (.iload_n 3, 1) := by decide +kernel
theorem dX1_insureGroup_4 : decode cX1_insureGroup 4 = .ok (.invokevirtual 146, 3) := by decide +kernel
theorem dX1_insureGroup_7 : decode cX1_insureGroup 7 = .ok (.aload_n 0, 1) := by decide +kernel
theorem dX1_insureGroup_8 : decode cX1_insureGroup 8 = .ok (.getfield 18, 3) := by decide +kernel
theorem dX1_insureGroup_11 : decode cX1_insureGroup 11 = .ok (.aload_n 0, 1) := by decide +kernel
theorem dX1_insureGroup_12 : decode cX1_insureGroup 12 = .ok (.iload_n 1, 1) := by decide +kernel
theorem dX1_insureGroup_13 : decode cX1_insureGroup 13 = .ok (.iload_n 2, 1) := by decide +kernel
theorem dX1_insureGroup_14 : decode cX1_insureGroup 14 = .ok (.invokevirtual 149, 3) := by decide +kernel
theorem dX1_insureGroup_17 : decode cX1_insureGroup 17 = .ok (.invokevirtual 153, 3) := by decide +kernel
theorem dX1_insureGroup_20 : decode cX1_insureGroup 20 = .ok (.iconst 0, 1) := by decide +kernel
theorem dX1_insureGroup_21 : decode cX1_insureGroup 21 = .ok (.istore 4, 2) := by decide +kernel
theorem dX1_insureGroup_23 : decode cX1_insureGroup 23 = .ok (.iload 4, 2) := by decide +kernel
theorem dX1_insureGroup_25 : decode cX1_insureGroup 25 = .ok (.aload_n 0, 1) := by decide +kernel
theorem dX1_insureGroup_26 : decode cX1_insureGroup 26 = .ok (.getfield 18, 3) := by decide +kernel
theorem dX1_insureGroup_29 : decode cX1_insureGroup 29 = .ok (.getfield 97, 3) := by decide +kernel
theorem dX1_insureGroup_32 : decode cX1_insureGroup 32 = .ok (.if_icmp .ge 32, 3) := by decide +kernel
theorem dX1_insureGroup_35 : decode cX1_insureGroup 35 = .ok (.aload_n 0, 1) := by decide +kernel
theorem dX1_insureGroup_36 : decode cX1_insureGroup 36 = .ok (.getfield 9, 3) := by decide +kernel
theorem dX1_insureGroup_39 : decode cX1_insureGroup 39 = .ok (.aload_n 0, 1) := by decide +kernel
theorem dX1_insureGroup_40 : decode cX1_insureGroup 40 = .ok (.getfield 25, 3) := by decide +kernel
theorem dX1_insureGroup_43 : decode cX1_insureGroup 43 = .ok (.iload 4, 2) := by decide +kernel
theorem dX1_insureGroup_45 : decode cX1_insureGroup 45 = .ok (.iaload, 1) := by decide +kernel
theorem dX1_insureGroup_46 : decode cX1_insureGroup 46 = .ok (.aload_n 0, 1) := by decide +kernel
theorem dX1_insureGroup_47 : decode cX1_insureGroup 47 = .ok (.getfield 18, 3) := by decide +kernel
theorem dX1_insureGroup_50 : decode cX1_insureGroup 50 = .ok (.getfield 156, 3) := by decide +kernel
theorem dX1_insureGroup_53 : decode cX1_insureGroup 53 = .ok (.iload 4, 2) := by decide +kernel
theorem dX1_insureGroup_55 : decode cX1_insureGroup 55 = .ok (.laload, 1) := by decide +kernel
theorem dX1_insureGroup_56 : decode cX1_insureGroup 56 = .ok (.l2i, 1) := by decide +kernel
theorem dX1_insureGroup_57 : decode cX1_insureGroup 57 = .ok (.iastore, 1) := by decide +kernel
theorem dX1_insureGroup_58 : decode cX1_insureGroup 58 = .ok (.iinc 4 1, 3) := by decide +kernel
theorem dX1_insureGroup_61 : decode cX1_insureGroup 61 = .ok (.goto (-38), 3) := by decide +kernel
theorem dX1_insureGroup_64 : decode cX1_insureGroup 64 = .ok (.return_, 1) := by decide +kernel
def X1_insureGroup_b23 (k23 : Int32 → gM → Option gM) (x4 : Int32) (u : gM) : Option gM :=
(if (u.1 138 0) ≤ x4 then some u
  else ((aI skC u 143 x4).bind fun v45 => ((aJ skC u 140 x4).bind fun v55 => ((sI skC u 137 v45 v55.toInt32).bind fun u57 => (k23 (x4 + 1) u57)))))
def X1_insureGroup_l23  : Nat → Int32 → gM → Option gM
  | 0, _, _ => none
  | n + 1, x4, u => X1_insureGroup_b23  (X1_insureGroup_l23  n) x4 u
def X1_insureGroup  (x1 : Int32) (x2 : Int32) (x3 : Int32) (u : gM) : Option gM :=
((X1_gather x1 x2 x3 u).bind fun w4 => ((X1_most x1 x2 w4).bind fun w14 => ((X4_divide 138 w14.1 w14.2).bind fun w17 => (X1_insureGroup_l23 fz 0 w17))))
set_option maxRecDepth 20000 in
theorem v_X1_insureGroup_b23 {κ : gK} {B : Nat} {u : gM} (X : gX κ B skC cX1_insureGroup 5 RX1 none 3 75) {k23 : Int32 → gM → Option gM} (ih23 : ∀ (x4 : Int32) (u : gM) (w : gM), k23 x4 u = some w → gV κ B skC 5 ((none), w) 23 [some (.ref (B + 136)), none, none, none, some (.int x4)] [] u) {x4 : Int32} {w : gM} (hM : X1_insureGroup_b23 k23 x4 u = some w) : gV κ B skC 5 ((none), w) 23 [some (.ref (B + 136)), none, none, none, some (.int x4)] [] u := by
  unfold X1_insureGroup_b23 at hM
  refine g_iload X dX1_insureGroup_23 rfl ?_
  refine g_aload_n X dX1_insureGroup_25 rfl ?_
  refine g_getR X fX1_18 cC_136 rfl dX1_insureGroup_26 ?_
  refine g_getI X fX1_97 cC_138 rfl dX1_insureGroup_29 ?_
  refine g_icmp_ge (tgt := 64) X dX1_insureGroup_32 (by decide) (fun c32 => ?_) (fun c32 => ?_)
  · rw [if_pos c32] at hM
    cases hM
    exact g_vret X dX1_insureGroup_64
  · rw [if_neg c32] at hM
    refine g_aload_n X dX1_insureGroup_35 rfl ?_
    refine g_getR X fX1_9 cC_136 rfl dX1_insureGroup_36 ?_
    refine g_aload_n X dX1_insureGroup_39 rfl ?_
    refine g_getR X fX1_25 cC_136 rfl dX1_insureGroup_40 ?_
    refine g_iload X dX1_insureGroup_43 rfl ?_
    obtain ⟨v45, e45, hM⟩ := bind_of hM
    refine g_iaload X e45 dX1_insureGroup_45 ?_
    refine g_aload_n X dX1_insureGroup_46 rfl ?_
    refine g_getR X fX1_18 cC_136 rfl dX1_insureGroup_47 ?_
    refine g_getR X fX1_156 cC_138 rfl dX1_insureGroup_50 ?_
    refine g_iload X dX1_insureGroup_53 rfl ?_
    obtain ⟨v55, e55, hM⟩ := bind_of hM
    refine g_laload X e55 dX1_insureGroup_55 ?_
    refine g_l2i X dX1_insureGroup_56 ?_
    obtain ⟨u57, e57, hM⟩ := bind_of hM
    refine g_iastore X e57 dX1_insureGroup_57 ?_
    refine g_iinc (d := 1) X [some (.ref (B + 136)), none, none, none, some (.int (x4 + 1))] dX1_insureGroup_58 (by decide) rfl (by decide) rfl ?_
    refine g_goto (tgt := 23) X dX1_insureGroup_61 (by decide) ?_
    refine g_mk [true, false, false, false, true] [some (.ref (B + 136)), none, none, none, some (.int (x4 + 1))] rfl ?_
    exact ih23 (x4 + 1) u57 _ hM
theorem v_X1_insureGroup_l23 {κ : gK} {B : Nat} (X : gX κ B skC cX1_insureGroup 5 RX1 none 3 75)   : ∀ (n : Nat) {x4 : Int32} {u : gM} {w : gM} (hM : X1_insureGroup_l23  n x4 u = some w), gV κ B skC 5 ((none), w) 23 [some (.ref (B + 136)), none, none, none, some (.int x4)] [] u := by
  intro n
  induction n with
  | zero => intro x4 u w hM; exact nomatch (show (none : Option gM) = some w from hM)
  | succ n ihn => intro x4 u w hM; exact v_X1_insureGroup_b23 X  (fun x4 u w h => ihn h) hM
set_option maxRecDepth 20000 in
theorem v_X1_insureGroup {κ : gK} {B : Nat} {u : gM} (X : gX κ B skC cX1_insureGroup 5 RX1 none 3 75)   {x1 : Int32} {x2 : Int32} {x3 : Int32} {w : gM} (hM : X1_insureGroup x1 x2 x3 u = some w) : gV κ B skC 5 ((none), w) 0 [some (.ref (B + 136)), some (.int x1), some (.int x2), some (.int x3), none] [] u := by
  unfold X1_insureGroup at hM
  refine g_aload_n X dX1_insureGroup_0 rfl ?_
  refine g_iload_n X dX1_insureGroup_1 rfl ?_
  refine g_iload_n X dX1_insureGroup_2 rfl ?_
  refine g_iload_n X dX1_insureGroup_3 rfl ?_
  obtain ⟨w4, e4, hM⟩ := bind_of hM
  refine g_callVv X (fun B adK => [.int x1, .int x2, .int x3]) (s_X1_gather e4) cvX1_146 cC_136 rfl rfl (Nat.le_of_ble_eq_true rfl) ⟨by decide, by decide⟩ dX1_insureGroup_4 ?_
  refine g_aload_n X dX1_insureGroup_7 rfl ?_
  refine g_getR X fX1_18 cC_136 rfl dX1_insureGroup_8 ?_
  refine g_aload_n X dX1_insureGroup_11 rfl ?_
  refine g_iload_n X dX1_insureGroup_12 rfl ?_
  refine g_iload_n X dX1_insureGroup_13 rfl ?_
  obtain ⟨w14, e14, hM⟩ := bind_of hM
  refine g_callVl X (fun B adK => [.int x1, .int x2]) (s_X1_most e14) cvX1_149 cC_136 rfl rfl (Nat.le_of_ble_eq_true rfl) ⟨by decide, by decide⟩ dX1_insureGroup_14 ?_
  obtain ⟨w17, e17, hM⟩ := bind_of hM
  refine g_callVv X (fun B adK => [.long w14.1]) (s_X4_divide e17) cvX1_153 cC_138 rfl rfl (Nat.le_of_ble_eq_true rfl) ⟨by decide, by decide⟩ dX1_insureGroup_17 ?_
  refine g_iconst X (v := 0) dX1_insureGroup_20 (by decide) ?_
  refine g_istore X [some (.ref (B + 136)), some (.int x1), some (.int x2), some (.int x3), some (.int 0)] dX1_insureGroup_21 (by decide) rfl ?_
  refine g_mk [true, false, false, false, true] [some (.ref (B + 136)), none, none, none, some (.int 0)] rfl ?_
  exact v_X1_insureGroup_l23 X  fz hM
theorem s_X1_insureGroup {x1 : Int32} {x2 : Int32} {x3 : Int32} {u : gM} {w : gM} (hM : X1_insureGroup x1 x2 x3 u = some w) : gMet skC yX1_insureGroup cX1_insureGroup 5 none 3 75 (fun B adK => [.ref (B + 136), .int x1, .int x2, .int x3]) u ((fun _ => none), w) := by
  refine gMet.of (by decide) (fun _ _ => Nat.le_of_ble_eq_true rfl) (fun κ B X => ?_)
  have X : gX κ B skC cX1_insureGroup 5 RX1 none 3 75 := X
  refine g_mk [true, true, true, true, false] [some (.ref (B + 136)), some (.int x1), some (.int x2), some (.int x3), none] rfl ?_
  exact v_X1_insureGroup X  hM
theorem fr_X1_insureGroup_b23 {S : Nat → Prop} {u0 u : gM} {x4 : Int32} (hs0 : S 137) {k23 : Int32 → gM → Option gM} (ik23 : ∀ (x4 : Int32) (u : gM) (w : gM), S 137 → off S u0 u → k23 x4 u = some w → off S u0 w) {w : gM} (hM : X1_insureGroup_b23 k23 x4 u = some w) (h0 : off S u0 u) : off S u0 w := by
  unfold X1_insureGroup_b23 at hM
  by_cases c32 : (u.1 138 0) ≤ x4
  · rw [if_pos c32] at hM
    cases hM
    exact h0
  · rw [if_neg c32] at hM
    obtain ⟨v45, e45, hM⟩ := bind_of hM
    obtain ⟨v55, e55, hM⟩ := bind_of hM
    obtain ⟨u57, e57, hM⟩ := bind_of hM
    have h0 := off_sI hs0 e57 h0
    exact ik23 _ _ _ hs0 h0 hM
theorem fr_X1_insureGroup_l23 {S : Nat → Prop} {u0 : gM}   : ∀ (n : Nat) {x4 : Int32} (hs0 : S 137) {u : gM} {w : gM} (h0 : off S u0 u) (hM : X1_insureGroup_l23  n x4 u = some w), off S u0 w := by
  intro n
  induction n with
  | zero => intro x4 hs0 u w h0 hM; exact nomatch (show (none : Option gM) = some w from hM)
  | succ n ihn => intro x4 hs0 u w h0 hM; exact fr_X1_insureGroup_b23 hs0  (fun x4 _ _ hs0 h0 h => ihn hs0 h0 h) hM h0
theorem fr_X1_insureGroup {S : Nat → Prop} {u0 u : gM} {x1 : Int32} {x2 : Int32} {x3 : Int32} (hs0 : S (rf skC 138 2)) (hs1 : S (rf skC 138 3)) (hs2 : S (rf skC 138 4)) (hs3 : S 137) (hs4 : S 138) (hs5 : S 143) (hs6 : S 144)   {w : gM} (hM : X1_insureGroup x1 x2 x3 u = some w) (h0 : off S u0 u) : off S u0 w := by
  unfold X1_insureGroup at hM
  obtain ⟨w4, e4, hM⟩ := bind_of hM
  have h0 := fr_X1_gather hs0 hs4 hs5 e4 h0
  obtain ⟨w14, e14, hM⟩ := bind_of hM
  have h0 := fr_X1_most hs6 e14 h0
  obtain ⟨w17, e17, hM⟩ := bind_of hM
  have h0 := fr_X4_divide hs1 hs2 e17 h0
  exact fr_X1_insureGroup_l23  fz hs3 h0 hM
/-! CoverDesk$Cover.insure(I)V -/
theorem dX1_insure_0 : decode cX1_insure 0 = .ok (.aload_n 0, 1) := by decide +kernel
theorem dX1_insure_1 : decode cX1_insure 1 = .ok (.iload_n 1, 1) := by decide +kernel
theorem dX1_insure_2 : decode cX1_insure 2 = .ok (.invokevirtual 129, 3) := by decide +kernel
theorem dX1_insure_5 : decode cX1_insure 5 = .ok (.aload_n 0, 1) := by decide +kernel
theorem dX1_insure_6 : decode cX1_insure 6 = .ok (.getfield 9, 3) := by decide +kernel
theorem dX1_insure_9 : decode cX1_insure 9 = .ok (.iconst (-1), 1) := by decide +kernel
theorem dX1_insure_10 : decode cX1_insure 10 = .ok (.invokestatic 133, 3) := by decide +kernel
theorem dX1_insure_13 : decode cX1_insure 13 = .ok (.iconst 0, 1) := by decide +kernel
theorem dX1_insure_14 : decode cX1_insure 14 = .ok (.istore_n 2, 1) := by decide +kernel
theorem dX1_insure_15 : decode cX1_insure 15 = .ok (.iload_n 2, 1) := by decide +kernel
theorem dX1_insure_16 : decode cX1_insure 16 = .ok (.aload_n 0, 1) := by decide +kernel
theorem dX1_insure_17 : decode cX1_insure 17 = .ok (.getfield 32, 3) := by decide +kernel
theorem dX1_insure_20 : decode cX1_insure 20 = .ok (.getfield 82, 3) := by decide +kernel
theorem dX1_insure_23 : decode cX1_insure 23 = .ok (.if_icmp .ge 76, 3) := by decide +kernel
theorem dX1_insure_26 : decode cX1_insure 26 = .ok (.iconst 0, 1) := by decide +kernel
theorem dX1_insure_27 : decode cX1_insure 27 = .ok (.istore_n 3, 1) := by decide +kernel
theorem dX1_insure_28 : decode cX1_insure 28 = .ok (.iload_n 3, 1) := by decide +kernel
theorem dX1_insure_29 : decode cX1_insure 29 = .ok (.aload_n 0, 1) := by decide +kernel
theorem dX1_insure_30 : decode cX1_insure 30 = .ok (.getfield 32, 3) := by decide +kernel
theorem dX1_insure_33 : decode cX1_insure 33 = .ok (.getfield 40, 3) := by decide +kernel
theorem dX1_insure_36 : decode cX1_insure 36 = .ok (.iload_n 2, 1) := by decide +kernel
theorem dX1_insure_37 : decode cX1_insure 37 = .ok (.iaload, 1) := by decide +kernel
theorem dX1_insure_38 : decode cX1_insure 38 = .ok (.if_icmp .ge 55, 3) := by decide +kernel
theorem dX1_insure_41 : decode cX1_insure 41 = .ok (.aload_n 0, 1) := by decide +kernel
theorem dX1_insure_42 : decode cX1_insure 42 = .ok (.getfield 9, 3) := by decide +kernel
theorem dX1_insure_45 : decode cX1_insure 45 = .ok (.iload_n 2, 1) := by decide +kernel
theorem dX1_insure_46 : decode cX1_insure 46 = .ok (.iconst 4, 1) := by decide +kernel
theorem dX1_insure_47 : decode cX1_insure 47 = .ok (.imul, 1) := by decide +kernel
theorem dX1_insure_48 : decode cX1_insure 48 = .ok (.iload_n 3, 1) := by decide +kernel
theorem dX1_insure_49 : decode cX1_insure 49 = .ok (.iadd, 1) := by decide +kernel
theorem dX1_insure_50 : decode cX1_insure 50 = .ok (.iaload, 1) := by decide +kernel
theorem dX1_insure_51 : decode cX1_insure 51 = .ok (.iconst (-1), 1) := by decide +kernel
theorem dX1_insure_52 : decode cX1_insure 52 = .ok (.if_icmp .ne 35, 3) := by decide +kernel
theorem dX1_insure_55 : decode cX1_insure 55 = .ok (.aload_n 0, 1) := by decide +kernel
theorem dX1_insure_56 : decode cX1_insure 56 = .ok (.aload_n 0, 1) := by decide +kernel
theorem dX1_insure_57 : decode cX1_insure 57 = .ok (.getfield 32, 3) := by decide +kernel
theorem dX1_insure_60 : decode cX1_insure 60 = .ok (.getfield 139, 3) := by decide +kernel
theorem dX1_insure_63 : decode cX1_insure 63 = .ok (.iload_n 2, 1) := by decide +kernel
theorem dX1_insure_64 : decode cX1_insure 64 = .ok (.iconst 4, 1) := by decide +kernel
theorem dX1_insure_65 : decode cX1_insure 65 = .ok (.imul, 1) := by decide +kernel
theorem dX1_insure_66 : decode cX1_insure 66 = .ok (.iload_n 3, 1) := by decide +kernel
theorem dX1_insure_67 : decode cX1_insure 67 = .ok (.iadd, 1) := by decide +kernel
theorem dX1_insure_68 : decode cX1_insure 68 = .ok (.iaload, 1) := by decide +kernel
theorem dX1_insure_69 : decode cX1_insure 69 = .ok (.aload_n 0, 1) := by decide +kernel
theorem dX1_insure_70 : decode cX1_insure 70 = .ok (.getfield 32, 3) := by decide +kernel
theorem dX1_insure_73 : decode cX1_insure 73 = .ok (.getfield 91, 3) := by decide +kernel
theorem dX1_insure_76 : decode cX1_insure 76 = .ok (.iload_n 2, 1) := by decide +kernel
theorem dX1_insure_77 : decode cX1_insure 77 = .ok (.iaload, 1) := by decide +kernel
theorem dX1_insure_78 : decode cX1_insure 78 = .ok (.aload_n 0, 1) := by decide +kernel
theorem dX1_insure_79 : decode cX1_insure 79 = .ok (.getfield 22, 3) := by decide +kernel
theorem dX1_insure_82 : decode cX1_insure 82 = .ok (.iload_n 2, 1) := by decide +kernel
theorem dX1_insure_83 : decode cX1_insure 83 = .ok (.iaload, 1) := by decide +kernel
theorem dX1_insure_84 : decode cX1_insure 84 = .ok (.invokevirtual 142, 3) := by decide +kernel
theorem dX1_insure_87 : decode cX1_insure 87 = .ok (.iinc 3 1, 3) := by decide +kernel
theorem dX1_insure_90 : decode cX1_insure 90 = .ok (.goto (-62), 3) := by decide +kernel
theorem dX1_insure_93 : decode cX1_insure 93 = .ok (.iinc 2 1, 3) := by decide +kernel
theorem dX1_insure_96 : decode cX1_insure 96 = .ok (.goto (-81), 3) := by decide +kernel
theorem dX1_insure_99 : decode cX1_insure 99 = .ok (.return_, 1) := by decide +kernel
def X1_insure_b87 (k15 : Int32 → gM → Option gM) (k28 : Int32 → Int32 → gM → Option gM) (x2 : Int32) (x3 : Int32) (u : gM) : Option gM :=
(k28 x2 (x3 + 1) u)
def X1_insure_b28 (k15 : Int32 → gM → Option gM) (k28 : Int32 → Int32 → gM → Option gM) (x2 : Int32) (x3 : Int32) (u : gM) : Option gM :=
((aI skC u 11 x2).bind fun v37 => (if v37 ≤ x3 then (k15 (x2 + 1) u)
  else ((aI skC u 137 ((x2 * 4) + x3)).bind fun v50 => (if v50 = (-1) then ((aI skC u 13 ((x2 * 4) + x3)).bind fun v68 => ((aI skC u 7 x2).bind fun v77 => ((aI skC u 142 x2).bind fun v83 => ((X1_insureGroup v68 v77 v83 u).bind fun w84 => (X1_insure_b87 k15 k28 x2 x3 w84)))))
    else (X1_insure_b87 k15 k28 x2 x3 u)))))
def X1_insure_l28 (k15 : Int32 → gM → Option gM) : Nat → Int32 → Int32 → gM → Option gM
  | 0, _, _, _ => none
  | n + 1, x2, x3, u => X1_insure_b28 k15 (X1_insure_l28 k15 n) x2 x3 u
def X1_insure_b15 (k15 : Int32 → gM → Option gM) (x2 : Int32) (u : gM) : Option gM :=
(if (u.1 3 2) ≤ x2 then some u
  else (X1_insure_l28 k15 fz x2 0 u))
def X1_insure_l15  : Nat → Int32 → gM → Option gM
  | 0, _, _ => none
  | n + 1, x2, u => X1_insure_b15  (X1_insure_l15  n) x2 u
def X1_insure  (x1 : Int32) (u : gM) : Option gM :=
((X1_setMonth x1 u).bind fun w2 => ((J7_fill_53178 137 (-1) w2).bind fun w10 => (X1_insure_l15 fz 0 w10)))
set_option maxRecDepth 20000 in
theorem v_X1_insure_b87 {κ : gK} {B : Nat} {u : gM} (X : gX κ B skC cX1_insure 4 RX1 none 4 99) {k15 : Int32 → gM → Option gM} {k28 : Int32 → Int32 → gM → Option gM} (ih15 : ∀ (x2 : Int32) (u : gM) (w : gM), k15 x2 u = some w → gV κ B skC 4 ((none), w) 15 [some (.ref (B + 136)), none, some (.int x2), none] [] u) (ih28 : ∀ (x2 : Int32) (x3 : Int32) (u : gM) (w : gM), k28 x2 x3 u = some w → gV κ B skC 4 ((none), w) 28 [some (.ref (B + 136)), none, some (.int x2), some (.int x3)] [] u) {x2 : Int32} {x3 : Int32} {w : gM} (hM : X1_insure_b87 k15 k28 x2 x3 u = some w) : gV κ B skC 4 ((none), w) 87 [some (.ref (B + 136)), none, some (.int x2), some (.int x3)] [] u := by
  unfold X1_insure_b87 at hM
  refine g_iinc (d := 1) X [some (.ref (B + 136)), none, some (.int x2), some (.int (x3 + 1))] dX1_insure_87 (by decide) rfl (by decide) rfl ?_
  refine g_goto (tgt := 28) X dX1_insure_90 (by decide) ?_
  refine g_mk [true, false, true, true] [some (.ref (B + 136)), none, some (.int x2), some (.int (x3 + 1))] rfl ?_
  exact ih28 x2 (x3 + 1) u _ hM
set_option maxRecDepth 20000 in
theorem v_X1_insure_b28 {κ : gK} {B : Nat} {u : gM} (X : gX κ B skC cX1_insure 4 RX1 none 4 99) {k15 : Int32 → gM → Option gM} {k28 : Int32 → Int32 → gM → Option gM} (ih15 : ∀ (x2 : Int32) (u : gM) (w : gM), k15 x2 u = some w → gV κ B skC 4 ((none), w) 15 [some (.ref (B + 136)), none, some (.int x2), none] [] u) (ih28 : ∀ (x2 : Int32) (x3 : Int32) (u : gM) (w : gM), k28 x2 x3 u = some w → gV κ B skC 4 ((none), w) 28 [some (.ref (B + 136)), none, some (.int x2), some (.int x3)] [] u) {x2 : Int32} {x3 : Int32} {w : gM} (hM : X1_insure_b28 k15 k28 x2 x3 u = some w) : gV κ B skC 4 ((none), w) 28 [some (.ref (B + 136)), none, some (.int x2), some (.int x3)] [] u := by
  unfold X1_insure_b28 at hM
  refine g_iload_n X dX1_insure_28 rfl ?_
  refine g_aload_n X dX1_insure_29 rfl ?_
  refine g_getR X fX1_32 cC_136 rfl dX1_insure_30 ?_
  refine g_getR X fX1_40 cC_3 rfl dX1_insure_33 ?_
  refine g_iload_n X dX1_insure_36 rfl ?_
  obtain ⟨v37, e37, hM⟩ := bind_of hM
  refine g_iaload X e37 dX1_insure_37 ?_
  refine g_icmp_ge (tgt := 93) X dX1_insure_38 (by decide) (fun c38 => ?_) (fun c38 => ?_)
  · rw [if_pos c38] at hM
    refine g_iinc (d := 1) X [some (.ref (B + 136)), none, some (.int (x2 + 1)), some (.int x3)] dX1_insure_93 (by decide) rfl (by decide) rfl ?_
    refine g_goto (tgt := 15) X dX1_insure_96 (by decide) ?_
    refine g_mk [true, false, true, false] [some (.ref (B + 136)), none, some (.int (x2 + 1)), none] rfl ?_
    exact ih15 (x2 + 1) u _ hM
  · rw [if_neg c38] at hM
    refine g_aload_n X dX1_insure_41 rfl ?_
    refine g_getR X fX1_9 cC_136 rfl dX1_insure_42 ?_
    refine g_iload_n X dX1_insure_45 rfl ?_
    refine g_iconst X (v := 4) dX1_insure_46 (by decide) ?_
    refine g_imul X dX1_insure_47 ?_
    refine g_iload_n X dX1_insure_48 rfl ?_
    refine g_iadd X dX1_insure_49 ?_
    obtain ⟨v50, e50, hM⟩ := bind_of hM
    refine g_iaload X e50 dX1_insure_50 ?_
    refine g_iconst X (v := (-1)) dX1_insure_51 (by decide) ?_
    refine g_icmp_ne (tgt := 87) X dX1_insure_52 (by decide) (fun c52 => ?_) (fun c52 => ?_)
    · rw [if_neg c52] at hM
      refine g_mk [true, false, true, true] [some (.ref (B + 136)), none, some (.int x2), some (.int x3)] rfl ?_
      exact v_X1_insure_b87 X ih15 ih28 hM
    · rw [if_pos c52] at hM
      refine g_aload_n X dX1_insure_55 rfl ?_
      refine g_aload_n X dX1_insure_56 rfl ?_
      refine g_getR X fX1_32 cC_136 rfl dX1_insure_57 ?_
      refine g_getR X fX1_139 cC_3 rfl dX1_insure_60 ?_
      refine g_iload_n X dX1_insure_63 rfl ?_
      refine g_iconst X (v := 4) dX1_insure_64 (by decide) ?_
      refine g_imul X dX1_insure_65 ?_
      refine g_iload_n X dX1_insure_66 rfl ?_
      refine g_iadd X dX1_insure_67 ?_
      obtain ⟨v68, e68, hM⟩ := bind_of hM
      refine g_iaload X e68 dX1_insure_68 ?_
      refine g_aload_n X dX1_insure_69 rfl ?_
      refine g_getR X fX1_32 cC_136 rfl dX1_insure_70 ?_
      refine g_getR X fX1_91 cC_3 rfl dX1_insure_73 ?_
      refine g_iload_n X dX1_insure_76 rfl ?_
      obtain ⟨v77, e77, hM⟩ := bind_of hM
      refine g_iaload X e77 dX1_insure_77 ?_
      refine g_aload_n X dX1_insure_78 rfl ?_
      refine g_getR X fX1_22 cC_136 rfl dX1_insure_79 ?_
      refine g_iload_n X dX1_insure_82 rfl ?_
      obtain ⟨v83, e83, hM⟩ := bind_of hM
      refine g_iaload X e83 dX1_insure_83 ?_
      obtain ⟨w84, e84, hM⟩ := bind_of hM
      refine g_callVv X (fun B adK => [.int v68, .int v77, .int v83]) (s_X1_insureGroup e84) cvX1_142 cC_136 rfl rfl (Nat.le_of_ble_eq_true rfl) ⟨by decide, by decide⟩ dX1_insure_84 ?_
      refine g_mk [true, false, true, true] [some (.ref (B + 136)), none, some (.int x2), some (.int x3)] rfl ?_
      exact v_X1_insure_b87 X ih15 ih28 hM
theorem v_X1_insure_l28 {κ : gK} {B : Nat} (X : gX κ B skC cX1_insure 4 RX1 none 4 99) {k15 : Int32 → gM → Option gM} (ih15 : ∀ (x2 : Int32) (u : gM) (w : gM), k15 x2 u = some w → gV κ B skC 4 ((none), w) 15 [some (.ref (B + 136)), none, some (.int x2), none] [] u) : ∀ (n : Nat) {x2 : Int32} {x3 : Int32} {u : gM} {w : gM} (hM : X1_insure_l28 k15 n x2 x3 u = some w), gV κ B skC 4 ((none), w) 28 [some (.ref (B + 136)), none, some (.int x2), some (.int x3)] [] u := by
  intro n
  induction n with
  | zero => intro x2 x3 u w hM; exact nomatch (show (none : Option gM) = some w from hM)
  | succ n ihn => intro x2 x3 u w hM; exact v_X1_insure_b28 X ih15 (fun x2 x3 u w h => ihn h) hM
set_option maxRecDepth 20000 in
theorem v_X1_insure_b15 {κ : gK} {B : Nat} {u : gM} (X : gX κ B skC cX1_insure 4 RX1 none 4 99) {k15 : Int32 → gM → Option gM} (ih15 : ∀ (x2 : Int32) (u : gM) (w : gM), k15 x2 u = some w → gV κ B skC 4 ((none), w) 15 [some (.ref (B + 136)), none, some (.int x2), none] [] u) {x2 : Int32} {w : gM} (hM : X1_insure_b15 k15 x2 u = some w) : gV κ B skC 4 ((none), w) 15 [some (.ref (B + 136)), none, some (.int x2), none] [] u := by
  unfold X1_insure_b15 at hM
  refine g_iload_n X dX1_insure_15 rfl ?_
  refine g_aload_n X dX1_insure_16 rfl ?_
  refine g_getR X fX1_32 cC_136 rfl dX1_insure_17 ?_
  refine g_getI X fX1_82 cC_3 rfl dX1_insure_20 ?_
  refine g_icmp_ge (tgt := 99) X dX1_insure_23 (by decide) (fun c23 => ?_) (fun c23 => ?_)
  · rw [if_pos c23] at hM
    cases hM
    exact g_vret X dX1_insure_99
  · rw [if_neg c23] at hM
    refine g_iconst X (v := 0) dX1_insure_26 (by decide) ?_
    refine g_istore_n X [some (.ref (B + 136)), none, some (.int x2), some (.int 0)] dX1_insure_27 (by decide) rfl ?_
    refine g_mk [true, false, true, true] [some (.ref (B + 136)), none, some (.int x2), some (.int 0)] rfl ?_
    exact v_X1_insure_l28 X ih15 fz hM
theorem v_X1_insure_l15 {κ : gK} {B : Nat} (X : gX κ B skC cX1_insure 4 RX1 none 4 99)   : ∀ (n : Nat) {x2 : Int32} {u : gM} {w : gM} (hM : X1_insure_l15  n x2 u = some w), gV κ B skC 4 ((none), w) 15 [some (.ref (B + 136)), none, some (.int x2), none] [] u := by
  intro n
  induction n with
  | zero => intro x2 u w hM; exact nomatch (show (none : Option gM) = some w from hM)
  | succ n ihn => intro x2 u w hM; exact v_X1_insure_b15 X  (fun x2 u w h => ihn h) hM
set_option maxRecDepth 20000 in
theorem v_X1_insure {κ : gK} {B : Nat} {u : gM} (X : gX κ B skC cX1_insure 4 RX1 none 4 99)   {x1 : Int32} {w : gM} (hM : X1_insure x1 u = some w) : gV κ B skC 4 ((none), w) 0 [some (.ref (B + 136)), some (.int x1), none, none] [] u := by
  unfold X1_insure at hM
  refine g_aload_n X dX1_insure_0 rfl ?_
  refine g_iload_n X dX1_insure_1 rfl ?_
  obtain ⟨w2, e2, hM⟩ := bind_of hM
  refine g_callVv X (fun B adK => [.int x1]) (s_X1_setMonth e2) cvX1_129 cC_136 rfl rfl (Nat.le_of_ble_eq_true rfl) ⟨by decide, by decide⟩ dX1_insure_2 ?_
  refine g_aload_n X dX1_insure_5 rfl ?_
  refine g_getR X fX1_9 cC_136 rfl dX1_insure_6 ?_
  refine g_iconst X (v := (-1)) dX1_insure_9 (by decide) ?_
  obtain ⟨w10, e10, hM⟩ := bind_of hM
  refine g_callSv X (fun B adK => [.ref (B + 137), .int (-1)]) (s_J7_fill_53178 e10) cvX1_133 rfl rfl (Nat.le_of_ble_eq_true rfl) ⟨by decide, by decide⟩ dX1_insure_10 ?_
  refine g_iconst X (v := 0) dX1_insure_13 (by decide) ?_
  refine g_istore_n X [some (.ref (B + 136)), some (.int x1), some (.int 0), none] dX1_insure_14 (by decide) rfl ?_
  refine g_mk [true, false, true, false] [some (.ref (B + 136)), none, some (.int 0), none] rfl ?_
  exact v_X1_insure_l15 X  fz hM
theorem s_X1_insure {x1 : Int32} {u : gM} {w : gM} (hM : X1_insure x1 u = some w) : gMet skC yX1_insure cX1_insure 4 none 4 99 (fun B adK => [.ref (B + 136), .int x1]) u ((fun _ => none), w) := by
  refine gMet.of (by decide) (fun _ _ => Nat.le_of_ble_eq_true rfl) (fun κ B X => ?_)
  have X : gX κ B skC cX1_insure 4 RX1 none 4 99 := X
  refine g_mk [true, true, false, false] [some (.ref (B + 136)), some (.int x1), none, none] rfl ?_
  exact v_X1_insure X  hM
theorem fr_X1_insure_b87 {S : Nat → Prop} {u0 u : gM} {x2 : Int32} {x3 : Int32} (hs0 : S (rf skC 138 2)) (hs1 : S (rf skC 138 3)) (hs2 : S (rf skC 138 4)) (hs3 : S 137) (hs4 : S 138) (hs5 : S 143) (hs6 : S 144) {k15 : Int32 → gM → Option gM} {k28 : Int32 → Int32 → gM → Option gM} (ik15 : ∀ (x2 : Int32) (u : gM) (w : gM), S (rf skC 138 2) → S (rf skC 138 3) → S (rf skC 138 4) → S 137 → S 138 → S 143 → S 144 → off S u0 u → k15 x2 u = some w → off S u0 w) (ik28 : ∀ (x2 : Int32) (x3 : Int32) (u : gM) (w : gM), S (rf skC 138 2) → S (rf skC 138 3) → S (rf skC 138 4) → S 137 → S 138 → S 143 → S 144 → off S u0 u → k28 x2 x3 u = some w → off S u0 w) {w : gM} (hM : X1_insure_b87 k15 k28 x2 x3 u = some w) (h0 : off S u0 u) : off S u0 w := by
  unfold X1_insure_b87 at hM
  exact ik28 _ _ _ _ hs0 hs1 hs2 hs3 hs4 hs5 hs6 h0 hM
theorem fr_X1_insure_b28 {S : Nat → Prop} {u0 u : gM} {x2 : Int32} {x3 : Int32} (hs0 : S (rf skC 138 2)) (hs1 : S (rf skC 138 3)) (hs2 : S (rf skC 138 4)) (hs3 : S 137) (hs4 : S 138) (hs5 : S 143) (hs6 : S 144) {k15 : Int32 → gM → Option gM} {k28 : Int32 → Int32 → gM → Option gM} (ik15 : ∀ (x2 : Int32) (u : gM) (w : gM), S (rf skC 138 2) → S (rf skC 138 3) → S (rf skC 138 4) → S 137 → S 138 → S 143 → S 144 → off S u0 u → k15 x2 u = some w → off S u0 w) (ik28 : ∀ (x2 : Int32) (x3 : Int32) (u : gM) (w : gM), S (rf skC 138 2) → S (rf skC 138 3) → S (rf skC 138 4) → S 137 → S 138 → S 143 → S 144 → off S u0 u → k28 x2 x3 u = some w → off S u0 w) {w : gM} (hM : X1_insure_b28 k15 k28 x2 x3 u = some w) (h0 : off S u0 u) : off S u0 w := by
  unfold X1_insure_b28 at hM
  obtain ⟨v37, e37, hM⟩ := bind_of hM
  by_cases c38 : v37 ≤ x3
  · rw [if_pos c38] at hM
    exact ik15 _ _ _ hs0 hs1 hs2 hs3 hs4 hs5 hs6 h0 hM
  · rw [if_neg c38] at hM
    obtain ⟨v50, e50, hM⟩ := bind_of hM
    by_cases c52 : v50 = (-1)
    · rw [if_pos c52] at hM
      obtain ⟨v68, e68, hM⟩ := bind_of hM
      obtain ⟨v77, e77, hM⟩ := bind_of hM
      obtain ⟨v83, e83, hM⟩ := bind_of hM
      obtain ⟨w84, e84, hM⟩ := bind_of hM
      have h0 := fr_X1_insureGroup hs0 hs1 hs2 hs3 hs4 hs5 hs6 e84 h0
      exact fr_X1_insure_b87 hs0 hs1 hs2 hs3 hs4 hs5 hs6 ik15 ik28 hM h0
    · rw [if_neg c52] at hM
      exact fr_X1_insure_b87 hs0 hs1 hs2 hs3 hs4 hs5 hs6 ik15 ik28 hM h0
theorem fr_X1_insure_l28 {S : Nat → Prop} {u0 : gM} {k15 : Int32 → gM → Option gM} (ik15 : ∀ (x2 : Int32) (u : gM) (w : gM), S (rf skC 138 2) → S (rf skC 138 3) → S (rf skC 138 4) → S 137 → S 138 → S 143 → S 144 → off S u0 u → k15 x2 u = some w → off S u0 w) : ∀ (n : Nat) {x2 : Int32} {x3 : Int32} (hs0 : S (rf skC 138 2)) (hs1 : S (rf skC 138 3)) (hs2 : S (rf skC 138 4)) (hs3 : S 137) (hs4 : S 138) (hs5 : S 143) (hs6 : S 144) {u : gM} {w : gM} (h0 : off S u0 u) (hM : X1_insure_l28 k15 n x2 x3 u = some w), off S u0 w := by
  intro n
  induction n with
  | zero => intro x2 x3 hs0 hs1 hs2 hs3 hs4 hs5 hs6 u w h0 hM; exact nomatch (show (none : Option gM) = some w from hM)
  | succ n ihn => intro x2 x3 hs0 hs1 hs2 hs3 hs4 hs5 hs6 u w h0 hM; exact fr_X1_insure_b28 hs0 hs1 hs2 hs3 hs4 hs5 hs6 ik15 (fun x2 x3 _ _ hs0 hs1 hs2 hs3 hs4 hs5 hs6 h0 h => ihn hs0 hs1 hs2 hs3 hs4 hs5 hs6 h0 h) hM h0
theorem fr_X1_insure_b15 {S : Nat → Prop} {u0 u : gM} {x2 : Int32} (hs0 : S (rf skC 138 2)) (hs1 : S (rf skC 138 3)) (hs2 : S (rf skC 138 4)) (hs3 : S 137) (hs4 : S 138) (hs5 : S 143) (hs6 : S 144) {k15 : Int32 → gM → Option gM} (ik15 : ∀ (x2 : Int32) (u : gM) (w : gM), S (rf skC 138 2) → S (rf skC 138 3) → S (rf skC 138 4) → S 137 → S 138 → S 143 → S 144 → off S u0 u → k15 x2 u = some w → off S u0 w) {w : gM} (hM : X1_insure_b15 k15 x2 u = some w) (h0 : off S u0 u) : off S u0 w := by
  unfold X1_insure_b15 at hM
  by_cases c23 : (u.1 3 2) ≤ x2
  · rw [if_pos c23] at hM
    cases hM
    exact h0
  · rw [if_neg c23] at hM
    exact fr_X1_insure_l28 ik15 fz hs0 hs1 hs2 hs3 hs4 hs5 hs6 h0 hM
theorem fr_X1_insure_l15 {S : Nat → Prop} {u0 : gM}   : ∀ (n : Nat) {x2 : Int32} (hs0 : S (rf skC 138 2)) (hs1 : S (rf skC 138 3)) (hs2 : S (rf skC 138 4)) (hs3 : S 137) (hs4 : S 138) (hs5 : S 143) (hs6 : S 144) {u : gM} {w : gM} (h0 : off S u0 u) (hM : X1_insure_l15  n x2 u = some w), off S u0 w := by
  intro n
  induction n with
  | zero => intro x2 hs0 hs1 hs2 hs3 hs4 hs5 hs6 u w h0 hM; exact nomatch (show (none : Option gM) = some w from hM)
  | succ n ihn => intro x2 hs0 hs1 hs2 hs3 hs4 hs5 hs6 u w h0 hM; exact fr_X1_insure_b15 hs0 hs1 hs2 hs3 hs4 hs5 hs6  (fun x2 _ _ hs0 hs1 hs2 hs3 hs4 hs5 hs6 h0 h => ihn hs0 hs1 hs2 hs3 hs4 hs5 hs6 h0 h) hM h0
theorem fr_X1_insure {S : Nat → Prop} {u0 u : gM} {x1 : Int32} (hs0 : S (rf skC 138 2)) (hs1 : S (rf skC 138 3)) (hs2 : S (rf skC 138 4)) (hs3 : S 137) (hs4 : S 138) (hs5 : S 142) (hs6 : S 143) (hs7 : S 144)   {w : gM} (hM : X1_insure x1 u = some w) (h0 : off S u0 u) : off S u0 w := by
  unfold X1_insure at hM
  obtain ⟨w2, e2, hM⟩ := bind_of hM
  have h0 := fr_X1_setMonth hs5 e2 h0
  obtain ⟨w10, e10, hM⟩ := bind_of hM
  have h0 := fr_J7_fill_53178 hs3 e10 h0
  exact fr_X1_insure_l15  fz hs0 hs1 hs2 hs3 hs4 hs6 hs7 h0 hM
/-! CoverDesk$Cover.insuredOfAccount(I)I -/
theorem dX1_insuredOfAccount_0 : decode cX1_insuredOfAccount 0 = .ok (.iconst 0, 1) := by decide +kernel
theorem dX1_insuredOfAccount_1 : decode cX1_insuredOfAccount 1 = .ok (.istore_n 2, 1) := by decide +kernel
theorem dX1_insuredOfAccount_2 : decode cX1_insuredOfAccount 2 = .ok (.iconst 0, 1) := by decide +kernel
theorem dX1_insuredOfAccount_3 : decode cX1_insuredOfAccount 3 = .ok (.istore_n 3, 1) := by decide +kernel
theorem dX1_insuredOfAccount_4 : decode cX1_insuredOfAccount 4 = .ok (.iload_n 3, 1) := by decide +kernel
theorem dX1_insuredOfAccount_5 : decode cX1_insuredOfAccount 5 = .ok (.aload_n 0, 1) := by decide +kernel
theorem dX1_insuredOfAccount_6 : decode cX1_insuredOfAccount 6 = .ok (.getfield 32, 3) := by decide +kernel
theorem dX1_insuredOfAccount_9 : decode cX1_insuredOfAccount 9 = .ok (.getfield 40, 3) := by decide +kernel
theorem dX1_insuredOfAccount_12 : decode cX1_insuredOfAccount 12 = .ok (.iload_n 1, 1) := by decide +kernel
theorem dX1_insuredOfAccount_13 : decode cX1_insuredOfAccount 13 = .ok (.iaload, 1) := by decide +kernel
theorem dX1_insuredOfAccount_14 : decode cX1_insuredOfAccount 14 = .ok (.if_icmp .ge 22, 3) := by decide +kernel
theorem dX1_insuredOfAccount_17 : decode cX1_insuredOfAccount 17 = .ok (.iload_n 2, 1) := by decide +kernel
theorem dX1_insuredOfAccount_18 : decode cX1_insuredOfAccount 18 = .ok (.aload_n 0, 1) := by decide +kernel
theorem dX1_insuredOfAccount_19 : decode cX1_insuredOfAccount 19 = .ok (.getfield 9, 3) := by decide +kernel
theorem dX1_insuredOfAccount_22 : decode cX1_insuredOfAccount 22 = .ok (.iload_n 1, 1) := by decide +kernel
theorem dX1_insuredOfAccount_23 : decode cX1_insuredOfAccount 23 = .ok (.iconst 4, 1) := by decide +kernel
theorem dX1_insuredOfAccount_24 : decode cX1_insuredOfAccount 24 = .ok (.imul, 1) := by decide +kernel
theorem dX1_insuredOfAccount_25 : decode cX1_insuredOfAccount 25 = .ok (.iload_n 3, 1) := by decide +kernel
theorem dX1_insuredOfAccount_26 : decode cX1_insuredOfAccount 26 = .ok (.iadd, 1) := by decide +kernel
theorem dX1_insuredOfAccount_27 : decode cX1_insuredOfAccount 27 = .ok (.iaload, 1) := by decide +kernel
theorem dX1_insuredOfAccount_28 : decode cX1_insuredOfAccount 28 = .ok (.iadd, 1) := by decide +kernel
theorem dX1_insuredOfAccount_29 : decode cX1_insuredOfAccount 29 = .ok (.istore_n 2, 1) := by decide +kernel
theorem dX1_insuredOfAccount_30 : decode cX1_insuredOfAccount 30 = .ok (.iinc 3 1, 3) := by decide +kernel
theorem dX1_insuredOfAccount_33 : decode cX1_insuredOfAccount 33 = .ok (.goto (-29), 3) := by decide +kernel
theorem dX1_insuredOfAccount_36 : decode cX1_insuredOfAccount 36 = .ok (.iload_n 2, 1) := by decide +kernel
theorem dX1_insuredOfAccount_37 : decode cX1_insuredOfAccount 37 = .ok (.ireturn, 1) := by decide +kernel
def X1_insuredOfAccount_b4 (u : gM) (k4 : Int32 → Int32 → Int32 → Option Int32) (x1 : Int32) (x2 : Int32) (x3 : Int32) : Option Int32 :=
((aI skC u 11 x1).bind fun v13 => (if v13 ≤ x3 then some x2
  else ((aI skC u 137 ((x1 * 4) + x3)).bind fun v27 => (k4 x1 (x2 + v27) (x3 + 1)))))
def X1_insuredOfAccount_l4 (u : gM)  : Nat → Int32 → Int32 → Int32 → Option Int32
  | 0, _, _, _ => none
  | n + 1, x1, x2, x3 => X1_insuredOfAccount_b4 u  (X1_insuredOfAccount_l4 u  n) x1 x2 x3
def X1_insuredOfAccount (u : gM)  (x1 : Int32) : Option Int32 :=
(X1_insuredOfAccount_l4 u fz x1 0 0)
set_option maxRecDepth 20000 in
theorem v_X1_insuredOfAccount_b4 {κ : gK} {B : Nat} {u : gM} (X : gX κ B skC cX1_insuredOfAccount 4 RX1 (some .int) 0 0) {k4 : Int32 → Int32 → Int32 → Option Int32} (ih4 : ∀ (x1 : Int32) (x2 : Int32) (x3 : Int32) (w : Int32), k4 x1 x2 x3 = some w → gV κ B skC 4 ((some (.int w)), u) 4 [some (.ref (B + 136)), some (.int x1), some (.int x2), some (.int x3)] [] u) {x1 : Int32} {x2 : Int32} {x3 : Int32} {w : Int32} (hM : X1_insuredOfAccount_b4 u k4 x1 x2 x3 = some w) : gV κ B skC 4 ((some (.int w)), u) 4 [some (.ref (B + 136)), some (.int x1), some (.int x2), some (.int x3)] [] u := by
  unfold X1_insuredOfAccount_b4 at hM
  refine g_iload_n X dX1_insuredOfAccount_4 rfl ?_
  refine g_aload_n X dX1_insuredOfAccount_5 rfl ?_
  refine g_getR X fX1_32 cC_136 rfl dX1_insuredOfAccount_6 ?_
  refine g_getR X fX1_40 cC_3 rfl dX1_insuredOfAccount_9 ?_
  refine g_iload_n X dX1_insuredOfAccount_12 rfl ?_
  obtain ⟨v13, e13, hM⟩ := bind_of hM
  refine g_iaload X e13 dX1_insuredOfAccount_13 ?_
  refine g_icmp_ge (tgt := 36) X dX1_insuredOfAccount_14 (by decide) (fun c14 => ?_) (fun c14 => ?_)
  · rw [if_pos c14] at hM
    refine g_iload_n X dX1_insuredOfAccount_36 rfl ?_
    cases hM
    exact g_iret X dX1_insuredOfAccount_37
  · rw [if_neg c14] at hM
    refine g_iload_n X dX1_insuredOfAccount_17 rfl ?_
    refine g_aload_n X dX1_insuredOfAccount_18 rfl ?_
    refine g_getR X fX1_9 cC_136 rfl dX1_insuredOfAccount_19 ?_
    refine g_iload_n X dX1_insuredOfAccount_22 rfl ?_
    refine g_iconst X (v := 4) dX1_insuredOfAccount_23 (by decide) ?_
    refine g_imul X dX1_insuredOfAccount_24 ?_
    refine g_iload_n X dX1_insuredOfAccount_25 rfl ?_
    refine g_iadd X dX1_insuredOfAccount_26 ?_
    obtain ⟨v27, e27, hM⟩ := bind_of hM
    refine g_iaload X e27 dX1_insuredOfAccount_27 ?_
    refine g_iadd X dX1_insuredOfAccount_28 ?_
    refine g_istore_n X [some (.ref (B + 136)), some (.int x1), some (.int (x2 + v27)), some (.int x3)] dX1_insuredOfAccount_29 (by decide) rfl ?_
    refine g_iinc (d := 1) X [some (.ref (B + 136)), some (.int x1), some (.int (x2 + v27)), some (.int (x3 + 1))] dX1_insuredOfAccount_30 (by decide) rfl (by decide) rfl ?_
    refine g_goto (tgt := 4) X dX1_insuredOfAccount_33 (by decide) ?_
    refine g_mk [true, true, true, true] [some (.ref (B + 136)), some (.int x1), some (.int (x2 + v27)), some (.int (x3 + 1))] rfl ?_
    exact ih4 x1 (x2 + v27) (x3 + 1) _ hM
theorem v_X1_insuredOfAccount_l4 {κ : gK} {B : Nat} {u : gM} (X : gX κ B skC cX1_insuredOfAccount 4 RX1 (some .int) 0 0)   : ∀ (n : Nat) {x1 : Int32} {x2 : Int32} {x3 : Int32} {w : Int32} (hM : X1_insuredOfAccount_l4 u  n x1 x2 x3 = some w), gV κ B skC 4 ((some (.int w)), u) 4 [some (.ref (B + 136)), some (.int x1), some (.int x2), some (.int x3)] [] u := by
  intro n
  induction n with
  | zero => intro x1 x2 x3 w hM; exact nomatch (show (none : Option Int32) = some w from hM)
  | succ n ihn => intro x1 x2 x3 w hM; exact v_X1_insuredOfAccount_b4 X  (fun x1 x2 x3 w h => ihn h) hM
set_option maxRecDepth 20000 in
theorem v_X1_insuredOfAccount {κ : gK} {B : Nat} {u : gM} (X : gX κ B skC cX1_insuredOfAccount 4 RX1 (some .int) 0 0)   {x1 : Int32} {w : Int32} (hM : X1_insuredOfAccount u x1 = some w) : gV κ B skC 4 ((some (.int w)), u) 0 [some (.ref (B + 136)), some (.int x1), none, none] [] u := by
  unfold X1_insuredOfAccount at hM
  refine g_iconst X (v := 0) dX1_insuredOfAccount_0 (by decide) ?_
  refine g_istore_n X [some (.ref (B + 136)), some (.int x1), some (.int 0), none] dX1_insuredOfAccount_1 (by decide) rfl ?_
  refine g_iconst X (v := 0) dX1_insuredOfAccount_2 (by decide) ?_
  refine g_istore_n X [some (.ref (B + 136)), some (.int x1), some (.int 0), some (.int 0)] dX1_insuredOfAccount_3 (by decide) rfl ?_
  refine g_mk [true, true, true, true] [some (.ref (B + 136)), some (.int x1), some (.int 0), some (.int 0)] rfl ?_
  exact v_X1_insuredOfAccount_l4 X  fz hM
theorem s_X1_insuredOfAccount {x1 : Int32} {u : gM} {w : Int32} (hM : X1_insuredOfAccount u x1 = some w) : gMet skC yX1_insuredOfAccount cX1_insuredOfAccount 4 (some .int) 0 0 (fun B adK => [.ref (B + 136), .int x1]) u ((fun _ => some (.int w)), u) := by
  refine gMet.of (by decide) (fun _ _ => Nat.le_of_ble_eq_true rfl) (fun κ B X => ?_)
  have X : gX κ B skC cX1_insuredOfAccount 4 RX1 (some .int) 0 0 := X
  refine g_mk [true, true, false, false] [some (.ref (B + 136)), some (.int x1), none, none] rfl ?_
  exact v_X1_insuredOfAccount X  hM

/-! CoverDesk$Cover.leaves(II)I -/
theorem dX1_leaves_0 : decode cX1_leaves 0 = .ok (.aload_n 0, 1) := by decide +kernel
theorem dX1_leaves_1 : decode cX1_leaves 1 = .ok (.iload_n 1, 1) := by decide +kernel
theorem dX1_leaves_2 : decode cX1_leaves 2 = .ok (.iload_n 2, 1) := by decide +kernel
theorem dX1_leaves_3 : decode cX1_leaves 3 = .ok (.invokevirtual 79, 3) := by decide +kernel
theorem dX1_leaves_6 : decode cX1_leaves 6 = .ok (.istore_n 3, 1) := by decide +kernel
theorem dX1_leaves_7 : decode cX1_leaves 7 = .ok (.aload_n 0, 1) := by decide +kernel
theorem dX1_leaves_8 : decode cX1_leaves 8 = .ok (.getfield 36, 3) := by decide +kernel
theorem dX1_leaves_11 : decode cX1_leaves 11 = .ok (.iload_n 3, 1) := by decide +kernel
theorem dX1_leaves_12 : decode cX1_leaves 12 = .ok (.invokevirtual 69, 3) := by decide +kernel
theorem dX1_leaves_15 : decode cX1_leaves 15 = .ok (.ifCond .eq 12, 3) := by decide +kernel
theorem dX1_leaves_18 : decode cX1_leaves 18 = .ok (.aload_n 0, 1) := by decide +kernel
theorem dX1_leaves_19 : decode cX1_leaves 19 = .ok (.iload_n 1, 1) := by decide +kernel
theorem dX1_leaves_20 : decode cX1_leaves 20 = .ok (.iload_n 3, 1) := by decide +kernel
theorem dX1_leaves_21 : decode cX1_leaves 21 = .ok (.invokevirtual 73, 3) := by decide +kernel
theorem dX1_leaves_24 : decode cX1_leaves 24 = .ok (.goto 4, 3) := by decide +kernel
theorem dX1_leaves_27 : decode cX1_leaves 27 = .ok (.iconst (-1), 1) := by decide +kernel
theorem dX1_leaves_28 : decode cX1_leaves 28 = .ok (.ireturn, 1) := by decide +kernel
def X1_leaves_b28 (u : gM)  (s0 : Int32) : Option Int32 :=
some s0
def X1_leaves (u : gM)  (x1 : Int32) (x2 : Int32) : Option Int32 :=
((X1_countedAt u x1 x2).bind fun w3 => ((X8_isMerged u 18 w3).bind fun w12 => (if w12 = 0 then (X1_leaves_b28 u (-1))
  else ((X1_endOf u x1 w3).bind fun w21 => (X1_leaves_b28 u w21)))))
set_option maxRecDepth 20000 in
theorem v_X1_leaves_b28 {κ : gK} {B : Nat} {u : gM} (X : gX κ B skC cX1_leaves 4 RX1 (some .int) 3 74)   {s0 : Int32} {w : Int32} (hM : X1_leaves_b28 u s0 = some w) : gV κ B skC 4 ((some (.int w)), u) 28 [none, none, none, none] [.int s0] u := by
  unfold X1_leaves_b28 at hM
  cases hM
  exact g_iret X dX1_leaves_28
set_option maxRecDepth 20000 in
theorem v_X1_leaves {κ : gK} {B : Nat} {u : gM} (X : gX κ B skC cX1_leaves 4 RX1 (some .int) 3 74)   {x1 : Int32} {x2 : Int32} {w : Int32} (hM : X1_leaves u x1 x2 = some w) : gV κ B skC 4 ((some (.int w)), u) 0 [some (.ref (B + 136)), some (.int x1), some (.int x2), none] [] u := by
  unfold X1_leaves at hM
  refine g_aload_n X dX1_leaves_0 rfl ?_
  refine g_iload_n X dX1_leaves_1 rfl ?_
  refine g_iload_n X dX1_leaves_2 rfl ?_
  obtain ⟨w3, e3, hM⟩ := bind_of hM
  refine g_callVi X (fun B adK => [.int x1, .int x2]) (s_X1_countedAt e3) cvX1_79 cC_136 rfl rfl (Nat.le_of_ble_eq_true rfl) ⟨by decide, by decide⟩ dX1_leaves_3 ?_
  refine g_istore_n X [some (.ref (B + 136)), some (.int x1), some (.int x2), some (.int w3)] dX1_leaves_6 (by decide) rfl ?_
  refine g_aload_n X dX1_leaves_7 rfl ?_
  refine g_getR X fX1_36 cC_136 rfl dX1_leaves_8 ?_
  refine g_iload_n X dX1_leaves_11 rfl ?_
  obtain ⟨w12, e12, hM⟩ := bind_of hM
  refine g_callVi X (fun B adK => [.int w3]) (s_X8_isMerged e12) cvX1_69 cC_18 rfl rfl (Nat.le_of_ble_eq_true rfl) ⟨by decide, by decide⟩ dX1_leaves_12 ?_
  refine g_if_eq (tgt := 27) X dX1_leaves_15 (by decide) (fun c15 => ?_) (fun c15 => ?_)
  · rw [if_pos c15] at hM
    refine g_iconst X (v := (-1)) dX1_leaves_27 (by decide) ?_
    refine g_mk [false, false, false, false] [none, none, none, none] rfl ?_
    exact v_X1_leaves_b28 X  hM
  · rw [if_neg c15] at hM
    refine g_aload_n X dX1_leaves_18 rfl ?_
    refine g_iload_n X dX1_leaves_19 rfl ?_
    refine g_iload_n X dX1_leaves_20 rfl ?_
    obtain ⟨w21, e21, hM⟩ := bind_of hM
    refine g_callVi X (fun B adK => [.int x1, .int w3]) (s_X1_endOf e21) cvX1_73 cC_136 rfl rfl (Nat.le_of_ble_eq_true rfl) ⟨by decide, by decide⟩ dX1_leaves_21 ?_
    refine g_goto (tgt := 28) X dX1_leaves_24 (by decide) ?_
    refine g_mk [false, false, false, false] [none, none, none, none] rfl ?_
    exact v_X1_leaves_b28 X  hM
theorem s_X1_leaves {x1 : Int32} {x2 : Int32} {u : gM} {w : Int32} (hM : X1_leaves u x1 x2 = some w) : gMet skC yX1_leaves cX1_leaves 4 (some .int) 3 74 (fun B adK => [.ref (B + 136), .int x1, .int x2]) u ((fun _ => some (.int w)), u) := by
  refine gMet.of (by decide) (fun _ _ => Nat.le_of_ble_eq_true rfl) (fun κ B X => ?_)
  have X : gX κ B skC cX1_leaves 4 RX1 (some .int) 3 74 := X
  refine g_mk [true, true, true, false] [some (.ref (B + 136)), some (.int x1), some (.int x2), none] rfl ?_
  exact v_X1_leaves X  hM

/-! CoverDesk.account(II)I -/
theorem dX11_account_0 : decode cX11_account 0 = .ok (.aload_n 0, 1) := by decide +kernel
theorem dX11_account_1 : decode cX11_account 1 = .ok (.getfield 19, 3) := by decide +kernel
theorem dX11_account_4 : decode cX11_account 4 = .ok (.iload_n 1, 1) := by decide +kernel
theorem dX11_account_5 : decode cX11_account 5 = .ok (.invokevirtual 177, 3) := by decide +kernel
theorem dX11_account_8 : decode cX11_account 8 = .ok (.ifCond .ne 6, 3) := by decide +kernel
theorem dX11_account_11 : decode cX11_account 11 = .ok (.bipush (-2), 2) := by decide +kernel
theorem dX11_account_13 : decode cX11_account 13 = .ok (.ireturn, 1) := by decide +kernel
theorem dX11_account_14 : decode cX11_account 14 = .ok (.iload_n 2, 1) := by decide +kernel
theorem dX11_account_15 : decode cX11_account 15 = .ok (.tableswitch 185 0 9 #[53, 63, 73, 90, 106, 116, 126, 136, 146, 169], 53) := by decide +kernel
theorem dX11_account_68 : decode cX11_account 68 = .ok (.aload_n 0, 1) := by decide +kernel
theorem dX11_account_69 : decode cX11_account 69 = .ok (.getfield 19, 3) := by decide +kernel
theorem dX11_account_72 : decode cX11_account 72 = .ok (.getfield 181, 3) := by decide +kernel
theorem dX11_account_75 : decode cX11_account 75 = .ok (.iload_n 1, 1) := by decide +kernel
theorem dX11_account_76 : decode cX11_account 76 = .ok (.iaload, 1) := by decide +kernel
theorem dX11_account_77 : decode cX11_account 77 = .ok (.ireturn, 1) := by decide +kernel
theorem dX11_account_78 : decode cX11_account 78 = .ok (.aload_n 0, 1) := by decide +kernel
theorem dX11_account_79 : decode cX11_account 79 = .ok (.getfield 19, 3) := by decide +kernel
theorem dX11_account_82 : decode cX11_account 82 = .ok (.getfield 184, 3) := by decide +kernel
theorem dX11_account_85 : decode cX11_account 85 = .ok (.iload_n 1, 1) := by decide +kernel
theorem dX11_account_86 : decode cX11_account 86 = .ok (.iaload, 1) := by decide +kernel
theorem dX11_account_87 : decode cX11_account 87 = .ok (.ireturn, 1) := by decide +kernel
theorem dX11_account_88 : decode cX11_account 88 = .ok (.aload_n 0, 1) := by decide +kernel
theorem dX11_account_89 : decode cX11_account 89 = .ok (.getfield 26, 3) := by decide +kernel
theorem dX11_account_92 : decode cX11_account 92 = .ok (.aload_n 0, 1) := by decide +kernel
theorem dX11_account_93 : decode cX11_account 93 = .ok (.getfield 19, 3) := by decide +kernel
theorem dX11_account_96 : decode cX11_account 96 = .ok (.getfield 184, 3) := by decide +kernel
theorem dX11_account_99 : decode cX11_account 99 = .ok (.iload_n 1, 1) := by decide +kernel
theorem dX11_account_100 : decode cX11_account 100 = .ok (.iaload, 1) := by decide +kernel
theorem dX11_account_101 : decode cX11_account 101 = .ok (.invokevirtual 187, 3) := by decide +kernel
theorem dX11_account_104 : decode cX11_account 104 = .ok (.ireturn, 1) := by decide +kernel
theorem dX11_account_105 : decode cX11_account 105 = .ok (.aload_n 0, 1) := by decide +kernel
theorem dX11_account_106 : decode cX11_account 106 = .ok (.getfield 60, 3) := by decide +kernel
theorem dX11_account_109 : decode cX11_account 109 = .ok (.iload_n 1, 1) := by decide +kernel
theorem dX11_account_110 : decode cX11_account 110 = .ok (.aload_n 0, 1) := by decide +kernel
theorem dX11_account_111 : decode cX11_account 111 = .ok (.getfield 26, 3) := by decide +kernel
theorem dX11_account_114 : decode cX11_account 114 = .ok (.getfield 191, 3) := by decide +kernel
theorem dX11_account_117 : decode cX11_account 117 = .ok (.invokevirtual 194, 3) := by decide +kernel
theorem dX11_account_120 : decode cX11_account 120 = .ok (.ireturn, 1) := by decide +kernel
theorem dX11_account_121 : decode cX11_account 121 = .ok (.aload_n 0, 1) := by decide +kernel
theorem dX11_account_122 : decode cX11_account 122 = .ok (.getfield 26, 3) := by decide +kernel
theorem dX11_account_125 : decode cX11_account 125 = .ok (.getfield 198, 3) := by decide +kernel
theorem dX11_account_128 : decode cX11_account 128 = .ok (.iload_n 1, 1) := by decide +kernel
theorem dX11_account_129 : decode cX11_account 129 = .ok (.iaload, 1) := by decide +kernel
theorem dX11_account_130 : decode cX11_account 130 = .ok (.ireturn, 1) := by decide +kernel
theorem dX11_account_131 : decode cX11_account 131 = .ok (.aload_n 0, 1) := by decide +kernel
theorem dX11_account_132 : decode cX11_account 132 = .ok (.getfield 19, 3) := by decide +kernel
theorem dX11_account_135 : decode cX11_account 135 = .ok (.getfield 201, 3) := by decide +kernel
theorem dX11_account_138 : decode cX11_account 138 = .ok (.iload_n 1, 1) := by decide +kernel
theorem dX11_account_139 : decode cX11_account 139 = .ok (.iaload, 1) := by decide +kernel
theorem dX11_account_140 : decode cX11_account 140 = .ok (.ireturn, 1) := by decide +kernel
theorem dX11_account_141 : decode cX11_account 141 = .ok (.aload_n 0, 1) := by decide +kernel
theorem dX11_account_142 : decode cX11_account 142 = .ok (.getfield 19, 3) := by decide +kernel
theorem dX11_account_145 : decode cX11_account 145 = .ok (.getfield 204, 3) := by decide +kernel
theorem dX11_account_148 : decode cX11_account 148 = .ok (.iload_n 1, 1) := by decide +kernel
theorem dX11_account_149 : decode cX11_account 149 = .ok (.iaload, 1) := by decide +kernel
theorem dX11_account_150 : decode cX11_account 150 = .ok (.ireturn, 1) := by decide +kernel
theorem dX11_account_151 : decode cX11_account 151 = .ok (.aload_n 0, 1) := by decide +kernel
theorem dX11_account_152 : decode cX11_account 152 = .ok (.getfield 19, 3) := by decide +kernel
theorem dX11_account_155 : decode cX11_account 155 = .ok (.getfield 207, 3) := by decide +kernel
theorem dX11_account_158 : decode cX11_account 158 = .ok (.iload_n 1, 1) := by decide +kernel
theorem dX11_account_159 : decode cX11_account 159 = .ok (.iaload, 1) := by decide +kernel
theorem dX11_account_160 : decode cX11_account 160 = .ok (.ireturn, 1) := by decide +kernel
theorem dX11_account_161 : decode cX11_account 161 = .ok (.aload_n 0, 1) := by decide +kernel
theorem dX11_account_162 : decode cX11_account 162 = .ok (.getfield 60, 3) := by decide +kernel
theorem dX11_account_165 : decode cX11_account 165 = .ok (.aload_n 0, 1) := by decide +kernel
theorem dX11_account_166 : decode cX11_account 166 = .ok (.getfield 26, 3) := by decide +kernel
theorem dX11_account_169 : decode cX11_account 169 = .ok (.getfield 191, 3) := by decide +kernel
theorem dX11_account_172 : decode cX11_account 172 = .ok (.invokevirtual 210, 3) := by decide +kernel
theorem dX11_account_175 : decode cX11_account 175 = .ok (.aload_n 0, 1) := by decide +kernel
theorem dX11_account_176 : decode cX11_account 176 = .ok (.getfield 60, 3) := by decide +kernel
theorem dX11_account_179 : decode cX11_account 179 = .ok (.iload_n 1, 1) := by decide +kernel
theorem dX11_account_180 : decode cX11_account 180 = .ok (.invokevirtual 213, 3) := by decide +kernel
theorem dX11_account_183 : decode cX11_account 183 = .ok (.ireturn, 1) := by decide +kernel
theorem dX11_account_184 : decode cX11_account 184 = .ok (.aload_n 0, 1) := by decide +kernel
theorem dX11_account_185 : decode cX11_account 185 = .ok (.getfield 60, 3) := by decide +kernel
theorem dX11_account_188 : decode cX11_account 188 = .ok (.iload_n 1, 1) := by decide +kernel
theorem dX11_account_189 : decode cX11_account 189 = .ok (.aload_n 0, 1) := by decide +kernel
theorem dX11_account_190 : decode cX11_account 190 = .ok (.getfield 26, 3) := by decide +kernel
theorem dX11_account_193 : decode cX11_account 193 = .ok (.getfield 191, 3) := by decide +kernel
theorem dX11_account_196 : decode cX11_account 196 = .ok (.invokevirtual 216, 3) := by decide +kernel
theorem dX11_account_199 : decode cX11_account 199 = .ok (.ireturn, 1) := by decide +kernel
theorem dX11_account_200 : decode cX11_account 200 = .ok (.bipush (-2), 2) := by decide +kernel
theorem dX11_account_202 : decode cX11_account 202 = .ok (.ireturn, 1) := by decide +kernel
def X11_account  (x1 : Int32) (x2 : Int32) (u : gM) : Option (Int32 × gM) :=
((X10_isAccount u 3 x1).bind fun w5 => (if w5 = 0 then some ((-2), u)
  else (if x2 = 0 then ((aI skC u 7 x1).bind fun v76 => some (v76, u))
    else (if x2 = 1 then ((aI skC u 8 x1).bind fun v86 => some (v86, u))
    else (if x2 = 2 then ((aI skC u 8 x1).bind fun v100 => ((X8_nowAt u 18 v100).bind fun w101 => some (w101, u)))
    else (if x2 = 3 then ((X1_countedAt u x1 (u.1 18 0)).bind fun w117 => some (w117, u))
    else (if x2 = 4 then ((aI skC u 19 x1).bind fun v129 => some (v129, u))
    else (if x2 = 5 then ((aI skC u 11 x1).bind fun v139 => some (v139, u))
    else (if x2 = 6 then ((aI skC u 12 x1).bind fun v149 => some (v149, u))
    else (if x2 = 7 then ((aI skC u 10 x1).bind fun v159 => some (v159, u))
    else (if x2 = 8 then ((X1_insure (u.1 18 0) u).bind fun w172 => ((X1_insuredOfAccount w172 x1).bind fun w180 => some (w180, w172)))
    else (if x2 = 9 then ((X1_leaves u x1 (u.1 18 0)).bind fun w196 => some (w196, u))
    else some ((-2), u)))))))))))))
set_option maxRecDepth 20000 in
theorem v_X11_account {κ : gK} {B : Nat} {u : gM} (X : gX κ B skC cX11_account 3 RX11 (some .int) 5 122)   {x1 : Int32} {x2 : Int32} {w : (Int32 × gM)} (hM : X11_account x1 x2 u = some w) : gV κ B skC 3 ((some (.int w.1)), w.2) 0 [some (.ref (B + 0)), some (.int x1), some (.int x2)] [] u := by
  unfold X11_account at hM
  refine g_aload_n X dX11_account_0 rfl ?_
  refine g_getR X fX11_19 cC_0 rfl dX11_account_1 ?_
  refine g_iload_n X dX11_account_4 rfl ?_
  obtain ⟨w5, e5, hM⟩ := bind_of hM
  refine g_callVi X (fun B adK => [.int x1]) (s_X10_isAccount e5) cvX11_177 cC_3 rfl rfl (Nat.le_of_ble_eq_true rfl) ⟨by decide, by decide⟩ dX11_account_5 ?_
  refine g_if_ne (tgt := 14) X dX11_account_8 (by decide) (fun c8 => ?_) (fun c8 => ?_)
  · rw [if_neg c8] at hM
    refine g_iload_n X dX11_account_14 rfl ?_
    by_cases h15_0 : x2 = 0
    · rw [if_pos h15_0] at hM
      refine g_tabIn (tgt := 68) (off := 53) X 0 h15_0 dX11_account_15 (by decide) (by decide) (by decide) (by decide) ?_
      refine g_aload_n X dX11_account_68 rfl ?_
      refine g_getR X fX11_19 cC_0 rfl dX11_account_69 ?_
      refine g_getR X fX11_181 cC_3 rfl dX11_account_72 ?_
      refine g_iload_n X dX11_account_75 rfl ?_
      obtain ⟨v76, e76, hM⟩ := bind_of hM
      refine g_iaload X e76 dX11_account_76 ?_
      cases hM
      exact g_iret X dX11_account_77
    rw [if_neg h15_0] at hM
    by_cases h15_1 : x2 = 1
    · rw [if_pos h15_1] at hM
      refine g_tabIn (tgt := 78) (off := 63) X 1 h15_1 dX11_account_15 (by decide) (by decide) (by decide) (by decide) ?_
      refine g_aload_n X dX11_account_78 rfl ?_
      refine g_getR X fX11_19 cC_0 rfl dX11_account_79 ?_
      refine g_getR X fX11_184 cC_3 rfl dX11_account_82 ?_
      refine g_iload_n X dX11_account_85 rfl ?_
      obtain ⟨v86, e86, hM⟩ := bind_of hM
      refine g_iaload X e86 dX11_account_86 ?_
      cases hM
      exact g_iret X dX11_account_87
    rw [if_neg h15_1] at hM
    by_cases h15_2 : x2 = 2
    · rw [if_pos h15_2] at hM
      refine g_tabIn (tgt := 88) (off := 73) X 2 h15_2 dX11_account_15 (by decide) (by decide) (by decide) (by decide) ?_
      refine g_aload_n X dX11_account_88 rfl ?_
      refine g_getR X fX11_26 cC_0 rfl dX11_account_89 ?_
      refine g_aload_n X dX11_account_92 rfl ?_
      refine g_getR X fX11_19 cC_0 rfl dX11_account_93 ?_
      refine g_getR X fX11_184 cC_3 rfl dX11_account_96 ?_
      refine g_iload_n X dX11_account_99 rfl ?_
      obtain ⟨v100, e100, hM⟩ := bind_of hM
      refine g_iaload X e100 dX11_account_100 ?_
      obtain ⟨w101, e101, hM⟩ := bind_of hM
      refine g_callVi X (fun B adK => [.int v100]) (s_X8_nowAt e101) cvX11_187 cC_18 rfl rfl (Nat.le_of_ble_eq_true rfl) ⟨by decide, by decide⟩ dX11_account_101 ?_
      cases hM
      exact g_iret X dX11_account_104
    rw [if_neg h15_2] at hM
    by_cases h15_3 : x2 = 3
    · rw [if_pos h15_3] at hM
      refine g_tabIn (tgt := 105) (off := 90) X 3 h15_3 dX11_account_15 (by decide) (by decide) (by decide) (by decide) ?_
      refine g_aload_n X dX11_account_105 rfl ?_
      refine g_getR X fX11_60 cC_0 rfl dX11_account_106 ?_
      refine g_iload_n X dX11_account_109 rfl ?_
      refine g_aload_n X dX11_account_110 rfl ?_
      refine g_getR X fX11_26 cC_0 rfl dX11_account_111 ?_
      refine g_getI X fX11_191 cC_18 rfl dX11_account_114 ?_
      obtain ⟨w117, e117, hM⟩ := bind_of hM
      refine g_callVi X (fun B adK => [.int x1, .int (u.1 18 0)]) (s_X1_countedAt e117) cvX11_194 cC_136 rfl rfl (Nat.le_of_ble_eq_true rfl) ⟨by decide, by decide⟩ dX11_account_117 ?_
      cases hM
      exact g_iret X dX11_account_120
    rw [if_neg h15_3] at hM
    by_cases h15_4 : x2 = 4
    · rw [if_pos h15_4] at hM
      refine g_tabIn (tgt := 121) (off := 106) X 4 h15_4 dX11_account_15 (by decide) (by decide) (by decide) (by decide) ?_
      refine g_aload_n X dX11_account_121 rfl ?_
      refine g_getR X fX11_26 cC_0 rfl dX11_account_122 ?_
      refine g_getR X fX11_198 cC_18 rfl dX11_account_125 ?_
      refine g_iload_n X dX11_account_128 rfl ?_
      obtain ⟨v129, e129, hM⟩ := bind_of hM
      refine g_iaload X e129 dX11_account_129 ?_
      cases hM
      exact g_iret X dX11_account_130
    rw [if_neg h15_4] at hM
    by_cases h15_5 : x2 = 5
    · rw [if_pos h15_5] at hM
      refine g_tabIn (tgt := 131) (off := 116) X 5 h15_5 dX11_account_15 (by decide) (by decide) (by decide) (by decide) ?_
      refine g_aload_n X dX11_account_131 rfl ?_
      refine g_getR X fX11_19 cC_0 rfl dX11_account_132 ?_
      refine g_getR X fX11_201 cC_3 rfl dX11_account_135 ?_
      refine g_iload_n X dX11_account_138 rfl ?_
      obtain ⟨v139, e139, hM⟩ := bind_of hM
      refine g_iaload X e139 dX11_account_139 ?_
      cases hM
      exact g_iret X dX11_account_140
    rw [if_neg h15_5] at hM
    by_cases h15_6 : x2 = 6
    · rw [if_pos h15_6] at hM
      refine g_tabIn (tgt := 141) (off := 126) X 6 h15_6 dX11_account_15 (by decide) (by decide) (by decide) (by decide) ?_
      refine g_aload_n X dX11_account_141 rfl ?_
      refine g_getR X fX11_19 cC_0 rfl dX11_account_142 ?_
      refine g_getR X fX11_204 cC_3 rfl dX11_account_145 ?_
      refine g_iload_n X dX11_account_148 rfl ?_
      obtain ⟨v149, e149, hM⟩ := bind_of hM
      refine g_iaload X e149 dX11_account_149 ?_
      cases hM
      exact g_iret X dX11_account_150
    rw [if_neg h15_6] at hM
    by_cases h15_7 : x2 = 7
    · rw [if_pos h15_7] at hM
      refine g_tabIn (tgt := 151) (off := 136) X 7 h15_7 dX11_account_15 (by decide) (by decide) (by decide) (by decide) ?_
      refine g_aload_n X dX11_account_151 rfl ?_
      refine g_getR X fX11_19 cC_0 rfl dX11_account_152 ?_
      refine g_getR X fX11_207 cC_3 rfl dX11_account_155 ?_
      refine g_iload_n X dX11_account_158 rfl ?_
      obtain ⟨v159, e159, hM⟩ := bind_of hM
      refine g_iaload X e159 dX11_account_159 ?_
      cases hM
      exact g_iret X dX11_account_160
    rw [if_neg h15_7] at hM
    by_cases h15_8 : x2 = 8
    · rw [if_pos h15_8] at hM
      refine g_tabIn (tgt := 161) (off := 146) X 8 h15_8 dX11_account_15 (by decide) (by decide) (by decide) (by decide) ?_
      refine g_aload_n X dX11_account_161 rfl ?_
      refine g_getR X fX11_60 cC_0 rfl dX11_account_162 ?_
      refine g_aload_n X dX11_account_165 rfl ?_
      refine g_getR X fX11_26 cC_0 rfl dX11_account_166 ?_
      refine g_getI X fX11_191 cC_18 rfl dX11_account_169 ?_
      obtain ⟨w172, e172, hM⟩ := bind_of hM
      refine g_callVv X (fun B adK => [.int (u.1 18 0)]) (s_X1_insure e172) cvX11_210 cC_136 rfl rfl (Nat.le_of_ble_eq_true rfl) ⟨by decide, by decide⟩ dX11_account_172 ?_
      refine g_aload_n X dX11_account_175 rfl ?_
      refine g_getR X fX11_60 cC_0 rfl dX11_account_176 ?_
      refine g_iload_n X dX11_account_179 rfl ?_
      obtain ⟨w180, e180, hM⟩ := bind_of hM
      refine g_callVi X (fun B adK => [.int x1]) (s_X1_insuredOfAccount e180) cvX11_213 cC_136 rfl rfl (Nat.le_of_ble_eq_true rfl) ⟨by decide, by decide⟩ dX11_account_180 ?_
      cases hM
      exact g_iret X dX11_account_183
    rw [if_neg h15_8] at hM
    by_cases h15_9 : x2 = 9
    · rw [if_pos h15_9] at hM
      refine g_tabIn (tgt := 184) (off := 169) X 9 h15_9 dX11_account_15 (by decide) (by decide) (by decide) (by decide) ?_
      refine g_aload_n X dX11_account_184 rfl ?_
      refine g_getR X fX11_60 cC_0 rfl dX11_account_185 ?_
      refine g_iload_n X dX11_account_188 rfl ?_
      refine g_aload_n X dX11_account_189 rfl ?_
      refine g_getR X fX11_26 cC_0 rfl dX11_account_190 ?_
      refine g_getI X fX11_191 cC_18 rfl dX11_account_193 ?_
      obtain ⟨w196, e196, hM⟩ := bind_of hM
      refine g_callVi X (fun B adK => [.int x1, .int (u.1 18 0)]) (s_X1_leaves e196) cvX11_216 cC_136 rfl rfl (Nat.le_of_ble_eq_true rfl) ⟨by decide, by decide⟩ dX11_account_196 ?_
      cases hM
      exact g_iret X dX11_account_199
    rw [if_neg h15_9] at hM
    refine g_tabOut (tgt := 200) X dX11_account_15 (by have q0 := lv_neT (a := 0) h15_0 (by decide); have q1 := lv_neT (a := 1) h15_1 (by decide); have q2 := lv_neT (a := 2) h15_2 (by decide); have q3 := lv_neT (a := 3) h15_3 (by decide); have q4 := lv_neT (a := 4) h15_4 (by decide); have q5 := lv_neT (a := 5) h15_5 (by decide); have q6 := lv_neT (a := 6) h15_6 (by decide); have q7 := lv_neT (a := 7) h15_7 (by decide); have q8 := lv_neT (a := 8) h15_8 (by decide); have q9 := lv_neT (a := 9) h15_9 (by decide); omega) (by decide) ?_
    refine g_bipush X (v := (-2)) dX11_account_200 (by decide) ?_
    cases hM
    exact g_iret X dX11_account_202
  · rw [if_pos c8] at hM
    refine g_bipush X (v := (-2)) dX11_account_11 (by decide) ?_
    cases hM
    exact g_iret X dX11_account_13
theorem s_X11_account {x1 : Int32} {x2 : Int32} {u : gM} {w : (Int32 × gM)} (hM : X11_account x1 x2 u = some w) : gMet skC yX11_account cX11_account 3 (some .int) 5 122 (fun B adK => [.ref (B + 0), .int x1, .int x2]) u ((fun _ => some (.int w.1)), w.2) := by
  refine gMet.of (by decide) (fun _ _ => Nat.le_of_ble_eq_true rfl) (fun κ B X => ?_)
  have X : gX κ B skC cX11_account 3 RX11 (some .int) 5 122 := X
  refine g_mk [true, true, true] [some (.ref (B + 0)), some (.int x1), some (.int x2)] rfl ?_
  exact v_X11_account X  hM
theorem fr_X11_account {S : Nat → Prop} {u0 u : gM} {x1 : Int32} {x2 : Int32} (hs0 : S (rf skC 138 2)) (hs1 : S (rf skC 138 3)) (hs2 : S (rf skC 138 4)) (hs3 : S 137) (hs4 : S 138) (hs5 : S 142) (hs6 : S 143) (hs7 : S 144)   {w : (Int32 × gM)} (hM : X11_account x1 x2 u = some w) (h0 : off S u0 u) : off S u0 w.2 := by
  unfold X11_account at hM
  obtain ⟨w5, e5, hM⟩ := bind_of hM
  by_cases c8 : w5 = 0
  · rw [if_pos c8] at hM
    cases hM
    exact h0
  · rw [if_neg c8] at hM
    by_cases h15_0 : x2 = 0
    · rw [if_pos h15_0] at hM
      obtain ⟨v76, e76, hM⟩ := bind_of hM
      cases hM
      exact h0
    rw [if_neg h15_0] at hM
    by_cases h15_1 : x2 = 1
    · rw [if_pos h15_1] at hM
      obtain ⟨v86, e86, hM⟩ := bind_of hM
      cases hM
      exact h0
    rw [if_neg h15_1] at hM
    by_cases h15_2 : x2 = 2
    · rw [if_pos h15_2] at hM
      obtain ⟨v100, e100, hM⟩ := bind_of hM
      obtain ⟨w101, e101, hM⟩ := bind_of hM
      cases hM
      exact h0
    rw [if_neg h15_2] at hM
    by_cases h15_3 : x2 = 3
    · rw [if_pos h15_3] at hM
      obtain ⟨w117, e117, hM⟩ := bind_of hM
      cases hM
      exact h0
    rw [if_neg h15_3] at hM
    by_cases h15_4 : x2 = 4
    · rw [if_pos h15_4] at hM
      obtain ⟨v129, e129, hM⟩ := bind_of hM
      cases hM
      exact h0
    rw [if_neg h15_4] at hM
    by_cases h15_5 : x2 = 5
    · rw [if_pos h15_5] at hM
      obtain ⟨v139, e139, hM⟩ := bind_of hM
      cases hM
      exact h0
    rw [if_neg h15_5] at hM
    by_cases h15_6 : x2 = 6
    · rw [if_pos h15_6] at hM
      obtain ⟨v149, e149, hM⟩ := bind_of hM
      cases hM
      exact h0
    rw [if_neg h15_6] at hM
    by_cases h15_7 : x2 = 7
    · rw [if_pos h15_7] at hM
      obtain ⟨v159, e159, hM⟩ := bind_of hM
      cases hM
      exact h0
    rw [if_neg h15_7] at hM
    by_cases h15_8 : x2 = 8
    · rw [if_pos h15_8] at hM
      obtain ⟨w172, e172, hM⟩ := bind_of hM
      have h0 := fr_X1_insure hs0 hs1 hs2 hs3 hs4 hs5 hs6 hs7 e172 h0
      obtain ⟨w180, e180, hM⟩ := bind_of hM
      cases hM
      exact h0
    rw [if_neg h15_8] at hM
    by_cases h15_9 : x2 = 9
    · rw [if_pos h15_9] at hM
      obtain ⟨w196, e196, hM⟩ := bind_of hM
      cases hM
      exact h0
    rw [if_neg h15_9] at hM
    cases hM
    exact h0
/-! CoverDesk.accountsNowAt(I)I -/
theorem dX11_accountsNowAt_0 : decode cX11_accountsNowAt 0 = .ok (.iconst 0, 1) := by decide +kernel
theorem dX11_accountsNowAt_1 : decode cX11_accountsNowAt 1 = .ok (.istore_n 2, 1) := by decide +kernel
theorem dX11_accountsNowAt_2 : decode cX11_accountsNowAt 2 = .ok (.iconst 0, 1) := by decide +kernel
theorem dX11_accountsNowAt_3 : decode cX11_accountsNowAt 3 = .ok (.istore_n 3, 1) := by decide +kernel
theorem dX11_accountsNowAt_4 : decode cX11_accountsNowAt 4 = .ok (.iload_n 3, 1) := by decide +kernel
theorem dX11_accountsNowAt_5 : decode cX11_accountsNowAt 5 = .ok (.aload_n 0, 1) := by decide +kernel
theorem dX11_accountsNowAt_6 : decode cX11_accountsNowAt 6 = .ok (.getfield 19, 3) := by decide +kernel
theorem dX11_accountsNowAt_9 : decode cX11_accountsNowAt 9 = .ok (.getfield 112, 3) := by decide +kernel
theorem dX11_accountsNowAt_12 : decode cX11_accountsNowAt 12 = .ok (.if_icmp .ge 32, 3) := by decide +kernel
theorem dX11_accountsNowAt_15 : decode cX11_accountsNowAt 15 = .ok (.aload_n 0, 1) := by decide +kernel
theorem dX11_accountsNowAt_16 : decode cX11_accountsNowAt 16 = .ok (.getfield 26, 3) := by decide +kernel
theorem dX11_accountsNowAt_19 : decode cX11_accountsNowAt 19 = .ok (.aload_n 0, 1) := by decide +kernel
theorem dX11_accountsNowAt_20 : decode cX11_accountsNowAt 20 = .ok (.getfield 19, 3) := by decide +kernel
theorem dX11_accountsNowAt_23 : decode cX11_accountsNowAt 23 = .ok (.getfield 184, 3) := by decide +kernel
theorem dX11_accountsNowAt_26 : decode cX11_accountsNowAt 26 = .ok (.iload_n 3, 1) := by decide +kernel
theorem dX11_accountsNowAt_27 : decode cX11_accountsNowAt 27 = .ok (.iaload, 1) := by decide +kernel
theorem dX11_accountsNowAt_28 : decode cX11_accountsNowAt 28 = .ok (.invokevirtual 187, 3) := by decide +kernel
theorem dX11_accountsNowAt_31 : decode cX11_accountsNowAt 31 = .ok (.iload_n 1, 1) := by decide +kernel
theorem dX11_accountsNowAt_32 : decode cX11_accountsNowAt 32 = .ok (.if_icmp .ne 6, 3) := by decide +kernel
theorem dX11_accountsNowAt_35 : decode cX11_accountsNowAt 35 = .ok (.iinc 2 1, 3) := by decide +kernel
theorem dX11_accountsNowAt_38 : decode cX11_accountsNowAt 38 = .ok (.iinc 3 1, 3) := by decide +kernel
theorem dX11_accountsNowAt_41 : decode cX11_accountsNowAt 41 = .ok (.goto (-37), 3) := by decide +kernel
theorem dX11_accountsNowAt_44 : decode cX11_accountsNowAt 44 = .ok (.iload_n 2, 1) := by decide +kernel
theorem dX11_accountsNowAt_45 : decode cX11_accountsNowAt 45 = .ok (.ireturn, 1) := by decide +kernel
def X11_accountsNowAt_b38 (u : gM) (k4 : Int32 → Int32 → Int32 → Option Int32) (x1 : Int32) (x2 : Int32) (x3 : Int32) : Option Int32 :=
(k4 x1 x2 (x3 + 1))
def X11_accountsNowAt_b4 (u : gM) (k4 : Int32 → Int32 → Int32 → Option Int32) (x1 : Int32) (x2 : Int32) (x3 : Int32) : Option Int32 :=
(if (u.1 3 2) ≤ x3 then some x2
  else ((aI skC u 8 x3).bind fun v27 => ((X8_nowAt u 18 v27).bind fun w28 => (if w28 = x1 then (X11_accountsNowAt_b38 u k4 x1 (x2 + 1) x3)
    else (X11_accountsNowAt_b38 u k4 x1 x2 x3)))))
def X11_accountsNowAt_l4 (u : gM)  : Nat → Int32 → Int32 → Int32 → Option Int32
  | 0, _, _, _ => none
  | n + 1, x1, x2, x3 => X11_accountsNowAt_b4 u  (X11_accountsNowAt_l4 u  n) x1 x2 x3
def X11_accountsNowAt (u : gM)  (x1 : Int32) : Option Int32 :=
(X11_accountsNowAt_l4 u fz x1 0 0)
set_option maxRecDepth 20000 in
theorem v_X11_accountsNowAt_b38 {κ : gK} {B : Nat} {u : gM} (X : gX κ B skC cX11_accountsNowAt 4 RX11 (some .int) 2 44) {k4 : Int32 → Int32 → Int32 → Option Int32} (ih4 : ∀ (x1 : Int32) (x2 : Int32) (x3 : Int32) (w : Int32), k4 x1 x2 x3 = some w → gV κ B skC 4 ((some (.int w)), u) 4 [some (.ref (B + 0)), some (.int x1), some (.int x2), some (.int x3)] [] u) {x1 : Int32} {x2 : Int32} {x3 : Int32} {w : Int32} (hM : X11_accountsNowAt_b38 u k4 x1 x2 x3 = some w) : gV κ B skC 4 ((some (.int w)), u) 38 [some (.ref (B + 0)), some (.int x1), some (.int x2), some (.int x3)] [] u := by
  unfold X11_accountsNowAt_b38 at hM
  refine g_iinc (d := 1) X [some (.ref (B + 0)), some (.int x1), some (.int x2), some (.int (x3 + 1))] dX11_accountsNowAt_38 (by decide) rfl (by decide) rfl ?_
  refine g_goto (tgt := 4) X dX11_accountsNowAt_41 (by decide) ?_
  refine g_mk [true, true, true, true] [some (.ref (B + 0)), some (.int x1), some (.int x2), some (.int (x3 + 1))] rfl ?_
  exact ih4 x1 x2 (x3 + 1) _ hM
set_option maxRecDepth 20000 in
theorem v_X11_accountsNowAt_b4 {κ : gK} {B : Nat} {u : gM} (X : gX κ B skC cX11_accountsNowAt 4 RX11 (some .int) 2 44) {k4 : Int32 → Int32 → Int32 → Option Int32} (ih4 : ∀ (x1 : Int32) (x2 : Int32) (x3 : Int32) (w : Int32), k4 x1 x2 x3 = some w → gV κ B skC 4 ((some (.int w)), u) 4 [some (.ref (B + 0)), some (.int x1), some (.int x2), some (.int x3)] [] u) {x1 : Int32} {x2 : Int32} {x3 : Int32} {w : Int32} (hM : X11_accountsNowAt_b4 u k4 x1 x2 x3 = some w) : gV κ B skC 4 ((some (.int w)), u) 4 [some (.ref (B + 0)), some (.int x1), some (.int x2), some (.int x3)] [] u := by
  unfold X11_accountsNowAt_b4 at hM
  refine g_iload_n X dX11_accountsNowAt_4 rfl ?_
  refine g_aload_n X dX11_accountsNowAt_5 rfl ?_
  refine g_getR X fX11_19 cC_0 rfl dX11_accountsNowAt_6 ?_
  refine g_getI X fX11_112 cC_3 rfl dX11_accountsNowAt_9 ?_
  refine g_icmp_ge (tgt := 44) X dX11_accountsNowAt_12 (by decide) (fun c12 => ?_) (fun c12 => ?_)
  · rw [if_pos c12] at hM
    refine g_iload_n X dX11_accountsNowAt_44 rfl ?_
    cases hM
    exact g_iret X dX11_accountsNowAt_45
  · rw [if_neg c12] at hM
    refine g_aload_n X dX11_accountsNowAt_15 rfl ?_
    refine g_getR X fX11_26 cC_0 rfl dX11_accountsNowAt_16 ?_
    refine g_aload_n X dX11_accountsNowAt_19 rfl ?_
    refine g_getR X fX11_19 cC_0 rfl dX11_accountsNowAt_20 ?_
    refine g_getR X fX11_184 cC_3 rfl dX11_accountsNowAt_23 ?_
    refine g_iload_n X dX11_accountsNowAt_26 rfl ?_
    obtain ⟨v27, e27, hM⟩ := bind_of hM
    refine g_iaload X e27 dX11_accountsNowAt_27 ?_
    obtain ⟨w28, e28, hM⟩ := bind_of hM
    refine g_callVi X (fun B adK => [.int v27]) (s_X8_nowAt e28) cvX11_187 cC_18 rfl rfl (Nat.le_of_ble_eq_true rfl) ⟨by decide, by decide⟩ dX11_accountsNowAt_28 ?_
    refine g_iload_n X dX11_accountsNowAt_31 rfl ?_
    refine g_icmp_ne (tgt := 38) X dX11_accountsNowAt_32 (by decide) (fun c32 => ?_) (fun c32 => ?_)
    · rw [if_neg c32] at hM
      refine g_mk [true, true, true, true] [some (.ref (B + 0)), some (.int x1), some (.int x2), some (.int x3)] rfl ?_
      exact v_X11_accountsNowAt_b38 X ih4 hM
    · rw [if_pos c32] at hM
      refine g_iinc (d := 1) X [some (.ref (B + 0)), some (.int x1), some (.int (x2 + 1)), some (.int x3)] dX11_accountsNowAt_35 (by decide) rfl (by decide) rfl ?_
      refine g_mk [true, true, true, true] [some (.ref (B + 0)), some (.int x1), some (.int (x2 + 1)), some (.int x3)] rfl ?_
      exact v_X11_accountsNowAt_b38 X ih4 hM
theorem v_X11_accountsNowAt_l4 {κ : gK} {B : Nat} {u : gM} (X : gX κ B skC cX11_accountsNowAt 4 RX11 (some .int) 2 44)   : ∀ (n : Nat) {x1 : Int32} {x2 : Int32} {x3 : Int32} {w : Int32} (hM : X11_accountsNowAt_l4 u  n x1 x2 x3 = some w), gV κ B skC 4 ((some (.int w)), u) 4 [some (.ref (B + 0)), some (.int x1), some (.int x2), some (.int x3)] [] u := by
  intro n
  induction n with
  | zero => intro x1 x2 x3 w hM; exact nomatch (show (none : Option Int32) = some w from hM)
  | succ n ihn => intro x1 x2 x3 w hM; exact v_X11_accountsNowAt_b4 X  (fun x1 x2 x3 w h => ihn h) hM
set_option maxRecDepth 20000 in
theorem v_X11_accountsNowAt {κ : gK} {B : Nat} {u : gM} (X : gX κ B skC cX11_accountsNowAt 4 RX11 (some .int) 2 44)   {x1 : Int32} {w : Int32} (hM : X11_accountsNowAt u x1 = some w) : gV κ B skC 4 ((some (.int w)), u) 0 [some (.ref (B + 0)), some (.int x1), none, none] [] u := by
  unfold X11_accountsNowAt at hM
  refine g_iconst X (v := 0) dX11_accountsNowAt_0 (by decide) ?_
  refine g_istore_n X [some (.ref (B + 0)), some (.int x1), some (.int 0), none] dX11_accountsNowAt_1 (by decide) rfl ?_
  refine g_iconst X (v := 0) dX11_accountsNowAt_2 (by decide) ?_
  refine g_istore_n X [some (.ref (B + 0)), some (.int x1), some (.int 0), some (.int 0)] dX11_accountsNowAt_3 (by decide) rfl ?_
  refine g_mk [true, true, true, true] [some (.ref (B + 0)), some (.int x1), some (.int 0), some (.int 0)] rfl ?_
  exact v_X11_accountsNowAt_l4 X  fz hM
theorem s_X11_accountsNowAt {x1 : Int32} {u : gM} {w : Int32} (hM : X11_accountsNowAt u x1 = some w) : gMet skC yX11_accountsNowAt cX11_accountsNowAt 4 (some .int) 2 44 (fun B adK => [.ref (B + 0), .int x1]) u ((fun _ => some (.int w)), u) := by
  refine gMet.of (by decide) (fun _ _ => Nat.le_of_ble_eq_true rfl) (fun κ B X => ?_)
  have X : gX κ B skC cX11_accountsNowAt 4 RX11 (some .int) 2 44 := X
  refine g_mk [true, true, false, false] [some (.ref (B + 0)), some (.int x1), none, none] rfl ?_
  exact v_X11_accountsNowAt X  hM

/-! CoverDesk.isPlainKind(I)Z -/
theorem dX11_isPlainKind_0 : decode cX11_isPlainKind 0 = .ok (.iload_n 0, 1) := by decide +kernel
theorem dX11_isPlainKind_1 : decode cX11_isPlainKind 1 = .ok (.ifCond .eq 13, 3) := by decide +kernel
theorem dX11_isPlainKind_4 : decode cX11_isPlainKind 4 = .ok (.iload_n 0, 1) := by decide +kernel
theorem dX11_isPlainKind_5 : decode cX11_isPlainKind 5 = .ok (.iconst 3, 1) := by decide +kernel
theorem dX11_isPlainKind_6 : decode cX11_isPlainKind 6 = .ok (.if_icmp .eq 8, 3) := by decide +kernel
theorem dX11_isPlainKind_9 : decode cX11_isPlainKind 9 = .ok (.iload_n 0, 1) := by decide +kernel
theorem dX11_isPlainKind_10 : decode cX11_isPlainKind 10 = .ok (.iconst 4, 1) := by decide +kernel
theorem dX11_isPlainKind_11 : decode cX11_isPlainKind 11 = .ok (.if_icmp .ne 7, 3) := by decide +kernel
theorem dX11_isPlainKind_14 : decode cX11_isPlainKind 14 = .ok (.iconst 1, 1) := by decide +kernel
theorem dX11_isPlainKind_15 : decode cX11_isPlainKind 15 = .ok (.goto 4, 3) := by decide +kernel
theorem dX11_isPlainKind_18 : decode cX11_isPlainKind 18 = .ok (.iconst 0, 1) := by decide +kernel
theorem dX11_isPlainKind_19 : decode cX11_isPlainKind 19 = .ok (.ireturn, 1) := by decide +kernel
def X11_isPlainKind_b19 (u : gM)  (s0 : Int32) : Option Int32 :=
bI s0
def X11_isPlainKind_b14 (u : gM)   : Option Int32 :=
(X11_isPlainKind_b19 u 1)
def X11_isPlainKind (u : gM)  (x0 : Int32) : Option Int32 :=
(if x0 = 0 then (X11_isPlainKind_b14 u)
  else (if x0 = 3 then (X11_isPlainKind_b14 u)
    else (if x0 = 4 then (X11_isPlainKind_b14 u)
      else (X11_isPlainKind_b19 u 0))))
set_option maxRecDepth 20000 in
theorem v_X11_isPlainKind_b19 {κ : gK} {B : Nat} {u : gM} (X : gX κ B skC cX11_isPlainKind 1 RX11 (some .boolean) 0 0)   {s0 : Int32} {w : Int32} (hM : X11_isPlainKind_b19 u s0 = some w) : gV κ B skC 1 ((some (.int w)), u) 19 [none] [.int s0] u := by
  unfold X11_isPlainKind_b19 at hM
  obtain ⟨hv, rfl⟩ := bI_of hM
  exact g_zret X hv dX11_isPlainKind_19
set_option maxRecDepth 20000 in
theorem v_X11_isPlainKind_b14 {κ : gK} {B : Nat} {u : gM} (X : gX κ B skC cX11_isPlainKind 1 RX11 (some .boolean) 0 0)    {w : Int32} (hM : X11_isPlainKind_b14 u = some w) : gV κ B skC 1 ((some (.int w)), u) 14 [none] [] u := by
  unfold X11_isPlainKind_b14 at hM
  refine g_iconst X (v := 1) dX11_isPlainKind_14 (by decide) ?_
  refine g_goto (tgt := 19) X dX11_isPlainKind_15 (by decide) ?_
  refine g_mk [false] [none] rfl ?_
  exact v_X11_isPlainKind_b19 X  hM
set_option maxRecDepth 20000 in
theorem v_X11_isPlainKind {κ : gK} {B : Nat} {u : gM} (X : gX κ B skC cX11_isPlainKind 1 RX11 (some .boolean) 0 0)   {x0 : Int32} {w : Int32} (hM : X11_isPlainKind u x0 = some w) : gV κ B skC 1 ((some (.int w)), u) 0 [some (.int x0)] [] u := by
  unfold X11_isPlainKind at hM
  refine g_iload_n X dX11_isPlainKind_0 rfl ?_
  refine g_if_eq (tgt := 14) X dX11_isPlainKind_1 (by decide) (fun c1 => ?_) (fun c1 => ?_)
  · rw [if_pos c1] at hM
    refine g_mk [false] [none] rfl ?_
    exact v_X11_isPlainKind_b14 X  hM
  · rw [if_neg c1] at hM
    refine g_iload_n X dX11_isPlainKind_4 rfl ?_
    refine g_iconst X (v := 3) dX11_isPlainKind_5 (by decide) ?_
    refine g_icmp_eq (tgt := 14) X dX11_isPlainKind_6 (by decide) (fun c6 => ?_) (fun c6 => ?_)
    · rw [if_pos c6] at hM
      refine g_mk [false] [none] rfl ?_
      exact v_X11_isPlainKind_b14 X  hM
    · rw [if_neg c6] at hM
      refine g_iload_n X dX11_isPlainKind_9 rfl ?_
      refine g_iconst X (v := 4) dX11_isPlainKind_10 (by decide) ?_
      refine g_icmp_ne (tgt := 18) X dX11_isPlainKind_11 (by decide) (fun c11 => ?_) (fun c11 => ?_)
      · rw [if_neg c11] at hM
        refine g_iconst X (v := 0) dX11_isPlainKind_18 (by decide) ?_
        refine g_mk [false] [none] rfl ?_
        exact v_X11_isPlainKind_b19 X  hM
      · rw [if_pos c11] at hM
        refine g_mk [false] [none] rfl ?_
        exact v_X11_isPlainKind_b14 X  hM
theorem s_X11_isPlainKind {x0 : Int32} {u : gM} {w : Int32} (hM : X11_isPlainKind u x0 = some w) : gMet skC yX11_isPlainKind cX11_isPlainKind 1 (some .boolean) 0 0 (fun B adK => [.int x0]) u ((fun _ => some (.int w)), u) := by
  refine gMet.of (by decide) (fun _ _ => Nat.le_of_ble_eq_true rfl) (fun κ B X => ?_)
  have X : gX κ B skC cX11_isPlainKind 1 RX11 (some .boolean) 0 0 := X
  refine g_mk [true] [some (.int x0)] rfl ?_
  exact v_X11_isPlainKind X  hM

/-! CoverDesk$Cover.insuredOfAll()J -/
theorem dX1_insuredOfAll_0 : decode cX1_insuredOfAll 0 = .ok (.lconst 0, 1) := by decide +kernel
theorem dX1_insuredOfAll_1 : decode cX1_insuredOfAll 1 = .ok (.lstore_n 1, 1) := by decide +kernel
theorem dX1_insuredOfAll_2 : decode cX1_insuredOfAll 2 = .ok (.iconst 0, 1) := by decide +kernel
theorem dX1_insuredOfAll_3 : decode cX1_insuredOfAll 3 = .ok (.istore_n 3, 1) := by decide +kernel
theorem dX1_insuredOfAll_4 : decode cX1_insuredOfAll 4 = .ok (.iload_n 3, 1) := by decide +kernel
theorem dX1_insuredOfAll_5 : decode cX1_insuredOfAll 5 = .ok (.aload_n 0, 1) := by decide +kernel
theorem dX1_insuredOfAll_6 : decode cX1_insuredOfAll 6 = .ok (.getfield 32, 3) := by decide +kernel
theorem dX1_insuredOfAll_9 : decode cX1_insuredOfAll 9 = .ok (.getfield 82, 3) := by decide +kernel
theorem dX1_insuredOfAll_12 : decode cX1_insuredOfAll 12 = .ok (.if_icmp .ge 18, 3) := by decide +kernel
theorem dX1_insuredOfAll_15 : decode cX1_insuredOfAll 15 = .ok (.lload_n 1, 1) := by decide +kernel
theorem dX1_insuredOfAll_16 : decode cX1_insuredOfAll 16 = .ok (.aload_n 0, 1) := by decide +kernel
theorem dX1_insuredOfAll_17 : decode cX1_insuredOfAll 17 = .ok (.iload_n 3, 1) := by decide +kernel
theorem dX1_insuredOfAll_18 : decode cX1_insuredOfAll 18 = .ok (.invokevirtual 159, 3) := by decide +kernel
theorem dX1_insuredOfAll_21 : decode cX1_insuredOfAll 21 = .ok (.i2l, 1) := by decide +kernel
theorem dX1_insuredOfAll_22 : decode cX1_insuredOfAll 22 = .ok (.ladd, 1) := by decide +kernel
theorem dX1_insuredOfAll_23 : decode cX1_insuredOfAll 23 = .ok (.lstore_n 1, 1) := by decide +kernel
theorem dX1_insuredOfAll_24 : decode cX1_insuredOfAll 24 = .ok (.iinc 3 1, 3) := by decide +kernel
theorem dX1_insuredOfAll_27 : decode cX1_insuredOfAll 27 = .ok (.goto (-23), 3) := by decide +kernel
theorem dX1_insuredOfAll_30 : decode cX1_insuredOfAll 30 = .ok (.lload_n 1, 1) := by decide +kernel
theorem dX1_insuredOfAll_31 : decode cX1_insuredOfAll 31 = .ok (.lreturn, 1) := by decide +kernel
def X1_insuredOfAll_b4 (u : gM) (k4 : Int64 → Int32 → Option Int64) (x1 : Int64) (x3 : Int32) : Option Int64 :=
(if (u.1 3 2) ≤ x3 then some x1
  else ((X1_insuredOfAccount u x3).bind fun w18 => (k4 (x1 + w18.toInt64) (x3 + 1))))
def X1_insuredOfAll_l4 (u : gM)  : Nat → Int64 → Int32 → Option Int64
  | 0, _, _ => none
  | n + 1, x1, x3 => X1_insuredOfAll_b4 u  (X1_insuredOfAll_l4 u  n) x1 x3
def X1_insuredOfAll (u : gM)   : Option Int64 :=
(X1_insuredOfAll_l4 u fz 0 0)
set_option maxRecDepth 20000 in
theorem v_X1_insuredOfAll_b4 {κ : gK} {B : Nat} {u : gM} (X : gX κ B skC cX1_insuredOfAll 4 RX1 (some .long) 1 23) {k4 : Int64 → Int32 → Option Int64} (ih4 : ∀ (x1 : Int64) (x3 : Int32) (w : Int64), k4 x1 x3 = some w → gV κ B skC 4 ((some (.long w)), u) 4 [some (.ref (B + 136)), some (.long x1), none, some (.int x3)] [] u) {x1 : Int64} {x3 : Int32} {w : Int64} (hM : X1_insuredOfAll_b4 u k4 x1 x3 = some w) : gV κ B skC 4 ((some (.long w)), u) 4 [some (.ref (B + 136)), some (.long x1), none, some (.int x3)] [] u := by
  unfold X1_insuredOfAll_b4 at hM
  refine g_iload_n X dX1_insuredOfAll_4 rfl ?_
  refine g_aload_n X dX1_insuredOfAll_5 rfl ?_
  refine g_getR X fX1_32 cC_136 rfl dX1_insuredOfAll_6 ?_
  refine g_getI X fX1_82 cC_3 rfl dX1_insuredOfAll_9 ?_
  refine g_icmp_ge (tgt := 30) X dX1_insuredOfAll_12 (by decide) (fun c12 => ?_) (fun c12 => ?_)
  · rw [if_pos c12] at hM
    refine g_lload_n X dX1_insuredOfAll_30 rfl ?_
    cases hM
    exact g_lret X dX1_insuredOfAll_31
  · rw [if_neg c12] at hM
    refine g_lload_n X dX1_insuredOfAll_15 rfl ?_
    refine g_aload_n X dX1_insuredOfAll_16 rfl ?_
    refine g_iload_n X dX1_insuredOfAll_17 rfl ?_
    obtain ⟨w18, e18, hM⟩ := bind_of hM
    refine g_callVi X (fun B adK => [.int x3]) (s_X1_insuredOfAccount e18) cvX1_159 cC_136 rfl rfl (Nat.le_of_ble_eq_true rfl) ⟨by decide, by decide⟩ dX1_insuredOfAll_18 ?_
    refine g_i2l X dX1_insuredOfAll_21 ?_
    refine g_ladd X dX1_insuredOfAll_22 ?_
    refine g_lstore_n X [some (.ref (B + 136)), some (.long (x1 + w18.toInt64)), none, some (.int x3)] dX1_insuredOfAll_23 (by decide) rfl ?_
    refine g_iinc (d := 1) X [some (.ref (B + 136)), some (.long (x1 + w18.toInt64)), none, some (.int (x3 + 1))] dX1_insuredOfAll_24 (by decide) rfl (by decide) rfl ?_
    refine g_goto (tgt := 4) X dX1_insuredOfAll_27 (by decide) ?_
    refine g_mk [true, true, false, true] [some (.ref (B + 136)), some (.long (x1 + w18.toInt64)), none, some (.int (x3 + 1))] rfl ?_
    exact ih4 (x1 + w18.toInt64) (x3 + 1) _ hM
theorem v_X1_insuredOfAll_l4 {κ : gK} {B : Nat} {u : gM} (X : gX κ B skC cX1_insuredOfAll 4 RX1 (some .long) 1 23)   : ∀ (n : Nat) {x1 : Int64} {x3 : Int32} {w : Int64} (hM : X1_insuredOfAll_l4 u  n x1 x3 = some w), gV κ B skC 4 ((some (.long w)), u) 4 [some (.ref (B + 136)), some (.long x1), none, some (.int x3)] [] u := by
  intro n
  induction n with
  | zero => intro x1 x3 w hM; exact nomatch (show (none : Option Int64) = some w from hM)
  | succ n ihn => intro x1 x3 w hM; exact v_X1_insuredOfAll_b4 X  (fun x1 x3 w h => ihn h) hM
set_option maxRecDepth 20000 in
theorem v_X1_insuredOfAll {κ : gK} {B : Nat} {u : gM} (X : gX κ B skC cX1_insuredOfAll 4 RX1 (some .long) 1 23)    {w : Int64} (hM : X1_insuredOfAll u = some w) : gV κ B skC 4 ((some (.long w)), u) 0 [some (.ref (B + 136)), none, none, none] [] u := by
  unfold X1_insuredOfAll at hM
  refine g_lconst (v := 0) X dX1_insuredOfAll_0 (by decide) ?_
  refine g_lstore_n X [some (.ref (B + 136)), some (.long 0), none, none] dX1_insuredOfAll_1 (by decide) rfl ?_
  refine g_iconst X (v := 0) dX1_insuredOfAll_2 (by decide) ?_
  refine g_istore_n X [some (.ref (B + 136)), some (.long 0), none, some (.int 0)] dX1_insuredOfAll_3 (by decide) rfl ?_
  refine g_mk [true, true, false, true] [some (.ref (B + 136)), some (.long 0), none, some (.int 0)] rfl ?_
  exact v_X1_insuredOfAll_l4 X  fz hM
theorem s_X1_insuredOfAll  {u : gM} {w : Int64} (hM : X1_insuredOfAll u = some w) : gMet skC yX1_insuredOfAll cX1_insuredOfAll 4 (some .long) 1 23 (fun B adK => [.ref (B + 136)]) u ((fun _ => some (.long w)), u) := by
  refine gMet.of (by decide) (fun _ _ => Nat.le_of_ble_eq_true rfl) (fun κ B X => ?_)
  have X : gX κ B skC cX1_insuredOfAll 4 RX1 (some .long) 1 23 := X
  refine g_mk [true, false, false, false] [some (.ref (B + 136)), none, none, none] rfl ?_
  exact v_X1_insuredOfAll X  hM

/-! CoverDesk.insuredAsKind(II)J -/
theorem dX11_insuredAsKind_0 : decode cX11_insuredAsKind 0 = .ok (.aload_n 0, 1) := by decide +kernel
theorem dX11_insuredAsKind_1 : decode cX11_insuredAsKind 1 = .ok (.getfield 19, 3) := by decide +kernel
theorem dX11_insuredAsKind_4 : decode cX11_insuredAsKind 4 = .ok (.getfield 181, 3) := by decide +kernel
theorem dX11_insuredAsKind_7 : decode cX11_insuredAsKind 7 = .ok (.iload_n 1, 1) := by decide +kernel
theorem dX11_insuredAsKind_8 : decode cX11_insuredAsKind 8 = .ok (.iaload, 1) := by decide +kernel
theorem dX11_insuredAsKind_9 : decode cX11_insuredAsKind 9 = .ok (.istore_n 3, 1) := by decide +kernel
theorem dX11_insuredAsKind_10 : decode cX11_insuredAsKind 10 = .ok (.aload_n 0, 1) := by decide +kernel
theorem dX11_insuredAsKind_11 : decode cX11_insuredAsKind 11 = .ok (.getfield 19, 3) := by decide +kernel
theorem dX11_insuredAsKind_14 : decode cX11_insuredAsKind 14 = .ok (.getfield 181, 3) := by decide +kernel
theorem dX11_insuredAsKind_17 : decode cX11_insuredAsKind 17 = .ok (.iload_n 1, 1) := by decide +kernel
theorem dX11_insuredAsKind_18 : decode cX11_insuredAsKind 18 = .ok (.iload_n 2, 1) := by decide +kernel
theorem dX11_insuredAsKind_19 : decode cX11_insuredAsKind 19 = .ok (.iastore, 1) := by decide +kernel
theorem dX11_insuredAsKind_20 : decode cX11_insuredAsKind 20 = .ok (.aload_n 0, 1) := by decide +kernel
theorem dX11_insuredAsKind_21 : decode cX11_insuredAsKind 21 = .ok (.getfield 60, 3) := by decide +kernel
theorem dX11_insuredAsKind_24 : decode cX11_insuredAsKind 24 = .ok (.aload_n 0, 1) := by decide +kernel
theorem dX11_insuredAsKind_25 : decode cX11_insuredAsKind 25 = .ok (.getfield 26, 3) := by decide +kernel
theorem dX11_insuredAsKind_28 : decode cX11_insuredAsKind 28 = .ok (.getfield 191, 3) := by decide +kernel
theorem dX11_insuredAsKind_31 : decode cX11_insuredAsKind 31 = .ok (.invokevirtual 210, 3) := by decide +kernel
theorem dX11_insuredAsKind_34 : decode cX11_insuredAsKind 34 = .ok (.aload_n 0, 1) := by decide +kernel
theorem dX11_insuredAsKind_35 : decode cX11_insuredAsKind 35 = .ok (.getfield 19, 3) := by decide +kernel
theorem dX11_insuredAsKind_38 : decode cX11_insuredAsKind 38 = .ok (.getfield 181, 3) := by decide +kernel
theorem dX11_insuredAsKind_41 : decode cX11_insuredAsKind 41 = .ok (.iload_n 1, 1) := by decide +kernel
theorem dX11_insuredAsKind_42 : decode cX11_insuredAsKind 42 = .ok (.iload_n 3, 1) := by decide +kernel
theorem dX11_insuredAsKind_43 : decode cX11_insuredAsKind 43 = .ok (.iastore, 1) := by decide +kernel
theorem dX11_insuredAsKind_44 : decode cX11_insuredAsKind 44 = .ok (.aload_n 0, 1) := by decide +kernel
theorem dX11_insuredAsKind_45 : decode cX11_insuredAsKind 45 = .ok (.getfield 60, 3) := by decide +kernel
theorem dX11_insuredAsKind_48 : decode cX11_insuredAsKind 48 = .ok (.invokevirtual 384, 3) := by decide +kernel
theorem dX11_insuredAsKind_51 : decode cX11_insuredAsKind 51 = .ok (.lreturn, 1) := by decide +kernel
def X11_insuredAsKind  (x1 : Int32) (x2 : Int32) (u : gM) : Option (Int64 × gM) :=
((aI skC u 7 x1).bind fun v8 => ((sI skC u 7 x1 x2).bind fun u19 => ((X1_insure (u19.1 18 0) u19).bind fun w31 => ((sI skC w31 7 x1 v8).bind fun u43 => ((X1_insuredOfAll u43).bind fun w48 => some (w48, u43))))))
set_option maxRecDepth 20000 in
theorem v_X11_insuredAsKind {κ : gK} {B : Nat} {u : gM} (X : gX κ B skC cX11_insuredAsKind 4 RX11 (some .long) 5 122)   {x1 : Int32} {x2 : Int32} {w : (Int64 × gM)} (hM : X11_insuredAsKind x1 x2 u = some w) : gV κ B skC 4 ((some (.long w.1)), w.2) 0 [some (.ref (B + 0)), some (.int x1), some (.int x2), none] [] u := by
  unfold X11_insuredAsKind at hM
  refine g_aload_n X dX11_insuredAsKind_0 rfl ?_
  refine g_getR X fX11_19 cC_0 rfl dX11_insuredAsKind_1 ?_
  refine g_getR X fX11_181 cC_3 rfl dX11_insuredAsKind_4 ?_
  refine g_iload_n X dX11_insuredAsKind_7 rfl ?_
  obtain ⟨v8, e8, hM⟩ := bind_of hM
  refine g_iaload X e8 dX11_insuredAsKind_8 ?_
  refine g_istore_n X [some (.ref (B + 0)), some (.int x1), some (.int x2), some (.int v8)] dX11_insuredAsKind_9 (by decide) rfl ?_
  refine g_aload_n X dX11_insuredAsKind_10 rfl ?_
  refine g_getR X fX11_19 cC_0 rfl dX11_insuredAsKind_11 ?_
  refine g_getR X fX11_181 cC_3 rfl dX11_insuredAsKind_14 ?_
  refine g_iload_n X dX11_insuredAsKind_17 rfl ?_
  refine g_iload_n X dX11_insuredAsKind_18 rfl ?_
  obtain ⟨u19, e19, hM⟩ := bind_of hM
  refine g_iastore X e19 dX11_insuredAsKind_19 ?_
  refine g_aload_n X dX11_insuredAsKind_20 rfl ?_
  refine g_getR X fX11_60 cC_0 rfl dX11_insuredAsKind_21 ?_
  refine g_aload_n X dX11_insuredAsKind_24 rfl ?_
  refine g_getR X fX11_26 cC_0 rfl dX11_insuredAsKind_25 ?_
  refine g_getI X fX11_191 cC_18 rfl dX11_insuredAsKind_28 ?_
  obtain ⟨w31, e31, hM⟩ := bind_of hM
  refine g_callVv X (fun B adK => [.int (u19.1 18 0)]) (s_X1_insure e31) cvX11_210 cC_136 rfl rfl (Nat.le_of_ble_eq_true rfl) ⟨by decide, by decide⟩ dX11_insuredAsKind_31 ?_
  refine g_aload_n X dX11_insuredAsKind_34 rfl ?_
  refine g_getR X fX11_19 cC_0 rfl dX11_insuredAsKind_35 ?_
  refine g_getR X fX11_181 cC_3 rfl dX11_insuredAsKind_38 ?_
  refine g_iload_n X dX11_insuredAsKind_41 rfl ?_
  refine g_iload_n X dX11_insuredAsKind_42 rfl ?_
  obtain ⟨u43, e43, hM⟩ := bind_of hM
  refine g_iastore X e43 dX11_insuredAsKind_43 ?_
  refine g_aload_n X dX11_insuredAsKind_44 rfl ?_
  refine g_getR X fX11_60 cC_0 rfl dX11_insuredAsKind_45 ?_
  obtain ⟨w48, e48, hM⟩ := bind_of hM
  refine g_callVl X (fun B adK => []) (s_X1_insuredOfAll e48) cvX11_384 cC_136 rfl rfl (Nat.le_of_ble_eq_true rfl) ⟨by decide, by decide⟩ dX11_insuredAsKind_48 ?_
  cases hM
  exact g_lret X dX11_insuredAsKind_51
theorem s_X11_insuredAsKind {x1 : Int32} {x2 : Int32} {u : gM} {w : (Int64 × gM)} (hM : X11_insuredAsKind x1 x2 u = some w) : gMet skC yX11_insuredAsKind cX11_insuredAsKind 4 (some .long) 5 122 (fun B adK => [.ref (B + 0), .int x1, .int x2]) u ((fun _ => some (.long w.1)), w.2) := by
  refine gMet.of (by decide) (fun _ _ => Nat.le_of_ble_eq_true rfl) (fun κ B X => ?_)
  have X : gX κ B skC cX11_insuredAsKind 4 RX11 (some .long) 5 122 := X
  refine g_mk [true, true, true, false] [some (.ref (B + 0)), some (.int x1), some (.int x2), none] rfl ?_
  exact v_X11_insuredAsKind X  hM
theorem fr_X11_insuredAsKind {S : Nat → Prop} {u0 u : gM} {x1 : Int32} {x2 : Int32} (hs0 : S (rf skC 138 2)) (hs1 : S (rf skC 138 3)) (hs2 : S (rf skC 138 4)) (hs3 : S 137) (hs4 : S 138) (hs5 : S 142) (hs6 : S 143) (hs7 : S 144) (hs8 : S 7)   {w : (Int64 × gM)} (hM : X11_insuredAsKind x1 x2 u = some w) (h0 : off S u0 u) : off S u0 w.2 := by
  unfold X11_insuredAsKind at hM
  obtain ⟨v8, e8, hM⟩ := bind_of hM
  obtain ⟨u19, e19, hM⟩ := bind_of hM
  have h0 := off_sI hs8 e19 h0
  obtain ⟨w31, e31, hM⟩ := bind_of hM
  have h0 := fr_X1_insure hs0 hs1 hs2 hs3 hs4 hs5 hs6 hs7 e31 h0
  obtain ⟨u43, e43, hM⟩ := bind_of hM
  have h0 := off_sI hs8 e43 h0
  obtain ⟨w48, e48, hM⟩ := bind_of hM
  cases hM
  exact h0
/-! CoverDesk.asKind(II)J -/
theorem dX11_asKind_0 : decode cX11_asKind 0 = .ok (.aload_n 0, 1) := by decide +kernel
theorem dX11_asKind_1 : decode cX11_asKind 1 = .ok (.getfield 19, 3) := by decide +kernel
theorem dX11_asKind_4 : decode cX11_asKind 4 = .ok (.iload_n 1, 1) := by decide +kernel
theorem dX11_asKind_5 : decode cX11_asKind 5 = .ok (.invokevirtual 177, 3) := by decide +kernel
theorem dX11_asKind_8 : decode cX11_asKind 8 = .ok (.ifCond .eq 38, 3) := by decide +kernel
theorem dX11_asKind_11 : decode cX11_asKind 11 = .ok (.aload_n 0, 1) := by decide +kernel
theorem dX11_asKind_12 : decode cX11_asKind 12 = .ok (.getfield 19, 3) := by decide +kernel
theorem dX11_asKind_15 : decode cX11_asKind 15 = .ok (.getfield 181, 3) := by decide +kernel
theorem dX11_asKind_18 : decode cX11_asKind 18 = .ok (.iload_n 1, 1) := by decide +kernel
theorem dX11_asKind_19 : decode cX11_asKind 19 = .ok (.iaload, 1) := by decide +kernel
theorem dX11_asKind_20 : decode cX11_asKind 20 = .ok (.invokestatic 368, 3) := by decide +kernel
theorem dX11_asKind_23 : decode cX11_asKind 23 = .ok (.ifCond .eq 23, 3) := by decide +kernel
theorem dX11_asKind_26 : decode cX11_asKind 26 = .ok (.iload_n 2, 1) := by decide +kernel
theorem dX11_asKind_27 : decode cX11_asKind 27 = .ok (.invokestatic 368, 3) := by decide +kernel
theorem dX11_asKind_30 : decode cX11_asKind 30 = .ok (.ifCond .eq 16, 3) := by decide +kernel
theorem dX11_asKind_33 : decode cX11_asKind 33 = .ok (.iload_n 2, 1) := by decide +kernel
theorem dX11_asKind_34 : decode cX11_asKind 34 = .ok (.aload_n 0, 1) := by decide +kernel
theorem dX11_asKind_35 : decode cX11_asKind 35 = .ok (.getfield 19, 3) := by decide +kernel
theorem dX11_asKind_38 : decode cX11_asKind 38 = .ok (.getfield 181, 3) := by decide +kernel
theorem dX11_asKind_41 : decode cX11_asKind 41 = .ok (.iload_n 1, 1) := by decide +kernel
theorem dX11_asKind_42 : decode cX11_asKind 42 = .ok (.iaload, 1) := by decide +kernel
theorem dX11_asKind_43 : decode cX11_asKind 43 = .ok (.if_icmp .ne 7, 3) := by decide +kernel
theorem dX11_asKind_46 : decode cX11_asKind 46 = .ok (.ldc2_w 382, 3) := by decide +kernel
theorem dX11_asKind_49 : decode cX11_asKind 49 = .ok (.lreturn, 1) := by decide +kernel
theorem dX11_asKind_50 : decode cX11_asKind 50 = .ok (.aload_n 0, 1) := by decide +kernel
theorem dX11_asKind_51 : decode cX11_asKind 51 = .ok (.iload_n 1, 1) := by decide +kernel
theorem dX11_asKind_52 : decode cX11_asKind 52 = .ok (.iload_n 2, 1) := by decide +kernel
theorem dX11_asKind_53 : decode cX11_asKind 53 = .ok (.invokevirtual 371, 3) := by decide +kernel
theorem dX11_asKind_56 : decode cX11_asKind 56 = .ok (.aload_n 0, 1) := by decide +kernel
theorem dX11_asKind_57 : decode cX11_asKind 57 = .ok (.iload_n 1, 1) := by decide +kernel
theorem dX11_asKind_58 : decode cX11_asKind 58 = .ok (.aload_n 0, 1) := by decide +kernel
theorem dX11_asKind_59 : decode cX11_asKind 59 = .ok (.getfield 19, 3) := by decide +kernel
theorem dX11_asKind_62 : decode cX11_asKind 62 = .ok (.getfield 181, 3) := by decide +kernel
theorem dX11_asKind_65 : decode cX11_asKind 65 = .ok (.iload_n 1, 1) := by decide +kernel
theorem dX11_asKind_66 : decode cX11_asKind 66 = .ok (.iaload, 1) := by decide +kernel
theorem dX11_asKind_67 : decode cX11_asKind 67 = .ok (.invokevirtual 371, 3) := by decide +kernel
theorem dX11_asKind_70 : decode cX11_asKind 70 = .ok (.lsub, 1) := by decide +kernel
theorem dX11_asKind_71 : decode cX11_asKind 71 = .ok (.lreturn, 1) := by decide +kernel
def X11_asKind_b46   (u : gM) : Option (Int64 × gM) :=
some ((-9223372036854775808), u)
def X11_asKind  (x1 : Int32) (x2 : Int32) (u : gM) : Option (Int64 × gM) :=
((X10_isAccount u 3 x1).bind fun w5 => (if w5 = 0 then (X11_asKind_b46 u)
  else ((aI skC u 7 x1).bind fun v19 => ((X11_isPlainKind u v19).bind fun w20 => (if w20 = 0 then (X11_asKind_b46 u)
    else ((X11_isPlainKind u x2).bind fun w27 => (if w27 = 0 then (X11_asKind_b46 u)
      else ((aI skC u 7 x1).bind fun v42 => (if x2 = v42 then (X11_asKind_b46 u)
        else ((X11_insuredAsKind x1 x2 u).bind fun w53 => ((aI skC w53.2 7 x1).bind fun v66 => ((X11_insuredAsKind x1 v66 w53.2).bind fun w67 => some ((w53.1 - w67.1), w67.2)))))))))))))
set_option maxRecDepth 20000 in
theorem v_X11_asKind_b46 {κ : gK} {B : Nat} {u : gM} (X : gX κ B skC cX11_asKind 3 RX11 (some .long) 6 145)    {w : (Int64 × gM)} (hM : X11_asKind_b46 u = some w) : gV κ B skC 3 ((some (.long w.1)), w.2) 46 [none, none, none] [] u := by
  unfold X11_asKind_b46 at hM
  refine g_ldc2 (v := (-9223372036854775808)) X m_60_19 dX11_asKind_46 ?_
  cases hM
  exact g_lret X dX11_asKind_49
set_option maxRecDepth 20000 in
theorem v_X11_asKind {κ : gK} {B : Nat} {u : gM} (X : gX κ B skC cX11_asKind 3 RX11 (some .long) 6 145)   {x1 : Int32} {x2 : Int32} {w : (Int64 × gM)} (hM : X11_asKind x1 x2 u = some w) : gV κ B skC 3 ((some (.long w.1)), w.2) 0 [some (.ref (B + 0)), some (.int x1), some (.int x2)] [] u := by
  unfold X11_asKind at hM
  refine g_aload_n X dX11_asKind_0 rfl ?_
  refine g_getR X fX11_19 cC_0 rfl dX11_asKind_1 ?_
  refine g_iload_n X dX11_asKind_4 rfl ?_
  obtain ⟨w5, e5, hM⟩ := bind_of hM
  refine g_callVi X (fun B adK => [.int x1]) (s_X10_isAccount e5) cvX11_177 cC_3 rfl rfl (Nat.le_of_ble_eq_true rfl) ⟨by decide, by decide⟩ dX11_asKind_5 ?_
  refine g_if_eq (tgt := 46) X dX11_asKind_8 (by decide) (fun c8 => ?_) (fun c8 => ?_)
  · rw [if_pos c8] at hM
    refine g_mk [false, false, false] [none, none, none] rfl ?_
    exact v_X11_asKind_b46 X  hM
  · rw [if_neg c8] at hM
    refine g_aload_n X dX11_asKind_11 rfl ?_
    refine g_getR X fX11_19 cC_0 rfl dX11_asKind_12 ?_
    refine g_getR X fX11_181 cC_3 rfl dX11_asKind_15 ?_
    refine g_iload_n X dX11_asKind_18 rfl ?_
    obtain ⟨v19, e19, hM⟩ := bind_of hM
    refine g_iaload X e19 dX11_asKind_19 ?_
    obtain ⟨w20, e20, hM⟩ := bind_of hM
    refine g_callSi X (fun B adK => [.int v19]) (s_X11_isPlainKind e20) cvX11_368 rfl rfl (Nat.le_of_ble_eq_true rfl) ⟨by decide, by decide⟩ dX11_asKind_20 ?_
    refine g_if_eq (tgt := 46) X dX11_asKind_23 (by decide) (fun c23 => ?_) (fun c23 => ?_)
    · rw [if_pos c23] at hM
      refine g_mk [false, false, false] [none, none, none] rfl ?_
      exact v_X11_asKind_b46 X  hM
    · rw [if_neg c23] at hM
      refine g_iload_n X dX11_asKind_26 rfl ?_
      obtain ⟨w27, e27, hM⟩ := bind_of hM
      refine g_callSi X (fun B adK => [.int x2]) (s_X11_isPlainKind e27) cvX11_368 rfl rfl (Nat.le_of_ble_eq_true rfl) ⟨by decide, by decide⟩ dX11_asKind_27 ?_
      refine g_if_eq (tgt := 46) X dX11_asKind_30 (by decide) (fun c30 => ?_) (fun c30 => ?_)
      · rw [if_pos c30] at hM
        refine g_mk [false, false, false] [none, none, none] rfl ?_
        exact v_X11_asKind_b46 X  hM
      · rw [if_neg c30] at hM
        refine g_iload_n X dX11_asKind_33 rfl ?_
        refine g_aload_n X dX11_asKind_34 rfl ?_
        refine g_getR X fX11_19 cC_0 rfl dX11_asKind_35 ?_
        refine g_getR X fX11_181 cC_3 rfl dX11_asKind_38 ?_
        refine g_iload_n X dX11_asKind_41 rfl ?_
        obtain ⟨v42, e42, hM⟩ := bind_of hM
        refine g_iaload X e42 dX11_asKind_42 ?_
        refine g_icmp_ne (tgt := 50) X dX11_asKind_43 (by decide) (fun c43 => ?_) (fun c43 => ?_)
        · rw [if_neg c43] at hM
          refine g_aload_n X dX11_asKind_50 rfl ?_
          refine g_iload_n X dX11_asKind_51 rfl ?_
          refine g_iload_n X dX11_asKind_52 rfl ?_
          obtain ⟨w53, e53, hM⟩ := bind_of hM
          refine g_callVl X (fun B adK => [.int x1, .int x2]) (s_X11_insuredAsKind e53) cvX11_371 cC_0 rfl rfl (Nat.le_of_ble_eq_true rfl) ⟨by decide, by decide⟩ dX11_asKind_53 ?_
          refine g_aload_n X dX11_asKind_56 rfl ?_
          refine g_iload_n X dX11_asKind_57 rfl ?_
          refine g_aload_n X dX11_asKind_58 rfl ?_
          refine g_getR X fX11_19 cC_0 rfl dX11_asKind_59 ?_
          refine g_getR X fX11_181 cC_3 rfl dX11_asKind_62 ?_
          refine g_iload_n X dX11_asKind_65 rfl ?_
          obtain ⟨v66, e66, hM⟩ := bind_of hM
          refine g_iaload X e66 dX11_asKind_66 ?_
          obtain ⟨w67, e67, hM⟩ := bind_of hM
          refine g_callVl X (fun B adK => [.int x1, .int v66]) (s_X11_insuredAsKind e67) cvX11_371 cC_0 rfl rfl (Nat.le_of_ble_eq_true rfl) ⟨by decide, by decide⟩ dX11_asKind_67 ?_
          refine g_lsub X dX11_asKind_70 ?_
          cases hM
          exact g_lret X dX11_asKind_71
        · rw [if_pos c43] at hM
          refine g_mk [false, false, false] [none, none, none] rfl ?_
          exact v_X11_asKind_b46 X  hM
theorem s_X11_asKind {x1 : Int32} {x2 : Int32} {u : gM} {w : (Int64 × gM)} (hM : X11_asKind x1 x2 u = some w) : gMet skC yX11_asKind cX11_asKind 3 (some .long) 6 145 (fun B adK => [.ref (B + 0), .int x1, .int x2]) u ((fun _ => some (.long w.1)), w.2) := by
  refine gMet.of (by decide) (fun _ _ => Nat.le_of_ble_eq_true rfl) (fun κ B X => ?_)
  have X : gX κ B skC cX11_asKind 3 RX11 (some .long) 6 145 := X
  refine g_mk [true, true, true] [some (.ref (B + 0)), some (.int x1), some (.int x2)] rfl ?_
  exact v_X11_asKind X  hM
theorem fr_X11_asKind_b46 {S : Nat → Prop} {u0 u : gM}     {w : (Int64 × gM)} (hM : X11_asKind_b46 u = some w) (h0 : off S u0 u) : off S u0 w.2 := by
  unfold X11_asKind_b46 at hM
  cases hM
  exact h0
theorem fr_X11_asKind {S : Nat → Prop} {u0 u : gM} {x1 : Int32} {x2 : Int32} (hs0 : S (rf skC 138 2)) (hs1 : S (rf skC 138 3)) (hs2 : S (rf skC 138 4)) (hs3 : S 137) (hs4 : S 138) (hs5 : S 142) (hs6 : S 143) (hs7 : S 144) (hs8 : S 7)   {w : (Int64 × gM)} (hM : X11_asKind x1 x2 u = some w) (h0 : off S u0 u) : off S u0 w.2 := by
  unfold X11_asKind at hM
  obtain ⟨w5, e5, hM⟩ := bind_of hM
  by_cases c8 : w5 = 0
  · rw [if_pos c8] at hM
    exact fr_X11_asKind_b46   hM h0
  · rw [if_neg c8] at hM
    obtain ⟨v19, e19, hM⟩ := bind_of hM
    obtain ⟨w20, e20, hM⟩ := bind_of hM
    by_cases c23 : w20 = 0
    · rw [if_pos c23] at hM
      exact fr_X11_asKind_b46   hM h0
    · rw [if_neg c23] at hM
      obtain ⟨w27, e27, hM⟩ := bind_of hM
      by_cases c30 : w27 = 0
      · rw [if_pos c30] at hM
        exact fr_X11_asKind_b46   hM h0
      · rw [if_neg c30] at hM
        obtain ⟨v42, e42, hM⟩ := bind_of hM
        by_cases c43 : x2 = v42
        · rw [if_pos c43] at hM
          exact fr_X11_asKind_b46   hM h0
        · rw [if_neg c43] at hM
          obtain ⟨w53, e53, hM⟩ := bind_of hM
          have h0 := fr_X11_insuredAsKind hs0 hs1 hs2 hs3 hs4 hs5 hs6 hs7 hs8 e53 h0
          obtain ⟨v66, e66, hM⟩ := bind_of hM
          obtain ⟨w67, e67, hM⟩ := bind_of hM
          have h0 := fr_X11_insuredAsKind hs0 hs1 hs2 hs3 hs4 hs5 hs6 hs7 hs8 e67 h0
          cases hM
          exact h0
/-! CoverDesk$Told.isBank(I)Z -/
theorem dX10_isBank_0 : decode cX10_isBank 0 = .ok (.iload_n 1, 1) := by decide +kernel
theorem dX10_isBank_1 : decode cX10_isBank 1 = .ok (.ifCond .lt 15, 3) := by decide +kernel
theorem dX10_isBank_4 : decode cX10_isBank 4 = .ok (.iload_n 1, 1) := by decide +kernel
theorem dX10_isBank_5 : decode cX10_isBank 5 = .ok (.aload_n 0, 1) := by decide +kernel
theorem dX10_isBank_6 : decode cX10_isBank 6 = .ok (.getfield 66, 3) := by decide +kernel
theorem dX10_isBank_9 : decode cX10_isBank 9 = .ok (.if_icmp .ge 7, 3) := by decide +kernel
theorem dX10_isBank_12 : decode cX10_isBank 12 = .ok (.iconst 1, 1) := by decide +kernel
theorem dX10_isBank_13 : decode cX10_isBank 13 = .ok (.goto 4, 3) := by decide +kernel
theorem dX10_isBank_16 : decode cX10_isBank 16 = .ok (.iconst 0, 1) := by decide +kernel
theorem dX10_isBank_17 : decode cX10_isBank 17 = .ok (.ireturn, 1) := by decide +kernel
def X10_isBank_b17 (u : gM)  (s0 : Int32) : Option Int32 :=
bI s0
def X10_isBank_b16 (u : gM)   : Option Int32 :=
(X10_isBank_b17 u 0)
def X10_isBank (u : gM)  (x0 : Nat) (x1 : Int32) : Option Int32 :=
(if x1 < 0 then (X10_isBank_b16 u)
  else (if isO skC x0 10 = true then (if (u.1 x0 1) ≤ x1 then (X10_isBank_b16 u)
    else (X10_isBank_b17 u 1))
 else none))
set_option maxRecDepth 20000 in
theorem v_X10_isBank_b17 {κ : gK} {B : Nat} {u : gM} (X : gX κ B skC cX10_isBank 2 RX10 (some .boolean) 0 0)   {s0 : Int32} {w : Int32} (hM : X10_isBank_b17 u s0 = some w) : gV κ B skC 2 ((some (.int w)), u) 17 [none, none] [.int s0] u := by
  unfold X10_isBank_b17 at hM
  obtain ⟨hv, rfl⟩ := bI_of hM
  exact g_zret X hv dX10_isBank_17
set_option maxRecDepth 20000 in
theorem v_X10_isBank_b16 {κ : gK} {B : Nat} {u : gM} (X : gX κ B skC cX10_isBank 2 RX10 (some .boolean) 0 0)    {w : Int32} (hM : X10_isBank_b16 u = some w) : gV κ B skC 2 ((some (.int w)), u) 16 [none, none] [] u := by
  unfold X10_isBank_b16 at hM
  refine g_iconst X (v := 0) dX10_isBank_16 (by decide) ?_
  refine g_mk [false, false] [none, none] rfl ?_
  exact v_X10_isBank_b17 X  hM
set_option maxRecDepth 20000 in
theorem v_X10_isBank {κ : gK} {B : Nat} {u : gM} (X : gX κ B skC cX10_isBank 2 RX10 (some .boolean) 0 0)   {x0 : Nat} {x1 : Int32} {w : Int32} (hM : X10_isBank u x0 x1 = some w) : gV κ B skC 2 ((some (.int w)), u) 0 [some (.ref (B + x0)), some (.int x1)] [] u := by
  unfold X10_isBank at hM
  refine g_iload_n X dX10_isBank_0 rfl ?_
  refine g_if_lt (tgt := 16) X dX10_isBank_1 (by decide) (fun c1 => ?_) (fun c1 => ?_)
  · rw [if_pos c1] at hM
    refine g_mk [false, false] [none, none] rfl ?_
    exact v_X10_isBank_b16 X  hM
  · rw [if_neg c1] at hM
    refine g_iload_n X dX10_isBank_4 rfl ?_
    refine g_aload_n X dX10_isBank_5 rfl ?_
    obtain ⟨o0, hM⟩ := ite_of hM
    refine g_getI X fX10_66 (sh_X10 o0) rfl dX10_isBank_6 ?_
    refine g_icmp_ge (tgt := 16) X dX10_isBank_9 (by decide) (fun c9 => ?_) (fun c9 => ?_)
    · rw [if_pos c9] at hM
      refine g_mk [false, false] [none, none] rfl ?_
      exact v_X10_isBank_b16 X  hM
    · rw [if_neg c9] at hM
      refine g_iconst X (v := 1) dX10_isBank_12 (by decide) ?_
      refine g_goto (tgt := 17) X dX10_isBank_13 (by decide) ?_
      refine g_mk [false, false] [none, none] rfl ?_
      exact v_X10_isBank_b17 X  hM
theorem s_X10_isBank {x0 : Nat} {x1 : Int32} {u : gM} {w : Int32} (hM : X10_isBank u x0 x1 = some w) : gMet skC yX10_isBank cX10_isBank 2 (some .boolean) 0 0 (fun B adK => [.ref (B + x0), .int x1]) u ((fun _ => some (.int w)), u) := by
  refine gMet.of (by decide) (fun _ _ => Nat.le_of_ble_eq_true rfl) (fun κ B X => ?_)
  have X : gX κ B skC cX10_isBank 2 RX10 (some .boolean) 0 0 := X
  refine g_mk [true, true] [some (.ref (B + x0)), some (.int x1)] rfl ?_
  exact v_X10_isBank X  hM

/-! CoverDesk$Cover.accountsCountedAt(II)I -/
theorem dX1_accountsCountedAt_0 : decode cX1_accountsCountedAt 0 = .ok (.iconst 0, 1) := by decide +kernel
theorem dX1_accountsCountedAt_1 : decode cX1_accountsCountedAt 1 = .ok (.istore_n 3, 1) := by decide +kernel
theorem dX1_accountsCountedAt_2 : decode cX1_accountsCountedAt 2 = .ok (.iconst 0, 1) := by decide +kernel
theorem dX1_accountsCountedAt_3 : decode cX1_accountsCountedAt 3 = .ok (.istore 4, 2) := by decide +kernel
theorem dX1_accountsCountedAt_5 : decode cX1_accountsCountedAt 5 = .ok (.iload 4, 2) := by decide +kernel
theorem dX1_accountsCountedAt_7 : decode cX1_accountsCountedAt 7 = .ok (.aload_n 0, 1) := by decide +kernel
theorem dX1_accountsCountedAt_8 : decode cX1_accountsCountedAt 8 = .ok (.getfield 32, 3) := by decide +kernel
theorem dX1_accountsCountedAt_11 : decode cX1_accountsCountedAt 11 = .ok (.getfield 82, 3) := by decide +kernel
theorem dX1_accountsCountedAt_14 : decode cX1_accountsCountedAt 14 = .ok (.if_icmp .ge 23, 3) := by decide +kernel
theorem dX1_accountsCountedAt_17 : decode cX1_accountsCountedAt 17 = .ok (.aload_n 0, 1) := by decide +kernel
theorem dX1_accountsCountedAt_18 : decode cX1_accountsCountedAt 18 = .ok (.iload 4, 2) := by decide +kernel
theorem dX1_accountsCountedAt_20 : decode cX1_accountsCountedAt 20 = .ok (.iload_n 2, 1) := by decide +kernel
theorem dX1_accountsCountedAt_21 : decode cX1_accountsCountedAt 21 = .ok (.invokevirtual 79, 3) := by decide +kernel
theorem dX1_accountsCountedAt_24 : decode cX1_accountsCountedAt 24 = .ok (.iload_n 1, 1) := by decide +kernel
theorem dX1_accountsCountedAt_25 : decode cX1_accountsCountedAt 25 = .ok (.if_icmp .ne 6, 3) := by decide +kernel
theorem dX1_accountsCountedAt_28 : decode cX1_accountsCountedAt 28 = .ok (.iinc 3 1, 3) := by decide +kernel
theorem dX1_accountsCountedAt_31 : decode cX1_accountsCountedAt 31 = .ok (.iinc 4 1, 3) := by decide +kernel
theorem dX1_accountsCountedAt_34 : decode cX1_accountsCountedAt 34 = .ok (.goto (-29), 3) := by decide +kernel
theorem dX1_accountsCountedAt_37 : decode cX1_accountsCountedAt 37 = .ok (.iload_n 3, 1) := by decide +kernel
theorem dX1_accountsCountedAt_38 : decode cX1_accountsCountedAt 38 = .ok (.ireturn, 1) := by decide +kernel
def X1_accountsCountedAt_b31 (u : gM) (k5 : Int32 → Int32 → Int32 → Int32 → Option Int32) (x1 : Int32) (x2 : Int32) (x3 : Int32) (x4 : Int32) : Option Int32 :=
(k5 x1 x2 x3 (x4 + 1))
def X1_accountsCountedAt_b5 (u : gM) (k5 : Int32 → Int32 → Int32 → Int32 → Option Int32) (x1 : Int32) (x2 : Int32) (x3 : Int32) (x4 : Int32) : Option Int32 :=
(if (u.1 3 2) ≤ x4 then some x3
  else ((X1_countedAt u x4 x2).bind fun w21 => (if w21 = x1 then (X1_accountsCountedAt_b31 u k5 x1 x2 (x3 + 1) x4)
    else (X1_accountsCountedAt_b31 u k5 x1 x2 x3 x4))))
def X1_accountsCountedAt_l5 (u : gM)  : Nat → Int32 → Int32 → Int32 → Int32 → Option Int32
  | 0, _, _, _, _ => none
  | n + 1, x1, x2, x3, x4 => X1_accountsCountedAt_b5 u  (X1_accountsCountedAt_l5 u  n) x1 x2 x3 x4
def X1_accountsCountedAt (u : gM)  (x1 : Int32) (x2 : Int32) : Option Int32 :=
(X1_accountsCountedAt_l5 u fz x1 x2 0 0)
set_option maxRecDepth 20000 in
theorem v_X1_accountsCountedAt_b31 {κ : gK} {B : Nat} {u : gM} (X : gX κ B skC cX1_accountsCountedAt 5 RX1 (some .int) 3 74) {k5 : Int32 → Int32 → Int32 → Int32 → Option Int32} (ih5 : ∀ (x1 : Int32) (x2 : Int32) (x3 : Int32) (x4 : Int32) (w : Int32), k5 x1 x2 x3 x4 = some w → gV κ B skC 5 ((some (.int w)), u) 5 [some (.ref (B + 136)), some (.int x1), some (.int x2), some (.int x3), some (.int x4)] [] u) {x1 : Int32} {x2 : Int32} {x3 : Int32} {x4 : Int32} {w : Int32} (hM : X1_accountsCountedAt_b31 u k5 x1 x2 x3 x4 = some w) : gV κ B skC 5 ((some (.int w)), u) 31 [some (.ref (B + 136)), some (.int x1), some (.int x2), some (.int x3), some (.int x4)] [] u := by
  unfold X1_accountsCountedAt_b31 at hM
  refine g_iinc (d := 1) X [some (.ref (B + 136)), some (.int x1), some (.int x2), some (.int x3), some (.int (x4 + 1))] dX1_accountsCountedAt_31 (by decide) rfl (by decide) rfl ?_
  refine g_goto (tgt := 5) X dX1_accountsCountedAt_34 (by decide) ?_
  refine g_mk [true, true, true, true, true] [some (.ref (B + 136)), some (.int x1), some (.int x2), some (.int x3), some (.int (x4 + 1))] rfl ?_
  exact ih5 x1 x2 x3 (x4 + 1) _ hM
set_option maxRecDepth 20000 in
theorem v_X1_accountsCountedAt_b5 {κ : gK} {B : Nat} {u : gM} (X : gX κ B skC cX1_accountsCountedAt 5 RX1 (some .int) 3 74) {k5 : Int32 → Int32 → Int32 → Int32 → Option Int32} (ih5 : ∀ (x1 : Int32) (x2 : Int32) (x3 : Int32) (x4 : Int32) (w : Int32), k5 x1 x2 x3 x4 = some w → gV κ B skC 5 ((some (.int w)), u) 5 [some (.ref (B + 136)), some (.int x1), some (.int x2), some (.int x3), some (.int x4)] [] u) {x1 : Int32} {x2 : Int32} {x3 : Int32} {x4 : Int32} {w : Int32} (hM : X1_accountsCountedAt_b5 u k5 x1 x2 x3 x4 = some w) : gV κ B skC 5 ((some (.int w)), u) 5 [some (.ref (B + 136)), some (.int x1), some (.int x2), some (.int x3), some (.int x4)] [] u := by
  unfold X1_accountsCountedAt_b5 at hM
  refine g_iload X dX1_accountsCountedAt_5 rfl ?_
  refine g_aload_n X dX1_accountsCountedAt_7 rfl ?_
  refine g_getR X fX1_32 cC_136 rfl dX1_accountsCountedAt_8 ?_
  refine g_getI X fX1_82 cC_3 rfl dX1_accountsCountedAt_11 ?_
  refine g_icmp_ge (tgt := 37) X dX1_accountsCountedAt_14 (by decide) (fun c14 => ?_) (fun c14 => ?_)
  · rw [if_pos c14] at hM
    refine g_iload_n X dX1_accountsCountedAt_37 rfl ?_
    cases hM
    exact g_iret X dX1_accountsCountedAt_38
  · rw [if_neg c14] at hM
    refine g_aload_n X dX1_accountsCountedAt_17 rfl ?_
    refine g_iload X dX1_accountsCountedAt_18 rfl ?_
    refine g_iload_n X dX1_accountsCountedAt_20 rfl ?_
    obtain ⟨w21, e21, hM⟩ := bind_of hM
    refine g_callVi X (fun B adK => [.int x4, .int x2]) (s_X1_countedAt e21) cvX1_79 cC_136 rfl rfl (Nat.le_of_ble_eq_true rfl) ⟨by decide, by decide⟩ dX1_accountsCountedAt_21 ?_
    refine g_iload_n X dX1_accountsCountedAt_24 rfl ?_
    refine g_icmp_ne (tgt := 31) X dX1_accountsCountedAt_25 (by decide) (fun c25 => ?_) (fun c25 => ?_)
    · rw [if_neg c25] at hM
      refine g_mk [true, true, true, true, true] [some (.ref (B + 136)), some (.int x1), some (.int x2), some (.int x3), some (.int x4)] rfl ?_
      exact v_X1_accountsCountedAt_b31 X ih5 hM
    · rw [if_pos c25] at hM
      refine g_iinc (d := 1) X [some (.ref (B + 136)), some (.int x1), some (.int x2), some (.int (x3 + 1)), some (.int x4)] dX1_accountsCountedAt_28 (by decide) rfl (by decide) rfl ?_
      refine g_mk [true, true, true, true, true] [some (.ref (B + 136)), some (.int x1), some (.int x2), some (.int (x3 + 1)), some (.int x4)] rfl ?_
      exact v_X1_accountsCountedAt_b31 X ih5 hM
theorem v_X1_accountsCountedAt_l5 {κ : gK} {B : Nat} {u : gM} (X : gX κ B skC cX1_accountsCountedAt 5 RX1 (some .int) 3 74)   : ∀ (n : Nat) {x1 : Int32} {x2 : Int32} {x3 : Int32} {x4 : Int32} {w : Int32} (hM : X1_accountsCountedAt_l5 u  n x1 x2 x3 x4 = some w), gV κ B skC 5 ((some (.int w)), u) 5 [some (.ref (B + 136)), some (.int x1), some (.int x2), some (.int x3), some (.int x4)] [] u := by
  intro n
  induction n with
  | zero => intro x1 x2 x3 x4 w hM; exact nomatch (show (none : Option Int32) = some w from hM)
  | succ n ihn => intro x1 x2 x3 x4 w hM; exact v_X1_accountsCountedAt_b5 X  (fun x1 x2 x3 x4 w h => ihn h) hM
set_option maxRecDepth 20000 in
theorem v_X1_accountsCountedAt {κ : gK} {B : Nat} {u : gM} (X : gX κ B skC cX1_accountsCountedAt 5 RX1 (some .int) 3 74)   {x1 : Int32} {x2 : Int32} {w : Int32} (hM : X1_accountsCountedAt u x1 x2 = some w) : gV κ B skC 5 ((some (.int w)), u) 0 [some (.ref (B + 136)), some (.int x1), some (.int x2), none, none] [] u := by
  unfold X1_accountsCountedAt at hM
  refine g_iconst X (v := 0) dX1_accountsCountedAt_0 (by decide) ?_
  refine g_istore_n X [some (.ref (B + 136)), some (.int x1), some (.int x2), some (.int 0), none] dX1_accountsCountedAt_1 (by decide) rfl ?_
  refine g_iconst X (v := 0) dX1_accountsCountedAt_2 (by decide) ?_
  refine g_istore X [some (.ref (B + 136)), some (.int x1), some (.int x2), some (.int 0), some (.int 0)] dX1_accountsCountedAt_3 (by decide) rfl ?_
  refine g_mk [true, true, true, true, true] [some (.ref (B + 136)), some (.int x1), some (.int x2), some (.int 0), some (.int 0)] rfl ?_
  exact v_X1_accountsCountedAt_l5 X  fz hM
theorem s_X1_accountsCountedAt {x1 : Int32} {x2 : Int32} {u : gM} {w : Int32} (hM : X1_accountsCountedAt u x1 x2 = some w) : gMet skC yX1_accountsCountedAt cX1_accountsCountedAt 5 (some .int) 3 74 (fun B adK => [.ref (B + 136), .int x1, .int x2]) u ((fun _ => some (.int w)), u) := by
  refine gMet.of (by decide) (fun _ _ => Nat.le_of_ble_eq_true rfl) (fun κ B X => ?_)
  have X : gX κ B skC cX1_accountsCountedAt 5 RX1 (some .int) 3 74 := X
  refine g_mk [true, true, true, false, false] [some (.ref (B + 136)), some (.int x1), some (.int x2), none, none] rfl ?_
  exact v_X1_accountsCountedAt X  hM

/-! CoverDesk.bank(II)I -/
theorem dX11_bank_0 : decode cX11_bank 0 = .ok (.aload_n 0, 1) := by decide +kernel
theorem dX11_bank_1 : decode cX11_bank 1 = .ok (.getfield 19, 3) := by decide +kernel
theorem dX11_bank_4 : decode cX11_bank 4 = .ok (.iload_n 1, 1) := by decide +kernel
theorem dX11_bank_5 : decode cX11_bank 5 = .ok (.invokevirtual 232, 3) := by decide +kernel
theorem dX11_bank_8 : decode cX11_bank 8 = .ok (.ifCond .ne 6, 3) := by decide +kernel
theorem dX11_bank_11 : decode cX11_bank 11 = .ok (.bipush (-2), 2) := by decide +kernel
theorem dX11_bank_13 : decode cX11_bank 13 = .ok (.ireturn, 1) := by decide +kernel
theorem dX11_bank_14 : decode cX11_bank 14 = .ok (.iload_n 2, 1) := by decide +kernel
theorem dX11_bank_15 : decode cX11_bank 15 = .ok (.tableswitch 85 0 4 #[33, 43, 53, 63, 69], 33) := by decide +kernel
theorem dX11_bank_48 : decode cX11_bank 48 = .ok (.aload_n 0, 1) := by decide +kernel
theorem dX11_bank_49 : decode cX11_bank 49 = .ok (.getfield 26, 3) := by decide +kernel
theorem dX11_bank_52 : decode cX11_bank 52 = .ok (.getfield 235, 3) := by decide +kernel
theorem dX11_bank_55 : decode cX11_bank 55 = .ok (.iload_n 1, 1) := by decide +kernel
theorem dX11_bank_56 : decode cX11_bank 56 = .ok (.iaload, 1) := by decide +kernel
theorem dX11_bank_57 : decode cX11_bank 57 = .ok (.ireturn, 1) := by decide +kernel
theorem dX11_bank_58 : decode cX11_bank 58 = .ok (.aload_n 0, 1) := by decide +kernel
theorem dX11_bank_59 : decode cX11_bank 59 = .ok (.getfield 26, 3) := by decide +kernel
theorem dX11_bank_62 : decode cX11_bank 62 = .ok (.getfield 238, 3) := by decide +kernel
theorem dX11_bank_65 : decode cX11_bank 65 = .ok (.iload_n 1, 1) := by decide +kernel
theorem dX11_bank_66 : decode cX11_bank 66 = .ok (.iaload, 1) := by decide +kernel
theorem dX11_bank_67 : decode cX11_bank 67 = .ok (.ireturn, 1) := by decide +kernel
theorem dX11_bank_68 : decode cX11_bank 68 = .ok (.aload_n 0, 1) := by decide +kernel
theorem dX11_bank_69 : decode cX11_bank 69 = .ok (.getfield 26, 3) := by decide +kernel
theorem dX11_bank_72 : decode cX11_bank 72 = .ok (.getfield 241, 3) := by decide +kernel
theorem dX11_bank_75 : decode cX11_bank 75 = .ok (.iload_n 1, 1) := by decide +kernel
theorem dX11_bank_76 : decode cX11_bank 76 = .ok (.iaload, 1) := by decide +kernel
theorem dX11_bank_77 : decode cX11_bank 77 = .ok (.ireturn, 1) := by decide +kernel
theorem dX11_bank_78 : decode cX11_bank 78 = .ok (.aload_n 0, 1) := by decide +kernel
theorem dX11_bank_79 : decode cX11_bank 79 = .ok (.iload_n 1, 1) := by decide +kernel
theorem dX11_bank_80 : decode cX11_bank 80 = .ok (.invokevirtual 244, 3) := by decide +kernel
theorem dX11_bank_83 : decode cX11_bank 83 = .ok (.ireturn, 1) := by decide +kernel
theorem dX11_bank_84 : decode cX11_bank 84 = .ok (.aload_n 0, 1) := by decide +kernel
theorem dX11_bank_85 : decode cX11_bank 85 = .ok (.getfield 60, 3) := by decide +kernel
theorem dX11_bank_88 : decode cX11_bank 88 = .ok (.iload_n 1, 1) := by decide +kernel
theorem dX11_bank_89 : decode cX11_bank 89 = .ok (.aload_n 0, 1) := by decide +kernel
theorem dX11_bank_90 : decode cX11_bank 90 = .ok (.getfield 26, 3) := by decide +kernel
theorem dX11_bank_93 : decode cX11_bank 93 = .ok (.getfield 191, 3) := by decide +kernel
theorem dX11_bank_96 : decode cX11_bank 96 = .ok (.invokevirtual 247, 3) := by decide +kernel
theorem dX11_bank_99 : decode cX11_bank 99 = .ok (.ireturn, 1) := by decide +kernel
theorem dX11_bank_100 : decode cX11_bank 100 = .ok (.bipush (-2), 2) := by decide +kernel
theorem dX11_bank_102 : decode cX11_bank 102 = .ok (.ireturn, 1) := by decide +kernel
def X11_bank (u : gM)  (x1 : Int32) (x2 : Int32) : Option Int32 :=
((X10_isBank u 3 x1).bind fun w5 => (if w5 = 0 then some (-2)
  else (if x2 = 0 then ((aI skC u 21 x1).bind fun v56 => some v56)
    else (if x2 = 1 then ((aI skC u 22 x1).bind fun v66 => some v66)
    else (if x2 = 2 then ((aI skC u 23 x1).bind fun v76 => some v76)
    else (if x2 = 3 then ((X11_accountsNowAt u x1).bind fun w80 => some w80)
    else (if x2 = 4 then ((X1_accountsCountedAt u x1 (u.1 18 0)).bind fun w96 => some w96)
    else some (-2))))))))
set_option maxRecDepth 20000 in
theorem v_X11_bank {κ : gK} {B : Nat} {u : gM} (X : gX κ B skC cX11_bank 3 RX11 (some .int) 4 98)   {x1 : Int32} {x2 : Int32} {w : Int32} (hM : X11_bank u x1 x2 = some w) : gV κ B skC 3 ((some (.int w)), u) 0 [some (.ref (B + 0)), some (.int x1), some (.int x2)] [] u := by
  unfold X11_bank at hM
  refine g_aload_n X dX11_bank_0 rfl ?_
  refine g_getR X fX11_19 cC_0 rfl dX11_bank_1 ?_
  refine g_iload_n X dX11_bank_4 rfl ?_
  obtain ⟨w5, e5, hM⟩ := bind_of hM
  refine g_callVi X (fun B adK => [.int x1]) (s_X10_isBank e5) cvX11_232 cC_3 rfl rfl (Nat.le_of_ble_eq_true rfl) ⟨by decide, by decide⟩ dX11_bank_5 ?_
  refine g_if_ne (tgt := 14) X dX11_bank_8 (by decide) (fun c8 => ?_) (fun c8 => ?_)
  · rw [if_neg c8] at hM
    refine g_iload_n X dX11_bank_14 rfl ?_
    by_cases h15_0 : x2 = 0
    · rw [if_pos h15_0] at hM
      refine g_tabIn (tgt := 48) (off := 33) X 0 h15_0 dX11_bank_15 (by decide) (by decide) (by decide) (by decide) ?_
      refine g_aload_n X dX11_bank_48 rfl ?_
      refine g_getR X fX11_26 cC_0 rfl dX11_bank_49 ?_
      refine g_getR X fX11_235 cC_18 rfl dX11_bank_52 ?_
      refine g_iload_n X dX11_bank_55 rfl ?_
      obtain ⟨v56, e56, hM⟩ := bind_of hM
      refine g_iaload X e56 dX11_bank_56 ?_
      cases hM
      exact g_iret X dX11_bank_57
    rw [if_neg h15_0] at hM
    by_cases h15_1 : x2 = 1
    · rw [if_pos h15_1] at hM
      refine g_tabIn (tgt := 58) (off := 43) X 1 h15_1 dX11_bank_15 (by decide) (by decide) (by decide) (by decide) ?_
      refine g_aload_n X dX11_bank_58 rfl ?_
      refine g_getR X fX11_26 cC_0 rfl dX11_bank_59 ?_
      refine g_getR X fX11_238 cC_18 rfl dX11_bank_62 ?_
      refine g_iload_n X dX11_bank_65 rfl ?_
      obtain ⟨v66, e66, hM⟩ := bind_of hM
      refine g_iaload X e66 dX11_bank_66 ?_
      cases hM
      exact g_iret X dX11_bank_67
    rw [if_neg h15_1] at hM
    by_cases h15_2 : x2 = 2
    · rw [if_pos h15_2] at hM
      refine g_tabIn (tgt := 68) (off := 53) X 2 h15_2 dX11_bank_15 (by decide) (by decide) (by decide) (by decide) ?_
      refine g_aload_n X dX11_bank_68 rfl ?_
      refine g_getR X fX11_26 cC_0 rfl dX11_bank_69 ?_
      refine g_getR X fX11_241 cC_18 rfl dX11_bank_72 ?_
      refine g_iload_n X dX11_bank_75 rfl ?_
      obtain ⟨v76, e76, hM⟩ := bind_of hM
      refine g_iaload X e76 dX11_bank_76 ?_
      cases hM
      exact g_iret X dX11_bank_77
    rw [if_neg h15_2] at hM
    by_cases h15_3 : x2 = 3
    · rw [if_pos h15_3] at hM
      refine g_tabIn (tgt := 78) (off := 63) X 3 h15_3 dX11_bank_15 (by decide) (by decide) (by decide) (by decide) ?_
      refine g_aload_n X dX11_bank_78 rfl ?_
      refine g_iload_n X dX11_bank_79 rfl ?_
      obtain ⟨w80, e80, hM⟩ := bind_of hM
      refine g_callVi X (fun B adK => [.int x1]) (s_X11_accountsNowAt e80) cvX11_244 cC_0 rfl rfl (Nat.le_of_ble_eq_true rfl) ⟨by decide, by decide⟩ dX11_bank_80 ?_
      cases hM
      exact g_iret X dX11_bank_83
    rw [if_neg h15_3] at hM
    by_cases h15_4 : x2 = 4
    · rw [if_pos h15_4] at hM
      refine g_tabIn (tgt := 84) (off := 69) X 4 h15_4 dX11_bank_15 (by decide) (by decide) (by decide) (by decide) ?_
      refine g_aload_n X dX11_bank_84 rfl ?_
      refine g_getR X fX11_60 cC_0 rfl dX11_bank_85 ?_
      refine g_iload_n X dX11_bank_88 rfl ?_
      refine g_aload_n X dX11_bank_89 rfl ?_
      refine g_getR X fX11_26 cC_0 rfl dX11_bank_90 ?_
      refine g_getI X fX11_191 cC_18 rfl dX11_bank_93 ?_
      obtain ⟨w96, e96, hM⟩ := bind_of hM
      refine g_callVi X (fun B adK => [.int x1, .int (u.1 18 0)]) (s_X1_accountsCountedAt e96) cvX11_247 cC_136 rfl rfl (Nat.le_of_ble_eq_true rfl) ⟨by decide, by decide⟩ dX11_bank_96 ?_
      cases hM
      exact g_iret X dX11_bank_99
    rw [if_neg h15_4] at hM
    refine g_tabOut (tgt := 100) X dX11_bank_15 (by have q0 := lv_neT (a := 0) h15_0 (by decide); have q1 := lv_neT (a := 1) h15_1 (by decide); have q2 := lv_neT (a := 2) h15_2 (by decide); have q3 := lv_neT (a := 3) h15_3 (by decide); have q4 := lv_neT (a := 4) h15_4 (by decide); omega) (by decide) ?_
    refine g_bipush X (v := (-2)) dX11_bank_100 (by decide) ?_
    cases hM
    exact g_iret X dX11_bank_102
  · rw [if_pos c8] at hM
    refine g_bipush X (v := (-2)) dX11_bank_11 (by decide) ?_
    cases hM
    exact g_iret X dX11_bank_13
theorem s_X11_bank {x1 : Int32} {x2 : Int32} {u : gM} {w : Int32} (hM : X11_bank u x1 x2 = some w) : gMet skC yX11_bank cX11_bank 3 (some .int) 4 98 (fun B adK => [.ref (B + 0), .int x1, .int x2]) u ((fun _ => some (.int w)), u) := by
  refine gMet.of (by decide) (fun _ _ => Nat.le_of_ble_eq_true rfl) (fun κ B X => ?_)
  have X : gX κ B skC cX11_bank 3 RX11 (some .int) 4 98 := X
  refine g_mk [true, true, true] [some (.ref (B + 0)), some (.int x1), some (.int x2)] rfl ?_
  exact v_X11_bank X  hM


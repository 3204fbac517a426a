/-! CoverDeskModel.laysMoves(I)V -/
theorem dX12_laysMoves_0 : decode cX12_laysMoves 0 = .ok (.iconst 0, 1) := by decide +kernel
theorem dX12_laysMoves_1 : decode cX12_laysMoves 1 = .ok (.istore_n 2, 1) := by decide +kernel
theorem dX12_laysMoves_2 : decode cX12_laysMoves 2 = .ok (.iload_n 2, 1) := by decide +kernel
theorem dX12_laysMoves_3 : decode cX12_laysMoves 3 = .ok (.aload_n 0, 1) := by decide +kernel
theorem dX12_laysMoves_4 : decode cX12_laysMoves 4 = .ok (.getfield 7, 3) := by decide +kernel
theorem dX12_laysMoves_7 : decode cX12_laysMoves 7 = .ok (.iconst 1, 1) := by decide +kernel
theorem dX12_laysMoves_8 : decode cX12_laysMoves 8 = .ok (.iaload, 1) := by decide +kernel
theorem dX12_laysMoves_9 : decode cX12_laysMoves 9 = .ok (.if_icmp .ge 73, 3) := by decide +kernel
theorem dX12_laysMoves_12 : decode cX12_laysMoves 12 = .ok (.aload_n 0, 1) := by decide +kernel
theorem dX12_laysMoves_13 : decode cX12_laysMoves 13 = .ok (.iload_n 1, 1) := by decide +kernel
theorem dX12_laysMoves_14 : decode cX12_laysMoves 14 = .ok (.iconst 0, 1) := by decide +kernel
theorem dX12_laysMoves_15 : decode cX12_laysMoves 15 = .ok (.iload_n 2, 1) := by decide +kernel
theorem dX12_laysMoves_16 : decode cX12_laysMoves 16 = .ok (.aload_n 0, 1) := by decide +kernel
theorem dX12_laysMoves_17 : decode cX12_laysMoves 17 = .ok (.getfield 56, 3) := by decide +kernel
theorem dX12_laysMoves_20 : decode cX12_laysMoves 20 = .ok (.iconst 0, 1) := by decide +kernel
theorem dX12_laysMoves_21 : decode cX12_laysMoves 21 = .ok (.iaload, 1) := by decide +kernel
theorem dX12_laysMoves_22 : decode cX12_laysMoves 22 = .ok (.invokevirtual 355, 3) := by decide +kernel
theorem dX12_laysMoves_25 : decode cX12_laysMoves 25 = .ok (.lstore_n 3, 1) := by decide +kernel
theorem dX12_laysMoves_26 : decode cX12_laysMoves 26 = .ok (.aload_n 0, 1) := by decide +kernel
theorem dX12_laysMoves_27 : decode cX12_laysMoves 27 = .ok (.getfield 102, 3) := by decide +kernel
theorem dX12_laysMoves_30 : decode cX12_laysMoves 30 = .ok (.iload_n 2, 1) := by decide +kernel
theorem dX12_laysMoves_31 : decode cX12_laysMoves 31 = .ok (.lconst 0, 1) := by decide +kernel
theorem dX12_laysMoves_32 : decode cX12_laysMoves 32 = .ok (.lload_n 3, 1) := by decide +kernel
theorem dX12_laysMoves_33 : decode cX12_laysMoves 33 = .ok (.aload_n 0, 1) := by decide +kernel
theorem dX12_laysMoves_34 : decode cX12_laysMoves 34 = .ok (.getfield 7, 3) := by decide +kernel
theorem dX12_laysMoves_37 : decode cX12_laysMoves 37 = .ok (.iconst 4, 1) := by decide +kernel
theorem dX12_laysMoves_38 : decode cX12_laysMoves 38 = .ok (.iaload, 1) := by decide +kernel
theorem dX12_laysMoves_39 : decode cX12_laysMoves 39 = .ok (.i2l, 1) := by decide +kernel
theorem dX12_laysMoves_40 : decode cX12_laysMoves 40 = .ok (.lsub, 1) := by decide +kernel
theorem dX12_laysMoves_41 : decode cX12_laysMoves 41 = .ok (.invokestatic 463, 3) := by decide +kernel
theorem dX12_laysMoves_44 : decode cX12_laysMoves 44 = .ok (.lastore, 1) := by decide +kernel
theorem dX12_laysMoves_45 : decode cX12_laysMoves 45 = .ok (.aload_n 0, 1) := by decide +kernel
theorem dX12_laysMoves_46 : decode cX12_laysMoves 46 = .ok (.getfield 105, 3) := by decide +kernel
theorem dX12_laysMoves_49 : decode cX12_laysMoves 49 = .ok (.iload_n 2, 1) := by decide +kernel
theorem dX12_laysMoves_50 : decode cX12_laysMoves 50 = .ok (.aload_n 0, 1) := by decide +kernel
theorem dX12_laysMoves_51 : decode cX12_laysMoves 51 = .ok (.iload_n 2, 1) := by decide +kernel
theorem dX12_laysMoves_52 : decode cX12_laysMoves 52 = .ok (.invokevirtual 372, 3) := by decide +kernel
theorem dX12_laysMoves_55 : decode cX12_laysMoves 55 = .ok (.ifCond .eq 19, 3) := by decide +kernel
theorem dX12_laysMoves_58 : decode cX12_laysMoves 58 = .ok (.lconst 0, 1) := by decide +kernel
theorem dX12_laysMoves_59 : decode cX12_laysMoves 59 = .ok (.aload_n 0, 1) := by decide +kernel
theorem dX12_laysMoves_60 : decode cX12_laysMoves 60 = .ok (.getfield 7, 3) := by decide +kernel
theorem dX12_laysMoves_63 : decode cX12_laysMoves 63 = .ok (.iconst 4, 1) := by decide +kernel
theorem dX12_laysMoves_64 : decode cX12_laysMoves 64 = .ok (.iaload, 1) := by decide +kernel
theorem dX12_laysMoves_65 : decode cX12_laysMoves 65 = .ok (.i2l, 1) := by decide +kernel
theorem dX12_laysMoves_66 : decode cX12_laysMoves 66 = .ok (.lload_n 3, 1) := by decide +kernel
theorem dX12_laysMoves_67 : decode cX12_laysMoves 67 = .ok (.lsub, 1) := by decide +kernel
theorem dX12_laysMoves_68 : decode cX12_laysMoves 68 = .ok (.invokestatic 463, 3) := by decide +kernel
theorem dX12_laysMoves_71 : decode cX12_laysMoves 71 = .ok (.goto 4, 3) := by decide +kernel
theorem dX12_laysMoves_74 : decode cX12_laysMoves 74 = .ok (.lconst 0, 1) := by decide +kernel
theorem dX12_laysMoves_75 : decode cX12_laysMoves 75 = .ok (.lastore, 1) := by decide +kernel
theorem dX12_laysMoves_76 : decode cX12_laysMoves 76 = .ok (.iinc 2 1, 3) := by decide +kernel
theorem dX12_laysMoves_79 : decode cX12_laysMoves 79 = .ok (.goto (-77), 3) := by decide +kernel
theorem dX12_laysMoves_82 : decode cX12_laysMoves 82 = .ok (.return_, 1) := by decide +kernel
def X12_laysMoves_b75 (k2 : Int32 → Int32 → gM → Option gM) (x1 : Int32) (x2 : Int32) (s1 : Int32) (s2 : Int64) (u : gM) : Option gM :=
((sJ skM u 29 s1 s2).bind fun u75 => (k2 x1 (x2 + 1) u75))
def X12_laysMoves_b2 (k2 : Int32 → Int32 → gM → Option gM) (x1 : Int32) (x2 : Int32) (u : gM) : Option gM :=
((aI skM u 1 1).bind fun v8 => (if v8 ≤ x2 then some u
  else ((aI skM u 16 0).bind fun v21 => ((X12_sumOf u x1 0 x2 v21).bind fun w22 => ((aI skM u 1 4).bind fun v38 => ((sJ skM u 28 x2 (mxJ 0 (w22 - v38.toInt64))).bind fun u44 => ((X12_isOpen u44 x2).bind fun w52 => (if w52 = 0 then (X12_laysMoves_b75 k2 x1 x2 x2 0 u44)
    else ((aI skM u44 1 4).bind fun v64 => (X12_laysMoves_b75 k2 x1 x2 x2 (mxJ 0 (v64.toInt64 - w22)) u44))))))))))
def X12_laysMoves_l2  : Nat → Int32 → Int32 → gM → Option gM
  | 0, _, _, _ => none
  | n + 1, x1, x2, u => X12_laysMoves_b2  (X12_laysMoves_l2  n) x1 x2 u
def X12_laysMoves  (x1 : Int32) (u : gM) : Option gM :=
(X12_laysMoves_l2 fz x1 0 u)
set_option maxRecDepth 20000 in
theorem v_X12_laysMoves_b75 {κ : gK} {B : Nat} {u : gM} (X : gX κ B skM cX12_laysMoves 5 RX12 none 5 125) {k2 : Int32 → Int32 → gM → Option gM} (ih2 : ∀ (x1 : Int32) (x2 : Int32) (u : gM) (w : gM), k2 x1 x2 u = some w → gV κ B skM 5 ((none), w) 2 [some (.ref (B + 0)), some (.int x1), some (.int x2), none, none] [] u) {x1 : Int32} {x2 : Int32} {s1 : Int32} {s2 : Int64} {w : gM} (hM : X12_laysMoves_b75 k2 x1 x2 s1 s2 u = some w) : gV κ B skM 5 ((none), w) 75 [some (.ref (B + 0)), some (.int x1), some (.int x2), none, none] [.long s2, .int s1, .ref (B + 29)] u := by
  unfold X12_laysMoves_b75 at hM
  obtain ⟨u75, e75, hM⟩ := bind_of hM
  refine g_lastore X e75 dX12_laysMoves_75 ?_
  refine g_iinc (d := 1) X [some (.ref (B + 0)), some (.int x1), some (.int (x2 + 1)), none, none] dX12_laysMoves_76 (by decide) rfl (by decide) rfl ?_
  refine g_goto (tgt := 2) X dX12_laysMoves_79 (by decide) ?_
  refine g_mk [true, true, true, false, false] [some (.ref (B + 0)), some (.int x1), some (.int (x2 + 1)), none, none] rfl ?_
  exact ih2 x1 (x2 + 1) u75 _ hM
set_option maxRecDepth 20000 in
theorem v_X12_laysMoves_b2 {κ : gK} {B : Nat} {u : gM} (X : gX κ B skM cX12_laysMoves 5 RX12 none 5 125) {k2 : Int32 → Int32 → gM → Option gM} (ih2 : ∀ (x1 : Int32) (x2 : Int32) (u : gM) (w : gM), k2 x1 x2 u = some w → gV κ B skM 5 ((none), w) 2 [some (.ref (B + 0)), some (.int x1), some (.int x2), none, none] [] u) {x1 : Int32} {x2 : Int32} {w : gM} (hM : X12_laysMoves_b2 k2 x1 x2 u = some w) : gV κ B skM 5 ((none), w) 2 [some (.ref (B + 0)), some (.int x1), some (.int x2), none, none] [] u := by
  unfold X12_laysMoves_b2 at hM
  refine g_iload_n X dX12_laysMoves_2 rfl ?_
  refine g_aload_n X dX12_laysMoves_3 rfl ?_
  refine g_getR X fX12_7 cM_0 rfl dX12_laysMoves_4 ?_
  refine g_iconst X (v := 1) dX12_laysMoves_7 (by decide) ?_
  obtain ⟨v8, e8, hM⟩ := bind_of hM
  refine g_iaload X e8 dX12_laysMoves_8 ?_
  refine g_icmp_ge (tgt := 82) X dX12_laysMoves_9 (by decide) (fun c9 => ?_) (fun c9 => ?_)
  · rw [if_pos c9] at hM
    cases hM
    exact g_vret X dX12_laysMoves_82
  · rw [if_neg c9] at hM
    refine g_aload_n X dX12_laysMoves_12 rfl ?_
    refine g_iload_n X dX12_laysMoves_13 rfl ?_
    refine g_iconst X (v := 0) dX12_laysMoves_14 (by decide) ?_
    refine g_iload_n X dX12_laysMoves_15 rfl ?_
    refine g_aload_n X dX12_laysMoves_16 rfl ?_
    refine g_getR X fX12_56 cM_0 rfl dX12_laysMoves_17 ?_
    refine g_iconst X (v := 0) dX12_laysMoves_20 (by decide) ?_
    obtain ⟨v21, e21, hM⟩ := bind_of hM
    refine g_iaload X e21 dX12_laysMoves_21 ?_
    obtain ⟨w22, e22, hM⟩ := bind_of hM
    refine g_callVl X (fun B adK => [.int x1, .int 0, .int x2, .int v21]) (s_X12_sumOf e22) cvX12_355 cM_0 rfl rfl (Nat.le_of_ble_eq_true rfl) ⟨by decide, by decide⟩ dX12_laysMoves_22 ?_
    refine g_lstore_n X [some (.ref (B + 0)), some (.int x1), some (.int x2), some (.long w22), none] dX12_laysMoves_25 (by decide) rfl ?_
    refine g_aload_n X dX12_laysMoves_26 rfl ?_
    refine g_getR X fX12_102 cM_0 rfl dX12_laysMoves_27 ?_
    refine g_iload_n X dX12_laysMoves_30 rfl ?_
    refine g_lconst (v := 0) X dX12_laysMoves_31 (by decide) ?_
    refine g_lload_n X dX12_laysMoves_32 rfl ?_
    refine g_aload_n X dX12_laysMoves_33 rfl ?_
    refine g_getR X fX12_7 cM_0 rfl dX12_laysMoves_34 ?_
    refine g_iconst X (v := 4) dX12_laysMoves_37 (by decide) ?_
    obtain ⟨v38, e38, hM⟩ := bind_of hM
    refine g_iaload X e38 dX12_laysMoves_38 ?_
    refine g_i2l X dX12_laysMoves_39 ?_
    refine g_lsub X dX12_laysMoves_40 ?_
    refine g_maxJ X m_57_8 ⟨by decide, Nat.le_of_ble_eq_true rfl⟩ dX12_laysMoves_41 ?_
    obtain ⟨u44, e44, hM⟩ := bind_of hM
    refine g_lastore X e44 dX12_laysMoves_44 ?_
    refine g_aload_n X dX12_laysMoves_45 rfl ?_
    refine g_getR X fX12_105 cM_0 rfl dX12_laysMoves_46 ?_
    refine g_iload_n X dX12_laysMoves_49 rfl ?_
    refine g_aload_n X dX12_laysMoves_50 rfl ?_
    refine g_iload_n X dX12_laysMoves_51 rfl ?_
    obtain ⟨w52, e52, hM⟩ := bind_of hM
    refine g_callVi X (fun B adK => [.int x2]) (s_X12_isOpen e52) cvX12_372 cM_0 rfl rfl (Nat.le_of_ble_eq_true rfl) ⟨by decide, by decide⟩ dX12_laysMoves_52 ?_
    refine g_if_eq (tgt := 74) X dX12_laysMoves_55 (by decide) (fun c55 => ?_) (fun c55 => ?_)
    · rw [if_pos c55] at hM
      refine g_lconst (v := 0) X dX12_laysMoves_74 (by decide) ?_
      refine g_mk [true, true, true, false, false] [some (.ref (B + 0)), some (.int x1), some (.int x2), none, none] rfl ?_
      exact v_X12_laysMoves_b75 X ih2 hM
    · rw [if_neg c55] at hM
      refine g_lconst (v := 0) X dX12_laysMoves_58 (by decide) ?_
      refine g_aload_n X dX12_laysMoves_59 rfl ?_
      refine g_getR X fX12_7 cM_0 rfl dX12_laysMoves_60 ?_
      refine g_iconst X (v := 4) dX12_laysMoves_63 (by decide) ?_
      obtain ⟨v64, e64, hM⟩ := bind_of hM
      refine g_iaload X e64 dX12_laysMoves_64 ?_
      refine g_i2l X dX12_laysMoves_65 ?_
      refine g_lload_n X dX12_laysMoves_66 rfl ?_
      refine g_lsub X dX12_laysMoves_67 ?_
      refine g_maxJ X m_57_8 ⟨by decide, Nat.le_of_ble_eq_true rfl⟩ dX12_laysMoves_68 ?_
      refine g_goto (tgt := 75) X dX12_laysMoves_71 (by decide) ?_
      refine g_mk [true, true, true, false, false] [some (.ref (B + 0)), some (.int x1), some (.int x2), none, none] rfl ?_
      exact v_X12_laysMoves_b75 X ih2 hM
theorem v_X12_laysMoves_l2 {κ : gK} {B : Nat} (X : gX κ B skM cX12_laysMoves 5 RX12 none 5 125)   : ∀ (n : Nat) {x1 : Int32} {x2 : Int32} {u : gM} {w : gM} (hM : X12_laysMoves_l2  n x1 x2 u = some w), gV κ B skM 5 ((none), w) 2 [some (.ref (B + 0)), some (.int x1), some (.int x2), none, none] [] u := by
  intro n
  induction n with
  | zero => intro x1 x2 u w hM; exact nomatch (show (none : Option gM) = some w from hM)
  | succ n ihn => intro x1 x2 u w hM; exact v_X12_laysMoves_b2 X  (fun x1 x2 u w h => ihn h) hM
set_option maxRecDepth 20000 in
theorem v_X12_laysMoves {κ : gK} {B : Nat} {u : gM} (X : gX κ B skM cX12_laysMoves 5 RX12 none 5 125)   {x1 : Int32} {w : gM} (hM : X12_laysMoves x1 u = some w) : gV κ B skM 5 ((none), w) 0 [some (.ref (B + 0)), some (.int x1), none, none, none] [] u := by
  unfold X12_laysMoves at hM
  refine g_iconst X (v := 0) dX12_laysMoves_0 (by decide) ?_
  refine g_istore_n X [some (.ref (B + 0)), some (.int x1), some (.int 0), none, none] dX12_laysMoves_1 (by decide) rfl ?_
  refine g_mk [true, true, true, false, false] [some (.ref (B + 0)), some (.int x1), some (.int 0), none, none] rfl ?_
  exact v_X12_laysMoves_l2 X  fz hM
theorem s_X12_laysMoves {x1 : Int32} {u : gM} {w : gM} (hM : X12_laysMoves x1 u = some w) : gMet skM yX12_laysMoves cX12_laysMoves 5 none 5 125 (fun B adK => [.ref (B + 0), .int x1]) u ((fun _ => none), w) := by
  refine gMet.of (by decide) (fun _ _ => Nat.le_of_ble_eq_true rfl) (fun κ B X => ?_)
  have X : gX κ B skM cX12_laysMoves 5 RX12 none 5 125 := X
  refine g_mk [true, true, false, false, false] [some (.ref (B + 0)), some (.int x1), none, none, none] rfl ?_
  exact v_X12_laysMoves X  hM
theorem fr_X12_laysMoves_b75 {S : Nat → Prop} {u0 u : gM} {x1 : Int32} {x2 : Int32} {s1 : Int32} {s2 : Int64} (hs0 : S 28) (hs1 : S 29) {k2 : Int32 → Int32 → gM → Option gM} (ik2 : ∀ (x1 : Int32) (x2 : Int32) (u : gM) (w : gM), S 28 → S 29 → off S u0 u → k2 x1 x2 u = some w → off S u0 w) {w : gM} (hM : X12_laysMoves_b75 k2 x1 x2 s1 s2 u = some w) (h0 : off S u0 u) : off S u0 w := by
  unfold X12_laysMoves_b75 at hM
  obtain ⟨u75, e75, hM⟩ := bind_of hM
  have h0 := off_sJ hs1 e75 h0
  exact ik2 _ _ _ _ hs0 hs1 h0 hM
theorem fr_X12_laysMoves_b2 {S : Nat → Prop} {u0 u : gM} {x1 : Int32} {x2 : Int32} (hs0 : S 28) (hs1 : S 29) {k2 : Int32 → Int32 → gM → Option gM} (ik2 : ∀ (x1 : Int32) (x2 : Int32) (u : gM) (w : gM), S 28 → S 29 → off S u0 u → k2 x1 x2 u = some w → off S u0 w) {w : gM} (hM : X12_laysMoves_b2 k2 x1 x2 u = some w) (h0 : off S u0 u) : off S u0 w := by
  unfold X12_laysMoves_b2 at hM
  obtain ⟨v8, e8, hM⟩ := bind_of hM
  by_cases c9 : v8 ≤ x2
  · rw [if_pos c9] at hM
    cases hM
    exact h0
  · rw [if_neg c9] at hM
    obtain ⟨v21, e21, hM⟩ := bind_of hM
    obtain ⟨w22, e22, hM⟩ := bind_of hM
    obtain ⟨v38, e38, hM⟩ := bind_of hM
    obtain ⟨u44, e44, hM⟩ := bind_of hM
    have h0 := off_sJ hs0 e44 h0
    obtain ⟨w52, e52, hM⟩ := bind_of hM
    by_cases c55 : w52 = 0
    · rw [if_pos c55] at hM
      exact fr_X12_laysMoves_b75 hs0 hs1 ik2 hM h0
    · rw [if_neg c55] at hM
      obtain ⟨v64, e64, hM⟩ := bind_of hM
      exact fr_X12_laysMoves_b75 hs0 hs1 ik2 hM h0
theorem fr_X12_laysMoves_l2 {S : Nat → Prop} {u0 : gM}   : ∀ (n : Nat) {x1 : Int32} {x2 : Int32} (hs0 : S 28) (hs1 : S 29) {u : gM} {w : gM} (h0 : off S u0 u) (hM : X12_laysMoves_l2  n x1 x2 u = some w), off S u0 w := by
  intro n
  induction n with
  | zero => intro x1 x2 hs0 hs1 u w h0 hM; exact nomatch (show (none : Option gM) = some w from hM)
  | succ n ihn => intro x1 x2 hs0 hs1 u w h0 hM; exact fr_X12_laysMoves_b2 hs0 hs1  (fun x1 x2 _ _ hs0 hs1 h0 h => ihn hs0 hs1 h0 h) hM h0
theorem fr_X12_laysMoves {S : Nat → Prop} {u0 u : gM} {x1 : Int32} (hs0 : S 28) (hs1 : S 29)   {w : gM} (hM : X12_laysMoves x1 u = some w) (h0 : off S u0 u) : off S u0 w := by
  unfold X12_laysMoves at hM
  exact fr_X12_laysMoves_l2  fz hs0 hs1 h0 hM
/-! CoverDeskModel.loan(II)I -/
theorem dX12_loan_0 : decode cX12_loan 0 = .ok (.aload_n 0, 1) := by decide +kernel
theorem dX12_loan_1 : decode cX12_loan 1 = .ok (.iload_n 1, 1) := by decide +kernel
theorem dX12_loan_2 : decode cX12_loan 2 = .ok (.invokevirtual 377, 3) := by decide +kernel
theorem dX12_loan_5 : decode cX12_loan 5 = .ok (.ifCond .ne 5, 3) := by decide +kernel
theorem dX12_loan_8 : decode cX12_loan 8 = .ok (.iconst (-1), 1) := by decide +kernel
theorem dX12_loan_9 : decode cX12_loan 9 = .ok (.ireturn, 1) := by decide +kernel
theorem dX12_loan_10 : decode cX12_loan 10 = .ok (.iload_n 2, 1) := by decide +kernel
theorem dX12_loan_11 : decode cX12_loan 11 = .ok (.ifCond .ne 12, 3) := by decide +kernel
theorem dX12_loan_14 : decode cX12_loan 14 = .ok (.aload_n 0, 1) := by decide +kernel
theorem dX12_loan_15 : decode cX12_loan 15 = .ok (.getfield 47, 3) := by decide +kernel
theorem dX12_loan_18 : decode cX12_loan 18 = .ok (.iload_n 1, 1) := by decide +kernel
theorem dX12_loan_19 : decode cX12_loan 19 = .ok (.iaload, 1) := by decide +kernel
theorem dX12_loan_20 : decode cX12_loan 20 = .ok (.goto 39, 3) := by decide +kernel
theorem dX12_loan_23 : decode cX12_loan 23 = .ok (.iload_n 2, 1) := by decide +kernel
theorem dX12_loan_24 : decode cX12_loan 24 = .ok (.iconst 1, 1) := by decide +kernel
theorem dX12_loan_25 : decode cX12_loan 25 = .ok (.if_icmp .ne 16, 3) := by decide +kernel
theorem dX12_loan_28 : decode cX12_loan 28 = .ok (.aload_n 0, 1) := by decide +kernel
theorem dX12_loan_29 : decode cX12_loan 29 = .ok (.aload_n 0, 1) := by decide +kernel
theorem dX12_loan_30 : decode cX12_loan 30 = .ok (.getfield 50, 3) := by decide +kernel
theorem dX12_loan_33 : decode cX12_loan 33 = .ok (.iload_n 1, 1) := by decide +kernel
theorem dX12_loan_34 : decode cX12_loan 34 = .ok (.iaload, 1) := by decide +kernel
theorem dX12_loan_35 : decode cX12_loan 35 = .ok (.invokevirtual 366, 3) := by decide +kernel
theorem dX12_loan_38 : decode cX12_loan 38 = .ok (.goto 21, 3) := by decide +kernel
theorem dX12_loan_41 : decode cX12_loan 41 = .ok (.iload_n 2, 1) := by decide +kernel
theorem dX12_loan_42 : decode cX12_loan 42 = .ok (.iconst 2, 1) := by decide +kernel
theorem dX12_loan_43 : decode cX12_loan 43 = .ok (.if_icmp .ne 15, 3) := by decide +kernel
theorem dX12_loan_46 : decode cX12_loan 46 = .ok (.aload_n 0, 1) := by decide +kernel
theorem dX12_loan_47 : decode cX12_loan 47 = .ok (.getfield 56, 3) := by decide +kernel
theorem dX12_loan_50 : decode cX12_loan 50 = .ok (.bipush 25, 2) := by decide +kernel
theorem dX12_loan_52 : decode cX12_loan 52 = .ok (.iload_n 1, 1) := by decide +kernel
theorem dX12_loan_53 : decode cX12_loan 53 = .ok (.iadd, 1) := by decide +kernel
theorem dX12_loan_54 : decode cX12_loan 54 = .ok (.iaload, 1) := by decide +kernel
theorem dX12_loan_55 : decode cX12_loan 55 = .ok (.goto 4, 3) := by decide +kernel
theorem dX12_loan_58 : decode cX12_loan 58 = .ok (.iconst (-1), 1) := by decide +kernel
theorem dX12_loan_59 : decode cX12_loan 59 = .ok (.ireturn, 1) := by decide +kernel
def X12_loan_b59 (u : gM)  (s0 : Int32) : Option Int32 :=
some s0
def X12_loan (u : gM)  (x1 : Int32) (x2 : Int32) : Option Int32 :=
((X12_isLoan u x1).bind fun w2 => (if w2 = 0 then some (-1)
  else (if x2 = 0 then ((aI skM u 13 x1).bind fun v19 => (X12_loan_b59 u v19))
    else (if x2 = 1 then ((aI skM u 14 x1).bind fun v34 => ((X12_nowAt u v34).bind fun w35 => (X12_loan_b59 u w35)))
      else (if x2 = 2 then ((aI skM u 16 (25 + x1)).bind fun v54 => (X12_loan_b59 u v54))
        else (X12_loan_b59 u (-1)))))))
set_option maxRecDepth 20000 in
theorem v_X12_loan_b59 {κ : gK} {B : Nat} {u : gM} (X : gX κ B skM cX12_loan 3 RX12 (some .int) 2 46)   {s0 : Int32} {w : Int32} (hM : X12_loan_b59 u s0 = some w) : gV κ B skM 3 ((some (.int w)), u) 59 [none, none, none] [.int s0] u := by
  unfold X12_loan_b59 at hM
  cases hM
  exact g_iret X dX12_loan_59
set_option maxRecDepth 20000 in
theorem v_X12_loan {κ : gK} {B : Nat} {u : gM} (X : gX κ B skM cX12_loan 3 RX12 (some .int) 2 46)   {x1 : Int32} {x2 : Int32} {w : Int32} (hM : X12_loan u x1 x2 = some w) : gV κ B skM 3 ((some (.int w)), u) 0 [some (.ref (B + 0)), some (.int x1), some (.int x2)] [] u := by
  unfold X12_loan at hM
  refine g_aload_n X dX12_loan_0 rfl ?_
  refine g_iload_n X dX12_loan_1 rfl ?_
  obtain ⟨w2, e2, hM⟩ := bind_of hM
  refine g_callVi X (fun B adK => [.int x1]) (s_X12_isLoan e2) cvX12_377 cM_0 rfl rfl (Nat.le_of_ble_eq_true rfl) ⟨by decide, by decide⟩ dX12_loan_2 ?_
  refine g_if_ne (tgt := 10) X dX12_loan_5 (by decide) (fun c5 => ?_) (fun c5 => ?_)
  · rw [if_neg c5] at hM
    refine g_iload_n X dX12_loan_10 rfl ?_
    refine g_if_ne (tgt := 23) X dX12_loan_11 (by decide) (fun c11 => ?_) (fun c11 => ?_)
    · rw [if_neg c11] at hM
      refine g_iload_n X dX12_loan_23 rfl ?_
      refine g_iconst X (v := 1) dX12_loan_24 (by decide) ?_
      refine g_icmp_ne (tgt := 41) X dX12_loan_25 (by decide) (fun c25 => ?_) (fun c25 => ?_)
      · rw [if_neg c25] at hM
        refine g_iload_n X dX12_loan_41 rfl ?_
        refine g_iconst X (v := 2) dX12_loan_42 (by decide) ?_
        refine g_icmp_ne (tgt := 58) X dX12_loan_43 (by decide) (fun c43 => ?_) (fun c43 => ?_)
        · rw [if_neg c43] at hM
          refine g_iconst X (v := (-1)) dX12_loan_58 (by decide) ?_
          refine g_mk [false, false, false] [none, none, none] rfl ?_
          exact v_X12_loan_b59 X  hM
        · rw [if_pos c43] at hM
          refine g_aload_n X dX12_loan_46 rfl ?_
          refine g_getR X fX12_56 cM_0 rfl dX12_loan_47 ?_
          refine g_bipush X (v := 25) dX12_loan_50 (by decide) ?_
          refine g_iload_n X dX12_loan_52 rfl ?_
          refine g_iadd X dX12_loan_53 ?_
          obtain ⟨v54, e54, hM⟩ := bind_of hM
          refine g_iaload X e54 dX12_loan_54 ?_
          refine g_goto (tgt := 59) X dX12_loan_55 (by decide) ?_
          refine g_mk [false, false, false] [none, none, none] rfl ?_
          exact v_X12_loan_b59 X  hM
      · rw [if_pos c25] at hM
        refine g_aload_n X dX12_loan_28 rfl ?_
        refine g_aload_n X dX12_loan_29 rfl ?_
        refine g_getR X fX12_50 cM_0 rfl dX12_loan_30 ?_
        refine g_iload_n X dX12_loan_33 rfl ?_
        obtain ⟨v34, e34, hM⟩ := bind_of hM
        refine g_iaload X e34 dX12_loan_34 ?_
        obtain ⟨w35, e35, hM⟩ := bind_of hM
        refine g_callVi X (fun B adK => [.int v34]) (s_X12_nowAt e35) cvX12_366 cM_0 rfl rfl (Nat.le_of_ble_eq_true rfl) ⟨by decide, by decide⟩ dX12_loan_35 ?_
        refine g_goto (tgt := 59) X dX12_loan_38 (by decide) ?_
        refine g_mk [false, false, false] [none, none, none] rfl ?_
        exact v_X12_loan_b59 X  hM
    · rw [if_pos c11] at hM
      refine g_aload_n X dX12_loan_14 rfl ?_
      refine g_getR X fX12_47 cM_0 rfl dX12_loan_15 ?_
      refine g_iload_n X dX12_loan_18 rfl ?_
      obtain ⟨v19, e19, hM⟩ := bind_of hM
      refine g_iaload X e19 dX12_loan_19 ?_
      refine g_goto (tgt := 59) X dX12_loan_20 (by decide) ?_
      refine g_mk [false, false, false] [none, none, none] rfl ?_
      exact v_X12_loan_b59 X  hM
  · rw [if_pos c5] at hM
    refine g_iconst X (v := (-1)) dX12_loan_8 (by decide) ?_
    cases hM
    exact g_iret X dX12_loan_9
theorem s_X12_loan {x1 : Int32} {x2 : Int32} {u : gM} {w : Int32} (hM : X12_loan u x1 x2 = some w) : gMet skM yX12_loan cX12_loan 3 (some .int) 2 46 (fun B adK => [.ref (B + 0), .int x1, .int x2]) u ((fun _ => some (.int w)), u) := by
  refine gMet.of (by decide) (fun _ _ => Nat.le_of_ble_eq_true rfl) (fun κ B X => ?_)
  have X : gX κ B skM cX12_loan 3 RX12 (some .int) 2 46 := X
  refine g_mk [true, true, true] [some (.ref (B + 0)), some (.int x1), some (.int x2)] rfl ?_
  exact v_X12_loan X  hM

/-! CoverDeskModel.look(I)I -/
theorem dX12_look_0 : decode cX12_look 0 = .ok (.iload_n 1, 1) := by decide +kernel
theorem dX12_look_1 : decode cX12_look 1 = .ok (.tableswitch 119 0 9 #[55, 62, 69, 76, 83, 90, 97, 104, 109, 114], 55) := by decide +kernel
theorem dX12_look_56 : decode cX12_look 56 = .ok (.aload_n 0, 1) := by decide +kernel
theorem dX12_look_57 : decode cX12_look 57 = .ok (.getfield 7, 3) := by decide +kernel
theorem dX12_look_60 : decode cX12_look 60 = .ok (.iconst 0, 1) := by decide +kernel
theorem dX12_look_61 : decode cX12_look 61 = .ok (.iaload, 1) := by decide +kernel
theorem dX12_look_62 : decode cX12_look 62 = .ok (.ireturn, 1) := by decide +kernel
theorem dX12_look_63 : decode cX12_look 63 = .ok (.aload_n 0, 1) := by decide +kernel
theorem dX12_look_64 : decode cX12_look 64 = .ok (.getfield 7, 3) := by decide +kernel
theorem dX12_look_67 : decode cX12_look 67 = .ok (.iconst 1, 1) := by decide +kernel
theorem dX12_look_68 : decode cX12_look 68 = .ok (.iaload, 1) := by decide +kernel
theorem dX12_look_69 : decode cX12_look 69 = .ok (.ireturn, 1) := by decide +kernel
theorem dX12_look_70 : decode cX12_look 70 = .ok (.aload_n 0, 1) := by decide +kernel
theorem dX12_look_71 : decode cX12_look 71 = .ok (.getfield 7, 3) := by decide +kernel
theorem dX12_look_74 : decode cX12_look 74 = .ok (.iconst 2, 1) := by decide +kernel
theorem dX12_look_75 : decode cX12_look 75 = .ok (.iaload, 1) := by decide +kernel
theorem dX12_look_76 : decode cX12_look 76 = .ok (.ireturn, 1) := by decide +kernel
theorem dX12_look_77 : decode cX12_look 77 = .ok (.aload_n 0, 1) := by decide +kernel
theorem dX12_look_78 : decode cX12_look 78 = .ok (.getfield 7, 3) := by decide +kernel
theorem dX12_look_81 : decode cX12_look 81 = .ok (.iconst 3, 1) := by decide +kernel
theorem dX12_look_82 : decode cX12_look 82 = .ok (.iaload, 1) := by decide +kernel
theorem dX12_look_83 : decode cX12_look 83 = .ok (.ireturn, 1) := by decide +kernel
theorem dX12_look_84 : decode cX12_look 84 = .ok (.aload_n 0, 1) := by decide +kernel
theorem dX12_look_85 : decode cX12_look 85 = .ok (.getfield 56, 3) := by decide +kernel
theorem dX12_look_88 : decode cX12_look 88 = .ok (.iconst 0, 1) := by decide +kernel
theorem dX12_look_89 : decode cX12_look 89 = .ok (.iaload, 1) := by decide +kernel
theorem dX12_look_90 : decode cX12_look 90 = .ok (.ireturn, 1) := by decide +kernel
theorem dX12_look_91 : decode cX12_look 91 = .ok (.aload_n 0, 1) := by decide +kernel
theorem dX12_look_92 : decode cX12_look 92 = .ok (.getfield 7, 3) := by decide +kernel
theorem dX12_look_95 : decode cX12_look 95 = .ok (.iconst 4, 1) := by decide +kernel
theorem dX12_look_96 : decode cX12_look 96 = .ok (.iaload, 1) := by decide +kernel
theorem dX12_look_97 : decode cX12_look 97 = .ok (.ireturn, 1) := by decide +kernel
theorem dX12_look_98 : decode cX12_look 98 = .ok (.aload_n 0, 1) := by decide +kernel
theorem dX12_look_99 : decode cX12_look 99 = .ok (.getfield 7, 3) := by decide +kernel
theorem dX12_look_102 : decode cX12_look 102 = .ok (.iconst 5, 1) := by decide +kernel
theorem dX12_look_103 : decode cX12_look 103 = .ok (.iaload, 1) := by decide +kernel
theorem dX12_look_104 : decode cX12_look 104 = .ok (.ireturn, 1) := by decide +kernel
theorem dX12_look_105 : decode cX12_look 105 = .ok (.aload_n 0, 1) := by decide +kernel
theorem dX12_look_106 : decode cX12_look 106 = .ok (.getfield 115, 3) := by decide +kernel
theorem dX12_look_109 : decode cX12_look 109 = .ok (.ireturn, 1) := by decide +kernel
theorem dX12_look_110 : decode cX12_look 110 = .ok (.aload_n 0, 1) := by decide +kernel
theorem dX12_look_111 : decode cX12_look 111 = .ok (.getfield 118, 3) := by decide +kernel
theorem dX12_look_114 : decode cX12_look 114 = .ok (.ireturn, 1) := by decide +kernel
theorem dX12_look_115 : decode cX12_look 115 = .ok (.aload_n 0, 1) := by decide +kernel
theorem dX12_look_116 : decode cX12_look 116 = .ok (.getfield 432, 3) := by decide +kernel
theorem dX12_look_119 : decode cX12_look 119 = .ok (.ireturn, 1) := by decide +kernel
theorem dX12_look_120 : decode cX12_look 120 = .ok (.iconst (-1), 1) := by decide +kernel
theorem dX12_look_121 : decode cX12_look 121 = .ok (.ireturn, 1) := by decide +kernel
def X12_look (u : gM)  (x1 : Int32) : Option Int32 :=
(if x1 = 0 then ((aI skM u 1 0).bind fun v61 => some v61)
  else (if x1 = 1 then ((aI skM u 1 1).bind fun v68 => some v68)
  else (if x1 = 2 then ((aI skM u 1 2).bind fun v75 => some v75)
  else (if x1 = 3 then ((aI skM u 1 3).bind fun v82 => some v82)
  else (if x1 = 4 then ((aI skM u 16 0).bind fun v89 => some v89)
  else (if x1 = 5 then ((aI skM u 1 4).bind fun v96 => some v96)
  else (if x1 = 6 then ((aI skM u 1 5).bind fun v103 => some v103)
  else (if x1 = 7 then some (u.1 0 17)
  else (if x1 = 8 then some (u.1 0 20)
  else (if x1 = 9 then some (u.1 0 44)
  else some (-1)))))))))))
set_option maxRecDepth 20000 in
theorem v_X12_look {κ : gK} {B : Nat} {u : gM} (X : gX κ B skM cX12_look 2 RX12 (some .int) 0 0)   {x1 : Int32} {w : Int32} (hM : X12_look u x1 = some w) : gV κ B skM 2 ((some (.int w)), u) 0 [some (.ref (B + 0)), some (.int x1)] [] u := by
  unfold X12_look at hM
  refine g_iload_n X dX12_look_0 rfl ?_
  by_cases h1_0 : x1 = 0
  · rw [if_pos h1_0] at hM
    refine g_tabIn (tgt := 56) (off := 55) X 0 h1_0 dX12_look_1 (by decide) (by decide) (by decide) (by decide) ?_
    refine g_aload_n X dX12_look_56 rfl ?_
    refine g_getR X fX12_7 cM_0 rfl dX12_look_57 ?_
    refine g_iconst X (v := 0) dX12_look_60 (by decide) ?_
    obtain ⟨v61, e61, hM⟩ := bind_of hM
    refine g_iaload X e61 dX12_look_61 ?_
    cases hM
    exact g_iret X dX12_look_62
  rw [if_neg h1_0] at hM
  by_cases h1_1 : x1 = 1
  · rw [if_pos h1_1] at hM
    refine g_tabIn (tgt := 63) (off := 62) X 1 h1_1 dX12_look_1 (by decide) (by decide) (by decide) (by decide) ?_
    refine g_aload_n X dX12_look_63 rfl ?_
    refine g_getR X fX12_7 cM_0 rfl dX12_look_64 ?_
    refine g_iconst X (v := 1) dX12_look_67 (by decide) ?_
    obtain ⟨v68, e68, hM⟩ := bind_of hM
    refine g_iaload X e68 dX12_look_68 ?_
    cases hM
    exact g_iret X dX12_look_69
  rw [if_neg h1_1] at hM
  by_cases h1_2 : x1 = 2
  · rw [if_pos h1_2] at hM
    refine g_tabIn (tgt := 70) (off := 69) X 2 h1_2 dX12_look_1 (by decide) (by decide) (by decide) (by decide) ?_
    refine g_aload_n X dX12_look_70 rfl ?_
    refine g_getR X fX12_7 cM_0 rfl dX12_look_71 ?_
    refine g_iconst X (v := 2) dX12_look_74 (by decide) ?_
    obtain ⟨v75, e75, hM⟩ := bind_of hM
    refine g_iaload X e75 dX12_look_75 ?_
    cases hM
    exact g_iret X dX12_look_76
  rw [if_neg h1_2] at hM
  by_cases h1_3 : x1 = 3
  · rw [if_pos h1_3] at hM
    refine g_tabIn (tgt := 77) (off := 76) X 3 h1_3 dX12_look_1 (by decide) (by decide) (by decide) (by decide) ?_
    refine g_aload_n X dX12_look_77 rfl ?_
    refine g_getR X fX12_7 cM_0 rfl dX12_look_78 ?_
    refine g_iconst X (v := 3) dX12_look_81 (by decide) ?_
    obtain ⟨v82, e82, hM⟩ := bind_of hM
    refine g_iaload X e82 dX12_look_82 ?_
    cases hM
    exact g_iret X dX12_look_83
  rw [if_neg h1_3] at hM
  by_cases h1_4 : x1 = 4
  · rw [if_pos h1_4] at hM
    refine g_tabIn (tgt := 84) (off := 83) X 4 h1_4 dX12_look_1 (by decide) (by decide) (by decide) (by decide) ?_
    refine g_aload_n X dX12_look_84 rfl ?_
    refine g_getR X fX12_56 cM_0 rfl dX12_look_85 ?_
    refine g_iconst X (v := 0) dX12_look_88 (by decide) ?_
    obtain ⟨v89, e89, hM⟩ := bind_of hM
    refine g_iaload X e89 dX12_look_89 ?_
    cases hM
    exact g_iret X dX12_look_90
  rw [if_neg h1_4] at hM
  by_cases h1_5 : x1 = 5
  · rw [if_pos h1_5] at hM
    refine g_tabIn (tgt := 91) (off := 90) X 5 h1_5 dX12_look_1 (by decide) (by decide) (by decide) (by decide) ?_
    refine g_aload_n X dX12_look_91 rfl ?_
    refine g_getR X fX12_7 cM_0 rfl dX12_look_92 ?_
    refine g_iconst X (v := 4) dX12_look_95 (by decide) ?_
    obtain ⟨v96, e96, hM⟩ := bind_of hM
    refine g_iaload X e96 dX12_look_96 ?_
    cases hM
    exact g_iret X dX12_look_97
  rw [if_neg h1_5] at hM
  by_cases h1_6 : x1 = 6
  · rw [if_pos h1_6] at hM
    refine g_tabIn (tgt := 98) (off := 97) X 6 h1_6 dX12_look_1 (by decide) (by decide) (by decide) (by decide) ?_
    refine g_aload_n X dX12_look_98 rfl ?_
    refine g_getR X fX12_7 cM_0 rfl dX12_look_99 ?_
    refine g_iconst X (v := 5) dX12_look_102 (by decide) ?_
    obtain ⟨v103, e103, hM⟩ := bind_of hM
    refine g_iaload X e103 dX12_look_103 ?_
    cases hM
    exact g_iret X dX12_look_104
  rw [if_neg h1_6] at hM
  by_cases h1_7 : x1 = 7
  · rw [if_pos h1_7] at hM
    refine g_tabIn (tgt := 105) (off := 104) X 7 h1_7 dX12_look_1 (by decide) (by decide) (by decide) (by decide) ?_
    refine g_aload_n X dX12_look_105 rfl ?_
    refine g_getI X fX12_115 cM_0 rfl dX12_look_106 ?_
    cases hM
    exact g_iret X dX12_look_109
  rw [if_neg h1_7] at hM
  by_cases h1_8 : x1 = 8
  · rw [if_pos h1_8] at hM
    refine g_tabIn (tgt := 110) (off := 109) X 8 h1_8 dX12_look_1 (by decide) (by decide) (by decide) (by decide) ?_
    refine g_aload_n X dX12_look_110 rfl ?_
    refine g_getI X fX12_118 cM_0 rfl dX12_look_111 ?_
    cases hM
    exact g_iret X dX12_look_114
  rw [if_neg h1_8] at hM
  by_cases h1_9 : x1 = 9
  · rw [if_pos h1_9] at hM
    refine g_tabIn (tgt := 115) (off := 114) X 9 h1_9 dX12_look_1 (by decide) (by decide) (by decide) (by decide) ?_
    refine g_aload_n X dX12_look_115 rfl ?_
    refine g_getI X fX12_432 cM_0 rfl dX12_look_116 ?_
    cases hM
    exact g_iret X dX12_look_119
  rw [if_neg h1_9] at hM
  refine g_tabOut (tgt := 120) X dX12_look_1 (by have q0 := lv_neT (a := 0) h1_0 (by decide); have q1 := lv_neT (a := 1) h1_1 (by decide); have q2 := lv_neT (a := 2) h1_2 (by decide); have q3 := lv_neT (a := 3) h1_3 (by decide); have q4 := lv_neT (a := 4) h1_4 (by decide); have q5 := lv_neT (a := 5) h1_5 (by decide); have q6 := lv_neT (a := 6) h1_6 (by decide); have q7 := lv_neT (a := 7) h1_7 (by decide); have q8 := lv_neT (a := 8) h1_8 (by decide); have q9 := lv_neT (a := 9) h1_9 (by decide); omega) (by decide) ?_
  refine g_iconst X (v := (-1)) dX12_look_120 (by decide) ?_
  cases hM
  exact g_iret X dX12_look_121
theorem s_X12_look {x1 : Int32} {u : gM} {w : Int32} (hM : X12_look u x1 = some w) : gMet skM yX12_look cX12_look 2 (some .int) 0 0 (fun B adK => [.ref (B + 0), .int x1]) u ((fun _ => some (.int w)), u) := by
  refine gMet.of (by decide) (fun _ _ => Nat.le_of_ble_eq_true rfl) (fun κ B X => ?_)
  have X : gX κ B skM cX12_look 2 RX12 (some .int) 0 0 := X
  refine g_mk [true, true] [some (.ref (B + 0)), some (.int x1)] rfl ?_
  exact v_X12_look X  hM

/-! CoverDeskModel.merge(II)Z -/
theorem dX12_merge_0 : decode cX12_merge 0 = .ok (.aload_n 0, 1) := by decide +kernel
theorem dX12_merge_1 : decode cX12_merge 1 = .ok (.invokevirtual 390, 3) := by decide +kernel
theorem dX12_merge_4 : decode cX12_merge 4 = .ok (.aload_n 0, 1) := by decide +kernel
theorem dX12_merge_5 : decode cX12_merge 5 = .ok (.aload_n 0, 1) := by decide +kernel
theorem dX12_merge_6 : decode cX12_merge 6 = .ok (.iload_n 1, 1) := by decide +kernel
theorem dX12_merge_7 : decode cX12_merge 7 = .ok (.iload_n 2, 1) := by decide +kernel
theorem dX12_merge_8 : decode cX12_merge 8 = .ok (.invokevirtual 404, 3) := by decide +kernel
theorem dX12_merge_11 : decode cX12_merge 11 = .ok (.invokevirtual 397, 3) := by decide +kernel
theorem dX12_merge_14 : decode cX12_merge 14 = .ok (.ireturn, 1) := by decide +kernel
def X12_merge  (x1 : Int32) (x2 : Int32) (u : gM) : Option (Int32 × gM) :=
((X12_laysAside u).bind fun w1 => ((X12_merges x1 x2 w1).bind fun w8 => ((X12_isDone w8.1 w8.2).bind fun w11 => ((bI w11.1).bind fun v14 => some (v14, w11.2)))))
set_option maxRecDepth 20000 in
theorem v_X12_merge {κ : gK} {B : Nat} {u : gM} (X : gX κ B skM cX12_merge 3 RX12 (some .boolean) 3 68)   {x1 : Int32} {x2 : Int32} {w : (Int32 × gM)} (hM : X12_merge x1 x2 u = some w) : gV κ B skM 3 ((some (.int w.1)), w.2) 0 [some (.ref (B + 0)), some (.int x1), some (.int x2)] [] u := by
  unfold X12_merge at hM
  refine g_aload_n X dX12_merge_0 rfl ?_
  obtain ⟨w1, e1, hM⟩ := bind_of hM
  refine g_callVv X (fun B adK => []) (s_X12_laysAside e1) cvX12_390 cM_0 rfl rfl (Nat.le_of_ble_eq_true rfl) ⟨by decide, by decide⟩ dX12_merge_1 ?_
  refine g_aload_n X dX12_merge_4 rfl ?_
  refine g_aload_n X dX12_merge_5 rfl ?_
  refine g_iload_n X dX12_merge_6 rfl ?_
  refine g_iload_n X dX12_merge_7 rfl ?_
  obtain ⟨w8, e8, hM⟩ := bind_of hM
  refine g_callVi X (fun B adK => [.int x1, .int x2]) (s_X12_merges e8) cvX12_404 cM_0 rfl rfl (Nat.le_of_ble_eq_true rfl) ⟨by decide, by decide⟩ dX12_merge_8 ?_
  obtain ⟨w11, e11, hM⟩ := bind_of hM
  refine g_callVi X (fun B adK => [.int w8.1]) (s_X12_isDone e11) cvX12_397 cM_0 rfl rfl (Nat.le_of_ble_eq_true rfl) ⟨by decide, by decide⟩ dX12_merge_11 ?_
  obtain ⟨v14, e14, hM⟩ := bind_of hM
  obtain ⟨hv, rfl⟩ := bI_of e14
  cases hM
  exact g_zret X hv dX12_merge_14
theorem s_X12_merge {x1 : Int32} {x2 : Int32} {u : gM} {w : (Int32 × gM)} (hM : X12_merge x1 x2 u = some w) : gMet skM yX12_merge cX12_merge 3 (some .boolean) 3 68 (fun B adK => [.ref (B + 0), .int x1, .int x2]) u ((fun _ => some (.int w.1)), w.2) := by
  refine gMet.of (by decide) (fun _ _ => Nat.le_of_ble_eq_true rfl) (fun κ B X => ?_)
  have X : gX κ B skM cX12_merge 3 RX12 (some .boolean) 3 68 := X
  refine g_mk [true, true, true] [some (.ref (B + 0)), some (.int x1), some (.int x2)] rfl ?_
  exact v_X12_merge X  hM
theorem fr_X12_merge {S : Nat → Prop} {u0 u : gM} {x1 : Int32} {x2 : Int32} (hs0 : S 0) (hs1 : S 16) (hs2 : S 17) (hs3 : S 18)   {w : (Int32 × gM)} (hM : X12_merge x1 x2 u = some w) (h0 : off S u0 u) : off S u0 w.2 := by
  unfold X12_merge at hM
  obtain ⟨w1, e1, hM⟩ := bind_of hM
  have h0 := fr_X12_laysAside hs3 e1 h0
  obtain ⟨w8, e8, hM⟩ := bind_of hM
  have h0 := fr_X12_merges hs1 e8 h0
  obtain ⟨w11, e11, hM⟩ := bind_of hM
  have h0 := fr_X12_isDone hs0 hs2 e11 h0
  obtain ⟨v14, e14, hM⟩ := bind_of hM
  cases hM
  exact h0
/-! CoverDeskModel.months(I)Z -/
theorem dX12_months_0 : decode cX12_months 0 = .ok (.aload_n 0, 1) := by decide +kernel
theorem dX12_months_1 : decode cX12_months 1 = .ok (.invokevirtual 390, 3) := by decide +kernel
theorem dX12_months_4 : decode cX12_months 4 = .ok (.aload_n 0, 1) := by decide +kernel
theorem dX12_months_5 : decode cX12_months 5 = .ok (.aload_n 0, 1) := by decide +kernel
theorem dX12_months_6 : decode cX12_months 6 = .ok (.iload_n 1, 1) := by decide +kernel
theorem dX12_months_7 : decode cX12_months 7 = .ok (.invokevirtual 407, 3) := by decide +kernel
theorem dX12_months_10 : decode cX12_months 10 = .ok (.invokevirtual 397, 3) := by decide +kernel
theorem dX12_months_13 : decode cX12_months 13 = .ok (.ireturn, 1) := by decide +kernel
def X12_months  (x1 : Int32) (u : gM) : Option (Int32 × gM) :=
((X12_laysAside u).bind fun w1 => ((X12_passes x1 w1).bind fun w7 => ((X12_isDone w7.1 w7.2).bind fun w10 => ((bI w10.1).bind fun v13 => some (v13, w10.2)))))
set_option maxRecDepth 20000 in
theorem v_X12_months {κ : gK} {B : Nat} {u : gM} (X : gX κ B skM cX12_months 2 RX12 (some .boolean) 2 46)   {x1 : Int32} {w : (Int32 × gM)} (hM : X12_months x1 u = some w) : gV κ B skM 2 ((some (.int w.1)), w.2) 0 [some (.ref (B + 0)), some (.int x1)] [] u := by
  unfold X12_months at hM
  refine g_aload_n X dX12_months_0 rfl ?_
  obtain ⟨w1, e1, hM⟩ := bind_of hM
  refine g_callVv X (fun B adK => []) (s_X12_laysAside e1) cvX12_390 cM_0 rfl rfl (Nat.le_of_ble_eq_true rfl) ⟨by decide, by decide⟩ dX12_months_1 ?_
  refine g_aload_n X dX12_months_4 rfl ?_
  refine g_aload_n X dX12_months_5 rfl ?_
  refine g_iload_n X dX12_months_6 rfl ?_
  obtain ⟨w7, e7, hM⟩ := bind_of hM
  refine g_callVi X (fun B adK => [.int x1]) (s_X12_passes e7) cvX12_407 cM_0 rfl rfl (Nat.le_of_ble_eq_true rfl) ⟨by decide, by decide⟩ dX12_months_7 ?_
  obtain ⟨w10, e10, hM⟩ := bind_of hM
  refine g_callVi X (fun B adK => [.int w7.1]) (s_X12_isDone e10) cvX12_397 cM_0 rfl rfl (Nat.le_of_ble_eq_true rfl) ⟨by decide, by decide⟩ dX12_months_10 ?_
  obtain ⟨v13, e13, hM⟩ := bind_of hM
  obtain ⟨hv, rfl⟩ := bI_of e13
  cases hM
  exact g_zret X hv dX12_months_13
theorem s_X12_months {x1 : Int32} {u : gM} {w : (Int32 × gM)} (hM : X12_months x1 u = some w) : gMet skM yX12_months cX12_months 2 (some .boolean) 2 46 (fun B adK => [.ref (B + 0), .int x1]) u ((fun _ => some (.int w.1)), w.2) := by
  refine gMet.of (by decide) (fun _ _ => Nat.le_of_ble_eq_true rfl) (fun κ B X => ?_)
  have X : gX κ B skM cX12_months 2 RX12 (some .boolean) 2 46 := X
  refine g_mk [true, true] [some (.ref (B + 0)), some (.int x1)] rfl ?_
  exact v_X12_months X  hM
theorem fr_X12_months {S : Nat → Prop} {u0 u : gM} {x1 : Int32} (hs0 : S 0) (hs1 : S 16) (hs2 : S 17) (hs3 : S 18)   {w : (Int32 × gM)} (hM : X12_months x1 u = some w) (h0 : off S u0 u) : off S u0 w.2 := by
  unfold X12_months at hM
  obtain ⟨w1, e1, hM⟩ := bind_of hM
  have h0 := fr_X12_laysAside hs3 e1 h0
  obtain ⟨w7, e7, hM⟩ := bind_of hM
  have h0 := fr_X12_passes hs1 e7 h0
  obtain ⟨w10, e10, hM⟩ := bind_of hM
  have h0 := fr_X12_isDone hs0 hs2 e10 h0
  obtain ⟨v13, e13, hM⟩ := bind_of hM
  cases hM
  exact h0
/-! CoverDeskModel.move(III)J -/
theorem dX12_move_0 : decode cX12_move 0 = .ok (.aload_n 0, 1) := by decide +kernel
theorem dX12_move_1 : decode cX12_move 1 = .ok (.iload_n 1, 1) := by decide +kernel
theorem dX12_move_2 : decode cX12_move 2 = .ok (.invokevirtual 446, 3) := by decide +kernel
theorem dX12_move_5 : decode cX12_move 5 = .ok (.ifCond .ne 7, 3) := by decide +kernel
theorem dX12_move_8 : decode cX12_move 8 = .ok (.ldc2_w 341, 3) := by decide +kernel
theorem dX12_move_11 : decode cX12_move 11 = .ok (.lreturn, 1) := by decide +kernel
theorem dX12_move_12 : decode cX12_move 12 = .ok (.aload_n 0, 1) := by decide +kernel
theorem dX12_move_13 : decode cX12_move 13 = .ok (.iload_n 1, 1) := by decide +kernel
theorem dX12_move_14 : decode cX12_move 14 = .ok (.invokevirtual 465, 3) := by decide +kernel
theorem dX12_move_17 : decode cX12_move 17 = .ok (.iconst 0, 1) := by decide +kernel
theorem dX12_move_18 : decode cX12_move 18 = .ok (.istore 4, 2) := by decide +kernel
theorem dX12_move_20 : decode cX12_move 20 = .ok (.iconst 0, 1) := by decide +kernel
theorem dX12_move_21 : decode cX12_move 21 = .ok (.istore 5, 2) := by decide +kernel
theorem dX12_move_23 : decode cX12_move 23 = .ok (.iload 5, 2) := by decide +kernel
theorem dX12_move_25 : decode cX12_move 25 = .ok (.aload_n 0, 1) := by decide +kernel
theorem dX12_move_26 : decode cX12_move 26 = .ok (.getfield 7, 3) := by decide +kernel
theorem dX12_move_29 : decode cX12_move 29 = .ok (.iconst 1, 1) := by decide +kernel
theorem dX12_move_30 : decode cX12_move 30 = .ok (.iaload, 1) := by decide +kernel
theorem dX12_move_31 : decode cX12_move 31 = .ok (.if_icmp .ge 126, 3) := by decide +kernel
theorem dX12_move_34 : decode cX12_move 34 = .ok (.iconst 0, 1) := by decide +kernel
theorem dX12_move_35 : decode cX12_move 35 = .ok (.istore 6, 2) := by decide +kernel
theorem dX12_move_37 : decode cX12_move 37 = .ok (.iload 6, 2) := by decide +kernel
theorem dX12_move_39 : decode cX12_move 39 = .ok (.aload_n 0, 1) := by decide +kernel
theorem dX12_move_40 : decode cX12_move 40 = .ok (.getfield 7, 3) := by decide +kernel
theorem dX12_move_43 : decode cX12_move 43 = .ok (.iconst 1, 1) := by decide +kernel
theorem dX12_move_44 : decode cX12_move 44 = .ok (.iaload, 1) := by decide +kernel
theorem dX12_move_45 : decode cX12_move 45 = .ok (.if_icmp .ge 106, 3) := by decide +kernel
theorem dX12_move_48 : decode cX12_move 48 = .ok (.aload_n 0, 1) := by decide +kernel
theorem dX12_move_49 : decode cX12_move 49 = .ok (.getfield 102, 3) := by decide +kernel
theorem dX12_move_52 : decode cX12_move 52 = .ok (.iload 5, 2) := by decide +kernel
theorem dX12_move_54 : decode cX12_move 54 = .ok (.laload, 1) := by decide +kernel
theorem dX12_move_55 : decode cX12_move 55 = .ok (.aload_n 0, 1) := by decide +kernel
theorem dX12_move_56 : decode cX12_move 56 = .ok (.getfield 105, 3) := by decide +kernel
theorem dX12_move_59 : decode cX12_move 59 = .ok (.iload 6, 2) := by decide +kernel
theorem dX12_move_61 : decode cX12_move 61 = .ok (.laload, 1) := by decide +kernel
theorem dX12_move_62 : decode cX12_move 62 = .ok (.invokestatic 338, 3) := by decide +kernel
theorem dX12_move_65 : decode cX12_move 65 = .ok (.lstore 7, 2) := by decide +kernel
theorem dX12_move_67 : decode cX12_move 67 = .ok (.lload 7, 2) := by decide +kernel
theorem dX12_move_69 : decode cX12_move 69 = .ok (.lconst 0, 1) := by decide +kernel
theorem dX12_move_70 : decode cX12_move 70 = .ok (.lcmp, 1) := by decide +kernel
theorem dX12_move_71 : decode cX12_move 71 = .ok (.ifCond .ne 6, 3) := by decide +kernel
theorem dX12_move_74 : decode cX12_move 74 = .ok (.goto 71, 3) := by decide +kernel
theorem dX12_move_77 : decode cX12_move 77 = .ok (.iload 4, 2) := by decide +kernel
theorem dX12_move_79 : decode cX12_move 79 = .ok (.iload_n 2, 1) := by decide +kernel
theorem dX12_move_80 : decode cX12_move 80 = .ok (.if_icmp .ne 38, 3) := by decide +kernel
theorem dX12_move_83 : decode cX12_move 83 = .ok (.iload_n 3, 1) := by decide +kernel
theorem dX12_move_84 : decode cX12_move 84 = .ok (.ifCond .ne 9, 3) := by decide +kernel
theorem dX12_move_87 : decode cX12_move 87 = .ok (.iload 5, 2) := by decide +kernel
theorem dX12_move_89 : decode cX12_move 89 = .ok (.i2l, 1) := by decide +kernel
theorem dX12_move_90 : decode cX12_move 90 = .ok (.goto 27, 3) := by decide +kernel
theorem dX12_move_93 : decode cX12_move 93 = .ok (.iload_n 3, 1) := by decide +kernel
theorem dX12_move_94 : decode cX12_move 94 = .ok (.iconst 1, 1) := by decide +kernel
theorem dX12_move_95 : decode cX12_move 95 = .ok (.if_icmp .ne 9, 3) := by decide +kernel
theorem dX12_move_98 : decode cX12_move 98 = .ok (.iload 6, 2) := by decide +kernel
theorem dX12_move_100 : decode cX12_move 100 = .ok (.i2l, 1) := by decide +kernel
theorem dX12_move_101 : decode cX12_move 101 = .ok (.goto 16, 3) := by decide +kernel
theorem dX12_move_104 : decode cX12_move 104 = .ok (.iload_n 3, 1) := by decide +kernel
theorem dX12_move_105 : decode cX12_move 105 = .ok (.iconst 2, 1) := by decide +kernel
theorem dX12_move_106 : decode cX12_move 106 = .ok (.if_icmp .ne 8, 3) := by decide +kernel
theorem dX12_move_109 : decode cX12_move 109 = .ok (.lload 7, 2) := by decide +kernel
theorem dX12_move_111 : decode cX12_move 111 = .ok (.goto 6, 3) := by decide +kernel
theorem dX12_move_114 : decode cX12_move 114 = .ok (.ldc2_w 341, 3) := by decide +kernel
theorem dX12_move_117 : decode cX12_move 117 = .ok (.lreturn, 1) := by decide +kernel
theorem dX12_move_118 : decode cX12_move 118 = .ok (.aload_n 0, 1) := by decide +kernel
theorem dX12_move_119 : decode cX12_move 119 = .ok (.getfield 102, 3) := by decide +kernel
theorem dX12_move_122 : decode cX12_move 122 = .ok (.iload 5, 2) := by decide +kernel
theorem dX12_move_124 : decode cX12_move 124 = .ok (.dup2, 1) := by decide +kernel
theorem dX12_move_125 : decode cX12_move 125 = .ok (.laload, 1) := by decide +kernel
theorem dX12_move_126 : decode cX12_move 126 = .ok (.lload 7, 2) := by decide +kernel
theorem dX12_move_128 : decode cX12_move 128 = .ok (.lsub, 1) := by decide +kernel
theorem dX12_move_129 : decode cX12_move 129 = .ok (.lastore, 1) := by decide +kernel
theorem dX12_move_130 : decode cX12_move 130 = .ok (.aload_n 0, 1) := by decide +kernel
theorem dX12_move_131 : decode cX12_move 131 = .ok (.getfield 105, 3) := by decide +kernel
theorem dX12_move_134 : decode cX12_move 134 = .ok (.iload 6, 2) := by decide +kernel
theorem dX12_move_136 : decode cX12_move 136 = .ok (.dup2, 1) := by decide +kernel
theorem dX12_move_137 : decode cX12_move 137 = .ok (.laload, 1) := by decide +kernel
theorem dX12_move_138 : decode cX12_move 138 = .ok (.lload 7, 2) := by decide +kernel
theorem dX12_move_140 : decode cX12_move 140 = .ok (.lsub, 1) := by decide +kernel
theorem dX12_move_141 : decode cX12_move 141 = .ok (.lastore, 1) := by decide +kernel
theorem dX12_move_142 : decode cX12_move 142 = .ok (.iinc 4 1, 3) := by decide +kernel
theorem dX12_move_145 : decode cX12_move 145 = .ok (.iinc 6 1, 3) := by decide +kernel
theorem dX12_move_148 : decode cX12_move 148 = .ok (.goto (-111), 3) := by decide +kernel
theorem dX12_move_151 : decode cX12_move 151 = .ok (.iinc 5 1, 3) := by decide +kernel
theorem dX12_move_154 : decode cX12_move 154 = .ok (.goto (-131), 3) := by decide +kernel
theorem dX12_move_157 : decode cX12_move 157 = .ok (.iload_n 2, 1) := by decide +kernel
theorem dX12_move_158 : decode cX12_move 158 = .ok (.iconst (-1), 1) := by decide +kernel
theorem dX12_move_159 : decode cX12_move 159 = .ok (.if_icmp .ne 9, 3) := by decide +kernel
theorem dX12_move_162 : decode cX12_move 162 = .ok (.iload 4, 2) := by decide +kernel
theorem dX12_move_164 : decode cX12_move 164 = .ok (.i2l, 1) := by decide +kernel
theorem dX12_move_165 : decode cX12_move 165 = .ok (.goto 6, 3) := by decide +kernel
theorem dX12_move_168 : decode cX12_move 168 = .ok (.ldc2_w 341, 3) := by decide +kernel
theorem dX12_move_171 : decode cX12_move 171 = .ok (.lreturn, 1) := by decide +kernel
def X12_move_b171  (s0 : Int64) (u : gM) : Option (Int64 × gM) :=
some (s0, u)
def X12_move_b145 (k23 : Int32 → Int32 → Int32 → Int32 → gM → Option (Int64 × gM)) (k37 : Int32 → Int32 → Int32 → Int32 → Int32 → gM → Option (Int64 × gM)) (x2 : Int32) (x3 : Int32) (x4 : Int32) (x5 : Int32) (x6 : Int32) (u : gM) : Option (Int64 × gM) :=
(k37 x2 x3 x4 x5 (x6 + 1) u)
def X12_move_b117  (s0 : Int64) (u : gM) : Option (Int64 × gM) :=
some (s0, u)
def X12_move_b37 (k23 : Int32 → Int32 → Int32 → Int32 → gM → Option (Int64 × gM)) (k37 : Int32 → Int32 → Int32 → Int32 → Int32 → gM → Option (Int64 × gM)) (x2 : Int32) (x3 : Int32) (x4 : Int32) (x5 : Int32) (x6 : Int32) (u : gM) : Option (Int64 × gM) :=
((aI skM u 1 1).bind fun v44 => (if v44 ≤ x6 then (k23 x2 x3 x4 (x5 + 1) u)
  else ((aJ skM u 28 x5).bind fun v54 => ((aJ skM u 29 x6).bind fun v61 => (if (lg_cmp (mnJ v54 v61) 0) = 0 then (X12_move_b145 k23 k37 x2 x3 x4 x5 x6 u)
    else (if x4 = x2 then (if x3 = 0 then (X12_move_b117 x5.toInt64 u)
        else (if x3 = 1 then (X12_move_b117 x6.toInt64 u)
          else (if x3 = 2 then (X12_move_b117 (mnJ v54 v61) u)
            else (X12_move_b117 (-1) u))))
      else ((aJ skM u 28 x5).bind fun v125 => ((sJ skM u 28 x5 (v125 - (mnJ v54 v61))).bind fun u129 => ((aJ skM u129 29 x6).bind fun v137 => ((sJ skM u129 29 x6 (v137 - (mnJ v54 v61))).bind fun u141 => (X12_move_b145 k23 k37 x2 x3 (x4 + 1) x5 x6 u141)))))))))))
def X12_move_l37 (k23 : Int32 → Int32 → Int32 → Int32 → gM → Option (Int64 × gM)) : Nat → Int32 → Int32 → Int32 → Int32 → Int32 → gM → Option (Int64 × gM)
  | 0, _, _, _, _, _, _ => none
  | n + 1, x2, x3, x4, x5, x6, u => X12_move_b37 k23 (X12_move_l37 k23 n) x2 x3 x4 x5 x6 u
def X12_move_b23 (k23 : Int32 → Int32 → Int32 → Int32 → gM → Option (Int64 × gM)) (x2 : Int32) (x3 : Int32) (x4 : Int32) (x5 : Int32) (u : gM) : Option (Int64 × gM) :=
((aI skM u 1 1).bind fun v30 => (if v30 ≤ x5 then (if x2 = (-1) then (X12_move_b171 x4.toInt64 u)
    else (X12_move_b171 (-1) u))
  else (X12_move_l37 k23 fz x2 x3 x4 x5 0 u)))
def X12_move_l23  : Nat → Int32 → Int32 → Int32 → Int32 → gM → Option (Int64 × gM)
  | 0, _, _, _, _, _ => none
  | n + 1, x2, x3, x4, x5, u => X12_move_b23  (X12_move_l23  n) x2 x3 x4 x5 u
def X12_move  (x1 : Int32) (x2 : Int32) (x3 : Int32) (u : gM) : Option (Int64 × gM) :=
((X12_isPerson u x1).bind fun w2 => (if w2 = 0 then some ((-1), u)
  else ((X12_laysMoves x1 u).bind fun w14 => (X12_move_l23 fz x2 x3 0 0 w14))))
set_option maxRecDepth 20000 in
theorem v_X12_move_b171 {κ : gK} {B : Nat} {u : gM} (X : gX κ B skM cX12_move 9 RX12 (some .long) 6 149)   {s0 : Int64} {w : (Int64 × gM)} (hM : X12_move_b171 s0 u = some w) : gV κ B skM 9 ((some (.long w.1)), w.2) 171 [none, none, none, none, none, none, none, none, none] [.long s0] u := by
  unfold X12_move_b171 at hM
  cases hM
  exact g_lret X dX12_move_171
set_option maxRecDepth 20000 in
theorem v_X12_move_b145 {κ : gK} {B : Nat} {u : gM} (X : gX κ B skM cX12_move 9 RX12 (some .long) 6 149) {k23 : Int32 → Int32 → Int32 → Int32 → gM → Option (Int64 × gM)} {k37 : Int32 → Int32 → Int32 → Int32 → Int32 → gM → Option (Int64 × gM)} (ih23 : ∀ (x2 : Int32) (x3 : Int32) (x4 : Int32) (x5 : Int32) (u : gM) (w : (Int64 × gM)), k23 x2 x3 x4 x5 u = some w → gV κ B skM 9 ((some (.long w.1)), w.2) 23 [some (.ref (B + 0)), none, some (.int x2), some (.int x3), some (.int x4), some (.int x5), none, none, none] [] u) (ih37 : ∀ (x2 : Int32) (x3 : Int32) (x4 : Int32) (x5 : Int32) (x6 : Int32) (u : gM) (w : (Int64 × gM)), k37 x2 x3 x4 x5 x6 u = some w → gV κ B skM 9 ((some (.long w.1)), w.2) 37 [some (.ref (B + 0)), none, some (.int x2), some (.int x3), some (.int x4), some (.int x5), some (.int x6), none, none] [] u) {x2 : Int32} {x3 : Int32} {x4 : Int32} {x5 : Int32} {x6 : Int32} {w : (Int64 × gM)} (hM : X12_move_b145 k23 k37 x2 x3 x4 x5 x6 u = some w) : gV κ B skM 9 ((some (.long w.1)), w.2) 145 [some (.ref (B + 0)), none, some (.int x2), some (.int x3), some (.int x4), some (.int x5), some (.int x6), none, none] [] u := by
  unfold X12_move_b145 at hM
  refine g_iinc (d := 1) X [some (.ref (B + 0)), none, some (.int x2), some (.int x3), some (.int x4), some (.int x5), some (.int (x6 + 1)), none, none] dX12_move_145 (by decide) rfl (by decide) rfl ?_
  refine g_goto (tgt := 37) X dX12_move_148 (by decide) ?_
  refine g_mk [true, false, true, true, true, true, true, false, false] [some (.ref (B + 0)), none, some (.int x2), some (.int x3), some (.int x4), some (.int x5), some (.int (x6 + 1)), none, none] rfl ?_
  exact ih37 x2 x3 x4 x5 (x6 + 1) u _ hM
set_option maxRecDepth 20000 in
theorem v_X12_move_b117 {κ : gK} {B : Nat} {u : gM} (X : gX κ B skM cX12_move 9 RX12 (some .long) 6 149)   {s0 : Int64} {w : (Int64 × gM)} (hM : X12_move_b117 s0 u = some w) : gV κ B skM 9 ((some (.long w.1)), w.2) 117 [none, none, none, none, none, none, none, none, none] [.long s0] u := by
  unfold X12_move_b117 at hM
  cases hM
  exact g_lret X dX12_move_117
set_option maxRecDepth 20000 in
theorem v_X12_move_b37 {κ : gK} {B : Nat} {u : gM} (X : gX κ B skM cX12_move 9 RX12 (some .long) 6 149) {k23 : Int32 → Int32 → Int32 → Int32 → gM → Option (Int64 × gM)} {k37 : Int32 → Int32 → Int32 → Int32 → Int32 → gM → Option (Int64 × gM)} (ih23 : ∀ (x2 : Int32) (x3 : Int32) (x4 : Int32) (x5 : Int32) (u : gM) (w : (Int64 × gM)), k23 x2 x3 x4 x5 u = some w → gV κ B skM 9 ((some (.long w.1)), w.2) 23 [some (.ref (B + 0)), none, some (.int x2), some (.int x3), some (.int x4), some (.int x5), none, none, none] [] u) (ih37 : ∀ (x2 : Int32) (x3 : Int32) (x4 : Int32) (x5 : Int32) (x6 : Int32) (u : gM) (w : (Int64 × gM)), k37 x2 x3 x4 x5 x6 u = some w → gV κ B skM 9 ((some (.long w.1)), w.2) 37 [some (.ref (B + 0)), none, some (.int x2), some (.int x3), some (.int x4), some (.int x5), some (.int x6), none, none] [] u) {x2 : Int32} {x3 : Int32} {x4 : Int32} {x5 : Int32} {x6 : Int32} {w : (Int64 × gM)} (hM : X12_move_b37 k23 k37 x2 x3 x4 x5 x6 u = some w) : gV κ B skM 9 ((some (.long w.1)), w.2) 37 [some (.ref (B + 0)), none, some (.int x2), some (.int x3), some (.int x4), some (.int x5), some (.int x6), none, none] [] u := by
  unfold X12_move_b37 at hM
  refine g_iload X dX12_move_37 rfl ?_
  refine g_aload_n X dX12_move_39 rfl ?_
  refine g_getR X fX12_7 cM_0 rfl dX12_move_40 ?_
  refine g_iconst X (v := 1) dX12_move_43 (by decide) ?_
  obtain ⟨v44, e44, hM⟩ := bind_of hM
  refine g_iaload X e44 dX12_move_44 ?_
  refine g_icmp_ge (tgt := 151) X dX12_move_45 (by decide) (fun c45 => ?_) (fun c45 => ?_)
  · rw [if_pos c45] at hM
    refine g_iinc (d := 1) X [some (.ref (B + 0)), none, some (.int x2), some (.int x3), some (.int x4), some (.int (x5 + 1)), some (.int x6), none, none] dX12_move_151 (by decide) rfl (by decide) rfl ?_
    refine g_goto (tgt := 23) X dX12_move_154 (by decide) ?_
    refine g_mk [true, false, true, true, true, true, false, false, false] [some (.ref (B + 0)), none, some (.int x2), some (.int x3), some (.int x4), some (.int (x5 + 1)), none, none, none] rfl ?_
    exact ih23 x2 x3 x4 (x5 + 1) u _ hM
  · rw [if_neg c45] at hM
    refine g_aload_n X dX12_move_48 rfl ?_
    refine g_getR X fX12_102 cM_0 rfl dX12_move_49 ?_
    refine g_iload X dX12_move_52 rfl ?_
    obtain ⟨v54, e54, hM⟩ := bind_of hM
    refine g_laload X e54 dX12_move_54 ?_
    refine g_aload_n X dX12_move_55 rfl ?_
    refine g_getR X fX12_105 cM_0 rfl dX12_move_56 ?_
    refine g_iload X dX12_move_59 rfl ?_
    obtain ⟨v61, e61, hM⟩ := bind_of hM
    refine g_laload X e61 dX12_move_61 ?_
    refine g_minJ X m_43_5 ⟨by decide, Nat.le_of_ble_eq_true rfl⟩ dX12_move_62 ?_
    refine g_lstore X [some (.ref (B + 0)), none, some (.int x2), some (.int x3), some (.int x4), some (.int x5), some (.int x6), some (.long (mnJ v54 v61)), none] dX12_move_65 (by decide) rfl ?_
    refine g_lload X dX12_move_67 rfl ?_
    refine g_lconst (v := 0) X dX12_move_69 (by decide) ?_
    refine g_lcmp X dX12_move_70 ?_
    refine g_if_ne (tgt := 77) X dX12_move_71 (by decide) (fun c71 => ?_) (fun c71 => ?_)
    · rw [if_neg c71] at hM
      refine g_iload X dX12_move_77 rfl ?_
      refine g_iload_n X dX12_move_79 rfl ?_
      refine g_icmp_ne (tgt := 118) X dX12_move_80 (by decide) (fun c80 => ?_) (fun c80 => ?_)
      · rw [if_neg c80] at hM
        refine g_aload_n X dX12_move_118 rfl ?_
        refine g_getR X fX12_102 cM_0 rfl dX12_move_119 ?_
        refine g_iload X dX12_move_122 rfl ?_
        refine g_dup2_11 X rfl rfl dX12_move_124 ?_
        obtain ⟨v125, e125, hM⟩ := bind_of hM
        refine g_laload X e125 dX12_move_125 ?_
        refine g_lload X dX12_move_126 rfl ?_
        refine g_lsub X dX12_move_128 ?_
        obtain ⟨u129, e129, hM⟩ := bind_of hM
        refine g_lastore X e129 dX12_move_129 ?_
        refine g_aload_n X dX12_move_130 rfl ?_
        refine g_getR X fX12_105 cM_0 rfl dX12_move_131 ?_
        refine g_iload X dX12_move_134 rfl ?_
        refine g_dup2_11 X rfl rfl dX12_move_136 ?_
        obtain ⟨v137, e137, hM⟩ := bind_of hM
        refine g_laload X e137 dX12_move_137 ?_
        refine g_lload X dX12_move_138 rfl ?_
        refine g_lsub X dX12_move_140 ?_
        obtain ⟨u141, e141, hM⟩ := bind_of hM
        refine g_lastore X e141 dX12_move_141 ?_
        refine g_iinc (d := 1) X [some (.ref (B + 0)), none, some (.int x2), some (.int x3), some (.int (x4 + 1)), some (.int x5), some (.int x6), some (.long (mnJ v54 v61)), none] dX12_move_142 (by decide) rfl (by decide) rfl ?_
        refine g_mk [true, false, true, true, true, true, true, false, false] [some (.ref (B + 0)), none, some (.int x2), some (.int x3), some (.int (x4 + 1)), some (.int x5), some (.int x6), none, none] rfl ?_
        exact v_X12_move_b145 X ih23 ih37 hM
      · rw [if_pos c80] at hM
        refine g_iload_n X dX12_move_83 rfl ?_
        refine g_if_ne (tgt := 93) X dX12_move_84 (by decide) (fun c84 => ?_) (fun c84 => ?_)
        · rw [if_neg c84] at hM
          refine g_iload_n X dX12_move_93 rfl ?_
          refine g_iconst X (v := 1) dX12_move_94 (by decide) ?_
          refine g_icmp_ne (tgt := 104) X dX12_move_95 (by decide) (fun c95 => ?_) (fun c95 => ?_)
          · rw [if_neg c95] at hM
            refine g_iload_n X dX12_move_104 rfl ?_
            refine g_iconst X (v := 2) dX12_move_105 (by decide) ?_
            refine g_icmp_ne (tgt := 114) X dX12_move_106 (by decide) (fun c106 => ?_) (fun c106 => ?_)
            · rw [if_neg c106] at hM
              refine g_ldc2 (v := (-1)) X m_43_8 dX12_move_114 ?_
              refine g_mk [false, false, false, false, false, false, false, false, false] [none, none, none, none, none, none, none, none, none] rfl ?_
              exact v_X12_move_b117 X  hM
            · rw [if_pos c106] at hM
              refine g_lload X dX12_move_109 rfl ?_
              refine g_goto (tgt := 117) X dX12_move_111 (by decide) ?_
              refine g_mk [false, false, false, false, false, false, false, false, false] [none, none, none, none, none, none, none, none, none] rfl ?_
              exact v_X12_move_b117 X  hM
          · rw [if_pos c95] at hM
            refine g_iload X dX12_move_98 rfl ?_
            refine g_i2l X dX12_move_100 ?_
            refine g_goto (tgt := 117) X dX12_move_101 (by decide) ?_
            refine g_mk [false, false, false, false, false, false, false, false, false] [none, none, none, none, none, none, none, none, none] rfl ?_
            exact v_X12_move_b117 X  hM
        · rw [if_pos c84] at hM
          refine g_iload X dX12_move_87 rfl ?_
          refine g_i2l X dX12_move_89 ?_
          refine g_goto (tgt := 117) X dX12_move_90 (by decide) ?_
          refine g_mk [false, false, false, false, false, false, false, false, false] [none, none, none, none, none, none, none, none, none] rfl ?_
          exact v_X12_move_b117 X  hM
    · rw [if_pos c71] at hM
      refine g_goto (tgt := 145) X dX12_move_74 (by decide) ?_
      refine g_mk [true, false, true, true, true, true, true, false, false] [some (.ref (B + 0)), none, some (.int x2), some (.int x3), some (.int x4), some (.int x5), some (.int x6), none, none] rfl ?_
      exact v_X12_move_b145 X ih23 ih37 hM
theorem v_X12_move_l37 {κ : gK} {B : Nat} (X : gX κ B skM cX12_move 9 RX12 (some .long) 6 149) {k23 : Int32 → Int32 → Int32 → Int32 → gM → Option (Int64 × gM)} (ih23 : ∀ (x2 : Int32) (x3 : Int32) (x4 : Int32) (x5 : Int32) (u : gM) (w : (Int64 × gM)), k23 x2 x3 x4 x5 u = some w → gV κ B skM 9 ((some (.long w.1)), w.2) 23 [some (.ref (B + 0)), none, some (.int x2), some (.int x3), some (.int x4), some (.int x5), none, none, none] [] u) : ∀ (n : Nat) {x2 : Int32} {x3 : Int32} {x4 : Int32} {x5 : Int32} {x6 : Int32} {u : gM} {w : (Int64 × gM)} (hM : X12_move_l37 k23 n x2 x3 x4 x5 x6 u = some w), gV κ B skM 9 ((some (.long w.1)), w.2) 37 [some (.ref (B + 0)), none, some (.int x2), some (.int x3), some (.int x4), some (.int x5), some (.int x6), none, none] [] u := by
  intro n
  induction n with
  | zero => intro x2 x3 x4 x5 x6 u w hM; exact nomatch (show (none : Option (Int64 × gM)) = some w from hM)
  | succ n ihn => intro x2 x3 x4 x5 x6 u w hM; exact v_X12_move_b37 X ih23 (fun x2 x3 x4 x5 x6 u w h => ihn h) hM
set_option maxRecDepth 20000 in
theorem v_X12_move_b23 {κ : gK} {B : Nat} {u : gM} (X : gX κ B skM cX12_move 9 RX12 (some .long) 6 149) {k23 : Int32 → Int32 → Int32 → Int32 → gM → Option (Int64 × gM)} (ih23 : ∀ (x2 : Int32) (x3 : Int32) (x4 : Int32) (x5 : Int32) (u : gM) (w : (Int64 × gM)), k23 x2 x3 x4 x5 u = some w → gV κ B skM 9 ((some (.long w.1)), w.2) 23 [some (.ref (B + 0)), none, some (.int x2), some (.int x3), some (.int x4), some (.int x5), none, none, none] [] u) {x2 : Int32} {x3 : Int32} {x4 : Int32} {x5 : Int32} {w : (Int64 × gM)} (hM : X12_move_b23 k23 x2 x3 x4 x5 u = some w) : gV κ B skM 9 ((some (.long w.1)), w.2) 23 [some (.ref (B + 0)), none, some (.int x2), some (.int x3), some (.int x4), some (.int x5), none, none, none] [] u := by
  unfold X12_move_b23 at hM
  refine g_iload X dX12_move_23 rfl ?_
  refine g_aload_n X dX12_move_25 rfl ?_
  refine g_getR X fX12_7 cM_0 rfl dX12_move_26 ?_
  refine g_iconst X (v := 1) dX12_move_29 (by decide) ?_
  obtain ⟨v30, e30, hM⟩ := bind_of hM
  refine g_iaload X e30 dX12_move_30 ?_
  refine g_icmp_ge (tgt := 157) X dX12_move_31 (by decide) (fun c31 => ?_) (fun c31 => ?_)
  · rw [if_pos c31] at hM
    refine g_iload_n X dX12_move_157 rfl ?_
    refine g_iconst X (v := (-1)) dX12_move_158 (by decide) ?_
    refine g_icmp_ne (tgt := 168) X dX12_move_159 (by decide) (fun c159 => ?_) (fun c159 => ?_)
    · rw [if_neg c159] at hM
      refine g_ldc2 (v := (-1)) X m_43_8 dX12_move_168 ?_
      refine g_mk [false, false, false, false, false, false, false, false, false] [none, none, none, none, none, none, none, none, none] rfl ?_
      exact v_X12_move_b171 X  hM
    · rw [if_pos c159] at hM
      refine g_iload X dX12_move_162 rfl ?_
      refine g_i2l X dX12_move_164 ?_
      refine g_goto (tgt := 171) X dX12_move_165 (by decide) ?_
      refine g_mk [false, false, false, false, false, false, false, false, false] [none, none, none, none, none, none, none, none, none] rfl ?_
      exact v_X12_move_b171 X  hM
  · rw [if_neg c31] at hM
    refine g_iconst X (v := 0) dX12_move_34 (by decide) ?_
    refine g_istore X [some (.ref (B + 0)), none, some (.int x2), some (.int x3), some (.int x4), some (.int x5), some (.int 0), none, none] dX12_move_35 (by decide) rfl ?_
    refine g_mk [true, false, true, true, true, true, true, false, false] [some (.ref (B + 0)), none, some (.int x2), some (.int x3), some (.int x4), some (.int x5), some (.int 0), none, none] rfl ?_
    exact v_X12_move_l37 X ih23 fz hM
theorem v_X12_move_l23 {κ : gK} {B : Nat} (X : gX κ B skM cX12_move 9 RX12 (some .long) 6 149)   : ∀ (n : Nat) {x2 : Int32} {x3 : Int32} {x4 : Int32} {x5 : Int32} {u : gM} {w : (Int64 × gM)} (hM : X12_move_l23  n x2 x3 x4 x5 u = some w), gV κ B skM 9 ((some (.long w.1)), w.2) 23 [some (.ref (B + 0)), none, some (.int x2), some (.int x3), some (.int x4), some (.int x5), none, none, none] [] u := by
  intro n
  induction n with
  | zero => intro x2 x3 x4 x5 u w hM; exact nomatch (show (none : Option (Int64 × gM)) = some w from hM)
  | succ n ihn => intro x2 x3 x4 x5 u w hM; exact v_X12_move_b23 X  (fun x2 x3 x4 x5 u w h => ihn h) hM
set_option maxRecDepth 20000 in
theorem v_X12_move {κ : gK} {B : Nat} {u : gM} (X : gX κ B skM cX12_move 9 RX12 (some .long) 6 149)   {x1 : Int32} {x2 : Int32} {x3 : Int32} {w : (Int64 × gM)} (hM : X12_move x1 x2 x3 u = some w) : gV κ B skM 9 ((some (.long w.1)), w.2) 0 [some (.ref (B + 0)), some (.int x1), some (.int x2), some (.int x3), none, none, none, none, none] [] u := by
  unfold X12_move at hM
  refine g_aload_n X dX12_move_0 rfl ?_
  refine g_iload_n X dX12_move_1 rfl ?_
  obtain ⟨w2, e2, hM⟩ := bind_of hM
  refine g_callVi X (fun B adK => [.int x1]) (s_X12_isPerson e2) cvX12_446 cM_0 rfl rfl (Nat.le_of_ble_eq_true rfl) ⟨by decide, by decide⟩ dX12_move_2 ?_
  refine g_if_ne (tgt := 12) X dX12_move_5 (by decide) (fun c5 => ?_) (fun c5 => ?_)
  · rw [if_neg c5] at hM
    refine g_aload_n X dX12_move_12 rfl ?_
    refine g_iload_n X dX12_move_13 rfl ?_
    obtain ⟨w14, e14, hM⟩ := bind_of hM
    refine g_callVv X (fun B adK => [.int x1]) (s_X12_laysMoves e14) cvX12_465 cM_0 rfl rfl (Nat.le_of_ble_eq_true rfl) ⟨by decide, by decide⟩ dX12_move_14 ?_
    refine g_iconst X (v := 0) dX12_move_17 (by decide) ?_
    refine g_istore X [some (.ref (B + 0)), some (.int x1), some (.int x2), some (.int x3), some (.int 0), none, none, none, none] dX12_move_18 (by decide) rfl ?_
    refine g_iconst X (v := 0) dX12_move_20 (by decide) ?_
    refine g_istore X [some (.ref (B + 0)), some (.int x1), some (.int x2), some (.int x3), some (.int 0), some (.int 0), none, none, none] dX12_move_21 (by decide) rfl ?_
    refine g_mk [true, false, true, true, true, true, false, false, false] [some (.ref (B + 0)), none, some (.int x2), some (.int x3), some (.int 0), some (.int 0), none, none, none] rfl ?_
    exact v_X12_move_l23 X  fz hM
  · rw [if_pos c5] at hM
    refine g_ldc2 (v := (-1)) X m_43_8 dX12_move_8 ?_
    cases hM
    exact g_lret X dX12_move_11
theorem s_X12_move {x1 : Int32} {x2 : Int32} {x3 : Int32} {u : gM} {w : (Int64 × gM)} (hM : X12_move x1 x2 x3 u = some w) : gMet skM yX12_move cX12_move 9 (some .long) 6 149 (fun B adK => [.ref (B + 0), .int x1, .int x2, .int x3]) u ((fun _ => some (.long w.1)), w.2) := by
  refine gMet.of (by decide) (fun _ _ => Nat.le_of_ble_eq_true rfl) (fun κ B X => ?_)
  have X : gX κ B skM cX12_move 9 RX12 (some .long) 6 149 := X
  refine g_mk [true, true, true, true, false, false, false, false, false] [some (.ref (B + 0)), some (.int x1), some (.int x2), some (.int x3), none, none, none, none, none] rfl ?_
  exact v_X12_move X  hM
theorem fr_X12_move_b171 {S : Nat → Prop} {u0 u : gM} {s0 : Int64}    {w : (Int64 × gM)} (hM : X12_move_b171 s0 u = some w) (h0 : off S u0 u) : off S u0 w.2 := by
  unfold X12_move_b171 at hM
  cases hM
  exact h0
theorem fr_X12_move_b145 {S : Nat → Prop} {u0 u : gM} {x2 : Int32} {x3 : Int32} {x4 : Int32} {x5 : Int32} {x6 : Int32} (hs0 : S 28) (hs1 : S 29) {k23 : Int32 → Int32 → Int32 → Int32 → gM → Option (Int64 × gM)} {k37 : Int32 → Int32 → Int32 → Int32 → Int32 → gM → Option (Int64 × gM)} (ik23 : ∀ (x2 : Int32) (x3 : Int32) (x4 : Int32) (x5 : Int32) (u : gM) (w : (Int64 × gM)), S 28 → S 29 → off S u0 u → k23 x2 x3 x4 x5 u = some w → off S u0 w.2) (ik37 : ∀ (x2 : Int32) (x3 : Int32) (x4 : Int32) (x5 : Int32) (x6 : Int32) (u : gM) (w : (Int64 × gM)), S 28 → S 29 → off S u0 u → k37 x2 x3 x4 x5 x6 u = some w → off S u0 w.2) {w : (Int64 × gM)} (hM : X12_move_b145 k23 k37 x2 x3 x4 x5 x6 u = some w) (h0 : off S u0 u) : off S u0 w.2 := by
  unfold X12_move_b145 at hM
  exact ik37 _ _ _ _ _ _ _ hs0 hs1 h0 hM
theorem fr_X12_move_b117 {S : Nat → Prop} {u0 u : gM} {s0 : Int64}    {w : (Int64 × gM)} (hM : X12_move_b117 s0 u = some w) (h0 : off S u0 u) : off S u0 w.2 := by
  unfold X12_move_b117 at hM
  cases hM
  exact h0
theorem fr_X12_move_b37 {S : Nat → Prop} {u0 u : gM} {x2 : Int32} {x3 : Int32} {x4 : Int32} {x5 : Int32} {x6 : Int32} (hs0 : S 28) (hs1 : S 29) {k23 : Int32 → Int32 → Int32 → Int32 → gM → Option (Int64 × gM)} {k37 : Int32 → Int32 → Int32 → Int32 → Int32 → gM → Option (Int64 × gM)} (ik23 : ∀ (x2 : Int32) (x3 : Int32) (x4 : Int32) (x5 : Int32) (u : gM) (w : (Int64 × gM)), S 28 → S 29 → off S u0 u → k23 x2 x3 x4 x5 u = some w → off S u0 w.2) (ik37 : ∀ (x2 : Int32) (x3 : Int32) (x4 : Int32) (x5 : Int32) (x6 : Int32) (u : gM) (w : (Int64 × gM)), S 28 → S 29 → off S u0 u → k37 x2 x3 x4 x5 x6 u = some w → off S u0 w.2) {w : (Int64 × gM)} (hM : X12_move_b37 k23 k37 x2 x3 x4 x5 x6 u = some w) (h0 : off S u0 u) : off S u0 w.2 := by
  unfold X12_move_b37 at hM
  obtain ⟨v44, e44, hM⟩ := bind_of hM
  by_cases c45 : v44 ≤ x6
  · rw [if_pos c45] at hM
    exact ik23 _ _ _ _ _ _ hs0 hs1 h0 hM
  · rw [if_neg c45] at hM
    obtain ⟨v54, e54, hM⟩ := bind_of hM
    obtain ⟨v61, e61, hM⟩ := bind_of hM
    by_cases c71 : (lg_cmp (mnJ v54 v61) 0) = 0
    · rw [if_pos c71] at hM
      exact fr_X12_move_b145 hs0 hs1 ik23 ik37 hM h0
    · rw [if_neg c71] at hM
      by_cases c80 : x4 = x2
      · rw [if_pos c80] at hM
        by_cases c84 : x3 = 0
        · rw [if_pos c84] at hM
          exact fr_X12_move_b117   hM h0
        · rw [if_neg c84] at hM
          by_cases c95 : x3 = 1
          · rw [if_pos c95] at hM
            exact fr_X12_move_b117   hM h0
          · rw [if_neg c95] at hM
            by_cases c106 : x3 = 2
            · rw [if_pos c106] at hM
              exact fr_X12_move_b117   hM h0
            · rw [if_neg c106] at hM
              exact fr_X12_move_b117   hM h0
      · rw [if_neg c80] at hM
        obtain ⟨v125, e125, hM⟩ := bind_of hM
        obtain ⟨u129, e129, hM⟩ := bind_of hM
        have h0 := off_sJ hs0 e129 h0
        obtain ⟨v137, e137, hM⟩ := bind_of hM
        obtain ⟨u141, e141, hM⟩ := bind_of hM
        have h0 := off_sJ hs1 e141 h0
        exact fr_X12_move_b145 hs0 hs1 ik23 ik37 hM h0
theorem fr_X12_move_l37 {S : Nat → Prop} {u0 : gM} {k23 : Int32 → Int32 → Int32 → Int32 → gM → Option (Int64 × gM)} (ik23 : ∀ (x2 : Int32) (x3 : Int32) (x4 : Int32) (x5 : Int32) (u : gM) (w : (Int64 × gM)), S 28 → S 29 → off S u0 u → k23 x2 x3 x4 x5 u = some w → off S u0 w.2) : ∀ (n : Nat) {x2 : Int32} {x3 : Int32} {x4 : Int32} {x5 : Int32} {x6 : Int32} (hs0 : S 28) (hs1 : S 29) {u : gM} {w : (Int64 × gM)} (h0 : off S u0 u) (hM : X12_move_l37 k23 n x2 x3 x4 x5 x6 u = some w), off S u0 w.2 := by
  intro n
  induction n with
  | zero => intro x2 x3 x4 x5 x6 hs0 hs1 u w h0 hM; exact nomatch (show (none : Option (Int64 × gM)) = some w from hM)
  | succ n ihn => intro x2 x3 x4 x5 x6 hs0 hs1 u w h0 hM; exact fr_X12_move_b37 hs0 hs1 ik23 (fun x2 x3 x4 x5 x6 _ _ hs0 hs1 h0 h => ihn hs0 hs1 h0 h) hM h0
theorem fr_X12_move_b23 {S : Nat → Prop} {u0 u : gM} {x2 : Int32} {x3 : Int32} {x4 : Int32} {x5 : Int32} (hs0 : S 28) (hs1 : S 29) {k23 : Int32 → Int32 → Int32 → Int32 → gM → Option (Int64 × gM)} (ik23 : ∀ (x2 : Int32) (x3 : Int32) (x4 : Int32) (x5 : Int32) (u : gM) (w : (Int64 × gM)), S 28 → S 29 → off S u0 u → k23 x2 x3 x4 x5 u = some w → off S u0 w.2) {w : (Int64 × gM)} (hM : X12_move_b23 k23 x2 x3 x4 x5 u = some w) (h0 : off S u0 u) : off S u0 w.2 := by
  unfold X12_move_b23 at hM
  obtain ⟨v30, e30, hM⟩ := bind_of hM
  by_cases c31 : v30 ≤ x5
  · rw [if_pos c31] at hM
    by_cases c159 : x2 = (-1)
    · rw [if_pos c159] at hM
      exact fr_X12_move_b171   hM h0
    · rw [if_neg c159] at hM
      exact fr_X12_move_b171   hM h0
  · rw [if_neg c31] at hM
    exact fr_X12_move_l37 ik23 fz hs0 hs1 h0 hM
theorem fr_X12_move_l23 {S : Nat → Prop} {u0 : gM}   : ∀ (n : Nat) {x2 : Int32} {x3 : Int32} {x4 : Int32} {x5 : Int32} (hs0 : S 28) (hs1 : S 29) {u : gM} {w : (Int64 × gM)} (h0 : off S u0 u) (hM : X12_move_l23  n x2 x3 x4 x5 u = some w), off S u0 w.2 := by
  intro n
  induction n with
  | zero => intro x2 x3 x4 x5 hs0 hs1 u w h0 hM; exact nomatch (show (none : Option (Int64 × gM)) = some w from hM)
  | succ n ihn => intro x2 x3 x4 x5 hs0 hs1 u w h0 hM; exact fr_X12_move_b23 hs0 hs1  (fun x2 x3 x4 x5 _ _ hs0 hs1 h0 h => ihn hs0 hs1 h0 h) hM h0
theorem fr_X12_move {S : Nat → Prop} {u0 u : gM} {x1 : Int32} {x2 : Int32} {x3 : Int32} (hs0 : S 28) (hs1 : S 29)   {w : (Int64 × gM)} (hM : X12_move x1 x2 x3 u = some w) (h0 : off S u0 u) : off S u0 w.2 := by
  unfold X12_move at hM
  obtain ⟨w2, e2, hM⟩ := bind_of hM
  by_cases c5 : w2 = 0
  · rw [if_pos c5] at hM
    cases hM
    exact h0
  · rw [if_neg c5] at hM
    obtain ⟨w14, e14, hM⟩ := bind_of hM
    have h0 := fr_X12_laysMoves hs0 hs1 e14 h0
    exact fr_X12_move_l23  fz hs0 hs1 h0 hM
/-! CoverDeskModel.moves(II)J -/
theorem dX12_moves_0 : decode cX12_moves 0 = .ok (.aload_n 0, 1) := by decide +kernel
theorem dX12_moves_1 : decode cX12_moves 1 = .ok (.iload_n 1, 1) := by decide +kernel
theorem dX12_moves_2 : decode cX12_moves 2 = .ok (.invokevirtual 446, 3) := by decide +kernel
theorem dX12_moves_5 : decode cX12_moves 5 = .ok (.ifCond .eq 15, 3) := by decide +kernel
theorem dX12_moves_8 : decode cX12_moves 8 = .ok (.iload_n 2, 1) := by decide +kernel
theorem dX12_moves_9 : decode cX12_moves 9 = .ok (.i2l, 1) := by decide +kernel
theorem dX12_moves_10 : decode cX12_moves 10 = .ok (.lconst 0, 1) := by decide +kernel
theorem dX12_moves_11 : decode cX12_moves 11 = .ok (.ldc2_w 442, 3) := by decide +kernel
theorem dX12_moves_14 : decode cX12_moves 14 = .ok (.invokestatic 125, 3) := by decide +kernel
theorem dX12_moves_17 : decode cX12_moves 17 = .ok (.ifCond .ne 7, 3) := by decide +kernel
theorem dX12_moves_20 : decode cX12_moves 20 = .ok (.ldc2_w 341, 3) := by decide +kernel
theorem dX12_moves_23 : decode cX12_moves 23 = .ok (.lreturn, 1) := by decide +kernel
theorem dX12_moves_24 : decode cX12_moves 24 = .ok (.aload_n 0, 1) := by decide +kernel
theorem dX12_moves_25 : decode cX12_moves 25 = .ok (.iload_n 1, 1) := by decide +kernel
theorem dX12_moves_26 : decode cX12_moves 26 = .ok (.invokevirtual 465, 3) := by decide +kernel
theorem dX12_moves_29 : decode cX12_moves 29 = .ok (.lconst 0, 1) := by decide +kernel
theorem dX12_moves_30 : decode cX12_moves 30 = .ok (.lstore_n 3, 1) := by decide +kernel
theorem dX12_moves_31 : decode cX12_moves 31 = .ok (.lconst 0, 1) := by decide +kernel
theorem dX12_moves_32 : decode cX12_moves 32 = .ok (.lstore 5, 2) := by decide +kernel
theorem dX12_moves_34 : decode cX12_moves 34 = .ok (.iconst (-1), 1) := by decide +kernel
theorem dX12_moves_35 : decode cX12_moves 35 = .ok (.istore 7, 2) := by decide +kernel
theorem dX12_moves_37 : decode cX12_moves 37 = .ok (.iconst 0, 1) := by decide +kernel
theorem dX12_moves_38 : decode cX12_moves 38 = .ok (.istore 8, 2) := by decide +kernel
theorem dX12_moves_40 : decode cX12_moves 40 = .ok (.iload 8, 2) := by decide +kernel
theorem dX12_moves_42 : decode cX12_moves 42 = .ok (.aload_n 0, 1) := by decide +kernel
theorem dX12_moves_43 : decode cX12_moves 43 = .ok (.getfield 7, 3) := by decide +kernel
theorem dX12_moves_46 : decode cX12_moves 46 = .ok (.iconst 1, 1) := by decide +kernel
theorem dX12_moves_47 : decode cX12_moves 47 = .ok (.iaload, 1) := by decide +kernel
theorem dX12_moves_48 : decode cX12_moves 48 = .ok (.if_icmp .ge 71, 3) := by decide +kernel
theorem dX12_moves_51 : decode cX12_moves 51 = .ok (.lload_n 3, 1) := by decide +kernel
theorem dX12_moves_52 : decode cX12_moves 52 = .ok (.aload_n 0, 1) := by decide +kernel
theorem dX12_moves_53 : decode cX12_moves 53 = .ok (.getfield 102, 3) := by decide +kernel
theorem dX12_moves_56 : decode cX12_moves 56 = .ok (.iload 8, 2) := by decide +kernel
theorem dX12_moves_58 : decode cX12_moves 58 = .ok (.laload, 1) := by decide +kernel
theorem dX12_moves_59 : decode cX12_moves 59 = .ok (.ladd, 1) := by decide +kernel
theorem dX12_moves_60 : decode cX12_moves 60 = .ok (.lstore_n 3, 1) := by decide +kernel
theorem dX12_moves_61 : decode cX12_moves 61 = .ok (.lload 5, 2) := by decide +kernel
theorem dX12_moves_63 : decode cX12_moves 63 = .ok (.aload_n 0, 1) := by decide +kernel
theorem dX12_moves_64 : decode cX12_moves 64 = .ok (.getfield 105, 3) := by decide +kernel
theorem dX12_moves_67 : decode cX12_moves 67 = .ok (.iload 8, 2) := by decide +kernel
theorem dX12_moves_69 : decode cX12_moves 69 = .ok (.laload, 1) := by decide +kernel
theorem dX12_moves_70 : decode cX12_moves 70 = .ok (.ladd, 1) := by decide +kernel
theorem dX12_moves_71 : decode cX12_moves 71 = .ok (.lstore 5, 2) := by decide +kernel
theorem dX12_moves_73 : decode cX12_moves 73 = .ok (.aload_n 0, 1) := by decide +kernel
theorem dX12_moves_74 : decode cX12_moves 74 = .ok (.getfield 105, 3) := by decide +kernel
theorem dX12_moves_77 : decode cX12_moves 77 = .ok (.iload 8, 2) := by decide +kernel
theorem dX12_moves_79 : decode cX12_moves 79 = .ok (.laload, 1) := by decide +kernel
theorem dX12_moves_80 : decode cX12_moves 80 = .ok (.lconst 0, 1) := by decide +kernel
theorem dX12_moves_81 : decode cX12_moves 81 = .ok (.lcmp, 1) := by decide +kernel
theorem dX12_moves_82 : decode cX12_moves 82 = .ok (.ifCond .le 31, 3) := by decide +kernel
theorem dX12_moves_85 : decode cX12_moves 85 = .ok (.iload 7, 2) := by decide +kernel
theorem dX12_moves_87 : decode cX12_moves 87 = .ok (.iconst (-1), 1) := by decide +kernel
theorem dX12_moves_88 : decode cX12_moves 88 = .ok (.if_icmp .eq 21, 3) := by decide +kernel
theorem dX12_moves_91 : decode cX12_moves 91 = .ok (.aload_n 0, 1) := by decide +kernel
theorem dX12_moves_92 : decode cX12_moves 92 = .ok (.getfield 105, 3) := by decide +kernel
theorem dX12_moves_95 : decode cX12_moves 95 = .ok (.iload 8, 2) := by decide +kernel
theorem dX12_moves_97 : decode cX12_moves 97 = .ok (.laload, 1) := by decide +kernel
theorem dX12_moves_98 : decode cX12_moves 98 = .ok (.aload_n 0, 1) := by decide +kernel
theorem dX12_moves_99 : decode cX12_moves 99 = .ok (.getfield 105, 3) := by decide +kernel
theorem dX12_moves_102 : decode cX12_moves 102 = .ok (.iload 7, 2) := by decide +kernel
theorem dX12_moves_104 : decode cX12_moves 104 = .ok (.laload, 1) := by decide +kernel
theorem dX12_moves_105 : decode cX12_moves 105 = .ok (.lcmp, 1) := by decide +kernel
theorem dX12_moves_106 : decode cX12_moves 106 = .ok (.ifCond .le 7, 3) := by decide +kernel
theorem dX12_moves_109 : decode cX12_moves 109 = .ok (.iload 8, 2) := by decide +kernel
theorem dX12_moves_111 : decode cX12_moves 111 = .ok (.istore 7, 2) := by decide +kernel
theorem dX12_moves_113 : decode cX12_moves 113 = .ok (.iinc 8 1, 3) := by decide +kernel
theorem dX12_moves_116 : decode cX12_moves 116 = .ok (.goto (-76), 3) := by decide +kernel
theorem dX12_moves_119 : decode cX12_moves 119 = .ok (.iload_n 2, 1) := by decide +kernel
theorem dX12_moves_120 : decode cX12_moves 120 = .ok (.ifCond .ne 14, 3) := by decide +kernel
theorem dX12_moves_123 : decode cX12_moves 123 = .ok (.lconst 0, 1) := by decide +kernel
theorem dX12_moves_124 : decode cX12_moves 124 = .ok (.lload_n 3, 1) := by decide +kernel
theorem dX12_moves_125 : decode cX12_moves 125 = .ok (.lload 5, 2) := by decide +kernel
theorem dX12_moves_127 : decode cX12_moves 127 = .ok (.lsub, 1) := by decide +kernel
theorem dX12_moves_128 : decode cX12_moves 128 = .ok (.invokestatic 463, 3) := by decide +kernel
theorem dX12_moves_131 : decode cX12_moves 131 = .ok (.goto 20, 3) := by decide +kernel
theorem dX12_moves_134 : decode cX12_moves 134 = .ok (.iload_n 2, 1) := by decide +kernel
theorem dX12_moves_135 : decode cX12_moves 135 = .ok (.iconst 1, 1) := by decide +kernel
theorem dX12_moves_136 : decode cX12_moves 136 = .ok (.if_icmp .ne 12, 3) := by decide +kernel
theorem dX12_moves_139 : decode cX12_moves 139 = .ok (.lload_n 3, 1) := by decide +kernel
theorem dX12_moves_140 : decode cX12_moves 140 = .ok (.lload 5, 2) := by decide +kernel
theorem dX12_moves_142 : decode cX12_moves 142 = .ok (.invokestatic 338, 3) := by decide +kernel
theorem dX12_moves_145 : decode cX12_moves 145 = .ok (.goto 6, 3) := by decide +kernel
theorem dX12_moves_148 : decode cX12_moves 148 = .ok (.iload 7, 2) := by decide +kernel
theorem dX12_moves_150 : decode cX12_moves 150 = .ok (.i2l, 1) := by decide +kernel
theorem dX12_moves_151 : decode cX12_moves 151 = .ok (.lreturn, 1) := by decide +kernel
def X12_moves_b20   (u : gM) : Option (Int64 × gM) :=
some ((-1), u)
def X12_moves_b151  (s0 : Int64) (u : gM) : Option (Int64 × gM) :=
some (s0, u)
def X12_moves_b113 (k40 : Int32 → Int64 → Int64 → Int32 → Int32 → gM → Option (Int64 × gM)) (x2 : Int32) (x3 : Int64) (x5 : Int64) (x7 : Int32) (x8 : Int32) (u : gM) : Option (Int64 × gM) :=
(k40 x2 x3 x5 x7 (x8 + 1) u)
def X12_moves_b109 (k40 : Int32 → Int64 → Int64 → Int32 → Int32 → gM → Option (Int64 × gM)) (x2 : Int32) (x3 : Int64) (x5 : Int64) (x8 : Int32) (u : gM) : Option (Int64 × gM) :=
(X12_moves_b113 k40 x2 x3 x5 x8 x8 u)
def X12_moves_b40 (k40 : Int32 → Int64 → Int64 → Int32 → Int32 → gM → Option (Int64 × gM)) (x2 : Int32) (x3 : Int64) (x5 : Int64) (x7 : Int32) (x8 : Int32) (u : gM) : Option (Int64 × gM) :=
((aI skM u 1 1).bind fun v47 => (if v47 ≤ x8 then (if x2 = 0 then (X12_moves_b151 (mxJ 0 (x3 - x5)) u)
    else (if x2 = 1 then (X12_moves_b151 (mnJ x3 x5) u)
      else (X12_moves_b151 x7.toInt64 u)))
  else ((aJ skM u 28 x8).bind fun v58 => ((aJ skM u 29 x8).bind fun v69 => ((aJ skM u 29 x8).bind fun v79 => (if (lg_cmp v79 0) ≤ 0 then (X12_moves_b113 k40 x2 (x3 + v58) (x5 + v69) x7 x8 u)
    else (if x7 = (-1) then (X12_moves_b109 k40 x2 (x3 + v58) (x5 + v69) x8 u)
      else ((aJ skM u 29 x8).bind fun v97 => ((aJ skM u 29 x7).bind fun v104 => (if (lg_cmp v97 v104) ≤ 0 then (X12_moves_b113 k40 x2 (x3 + v58) (x5 + v69) x7 x8 u)
        else (X12_moves_b109 k40 x2 (x3 + v58) (x5 + v69) x8 u)))))))))))
def X12_moves_l40  : Nat → Int32 → Int64 → Int64 → Int32 → Int32 → gM → Option (Int64 × gM)
  | 0, _, _, _, _, _, _ => none
  | n + 1, x2, x3, x5, x7, x8, u => X12_moves_b40  (X12_moves_l40  n) x2 x3 x5 x7 x8 u
def X12_moves  (x1 : Int32) (x2 : Int32) (u : gM) : Option (Int64 × gM) :=
((X12_isPerson u x1).bind fun w2 => (if w2 = 0 then (X12_moves_b20 u)
  else ((X12_isIn u x2.toInt64 0 2).bind fun w14 => (if w14 = 0 then (X12_moves_b20 u)
    else ((X12_laysMoves x1 u).bind fun w26 => (X12_moves_l40 fz x2 0 0 (-1) 0 w26))))))
set_option maxRecDepth 20000 in
theorem v_X12_moves_b20 {κ : gK} {B : Nat} {u : gM} (X : gX κ B skM cX12_moves 9 RX12 (some .long) 6 149)    {w : (Int64 × gM)} (hM : X12_moves_b20 u = some w) : gV κ B skM 9 ((some (.long w.1)), w.2) 20 [none, none, none, none, none, none, none, none, none] [] u := by
  unfold X12_moves_b20 at hM
  refine g_ldc2 (v := (-1)) X m_43_8 dX12_moves_20 ?_
  cases hM
  exact g_lret X dX12_moves_23
set_option maxRecDepth 20000 in
theorem v_X12_moves_b151 {κ : gK} {B : Nat} {u : gM} (X : gX κ B skM cX12_moves 9 RX12 (some .long) 6 149)   {s0 : Int64} {w : (Int64 × gM)} (hM : X12_moves_b151 s0 u = some w) : gV κ B skM 9 ((some (.long w.1)), w.2) 151 [none, none, none, none, none, none, none, none, none] [.long s0] u := by
  unfold X12_moves_b151 at hM
  cases hM
  exact g_lret X dX12_moves_151
set_option maxRecDepth 20000 in
theorem v_X12_moves_b113 {κ : gK} {B : Nat} {u : gM} (X : gX κ B skM cX12_moves 9 RX12 (some .long) 6 149) {k40 : Int32 → Int64 → Int64 → Int32 → Int32 → gM → Option (Int64 × gM)} (ih40 : ∀ (x2 : Int32) (x3 : Int64) (x5 : Int64) (x7 : Int32) (x8 : Int32) (u : gM) (w : (Int64 × gM)), k40 x2 x3 x5 x7 x8 u = some w → gV κ B skM 9 ((some (.long w.1)), w.2) 40 [some (.ref (B + 0)), none, some (.int x2), some (.long x3), none, some (.long x5), none, some (.int x7), some (.int x8)] [] u) {x2 : Int32} {x3 : Int64} {x5 : Int64} {x7 : Int32} {x8 : Int32} {w : (Int64 × gM)} (hM : X12_moves_b113 k40 x2 x3 x5 x7 x8 u = some w) : gV κ B skM 9 ((some (.long w.1)), w.2) 113 [some (.ref (B + 0)), none, some (.int x2), some (.long x3), none, some (.long x5), none, some (.int x7), some (.int x8)] [] u := by
  unfold X12_moves_b113 at hM
  refine g_iinc (d := 1) X [some (.ref (B + 0)), none, some (.int x2), some (.long x3), none, some (.long x5), none, some (.int x7), some (.int (x8 + 1))] dX12_moves_113 (by decide) rfl (by decide) rfl ?_
  refine g_goto (tgt := 40) X dX12_moves_116 (by decide) ?_
  refine g_mk [true, false, true, true, false, true, false, true, true] [some (.ref (B + 0)), none, some (.int x2), some (.long x3), none, some (.long x5), none, some (.int x7), some (.int (x8 + 1))] rfl ?_
  exact ih40 x2 x3 x5 x7 (x8 + 1) u _ hM
set_option maxRecDepth 20000 in
theorem v_X12_moves_b109 {κ : gK} {B : Nat} {u : gM} (X : gX κ B skM cX12_moves 9 RX12 (some .long) 6 149) {k40 : Int32 → Int64 → Int64 → Int32 → Int32 → gM → Option (Int64 × gM)} (ih40 : ∀ (x2 : Int32) (x3 : Int64) (x5 : Int64) (x7 : Int32) (x8 : Int32) (u : gM) (w : (Int64 × gM)), k40 x2 x3 x5 x7 x8 u = some w → gV κ B skM 9 ((some (.long w.1)), w.2) 40 [some (.ref (B + 0)), none, some (.int x2), some (.long x3), none, some (.long x5), none, some (.int x7), some (.int x8)] [] u) {x2 : Int32} {x3 : Int64} {x5 : Int64} {x8 : Int32} {w : (Int64 × gM)} (hM : X12_moves_b109 k40 x2 x3 x5 x8 u = some w) : gV κ B skM 9 ((some (.long w.1)), w.2) 109 [some (.ref (B + 0)), none, some (.int x2), some (.long x3), none, some (.long x5), none, none, some (.int x8)] [] u := by
  unfold X12_moves_b109 at hM
  refine g_iload X dX12_moves_109 rfl ?_
  refine g_istore X [some (.ref (B + 0)), none, some (.int x2), some (.long x3), none, some (.long x5), none, some (.int x8), some (.int x8)] dX12_moves_111 (by decide) rfl ?_
  refine g_mk [true, false, true, true, false, true, false, true, true] [some (.ref (B + 0)), none, some (.int x2), some (.long x3), none, some (.long x5), none, some (.int x8), some (.int x8)] rfl ?_
  exact v_X12_moves_b113 X ih40 hM
set_option maxRecDepth 20000 in
theorem v_X12_moves_b40 {κ : gK} {B : Nat} {u : gM} (X : gX κ B skM cX12_moves 9 RX12 (some .long) 6 149) {k40 : Int32 → Int64 → Int64 → Int32 → Int32 → gM → Option (Int64 × gM)} (ih40 : ∀ (x2 : Int32) (x3 : Int64) (x5 : Int64) (x7 : Int32) (x8 : Int32) (u : gM) (w : (Int64 × gM)), k40 x2 x3 x5 x7 x8 u = some w → gV κ B skM 9 ((some (.long w.1)), w.2) 40 [some (.ref (B + 0)), none, some (.int x2), some (.long x3), none, some (.long x5), none, some (.int x7), some (.int x8)] [] u) {x2 : Int32} {x3 : Int64} {x5 : Int64} {x7 : Int32} {x8 : Int32} {w : (Int64 × gM)} (hM : X12_moves_b40 k40 x2 x3 x5 x7 x8 u = some w) : gV κ B skM 9 ((some (.long w.1)), w.2) 40 [some (.ref (B + 0)), none, some (.int x2), some (.long x3), none, some (.long x5), none, some (.int x7), some (.int x8)] [] u := by
  unfold X12_moves_b40 at hM
  refine g_iload X dX12_moves_40 rfl ?_
  refine g_aload_n X dX12_moves_42 rfl ?_
  refine g_getR X fX12_7 cM_0 rfl dX12_moves_43 ?_
  refine g_iconst X (v := 1) dX12_moves_46 (by decide) ?_
  obtain ⟨v47, e47, hM⟩ := bind_of hM
  refine g_iaload X e47 dX12_moves_47 ?_
  refine g_icmp_ge (tgt := 119) X dX12_moves_48 (by decide) (fun c48 => ?_) (fun c48 => ?_)
  · rw [if_pos c48] at hM
    refine g_iload_n X dX12_moves_119 rfl ?_
    refine g_if_ne (tgt := 134) X dX12_moves_120 (by decide) (fun c120 => ?_) (fun c120 => ?_)
    · rw [if_neg c120] at hM
      refine g_iload_n X dX12_moves_134 rfl ?_
      refine g_iconst X (v := 1) dX12_moves_135 (by decide) ?_
      refine g_icmp_ne (tgt := 148) X dX12_moves_136 (by decide) (fun c136 => ?_) (fun c136 => ?_)
      · rw [if_neg c136] at hM
        refine g_iload X dX12_moves_148 rfl ?_
        refine g_i2l X dX12_moves_150 ?_
        refine g_mk [false, false, false, false, false, false, false, false, false] [none, none, none, none, none, none, none, none, none] rfl ?_
        exact v_X12_moves_b151 X  hM
      · rw [if_pos c136] at hM
        refine g_lload_n X dX12_moves_139 rfl ?_
        refine g_lload X dX12_moves_140 rfl ?_
        refine g_minJ X m_43_5 ⟨by decide, Nat.le_of_ble_eq_true rfl⟩ dX12_moves_142 ?_
        refine g_goto (tgt := 151) X dX12_moves_145 (by decide) ?_
        refine g_mk [false, false, false, false, false, false, false, false, false] [none, none, none, none, none, none, none, none, none] rfl ?_
        exact v_X12_moves_b151 X  hM
    · rw [if_pos c120] at hM
      refine g_lconst (v := 0) X dX12_moves_123 (by decide) ?_
      refine g_lload_n X dX12_moves_124 rfl ?_
      refine g_lload X dX12_moves_125 rfl ?_
      refine g_lsub X dX12_moves_127 ?_
      refine g_maxJ X m_57_8 ⟨by decide, Nat.le_of_ble_eq_true rfl⟩ dX12_moves_128 ?_
      refine g_goto (tgt := 151) X dX12_moves_131 (by decide) ?_
      refine g_mk [false, false, false, false, false, false, false, false, false] [none, none, none, none, none, none, none, none, none] rfl ?_
      exact v_X12_moves_b151 X  hM
  · rw [if_neg c48] at hM
    refine g_lload_n X dX12_moves_51 rfl ?_
    refine g_aload_n X dX12_moves_52 rfl ?_
    refine g_getR X fX12_102 cM_0 rfl dX12_moves_53 ?_
    refine g_iload X dX12_moves_56 rfl ?_
    obtain ⟨v58, e58, hM⟩ := bind_of hM
    refine g_laload X e58 dX12_moves_58 ?_
    refine g_ladd X dX12_moves_59 ?_
    refine g_lstore_n X [some (.ref (B + 0)), none, some (.int x2), some (.long (x3 + v58)), none, some (.long x5), none, some (.int x7), some (.int x8)] dX12_moves_60 (by decide) rfl ?_
    refine g_lload X dX12_moves_61 rfl ?_
    refine g_aload_n X dX12_moves_63 rfl ?_
    refine g_getR X fX12_105 cM_0 rfl dX12_moves_64 ?_
    refine g_iload X dX12_moves_67 rfl ?_
    obtain ⟨v69, e69, hM⟩ := bind_of hM
    refine g_laload X e69 dX12_moves_69 ?_
    refine g_ladd X dX12_moves_70 ?_
    refine g_lstore X [some (.ref (B + 0)), none, some (.int x2), some (.long (x3 + v58)), none, some (.long (x5 + v69)), none, some (.int x7), some (.int x8)] dX12_moves_71 (by decide) rfl ?_
    refine g_aload_n X dX12_moves_73 rfl ?_
    refine g_getR X fX12_105 cM_0 rfl dX12_moves_74 ?_
    refine g_iload X dX12_moves_77 rfl ?_
    obtain ⟨v79, e79, hM⟩ := bind_of hM
    refine g_laload X e79 dX12_moves_79 ?_
    refine g_lconst (v := 0) X dX12_moves_80 (by decide) ?_
    refine g_lcmp X dX12_moves_81 ?_
    refine g_if_le (tgt := 113) X dX12_moves_82 (by decide) (fun c82 => ?_) (fun c82 => ?_)
    · rw [if_pos c82] at hM
      refine g_mk [true, false, true, true, false, true, false, true, true] [some (.ref (B + 0)), none, some (.int x2), some (.long (x3 + v58)), none, some (.long (x5 + v69)), none, some (.int x7), some (.int x8)] rfl ?_
      exact v_X12_moves_b113 X ih40 hM
    · rw [if_neg c82] at hM
      refine g_iload X dX12_moves_85 rfl ?_
      refine g_iconst X (v := (-1)) dX12_moves_87 (by decide) ?_
      refine g_icmp_eq (tgt := 109) X dX12_moves_88 (by decide) (fun c88 => ?_) (fun c88 => ?_)
      · rw [if_pos c88] at hM
        refine g_mk [true, false, true, true, false, true, false, false, true] [some (.ref (B + 0)), none, some (.int x2), some (.long (x3 + v58)), none, some (.long (x5 + v69)), none, none, some (.int x8)] rfl ?_
        exact v_X12_moves_b109 X ih40 hM
      · rw [if_neg c88] at hM
        refine g_aload_n X dX12_moves_91 rfl ?_
        refine g_getR X fX12_105 cM_0 rfl dX12_moves_92 ?_
        refine g_iload X dX12_moves_95 rfl ?_
        obtain ⟨v97, e97, hM⟩ := bind_of hM
        refine g_laload X e97 dX12_moves_97 ?_
        refine g_aload_n X dX12_moves_98 rfl ?_
        refine g_getR X fX12_105 cM_0 rfl dX12_moves_99 ?_
        refine g_iload X dX12_moves_102 rfl ?_
        obtain ⟨v104, e104, hM⟩ := bind_of hM
        refine g_laload X e104 dX12_moves_104 ?_
        refine g_lcmp X dX12_moves_105 ?_
        refine g_if_le (tgt := 113) X dX12_moves_106 (by decide) (fun c106 => ?_) (fun c106 => ?_)
        · rw [if_pos c106] at hM
          refine g_mk [true, false, true, true, false, true, false, true, true] [some (.ref (B + 0)), none, some (.int x2), some (.long (x3 + v58)), none, some (.long (x5 + v69)), none, some (.int x7), some (.int x8)] rfl ?_
          exact v_X12_moves_b113 X ih40 hM
        · rw [if_neg c106] at hM
          refine g_mk [true, false, true, true, false, true, false, false, true] [some (.ref (B + 0)), none, some (.int x2), some (.long (x3 + v58)), none, some (.long (x5 + v69)), none, none, some (.int x8)] rfl ?_
          exact v_X12_moves_b109 X ih40 hM
theorem v_X12_moves_l40 {κ : gK} {B : Nat} (X : gX κ B skM cX12_moves 9 RX12 (some .long) 6 149)   : ∀ (n : Nat) {x2 : Int32} {x3 : Int64} {x5 : Int64} {x7 : Int32} {x8 : Int32} {u : gM} {w : (Int64 × gM)} (hM : X12_moves_l40  n x2 x3 x5 x7 x8 u = some w), gV κ B skM 9 ((some (.long w.1)), w.2) 40 [some (.ref (B + 0)), none, some (.int x2), some (.long x3), none, some (.long x5), none, some (.int x7), some (.int x8)] [] u := by
  intro n
  induction n with
  | zero => intro x2 x3 x5 x7 x8 u w hM; exact nomatch (show (none : Option (Int64 × gM)) = some w from hM)
  | succ n ihn => intro x2 x3 x5 x7 x8 u w hM; exact v_X12_moves_b40 X  (fun x2 x3 x5 x7 x8 u w h => ihn h) hM
set_option maxRecDepth 20000 in
theorem v_X12_moves {κ : gK} {B : Nat} {u : gM} (X : gX κ B skM cX12_moves 9 RX12 (some .long) 6 149)   {x1 : Int32} {x2 : Int32} {w : (Int64 × gM)} (hM : X12_moves x1 x2 u = some w) : gV κ B skM 9 ((some (.long w.1)), w.2) 0 [some (.ref (B + 0)), some (.int x1), some (.int x2), none, none, none, none, none, none] [] u := by
  unfold X12_moves at hM
  refine g_aload_n X dX12_moves_0 rfl ?_
  refine g_iload_n X dX12_moves_1 rfl ?_
  obtain ⟨w2, e2, hM⟩ := bind_of hM
  refine g_callVi X (fun B adK => [.int x1]) (s_X12_isPerson e2) cvX12_446 cM_0 rfl rfl (Nat.le_of_ble_eq_true rfl) ⟨by decide, by decide⟩ dX12_moves_2 ?_
  refine g_if_eq (tgt := 20) X dX12_moves_5 (by decide) (fun c5 => ?_) (fun c5 => ?_)
  · rw [if_pos c5] at hM
    refine g_mk [false, false, false, false, false, false, false, false, false] [none, none, none, none, none, none, none, none, none] rfl ?_
    exact v_X12_moves_b20 X  hM
  · rw [if_neg c5] at hM
    refine g_iload_n X dX12_moves_8 rfl ?_
    refine g_i2l X dX12_moves_9 ?_
    refine g_lconst (v := 0) X dX12_moves_10 (by decide) ?_
    refine g_ldc2 (v := 2) X m_49_9 dX12_moves_11 ?_
    obtain ⟨w14, e14, hM⟩ := bind_of hM
    refine g_callSi X (fun B adK => [.long x2.toInt64, .long 0, .long 2]) (s_X12_isIn e14) cvX12_125 rfl rfl (Nat.le_of_ble_eq_true rfl) ⟨by decide, by decide⟩ dX12_moves_14 ?_
    refine g_if_ne (tgt := 24) X dX12_moves_17 (by decide) (fun c17 => ?_) (fun c17 => ?_)
    · rw [if_neg c17] at hM
      refine g_aload_n X dX12_moves_24 rfl ?_
      refine g_iload_n X dX12_moves_25 rfl ?_
      obtain ⟨w26, e26, hM⟩ := bind_of hM
      refine g_callVv X (fun B adK => [.int x1]) (s_X12_laysMoves e26) cvX12_465 cM_0 rfl rfl (Nat.le_of_ble_eq_true rfl) ⟨by decide, by decide⟩ dX12_moves_26 ?_
      refine g_lconst (v := 0) X dX12_moves_29 (by decide) ?_
      refine g_lstore_n X [some (.ref (B + 0)), some (.int x1), some (.int x2), some (.long 0), none, none, none, none, none] dX12_moves_30 (by decide) rfl ?_
      refine g_lconst (v := 0) X dX12_moves_31 (by decide) ?_
      refine g_lstore X [some (.ref (B + 0)), some (.int x1), some (.int x2), some (.long 0), none, some (.long 0), none, none, none] dX12_moves_32 (by decide) rfl ?_
      refine g_iconst X (v := (-1)) dX12_moves_34 (by decide) ?_
      refine g_istore X [some (.ref (B + 0)), some (.int x1), some (.int x2), some (.long 0), none, some (.long 0), none, some (.int (-1)), none] dX12_moves_35 (by decide) rfl ?_
      refine g_iconst X (v := 0) dX12_moves_37 (by decide) ?_
      refine g_istore X [some (.ref (B + 0)), some (.int x1), some (.int x2), some (.long 0), none, some (.long 0), none, some (.int (-1)), some (.int 0)] dX12_moves_38 (by decide) rfl ?_
      refine g_mk [true, false, true, true, false, true, false, true, true] [some (.ref (B + 0)), none, some (.int x2), some (.long 0), none, some (.long 0), none, some (.int (-1)), some (.int 0)] rfl ?_
      exact v_X12_moves_l40 X  fz hM
    · rw [if_pos c17] at hM
      refine g_mk [false, false, false, false, false, false, false, false, false] [none, none, none, none, none, none, none, none, none] rfl ?_
      exact v_X12_moves_b20 X  hM
theorem s_X12_moves {x1 : Int32} {x2 : Int32} {u : gM} {w : (Int64 × gM)} (hM : X12_moves x1 x2 u = some w) : gMet skM yX12_moves cX12_moves 9 (some .long) 6 149 (fun B adK => [.ref (B + 0), .int x1, .int x2]) u ((fun _ => some (.long w.1)), w.2) := by
  refine gMet.of (by decide) (fun _ _ => Nat.le_of_ble_eq_true rfl) (fun κ B X => ?_)
  have X : gX κ B skM cX12_moves 9 RX12 (some .long) 6 149 := X
  refine g_mk [true, true, true, false, false, false, false, false, false] [some (.ref (B + 0)), some (.int x1), some (.int x2), none, none, none, none, none, none] rfl ?_
  exact v_X12_moves X  hM
theorem fr_X12_moves_b20 {S : Nat → Prop} {u0 u : gM}     {w : (Int64 × gM)} (hM : X12_moves_b20 u = some w) (h0 : off S u0 u) : off S u0 w.2 := by
  unfold X12_moves_b20 at hM
  cases hM
  exact h0
theorem fr_X12_moves_b151 {S : Nat → Prop} {u0 u : gM} {s0 : Int64}    {w : (Int64 × gM)} (hM : X12_moves_b151 s0 u = some w) (h0 : off S u0 u) : off S u0 w.2 := by
  unfold X12_moves_b151 at hM
  cases hM
  exact h0
theorem fr_X12_moves_b113 {S : Nat → Prop} {u0 u : gM} {x2 : Int32} {x3 : Int64} {x5 : Int64} {x7 : Int32} {x8 : Int32}  {k40 : Int32 → Int64 → Int64 → Int32 → Int32 → gM → Option (Int64 × gM)} (ik40 : ∀ (x2 : Int32) (x3 : Int64) (x5 : Int64) (x7 : Int32) (x8 : Int32) (u : gM) (w : (Int64 × gM)), off S u0 u → k40 x2 x3 x5 x7 x8 u = some w → off S u0 w.2) {w : (Int64 × gM)} (hM : X12_moves_b113 k40 x2 x3 x5 x7 x8 u = some w) (h0 : off S u0 u) : off S u0 w.2 := by
  unfold X12_moves_b113 at hM
  exact ik40 _ _ _ _ _ _ _  h0 hM
theorem fr_X12_moves_b109 {S : Nat → Prop} {u0 u : gM} {x2 : Int32} {x3 : Int64} {x5 : Int64} {x8 : Int32}  {k40 : Int32 → Int64 → Int64 → Int32 → Int32 → gM → Option (Int64 × gM)} (ik40 : ∀ (x2 : Int32) (x3 : Int64) (x5 : Int64) (x7 : Int32) (x8 : Int32) (u : gM) (w : (Int64 × gM)), off S u0 u → k40 x2 x3 x5 x7 x8 u = some w → off S u0 w.2) {w : (Int64 × gM)} (hM : X12_moves_b109 k40 x2 x3 x5 x8 u = some w) (h0 : off S u0 u) : off S u0 w.2 := by
  unfold X12_moves_b109 at hM
  exact fr_X12_moves_b113  ik40 hM h0
theorem fr_X12_moves_b40 {S : Nat → Prop} {u0 u : gM} {x2 : Int32} {x3 : Int64} {x5 : Int64} {x7 : Int32} {x8 : Int32}  {k40 : Int32 → Int64 → Int64 → Int32 → Int32 → gM → Option (Int64 × gM)} (ik40 : ∀ (x2 : Int32) (x3 : Int64) (x5 : Int64) (x7 : Int32) (x8 : Int32) (u : gM) (w : (Int64 × gM)), off S u0 u → k40 x2 x3 x5 x7 x8 u = some w → off S u0 w.2) {w : (Int64 × gM)} (hM : X12_moves_b40 k40 x2 x3 x5 x7 x8 u = some w) (h0 : off S u0 u) : off S u0 w.2 := by
  unfold X12_moves_b40 at hM
  obtain ⟨v47, e47, hM⟩ := bind_of hM
  by_cases c48 : v47 ≤ x8
  · rw [if_pos c48] at hM
    by_cases c120 : x2 = 0
    · rw [if_pos c120] at hM
      exact fr_X12_moves_b151   hM h0
    · rw [if_neg c120] at hM
      by_cases c136 : x2 = 1
      · rw [if_pos c136] at hM
        exact fr_X12_moves_b151   hM h0
      · rw [if_neg c136] at hM
        exact fr_X12_moves_b151   hM h0
  · rw [if_neg c48] at hM
    obtain ⟨v58, e58, hM⟩ := bind_of hM
    obtain ⟨v69, e69, hM⟩ := bind_of hM
    obtain ⟨v79, e79, hM⟩ := bind_of hM
    by_cases c82 : (lg_cmp v79 0) ≤ 0
    · rw [if_pos c82] at hM
      exact fr_X12_moves_b113  ik40 hM h0
    · rw [if_neg c82] at hM
      by_cases c88 : x7 = (-1)
      · rw [if_pos c88] at hM
        exact fr_X12_moves_b109  ik40 hM h0
      · rw [if_neg c88] at hM
        obtain ⟨v97, e97, hM⟩ := bind_of hM
        obtain ⟨v104, e104, hM⟩ := bind_of hM
        by_cases c106 : (lg_cmp v97 v104) ≤ 0
        · rw [if_pos c106] at hM
          exact fr_X12_moves_b113  ik40 hM h0
        · rw [if_neg c106] at hM
          exact fr_X12_moves_b109  ik40 hM h0
theorem fr_X12_moves_l40 {S : Nat → Prop} {u0 : gM}   : ∀ (n : Nat) {x2 : Int32} {x3 : Int64} {x5 : Int64} {x7 : Int32} {x8 : Int32}  {u : gM} {w : (Int64 × gM)} (h0 : off S u0 u) (hM : X12_moves_l40  n x2 x3 x5 x7 x8 u = some w), off S u0 w.2 := by
  intro n
  induction n with
  | zero => intro x2 x3 x5 x7 x8 u w h0 hM; exact nomatch (show (none : Option (Int64 × gM)) = some w from hM)
  | succ n ihn => intro x2 x3 x5 x7 x8 u w h0 hM; exact fr_X12_moves_b40   (fun x2 x3 x5 x7 x8 _ _ h0 h => ihn  h0 h) hM h0
theorem fr_X12_moves {S : Nat → Prop} {u0 u : gM} {x1 : Int32} {x2 : Int32} (hs0 : S 28) (hs1 : S 29)   {w : (Int64 × gM)} (hM : X12_moves x1 x2 u = some w) (h0 : off S u0 u) : off S u0 w.2 := by
  unfold X12_moves at hM
  obtain ⟨w2, e2, hM⟩ := bind_of hM
  by_cases c5 : w2 = 0
  · rw [if_pos c5] at hM
    exact fr_X12_moves_b20   hM h0
  · rw [if_neg c5] at hM
    obtain ⟨w14, e14, hM⟩ := bind_of hM
    by_cases c17 : w14 = 0
    · rw [if_pos c17] at hM
      exact fr_X12_moves_b20   hM h0
    · rw [if_neg c17] at hM
      obtain ⟨w26, e26, hM⟩ := bind_of hM
      have h0 := fr_X12_laysMoves hs0 hs1 e26 h0
      exact fr_X12_moves_l40  fz  h0 hM
/-! CoverDeskModel.named(I)I -/
theorem dX12_named_0 : decode cX12_named 0 = .ok (.aload_n 0, 1) := by decide +kernel
theorem dX12_named_1 : decode cX12_named 1 = .ok (.invokevirtual 290, 3) := by decide +kernel
theorem dX12_named_4 : decode cX12_named 4 = .ok (.aload_n 0, 1) := by decide +kernel
theorem dX12_named_5 : decode cX12_named 5 = .ok (.getfield 139, 3) := by decide +kernel
theorem dX12_named_8 : decode cX12_named 8 = .ok (.lstore_n 2, 1) := by decide +kernel
theorem dX12_named_9 : decode cX12_named 9 = .ok (.aload_n 0, 1) := by decide +kernel
theorem dX12_named_10 : decode cX12_named 10 = .ok (.invokevirtual 248, 3) := by decide +kernel
theorem dX12_named_13 : decode cX12_named 13 = .ok (.istore 4, 2) := by decide +kernel
theorem dX12_named_15 : decode cX12_named 15 = .ok (.aload_n 0, 1) := by decide +kernel
theorem dX12_named_16 : decode cX12_named 16 = .ok (.invokevirtual 238, 3) := by decide +kernel
theorem dX12_named_19 : decode cX12_named 19 = .ok (.iload 4, 2) := by decide +kernel
theorem dX12_named_21 : decode cX12_named 21 = .ok (.ifCond .eq 14, 3) := by decide +kernel
theorem dX12_named_24 : decode cX12_named 24 = .ok (.aload_n 0, 1) := by decide +kernel
theorem dX12_named_25 : decode cX12_named 25 = .ok (.getfield 149, 3) := by decide +kernel
theorem dX12_named_28 : decode cX12_named 28 = .ok (.ifCond .ne 7, 3) := by decide +kernel
theorem dX12_named_31 : decode cX12_named 31 = .ok (.iconst 1, 1) := by decide +kernel
theorem dX12_named_32 : decode cX12_named 32 = .ok (.goto 4, 3) := by decide +kernel
theorem dX12_named_35 : decode cX12_named 35 = .ok (.iconst 0, 1) := by decide +kernel
theorem dX12_named_36 : decode cX12_named 36 = .ok (.istore 4, 2) := by decide +kernel
theorem dX12_named_38 : decode cX12_named 38 = .ok (.aload_n 0, 1) := by decide +kernel
theorem dX12_named_39 : decode cX12_named 39 = .ok (.iconst 0, 1) := by decide +kernel
theorem dX12_named_40 : decode cX12_named 40 = .ok (.putfield 118, 3) := by decide +kernel
theorem dX12_named_43 : decode cX12_named 43 = .ok (.iload 4, 2) := by decide +kernel
theorem dX12_named_45 : decode cX12_named 45 = .ok (.ifCond .ne 5, 3) := by decide +kernel
theorem dX12_named_48 : decode cX12_named 48 = .ok (.iconst (-1), 1) := by decide +kernel
theorem dX12_named_49 : decode cX12_named 49 = .ok (.ireturn, 1) := by decide +kernel
theorem dX12_named_50 : decode cX12_named 50 = .ok (.iload_n 1, 1) := by decide +kernel
theorem dX12_named_51 : decode cX12_named 51 = .ok (.ifCond .ne 21, 3) := by decide +kernel
theorem dX12_named_54 : decode cX12_named 54 = .ok (.aload_n 0, 1) := by decide +kernel
theorem dX12_named_55 : decode cX12_named 55 = .ok (.getfield 13, 3) := by decide +kernel
theorem dX12_named_58 : decode cX12_named 58 = .ok (.iconst 0, 1) := by decide +kernel
theorem dX12_named_59 : decode cX12_named 59 = .ok (.aload_n 0, 1) := by decide +kernel
theorem dX12_named_60 : decode cX12_named 60 = .ok (.getfield 7, 3) := by decide +kernel
theorem dX12_named_63 : decode cX12_named 63 = .ok (.iconst 0, 1) := by decide +kernel
theorem dX12_named_64 : decode cX12_named 64 = .ok (.iaload, 1) := by decide +kernel
theorem dX12_named_65 : decode cX12_named 65 = .ok (.lload_n 2, 1) := by decide +kernel
theorem dX12_named_66 : decode cX12_named 66 = .ok (.invokestatic 244, 3) := by decide +kernel
theorem dX12_named_69 : decode cX12_named 69 = .ok (.goto 50, 3) := by decide +kernel
theorem dX12_named_72 : decode cX12_named 72 = .ok (.iload_n 1, 1) := by decide +kernel
theorem dX12_named_73 : decode cX12_named 73 = .ok (.iconst 1, 1) := by decide +kernel
theorem dX12_named_74 : decode cX12_named 74 = .ok (.if_icmp .ne 21, 3) := by decide +kernel
theorem dX12_named_77 : decode cX12_named 77 = .ok (.aload_n 0, 1) := by decide +kernel
theorem dX12_named_78 : decode cX12_named 78 = .ok (.getfield 17, 3) := by decide +kernel
theorem dX12_named_81 : decode cX12_named 81 = .ok (.iconst 0, 1) := by decide +kernel
theorem dX12_named_82 : decode cX12_named 82 = .ok (.aload_n 0, 1) := by decide +kernel
theorem dX12_named_83 : decode cX12_named 83 = .ok (.getfield 7, 3) := by decide +kernel
theorem dX12_named_86 : decode cX12_named 86 = .ok (.iconst 1, 1) := by decide +kernel
theorem dX12_named_87 : decode cX12_named 87 = .ok (.iaload, 1) := by decide +kernel
theorem dX12_named_88 : decode cX12_named 88 = .ok (.lload_n 2, 1) := by decide +kernel
theorem dX12_named_89 : decode cX12_named 89 = .ok (.invokestatic 244, 3) := by decide +kernel
theorem dX12_named_92 : decode cX12_named 92 = .ok (.goto 27, 3) := by decide +kernel
theorem dX12_named_95 : decode cX12_named 95 = .ok (.iload_n 1, 1) := by decide +kernel
theorem dX12_named_96 : decode cX12_named 96 = .ok (.iconst 2, 1) := by decide +kernel
theorem dX12_named_97 : decode cX12_named 97 = .ok (.if_icmp .ne 21, 3) := by decide +kernel
theorem dX12_named_100 : decode cX12_named 100 = .ok (.aload_n 0, 1) := by decide +kernel
theorem dX12_named_101 : decode cX12_named 101 = .ok (.getfield 20, 3) := by decide +kernel
theorem dX12_named_104 : decode cX12_named 104 = .ok (.iconst 0, 1) := by decide +kernel
theorem dX12_named_105 : decode cX12_named 105 = .ok (.aload_n 0, 1) := by decide +kernel
theorem dX12_named_106 : decode cX12_named 106 = .ok (.getfield 7, 3) := by decide +kernel
theorem dX12_named_109 : decode cX12_named 109 = .ok (.iconst 2, 1) := by decide +kernel
theorem dX12_named_110 : decode cX12_named 110 = .ok (.iaload, 1) := by decide +kernel
theorem dX12_named_111 : decode cX12_named 111 = .ok (.lload_n 2, 1) := by decide +kernel
theorem dX12_named_112 : decode cX12_named 112 = .ok (.invokestatic 244, 3) := by decide +kernel
theorem dX12_named_115 : decode cX12_named 115 = .ok (.goto 4, 3) := by decide +kernel
theorem dX12_named_118 : decode cX12_named 118 = .ok (.iconst (-1), 1) := by decide +kernel
theorem dX12_named_119 : decode cX12_named 119 = .ok (.ireturn, 1) := by decide +kernel
def X12_named_b119  (s0 : Int32) (u : gM) : Option (Int32 × gM) :=
some (s0, u)
def X12_named_b36  (x1 : Int32) (x2 : Int64) (s0 : Int32) (u : gM) : Option (Int32 × gM) :=
(if s0 = 0 then some ((-1), upI u 0 20 0)
  else (if x1 = 0 then ((aI skM (upI u 0 20 0) 1 0).bind fun v64 => ((X12_placeIn (upI u 0 20 0) 2 0 v64 x2).bind fun w66 => (X12_named_b119 w66 (upI u 0 20 0))))
    else (if x1 = 1 then ((aI skM (upI u 0 20 0) 1 1).bind fun v87 => ((X12_placeIn (upI u 0 20 0) 3 0 v87 x2).bind fun w89 => (X12_named_b119 w89 (upI u 0 20 0))))
      else (if x1 = 2 then ((aI skM (upI u 0 20 0) 1 2).bind fun v110 => ((X12_placeIn (upI u 0 20 0) 4 0 v110 x2).bind fun w112 => (X12_named_b119 w112 (upI u 0 20 0))))
        else (X12_named_b119 (-1) (upI u 0 20 0))))))
def X12_named_b35  (x1 : Int32) (x2 : Int64) (u : gM) : Option (Int32 × gM) :=
(X12_named_b36 x1 x2 0 u)
def X12_named  (x1 : Int32) (u : gM) : Option (Int32 × gM) :=
((X12_begins u).bind fun w1 => ((X12_isName w1).bind fun w10 => ((X12_next w1).bind fun w16 => (if w10 = 0 then (X12_named_b35 x1 (w1.2 0 28) w16)
  else (if (w16.1 0 25) = 0 then (X12_named_b36 x1 (w1.2 0 28) 1 w16)
    else (X12_named_b35 x1 (w1.2 0 28) w16))))))
set_option maxRecDepth 20000 in
theorem v_X12_named_b119 {κ : gK} {B : Nat} {u : gM} (X : gX κ B skM cX12_named 5 RX12 (some .int) 9 204)   {s0 : Int32} {w : (Int32 × gM)} (hM : X12_named_b119 s0 u = some w) : gV κ B skM 5 ((some (.int w.1)), w.2) 119 [none, none, none, none, none] [.int s0] u := by
  unfold X12_named_b119 at hM
  cases hM
  exact g_iret X dX12_named_119
set_option maxRecDepth 20000 in
theorem v_X12_named_b36 {κ : gK} {B : Nat} {u : gM} (X : gX κ B skM cX12_named 5 RX12 (some .int) 9 204)   {x1 : Int32} {x2 : Int64} {s0 : Int32} {w : (Int32 × gM)} (hM : X12_named_b36 x1 x2 s0 u = some w) : gV κ B skM 5 ((some (.int w.1)), w.2) 36 [some (.ref (B + 0)), some (.int x1), some (.long x2), none, none] [.int s0] u := by
  unfold X12_named_b36 at hM
  refine g_istore X [some (.ref (B + 0)), some (.int x1), some (.long x2), none, some (.int s0)] dX12_named_36 (by decide) rfl ?_
  refine g_aload_n X dX12_named_38 rfl ?_
  refine g_iconst X (v := 0) dX12_named_39 (by decide) ?_
  refine g_putI X fX12_118 gc_X12 gp_X12_20 cM_0 rfl dX12_named_40 ?_
  refine g_iload X dX12_named_43 rfl ?_
  refine g_if_ne (tgt := 50) X dX12_named_45 (by decide) (fun c45 => ?_) (fun c45 => ?_)
  · rw [if_neg c45] at hM
    refine g_iload_n X dX12_named_50 rfl ?_
    refine g_if_ne (tgt := 72) X dX12_named_51 (by decide) (fun c51 => ?_) (fun c51 => ?_)
    · rw [if_neg c51] at hM
      refine g_iload_n X dX12_named_72 rfl ?_
      refine g_iconst X (v := 1) dX12_named_73 (by decide) ?_
      refine g_icmp_ne (tgt := 95) X dX12_named_74 (by decide) (fun c74 => ?_) (fun c74 => ?_)
      · rw [if_neg c74] at hM
        refine g_iload_n X dX12_named_95 rfl ?_
        refine g_iconst X (v := 2) dX12_named_96 (by decide) ?_
        refine g_icmp_ne (tgt := 118) X dX12_named_97 (by decide) (fun c97 => ?_) (fun c97 => ?_)
        · rw [if_neg c97] at hM
          refine g_iconst X (v := (-1)) dX12_named_118 (by decide) ?_
          refine g_mk [false, false, false, false, false] [none, none, none, none, none] rfl ?_
          exact v_X12_named_b119 X  hM
        · rw [if_pos c97] at hM
          refine g_aload_n X dX12_named_100 rfl ?_
          refine g_getR X fX12_20 cM_0 rfl dX12_named_101 ?_
          refine g_iconst X (v := 0) dX12_named_104 (by decide) ?_
          refine g_aload_n X dX12_named_105 rfl ?_
          refine g_getR X fX12_7 cM_0 rfl dX12_named_106 ?_
          refine g_iconst X (v := 2) dX12_named_109 (by decide) ?_
          obtain ⟨v110, e110, hM⟩ := bind_of hM
          refine g_iaload X e110 dX12_named_110 ?_
          refine g_lload_n X dX12_named_111 rfl ?_
          obtain ⟨w112, e112, hM⟩ := bind_of hM
          refine g_callSi X (fun B adK => [.ref (B + 4), .int 0, .int v110, .long x2]) (s_X12_placeIn e112) cvX12_244 rfl rfl (Nat.le_of_ble_eq_true rfl) ⟨by decide, by decide⟩ dX12_named_112 ?_
          refine g_goto (tgt := 119) X dX12_named_115 (by decide) ?_
          refine g_mk [false, false, false, false, false] [none, none, none, none, none] rfl ?_
          exact v_X12_named_b119 X  hM
      · rw [if_pos c74] at hM
        refine g_aload_n X dX12_named_77 rfl ?_
        refine g_getR X fX12_17 cM_0 rfl dX12_named_78 ?_
        refine g_iconst X (v := 0) dX12_named_81 (by decide) ?_
        refine g_aload_n X dX12_named_82 rfl ?_
        refine g_getR X fX12_7 cM_0 rfl dX12_named_83 ?_
        refine g_iconst X (v := 1) dX12_named_86 (by decide) ?_
        obtain ⟨v87, e87, hM⟩ := bind_of hM
        refine g_iaload X e87 dX12_named_87 ?_
        refine g_lload_n X dX12_named_88 rfl ?_
        obtain ⟨w89, e89, hM⟩ := bind_of hM
        refine g_callSi X (fun B adK => [.ref (B + 3), .int 0, .int v87, .long x2]) (s_X12_placeIn e89) cvX12_244 rfl rfl (Nat.le_of_ble_eq_true rfl) ⟨by decide, by decide⟩ dX12_named_89 ?_
        refine g_goto (tgt := 119) X dX12_named_92 (by decide) ?_
        refine g_mk [false, false, false, false, false] [none, none, none, none, none] rfl ?_
        exact v_X12_named_b119 X  hM
    · rw [if_pos c51] at hM
      refine g_aload_n X dX12_named_54 rfl ?_
      refine g_getR X fX12_13 cM_0 rfl dX12_named_55 ?_
      refine g_iconst X (v := 0) dX12_named_58 (by decide) ?_
      refine g_aload_n X dX12_named_59 rfl ?_
      refine g_getR X fX12_7 cM_0 rfl dX12_named_60 ?_
      refine g_iconst X (v := 0) dX12_named_63 (by decide) ?_
      obtain ⟨v64, e64, hM⟩ := bind_of hM
      refine g_iaload X e64 dX12_named_64 ?_
      refine g_lload_n X dX12_named_65 rfl ?_
      obtain ⟨w66, e66, hM⟩ := bind_of hM
      refine g_callSi X (fun B adK => [.ref (B + 2), .int 0, .int v64, .long x2]) (s_X12_placeIn e66) cvX12_244 rfl rfl (Nat.le_of_ble_eq_true rfl) ⟨by decide, by decide⟩ dX12_named_66 ?_
      refine g_goto (tgt := 119) X dX12_named_69 (by decide) ?_
      refine g_mk [false, false, false, false, false] [none, none, none, none, none] rfl ?_
      exact v_X12_named_b119 X  hM
  · rw [if_pos c45] at hM
    refine g_iconst X (v := (-1)) dX12_named_48 (by decide) ?_
    cases hM
    exact g_iret X dX12_named_49
set_option maxRecDepth 20000 in
theorem v_X12_named_b35 {κ : gK} {B : Nat} {u : gM} (X : gX κ B skM cX12_named 5 RX12 (some .int) 9 204)   {x1 : Int32} {x2 : Int64} {w : (Int32 × gM)} (hM : X12_named_b35 x1 x2 u = some w) : gV κ B skM 5 ((some (.int w.1)), w.2) 35 [some (.ref (B + 0)), some (.int x1), some (.long x2), none, none] [] u := by
  unfold X12_named_b35 at hM
  refine g_iconst X (v := 0) dX12_named_35 (by decide) ?_
  refine g_mk [true, true, true, false, false] [some (.ref (B + 0)), some (.int x1), some (.long x2), none, none] rfl ?_
  exact v_X12_named_b36 X  hM
set_option maxRecDepth 20000 in
theorem v_X12_named {κ : gK} {B : Nat} {u : gM} (X : gX κ B skM cX12_named 5 RX12 (some .int) 9 204)   {x1 : Int32} {w : (Int32 × gM)} (hM : X12_named x1 u = some w) : gV κ B skM 5 ((some (.int w.1)), w.2) 0 [some (.ref (B + 0)), some (.int x1), none, none, none] [] u := by
  unfold X12_named at hM
  refine g_aload_n X dX12_named_0 rfl ?_
  obtain ⟨w1, e1, hM⟩ := bind_of hM
  refine g_callVv X (fun B adK => []) (s_X12_begins e1) cvX12_290 cM_0 rfl rfl (Nat.le_of_ble_eq_true rfl) ⟨by decide, by decide⟩ dX12_named_1 ?_
  refine g_aload_n X dX12_named_4 rfl ?_
  refine g_getJ X fX12_139 cM_0 rfl dX12_named_5 ?_
  refine g_lstore_n X [some (.ref (B + 0)), some (.int x1), some (.long (w1.2 0 28)), none, none] dX12_named_8 (by decide) rfl ?_
  refine g_aload_n X dX12_named_9 rfl ?_
  obtain ⟨w10, e10, hM⟩ := bind_of hM
  refine g_callVi X (fun B adK => []) (s_X12_isName e10) cvX12_248 cM_0 rfl rfl (Nat.le_of_ble_eq_true rfl) ⟨by decide, by decide⟩ dX12_named_10 ?_
  refine g_istore X [some (.ref (B + 0)), some (.int x1), some (.long (w1.2 0 28)), none, some (.int w10)] dX12_named_13 (by decide) rfl ?_
  refine g_aload_n X dX12_named_15 rfl ?_
  obtain ⟨w16, e16, hM⟩ := bind_of hM
  refine g_callVv X (fun B adK => []) (s_X12_next e16) cvX12_238 cM_0 rfl rfl (Nat.le_of_ble_eq_true rfl) ⟨by decide, by decide⟩ dX12_named_16 ?_
  refine g_iload X dX12_named_19 rfl ?_
  refine g_if_eq (tgt := 35) X dX12_named_21 (by decide) (fun c21 => ?_) (fun c21 => ?_)
  · rw [if_pos c21] at hM
    refine g_mk [true, true, true, false, false] [some (.ref (B + 0)), some (.int x1), some (.long (w1.2 0 28)), none, none] rfl ?_
    exact v_X12_named_b35 X  hM
  · rw [if_neg c21] at hM
    refine g_aload_n X dX12_named_24 rfl ?_
    refine g_getI X fX12_149 cM_0 rfl dX12_named_25 ?_
    refine g_if_ne (tgt := 35) X dX12_named_28 (by decide) (fun c28 => ?_) (fun c28 => ?_)
    · rw [if_neg c28] at hM
      refine g_mk [true, true, true, false, false] [some (.ref (B + 0)), some (.int x1), some (.long (w1.2 0 28)), none, none] rfl ?_
      exact v_X12_named_b35 X  hM
    · rw [if_pos c28] at hM
      refine g_iconst X (v := 1) dX12_named_31 (by decide) ?_
      refine g_goto (tgt := 36) X dX12_named_32 (by decide) ?_
      refine g_mk [true, true, true, false, false] [some (.ref (B + 0)), some (.int x1), some (.long (w1.2 0 28)), none, none] rfl ?_
      exact v_X12_named_b36 X  hM
theorem s_X12_named {x1 : Int32} {u : gM} {w : (Int32 × gM)} (hM : X12_named x1 u = some w) : gMet skM yX12_named cX12_named 5 (some .int) 9 204 (fun B adK => [.ref (B + 0), .int x1]) u ((fun _ => some (.int w.1)), w.2) := by
  refine gMet.of (by decide) (fun _ _ => Nat.le_of_ble_eq_true rfl) (fun κ B X => ?_)
  have X : gX κ B skM cX12_named 5 RX12 (some .int) 9 204 := X
  refine g_mk [true, true, false, false, false] [some (.ref (B + 0)), some (.int x1), none, none, none] rfl ?_
  exact v_X12_named X  hM
theorem fr_X12_named_b119 {S : Nat → Prop} {u0 u : gM} {s0 : Int32}    {w : (Int32 × gM)} (hM : X12_named_b119 s0 u = some w) (h0 : off S u0 u) : off S u0 w.2 := by
  unfold X12_named_b119 at hM
  cases hM
  exact h0
theorem fr_X12_named_b36 {S : Nat → Prop} {u0 u : gM} {x1 : Int32} {x2 : Int64} {s0 : Int32} (hs0 : S 0)   {w : (Int32 × gM)} (hM : X12_named_b36 x1 x2 s0 u = some w) (h0 : off S u0 u) : off S u0 w.2 := by
  unfold X12_named_b36 at hM
  have h0 := off_upI (u := u) (k := 0) (j := 20) (x := 0) hs0 h0
  by_cases c45 : s0 = 0
  · rw [if_pos c45] at hM
    cases hM
    exact h0
  · rw [if_neg c45] at hM
    by_cases c51 : x1 = 0
    · rw [if_pos c51] at hM
      obtain ⟨v64, e64, hM⟩ := bind_of hM
      obtain ⟨w66, e66, hM⟩ := bind_of hM
      exact fr_X12_named_b119   hM h0
    · rw [if_neg c51] at hM
      by_cases c74 : x1 = 1
      · rw [if_pos c74] at hM
        obtain ⟨v87, e87, hM⟩ := bind_of hM
        obtain ⟨w89, e89, hM⟩ := bind_of hM
        exact fr_X12_named_b119   hM h0
      · rw [if_neg c74] at hM
        by_cases c97 : x1 = 2
        · rw [if_pos c97] at hM
          obtain ⟨v110, e110, hM⟩ := bind_of hM
          obtain ⟨w112, e112, hM⟩ := bind_of hM
          exact fr_X12_named_b119   hM h0
        · rw [if_neg c97] at hM
          exact fr_X12_named_b119   hM h0
theorem fr_X12_named_b35 {S : Nat → Prop} {u0 u : gM} {x1 : Int32} {x2 : Int64} (hs0 : S 0)   {w : (Int32 × gM)} (hM : X12_named_b35 x1 x2 u = some w) (h0 : off S u0 u) : off S u0 w.2 := by
  unfold X12_named_b35 at hM
  exact fr_X12_named_b36 hs0  hM h0
theorem fr_X12_named {S : Nat → Prop} {u0 u : gM} {x1 : Int32} (hs0 : S 0)   {w : (Int32 × gM)} (hM : X12_named x1 u = some w) (h0 : off S u0 u) : off S u0 w.2 := by
  unfold X12_named at hM
  obtain ⟨w1, e1, hM⟩ := bind_of hM
  have h0 := fr_X12_begins hs0 e1 h0
  obtain ⟨w10, e10, hM⟩ := bind_of hM
  obtain ⟨w16, e16, hM⟩ := bind_of hM
  have h0 := fr_X12_next hs0 e16 h0
  by_cases c21 : w10 = 0
  · rw [if_pos c21] at hM
    exact fr_X12_named_b35 hs0  hM h0
  · rw [if_neg c21] at hM
    by_cases c28 : (w16.1 0 25) = 0
    · rw [if_pos c28] at hM
      exact fr_X12_named_b36 hs0  hM h0
    · rw [if_neg c28] at hM
      exact fr_X12_named_b35 hs0  hM h0
/-! CoverDeskModel.sharesOf(I)J -/
theorem dX12_sharesOf_0 : decode cX12_sharesOf 0 = .ok (.lconst 0, 1) := by decide +kernel
theorem dX12_sharesOf_1 : decode cX12_sharesOf 1 = .ok (.lstore_n 2, 1) := by decide +kernel
theorem dX12_sharesOf_2 : decode cX12_sharesOf 2 = .ok (.iconst 0, 1) := by decide +kernel
theorem dX12_sharesOf_3 : decode cX12_sharesOf 3 = .ok (.istore 4, 2) := by decide +kernel
theorem dX12_sharesOf_5 : decode cX12_sharesOf 5 = .ok (.iload 4, 2) := by decide +kernel
theorem dX12_sharesOf_7 : decode cX12_sharesOf 7 = .ok (.aload_n 0, 1) := by decide +kernel
theorem dX12_sharesOf_8 : decode cX12_sharesOf 8 = .ok (.getfield 7, 3) := by decide +kernel
theorem dX12_sharesOf_11 : decode cX12_sharesOf 11 = .ok (.iconst 2, 1) := by decide +kernel
theorem dX12_sharesOf_12 : decode cX12_sharesOf 12 = .ok (.iaload, 1) := by decide +kernel
theorem dX12_sharesOf_13 : decode cX12_sharesOf 13 = .ok (.if_icmp .ge 41, 3) := by decide +kernel
theorem dX12_sharesOf_16 : decode cX12_sharesOf 16 = .ok (.lload_n 2, 1) := by decide +kernel
theorem dX12_sharesOf_17 : decode cX12_sharesOf 17 = .ok (.aload_n 0, 1) := by decide +kernel
theorem dX12_sharesOf_18 : decode cX12_sharesOf 18 = .ok (.iload 4, 2) := by decide +kernel
theorem dX12_sharesOf_20 : decode cX12_sharesOf 20 = .ok (.iload_n 1, 1) := by decide +kernel
theorem dX12_sharesOf_21 : decode cX12_sharesOf 21 = .ok (.invokevirtual 322, 3) := by decide +kernel
theorem dX12_sharesOf_24 : decode cX12_sharesOf 24 = .ok (.iconst (-1), 1) := by decide +kernel
theorem dX12_sharesOf_25 : decode cX12_sharesOf 25 = .ok (.if_icmp .ne 7, 3) := by decide +kernel
theorem dX12_sharesOf_28 : decode cX12_sharesOf 28 = .ok (.lconst 0, 1) := by decide +kernel
theorem dX12_sharesOf_29 : decode cX12_sharesOf 29 = .ok (.goto 17, 3) := by decide +kernel
theorem dX12_sharesOf_32 : decode cX12_sharesOf 32 = .ok (.aload_n 0, 1) := by decide +kernel
theorem dX12_sharesOf_33 : decode cX12_sharesOf 33 = .ok (.iload 4, 2) := by decide +kernel
theorem dX12_sharesOf_35 : decode cX12_sharesOf 35 = .ok (.aload_n 0, 1) := by decide +kernel
theorem dX12_sharesOf_36 : decode cX12_sharesOf 36 = .ok (.iload 4, 2) := by decide +kernel
theorem dX12_sharesOf_38 : decode cX12_sharesOf 38 = .ok (.iload_n 1, 1) := by decide +kernel
theorem dX12_sharesOf_39 : decode cX12_sharesOf 39 = .ok (.invokevirtual 322, 3) := by decide +kernel
theorem dX12_sharesOf_42 : decode cX12_sharesOf 42 = .ok (.invokevirtual 332, 3) := by decide +kernel
theorem dX12_sharesOf_45 : decode cX12_sharesOf 45 = .ok (.i2l, 1) := by decide +kernel
theorem dX12_sharesOf_46 : decode cX12_sharesOf 46 = .ok (.ladd, 1) := by decide +kernel
theorem dX12_sharesOf_47 : decode cX12_sharesOf 47 = .ok (.lstore_n 2, 1) := by decide +kernel
theorem dX12_sharesOf_48 : decode cX12_sharesOf 48 = .ok (.iinc 4 1, 3) := by decide +kernel
theorem dX12_sharesOf_51 : decode cX12_sharesOf 51 = .ok (.goto (-46), 3) := by decide +kernel
theorem dX12_sharesOf_54 : decode cX12_sharesOf 54 = .ok (.lload_n 2, 1) := by decide +kernel
theorem dX12_sharesOf_55 : decode cX12_sharesOf 55 = .ok (.lreturn, 1) := by decide +kernel
def X12_sharesOf_b46 (u : gM) (k5 : Int32 → Int64 → Int32 → Option Int64) (x1 : Int32) (x4 : Int32) (s0 : Int64) (s1 : Int64) : Option Int64 :=
(k5 x1 (s0 + s1) (x4 + 1))
def X12_sharesOf_b5 (u : gM) (k5 : Int32 → Int64 → Int32 → Option Int64) (x1 : Int32) (x2 : Int64) (x4 : Int32) : Option Int64 :=
((aI skM u 1 2).bind fun v12 => (if v12 ≤ x4 then some x2
  else ((X12_ownerAt u x4 x1).bind fun w21 => (if w21 = (-1) then (X12_sharesOf_b46 u k5 x1 x4 x2 0)
    else ((X12_ownerAt u x4 x1).bind fun w39 => ((X12_shareOf u x4 w39).bind fun w42 => (X12_sharesOf_b46 u k5 x1 x4 x2 w42.toInt64)))))))
def X12_sharesOf_l5 (u : gM)  : Nat → Int32 → Int64 → Int32 → Option Int64
  | 0, _, _, _ => none
  | n + 1, x1, x2, x4 => X12_sharesOf_b5 u  (X12_sharesOf_l5 u  n) x1 x2 x4
def X12_sharesOf (u : gM)  (x1 : Int32) : Option Int64 :=
(X12_sharesOf_l5 u fz x1 0 0)
set_option maxRecDepth 20000 in
theorem v_X12_sharesOf_b46 {κ : gK} {B : Nat} {u : gM} (X : gX κ B skM cX12_sharesOf 5 RX12 (some .long) 2 42) {k5 : Int32 → Int64 → Int32 → Option Int64} (ih5 : ∀ (x1 : Int32) (x2 : Int64) (x4 : Int32) (w : Int64), k5 x1 x2 x4 = some w → gV κ B skM 5 ((some (.long w)), u) 5 [some (.ref (B + 0)), some (.int x1), some (.long x2), none, some (.int x4)] [] u) {x1 : Int32} {x4 : Int32} {s0 : Int64} {s1 : Int64} {w : Int64} (hM : X12_sharesOf_b46 u k5 x1 x4 s0 s1 = some w) : gV κ B skM 5 ((some (.long w)), u) 46 [some (.ref (B + 0)), some (.int x1), none, none, some (.int x4)] [.long s1, .long s0] u := by
  unfold X12_sharesOf_b46 at hM
  refine g_ladd X dX12_sharesOf_46 ?_
  refine g_lstore_n X [some (.ref (B + 0)), some (.int x1), some (.long (s0 + s1)), none, some (.int x4)] dX12_sharesOf_47 (by decide) rfl ?_
  refine g_iinc (d := 1) X [some (.ref (B + 0)), some (.int x1), some (.long (s0 + s1)), none, some (.int (x4 + 1))] dX12_sharesOf_48 (by decide) rfl (by decide) rfl ?_
  refine g_goto (tgt := 5) X dX12_sharesOf_51 (by decide) ?_
  refine g_mk [true, true, true, false, true] [some (.ref (B + 0)), some (.int x1), some (.long (s0 + s1)), none, some (.int (x4 + 1))] rfl ?_
  exact ih5 x1 (s0 + s1) (x4 + 1) _ hM
set_option maxRecDepth 20000 in
theorem v_X12_sharesOf_b5 {κ : gK} {B : Nat} {u : gM} (X : gX κ B skM cX12_sharesOf 5 RX12 (some .long) 2 42) {k5 : Int32 → Int64 → Int32 → Option Int64} (ih5 : ∀ (x1 : Int32) (x2 : Int64) (x4 : Int32) (w : Int64), k5 x1 x2 x4 = some w → gV κ B skM 5 ((some (.long w)), u) 5 [some (.ref (B + 0)), some (.int x1), some (.long x2), none, some (.int x4)] [] u) {x1 : Int32} {x2 : Int64} {x4 : Int32} {w : Int64} (hM : X12_sharesOf_b5 u k5 x1 x2 x4 = some w) : gV κ B skM 5 ((some (.long w)), u) 5 [some (.ref (B + 0)), some (.int x1), some (.long x2), none, some (.int x4)] [] u := by
  unfold X12_sharesOf_b5 at hM
  refine g_iload X dX12_sharesOf_5 rfl ?_
  refine g_aload_n X dX12_sharesOf_7 rfl ?_
  refine g_getR X fX12_7 cM_0 rfl dX12_sharesOf_8 ?_
  refine g_iconst X (v := 2) dX12_sharesOf_11 (by decide) ?_
  obtain ⟨v12, e12, hM⟩ := bind_of hM
  refine g_iaload X e12 dX12_sharesOf_12 ?_
  refine g_icmp_ge (tgt := 54) X dX12_sharesOf_13 (by decide) (fun c13 => ?_) (fun c13 => ?_)
  · rw [if_pos c13] at hM
    refine g_lload_n X dX12_sharesOf_54 rfl ?_
    cases hM
    exact g_lret X dX12_sharesOf_55
  · rw [if_neg c13] at hM
    refine g_lload_n X dX12_sharesOf_16 rfl ?_
    refine g_aload_n X dX12_sharesOf_17 rfl ?_
    refine g_iload X dX12_sharesOf_18 rfl ?_
    refine g_iload_n X dX12_sharesOf_20 rfl ?_
    obtain ⟨w21, e21, hM⟩ := bind_of hM
    refine g_callVi X (fun B adK => [.int x4, .int x1]) (s_X12_ownerAt e21) cvX12_322 cM_0 rfl rfl (Nat.le_of_ble_eq_true rfl) ⟨by decide, by decide⟩ dX12_sharesOf_21 ?_
    refine g_iconst X (v := (-1)) dX12_sharesOf_24 (by decide) ?_
    refine g_icmp_ne (tgt := 32) X dX12_sharesOf_25 (by decide) (fun c25 => ?_) (fun c25 => ?_)
    · rw [if_neg c25] at hM
      refine g_aload_n X dX12_sharesOf_32 rfl ?_
      refine g_iload X dX12_sharesOf_33 rfl ?_
      refine g_aload_n X dX12_sharesOf_35 rfl ?_
      refine g_iload X dX12_sharesOf_36 rfl ?_
      refine g_iload_n X dX12_sharesOf_38 rfl ?_
      obtain ⟨w39, e39, hM⟩ := bind_of hM
      refine g_callVi X (fun B adK => [.int x4, .int x1]) (s_X12_ownerAt e39) cvX12_322 cM_0 rfl rfl (Nat.le_of_ble_eq_true rfl) ⟨by decide, by decide⟩ dX12_sharesOf_39 ?_
      obtain ⟨w42, e42, hM⟩ := bind_of hM
      refine g_callVi X (fun B adK => [.int x4, .int w39]) (s_X12_shareOf e42) cvX12_332 cM_0 rfl rfl (Nat.le_of_ble_eq_true rfl) ⟨by decide, by decide⟩ dX12_sharesOf_42 ?_
      refine g_i2l X dX12_sharesOf_45 ?_
      refine g_mk [true, true, false, false, true] [some (.ref (B + 0)), some (.int x1), none, none, some (.int x4)] rfl ?_
      exact v_X12_sharesOf_b46 X ih5 hM
    · rw [if_pos c25] at hM
      refine g_lconst (v := 0) X dX12_sharesOf_28 (by decide) ?_
      refine g_goto (tgt := 46) X dX12_sharesOf_29 (by decide) ?_
      refine g_mk [true, true, false, false, true] [some (.ref (B + 0)), some (.int x1), none, none, some (.int x4)] rfl ?_
      exact v_X12_sharesOf_b46 X ih5 hM
theorem v_X12_sharesOf_l5 {κ : gK} {B : Nat} {u : gM} (X : gX κ B skM cX12_sharesOf 5 RX12 (some .long) 2 42)   : ∀ (n : Nat) {x1 : Int32} {x2 : Int64} {x4 : Int32} {w : Int64} (hM : X12_sharesOf_l5 u  n x1 x2 x4 = some w), gV κ B skM 5 ((some (.long w)), u) 5 [some (.ref (B + 0)), some (.int x1), some (.long x2), none, some (.int x4)] [] u := by
  intro n
  induction n with
  | zero => intro x1 x2 x4 w hM; exact nomatch (show (none : Option Int64) = some w from hM)
  | succ n ihn => intro x1 x2 x4 w hM; exact v_X12_sharesOf_b5 X  (fun x1 x2 x4 w h => ihn h) hM
set_option maxRecDepth 20000 in
theorem v_X12_sharesOf {κ : gK} {B : Nat} {u : gM} (X : gX κ B skM cX12_sharesOf 5 RX12 (some .long) 2 42)   {x1 : Int32} {w : Int64} (hM : X12_sharesOf u x1 = some w) : gV κ B skM 5 ((some (.long w)), u) 0 [some (.ref (B + 0)), some (.int x1), none, none, none] [] u := by
  unfold X12_sharesOf at hM
  refine g_lconst (v := 0) X dX12_sharesOf_0 (by decide) ?_
  refine g_lstore_n X [some (.ref (B + 0)), some (.int x1), some (.long 0), none, none] dX12_sharesOf_1 (by decide) rfl ?_
  refine g_iconst X (v := 0) dX12_sharesOf_2 (by decide) ?_
  refine g_istore X [some (.ref (B + 0)), some (.int x1), some (.long 0), none, some (.int 0)] dX12_sharesOf_3 (by decide) rfl ?_
  refine g_mk [true, true, true, false, true] [some (.ref (B + 0)), some (.int x1), some (.long 0), none, some (.int 0)] rfl ?_
  exact v_X12_sharesOf_l5 X  fz hM
theorem s_X12_sharesOf {x1 : Int32} {u : gM} {w : Int64} (hM : X12_sharesOf u x1 = some w) : gMet skM yX12_sharesOf cX12_sharesOf 5 (some .long) 2 42 (fun B adK => [.ref (B + 0), .int x1]) u ((fun _ => some (.long w)), u) := by
  refine gMet.of (by decide) (fun _ _ => Nat.le_of_ble_eq_true rfl) (fun κ B X => ?_)
  have X : gX κ B skM cX12_sharesOf 5 RX12 (some .long) 2 42 := X
  refine g_mk [true, true, false, false, false] [some (.ref (B + 0)), some (.int x1), none, none, none] rfl ?_
  exact v_X12_sharesOf X  hM

/-! CoverDeskModel.of(III)J -/
theorem dX12_of_0 : decode cX12_of 0 = .ok (.aload_n 0, 1) := by decide +kernel
theorem dX12_of_1 : decode cX12_of 1 = .ok (.iload_n 1, 1) := by decide +kernel
theorem dX12_of_2 : decode cX12_of 2 = .ok (.invokevirtual 446, 3) := by decide +kernel
theorem dX12_of_5 : decode cX12_of 5 = .ok (.ifCond .eq 27, 3) := by decide +kernel
theorem dX12_of_8 : decode cX12_of 8 = .ok (.iload_n 2, 1) := by decide +kernel
theorem dX12_of_9 : decode cX12_of 9 = .ok (.i2l, 1) := by decide +kernel
theorem dX12_of_10 : decode cX12_of 10 = .ok (.lconst 0, 1) := by decide +kernel
theorem dX12_of_11 : decode cX12_of 11 = .ok (.ldc2_w 449, 3) := by decide +kernel
theorem dX12_of_14 : decode cX12_of 14 = .ok (.invokestatic 125, 3) := by decide +kernel
theorem dX12_of_17 : decode cX12_of 17 = .ok (.ifCond .eq 15, 3) := by decide +kernel
theorem dX12_of_20 : decode cX12_of 20 = .ok (.iload_n 3, 1) := by decide +kernel
theorem dX12_of_21 : decode cX12_of 21 = .ok (.i2l, 1) := by decide +kernel
theorem dX12_of_22 : decode cX12_of 22 = .ok (.lconst 0, 1) := by decide +kernel
theorem dX12_of_23 : decode cX12_of 23 = .ok (.ldc2_w 442, 3) := by decide +kernel
theorem dX12_of_26 : decode cX12_of 26 = .ok (.invokestatic 125, 3) := by decide +kernel
theorem dX12_of_29 : decode cX12_of 29 = .ok (.ifCond .ne 7, 3) := by decide +kernel
theorem dX12_of_32 : decode cX12_of 32 = .ok (.ldc2_w 341, 3) := by decide +kernel
theorem dX12_of_35 : decode cX12_of 35 = .ok (.lreturn, 1) := by decide +kernel
theorem dX12_of_36 : decode cX12_of 36 = .ok (.iload_n 3, 1) := by decide +kernel
theorem dX12_of_37 : decode cX12_of 37 = .ok (.ifCond .ne 11, 3) := by decide +kernel
theorem dX12_of_40 : decode cX12_of 40 = .ok (.aload_n 0, 1) := by decide +kernel
theorem dX12_of_41 : decode cX12_of 41 = .ok (.iload_n 1, 1) := by decide +kernel
theorem dX12_of_42 : decode cX12_of 42 = .ok (.invokevirtual 457, 3) := by decide +kernel
theorem dX12_of_45 : decode cX12_of 45 = .ok (.goto 29, 3) := by decide +kernel
theorem dX12_of_48 : decode cX12_of 48 = .ok (.iload_n 3, 1) := by decide +kernel
theorem dX12_of_49 : decode cX12_of 49 = .ok (.iconst 1, 1) := by decide +kernel
theorem dX12_of_50 : decode cX12_of 50 = .ok (.if_icmp .ne 12, 3) := by decide +kernel
theorem dX12_of_53 : decode cX12_of 53 = .ok (.aload_n 0, 1) := by decide +kernel
theorem dX12_of_54 : decode cX12_of 54 = .ok (.iload_n 1, 1) := by decide +kernel
theorem dX12_of_55 : decode cX12_of 55 = .ok (.iload_n 2, 1) := by decide +kernel
theorem dX12_of_56 : decode cX12_of 56 = .ok (.invokevirtual 358, 3) := by decide +kernel
theorem dX12_of_59 : decode cX12_of 59 = .ok (.goto 15, 3) := by decide +kernel
theorem dX12_of_62 : decode cX12_of 62 = .ok (.aload_n 0, 1) := by decide +kernel
theorem dX12_of_63 : decode cX12_of 63 = .ok (.iload_n 1, 1) := by decide +kernel
theorem dX12_of_64 : decode cX12_of 64 = .ok (.invokevirtual 457, 3) := by decide +kernel
theorem dX12_of_67 : decode cX12_of 67 = .ok (.aload_n 0, 1) := by decide +kernel
theorem dX12_of_68 : decode cX12_of 68 = .ok (.iload_n 1, 1) := by decide +kernel
theorem dX12_of_69 : decode cX12_of 69 = .ok (.iload_n 2, 1) := by decide +kernel
theorem dX12_of_70 : decode cX12_of 70 = .ok (.invokevirtual 358, 3) := by decide +kernel
theorem dX12_of_73 : decode cX12_of 73 = .ok (.lsub, 1) := by decide +kernel
theorem dX12_of_74 : decode cX12_of 74 = .ok (.lreturn, 1) := by decide +kernel
def X12_of_b32   (u : gM) : Option (Int64 × gM) :=
some ((-1), u)
def X12_of_b74  (s0 : Int64) (u : gM) : Option (Int64 × gM) :=
some (s0, u)
def X12_of  (x1 : Int32) (x2 : Int32) (x3 : Int32) (u : gM) : Option (Int64 × gM) :=
((X12_isPerson u x1).bind fun w2 => (if w2 = 0 then (X12_of_b32 u)
  else ((X12_isIn u x2.toInt64 0 999).bind fun w14 => (if w14 = 0 then (X12_of_b32 u)
    else ((X12_isIn u x3.toInt64 0 2).bind fun w26 => (if w26 = 0 then (X12_of_b32 u)
      else (if x3 = 0 then ((X12_sharesOf u x1).bind fun w42 => (X12_of_b74 w42 u))
        else (if x3 = 1 then ((X12_insuredOf x1 x2 u).bind fun w56 => (X12_of_b74 w56.1 w56.2))
          else ((X12_sharesOf u x1).bind fun w64 => ((X12_insuredOf x1 x2 u).bind fun w70 => (X12_of_b74 (w64 - w70.1) w70.2)))))))))))
set_option maxRecDepth 20000 in
theorem v_X12_of_b32 {κ : gK} {B : Nat} {u : gM} (X : gX κ B skM cX12_of 4 RX12 (some .long) 6 154)    {w : (Int64 × gM)} (hM : X12_of_b32 u = some w) : gV κ B skM 4 ((some (.long w.1)), w.2) 32 [none, none, none, none] [] u := by
  unfold X12_of_b32 at hM
  refine g_ldc2 (v := (-1)) X m_43_8 dX12_of_32 ?_
  cases hM
  exact g_lret X dX12_of_35
set_option maxRecDepth 20000 in
theorem v_X12_of_b74 {κ : gK} {B : Nat} {u : gM} (X : gX κ B skM cX12_of 4 RX12 (some .long) 6 154)   {s0 : Int64} {w : (Int64 × gM)} (hM : X12_of_b74 s0 u = some w) : gV κ B skM 4 ((some (.long w.1)), w.2) 74 [none, none, none, none] [.long s0] u := by
  unfold X12_of_b74 at hM
  cases hM
  exact g_lret X dX12_of_74
set_option maxRecDepth 20000 in
theorem v_X12_of {κ : gK} {B : Nat} {u : gM} (X : gX κ B skM cX12_of 4 RX12 (some .long) 6 154)   {x1 : Int32} {x2 : Int32} {x3 : Int32} {w : (Int64 × gM)} (hM : X12_of x1 x2 x3 u = some w) : gV κ B skM 4 ((some (.long w.1)), w.2) 0 [some (.ref (B + 0)), some (.int x1), some (.int x2), some (.int x3)] [] u := by
  unfold X12_of at hM
  refine g_aload_n X dX12_of_0 rfl ?_
  refine g_iload_n X dX12_of_1 rfl ?_
  obtain ⟨w2, e2, hM⟩ := bind_of hM
  refine g_callVi X (fun B adK => [.int x1]) (s_X12_isPerson e2) cvX12_446 cM_0 rfl rfl (Nat.le_of_ble_eq_true rfl) ⟨by decide, by decide⟩ dX12_of_2 ?_
  refine g_if_eq (tgt := 32) X dX12_of_5 (by decide) (fun c5 => ?_) (fun c5 => ?_)
  · rw [if_pos c5] at hM
    refine g_mk [false, false, false, false] [none, none, none, none] rfl ?_
    exact v_X12_of_b32 X  hM
  · rw [if_neg c5] at hM
    refine g_iload_n X dX12_of_8 rfl ?_
    refine g_i2l X dX12_of_9 ?_
    refine g_lconst (v := 0) X dX12_of_10 (by decide) ?_
    refine g_ldc2 (v := 999) X m_52_2 dX12_of_11 ?_
    obtain ⟨w14, e14, hM⟩ := bind_of hM
    refine g_callSi X (fun B adK => [.long x2.toInt64, .long 0, .long 999]) (s_X12_isIn e14) cvX12_125 rfl rfl (Nat.le_of_ble_eq_true rfl) ⟨by decide, by decide⟩ dX12_of_14 ?_
    refine g_if_eq (tgt := 32) X dX12_of_17 (by decide) (fun c17 => ?_) (fun c17 => ?_)
    · rw [if_pos c17] at hM
      refine g_mk [false, false, false, false] [none, none, none, none] rfl ?_
      exact v_X12_of_b32 X  hM
    · rw [if_neg c17] at hM
      refine g_iload_n X dX12_of_20 rfl ?_
      refine g_i2l X dX12_of_21 ?_
      refine g_lconst (v := 0) X dX12_of_22 (by decide) ?_
      refine g_ldc2 (v := 2) X m_49_9 dX12_of_23 ?_
      obtain ⟨w26, e26, hM⟩ := bind_of hM
      refine g_callSi X (fun B adK => [.long x3.toInt64, .long 0, .long 2]) (s_X12_isIn e26) cvX12_125 rfl rfl (Nat.le_of_ble_eq_true rfl) ⟨by decide, by decide⟩ dX12_of_26 ?_
      refine g_if_ne (tgt := 36) X dX12_of_29 (by decide) (fun c29 => ?_) (fun c29 => ?_)
      · rw [if_neg c29] at hM
        refine g_iload_n X dX12_of_36 rfl ?_
        refine g_if_ne (tgt := 48) X dX12_of_37 (by decide) (fun c37 => ?_) (fun c37 => ?_)
        · rw [if_neg c37] at hM
          refine g_iload_n X dX12_of_48 rfl ?_
          refine g_iconst X (v := 1) dX12_of_49 (by decide) ?_
          refine g_icmp_ne (tgt := 62) X dX12_of_50 (by decide) (fun c50 => ?_) (fun c50 => ?_)
          · rw [if_neg c50] at hM
            refine g_aload_n X dX12_of_62 rfl ?_
            refine g_iload_n X dX12_of_63 rfl ?_
            obtain ⟨w64, e64, hM⟩ := bind_of hM
            refine g_callVl X (fun B adK => [.int x1]) (s_X12_sharesOf e64) cvX12_457 cM_0 rfl rfl (Nat.le_of_ble_eq_true rfl) ⟨by decide, by decide⟩ dX12_of_64 ?_
            refine g_aload_n X dX12_of_67 rfl ?_
            refine g_iload_n X dX12_of_68 rfl ?_
            refine g_iload_n X dX12_of_69 rfl ?_
            obtain ⟨w70, e70, hM⟩ := bind_of hM
            refine g_callVl X (fun B adK => [.int x1, .int x2]) (s_X12_insuredOf e70) cvX12_358 cM_0 rfl rfl (Nat.le_of_ble_eq_true rfl) ⟨by decide, by decide⟩ dX12_of_70 ?_
            refine g_lsub X dX12_of_73 ?_
            refine g_mk [false, false, false, false] [none, none, none, none] rfl ?_
            exact v_X12_of_b74 X  hM
          · rw [if_pos c50] at hM
            refine g_aload_n X dX12_of_53 rfl ?_
            refine g_iload_n X dX12_of_54 rfl ?_
            refine g_iload_n X dX12_of_55 rfl ?_
            obtain ⟨w56, e56, hM⟩ := bind_of hM
            refine g_callVl X (fun B adK => [.int x1, .int x2]) (s_X12_insuredOf e56) cvX12_358 cM_0 rfl rfl (Nat.le_of_ble_eq_true rfl) ⟨by decide, by decide⟩ dX12_of_56 ?_
            refine g_goto (tgt := 74) X dX12_of_59 (by decide) ?_
            refine g_mk [false, false, false, false] [none, none, none, none] rfl ?_
            exact v_X12_of_b74 X  hM
        · rw [if_pos c37] at hM
          refine g_aload_n X dX12_of_40 rfl ?_
          refine g_iload_n X dX12_of_41 rfl ?_
          obtain ⟨w42, e42, hM⟩ := bind_of hM
          refine g_callVl X (fun B adK => [.int x1]) (s_X12_sharesOf e42) cvX12_457 cM_0 rfl rfl (Nat.le_of_ble_eq_true rfl) ⟨by decide, by decide⟩ dX12_of_42 ?_
          refine g_goto (tgt := 74) X dX12_of_45 (by decide) ?_
          refine g_mk [false, false, false, false] [none, none, none, none] rfl ?_
          exact v_X12_of_b74 X  hM
      · rw [if_pos c29] at hM
        refine g_mk [false, false, false, false] [none, none, none, none] rfl ?_
        exact v_X12_of_b32 X  hM
theorem s_X12_of {x1 : Int32} {x2 : Int32} {x3 : Int32} {u : gM} {w : (Int64 × gM)} (hM : X12_of x1 x2 x3 u = some w) : gMet skM yX12_of cX12_of 4 (some .long) 6 154 (fun B adK => [.ref (B + 0), .int x1, .int x2, .int x3]) u ((fun _ => some (.long w.1)), w.2) := by
  refine gMet.of (by decide) (fun _ _ => Nat.le_of_ble_eq_true rfl) (fun κ B X => ?_)
  have X : gX κ B skM cX12_of 4 RX12 (some .long) 6 154 := X
  refine g_mk [true, true, true, true] [some (.ref (B + 0)), some (.int x1), some (.int x2), some (.int x3)] rfl ?_
  exact v_X12_of X  hM
theorem fr_X12_of_b32 {S : Nat → Prop} {u0 u : gM}     {w : (Int64 × gM)} (hM : X12_of_b32 u = some w) (h0 : off S u0 u) : off S u0 w.2 := by
  unfold X12_of_b32 at hM
  cases hM
  exact h0
theorem fr_X12_of_b74 {S : Nat → Prop} {u0 u : gM} {s0 : Int64}    {w : (Int64 × gM)} (hM : X12_of_b74 s0 u = some w) (h0 : off S u0 u) : off S u0 w.2 := by
  unfold X12_of_b74 at hM
  cases hM
  exact h0
theorem fr_X12_of {S : Nat → Prop} {u0 u : gM} {x1 : Int32} {x2 : Int32} {x3 : Int32} (hs0 : S 20)   {w : (Int64 × gM)} (hM : X12_of x1 x2 x3 u = some w) (h0 : off S u0 u) : off S u0 w.2 := by
  unfold X12_of at hM
  obtain ⟨w2, e2, hM⟩ := bind_of hM
  by_cases c5 : w2 = 0
  · rw [if_pos c5] at hM
    exact fr_X12_of_b32   hM h0
  · rw [if_neg c5] at hM
    obtain ⟨w14, e14, hM⟩ := bind_of hM
    by_cases c17 : w14 = 0
    · rw [if_pos c17] at hM
      exact fr_X12_of_b32   hM h0
    · rw [if_neg c17] at hM
      obtain ⟨w26, e26, hM⟩ := bind_of hM
      by_cases c29 : w26 = 0
      · rw [if_pos c29] at hM
        exact fr_X12_of_b32   hM h0
      · rw [if_neg c29] at hM
        by_cases c37 : x3 = 0
        · rw [if_pos c37] at hM
          obtain ⟨w42, e42, hM⟩ := bind_of hM
          exact fr_X12_of_b74   hM h0
        · rw [if_neg c37] at hM
          by_cases c50 : x3 = 1
          · rw [if_pos c50] at hM
            obtain ⟨w56, e56, hM⟩ := bind_of hM
            have h0 := fr_X12_insuredOf hs0 e56 h0
            exact fr_X12_of_b74   hM h0
          · rw [if_neg c50] at hM
            obtain ⟨w64, e64, hM⟩ := bind_of hM
            obtain ⟨w70, e70, hM⟩ := bind_of hM
            have h0 := fr_X12_insuredOf hs0 e70 h0
            exact fr_X12_of_b74   hM h0
/-! CoverDeskModel.owner(III)I -/
theorem dX12_owner_0 : decode cX12_owner 0 = .ok (.aload_n 0, 1) := by decide +kernel
theorem dX12_owner_1 : decode cX12_owner 1 = .ok (.iload_n 1, 1) := by decide +kernel
theorem dX12_owner_2 : decode cX12_owner 2 = .ok (.invokevirtual 362, 3) := by decide +kernel
theorem dX12_owner_5 : decode cX12_owner 5 = .ok (.ifCond .eq 33, 3) := by decide +kernel
theorem dX12_owner_8 : decode cX12_owner 8 = .ok (.iload_n 2, 1) := by decide +kernel
theorem dX12_owner_9 : decode cX12_owner 9 = .ok (.i2l, 1) := by decide +kernel
theorem dX12_owner_10 : decode cX12_owner 10 = .ok (.lconst 0, 1) := by decide +kernel
theorem dX12_owner_11 : decode cX12_owner 11 = .ok (.aload_n 0, 1) := by decide +kernel
theorem dX12_owner_12 : decode cX12_owner 12 = .ok (.getfield 29, 3) := by decide +kernel
theorem dX12_owner_15 : decode cX12_owner 15 = .ok (.iload_n 1, 1) := by decide +kernel
theorem dX12_owner_16 : decode cX12_owner 16 = .ok (.iaload, 1) := by decide +kernel
theorem dX12_owner_17 : decode cX12_owner 17 = .ok (.iconst 1, 1) := by decide +kernel
theorem dX12_owner_18 : decode cX12_owner 18 = .ok (.isub, 1) := by decide +kernel
theorem dX12_owner_19 : decode cX12_owner 19 = .ok (.i2l, 1) := by decide +kernel
theorem dX12_owner_20 : decode cX12_owner 20 = .ok (.invokestatic 125, 3) := by decide +kernel
theorem dX12_owner_23 : decode cX12_owner 23 = .ok (.ifCond .eq 15, 3) := by decide +kernel
theorem dX12_owner_26 : decode cX12_owner 26 = .ok (.iload_n 3, 1) := by decide +kernel
theorem dX12_owner_27 : decode cX12_owner 27 = .ok (.i2l, 1) := by decide +kernel
theorem dX12_owner_28 : decode cX12_owner 28 = .ok (.lconst 0, 1) := by decide +kernel
theorem dX12_owner_29 : decode cX12_owner 29 = .ok (.ldc2_w 442, 3) := by decide +kernel
theorem dX12_owner_32 : decode cX12_owner 32 = .ok (.invokestatic 125, 3) := by decide +kernel
theorem dX12_owner_35 : decode cX12_owner 35 = .ok (.ifCond .ne 5, 3) := by decide +kernel
theorem dX12_owner_38 : decode cX12_owner 38 = .ok (.iconst (-1), 1) := by decide +kernel
theorem dX12_owner_39 : decode cX12_owner 39 = .ok (.ireturn, 1) := by decide +kernel
theorem dX12_owner_40 : decode cX12_owner 40 = .ok (.iload_n 3, 1) := by decide +kernel
theorem dX12_owner_41 : decode cX12_owner 41 = .ok (.iconst 2, 1) := by decide +kernel
theorem dX12_owner_42 : decode cX12_owner 42 = .ok (.if_icmp .ne 13, 3) := by decide +kernel
theorem dX12_owner_45 : decode cX12_owner 45 = .ok (.aload_n 0, 1) := by decide +kernel
theorem dX12_owner_46 : decode cX12_owner 46 = .ok (.aload_n 0, 1) := by decide +kernel
theorem dX12_owner_47 : decode cX12_owner 47 = .ok (.getfield 56, 3) := by decide +kernel
theorem dX12_owner_50 : decode cX12_owner 50 = .ok (.iconst 0, 1) := by decide +kernel
theorem dX12_owner_51 : decode cX12_owner 51 = .ok (.iaload, 1) := by decide +kernel
theorem dX12_owner_52 : decode cX12_owner 52 = .ok (.invokevirtual 380, 3) := by decide +kernel
theorem dX12_owner_55 : decode cX12_owner 55 = .ok (.iload_n 3, 1) := by decide +kernel
theorem dX12_owner_56 : decode cX12_owner 56 = .ok (.ifCond .ne 16, 3) := by decide +kernel
theorem dX12_owner_59 : decode cX12_owner 59 = .ok (.aload_n 0, 1) := by decide +kernel
theorem dX12_owner_60 : decode cX12_owner 60 = .ok (.getfield 32, 3) := by decide +kernel
theorem dX12_owner_63 : decode cX12_owner 63 = .ok (.iconst 4, 1) := by decide +kernel
theorem dX12_owner_64 : decode cX12_owner 64 = .ok (.iload_n 1, 1) := by decide +kernel
theorem dX12_owner_65 : decode cX12_owner 65 = .ok (.imul, 1) := by decide +kernel
theorem dX12_owner_66 : decode cX12_owner 66 = .ok (.iload_n 2, 1) := by decide +kernel
theorem dX12_owner_67 : decode cX12_owner 67 = .ok (.iadd, 1) := by decide +kernel
theorem dX12_owner_68 : decode cX12_owner 68 = .ok (.iaload, 1) := by decide +kernel
theorem dX12_owner_69 : decode cX12_owner 69 = .ok (.goto 28, 3) := by decide +kernel
theorem dX12_owner_72 : decode cX12_owner 72 = .ok (.iload_n 3, 1) := by decide +kernel
theorem dX12_owner_73 : decode cX12_owner 73 = .ok (.iconst 1, 1) := by decide +kernel
theorem dX12_owner_74 : decode cX12_owner 74 = .ok (.if_icmp .ne 12, 3) := by decide +kernel
theorem dX12_owner_77 : decode cX12_owner 77 = .ok (.aload_n 0, 1) := by decide +kernel
theorem dX12_owner_78 : decode cX12_owner 78 = .ok (.iload_n 1, 1) := by decide +kernel
theorem dX12_owner_79 : decode cX12_owner 79 = .ok (.iload_n 2, 1) := by decide +kernel
theorem dX12_owner_80 : decode cX12_owner 80 = .ok (.invokevirtual 332, 3) := by decide +kernel
theorem dX12_owner_83 : decode cX12_owner 83 = .ok (.goto 14, 3) := by decide +kernel
theorem dX12_owner_86 : decode cX12_owner 86 = .ok (.aload_n 0, 1) := by decide +kernel
theorem dX12_owner_87 : decode cX12_owner 87 = .ok (.getfield 90, 3) := by decide +kernel
theorem dX12_owner_90 : decode cX12_owner 90 = .ok (.iconst 4, 1) := by decide +kernel
theorem dX12_owner_91 : decode cX12_owner 91 = .ok (.iload_n 1, 1) := by decide +kernel
theorem dX12_owner_92 : decode cX12_owner 92 = .ok (.imul, 1) := by decide +kernel
theorem dX12_owner_93 : decode cX12_owner 93 = .ok (.iload_n 2, 1) := by decide +kernel
theorem dX12_owner_94 : decode cX12_owner 94 = .ok (.iadd, 1) := by decide +kernel
theorem dX12_owner_95 : decode cX12_owner 95 = .ok (.laload, 1) := by decide +kernel
theorem dX12_owner_96 : decode cX12_owner 96 = .ok (.l2i, 1) := by decide +kernel
theorem dX12_owner_97 : decode cX12_owner 97 = .ok (.ireturn, 1) := by decide +kernel
def X12_owner_b38   (u : gM) : Option (Int32 × gM) :=
some ((-1), u)
def X12_owner_b97  (s0 : Int32) (u : gM) : Option (Int32 × gM) :=
some (s0, u)
def X12_owner_b55  (x1 : Int32) (x2 : Int32) (x3 : Int32) (u : gM) : Option (Int32 × gM) :=
(if x3 = 0 then ((aI skM u 8 ((4 * x1) + x2)).bind fun v68 => (X12_owner_b97 v68 u))
  else (if x3 = 1 then ((X12_shareOf u x1 x2).bind fun w80 => (X12_owner_b97 w80 u))
    else ((aJ skM u 24 ((4 * x1) + x2)).bind fun v95 => (X12_owner_b97 v95.toInt32 u))))
def X12_owner  (x1 : Int32) (x2 : Int32) (x3 : Int32) (u : gM) : Option (Int32 × gM) :=
((X12_isAccount u x1).bind fun w2 => (if w2 = 0 then (X12_owner_b38 u)
  else ((aI skM u 7 x1).bind fun v16 => ((X12_isIn u x2.toInt64 0 (v16 - 1).toInt64).bind fun w20 => (if w20 = 0 then (X12_owner_b38 u)
    else ((X12_isIn u x3.toInt64 0 2).bind fun w32 => (if w32 = 0 then (X12_owner_b38 u)
      else (if x3 = 2 then ((aI skM u 16 0).bind fun v51 => ((X12_insures v51 u).bind fun w52 => (X12_owner_b55 x1 x2 x3 w52)))
        else (X12_owner_b55 x1 x2 x3 u)))))))))
set_option maxRecDepth 20000 in
theorem v_X12_owner_b38 {κ : gK} {B : Nat} {u : gM} (X : gX κ B skM cX12_owner 4 RX12 (some .int) 7 178)    {w : (Int32 × gM)} (hM : X12_owner_b38 u = some w) : gV κ B skM 4 ((some (.int w.1)), w.2) 38 [none, none, none, none] [] u := by
  unfold X12_owner_b38 at hM
  refine g_iconst X (v := (-1)) dX12_owner_38 (by decide) ?_
  cases hM
  exact g_iret X dX12_owner_39
set_option maxRecDepth 20000 in
theorem v_X12_owner_b97 {κ : gK} {B : Nat} {u : gM} (X : gX κ B skM cX12_owner 4 RX12 (some .int) 7 178)   {s0 : Int32} {w : (Int32 × gM)} (hM : X12_owner_b97 s0 u = some w) : gV κ B skM 4 ((some (.int w.1)), w.2) 97 [none, none, none, none] [.int s0] u := by
  unfold X12_owner_b97 at hM
  cases hM
  exact g_iret X dX12_owner_97
set_option maxRecDepth 20000 in
theorem v_X12_owner_b55 {κ : gK} {B : Nat} {u : gM} (X : gX κ B skM cX12_owner 4 RX12 (some .int) 7 178)   {x1 : Int32} {x2 : Int32} {x3 : Int32} {w : (Int32 × gM)} (hM : X12_owner_b55 x1 x2 x3 u = some w) : gV κ B skM 4 ((some (.int w.1)), w.2) 55 [some (.ref (B + 0)), some (.int x1), some (.int x2), some (.int x3)] [] u := by
  unfold X12_owner_b55 at hM
  refine g_iload_n X dX12_owner_55 rfl ?_
  refine g_if_ne (tgt := 72) X dX12_owner_56 (by decide) (fun c56 => ?_) (fun c56 => ?_)
  · rw [if_neg c56] at hM
    refine g_iload_n X dX12_owner_72 rfl ?_
    refine g_iconst X (v := 1) dX12_owner_73 (by decide) ?_
    refine g_icmp_ne (tgt := 86) X dX12_owner_74 (by decide) (fun c74 => ?_) (fun c74 => ?_)
    · rw [if_neg c74] at hM
      refine g_aload_n X dX12_owner_86 rfl ?_
      refine g_getR X fX12_90 cM_0 rfl dX12_owner_87 ?_
      refine g_iconst X (v := 4) dX12_owner_90 (by decide) ?_
      refine g_iload_n X dX12_owner_91 rfl ?_
      refine g_imul X dX12_owner_92 ?_
      refine g_iload_n X dX12_owner_93 rfl ?_
      refine g_iadd X dX12_owner_94 ?_
      obtain ⟨v95, e95, hM⟩ := bind_of hM
      refine g_laload X e95 dX12_owner_95 ?_
      refine g_l2i X dX12_owner_96 ?_
      refine g_mk [false, false, false, false] [none, none, none, none] rfl ?_
      exact v_X12_owner_b97 X  hM
    · rw [if_pos c74] at hM
      refine g_aload_n X dX12_owner_77 rfl ?_
      refine g_iload_n X dX12_owner_78 rfl ?_
      refine g_iload_n X dX12_owner_79 rfl ?_
      obtain ⟨w80, e80, hM⟩ := bind_of hM
      refine g_callVi X (fun B adK => [.int x1, .int x2]) (s_X12_shareOf e80) cvX12_332 cM_0 rfl rfl (Nat.le_of_ble_eq_true rfl) ⟨by decide, by decide⟩ dX12_owner_80 ?_
      refine g_goto (tgt := 97) X dX12_owner_83 (by decide) ?_
      refine g_mk [false, false, false, false] [none, none, none, none] rfl ?_
      exact v_X12_owner_b97 X  hM
  · rw [if_pos c56] at hM
    refine g_aload_n X dX12_owner_59 rfl ?_
    refine g_getR X fX12_32 cM_0 rfl dX12_owner_60 ?_
    refine g_iconst X (v := 4) dX12_owner_63 (by decide) ?_
    refine g_iload_n X dX12_owner_64 rfl ?_
    refine g_imul X dX12_owner_65 ?_
    refine g_iload_n X dX12_owner_66 rfl ?_
    refine g_iadd X dX12_owner_67 ?_
    obtain ⟨v68, e68, hM⟩ := bind_of hM
    refine g_iaload X e68 dX12_owner_68 ?_
    refine g_goto (tgt := 97) X dX12_owner_69 (by decide) ?_
    refine g_mk [false, false, false, false] [none, none, none, none] rfl ?_
    exact v_X12_owner_b97 X  hM
set_option maxRecDepth 20000 in
theorem v_X12_owner {κ : gK} {B : Nat} {u : gM} (X : gX κ B skM cX12_owner 4 RX12 (some .int) 7 178)   {x1 : Int32} {x2 : Int32} {x3 : Int32} {w : (Int32 × gM)} (hM : X12_owner x1 x2 x3 u = some w) : gV κ B skM 4 ((some (.int w.1)), w.2) 0 [some (.ref (B + 0)), some (.int x1), some (.int x2), some (.int x3)] [] u := by
  unfold X12_owner at hM
  refine g_aload_n X dX12_owner_0 rfl ?_
  refine g_iload_n X dX12_owner_1 rfl ?_
  obtain ⟨w2, e2, hM⟩ := bind_of hM
  refine g_callVi X (fun B adK => [.int x1]) (s_X12_isAccount e2) cvX12_362 cM_0 rfl rfl (Nat.le_of_ble_eq_true rfl) ⟨by decide, by decide⟩ dX12_owner_2 ?_
  refine g_if_eq (tgt := 38) X dX12_owner_5 (by decide) (fun c5 => ?_) (fun c5 => ?_)
  · rw [if_pos c5] at hM
    refine g_mk [false, false, false, false] [none, none, none, none] rfl ?_
    exact v_X12_owner_b38 X  hM
  · rw [if_neg c5] at hM
    refine g_iload_n X dX12_owner_8 rfl ?_
    refine g_i2l X dX12_owner_9 ?_
    refine g_lconst (v := 0) X dX12_owner_10 (by decide) ?_
    refine g_aload_n X dX12_owner_11 rfl ?_
    refine g_getR X fX12_29 cM_0 rfl dX12_owner_12 ?_
    refine g_iload_n X dX12_owner_15 rfl ?_
    obtain ⟨v16, e16, hM⟩ := bind_of hM
    refine g_iaload X e16 dX12_owner_16 ?_
    refine g_iconst X (v := 1) dX12_owner_17 (by decide) ?_
    refine g_isub X dX12_owner_18 ?_
    refine g_i2l X dX12_owner_19 ?_
    obtain ⟨w20, e20, hM⟩ := bind_of hM
    refine g_callSi X (fun B adK => [.long x2.toInt64, .long 0, .long (v16 - 1).toInt64]) (s_X12_isIn e20) cvX12_125 rfl rfl (Nat.le_of_ble_eq_true rfl) ⟨by decide, by decide⟩ dX12_owner_20 ?_
    refine g_if_eq (tgt := 38) X dX12_owner_23 (by decide) (fun c23 => ?_) (fun c23 => ?_)
    · rw [if_pos c23] at hM
      refine g_mk [false, false, false, false] [none, none, none, none] rfl ?_
      exact v_X12_owner_b38 X  hM
    · rw [if_neg c23] at hM
      refine g_iload_n X dX12_owner_26 rfl ?_
      refine g_i2l X dX12_owner_27 ?_
      refine g_lconst (v := 0) X dX12_owner_28 (by decide) ?_
      refine g_ldc2 (v := 2) X m_49_9 dX12_owner_29 ?_
      obtain ⟨w32, e32, hM⟩ := bind_of hM
      refine g_callSi X (fun B adK => [.long x3.toInt64, .long 0, .long 2]) (s_X12_isIn e32) cvX12_125 rfl rfl (Nat.le_of_ble_eq_true rfl) ⟨by decide, by decide⟩ dX12_owner_32 ?_
      refine g_if_ne (tgt := 40) X dX12_owner_35 (by decide) (fun c35 => ?_) (fun c35 => ?_)
      · rw [if_neg c35] at hM
        refine g_iload_n X dX12_owner_40 rfl ?_
        refine g_iconst X (v := 2) dX12_owner_41 (by decide) ?_
        refine g_icmp_ne (tgt := 55) X dX12_owner_42 (by decide) (fun c42 => ?_) (fun c42 => ?_)
        · rw [if_neg c42] at hM
          refine g_mk [true, true, true, true] [some (.ref (B + 0)), some (.int x1), some (.int x2), some (.int x3)] rfl ?_
          exact v_X12_owner_b55 X  hM
        · rw [if_pos c42] at hM
          refine g_aload_n X dX12_owner_45 rfl ?_
          refine g_aload_n X dX12_owner_46 rfl ?_
          refine g_getR X fX12_56 cM_0 rfl dX12_owner_47 ?_
          refine g_iconst X (v := 0) dX12_owner_50 (by decide) ?_
          obtain ⟨v51, e51, hM⟩ := bind_of hM
          refine g_iaload X e51 dX12_owner_51 ?_
          obtain ⟨w52, e52, hM⟩ := bind_of hM
          refine g_callVv X (fun B adK => [.int v51]) (s_X12_insures e52) cvX12_380 cM_0 rfl rfl (Nat.le_of_ble_eq_true rfl) ⟨by decide, by decide⟩ dX12_owner_52 ?_
          refine g_mk [true, true, true, true] [some (.ref (B + 0)), some (.int x1), some (.int x2), some (.int x3)] rfl ?_
          exact v_X12_owner_b55 X  hM
      · rw [if_pos c35] at hM
        refine g_mk [false, false, false, false] [none, none, none, none] rfl ?_
        exact v_X12_owner_b38 X  hM
theorem s_X12_owner {x1 : Int32} {x2 : Int32} {x3 : Int32} {u : gM} {w : (Int32 × gM)} (hM : X12_owner x1 x2 x3 u = some w) : gMet skM yX12_owner cX12_owner 4 (some .int) 7 178 (fun B adK => [.ref (B + 0), .int x1, .int x2, .int x3]) u ((fun _ => some (.int w.1)), w.2) := by
  refine gMet.of (by decide) (fun _ _ => Nat.le_of_ble_eq_true rfl) (fun κ B X => ?_)
  have X : gX κ B skM cX12_owner 4 RX12 (some .int) 7 178 := X
  refine g_mk [true, true, true, true] [some (.ref (B + 0)), some (.int x1), some (.int x2), some (.int x3)] rfl ?_
  exact v_X12_owner X  hM
theorem fr_X12_owner_b38 {S : Nat → Prop} {u0 u : gM}     {w : (Int32 × gM)} (hM : X12_owner_b38 u = some w) (h0 : off S u0 u) : off S u0 w.2 := by
  unfold X12_owner_b38 at hM
  cases hM
  exact h0
theorem fr_X12_owner_b97 {S : Nat → Prop} {u0 u : gM} {s0 : Int32}    {w : (Int32 × gM)} (hM : X12_owner_b97 s0 u = some w) (h0 : off S u0 u) : off S u0 w.2 := by
  unfold X12_owner_b97 at hM
  cases hM
  exact h0
theorem fr_X12_owner_b55 {S : Nat → Prop} {u0 u : gM} {x1 : Int32} {x2 : Int32} {x3 : Int32}    {w : (Int32 × gM)} (hM : X12_owner_b55 x1 x2 x3 u = some w) (h0 : off S u0 u) : off S u0 w.2 := by
  unfold X12_owner_b55 at hM
  by_cases c56 : x3 = 0
  · rw [if_pos c56] at hM
    obtain ⟨v68, e68, hM⟩ := bind_of hM
    exact fr_X12_owner_b97   hM h0
  · rw [if_neg c56] at hM
    by_cases c74 : x3 = 1
    · rw [if_pos c74] at hM
      obtain ⟨w80, e80, hM⟩ := bind_of hM
      exact fr_X12_owner_b97   hM h0
    · rw [if_neg c74] at hM
      obtain ⟨v95, e95, hM⟩ := bind_of hM
      exact fr_X12_owner_b97   hM h0
theorem fr_X12_owner {S : Nat → Prop} {u0 u : gM} {x1 : Int32} {x2 : Int32} {x3 : Int32} (hs0 : S 20) (hs1 : S 21) (hs2 : S 22) (hs3 : S 23) (hs4 : S 24)   {w : (Int32 × gM)} (hM : X12_owner x1 x2 x3 u = some w) (h0 : off S u0 u) : off S u0 w.2 := by
  unfold X12_owner at hM
  obtain ⟨w2, e2, hM⟩ := bind_of hM
  by_cases c5 : w2 = 0
  · rw [if_pos c5] at hM
    exact fr_X12_owner_b38   hM h0
  · rw [if_neg c5] at hM
    obtain ⟨v16, e16, hM⟩ := bind_of hM
    obtain ⟨w20, e20, hM⟩ := bind_of hM
    by_cases c23 : w20 = 0
    · rw [if_pos c23] at hM
      exact fr_X12_owner_b38   hM h0
    · rw [if_neg c23] at hM
      obtain ⟨w32, e32, hM⟩ := bind_of hM
      by_cases c35 : w32 = 0
      · rw [if_pos c35] at hM
        exact fr_X12_owner_b38   hM h0
      · rw [if_neg c35] at hM
        by_cases c42 : x3 = 2
        · rw [if_pos c42] at hM
          obtain ⟨v51, e51, hM⟩ := bind_of hM
          obtain ⟨w52, e52, hM⟩ := bind_of hM
          have h0 := fr_X12_insures hs0 hs1 hs2 hs3 hs4 e52 h0
          exact fr_X12_owner_b55   hM h0
        · rw [if_neg c42] at hM
          exact fr_X12_owner_b55   hM h0
/-! CoverDeskModel.pay(II)Z -/
theorem dX12_pay_0 : decode cX12_pay 0 = .ok (.aload_n 0, 1) := by decide +kernel
theorem dX12_pay_1 : decode cX12_pay 1 = .ok (.invokevirtual 390, 3) := by decide +kernel
theorem dX12_pay_4 : decode cX12_pay 4 = .ok (.aload_n 0, 1) := by decide +kernel
theorem dX12_pay_5 : decode cX12_pay 5 = .ok (.aload_n 0, 1) := by decide +kernel
theorem dX12_pay_6 : decode cX12_pay 6 = .ok (.iload_n 1, 1) := by decide +kernel
theorem dX12_pay_7 : decode cX12_pay 7 = .ok (.iload_n 2, 1) := by decide +kernel
theorem dX12_pay_8 : decode cX12_pay 8 = .ok (.invokevirtual 410, 3) := by decide +kernel
theorem dX12_pay_11 : decode cX12_pay 11 = .ok (.invokevirtual 397, 3) := by decide +kernel
theorem dX12_pay_14 : decode cX12_pay 14 = .ok (.ireturn, 1) := by decide +kernel
def X12_pay  (x1 : Int32) (x2 : Int32) (u : gM) : Option (Int32 × gM) :=
((X12_laysAside u).bind fun w1 => ((X12_pays x1 x2 w1).bind fun w8 => ((X12_isDone w8.1 w8.2).bind fun w11 => ((bI w11.1).bind fun v14 => some (v14, w11.2)))))
set_option maxRecDepth 20000 in
theorem v_X12_pay {κ : gK} {B : Nat} {u : gM} (X : gX κ B skM cX12_pay 3 RX12 (some .boolean) 3 68)   {x1 : Int32} {x2 : Int32} {w : (Int32 × gM)} (hM : X12_pay x1 x2 u = some w) : gV κ B skM 3 ((some (.int w.1)), w.2) 0 [some (.ref (B + 0)), some (.int x1), some (.int x2)] [] u := by
  unfold X12_pay at hM
  refine g_aload_n X dX12_pay_0 rfl ?_
  obtain ⟨w1, e1, hM⟩ := bind_of hM
  refine g_callVv X (fun B adK => []) (s_X12_laysAside e1) cvX12_390 cM_0 rfl rfl (Nat.le_of_ble_eq_true rfl) ⟨by decide, by decide⟩ dX12_pay_1 ?_
  refine g_aload_n X dX12_pay_4 rfl ?_
  refine g_aload_n X dX12_pay_5 rfl ?_
  refine g_iload_n X dX12_pay_6 rfl ?_
  refine g_iload_n X dX12_pay_7 rfl ?_
  obtain ⟨w8, e8, hM⟩ := bind_of hM
  refine g_callVi X (fun B adK => [.int x1, .int x2]) (s_X12_pays e8) cvX12_410 cM_0 rfl rfl (Nat.le_of_ble_eq_true rfl) ⟨by decide, by decide⟩ dX12_pay_8 ?_
  obtain ⟨w11, e11, hM⟩ := bind_of hM
  refine g_callVi X (fun B adK => [.int w8.1]) (s_X12_isDone e11) cvX12_397 cM_0 rfl rfl (Nat.le_of_ble_eq_true rfl) ⟨by decide, by decide⟩ dX12_pay_11 ?_
  obtain ⟨v14, e14, hM⟩ := bind_of hM
  obtain ⟨hv, rfl⟩ := bI_of e14
  cases hM
  exact g_zret X hv dX12_pay_14
theorem s_X12_pay {x1 : Int32} {x2 : Int32} {u : gM} {w : (Int32 × gM)} (hM : X12_pay x1 x2 u = some w) : gMet skM yX12_pay cX12_pay 3 (some .boolean) 3 68 (fun B adK => [.ref (B + 0), .int x1, .int x2]) u ((fun _ => some (.int w.1)), w.2) := by
  refine gMet.of (by decide) (fun _ _ => Nat.le_of_ble_eq_true rfl) (fun κ B X => ?_)
  have X : gX κ B skM cX12_pay 3 RX12 (some .boolean) 3 68 := X
  refine g_mk [true, true, true] [some (.ref (B + 0)), some (.int x1), some (.int x2)] rfl ?_
  exact v_X12_pay X  hM
theorem fr_X12_pay {S : Nat → Prop} {u0 u : gM} {x1 : Int32} {x2 : Int32} (hs0 : S 0) (hs1 : S 16) (hs2 : S 17) (hs3 : S 18)   {w : (Int32 × gM)} (hM : X12_pay x1 x2 u = some w) (h0 : off S u0 u) : off S u0 w.2 := by
  unfold X12_pay at hM
  obtain ⟨w1, e1, hM⟩ := bind_of hM
  have h0 := fr_X12_laysAside hs3 e1 h0
  obtain ⟨w8, e8, hM⟩ := bind_of hM
  have h0 := fr_X12_pays hs1 e8 h0
  obtain ⟨w11, e11, hM⟩ := bind_of hM
  have h0 := fr_X12_isDone hs0 hs2 e11 h0
  obtain ⟨v14, e14, hM⟩ := bind_of hM
  cases hM
  exact h0
/-! CoverDeskModel.put(II)Z -/
theorem dX12_put_0 : decode cX12_put 0 = .ok (.aload_n 0, 1) := by decide +kernel
theorem dX12_put_1 : decode cX12_put 1 = .ok (.invokevirtual 390, 3) := by decide +kernel
theorem dX12_put_4 : decode cX12_put 4 = .ok (.aload_n 0, 1) := by decide +kernel
theorem dX12_put_5 : decode cX12_put 5 = .ok (.aload_n 0, 1) := by decide +kernel
theorem dX12_put_6 : decode cX12_put 6 = .ok (.iload_n 1, 1) := by decide +kernel
theorem dX12_put_7 : decode cX12_put 7 = .ok (.iload_n 2, 1) := by decide +kernel
theorem dX12_put_8 : decode cX12_put 8 = .ok (.invokevirtual 393, 3) := by decide +kernel
theorem dX12_put_11 : decode cX12_put 11 = .ok (.invokevirtual 397, 3) := by decide +kernel
theorem dX12_put_14 : decode cX12_put 14 = .ok (.ireturn, 1) := by decide +kernel
def X12_put  (x1 : Int32) (x2 : Int32) (u : gM) : Option (Int32 × gM) :=
((X12_laysAside u).bind fun w1 => ((X12_puts x1 x2 w1).bind fun w8 => ((X12_isDone w8.1 w8.2).bind fun w11 => ((bI w11.1).bind fun v14 => some (v14, w11.2)))))
set_option maxRecDepth 20000 in
theorem v_X12_put {κ : gK} {B : Nat} {u : gM} (X : gX κ B skM cX12_put 3 RX12 (some .boolean) 3 68)   {x1 : Int32} {x2 : Int32} {w : (Int32 × gM)} (hM : X12_put x1 x2 u = some w) : gV κ B skM 3 ((some (.int w.1)), w.2) 0 [some (.ref (B + 0)), some (.int x1), some (.int x2)] [] u := by
  unfold X12_put at hM
  refine g_aload_n X dX12_put_0 rfl ?_
  obtain ⟨w1, e1, hM⟩ := bind_of hM
  refine g_callVv X (fun B adK => []) (s_X12_laysAside e1) cvX12_390 cM_0 rfl rfl (Nat.le_of_ble_eq_true rfl) ⟨by decide, by decide⟩ dX12_put_1 ?_
  refine g_aload_n X dX12_put_4 rfl ?_
  refine g_aload_n X dX12_put_5 rfl ?_
  refine g_iload_n X dX12_put_6 rfl ?_
  refine g_iload_n X dX12_put_7 rfl ?_
  obtain ⟨w8, e8, hM⟩ := bind_of hM
  refine g_callVi X (fun B adK => [.int x1, .int x2]) (s_X12_puts e8) cvX12_393 cM_0 rfl rfl (Nat.le_of_ble_eq_true rfl) ⟨by decide, by decide⟩ dX12_put_8 ?_
  obtain ⟨w11, e11, hM⟩ := bind_of hM
  refine g_callVi X (fun B adK => [.int w8.1]) (s_X12_isDone e11) cvX12_397 cM_0 rfl rfl (Nat.le_of_ble_eq_true rfl) ⟨by decide, by decide⟩ dX12_put_11 ?_
  obtain ⟨v14, e14, hM⟩ := bind_of hM
  obtain ⟨hv, rfl⟩ := bI_of e14
  cases hM
  exact g_zret X hv dX12_put_14
theorem s_X12_put {x1 : Int32} {x2 : Int32} {u : gM} {w : (Int32 × gM)} (hM : X12_put x1 x2 u = some w) : gMet skM yX12_put cX12_put 3 (some .boolean) 3 68 (fun B adK => [.ref (B + 0), .int x1, .int x2]) u ((fun _ => some (.int w.1)), w.2) := by
  refine gMet.of (by decide) (fun _ _ => Nat.le_of_ble_eq_true rfl) (fun κ B X => ?_)
  have X : gX κ B skM cX12_put 3 RX12 (some .boolean) 3 68 := X
  refine g_mk [true, true, true] [some (.ref (B + 0)), some (.int x1), some (.int x2)] rfl ?_
  exact v_X12_put X  hM
theorem fr_X12_put {S : Nat → Prop} {u0 u : gM} {x1 : Int32} {x2 : Int32} (hs0 : S 0) (hs1 : S 16) (hs2 : S 17) (hs3 : S 18)   {w : (Int32 × gM)} (hM : X12_put x1 x2 u = some w) (h0 : off S u0 u) : off S u0 w.2 := by
  unfold X12_put at hM
  obtain ⟨w1, e1, hM⟩ := bind_of hM
  have h0 := fr_X12_laysAside hs3 e1 h0
  obtain ⟨w8, e8, hM⟩ := bind_of hM
  have h0 := fr_X12_puts hs1 e8 h0
  obtain ⟨w11, e11, hM⟩ := bind_of hM
  have h0 := fr_X12_isDone hs0 hs2 e11 h0
  obtain ⟨v14, e14, hM⟩ := bind_of hM
  cases hM
  exact h0
/-! CoverDeskModel.rank(I)I -/
theorem dX12_rank_0 : decode cX12_rank 0 = .ok (.aload_n 0, 1) := by decide +kernel
theorem dX12_rank_1 : decode cX12_rank 1 = .ok (.iload_n 1, 1) := by decide +kernel
theorem dX12_rank_2 : decode cX12_rank 2 = .ok (.invokevirtual 446, 3) := by decide +kernel
theorem dX12_rank_5 : decode cX12_rank 5 = .ok (.ifCond .ne 5, 3) := by decide +kernel
theorem dX12_rank_8 : decode cX12_rank 8 = .ok (.iconst (-1), 1) := by decide +kernel
theorem dX12_rank_9 : decode cX12_rank 9 = .ok (.ireturn, 1) := by decide +kernel
theorem dX12_rank_10 : decode cX12_rank 10 = .ok (.iconst 0, 1) := by decide +kernel
theorem dX12_rank_11 : decode cX12_rank 11 = .ok (.istore_n 2, 1) := by decide +kernel
theorem dX12_rank_12 : decode cX12_rank 12 = .ok (.iload_n 2, 1) := by decide +kernel
theorem dX12_rank_13 : decode cX12_rank 13 = .ok (.aload_n 0, 1) := by decide +kernel
theorem dX12_rank_14 : decode cX12_rank 14 = .ok (.getfield 7, 3) := by decide +kernel
theorem dX12_rank_17 : decode cX12_rank 17 = .ok (.iconst 0, 1) := by decide +kernel
theorem dX12_rank_18 : decode cX12_rank 18 = .ok (.iaload, 1) := by decide +kernel
theorem dX12_rank_19 : decode cX12_rank 19 = .ok (.if_icmp .ge 32, 3) := by decide +kernel
theorem dX12_rank_22 : decode cX12_rank 22 = .ok (.aload_n 0, 1) := by decide +kernel
theorem dX12_rank_23 : decode cX12_rank 23 = .ok (.getfield 108, 3) := by decide +kernel
theorem dX12_rank_26 : decode cX12_rank 26 = .ok (.iload_n 2, 1) := by decide +kernel
theorem dX12_rank_27 : decode cX12_rank 27 = .ok (.aload_n 0, 1) := by decide +kernel
theorem dX12_rank_28 : decode cX12_rank 28 = .ok (.iload_n 2, 1) := by decide +kernel
theorem dX12_rank_29 : decode cX12_rank 29 = .ok (.invokevirtual 457, 3) := by decide +kernel
theorem dX12_rank_32 : decode cX12_rank 32 = .ok (.aload_n 0, 1) := by decide +kernel
theorem dX12_rank_33 : decode cX12_rank 33 = .ok (.iload_n 2, 1) := by decide +kernel
theorem dX12_rank_34 : decode cX12_rank 34 = .ok (.aload_n 0, 1) := by decide +kernel
theorem dX12_rank_35 : decode cX12_rank 35 = .ok (.getfield 56, 3) := by decide +kernel
theorem dX12_rank_38 : decode cX12_rank 38 = .ok (.iconst 0, 1) := by decide +kernel
theorem dX12_rank_39 : decode cX12_rank 39 = .ok (.iaload, 1) := by decide +kernel
theorem dX12_rank_40 : decode cX12_rank 40 = .ok (.invokevirtual 358, 3) := by decide +kernel
theorem dX12_rank_43 : decode cX12_rank 43 = .ok (.lsub, 1) := by decide +kernel
theorem dX12_rank_44 : decode cX12_rank 44 = .ok (.lastore, 1) := by decide +kernel
theorem dX12_rank_45 : decode cX12_rank 45 = .ok (.iinc 2 1, 3) := by decide +kernel
theorem dX12_rank_48 : decode cX12_rank 48 = .ok (.goto (-36), 3) := by decide +kernel
theorem dX12_rank_51 : decode cX12_rank 51 = .ok (.iconst 0, 1) := by decide +kernel
theorem dX12_rank_52 : decode cX12_rank 52 = .ok (.istore_n 2, 1) := by decide +kernel
theorem dX12_rank_53 : decode cX12_rank 53 = .ok (.iload_n 2, 1) := by decide +kernel
theorem dX12_rank_54 : decode cX12_rank 54 = .ok (.aload_n 0, 1) := by decide +kernel
theorem dX12_rank_55 : decode cX12_rank 55 = .ok (.getfield 7, 3) := by decide +kernel
theorem dX12_rank_58 : decode cX12_rank 58 = .ok (.iconst 0, 1) := by decide +kernel
theorem dX12_rank_59 : decode cX12_rank 59 = .ok (.iaload, 1) := by decide +kernel
theorem dX12_rank_60 : decode cX12_rank 60 = .ok (.if_icmp .ge 89, 3) := by decide +kernel
theorem dX12_rank_63 : decode cX12_rank 63 = .ok (.iconst 0, 1) := by decide +kernel
theorem dX12_rank_64 : decode cX12_rank 64 = .ok (.istore_n 3, 1) := by decide +kernel
theorem dX12_rank_65 : decode cX12_rank 65 = .ok (.iconst 0, 1) := by decide +kernel
theorem dX12_rank_66 : decode cX12_rank 66 = .ok (.istore 4, 2) := by decide +kernel
theorem dX12_rank_68 : decode cX12_rank 68 = .ok (.iload 4, 2) := by decide +kernel
theorem dX12_rank_70 : decode cX12_rank 70 = .ok (.aload_n 0, 1) := by decide +kernel
theorem dX12_rank_71 : decode cX12_rank 71 = .ok (.getfield 7, 3) := by decide +kernel
theorem dX12_rank_74 : decode cX12_rank 74 = .ok (.iconst 0, 1) := by decide +kernel
theorem dX12_rank_75 : decode cX12_rank 75 = .ok (.iaload, 1) := by decide +kernel
theorem dX12_rank_76 : decode cX12_rank 76 = .ok (.if_icmp .ge 60, 3) := by decide +kernel
theorem dX12_rank_79 : decode cX12_rank 79 = .ok (.iload_n 3, 1) := by decide +kernel
theorem dX12_rank_80 : decode cX12_rank 80 = .ok (.aload_n 0, 1) := by decide +kernel
theorem dX12_rank_81 : decode cX12_rank 81 = .ok (.getfield 108, 3) := by decide +kernel
theorem dX12_rank_84 : decode cX12_rank 84 = .ok (.iload 4, 2) := by decide +kernel
theorem dX12_rank_86 : decode cX12_rank 86 = .ok (.laload, 1) := by decide +kernel
theorem dX12_rank_87 : decode cX12_rank 87 = .ok (.aload_n 0, 1) := by decide +kernel
theorem dX12_rank_88 : decode cX12_rank 88 = .ok (.getfield 108, 3) := by decide +kernel
theorem dX12_rank_91 : decode cX12_rank 91 = .ok (.iload_n 2, 1) := by decide +kernel
theorem dX12_rank_92 : decode cX12_rank 92 = .ok (.laload, 1) := by decide +kernel
theorem dX12_rank_93 : decode cX12_rank 93 = .ok (.lcmp, 1) := by decide +kernel
theorem dX12_rank_94 : decode cX12_rank 94 = .ok (.ifCond .gt 26, 3) := by decide +kernel
theorem dX12_rank_97 : decode cX12_rank 97 = .ok (.aload_n 0, 1) := by decide +kernel
theorem dX12_rank_98 : decode cX12_rank 98 = .ok (.getfield 108, 3) := by decide +kernel
theorem dX12_rank_101 : decode cX12_rank 101 = .ok (.iload 4, 2) := by decide +kernel
theorem dX12_rank_103 : decode cX12_rank 103 = .ok (.laload, 1) := by decide +kernel
theorem dX12_rank_104 : decode cX12_rank 104 = .ok (.aload_n 0, 1) := by decide +kernel
theorem dX12_rank_105 : decode cX12_rank 105 = .ok (.getfield 108, 3) := by decide +kernel
theorem dX12_rank_108 : decode cX12_rank 108 = .ok (.iload_n 2, 1) := by decide +kernel
theorem dX12_rank_109 : decode cX12_rank 109 = .ok (.laload, 1) := by decide +kernel
theorem dX12_rank_110 : decode cX12_rank 110 = .ok (.lcmp, 1) := by decide +kernel
theorem dX12_rank_111 : decode cX12_rank 111 = .ok (.ifCond .ne 13, 3) := by decide +kernel
theorem dX12_rank_114 : decode cX12_rank 114 = .ok (.iload 4, 2) := by decide +kernel
theorem dX12_rank_116 : decode cX12_rank 116 = .ok (.iload_n 2, 1) := by decide +kernel
theorem dX12_rank_117 : decode cX12_rank 117 = .ok (.if_icmp .ge 7, 3) := by decide +kernel
theorem dX12_rank_120 : decode cX12_rank 120 = .ok (.iconst 1, 1) := by decide +kernel
theorem dX12_rank_121 : decode cX12_rank 121 = .ok (.goto 4, 3) := by decide +kernel
theorem dX12_rank_124 : decode cX12_rank 124 = .ok (.iconst 0, 1) := by decide +kernel
theorem dX12_rank_125 : decode cX12_rank 125 = .ok (.invokestatic 312, 3) := by decide +kernel
theorem dX12_rank_128 : decode cX12_rank 128 = .ok (.iadd, 1) := by decide +kernel
theorem dX12_rank_129 : decode cX12_rank 129 = .ok (.istore_n 3, 1) := by decide +kernel
theorem dX12_rank_130 : decode cX12_rank 130 = .ok (.iinc 4 1, 3) := by decide +kernel
theorem dX12_rank_133 : decode cX12_rank 133 = .ok (.goto (-65), 3) := by decide +kernel
theorem dX12_rank_136 : decode cX12_rank 136 = .ok (.iload_n 3, 1) := by decide +kernel
theorem dX12_rank_137 : decode cX12_rank 137 = .ok (.iload_n 1, 1) := by decide +kernel
theorem dX12_rank_138 : decode cX12_rank 138 = .ok (.if_icmp .ne 5, 3) := by decide +kernel
theorem dX12_rank_141 : decode cX12_rank 141 = .ok (.iload_n 2, 1) := by decide +kernel
theorem dX12_rank_142 : decode cX12_rank 142 = .ok (.ireturn, 1) := by decide +kernel
theorem dX12_rank_143 : decode cX12_rank 143 = .ok (.iinc 2 1, 3) := by decide +kernel
theorem dX12_rank_146 : decode cX12_rank 146 = .ok (.goto (-93), 3) := by decide +kernel
theorem dX12_rank_149 : decode cX12_rank 149 = .ok (.iconst (-1), 1) := by decide +kernel
theorem dX12_rank_150 : decode cX12_rank 150 = .ok (.ireturn, 1) := by decide +kernel
def X12_rank_b125 (k53 : Int32 → Int32 → gM → Option (Int32 × gM)) (k68 : Int32 → Int32 → Int32 → Int32 → gM → Option (Int32 × gM)) (x1 : Int32) (x2 : Int32) (x4 : Int32) (s0 : Int32) (s1 : Int32) (u : gM) : Option (Int32 × gM) :=
((X12_one u s1).bind fun w125 => (k68 x1 x2 (s0 + w125) (x4 + 1) u))
def X12_rank_b120 (k53 : Int32 → Int32 → gM → Option (Int32 × gM)) (k68 : Int32 → Int32 → Int32 → Int32 → gM → Option (Int32 × gM)) (x1 : Int32) (x2 : Int32) (x4 : Int32) (s0 : Int32) (u : gM) : Option (Int32 × gM) :=
(X12_rank_b125 k53 k68 x1 x2 x4 s0 1 u)
def X12_rank_b124 (k53 : Int32 → Int32 → gM → Option (Int32 × gM)) (k68 : Int32 → Int32 → Int32 → Int32 → gM → Option (Int32 × gM)) (x1 : Int32) (x2 : Int32) (x4 : Int32) (s0 : Int32) (u : gM) : Option (Int32 × gM) :=
(X12_rank_b125 k53 k68 x1 x2 x4 s0 0 u)
def X12_rank_b68 (k53 : Int32 → Int32 → gM → Option (Int32 × gM)) (k68 : Int32 → Int32 → Int32 → Int32 → gM → Option (Int32 × gM)) (x1 : Int32) (x2 : Int32) (x3 : Int32) (x4 : Int32) (u : gM) : Option (Int32 × gM) :=
((aI skM u 1 0).bind fun v75 => (if v75 ≤ x4 then (if x3 = x1 then some (x2, u)
    else (k53 x1 (x2 + 1) u))
  else ((aJ skM u 30 x4).bind fun v86 => ((aJ skM u 30 x2).bind fun v92 => (if 0 < (lg_cmp v86 v92) then (X12_rank_b120 k53 k68 x1 x2 x4 x3 u)
    else ((aJ skM u 30 x4).bind fun v103 => ((aJ skM u 30 x2).bind fun v109 => (if (lg_cmp v103 v109) = 0 then (if x2 ≤ x4 then (X12_rank_b124 k53 k68 x1 x2 x4 x3 u)
        else (X12_rank_b120 k53 k68 x1 x2 x4 x3 u))
      else (X12_rank_b124 k53 k68 x1 x2 x4 x3 u)))))))))
def X12_rank_l68 (k53 : Int32 → Int32 → gM → Option (Int32 × gM)) : Nat → Int32 → Int32 → Int32 → Int32 → gM → Option (Int32 × gM)
  | 0, _, _, _, _, _ => none
  | n + 1, x1, x2, x3, x4, u => X12_rank_b68 k53 (X12_rank_l68 k53 n) x1 x2 x3 x4 u
def X12_rank_b53 (k53 : Int32 → Int32 → gM → Option (Int32 × gM)) (x1 : Int32) (x2 : Int32) (u : gM) : Option (Int32 × gM) :=
((aI skM u 1 0).bind fun v59 => (if v59 ≤ x2 then some ((-1), u)
  else (X12_rank_l68 k53 fz x1 x2 0 0 u)))
def X12_rank_l53  : Nat → Int32 → Int32 → gM → Option (Int32 × gM)
  | 0, _, _, _ => none
  | n + 1, x1, x2, u => X12_rank_b53  (X12_rank_l53  n) x1 x2 u
def X12_rank_b12 (k12 : Int32 → Int32 → gM → Option (Int32 × gM)) (x1 : Int32) (x2 : Int32) (u : gM) : Option (Int32 × gM) :=
((aI skM u 1 0).bind fun v18 => (if v18 ≤ x2 then (X12_rank_l53 fz x1 0 u)
  else ((X12_sharesOf u x2).bind fun w29 => ((aI skM u 16 0).bind fun v39 => ((X12_insuredOf x2 v39 u).bind fun w40 => ((sJ skM w40.2 30 x2 (w29 - w40.1)).bind fun u44 => (k12 x1 (x2 + 1) u44)))))))
def X12_rank_l12  : Nat → Int32 → Int32 → gM → Option (Int32 × gM)
  | 0, _, _, _ => none
  | n + 1, x1, x2, u => X12_rank_b12  (X12_rank_l12  n) x1 x2 u
def X12_rank  (x1 : Int32) (u : gM) : Option (Int32 × gM) :=
((X12_isPerson u x1).bind fun w2 => (if w2 = 0 then some ((-1), u)
  else (X12_rank_l12 fz x1 0 u)))
set_option maxRecDepth 20000 in
theorem v_X12_rank_b125 {κ : gK} {B : Nat} {u : gM} (X : gX κ B skM cX12_rank 5 RX12 (some .int) 6 154) {k53 : Int32 → Int32 → gM → Option (Int32 × gM)} {k68 : Int32 → Int32 → Int32 → Int32 → gM → Option (Int32 × gM)} (ih53 : ∀ (x1 : Int32) (x2 : Int32) (u : gM) (w : (Int32 × gM)), k53 x1 x2 u = some w → gV κ B skM 5 ((some (.int w.1)), w.2) 53 [some (.ref (B + 0)), some (.int x1), some (.int x2), none, none] [] u) (ih68 : ∀ (x1 : Int32) (x2 : Int32) (x3 : Int32) (x4 : Int32) (u : gM) (w : (Int32 × gM)), k68 x1 x2 x3 x4 u = some w → gV κ B skM 5 ((some (.int w.1)), w.2) 68 [some (.ref (B + 0)), some (.int x1), some (.int x2), some (.int x3), some (.int x4)] [] u) {x1 : Int32} {x2 : Int32} {x4 : Int32} {s0 : Int32} {s1 : Int32} {w : (Int32 × gM)} (hM : X12_rank_b125 k53 k68 x1 x2 x4 s0 s1 u = some w) : gV κ B skM 5 ((some (.int w.1)), w.2) 125 [some (.ref (B + 0)), some (.int x1), some (.int x2), none, some (.int x4)] [.int s1, .int s0] u := by
  unfold X12_rank_b125 at hM
  obtain ⟨w125, e125, hM⟩ := bind_of hM
  refine g_callSi X (fun B adK => [.int s1]) (s_X12_one e125) cvX12_312 rfl rfl (Nat.le_of_ble_eq_true rfl) ⟨by decide, by decide⟩ dX12_rank_125 ?_
  refine g_iadd X dX12_rank_128 ?_
  refine g_istore_n X [some (.ref (B + 0)), some (.int x1), some (.int x2), some (.int (s0 + w125)), some (.int x4)] dX12_rank_129 (by decide) rfl ?_
  refine g_iinc (d := 1) X [some (.ref (B + 0)), some (.int x1), some (.int x2), some (.int (s0 + w125)), some (.int (x4 + 1))] dX12_rank_130 (by decide) rfl (by decide) rfl ?_
  refine g_goto (tgt := 68) X dX12_rank_133 (by decide) ?_
  refine g_mk [true, true, true, true, true] [some (.ref (B + 0)), some (.int x1), some (.int x2), some (.int (s0 + w125)), some (.int (x4 + 1))] rfl ?_
  exact ih68 x1 x2 (s0 + w125) (x4 + 1) u _ hM
set_option maxRecDepth 20000 in
theorem v_X12_rank_b120 {κ : gK} {B : Nat} {u : gM} (X : gX κ B skM cX12_rank 5 RX12 (some .int) 6 154) {k53 : Int32 → Int32 → gM → Option (Int32 × gM)} {k68 : Int32 → Int32 → Int32 → Int32 → gM → Option (Int32 × gM)} (ih53 : ∀ (x1 : Int32) (x2 : Int32) (u : gM) (w : (Int32 × gM)), k53 x1 x2 u = some w → gV κ B skM 5 ((some (.int w.1)), w.2) 53 [some (.ref (B + 0)), some (.int x1), some (.int x2), none, none] [] u) (ih68 : ∀ (x1 : Int32) (x2 : Int32) (x3 : Int32) (x4 : Int32) (u : gM) (w : (Int32 × gM)), k68 x1 x2 x3 x4 u = some w → gV κ B skM 5 ((some (.int w.1)), w.2) 68 [some (.ref (B + 0)), some (.int x1), some (.int x2), some (.int x3), some (.int x4)] [] u) {x1 : Int32} {x2 : Int32} {x4 : Int32} {s0 : Int32} {w : (Int32 × gM)} (hM : X12_rank_b120 k53 k68 x1 x2 x4 s0 u = some w) : gV κ B skM 5 ((some (.int w.1)), w.2) 120 [some (.ref (B + 0)), some (.int x1), some (.int x2), none, some (.int x4)] [.int s0] u := by
  unfold X12_rank_b120 at hM
  refine g_iconst X (v := 1) dX12_rank_120 (by decide) ?_
  refine g_goto (tgt := 125) X dX12_rank_121 (by decide) ?_
  refine g_mk [true, true, true, false, true] [some (.ref (B + 0)), some (.int x1), some (.int x2), none, some (.int x4)] rfl ?_
  exact v_X12_rank_b125 X ih53 ih68 hM
set_option maxRecDepth 20000 in
theorem v_X12_rank_b124 {κ : gK} {B : Nat} {u : gM} (X : gX κ B skM cX12_rank 5 RX12 (some .int) 6 154) {k53 : Int32 → Int32 → gM → Option (Int32 × gM)} {k68 : Int32 → Int32 → Int32 → Int32 → gM → Option (Int32 × gM)} (ih53 : ∀ (x1 : Int32) (x2 : Int32) (u : gM) (w : (Int32 × gM)), k53 x1 x2 u = some w → gV κ B skM 5 ((some (.int w.1)), w.2) 53 [some (.ref (B + 0)), some (.int x1), some (.int x2), none, none] [] u) (ih68 : ∀ (x1 : Int32) (x2 : Int32) (x3 : Int32) (x4 : Int32) (u : gM) (w : (Int32 × gM)), k68 x1 x2 x3 x4 u = some w → gV κ B skM 5 ((some (.int w.1)), w.2) 68 [some (.ref (B + 0)), some (.int x1), some (.int x2), some (.int x3), some (.int x4)] [] u) {x1 : Int32} {x2 : Int32} {x4 : Int32} {s0 : Int32} {w : (Int32 × gM)} (hM : X12_rank_b124 k53 k68 x1 x2 x4 s0 u = some w) : gV κ B skM 5 ((some (.int w.1)), w.2) 124 [some (.ref (B + 0)), some (.int x1), some (.int x2), none, some (.int x4)] [.int s0] u := by
  unfold X12_rank_b124 at hM
  refine g_iconst X (v := 0) dX12_rank_124 (by decide) ?_
  refine g_mk [true, true, true, false, true] [some (.ref (B + 0)), some (.int x1), some (.int x2), none, some (.int x4)] rfl ?_
  exact v_X12_rank_b125 X ih53 ih68 hM
set_option maxRecDepth 20000 in
theorem v_X12_rank_b68 {κ : gK} {B : Nat} {u : gM} (X : gX κ B skM cX12_rank 5 RX12 (some .int) 6 154) {k53 : Int32 → Int32 → gM → Option (Int32 × gM)} {k68 : Int32 → Int32 → Int32 → Int32 → gM → Option (Int32 × gM)} (ih53 : ∀ (x1 : Int32) (x2 : Int32) (u : gM) (w : (Int32 × gM)), k53 x1 x2 u = some w → gV κ B skM 5 ((some (.int w.1)), w.2) 53 [some (.ref (B + 0)), some (.int x1), some (.int x2), none, none] [] u) (ih68 : ∀ (x1 : Int32) (x2 : Int32) (x3 : Int32) (x4 : Int32) (u : gM) (w : (Int32 × gM)), k68 x1 x2 x3 x4 u = some w → gV κ B skM 5 ((some (.int w.1)), w.2) 68 [some (.ref (B + 0)), some (.int x1), some (.int x2), some (.int x3), some (.int x4)] [] u) {x1 : Int32} {x2 : Int32} {x3 : Int32} {x4 : Int32} {w : (Int32 × gM)} (hM : X12_rank_b68 k53 k68 x1 x2 x3 x4 u = some w) : gV κ B skM 5 ((some (.int w.1)), w.2) 68 [some (.ref (B + 0)), some (.int x1), some (.int x2), some (.int x3), some (.int x4)] [] u := by
  unfold X12_rank_b68 at hM
  refine g_iload X dX12_rank_68 rfl ?_
  refine g_aload_n X dX12_rank_70 rfl ?_
  refine g_getR X fX12_7 cM_0 rfl dX12_rank_71 ?_
  refine g_iconst X (v := 0) dX12_rank_74 (by decide) ?_
  obtain ⟨v75, e75, hM⟩ := bind_of hM
  refine g_iaload X e75 dX12_rank_75 ?_
  refine g_icmp_ge (tgt := 136) X dX12_rank_76 (by decide) (fun c76 => ?_) (fun c76 => ?_)
  · rw [if_pos c76] at hM
    refine g_iload_n X dX12_rank_136 rfl ?_
    refine g_iload_n X dX12_rank_137 rfl ?_
    refine g_icmp_ne (tgt := 143) X dX12_rank_138 (by decide) (fun c138 => ?_) (fun c138 => ?_)
    · rw [if_neg c138] at hM
      refine g_iinc (d := 1) X [some (.ref (B + 0)), some (.int x1), some (.int (x2 + 1)), some (.int x3), some (.int x4)] dX12_rank_143 (by decide) rfl (by decide) rfl ?_
      refine g_goto (tgt := 53) X dX12_rank_146 (by decide) ?_
      refine g_mk [true, true, true, false, false] [some (.ref (B + 0)), some (.int x1), some (.int (x2 + 1)), none, none] rfl ?_
      exact ih53 x1 (x2 + 1) u _ hM
    · rw [if_pos c138] at hM
      refine g_iload_n X dX12_rank_141 rfl ?_
      cases hM
      exact g_iret X dX12_rank_142
  · rw [if_neg c76] at hM
    refine g_iload_n X dX12_rank_79 rfl ?_
    refine g_aload_n X dX12_rank_80 rfl ?_
    refine g_getR X fX12_108 cM_0 rfl dX12_rank_81 ?_
    refine g_iload X dX12_rank_84 rfl ?_
    obtain ⟨v86, e86, hM⟩ := bind_of hM
    refine g_laload X e86 dX12_rank_86 ?_
    refine g_aload_n X dX12_rank_87 rfl ?_
    refine g_getR X fX12_108 cM_0 rfl dX12_rank_88 ?_
    refine g_iload_n X dX12_rank_91 rfl ?_
    obtain ⟨v92, e92, hM⟩ := bind_of hM
    refine g_laload X e92 dX12_rank_92 ?_
    refine g_lcmp X dX12_rank_93 ?_
    refine g_if_gt (tgt := 120) X dX12_rank_94 (by decide) (fun c94 => ?_) (fun c94 => ?_)
    · rw [if_pos c94] at hM
      refine g_mk [true, true, true, false, true] [some (.ref (B + 0)), some (.int x1), some (.int x2), none, some (.int x4)] rfl ?_
      exact v_X12_rank_b120 X ih53 ih68 hM
    · rw [if_neg c94] at hM
      refine g_aload_n X dX12_rank_97 rfl ?_
      refine g_getR X fX12_108 cM_0 rfl dX12_rank_98 ?_
      refine g_iload X dX12_rank_101 rfl ?_
      obtain ⟨v103, e103, hM⟩ := bind_of hM
      refine g_laload X e103 dX12_rank_103 ?_
      refine g_aload_n X dX12_rank_104 rfl ?_
      refine g_getR X fX12_108 cM_0 rfl dX12_rank_105 ?_
      refine g_iload_n X dX12_rank_108 rfl ?_
      obtain ⟨v109, e109, hM⟩ := bind_of hM
      refine g_laload X e109 dX12_rank_109 ?_
      refine g_lcmp X dX12_rank_110 ?_
      refine g_if_ne (tgt := 124) X dX12_rank_111 (by decide) (fun c111 => ?_) (fun c111 => ?_)
      · rw [if_neg c111] at hM
        refine g_mk [true, true, true, false, true] [some (.ref (B + 0)), some (.int x1), some (.int x2), none, some (.int x4)] rfl ?_
        exact v_X12_rank_b124 X ih53 ih68 hM
      · rw [if_pos c111] at hM
        refine g_iload X dX12_rank_114 rfl ?_
        refine g_iload_n X dX12_rank_116 rfl ?_
        refine g_icmp_ge (tgt := 124) X dX12_rank_117 (by decide) (fun c117 => ?_) (fun c117 => ?_)
        · rw [if_pos c117] at hM
          refine g_mk [true, true, true, false, true] [some (.ref (B + 0)), some (.int x1), some (.int x2), none, some (.int x4)] rfl ?_
          exact v_X12_rank_b124 X ih53 ih68 hM
        · rw [if_neg c117] at hM
          refine g_mk [true, true, true, false, true] [some (.ref (B + 0)), some (.int x1), some (.int x2), none, some (.int x4)] rfl ?_
          exact v_X12_rank_b120 X ih53 ih68 hM
theorem v_X12_rank_l68 {κ : gK} {B : Nat} (X : gX κ B skM cX12_rank 5 RX12 (some .int) 6 154) {k53 : Int32 → Int32 → gM → Option (Int32 × gM)} (ih53 : ∀ (x1 : Int32) (x2 : Int32) (u : gM) (w : (Int32 × gM)), k53 x1 x2 u = some w → gV κ B skM 5 ((some (.int w.1)), w.2) 53 [some (.ref (B + 0)), some (.int x1), some (.int x2), none, none] [] u) : ∀ (n : Nat) {x1 : Int32} {x2 : Int32} {x3 : Int32} {x4 : Int32} {u : gM} {w : (Int32 × gM)} (hM : X12_rank_l68 k53 n x1 x2 x3 x4 u = some w), gV κ B skM 5 ((some (.int w.1)), w.2) 68 [some (.ref (B + 0)), some (.int x1), some (.int x2), some (.int x3), some (.int x4)] [] u := by
  intro n
  induction n with
  | zero => intro x1 x2 x3 x4 u w hM; exact nomatch (show (none : Option (Int32 × gM)) = some w from hM)
  | succ n ihn => intro x1 x2 x3 x4 u w hM; exact v_X12_rank_b68 X ih53 (fun x1 x2 x3 x4 u w h => ihn h) hM
set_option maxRecDepth 20000 in
theorem v_X12_rank_b53 {κ : gK} {B : Nat} {u : gM} (X : gX κ B skM cX12_rank 5 RX12 (some .int) 6 154) {k53 : Int32 → Int32 → gM → Option (Int32 × gM)} (ih53 : ∀ (x1 : Int32) (x2 : Int32) (u : gM) (w : (Int32 × gM)), k53 x1 x2 u = some w → gV κ B skM 5 ((some (.int w.1)), w.2) 53 [some (.ref (B + 0)), some (.int x1), some (.int x2), none, none] [] u) {x1 : Int32} {x2 : Int32} {w : (Int32 × gM)} (hM : X12_rank_b53 k53 x1 x2 u = some w) : gV κ B skM 5 ((some (.int w.1)), w.2) 53 [some (.ref (B + 0)), some (.int x1), some (.int x2), none, none] [] u := by
  unfold X12_rank_b53 at hM
  refine g_iload_n X dX12_rank_53 rfl ?_
  refine g_aload_n X dX12_rank_54 rfl ?_
  refine g_getR X fX12_7 cM_0 rfl dX12_rank_55 ?_
  refine g_iconst X (v := 0) dX12_rank_58 (by decide) ?_
  obtain ⟨v59, e59, hM⟩ := bind_of hM
  refine g_iaload X e59 dX12_rank_59 ?_
  refine g_icmp_ge (tgt := 149) X dX12_rank_60 (by decide) (fun c60 => ?_) (fun c60 => ?_)
  · rw [if_pos c60] at hM
    refine g_iconst X (v := (-1)) dX12_rank_149 (by decide) ?_
    cases hM
    exact g_iret X dX12_rank_150
  · rw [if_neg c60] at hM
    refine g_iconst X (v := 0) dX12_rank_63 (by decide) ?_
    refine g_istore_n X [some (.ref (B + 0)), some (.int x1), some (.int x2), some (.int 0), none] dX12_rank_64 (by decide) rfl ?_
    refine g_iconst X (v := 0) dX12_rank_65 (by decide) ?_
    refine g_istore X [some (.ref (B + 0)), some (.int x1), some (.int x2), some (.int 0), some (.int 0)] dX12_rank_66 (by decide) rfl ?_
    refine g_mk [true, true, true, true, true] [some (.ref (B + 0)), some (.int x1), some (.int x2), some (.int 0), some (.int 0)] rfl ?_
    exact v_X12_rank_l68 X ih53 fz hM
theorem v_X12_rank_l53 {κ : gK} {B : Nat} (X : gX κ B skM cX12_rank 5 RX12 (some .int) 6 154)   : ∀ (n : Nat) {x1 : Int32} {x2 : Int32} {u : gM} {w : (Int32 × gM)} (hM : X12_rank_l53  n x1 x2 u = some w), gV κ B skM 5 ((some (.int w.1)), w.2) 53 [some (.ref (B + 0)), some (.int x1), some (.int x2), none, none] [] u := by
  intro n
  induction n with
  | zero => intro x1 x2 u w hM; exact nomatch (show (none : Option (Int32 × gM)) = some w from hM)
  | succ n ihn => intro x1 x2 u w hM; exact v_X12_rank_b53 X  (fun x1 x2 u w h => ihn h) hM
set_option maxRecDepth 20000 in
theorem v_X12_rank_b12 {κ : gK} {B : Nat} {u : gM} (X : gX κ B skM cX12_rank 5 RX12 (some .int) 6 154) {k12 : Int32 → Int32 → gM → Option (Int32 × gM)} (ih12 : ∀ (x1 : Int32) (x2 : Int32) (u : gM) (w : (Int32 × gM)), k12 x1 x2 u = some w → gV κ B skM 5 ((some (.int w.1)), w.2) 12 [some (.ref (B + 0)), some (.int x1), some (.int x2), none, none] [] u) {x1 : Int32} {x2 : Int32} {w : (Int32 × gM)} (hM : X12_rank_b12 k12 x1 x2 u = some w) : gV κ B skM 5 ((some (.int w.1)), w.2) 12 [some (.ref (B + 0)), some (.int x1), some (.int x2), none, none] [] u := by
  unfold X12_rank_b12 at hM
  refine g_iload_n X dX12_rank_12 rfl ?_
  refine g_aload_n X dX12_rank_13 rfl ?_
  refine g_getR X fX12_7 cM_0 rfl dX12_rank_14 ?_
  refine g_iconst X (v := 0) dX12_rank_17 (by decide) ?_
  obtain ⟨v18, e18, hM⟩ := bind_of hM
  refine g_iaload X e18 dX12_rank_18 ?_
  refine g_icmp_ge (tgt := 51) X dX12_rank_19 (by decide) (fun c19 => ?_) (fun c19 => ?_)
  · rw [if_pos c19] at hM
    refine g_iconst X (v := 0) dX12_rank_51 (by decide) ?_
    refine g_istore_n X [some (.ref (B + 0)), some (.int x1), some (.int 0), none, none] dX12_rank_52 (by decide) rfl ?_
    refine g_mk [true, true, true, false, false] [some (.ref (B + 0)), some (.int x1), some (.int 0), none, none] rfl ?_
    exact v_X12_rank_l53 X  fz hM
  · rw [if_neg c19] at hM
    refine g_aload_n X dX12_rank_22 rfl ?_
    refine g_getR X fX12_108 cM_0 rfl dX12_rank_23 ?_
    refine g_iload_n X dX12_rank_26 rfl ?_
    refine g_aload_n X dX12_rank_27 rfl ?_
    refine g_iload_n X dX12_rank_28 rfl ?_
    obtain ⟨w29, e29, hM⟩ := bind_of hM
    refine g_callVl X (fun B adK => [.int x2]) (s_X12_sharesOf e29) cvX12_457 cM_0 rfl rfl (Nat.le_of_ble_eq_true rfl) ⟨by decide, by decide⟩ dX12_rank_29 ?_
    refine g_aload_n X dX12_rank_32 rfl ?_
    refine g_iload_n X dX12_rank_33 rfl ?_
    refine g_aload_n X dX12_rank_34 rfl ?_
    refine g_getR X fX12_56 cM_0 rfl dX12_rank_35 ?_
    refine g_iconst X (v := 0) dX12_rank_38 (by decide) ?_
    obtain ⟨v39, e39, hM⟩ := bind_of hM
    refine g_iaload X e39 dX12_rank_39 ?_
    obtain ⟨w40, e40, hM⟩ := bind_of hM
    refine g_callVl X (fun B adK => [.int x2, .int v39]) (s_X12_insuredOf e40) cvX12_358 cM_0 rfl rfl (Nat.le_of_ble_eq_true rfl) ⟨by decide, by decide⟩ dX12_rank_40 ?_
    refine g_lsub X dX12_rank_43 ?_
    obtain ⟨u44, e44, hM⟩ := bind_of hM
    refine g_lastore X e44 dX12_rank_44 ?_
    refine g_iinc (d := 1) X [some (.ref (B + 0)), some (.int x1), some (.int (x2 + 1)), none, none] dX12_rank_45 (by decide) rfl (by decide) rfl ?_
    refine g_goto (tgt := 12) X dX12_rank_48 (by decide) ?_
    refine g_mk [true, true, true, false, false] [some (.ref (B + 0)), some (.int x1), some (.int (x2 + 1)), none, none] rfl ?_
    exact ih12 x1 (x2 + 1) u44 _ hM
theorem v_X12_rank_l12 {κ : gK} {B : Nat} (X : gX κ B skM cX12_rank 5 RX12 (some .int) 6 154)   : ∀ (n : Nat) {x1 : Int32} {x2 : Int32} {u : gM} {w : (Int32 × gM)} (hM : X12_rank_l12  n x1 x2 u = some w), gV κ B skM 5 ((some (.int w.1)), w.2) 12 [some (.ref (B + 0)), some (.int x1), some (.int x2), none, none] [] u := by
  intro n
  induction n with
  | zero => intro x1 x2 u w hM; exact nomatch (show (none : Option (Int32 × gM)) = some w from hM)
  | succ n ihn => intro x1 x2 u w hM; exact v_X12_rank_b12 X  (fun x1 x2 u w h => ihn h) hM
set_option maxRecDepth 20000 in
theorem v_X12_rank {κ : gK} {B : Nat} {u : gM} (X : gX κ B skM cX12_rank 5 RX12 (some .int) 6 154)   {x1 : Int32} {w : (Int32 × gM)} (hM : X12_rank x1 u = some w) : gV κ B skM 5 ((some (.int w.1)), w.2) 0 [some (.ref (B + 0)), some (.int x1), none, none, none] [] u := by
  unfold X12_rank at hM
  refine g_aload_n X dX12_rank_0 rfl ?_
  refine g_iload_n X dX12_rank_1 rfl ?_
  obtain ⟨w2, e2, hM⟩ := bind_of hM
  refine g_callVi X (fun B adK => [.int x1]) (s_X12_isPerson e2) cvX12_446 cM_0 rfl rfl (Nat.le_of_ble_eq_true rfl) ⟨by decide, by decide⟩ dX12_rank_2 ?_
  refine g_if_ne (tgt := 10) X dX12_rank_5 (by decide) (fun c5 => ?_) (fun c5 => ?_)
  · rw [if_neg c5] at hM
    refine g_iconst X (v := 0) dX12_rank_10 (by decide) ?_
    refine g_istore_n X [some (.ref (B + 0)), some (.int x1), some (.int 0), none, none] dX12_rank_11 (by decide) rfl ?_
    refine g_mk [true, true, true, false, false] [some (.ref (B + 0)), some (.int x1), some (.int 0), none, none] rfl ?_
    exact v_X12_rank_l12 X  fz hM
  · rw [if_pos c5] at hM
    refine g_iconst X (v := (-1)) dX12_rank_8 (by decide) ?_
    cases hM
    exact g_iret X dX12_rank_9
theorem s_X12_rank {x1 : Int32} {u : gM} {w : (Int32 × gM)} (hM : X12_rank x1 u = some w) : gMet skM yX12_rank cX12_rank 5 (some .int) 6 154 (fun B adK => [.ref (B + 0), .int x1]) u ((fun _ => some (.int w.1)), w.2) := by
  refine gMet.of (by decide) (fun _ _ => Nat.le_of_ble_eq_true rfl) (fun κ B X => ?_)
  have X : gX κ B skM cX12_rank 5 RX12 (some .int) 6 154 := X
  refine g_mk [true, true, false, false, false] [some (.ref (B + 0)), some (.int x1), none, none, none] rfl ?_
  exact v_X12_rank X  hM
theorem fr_X12_rank_b125 {S : Nat → Prop} {u0 u : gM} {x1 : Int32} {x2 : Int32} {x4 : Int32} {s0 : Int32} {s1 : Int32}  {k53 : Int32 → Int32 → gM → Option (Int32 × gM)} {k68 : Int32 → Int32 → Int32 → Int32 → gM → Option (Int32 × gM)} (ik53 : ∀ (x1 : Int32) (x2 : Int32) (u : gM) (w : (Int32 × gM)), off S u0 u → k53 x1 x2 u = some w → off S u0 w.2) (ik68 : ∀ (x1 : Int32) (x2 : Int32) (x3 : Int32) (x4 : Int32) (u : gM) (w : (Int32 × gM)), off S u0 u → k68 x1 x2 x3 x4 u = some w → off S u0 w.2) {w : (Int32 × gM)} (hM : X12_rank_b125 k53 k68 x1 x2 x4 s0 s1 u = some w) (h0 : off S u0 u) : off S u0 w.2 := by
  unfold X12_rank_b125 at hM
  obtain ⟨w125, e125, hM⟩ := bind_of hM
  exact ik68 _ _ _ _ _ _  h0 hM
theorem fr_X12_rank_b120 {S : Nat → Prop} {u0 u : gM} {x1 : Int32} {x2 : Int32} {x4 : Int32} {s0 : Int32}  {k53 : Int32 → Int32 → gM → Option (Int32 × gM)} {k68 : Int32 → Int32 → Int32 → Int32 → gM → Option (Int32 × gM)} (ik53 : ∀ (x1 : Int32) (x2 : Int32) (u : gM) (w : (Int32 × gM)), off S u0 u → k53 x1 x2 u = some w → off S u0 w.2) (ik68 : ∀ (x1 : Int32) (x2 : Int32) (x3 : Int32) (x4 : Int32) (u : gM) (w : (Int32 × gM)), off S u0 u → k68 x1 x2 x3 x4 u = some w → off S u0 w.2) {w : (Int32 × gM)} (hM : X12_rank_b120 k53 k68 x1 x2 x4 s0 u = some w) (h0 : off S u0 u) : off S u0 w.2 := by
  unfold X12_rank_b120 at hM
  exact fr_X12_rank_b125  ik53 ik68 hM h0
theorem fr_X12_rank_b124 {S : Nat → Prop} {u0 u : gM} {x1 : Int32} {x2 : Int32} {x4 : Int32} {s0 : Int32}  {k53 : Int32 → Int32 → gM → Option (Int32 × gM)} {k68 : Int32 → Int32 → Int32 → Int32 → gM → Option (Int32 × gM)} (ik53 : ∀ (x1 : Int32) (x2 : Int32) (u : gM) (w : (Int32 × gM)), off S u0 u → k53 x1 x2 u = some w → off S u0 w.2) (ik68 : ∀ (x1 : Int32) (x2 : Int32) (x3 : Int32) (x4 : Int32) (u : gM) (w : (Int32 × gM)), off S u0 u → k68 x1 x2 x3 x4 u = some w → off S u0 w.2) {w : (Int32 × gM)} (hM : X12_rank_b124 k53 k68 x1 x2 x4 s0 u = some w) (h0 : off S u0 u) : off S u0 w.2 := by
  unfold X12_rank_b124 at hM
  exact fr_X12_rank_b125  ik53 ik68 hM h0
theorem fr_X12_rank_b68 {S : Nat → Prop} {u0 u : gM} {x1 : Int32} {x2 : Int32} {x3 : Int32} {x4 : Int32}  {k53 : Int32 → Int32 → gM → Option (Int32 × gM)} {k68 : Int32 → Int32 → Int32 → Int32 → gM → Option (Int32 × gM)} (ik53 : ∀ (x1 : Int32) (x2 : Int32) (u : gM) (w : (Int32 × gM)), off S u0 u → k53 x1 x2 u = some w → off S u0 w.2) (ik68 : ∀ (x1 : Int32) (x2 : Int32) (x3 : Int32) (x4 : Int32) (u : gM) (w : (Int32 × gM)), off S u0 u → k68 x1 x2 x3 x4 u = some w → off S u0 w.2) {w : (Int32 × gM)} (hM : X12_rank_b68 k53 k68 x1 x2 x3 x4 u = some w) (h0 : off S u0 u) : off S u0 w.2 := by
  unfold X12_rank_b68 at hM
  obtain ⟨v75, e75, hM⟩ := bind_of hM
  by_cases c76 : v75 ≤ x4
  · rw [if_pos c76] at hM
    by_cases c138 : x3 = x1
    · rw [if_pos c138] at hM
      cases hM
      exact h0
    · rw [if_neg c138] at hM
      exact ik53 _ _ _ _  h0 hM
  · rw [if_neg c76] at hM
    obtain ⟨v86, e86, hM⟩ := bind_of hM
    obtain ⟨v92, e92, hM⟩ := bind_of hM
    by_cases c94 : 0 < (lg_cmp v86 v92)
    · rw [if_pos c94] at hM
      exact fr_X12_rank_b120  ik53 ik68 hM h0
    · rw [if_neg c94] at hM
      obtain ⟨v103, e103, hM⟩ := bind_of hM
      obtain ⟨v109, e109, hM⟩ := bind_of hM
      by_cases c111 : (lg_cmp v103 v109) = 0
      · rw [if_pos c111] at hM
        by_cases c117 : x2 ≤ x4
        · rw [if_pos c117] at hM
          exact fr_X12_rank_b124  ik53 ik68 hM h0
        · rw [if_neg c117] at hM
          exact fr_X12_rank_b120  ik53 ik68 hM h0
      · rw [if_neg c111] at hM
        exact fr_X12_rank_b124  ik53 ik68 hM h0
theorem fr_X12_rank_l68 {S : Nat → Prop} {u0 : gM} {k53 : Int32 → Int32 → gM → Option (Int32 × gM)} (ik53 : ∀ (x1 : Int32) (x2 : Int32) (u : gM) (w : (Int32 × gM)), off S u0 u → k53 x1 x2 u = some w → off S u0 w.2) : ∀ (n : Nat) {x1 : Int32} {x2 : Int32} {x3 : Int32} {x4 : Int32}  {u : gM} {w : (Int32 × gM)} (h0 : off S u0 u) (hM : X12_rank_l68 k53 n x1 x2 x3 x4 u = some w), off S u0 w.2 := by
  intro n
  induction n with
  | zero => intro x1 x2 x3 x4 u w h0 hM; exact nomatch (show (none : Option (Int32 × gM)) = some w from hM)
  | succ n ihn => intro x1 x2 x3 x4 u w h0 hM; exact fr_X12_rank_b68  ik53 (fun x1 x2 x3 x4 _ _ h0 h => ihn  h0 h) hM h0
theorem fr_X12_rank_b53 {S : Nat → Prop} {u0 u : gM} {x1 : Int32} {x2 : Int32}  {k53 : Int32 → Int32 → gM → Option (Int32 × gM)} (ik53 : ∀ (x1 : Int32) (x2 : Int32) (u : gM) (w : (Int32 × gM)), off S u0 u → k53 x1 x2 u = some w → off S u0 w.2) {w : (Int32 × gM)} (hM : X12_rank_b53 k53 x1 x2 u = some w) (h0 : off S u0 u) : off S u0 w.2 := by
  unfold X12_rank_b53 at hM
  obtain ⟨v59, e59, hM⟩ := bind_of hM
  by_cases c60 : v59 ≤ x2
  · rw [if_pos c60] at hM
    cases hM
    exact h0
  · rw [if_neg c60] at hM
    exact fr_X12_rank_l68 ik53 fz  h0 hM
theorem fr_X12_rank_l53 {S : Nat → Prop} {u0 : gM}   : ∀ (n : Nat) {x1 : Int32} {x2 : Int32}  {u : gM} {w : (Int32 × gM)} (h0 : off S u0 u) (hM : X12_rank_l53  n x1 x2 u = some w), off S u0 w.2 := by
  intro n
  induction n with
  | zero => intro x1 x2 u w h0 hM; exact nomatch (show (none : Option (Int32 × gM)) = some w from hM)
  | succ n ihn => intro x1 x2 u w h0 hM; exact fr_X12_rank_b53   (fun x1 x2 _ _ h0 h => ihn  h0 h) hM h0
theorem fr_X12_rank_b12 {S : Nat → Prop} {u0 u : gM} {x1 : Int32} {x2 : Int32} (hs0 : S 20) (hs1 : S 30) {k12 : Int32 → Int32 → gM → Option (Int32 × gM)} (ik12 : ∀ (x1 : Int32) (x2 : Int32) (u : gM) (w : (Int32 × gM)), S 20 → S 30 → off S u0 u → k12 x1 x2 u = some w → off S u0 w.2) {w : (Int32 × gM)} (hM : X12_rank_b12 k12 x1 x2 u = some w) (h0 : off S u0 u) : off S u0 w.2 := by
  unfold X12_rank_b12 at hM
  obtain ⟨v18, e18, hM⟩ := bind_of hM
  by_cases c19 : v18 ≤ x2
  · rw [if_pos c19] at hM
    exact fr_X12_rank_l53  fz  h0 hM
  · rw [if_neg c19] at hM
    obtain ⟨w29, e29, hM⟩ := bind_of hM
    obtain ⟨v39, e39, hM⟩ := bind_of hM
    obtain ⟨w40, e40, hM⟩ := bind_of hM
    have h0 := fr_X12_insuredOf hs0 e40 h0
    obtain ⟨u44, e44, hM⟩ := bind_of hM
    have h0 := off_sJ hs1 e44 h0
    exact ik12 _ _ _ _ hs0 hs1 h0 hM
theorem fr_X12_rank_l12 {S : Nat → Prop} {u0 : gM}   : ∀ (n : Nat) {x1 : Int32} {x2 : Int32} (hs0 : S 20) (hs1 : S 30) {u : gM} {w : (Int32 × gM)} (h0 : off S u0 u) (hM : X12_rank_l12  n x1 x2 u = some w), off S u0 w.2 := by
  intro n
  induction n with
  | zero => intro x1 x2 hs0 hs1 u w h0 hM; exact nomatch (show (none : Option (Int32 × gM)) = some w from hM)
  | succ n ihn => intro x1 x2 hs0 hs1 u w h0 hM; exact fr_X12_rank_b12 hs0 hs1  (fun x1 x2 _ _ hs0 hs1 h0 h => ihn hs0 hs1 h0 h) hM h0
theorem fr_X12_rank {S : Nat → Prop} {u0 u : gM} {x1 : Int32} (hs0 : S 20) (hs1 : S 30)   {w : (Int32 × gM)} (hM : X12_rank x1 u = some w) (h0 : off S u0 u) : off S u0 w.2 := by
  unfold X12_rank at hM
  obtain ⟨w2, e2, hM⟩ := bind_of hM
  by_cases c5 : w2 = 0
  · rw [if_pos c5] at hM
    cases hM
    exact h0
  · rw [if_neg c5] at hM
    exact fr_X12_rank_l12  fz hs0 hs1 h0 hM
/-! CoverDeskModel.sums(I)J -/
theorem dX12_sums_0 : decode cX12_sums 0 = .ok (.lconst 0, 1) := by decide +kernel
theorem dX12_sums_1 : decode cX12_sums 1 = .ok (.lstore_n 2, 1) := by decide +kernel
theorem dX12_sums_2 : decode cX12_sums 2 = .ok (.iconst 0, 1) := by decide +kernel
theorem dX12_sums_3 : decode cX12_sums 3 = .ok (.istore 4, 2) := by decide +kernel
theorem dX12_sums_5 : decode cX12_sums 5 = .ok (.iload 4, 2) := by decide +kernel
theorem dX12_sums_7 : decode cX12_sums 7 = .ok (.bipush 96, 2) := by decide +kernel
theorem dX12_sums_9 : decode cX12_sums 9 = .ok (.if_icmp .ge 26, 3) := by decide +kernel
theorem dX12_sums_12 : decode cX12_sums 12 = .ok (.lload_n 2, 1) := by decide +kernel
theorem dX12_sums_13 : decode cX12_sums 13 = .ok (.iconst 0, 1) := by decide +kernel
theorem dX12_sums_14 : decode cX12_sums 14 = .ok (.aload_n 0, 1) := by decide +kernel
theorem dX12_sums_15 : decode cX12_sums 15 = .ok (.getfield 56, 3) := by decide +kernel
theorem dX12_sums_18 : decode cX12_sums 18 = .ok (.iload_n 1, 1) := by decide +kernel
theorem dX12_sums_19 : decode cX12_sums 19 = .ok (.iload 4, 2) := by decide +kernel
theorem dX12_sums_21 : decode cX12_sums 21 = .ok (.iadd, 1) := by decide +kernel
theorem dX12_sums_22 : decode cX12_sums 22 = .ok (.iaload, 1) := by decide +kernel
theorem dX12_sums_23 : decode cX12_sums 23 = .ok (.invokestatic 303, 3) := by decide +kernel
theorem dX12_sums_26 : decode cX12_sums 26 = .ok (.i2l, 1) := by decide +kernel
theorem dX12_sums_27 : decode cX12_sums 27 = .ok (.ladd, 1) := by decide +kernel
theorem dX12_sums_28 : decode cX12_sums 28 = .ok (.lstore_n 2, 1) := by decide +kernel
theorem dX12_sums_29 : decode cX12_sums 29 = .ok (.iinc 4 1, 3) := by decide +kernel
theorem dX12_sums_32 : decode cX12_sums 32 = .ok (.goto (-27), 3) := by decide +kernel
theorem dX12_sums_35 : decode cX12_sums 35 = .ok (.lload_n 2, 1) := by decide +kernel
theorem dX12_sums_36 : decode cX12_sums 36 = .ok (.lreturn, 1) := by decide +kernel
def X12_sums_b5 (u : gM) (k5 : Int32 → Int64 → Int32 → Option Int64) (x1 : Int32) (x2 : Int64) (x4 : Int32) : Option Int64 :=
(if 96 ≤ x4 then some x2
  else ((aI skM u 16 (x1 + x4)).bind fun v22 => (k5 x1 (x2 + (mxI 0 v22).toInt64) (x4 + 1))))
def X12_sums_l5 (u : gM)  : Nat → Int32 → Int64 → Int32 → Option Int64
  | 0, _, _, _ => none
  | n + 1, x1, x2, x4 => X12_sums_b5 u  (X12_sums_l5 u  n) x1 x2 x4
def X12_sums (u : gM)  (x1 : Int32) : Option Int64 :=
(X12_sums_l5 u fz x1 0 0)
set_option maxRecDepth 20000 in
theorem v_X12_sums_b5 {κ : gK} {B : Nat} {u : gM} (X : gX κ B skM cX12_sums 5 RX12 (some .long) 1 26) {k5 : Int32 → Int64 → Int32 → Option Int64} (ih5 : ∀ (x1 : Int32) (x2 : Int64) (x4 : Int32) (w : Int64), k5 x1 x2 x4 = some w → gV κ B skM 5 ((some (.long w)), u) 5 [some (.ref (B + 0)), some (.int x1), some (.long x2), none, some (.int x4)] [] u) {x1 : Int32} {x2 : Int64} {x4 : Int32} {w : Int64} (hM : X12_sums_b5 u k5 x1 x2 x4 = some w) : gV κ B skM 5 ((some (.long w)), u) 5 [some (.ref (B + 0)), some (.int x1), some (.long x2), none, some (.int x4)] [] u := by
  unfold X12_sums_b5 at hM
  refine g_iload X dX12_sums_5 rfl ?_
  refine g_bipush X (v := 96) dX12_sums_7 (by decide) ?_
  refine g_icmp_ge (tgt := 35) X dX12_sums_9 (by decide) (fun c9 => ?_) (fun c9 => ?_)
  · rw [if_pos c9] at hM
    refine g_lload_n X dX12_sums_35 rfl ?_
    cases hM
    exact g_lret X dX12_sums_36
  · rw [if_neg c9] at hM
    refine g_lload_n X dX12_sums_12 rfl ?_
    refine g_iconst X (v := 0) dX12_sums_13 (by decide) ?_
    refine g_aload_n X dX12_sums_14 rfl ?_
    refine g_getR X fX12_56 cM_0 rfl dX12_sums_15 ?_
    refine g_iload_n X dX12_sums_18 rfl ?_
    refine g_iload X dX12_sums_19 rfl ?_
    refine g_iadd X dX12_sums_21 ?_
    obtain ⟨v22, e22, hM⟩ := bind_of hM
    refine g_iaload X e22 dX12_sums_22 ?_
    refine g_maxI X m_42_12 ⟨by decide, Nat.le_of_ble_eq_true rfl⟩ dX12_sums_23 ?_
    refine g_i2l X dX12_sums_26 ?_
    refine g_ladd X dX12_sums_27 ?_
    refine g_lstore_n X [some (.ref (B + 0)), some (.int x1), some (.long (x2 + (mxI 0 v22).toInt64)), none, some (.int x4)] dX12_sums_28 (by decide) rfl ?_
    refine g_iinc (d := 1) X [some (.ref (B + 0)), some (.int x1), some (.long (x2 + (mxI 0 v22).toInt64)), none, some (.int (x4 + 1))] dX12_sums_29 (by decide) rfl (by decide) rfl ?_
    refine g_goto (tgt := 5) X dX12_sums_32 (by decide) ?_
    refine g_mk [true, true, true, false, true] [some (.ref (B + 0)), some (.int x1), some (.long (x2 + (mxI 0 v22).toInt64)), none, some (.int (x4 + 1))] rfl ?_
    exact ih5 x1 (x2 + (mxI 0 v22).toInt64) (x4 + 1) _ hM
theorem v_X12_sums_l5 {κ : gK} {B : Nat} {u : gM} (X : gX κ B skM cX12_sums 5 RX12 (some .long) 1 26)   : ∀ (n : Nat) {x1 : Int32} {x2 : Int64} {x4 : Int32} {w : Int64} (hM : X12_sums_l5 u  n x1 x2 x4 = some w), gV κ B skM 5 ((some (.long w)), u) 5 [some (.ref (B + 0)), some (.int x1), some (.long x2), none, some (.int x4)] [] u := by
  intro n
  induction n with
  | zero => intro x1 x2 x4 w hM; exact nomatch (show (none : Option Int64) = some w from hM)
  | succ n ihn => intro x1 x2 x4 w hM; exact v_X12_sums_b5 X  (fun x1 x2 x4 w h => ihn h) hM
set_option maxRecDepth 20000 in
theorem v_X12_sums {κ : gK} {B : Nat} {u : gM} (X : gX κ B skM cX12_sums 5 RX12 (some .long) 1 26)   {x1 : Int32} {w : Int64} (hM : X12_sums u x1 = some w) : gV κ B skM 5 ((some (.long w)), u) 0 [some (.ref (B + 0)), some (.int x1), none, none, none] [] u := by
  unfold X12_sums at hM
  refine g_lconst (v := 0) X dX12_sums_0 (by decide) ?_
  refine g_lstore_n X [some (.ref (B + 0)), some (.int x1), some (.long 0), none, none] dX12_sums_1 (by decide) rfl ?_
  refine g_iconst X (v := 0) dX12_sums_2 (by decide) ?_
  refine g_istore X [some (.ref (B + 0)), some (.int x1), some (.long 0), none, some (.int 0)] dX12_sums_3 (by decide) rfl ?_
  refine g_mk [true, true, true, false, true] [some (.ref (B + 0)), some (.int x1), some (.long 0), none, some (.int 0)] rfl ?_
  exact v_X12_sums_l5 X  fz hM
theorem s_X12_sums {x1 : Int32} {u : gM} {w : Int64} (hM : X12_sums u x1 = some w) : gMet skM yX12_sums cX12_sums 5 (some .long) 1 26 (fun B adK => [.ref (B + 0), .int x1]) u ((fun _ => some (.long w)), u) := by
  refine gMet.of (by decide) (fun _ _ => Nat.le_of_ble_eq_true rfl) (fun κ B X => ?_)
  have X : gX κ B skM cX12_sums 5 RX12 (some .long) 1 26 := X
  refine g_mk [true, true, false, false, false] [some (.ref (B + 0)), some (.int x1), none, none, none] rfl ?_
  exact v_X12_sums X  hM

/-! CoverDeskModel.take(II)Z -/
theorem dX12_take_0 : decode cX12_take 0 = .ok (.aload_n 0, 1) := by decide +kernel
theorem dX12_take_1 : decode cX12_take 1 = .ok (.invokevirtual 390, 3) := by decide +kernel
theorem dX12_take_4 : decode cX12_take 4 = .ok (.aload_n 0, 1) := by decide +kernel
theorem dX12_take_5 : decode cX12_take 5 = .ok (.aload_n 0, 1) := by decide +kernel
theorem dX12_take_6 : decode cX12_take 6 = .ok (.iload_n 1, 1) := by decide +kernel
theorem dX12_take_7 : decode cX12_take 7 = .ok (.iload_n 2, 1) := by decide +kernel
theorem dX12_take_8 : decode cX12_take 8 = .ok (.invokevirtual 401, 3) := by decide +kernel
theorem dX12_take_11 : decode cX12_take 11 = .ok (.invokevirtual 397, 3) := by decide +kernel
theorem dX12_take_14 : decode cX12_take 14 = .ok (.ireturn, 1) := by decide +kernel
def X12_take  (x1 : Int32) (x2 : Int32) (u : gM) : Option (Int32 × gM) :=
((X12_laysAside u).bind fun w1 => ((X12_takesFrom x1 x2 w1).bind fun w8 => ((X12_isDone w8.1 w8.2).bind fun w11 => ((bI w11.1).bind fun v14 => some (v14, w11.2)))))
set_option maxRecDepth 20000 in
theorem v_X12_take {κ : gK} {B : Nat} {u : gM} (X : gX κ B skM cX12_take 3 RX12 (some .boolean) 3 68)   {x1 : Int32} {x2 : Int32} {w : (Int32 × gM)} (hM : X12_take x1 x2 u = some w) : gV κ B skM 3 ((some (.int w.1)), w.2) 0 [some (.ref (B + 0)), some (.int x1), some (.int x2)] [] u := by
  unfold X12_take at hM
  refine g_aload_n X dX12_take_0 rfl ?_
  obtain ⟨w1, e1, hM⟩ := bind_of hM
  refine g_callVv X (fun B adK => []) (s_X12_laysAside e1) cvX12_390 cM_0 rfl rfl (Nat.le_of_ble_eq_true rfl) ⟨by decide, by decide⟩ dX12_take_1 ?_
  refine g_aload_n X dX12_take_4 rfl ?_
  refine g_aload_n X dX12_take_5 rfl ?_
  refine g_iload_n X dX12_take_6 rfl ?_
  refine g_iload_n X dX12_take_7 rfl ?_
  obtain ⟨w8, e8, hM⟩ := bind_of hM
  refine g_callVi X (fun B adK => [.int x1, .int x2]) (s_X12_takesFrom e8) cvX12_401 cM_0 rfl rfl (Nat.le_of_ble_eq_true rfl) ⟨by decide, by decide⟩ dX12_take_8 ?_
  obtain ⟨w11, e11, hM⟩ := bind_of hM
  refine g_callVi X (fun B adK => [.int w8.1]) (s_X12_isDone e11) cvX12_397 cM_0 rfl rfl (Nat.le_of_ble_eq_true rfl) ⟨by decide, by decide⟩ dX12_take_11 ?_
  obtain ⟨v14, e14, hM⟩ := bind_of hM
  obtain ⟨hv, rfl⟩ := bI_of e14
  cases hM
  exact g_zret X hv dX12_take_14
theorem s_X12_take {x1 : Int32} {x2 : Int32} {u : gM} {w : (Int32 × gM)} (hM : X12_take x1 x2 u = some w) : gMet skM yX12_take cX12_take 3 (some .boolean) 3 68 (fun B adK => [.ref (B + 0), .int x1, .int x2]) u ((fun _ => some (.int w.1)), w.2) := by
  refine gMet.of (by decide) (fun _ _ => Nat.le_of_ble_eq_true rfl) (fun κ B X => ?_)
  have X : gX κ B skM cX12_take 3 RX12 (some .boolean) 3 68 := X
  refine g_mk [true, true, true] [some (.ref (B + 0)), some (.int x1), some (.int x2)] rfl ?_
  exact v_X12_take X  hM
theorem fr_X12_take {S : Nat → Prop} {u0 u : gM} {x1 : Int32} {x2 : Int32} (hs0 : S 0) (hs1 : S 16) (hs2 : S 17) (hs3 : S 18)   {w : (Int32 × gM)} (hM : X12_take x1 x2 u = some w) (h0 : off S u0 u) : off S u0 w.2 := by
  unfold X12_take at hM
  obtain ⟨w1, e1, hM⟩ := bind_of hM
  have h0 := fr_X12_laysAside hs3 e1 h0
  obtain ⟨w8, e8, hM⟩ := bind_of hM
  have h0 := fr_X12_takesFrom hs1 e8 h0
  obtain ⟨w11, e11, hM⟩ := bind_of hM
  have h0 := fr_X12_isDone hs0 hs2 e11 h0
  obtain ⟨v14, e14, hM⟩ := bind_of hM
  cases hM
  exact h0
/-! CoverDeskModel.total(I)J -/
theorem dX12_total_0 : decode cX12_total 0 = .ok (.aload_n 0, 1) := by decide +kernel
theorem dX12_total_1 : decode cX12_total 1 = .ok (.getfield 56, 3) := by decide +kernel
theorem dX12_total_4 : decode cX12_total 4 = .ok (.bipush 53, 2) := by decide +kernel
theorem dX12_total_6 : decode cX12_total 6 = .ok (.iaload, 1) := by decide +kernel
theorem dX12_total_7 : decode cX12_total 7 = .ok (.iconst (-1), 1) := by decide +kernel
theorem dX12_total_8 : decode cX12_total 8 = .ok (.if_icmp .ne 7, 3) := by decide +kernel
theorem dX12_total_11 : decode cX12_total 11 = .ok (.ldc2_w 341, 3) := by decide +kernel
theorem dX12_total_14 : decode cX12_total 14 = .ok (.lreturn, 1) := by decide +kernel
theorem dX12_total_15 : decode cX12_total 15 = .ok (.iload_n 1, 1) := by decide +kernel
theorem dX12_total_16 : decode cX12_total 16 = .ok (.tableswitch 90 0 5 #[40, 49, 56, 64, 72, 82], 40) := by decide +kernel
theorem dX12_total_56 : decode cX12_total 56 = .ok (.aload_n 0, 1) := by decide +kernel
theorem dX12_total_57 : decode cX12_total 57 = .ok (.getfield 56, 3) := by decide +kernel
theorem dX12_total_60 : decode cX12_total 60 = .ok (.bipush 53, 2) := by decide +kernel
theorem dX12_total_62 : decode cX12_total 62 = .ok (.iaload, 1) := by decide +kernel
theorem dX12_total_63 : decode cX12_total 63 = .ok (.i2l, 1) := by decide +kernel
theorem dX12_total_64 : decode cX12_total 64 = .ok (.lreturn, 1) := by decide +kernel
theorem dX12_total_65 : decode cX12_total 65 = .ok (.aload_n 0, 1) := by decide +kernel
theorem dX12_total_66 : decode cX12_total 66 = .ok (.bipush 54, 2) := by decide +kernel
theorem dX12_total_68 : decode cX12_total 68 = .ok (.invokevirtual 460, 3) := by decide +kernel
theorem dX12_total_71 : decode cX12_total 71 = .ok (.lreturn, 1) := by decide +kernel
theorem dX12_total_72 : decode cX12_total 72 = .ok (.aload_n 0, 1) := by decide +kernel
theorem dX12_total_73 : decode cX12_total 73 = .ok (.sipush 150, 3) := by decide +kernel
theorem dX12_total_76 : decode cX12_total 76 = .ok (.invokevirtual 460, 3) := by decide +kernel
theorem dX12_total_79 : decode cX12_total 79 = .ok (.lreturn, 1) := by decide +kernel
theorem dX12_total_80 : decode cX12_total 80 = .ok (.aload_n 0, 1) := by decide +kernel
theorem dX12_total_81 : decode cX12_total 81 = .ok (.sipush 246, 3) := by decide +kernel
theorem dX12_total_84 : decode cX12_total 84 = .ok (.invokevirtual 460, 3) := by decide +kernel
theorem dX12_total_87 : decode cX12_total 87 = .ok (.lreturn, 1) := by decide +kernel
theorem dX12_total_88 : decode cX12_total 88 = .ok (.aload_n 0, 1) := by decide +kernel
theorem dX12_total_89 : decode cX12_total 89 = .ok (.getfield 56, 3) := by decide +kernel
theorem dX12_total_92 : decode cX12_total 92 = .ok (.sipush 438, 3) := by decide +kernel
theorem dX12_total_95 : decode cX12_total 95 = .ok (.iaload, 1) := by decide +kernel
theorem dX12_total_96 : decode cX12_total 96 = .ok (.i2l, 1) := by decide +kernel
theorem dX12_total_97 : decode cX12_total 97 = .ok (.lreturn, 1) := by decide +kernel
theorem dX12_total_98 : decode cX12_total 98 = .ok (.aload_n 0, 1) := by decide +kernel
theorem dX12_total_99 : decode cX12_total 99 = .ok (.sipush 342, 3) := by decide +kernel
theorem dX12_total_102 : decode cX12_total 102 = .ok (.invokevirtual 460, 3) := by decide +kernel
theorem dX12_total_105 : decode cX12_total 105 = .ok (.lreturn, 1) := by decide +kernel
theorem dX12_total_106 : decode cX12_total 106 = .ok (.ldc2_w 341, 3) := by decide +kernel
theorem dX12_total_109 : decode cX12_total 109 = .ok (.lreturn, 1) := by decide +kernel
def X12_total (u : gM)  (x1 : Int32) : Option Int64 :=
((aI skM u 16 53).bind fun v6 => (if v6 = (-1) then some (-1)
  else (if x1 = 0 then ((aI skM u 16 53).bind fun v62 => some v62.toInt64)
    else (if x1 = 1 then ((X12_sums u 54).bind fun w68 => some w68)
    else (if x1 = 2 then ((X12_sums u 150).bind fun w76 => some w76)
    else (if x1 = 3 then ((X12_sums u 246).bind fun w84 => some w84)
    else (if x1 = 4 then ((aI skM u 16 438).bind fun v95 => some v95.toInt64)
    else (if x1 = 5 then ((X12_sums u 342).bind fun w102 => some w102)
    else some (-1)))))))))
set_option maxRecDepth 20000 in
theorem v_X12_total {κ : gK} {B : Nat} {u : gM} (X : gX κ B skM cX12_total 2 RX12 (some .long) 2 50)   {x1 : Int32} {w : Int64} (hM : X12_total u x1 = some w) : gV κ B skM 2 ((some (.long w)), u) 0 [some (.ref (B + 0)), some (.int x1)] [] u := by
  unfold X12_total at hM
  refine g_aload_n X dX12_total_0 rfl ?_
  refine g_getR X fX12_56 cM_0 rfl dX12_total_1 ?_
  refine g_bipush X (v := 53) dX12_total_4 (by decide) ?_
  obtain ⟨v6, e6, hM⟩ := bind_of hM
  refine g_iaload X e6 dX12_total_6 ?_
  refine g_iconst X (v := (-1)) dX12_total_7 (by decide) ?_
  refine g_icmp_ne (tgt := 15) X dX12_total_8 (by decide) (fun c8 => ?_) (fun c8 => ?_)
  · rw [if_neg c8] at hM
    refine g_iload_n X dX12_total_15 rfl ?_
    by_cases h16_0 : x1 = 0
    · rw [if_pos h16_0] at hM
      refine g_tabIn (tgt := 56) (off := 40) X 0 h16_0 dX12_total_16 (by decide) (by decide) (by decide) (by decide) ?_
      refine g_aload_n X dX12_total_56 rfl ?_
      refine g_getR X fX12_56 cM_0 rfl dX12_total_57 ?_
      refine g_bipush X (v := 53) dX12_total_60 (by decide) ?_
      obtain ⟨v62, e62, hM⟩ := bind_of hM
      refine g_iaload X e62 dX12_total_62 ?_
      refine g_i2l X dX12_total_63 ?_
      cases hM
      exact g_lret X dX12_total_64
    rw [if_neg h16_0] at hM
    by_cases h16_1 : x1 = 1
    · rw [if_pos h16_1] at hM
      refine g_tabIn (tgt := 65) (off := 49) X 1 h16_1 dX12_total_16 (by decide) (by decide) (by decide) (by decide) ?_
      refine g_aload_n X dX12_total_65 rfl ?_
      refine g_bipush X (v := 54) dX12_total_66 (by decide) ?_
      obtain ⟨w68, e68, hM⟩ := bind_of hM
      refine g_callVl X (fun B adK => [.int 54]) (s_X12_sums e68) cvX12_460 cM_0 rfl rfl (Nat.le_of_ble_eq_true rfl) ⟨by decide, by decide⟩ dX12_total_68 ?_
      cases hM
      exact g_lret X dX12_total_71
    rw [if_neg h16_1] at hM
    by_cases h16_2 : x1 = 2
    · rw [if_pos h16_2] at hM
      refine g_tabIn (tgt := 72) (off := 56) X 2 h16_2 dX12_total_16 (by decide) (by decide) (by decide) (by decide) ?_
      refine g_aload_n X dX12_total_72 rfl ?_
      refine g_sipush X (v := 150) dX12_total_73 (by decide) ?_
      obtain ⟨w76, e76, hM⟩ := bind_of hM
      refine g_callVl X (fun B adK => [.int 150]) (s_X12_sums e76) cvX12_460 cM_0 rfl rfl (Nat.le_of_ble_eq_true rfl) ⟨by decide, by decide⟩ dX12_total_76 ?_
      cases hM
      exact g_lret X dX12_total_79
    rw [if_neg h16_2] at hM
    by_cases h16_3 : x1 = 3
    · rw [if_pos h16_3] at hM
      refine g_tabIn (tgt := 80) (off := 64) X 3 h16_3 dX12_total_16 (by decide) (by decide) (by decide) (by decide) ?_
      refine g_aload_n X dX12_total_80 rfl ?_
      refine g_sipush X (v := 246) dX12_total_81 (by decide) ?_
      obtain ⟨w84, e84, hM⟩ := bind_of hM
      refine g_callVl X (fun B adK => [.int 246]) (s_X12_sums e84) cvX12_460 cM_0 rfl rfl (Nat.le_of_ble_eq_true rfl) ⟨by decide, by decide⟩ dX12_total_84 ?_
      cases hM
      exact g_lret X dX12_total_87
    rw [if_neg h16_3] at hM
    by_cases h16_4 : x1 = 4
    · rw [if_pos h16_4] at hM
      refine g_tabIn (tgt := 88) (off := 72) X 4 h16_4 dX12_total_16 (by decide) (by decide) (by decide) (by decide) ?_
      refine g_aload_n X dX12_total_88 rfl ?_
      refine g_getR X fX12_56 cM_0 rfl dX12_total_89 ?_
      refine g_sipush X (v := 438) dX12_total_92 (by decide) ?_
      obtain ⟨v95, e95, hM⟩ := bind_of hM
      refine g_iaload X e95 dX12_total_95 ?_
      refine g_i2l X dX12_total_96 ?_
      cases hM
      exact g_lret X dX12_total_97
    rw [if_neg h16_4] at hM
    by_cases h16_5 : x1 = 5
    · rw [if_pos h16_5] at hM
      refine g_tabIn (tgt := 98) (off := 82) X 5 h16_5 dX12_total_16 (by decide) (by decide) (by decide) (by decide) ?_
      refine g_aload_n X dX12_total_98 rfl ?_
      refine g_sipush X (v := 342) dX12_total_99 (by decide) ?_
      obtain ⟨w102, e102, hM⟩ := bind_of hM
      refine g_callVl X (fun B adK => [.int 342]) (s_X12_sums e102) cvX12_460 cM_0 rfl rfl (Nat.le_of_ble_eq_true rfl) ⟨by decide, by decide⟩ dX12_total_102 ?_
      cases hM
      exact g_lret X dX12_total_105
    rw [if_neg h16_5] at hM
    refine g_tabOut (tgt := 106) X dX12_total_16 (by have q0 := lv_neT (a := 0) h16_0 (by decide); have q1 := lv_neT (a := 1) h16_1 (by decide); have q2 := lv_neT (a := 2) h16_2 (by decide); have q3 := lv_neT (a := 3) h16_3 (by decide); have q4 := lv_neT (a := 4) h16_4 (by decide); have q5 := lv_neT (a := 5) h16_5 (by decide); omega) (by decide) ?_
    refine g_ldc2 (v := (-1)) X m_43_8 dX12_total_106 ?_
    cases hM
    exact g_lret X dX12_total_109
  · rw [if_pos c8] at hM
    refine g_ldc2 (v := (-1)) X m_43_8 dX12_total_11 ?_
    cases hM
    exact g_lret X dX12_total_14
theorem s_X12_total {x1 : Int32} {u : gM} {w : Int64} (hM : X12_total u x1 = some w) : gMet skM yX12_total cX12_total 2 (some .long) 2 50 (fun B adK => [.ref (B + 0), .int x1]) u ((fun _ => some (.long w)), u) := by
  refine gMet.of (by decide) (fun _ _ => Nat.le_of_ble_eq_true rfl) (fun κ B X => ?_)
  have X : gX κ B skM cX12_total 2 RX12 (some .long) 2 50 := X
  refine g_mk [true, true] [some (.ref (B + 0)), some (.int x1)] rfl ?_
  exact v_X12_total X  hM

/-! CoverDeskModel.undo()Z -/
theorem dX12_undo_0 : decode cX12_undo 0 = .ok (.aload_n 0, 1) := by decide +kernel
theorem dX12_undo_1 : decode cX12_undo 1 = .ok (.getfield 115, 3) := by decide +kernel
theorem dX12_undo_4 : decode cX12_undo 4 = .ok (.ifCond .ne 5, 3) := by decide +kernel
theorem dX12_undo_7 : decode cX12_undo 7 = .ok (.iconst 0, 1) := by decide +kernel
theorem dX12_undo_8 : decode cX12_undo 8 = .ok (.ireturn, 1) := by decide +kernel
theorem dX12_undo_9 : decode cX12_undo 9 = .ok (.aload_n 0, 1) := by decide +kernel
theorem dX12_undo_10 : decode cX12_undo 10 = .ok (.dup, 1) := by decide +kernel
theorem dX12_undo_11 : decode cX12_undo 11 = .ok (.getfield 115, 3) := by decide +kernel
theorem dX12_undo_14 : decode cX12_undo 14 = .ok (.iconst 1, 1) := by decide +kernel
theorem dX12_undo_15 : decode cX12_undo 15 = .ok (.isub, 1) := by decide +kernel
theorem dX12_undo_16 : decode cX12_undo 16 = .ok (.putfield 115, 3) := by decide +kernel
theorem dX12_undo_19 : decode cX12_undo 19 = .ok (.iconst 0, 1) := by decide +kernel
theorem dX12_undo_20 : decode cX12_undo 20 = .ok (.istore_n 1, 1) := by decide +kernel
theorem dX12_undo_21 : decode cX12_undo 21 = .ok (.iload_n 1, 1) := by decide +kernel
theorem dX12_undo_22 : decode cX12_undo 22 = .ok (.sipush 439, 3) := by decide +kernel
theorem dX12_undo_25 : decode cX12_undo 25 = .ok (.if_icmp .ge 30, 3) := by decide +kernel
theorem dX12_undo_28 : decode cX12_undo 28 = .ok (.aload_n 0, 1) := by decide +kernel
theorem dX12_undo_29 : decode cX12_undo 29 = .ok (.getfield 56, 3) := by decide +kernel
theorem dX12_undo_32 : decode cX12_undo 32 = .ok (.iload_n 1, 1) := by decide +kernel
theorem dX12_undo_33 : decode cX12_undo 33 = .ok (.aload_n 0, 1) := by decide +kernel
theorem dX12_undo_34 : decode cX12_undo 34 = .ok (.getfield 59, 3) := by decide +kernel
theorem dX12_undo_37 : decode cX12_undo 37 = .ok (.sipush 439, 3) := by decide +kernel
theorem dX12_undo_40 : decode cX12_undo 40 = .ok (.aload_n 0, 1) := by decide +kernel
theorem dX12_undo_41 : decode cX12_undo 41 = .ok (.getfield 115, 3) := by decide +kernel
theorem dX12_undo_44 : decode cX12_undo 44 = .ok (.imul, 1) := by decide +kernel
theorem dX12_undo_45 : decode cX12_undo 45 = .ok (.iload_n 1, 1) := by decide +kernel
theorem dX12_undo_46 : decode cX12_undo 46 = .ok (.iadd, 1) := by decide +kernel
theorem dX12_undo_47 : decode cX12_undo 47 = .ok (.iaload, 1) := by decide +kernel
theorem dX12_undo_48 : decode cX12_undo 48 = .ok (.iastore, 1) := by decide +kernel
theorem dX12_undo_49 : decode cX12_undo 49 = .ok (.iinc 1 1, 3) := by decide +kernel
theorem dX12_undo_52 : decode cX12_undo 52 = .ok (.goto (-31), 3) := by decide +kernel
theorem dX12_undo_55 : decode cX12_undo 55 = .ok (.iconst 1, 1) := by decide +kernel
theorem dX12_undo_56 : decode cX12_undo 56 = .ok (.ireturn, 1) := by decide +kernel
def X12_undo_b21 (k21 : Int32 → gM → Option (Int32 × gM)) (x1 : Int32) (u : gM) : Option (Int32 × gM) :=
(if 439 ≤ x1 then some (1, u)
  else ((aI skM u 17 ((439 * (u.1 0 17)) + x1)).bind fun v47 => ((sI skM u 16 x1 v47).bind fun u48 => (k21 (x1 + 1) u48))))
def X12_undo_l21  : Nat → Int32 → gM → Option (Int32 × gM)
  | 0, _, _ => none
  | n + 1, x1, u => X12_undo_b21  (X12_undo_l21  n) x1 u
def X12_undo   (u : gM) : Option (Int32 × gM) :=
(if (u.1 0 17) = 0 then some (0, u)
  else (X12_undo_l21 fz 0 (upI u 0 17 ((u.1 0 17) - 1))))
set_option maxRecDepth 20000 in
theorem v_X12_undo_b21 {κ : gK} {B : Nat} {u : gM} (X : gX κ B skM cX12_undo 2 RX12 (some .boolean) 0 0) {k21 : Int32 → gM → Option (Int32 × gM)} (ih21 : ∀ (x1 : Int32) (u : gM) (w : (Int32 × gM)), k21 x1 u = some w → gV κ B skM 2 ((some (.int w.1)), w.2) 21 [some (.ref (B + 0)), some (.int x1)] [] u) {x1 : Int32} {w : (Int32 × gM)} (hM : X12_undo_b21 k21 x1 u = some w) : gV κ B skM 2 ((some (.int w.1)), w.2) 21 [some (.ref (B + 0)), some (.int x1)] [] u := by
  unfold X12_undo_b21 at hM
  refine g_iload_n X dX12_undo_21 rfl ?_
  refine g_sipush X (v := 439) dX12_undo_22 (by decide) ?_
  refine g_icmp_ge (tgt := 55) X dX12_undo_25 (by decide) (fun c25 => ?_) (fun c25 => ?_)
  · rw [if_pos c25] at hM
    refine g_iconst X (v := 1) dX12_undo_55 (by decide) ?_
    cases hM
    exact g_zret X (Or.inr rfl) dX12_undo_56
  · rw [if_neg c25] at hM
    refine g_aload_n X dX12_undo_28 rfl ?_
    refine g_getR X fX12_56 cM_0 rfl dX12_undo_29 ?_
    refine g_iload_n X dX12_undo_32 rfl ?_
    refine g_aload_n X dX12_undo_33 rfl ?_
    refine g_getR X fX12_59 cM_0 rfl dX12_undo_34 ?_
    refine g_sipush X (v := 439) dX12_undo_37 (by decide) ?_
    refine g_aload_n X dX12_undo_40 rfl ?_
    refine g_getI X fX12_115 cM_0 rfl dX12_undo_41 ?_
    refine g_imul X dX12_undo_44 ?_
    refine g_iload_n X dX12_undo_45 rfl ?_
    refine g_iadd X dX12_undo_46 ?_
    obtain ⟨v47, e47, hM⟩ := bind_of hM
    refine g_iaload X e47 dX12_undo_47 ?_
    obtain ⟨u48, e48, hM⟩ := bind_of hM
    refine g_iastore X e48 dX12_undo_48 ?_
    refine g_iinc (d := 1) X [some (.ref (B + 0)), some (.int (x1 + 1))] dX12_undo_49 (by decide) rfl (by decide) rfl ?_
    refine g_goto (tgt := 21) X dX12_undo_52 (by decide) ?_
    refine g_mk [true, true] [some (.ref (B + 0)), some (.int (x1 + 1))] rfl ?_
    exact ih21 (x1 + 1) u48 _ hM
theorem v_X12_undo_l21 {κ : gK} {B : Nat} (X : gX κ B skM cX12_undo 2 RX12 (some .boolean) 0 0)   : ∀ (n : Nat) {x1 : Int32} {u : gM} {w : (Int32 × gM)} (hM : X12_undo_l21  n x1 u = some w), gV κ B skM 2 ((some (.int w.1)), w.2) 21 [some (.ref (B + 0)), some (.int x1)] [] u := by
  intro n
  induction n with
  | zero => intro x1 u w hM; exact nomatch (show (none : Option (Int32 × gM)) = some w from hM)
  | succ n ihn => intro x1 u w hM; exact v_X12_undo_b21 X  (fun x1 u w h => ihn h) hM
set_option maxRecDepth 20000 in
theorem v_X12_undo {κ : gK} {B : Nat} {u : gM} (X : gX κ B skM cX12_undo 2 RX12 (some .boolean) 0 0)    {w : (Int32 × gM)} (hM : X12_undo u = some w) : gV κ B skM 2 ((some (.int w.1)), w.2) 0 [some (.ref (B + 0)), none] [] u := by
  unfold X12_undo at hM
  refine g_aload_n X dX12_undo_0 rfl ?_
  refine g_getI X fX12_115 cM_0 rfl dX12_undo_1 ?_
  refine g_if_ne (tgt := 9) X dX12_undo_4 (by decide) (fun c4 => ?_) (fun c4 => ?_)
  · rw [if_neg c4] at hM
    refine g_aload_n X dX12_undo_9 rfl ?_
    refine g_dup X rfl dX12_undo_10 ?_
    refine g_getI X fX12_115 cM_0 rfl dX12_undo_11 ?_
    refine g_iconst X (v := 1) dX12_undo_14 (by decide) ?_
    refine g_isub X dX12_undo_15 ?_
    refine g_putI X fX12_115 gc_X12 gp_X12_17 cM_0 rfl dX12_undo_16 ?_
    refine g_iconst X (v := 0) dX12_undo_19 (by decide) ?_
    refine g_istore_n X [some (.ref (B + 0)), some (.int 0)] dX12_undo_20 (by decide) rfl ?_
    refine g_mk [true, true] [some (.ref (B + 0)), some (.int 0)] rfl ?_
    exact v_X12_undo_l21 X  fz hM
  · rw [if_pos c4] at hM
    refine g_iconst X (v := 0) dX12_undo_7 (by decide) ?_
    cases hM
    exact g_zret X (Or.inl rfl) dX12_undo_8
theorem s_X12_undo  {u : gM} {w : (Int32 × gM)} (hM : X12_undo u = some w) : gMet skM yX12_undo cX12_undo 2 (some .boolean) 0 0 (fun B adK => [.ref (B + 0)]) u ((fun _ => some (.int w.1)), w.2) := by
  refine gMet.of (by decide) (fun _ _ => Nat.le_of_ble_eq_true rfl) (fun κ B X => ?_)
  have X : gX κ B skM cX12_undo 2 RX12 (some .boolean) 0 0 := X
  refine g_mk [true, false] [some (.ref (B + 0)), none] rfl ?_
  exact v_X12_undo X  hM
theorem fr_X12_undo_b21 {S : Nat → Prop} {u0 u : gM} {x1 : Int32} (hs0 : S 16) {k21 : Int32 → gM → Option (Int32 × gM)} (ik21 : ∀ (x1 : Int32) (u : gM) (w : (Int32 × gM)), S 16 → off S u0 u → k21 x1 u = some w → off S u0 w.2) {w : (Int32 × gM)} (hM : X12_undo_b21 k21 x1 u = some w) (h0 : off S u0 u) : off S u0 w.2 := by
  unfold X12_undo_b21 at hM
  by_cases c25 : 439 ≤ x1
  · rw [if_pos c25] at hM
    cases hM
    exact h0
  · rw [if_neg c25] at hM
    obtain ⟨v47, e47, hM⟩ := bind_of hM
    obtain ⟨u48, e48, hM⟩ := bind_of hM
    have h0 := off_sI hs0 e48 h0
    exact ik21 _ _ _ hs0 h0 hM
theorem fr_X12_undo_l21 {S : Nat → Prop} {u0 : gM}   : ∀ (n : Nat) {x1 : Int32} (hs0 : S 16) {u : gM} {w : (Int32 × gM)} (h0 : off S u0 u) (hM : X12_undo_l21  n x1 u = some w), off S u0 w.2 := by
  intro n
  induction n with
  | zero => intro x1 hs0 u w h0 hM; exact nomatch (show (none : Option (Int32 × gM)) = some w from hM)
  | succ n ihn => intro x1 hs0 u w h0 hM; exact fr_X12_undo_b21 hs0  (fun x1 _ _ hs0 h0 h => ihn hs0 h0 h) hM h0
theorem fr_X12_undo {S : Nat → Prop} {u0 u : gM}  (hs0 : S 0) (hs1 : S 16)   {w : (Int32 × gM)} (hM : X12_undo u = some w) (h0 : off S u0 u) : off S u0 w.2 := by
  unfold X12_undo at hM
  by_cases c4 : (u.1 0 17) = 0
  · rw [if_pos c4] at hM
    cases hM
    exact h0
  · rw [if_neg c4] at hM
    have h0 := off_upI (u := u) (k := 0) (j := 17) (x := ((u.1 0 17) - 1)) hs0 h0
    exact fr_X12_undo_l21  fz hs1 h0 hM
/-! CoverDeskModel.warns(I)I -/
theorem dX12_warns_0 : decode cX12_warns 0 = .ok (.aload_n 0, 1) := by decide +kernel
theorem dX12_warns_1 : decode cX12_warns 1 = .ok (.iload_n 1, 1) := by decide +kernel
theorem dX12_warns_2 : decode cX12_warns 2 = .ok (.invokevirtual 446, 3) := by decide +kernel
theorem dX12_warns_5 : decode cX12_warns 5 = .ok (.ifCond .ne 5, 3) := by decide +kernel
theorem dX12_warns_8 : decode cX12_warns 8 = .ok (.iconst (-1), 1) := by decide +kernel
theorem dX12_warns_9 : decode cX12_warns 9 = .ok (.ireturn, 1) := by decide +kernel
theorem dX12_warns_10 : decode cX12_warns 10 = .ok (.aload_n 0, 1) := by decide +kernel
theorem dX12_warns_11 : decode cX12_warns 11 = .ok (.iload_n 1, 1) := by decide +kernel
theorem dX12_warns_12 : decode cX12_warns 12 = .ok (.aload_n 0, 1) := by decide +kernel
theorem dX12_warns_13 : decode cX12_warns 13 = .ok (.getfield 56, 3) := by decide +kernel
theorem dX12_warns_16 : decode cX12_warns 16 = .ok (.iconst 0, 1) := by decide +kernel
theorem dX12_warns_17 : decode cX12_warns 17 = .ok (.iaload, 1) := by decide +kernel
theorem dX12_warns_18 : decode cX12_warns 18 = .ok (.invokevirtual 358, 3) := by decide +kernel
theorem dX12_warns_21 : decode cX12_warns 21 = .ok (.lstore_n 2, 1) := by decide +kernel
theorem dX12_warns_22 : decode cX12_warns 22 = .ok (.aload_n 0, 1) := by decide +kernel
theorem dX12_warns_23 : decode cX12_warns 23 = .ok (.getfield 56, 3) := by decide +kernel
theorem dX12_warns_26 : decode cX12_warns 26 = .ok (.iconst 0, 1) := by decide +kernel
theorem dX12_warns_27 : decode cX12_warns 27 = .ok (.iaload, 1) := by decide +kernel
theorem dX12_warns_28 : decode cX12_warns 28 = .ok (.iconst 1, 1) := by decide +kernel
theorem dX12_warns_29 : decode cX12_warns 29 = .ok (.iadd, 1) := by decide +kernel
theorem dX12_warns_30 : decode cX12_warns 30 = .ok (.istore 4, 2) := by decide +kernel
theorem dX12_warns_32 : decode cX12_warns 32 = .ok (.iload 4, 2) := by decide +kernel
theorem dX12_warns_34 : decode cX12_warns 34 = .ok (.sipush 999, 3) := by decide +kernel
theorem dX12_warns_37 : decode cX12_warns 37 = .ok (.if_icmp .gt 24, 3) := by decide +kernel
theorem dX12_warns_40 : decode cX12_warns 40 = .ok (.aload_n 0, 1) := by decide +kernel
theorem dX12_warns_41 : decode cX12_warns 41 = .ok (.iload_n 1, 1) := by decide +kernel
theorem dX12_warns_42 : decode cX12_warns 42 = .ok (.iload 4, 2) := by decide +kernel
theorem dX12_warns_44 : decode cX12_warns 44 = .ok (.invokevirtual 358, 3) := by decide +kernel
theorem dX12_warns_47 : decode cX12_warns 47 = .ok (.lload_n 2, 1) := by decide +kernel
theorem dX12_warns_48 : decode cX12_warns 48 = .ok (.lcmp, 1) := by decide +kernel
theorem dX12_warns_49 : decode cX12_warns 49 = .ok (.ifCond .ge 6, 3) := by decide +kernel
theorem dX12_warns_52 : decode cX12_warns 52 = .ok (.iload 4, 2) := by decide +kernel
theorem dX12_warns_54 : decode cX12_warns 54 = .ok (.ireturn, 1) := by decide +kernel
theorem dX12_warns_55 : decode cX12_warns 55 = .ok (.iinc 4 1, 3) := by decide +kernel
theorem dX12_warns_58 : decode cX12_warns 58 = .ok (.goto (-26), 3) := by decide +kernel
theorem dX12_warns_61 : decode cX12_warns 61 = .ok (.iconst (-1), 1) := by decide +kernel
theorem dX12_warns_62 : decode cX12_warns 62 = .ok (.ireturn, 1) := by decide +kernel
def X12_warns_b32 (k32 : Int32 → Int64 → Int32 → gM → Option (Int32 × gM)) (x1 : Int32) (x2 : Int64) (x4 : Int32) (u : gM) : Option (Int32 × gM) :=
(if 999 < x4 then some ((-1), u)
  else ((X12_insuredOf x1 x4 u).bind fun w44 => (if 0 ≤ (lg_cmp w44.1 x2) then (k32 x1 x2 (x4 + 1) w44.2)
    else some (x4, w44.2))))
def X12_warns_l32  : Nat → Int32 → Int64 → Int32 → gM → Option (Int32 × gM)
  | 0, _, _, _, _ => none
  | n + 1, x1, x2, x4, u => X12_warns_b32  (X12_warns_l32  n) x1 x2 x4 u
def X12_warns  (x1 : Int32) (u : gM) : Option (Int32 × gM) :=
((X12_isPerson u x1).bind fun w2 => (if w2 = 0 then some ((-1), u)
  else ((aI skM u 16 0).bind fun v17 => ((X12_insuredOf x1 v17 u).bind fun w18 => ((aI skM w18.2 16 0).bind fun v27 => (X12_warns_l32 fz x1 w18.1 (v27 + 1) w18.2))))))
set_option maxRecDepth 20000 in
theorem v_X12_warns_b32 {κ : gK} {B : Nat} {u : gM} (X : gX κ B skM cX12_warns 5 RX12 (some .int) 6 154) {k32 : Int32 → Int64 → Int32 → gM → Option (Int32 × gM)} (ih32 : ∀ (x1 : Int32) (x2 : Int64) (x4 : Int32) (u : gM) (w : (Int32 × gM)), k32 x1 x2 x4 u = some w → gV κ B skM 5 ((some (.int w.1)), w.2) 32 [some (.ref (B + 0)), some (.int x1), some (.long x2), none, some (.int x4)] [] u) {x1 : Int32} {x2 : Int64} {x4 : Int32} {w : (Int32 × gM)} (hM : X12_warns_b32 k32 x1 x2 x4 u = some w) : gV κ B skM 5 ((some (.int w.1)), w.2) 32 [some (.ref (B + 0)), some (.int x1), some (.long x2), none, some (.int x4)] [] u := by
  unfold X12_warns_b32 at hM
  refine g_iload X dX12_warns_32 rfl ?_
  refine g_sipush X (v := 999) dX12_warns_34 (by decide) ?_
  refine g_icmp_gt (tgt := 61) X dX12_warns_37 (by decide) (fun c37 => ?_) (fun c37 => ?_)
  · rw [if_pos c37] at hM
    refine g_iconst X (v := (-1)) dX12_warns_61 (by decide) ?_
    cases hM
    exact g_iret X dX12_warns_62
  · rw [if_neg c37] at hM
    refine g_aload_n X dX12_warns_40 rfl ?_
    refine g_iload_n X dX12_warns_41 rfl ?_
    refine g_iload X dX12_warns_42 rfl ?_
    obtain ⟨w44, e44, hM⟩ := bind_of hM
    refine g_callVl X (fun B adK => [.int x1, .int x4]) (s_X12_insuredOf e44) cvX12_358 cM_0 rfl rfl (Nat.le_of_ble_eq_true rfl) ⟨by decide, by decide⟩ dX12_warns_44 ?_
    refine g_lload_n X dX12_warns_47 rfl ?_
    refine g_lcmp X dX12_warns_48 ?_
    refine g_if_ge (tgt := 55) X dX12_warns_49 (by decide) (fun c49 => ?_) (fun c49 => ?_)
    · rw [if_pos c49] at hM
      refine g_iinc (d := 1) X [some (.ref (B + 0)), some (.int x1), some (.long x2), none, some (.int (x4 + 1))] dX12_warns_55 (by decide) rfl (by decide) rfl ?_
      refine g_goto (tgt := 32) X dX12_warns_58 (by decide) ?_
      refine g_mk [true, true, true, false, true] [some (.ref (B + 0)), some (.int x1), some (.long x2), none, some (.int (x4 + 1))] rfl ?_
      exact ih32 x1 x2 (x4 + 1) w44.2 _ hM
    · rw [if_neg c49] at hM
      refine g_iload X dX12_warns_52 rfl ?_
      cases hM
      exact g_iret X dX12_warns_54
theorem v_X12_warns_l32 {κ : gK} {B : Nat} (X : gX κ B skM cX12_warns 5 RX12 (some .int) 6 154)   : ∀ (n : Nat) {x1 : Int32} {x2 : Int64} {x4 : Int32} {u : gM} {w : (Int32 × gM)} (hM : X12_warns_l32  n x1 x2 x4 u = some w), gV κ B skM 5 ((some (.int w.1)), w.2) 32 [some (.ref (B + 0)), some (.int x1), some (.long x2), none, some (.int x4)] [] u := by
  intro n
  induction n with
  | zero => intro x1 x2 x4 u w hM; exact nomatch (show (none : Option (Int32 × gM)) = some w from hM)
  | succ n ihn => intro x1 x2 x4 u w hM; exact v_X12_warns_b32 X  (fun x1 x2 x4 u w h => ihn h) hM
set_option maxRecDepth 20000 in
theorem v_X12_warns {κ : gK} {B : Nat} {u : gM} (X : gX κ B skM cX12_warns 5 RX12 (some .int) 6 154)   {x1 : Int32} {w : (Int32 × gM)} (hM : X12_warns x1 u = some w) : gV κ B skM 5 ((some (.int w.1)), w.2) 0 [some (.ref (B + 0)), some (.int x1), none, none, none] [] u := by
  unfold X12_warns at hM
  refine g_aload_n X dX12_warns_0 rfl ?_
  refine g_iload_n X dX12_warns_1 rfl ?_
  obtain ⟨w2, e2, hM⟩ := bind_of hM
  refine g_callVi X (fun B adK => [.int x1]) (s_X12_isPerson e2) cvX12_446 cM_0 rfl rfl (Nat.le_of_ble_eq_true rfl) ⟨by decide, by decide⟩ dX12_warns_2 ?_
  refine g_if_ne (tgt := 10) X dX12_warns_5 (by decide) (fun c5 => ?_) (fun c5 => ?_)
  · rw [if_neg c5] at hM
    refine g_aload_n X dX12_warns_10 rfl ?_
    refine g_iload_n X dX12_warns_11 rfl ?_
    refine g_aload_n X dX12_warns_12 rfl ?_
    refine g_getR X fX12_56 cM_0 rfl dX12_warns_13 ?_
    refine g_iconst X (v := 0) dX12_warns_16 (by decide) ?_
    obtain ⟨v17, e17, hM⟩ := bind_of hM
    refine g_iaload X e17 dX12_warns_17 ?_
    obtain ⟨w18, e18, hM⟩ := bind_of hM
    refine g_callVl X (fun B adK => [.int x1, .int v17]) (s_X12_insuredOf e18) cvX12_358 cM_0 rfl rfl (Nat.le_of_ble_eq_true rfl) ⟨by decide, by decide⟩ dX12_warns_18 ?_
    refine g_lstore_n X [some (.ref (B + 0)), some (.int x1), some (.long w18.1), none, none] dX12_warns_21 (by decide) rfl ?_
    refine g_aload_n X dX12_warns_22 rfl ?_
    refine g_getR X fX12_56 cM_0 rfl dX12_warns_23 ?_
    refine g_iconst X (v := 0) dX12_warns_26 (by decide) ?_
    obtain ⟨v27, e27, hM⟩ := bind_of hM
    refine g_iaload X e27 dX12_warns_27 ?_
    refine g_iconst X (v := 1) dX12_warns_28 (by decide) ?_
    refine g_iadd X dX12_warns_29 ?_
    refine g_istore X [some (.ref (B + 0)), some (.int x1), some (.long w18.1), none, some (.int (v27 + 1))] dX12_warns_30 (by decide) rfl ?_
    refine g_mk [true, true, true, false, true] [some (.ref (B + 0)), some (.int x1), some (.long w18.1), none, some (.int (v27 + 1))] rfl ?_
    exact v_X12_warns_l32 X  fz hM
  · rw [if_pos c5] at hM
    refine g_iconst X (v := (-1)) dX12_warns_8 (by decide) ?_
    cases hM
    exact g_iret X dX12_warns_9
theorem s_X12_warns {x1 : Int32} {u : gM} {w : (Int32 × gM)} (hM : X12_warns x1 u = some w) : gMet skM yX12_warns cX12_warns 5 (some .int) 6 154 (fun B adK => [.ref (B + 0), .int x1]) u ((fun _ => some (.int w.1)), w.2) := by
  refine gMet.of (by decide) (fun _ _ => Nat.le_of_ble_eq_true rfl) (fun κ B X => ?_)
  have X : gX κ B skM cX12_warns 5 RX12 (some .int) 6 154 := X
  refine g_mk [true, true, false, false, false] [some (.ref (B + 0)), some (.int x1), none, none, none] rfl ?_
  exact v_X12_warns X  hM
theorem fr_X12_warns_b32 {S : Nat → Prop} {u0 u : gM} {x1 : Int32} {x2 : Int64} {x4 : Int32} (hs0 : S 20) {k32 : Int32 → Int64 → Int32 → gM → Option (Int32 × gM)} (ik32 : ∀ (x1 : Int32) (x2 : Int64) (x4 : Int32) (u : gM) (w : (Int32 × gM)), S 20 → off S u0 u → k32 x1 x2 x4 u = some w → off S u0 w.2) {w : (Int32 × gM)} (hM : X12_warns_b32 k32 x1 x2 x4 u = some w) (h0 : off S u0 u) : off S u0 w.2 := by
  unfold X12_warns_b32 at hM
  by_cases c37 : 999 < x4
  · rw [if_pos c37] at hM
    cases hM
    exact h0
  · rw [if_neg c37] at hM
    obtain ⟨w44, e44, hM⟩ := bind_of hM
    have h0 := fr_X12_insuredOf hs0 e44 h0
    by_cases c49 : 0 ≤ (lg_cmp w44.1 x2)
    · rw [if_pos c49] at hM
      exact ik32 _ _ _ _ _ hs0 h0 hM
    · rw [if_neg c49] at hM
      cases hM
      exact h0
theorem fr_X12_warns_l32 {S : Nat → Prop} {u0 : gM}   : ∀ (n : Nat) {x1 : Int32} {x2 : Int64} {x4 : Int32} (hs0 : S 20) {u : gM} {w : (Int32 × gM)} (h0 : off S u0 u) (hM : X12_warns_l32  n x1 x2 x4 u = some w), off S u0 w.2 := by
  intro n
  induction n with
  | zero => intro x1 x2 x4 hs0 u w h0 hM; exact nomatch (show (none : Option (Int32 × gM)) = some w from hM)
  | succ n ihn => intro x1 x2 x4 hs0 u w h0 hM; exact fr_X12_warns_b32 hs0  (fun x1 x2 x4 _ _ hs0 h0 h => ihn hs0 h0 h) hM h0
theorem fr_X12_warns {S : Nat → Prop} {u0 u : gM} {x1 : Int32} (hs0 : S 20)   {w : (Int32 × gM)} (hM : X12_warns x1 u = some w) (h0 : off S u0 u) : off S u0 w.2 := by
  unfold X12_warns at hM
  obtain ⟨w2, e2, hM⟩ := bind_of hM
  by_cases c5 : w2 = 0
  · rw [if_pos c5] at hM
    cases hM
    exact h0
  · rw [if_neg c5] at hM
    obtain ⟨v17, e17, hM⟩ := bind_of hM
    obtain ⟨w18, e18, hM⟩ := bind_of hM
    have h0 := fr_X12_insuredOf hs0 e18 h0
    obtain ⟨v27, e27, hM⟩ := bind_of hM
    exact fr_X12_warns_l32  fz hs0 h0 hM
/-! CoverDeskModel.worst(I)J -/
theorem dX12_worst_0 : decode cX12_worst 0 = .ok (.iload_n 1, 1) := by decide +kernel
theorem dX12_worst_1 : decode cX12_worst 1 = .ok (.i2l, 1) := by decide +kernel
theorem dX12_worst_2 : decode cX12_worst 2 = .ok (.lconst 0, 1) := by decide +kernel
theorem dX12_worst_3 : decode cX12_worst 3 = .ok (.lconst 1, 1) := by decide +kernel
theorem dX12_worst_4 : decode cX12_worst 4 = .ok (.invokestatic 125, 3) := by decide +kernel
theorem dX12_worst_7 : decode cX12_worst 7 = .ok (.ifCond .ne 7, 3) := by decide +kernel
theorem dX12_worst_10 : decode cX12_worst 10 = .ok (.ldc2_w 341, 3) := by decide +kernel
theorem dX12_worst_13 : decode cX12_worst 13 = .ok (.lreturn, 1) := by decide +kernel
theorem dX12_worst_14 : decode cX12_worst 14 = .ok (.aload_n 0, 1) := by decide +kernel
theorem dX12_worst_15 : decode cX12_worst 15 = .ok (.invokevirtual 390, 3) := by decide +kernel
theorem dX12_worst_18 : decode cX12_worst 18 = .ok (.iconst (-1), 1) := by decide +kernel
theorem dX12_worst_19 : decode cX12_worst 19 = .ok (.istore_n 2, 1) := by decide +kernel
theorem dX12_worst_20 : decode cX12_worst 20 = .ok (.lconst 0, 1) := by decide +kernel
theorem dX12_worst_21 : decode cX12_worst 21 = .ok (.lstore_n 3, 1) := by decide +kernel
theorem dX12_worst_22 : decode cX12_worst 22 = .ok (.iconst 0, 1) := by decide +kernel
theorem dX12_worst_23 : decode cX12_worst 23 = .ok (.istore 5, 2) := by decide +kernel
theorem dX12_worst_25 : decode cX12_worst 25 = .ok (.iload 5, 2) := by decide +kernel
theorem dX12_worst_27 : decode cX12_worst 27 = .ok (.aload_n 0, 1) := by decide +kernel
theorem dX12_worst_28 : decode cX12_worst 28 = .ok (.getfield 7, 3) := by decide +kernel
theorem dX12_worst_31 : decode cX12_worst 31 = .ok (.iconst 1, 1) := by decide +kernel
theorem dX12_worst_32 : decode cX12_worst 32 = .ok (.iaload, 1) := by decide +kernel
theorem dX12_worst_33 : decode cX12_worst 33 = .ok (.if_icmp .ge 90, 3) := by decide +kernel
theorem dX12_worst_36 : decode cX12_worst 36 = .ok (.aload_n 0, 1) := by decide +kernel
theorem dX12_worst_37 : decode cX12_worst 37 = .ok (.iload 5, 2) := by decide +kernel
theorem dX12_worst_39 : decode cX12_worst 39 = .ok (.invokevirtual 372, 3) := by decide +kernel
theorem dX12_worst_42 : decode cX12_worst 42 = .ok (.ifCond .ne 6, 3) := by decide +kernel
theorem dX12_worst_45 : decode cX12_worst 45 = .ok (.goto 72, 3) := by decide +kernel
theorem dX12_worst_48 : decode cX12_worst 48 = .ok (.aload_n 0, 1) := by decide +kernel
theorem dX12_worst_49 : decode cX12_worst 49 = .ok (.iload 5, 2) := by decide +kernel
theorem dX12_worst_51 : decode cX12_worst 51 = .ok (.iconst 0, 1) := by decide +kernel
theorem dX12_worst_52 : decode cX12_worst 52 = .ok (.invokevirtual 413, 3) := by decide +kernel
theorem dX12_worst_55 : decode cX12_worst 55 = .ok (.pop, 1) := by decide +kernel
theorem dX12_worst_56 : decode cX12_worst 56 = .ok (.aload_n 0, 1) := by decide +kernel
theorem dX12_worst_57 : decode cX12_worst 57 = .ok (.sipush 342, 3) := by decide +kernel
theorem dX12_worst_60 : decode cX12_worst 60 = .ok (.invokevirtual 460, 3) := by decide +kernel
theorem dX12_worst_63 : decode cX12_worst 63 = .ok (.lstore 6, 2) := by decide +kernel
theorem dX12_worst_65 : decode cX12_worst 65 = .ok (.iconst 0, 1) := by decide +kernel
theorem dX12_worst_66 : decode cX12_worst 66 = .ok (.istore 8, 2) := by decide +kernel
theorem dX12_worst_68 : decode cX12_worst 68 = .ok (.iload 8, 2) := by decide +kernel
theorem dX12_worst_70 : decode cX12_worst 70 = .ok (.sipush 439, 3) := by decide +kernel
theorem dX12_worst_73 : decode cX12_worst 73 = .ok (.if_icmp .ge 23, 3) := by decide +kernel
theorem dX12_worst_76 : decode cX12_worst 76 = .ok (.aload_n 0, 1) := by decide +kernel
theorem dX12_worst_77 : decode cX12_worst 77 = .ok (.getfield 56, 3) := by decide +kernel
theorem dX12_worst_80 : decode cX12_worst 80 = .ok (.iload 8, 2) := by decide +kernel
theorem dX12_worst_82 : decode cX12_worst 82 = .ok (.aload_n 0, 1) := by decide +kernel
theorem dX12_worst_83 : decode cX12_worst 83 = .ok (.getfield 62, 3) := by decide +kernel
theorem dX12_worst_86 : decode cX12_worst 86 = .ok (.iload 8, 2) := by decide +kernel
theorem dX12_worst_88 : decode cX12_worst 88 = .ok (.iaload, 1) := by decide +kernel
theorem dX12_worst_89 : decode cX12_worst 89 = .ok (.iastore, 1) := by decide +kernel
theorem dX12_worst_90 : decode cX12_worst 90 = .ok (.iinc 8 1, 3) := by decide +kernel
theorem dX12_worst_93 : decode cX12_worst 93 = .ok (.goto (-25), 3) := by decide +kernel
theorem dX12_worst_96 : decode cX12_worst 96 = .ok (.iload_n 2, 1) := by decide +kernel
theorem dX12_worst_97 : decode cX12_worst 97 = .ok (.iconst (-1), 1) := by decide +kernel
theorem dX12_worst_98 : decode cX12_worst 98 = .ok (.if_icmp .eq 13, 3) := by decide +kernel
theorem dX12_worst_101 : decode cX12_worst 101 = .ok (.lload 6, 2) := by decide +kernel
theorem dX12_worst_103 : decode cX12_worst 103 = .ok (.lload_n 3, 1) := by decide +kernel
theorem dX12_worst_104 : decode cX12_worst 104 = .ok (.lcmp, 1) := by decide +kernel
theorem dX12_worst_105 : decode cX12_worst 105 = .ok (.ifCond .gt 6, 3) := by decide +kernel
theorem dX12_worst_108 : decode cX12_worst 108 = .ok (.goto 9, 3) := by decide +kernel
theorem dX12_worst_111 : decode cX12_worst 111 = .ok (.iload 5, 2) := by decide +kernel
theorem dX12_worst_113 : decode cX12_worst 113 = .ok (.istore_n 2, 1) := by decide +kernel
theorem dX12_worst_114 : decode cX12_worst 114 = .ok (.lload 6, 2) := by decide +kernel
theorem dX12_worst_116 : decode cX12_worst 116 = .ok (.lstore_n 3, 1) := by decide +kernel
theorem dX12_worst_117 : decode cX12_worst 117 = .ok (.iinc 5 1, 3) := by decide +kernel
theorem dX12_worst_120 : decode cX12_worst 120 = .ok (.goto (-95), 3) := by decide +kernel
theorem dX12_worst_123 : decode cX12_worst 123 = .ok (.iload_n 2, 1) := by decide +kernel
theorem dX12_worst_124 : decode cX12_worst 124 = .ok (.iconst (-1), 1) := by decide +kernel
theorem dX12_worst_125 : decode cX12_worst 125 = .ok (.if_icmp .ne 9, 3) := by decide +kernel
theorem dX12_worst_128 : decode cX12_worst 128 = .ok (.ldc2_w 341, 3) := by decide +kernel
theorem dX12_worst_131 : decode cX12_worst 131 = .ok (.goto 13, 3) := by decide +kernel
theorem dX12_worst_134 : decode cX12_worst 134 = .ok (.iload_n 1, 1) := by decide +kernel
theorem dX12_worst_135 : decode cX12_worst 135 = .ok (.ifCond .ne 8, 3) := by decide +kernel
theorem dX12_worst_138 : decode cX12_worst 138 = .ok (.iload_n 2, 1) := by decide +kernel
theorem dX12_worst_139 : decode cX12_worst 139 = .ok (.i2l, 1) := by decide +kernel
theorem dX12_worst_140 : decode cX12_worst 140 = .ok (.goto 4, 3) := by decide +kernel
theorem dX12_worst_143 : decode cX12_worst 143 = .ok (.lload_n 3, 1) := by decide +kernel
theorem dX12_worst_144 : decode cX12_worst 144 = .ok (.lreturn, 1) := by decide +kernel
def X12_worst_b144  (s0 : Int64) (u : gM) : Option (Int64 × gM) :=
some (s0, u)
def X12_worst_b117 (k25 : Int32 → Int32 → Int64 → Int32 → gM → Option (Int64 × gM)) (x1 : Int32) (x2 : Int32) (x3 : Int64) (x5 : Int32) (u : gM) : Option (Int64 × gM) :=
(k25 x1 x2 x3 (x5 + 1) u)
def X12_worst_b111 (k25 : Int32 → Int32 → Int64 → Int32 → gM → Option (Int64 × gM)) (x1 : Int32) (x5 : Int32) (x6 : Int64) (u : gM) : Option (Int64 × gM) :=
(X12_worst_b117 k25 x1 x5 x6 x5 u)
def X12_worst_b68 (k25 : Int32 → Int32 → Int64 → Int32 → gM → Option (Int64 × gM)) (k68 : Int32 → Int32 → Int64 → Int32 → Int64 → Int32 → gM → Option (Int64 × gM)) (x1 : Int32) (x2 : Int32) (x3 : Int64) (x5 : Int32) (x6 : Int64) (x8 : Int32) (u : gM) : Option (Int64 × gM) :=
(if 439 ≤ x8 then (if x2 = (-1) then (X12_worst_b111 k25 x1 x5 x6 u)
    else (if 0 < (lg_cmp x6 x3) then (X12_worst_b111 k25 x1 x5 x6 u)
      else (X12_worst_b117 k25 x1 x2 x3 x5 u)))
  else ((aI skM u 18 x8).bind fun v88 => ((sI skM u 16 x8 v88).bind fun u89 => (k68 x1 x2 x3 x5 x6 (x8 + 1) u89))))
def X12_worst_l68 (k25 : Int32 → Int32 → Int64 → Int32 → gM → Option (Int64 × gM)) : Nat → Int32 → Int32 → Int64 → Int32 → Int64 → Int32 → gM → Option (Int64 × gM)
  | 0, _, _, _, _, _, _, _ => none
  | n + 1, x1, x2, x3, x5, x6, x8, u => X12_worst_b68 k25 (X12_worst_l68 k25 n) x1 x2 x3 x5 x6 x8 u
def X12_worst_b25 (k25 : Int32 → Int32 → Int64 → Int32 → gM → Option (Int64 × gM)) (x1 : Int32) (x2 : Int32) (x3 : Int64) (x5 : Int32) (u : gM) : Option (Int64 × gM) :=
((aI skM u 1 1).bind fun v32 => (if v32 ≤ x5 then (if x2 = (-1) then (X12_worst_b144 (-1) u)
    else (if x1 = 0 then (X12_worst_b144 x2.toInt64 u)
      else (X12_worst_b144 x3 u)))
  else ((X12_isOpen u x5).bind fun w39 => (if w39 = 0 then (X12_worst_b117 k25 x1 x2 x3 x5 u)
    else ((X12_falls x5 0 u).bind fun w52 => ((X12_sums w52.2 342).bind fun w60 => (X12_worst_l68 k25 fz x1 x2 x3 x5 w60 0 w52.2)))))))
def X12_worst_l25  : Nat → Int32 → Int32 → Int64 → Int32 → gM → Option (Int64 × gM)
  | 0, _, _, _, _, _ => none
  | n + 1, x1, x2, x3, x5, u => X12_worst_b25  (X12_worst_l25  n) x1 x2 x3 x5 u
def X12_worst  (x1 : Int32) (u : gM) : Option (Int64 × gM) :=
((X12_isIn u x1.toInt64 0 1).bind fun w4 => (if w4 = 0 then some ((-1), u)
  else ((X12_laysAside u).bind fun w15 => (X12_worst_l25 fz x1 (-1) 0 0 w15))))
set_option maxRecDepth 20000 in
theorem v_X12_worst_b144 {κ : gK} {B : Nat} {u : gM} (X : gX κ B skM cX12_worst 9 RX12 (some .long) 8 203)   {s0 : Int64} {w : (Int64 × gM)} (hM : X12_worst_b144 s0 u = some w) : gV κ B skM 9 ((some (.long w.1)), w.2) 144 [none, none, none, none, none, none, none, none, none] [.long s0] u := by
  unfold X12_worst_b144 at hM
  cases hM
  exact g_lret X dX12_worst_144
set_option maxRecDepth 20000 in
theorem v_X12_worst_b117 {κ : gK} {B : Nat} {u : gM} (X : gX κ B skM cX12_worst 9 RX12 (some .long) 8 203) {k25 : Int32 → Int32 → Int64 → Int32 → gM → Option (Int64 × gM)} (ih25 : ∀ (x1 : Int32) (x2 : Int32) (x3 : Int64) (x5 : Int32) (u : gM) (w : (Int64 × gM)), k25 x1 x2 x3 x5 u = some w → gV κ B skM 9 ((some (.long w.1)), w.2) 25 [some (.ref (B + 0)), some (.int x1), some (.int x2), some (.long x3), none, some (.int x5), none, none, none] [] u) {x1 : Int32} {x2 : Int32} {x3 : Int64} {x5 : Int32} {w : (Int64 × gM)} (hM : X12_worst_b117 k25 x1 x2 x3 x5 u = some w) : gV κ B skM 9 ((some (.long w.1)), w.2) 117 [some (.ref (B + 0)), some (.int x1), some (.int x2), some (.long x3), none, some (.int x5), none, none, none] [] u := by
  unfold X12_worst_b117 at hM
  refine g_iinc (d := 1) X [some (.ref (B + 0)), some (.int x1), some (.int x2), some (.long x3), none, some (.int (x5 + 1)), none, none, none] dX12_worst_117 (by decide) rfl (by decide) rfl ?_
  refine g_goto (tgt := 25) X dX12_worst_120 (by decide) ?_
  refine g_mk [true, true, true, true, false, true, false, false, false] [some (.ref (B + 0)), some (.int x1), some (.int x2), some (.long x3), none, some (.int (x5 + 1)), none, none, none] rfl ?_
  exact ih25 x1 x2 x3 (x5 + 1) u _ hM
set_option maxRecDepth 20000 in
theorem v_X12_worst_b111 {κ : gK} {B : Nat} {u : gM} (X : gX κ B skM cX12_worst 9 RX12 (some .long) 8 203) {k25 : Int32 → Int32 → Int64 → Int32 → gM → Option (Int64 × gM)} (ih25 : ∀ (x1 : Int32) (x2 : Int32) (x3 : Int64) (x5 : Int32) (u : gM) (w : (Int64 × gM)), k25 x1 x2 x3 x5 u = some w → gV κ B skM 9 ((some (.long w.1)), w.2) 25 [some (.ref (B + 0)), some (.int x1), some (.int x2), some (.long x3), none, some (.int x5), none, none, none] [] u) {x1 : Int32} {x5 : Int32} {x6 : Int64} {w : (Int64 × gM)} (hM : X12_worst_b111 k25 x1 x5 x6 u = some w) : gV κ B skM 9 ((some (.long w.1)), w.2) 111 [some (.ref (B + 0)), some (.int x1), none, none, none, some (.int x5), some (.long x6), none, none] [] u := by
  unfold X12_worst_b111 at hM
  refine g_iload X dX12_worst_111 rfl ?_
  refine g_istore_n X [some (.ref (B + 0)), some (.int x1), some (.int x5), none, none, some (.int x5), some (.long x6), none, none] dX12_worst_113 (by decide) rfl ?_
  refine g_lload X dX12_worst_114 rfl ?_
  refine g_lstore_n X [some (.ref (B + 0)), some (.int x1), some (.int x5), some (.long x6), none, some (.int x5), some (.long x6), none, none] dX12_worst_116 (by decide) rfl ?_
  refine g_mk [true, true, true, true, false, true, false, false, false] [some (.ref (B + 0)), some (.int x1), some (.int x5), some (.long x6), none, some (.int x5), none, none, none] rfl ?_
  exact v_X12_worst_b117 X ih25 hM
set_option maxRecDepth 20000 in
theorem v_X12_worst_b68 {κ : gK} {B : Nat} {u : gM} (X : gX κ B skM cX12_worst 9 RX12 (some .long) 8 203) {k25 : Int32 → Int32 → Int64 → Int32 → gM → Option (Int64 × gM)} {k68 : Int32 → Int32 → Int64 → Int32 → Int64 → Int32 → gM → Option (Int64 × gM)} (ih25 : ∀ (x1 : Int32) (x2 : Int32) (x3 : Int64) (x5 : Int32) (u : gM) (w : (Int64 × gM)), k25 x1 x2 x3 x5 u = some w → gV κ B skM 9 ((some (.long w.1)), w.2) 25 [some (.ref (B + 0)), some (.int x1), some (.int x2), some (.long x3), none, some (.int x5), none, none, none] [] u) (ih68 : ∀ (x1 : Int32) (x2 : Int32) (x3 : Int64) (x5 : Int32) (x6 : Int64) (x8 : Int32) (u : gM) (w : (Int64 × gM)), k68 x1 x2 x3 x5 x6 x8 u = some w → gV κ B skM 9 ((some (.long w.1)), w.2) 68 [some (.ref (B + 0)), some (.int x1), some (.int x2), some (.long x3), none, some (.int x5), some (.long x6), none, some (.int x8)] [] u) {x1 : Int32} {x2 : Int32} {x3 : Int64} {x5 : Int32} {x6 : Int64} {x8 : Int32} {w : (Int64 × gM)} (hM : X12_worst_b68 k25 k68 x1 x2 x3 x5 x6 x8 u = some w) : gV κ B skM 9 ((some (.long w.1)), w.2) 68 [some (.ref (B + 0)), some (.int x1), some (.int x2), some (.long x3), none, some (.int x5), some (.long x6), none, some (.int x8)] [] u := by
  unfold X12_worst_b68 at hM
  refine g_iload X dX12_worst_68 rfl ?_
  refine g_sipush X (v := 439) dX12_worst_70 (by decide) ?_
  refine g_icmp_ge (tgt := 96) X dX12_worst_73 (by decide) (fun c73 => ?_) (fun c73 => ?_)
  · rw [if_pos c73] at hM
    refine g_iload_n X dX12_worst_96 rfl ?_
    refine g_iconst X (v := (-1)) dX12_worst_97 (by decide) ?_
    refine g_icmp_eq (tgt := 111) X dX12_worst_98 (by decide) (fun c98 => ?_) (fun c98 => ?_)
    · rw [if_pos c98] at hM
      refine g_mk [true, true, false, false, false, true, true, false, false] [some (.ref (B + 0)), some (.int x1), none, none, none, some (.int x5), some (.long x6), none, none] rfl ?_
      exact v_X12_worst_b111 X ih25 hM
    · rw [if_neg c98] at hM
      refine g_lload X dX12_worst_101 rfl ?_
      refine g_lload_n X dX12_worst_103 rfl ?_
      refine g_lcmp X dX12_worst_104 ?_
      refine g_if_gt (tgt := 111) X dX12_worst_105 (by decide) (fun c105 => ?_) (fun c105 => ?_)
      · rw [if_pos c105] at hM
        refine g_mk [true, true, false, false, false, true, true, false, false] [some (.ref (B + 0)), some (.int x1), none, none, none, some (.int x5), some (.long x6), none, none] rfl ?_
        exact v_X12_worst_b111 X ih25 hM
      · rw [if_neg c105] at hM
        refine g_goto (tgt := 117) X dX12_worst_108 (by decide) ?_
        refine g_mk [true, true, true, true, false, true, false, false, false] [some (.ref (B + 0)), some (.int x1), some (.int x2), some (.long x3), none, some (.int x5), none, none, none] rfl ?_
        exact v_X12_worst_b117 X ih25 hM
  · rw [if_neg c73] at hM
    refine g_aload_n X dX12_worst_76 rfl ?_
    refine g_getR X fX12_56 cM_0 rfl dX12_worst_77 ?_
    refine g_iload X dX12_worst_80 rfl ?_
    refine g_aload_n X dX12_worst_82 rfl ?_
    refine g_getR X fX12_62 cM_0 rfl dX12_worst_83 ?_
    refine g_iload X dX12_worst_86 rfl ?_
    obtain ⟨v88, e88, hM⟩ := bind_of hM
    refine g_iaload X e88 dX12_worst_88 ?_
    obtain ⟨u89, e89, hM⟩ := bind_of hM
    refine g_iastore X e89 dX12_worst_89 ?_
    refine g_iinc (d := 1) X [some (.ref (B + 0)), some (.int x1), some (.int x2), some (.long x3), none, some (.int x5), some (.long x6), none, some (.int (x8 + 1))] dX12_worst_90 (by decide) rfl (by decide) rfl ?_
    refine g_goto (tgt := 68) X dX12_worst_93 (by decide) ?_
    refine g_mk [true, true, true, true, false, true, true, false, true] [some (.ref (B + 0)), some (.int x1), some (.int x2), some (.long x3), none, some (.int x5), some (.long x6), none, some (.int (x8 + 1))] rfl ?_
    exact ih68 x1 x2 x3 x5 x6 (x8 + 1) u89 _ hM
theorem v_X12_worst_l68 {κ : gK} {B : Nat} (X : gX κ B skM cX12_worst 9 RX12 (some .long) 8 203) {k25 : Int32 → Int32 → Int64 → Int32 → gM → Option (Int64 × gM)} (ih25 : ∀ (x1 : Int32) (x2 : Int32) (x3 : Int64) (x5 : Int32) (u : gM) (w : (Int64 × gM)), k25 x1 x2 x3 x5 u = some w → gV κ B skM 9 ((some (.long w.1)), w.2) 25 [some (.ref (B + 0)), some (.int x1), some (.int x2), some (.long x3), none, some (.int x5), none, none, none] [] u) : ∀ (n : Nat) {x1 : Int32} {x2 : Int32} {x3 : Int64} {x5 : Int32} {x6 : Int64} {x8 : Int32} {u : gM} {w : (Int64 × gM)} (hM : X12_worst_l68 k25 n x1 x2 x3 x5 x6 x8 u = some w), gV κ B skM 9 ((some (.long w.1)), w.2) 68 [some (.ref (B + 0)), some (.int x1), some (.int x2), some (.long x3), none, some (.int x5), some (.long x6), none, some (.int x8)] [] u := by
  intro n
  induction n with
  | zero => intro x1 x2 x3 x5 x6 x8 u w hM; exact nomatch (show (none : Option (Int64 × gM)) = some w from hM)
  | succ n ihn => intro x1 x2 x3 x5 x6 x8 u w hM; exact v_X12_worst_b68 X ih25 (fun x1 x2 x3 x5 x6 x8 u w h => ihn h) hM
set_option maxRecDepth 20000 in
theorem v_X12_worst_b25 {κ : gK} {B : Nat} {u : gM} (X : gX κ B skM cX12_worst 9 RX12 (some .long) 8 203) {k25 : Int32 → Int32 → Int64 → Int32 → gM → Option (Int64 × gM)} (ih25 : ∀ (x1 : Int32) (x2 : Int32) (x3 : Int64) (x5 : Int32) (u : gM) (w : (Int64 × gM)), k25 x1 x2 x3 x5 u = some w → gV κ B skM 9 ((some (.long w.1)), w.2) 25 [some (.ref (B + 0)), some (.int x1), some (.int x2), some (.long x3), none, some (.int x5), none, none, none] [] u) {x1 : Int32} {x2 : Int32} {x3 : Int64} {x5 : Int32} {w : (Int64 × gM)} (hM : X12_worst_b25 k25 x1 x2 x3 x5 u = some w) : gV κ B skM 9 ((some (.long w.1)), w.2) 25 [some (.ref (B + 0)), some (.int x1), some (.int x2), some (.long x3), none, some (.int x5), none, none, none] [] u := by
  unfold X12_worst_b25 at hM
  refine g_iload X dX12_worst_25 rfl ?_
  refine g_aload_n X dX12_worst_27 rfl ?_
  refine g_getR X fX12_7 cM_0 rfl dX12_worst_28 ?_
  refine g_iconst X (v := 1) dX12_worst_31 (by decide) ?_
  obtain ⟨v32, e32, hM⟩ := bind_of hM
  refine g_iaload X e32 dX12_worst_32 ?_
  refine g_icmp_ge (tgt := 123) X dX12_worst_33 (by decide) (fun c33 => ?_) (fun c33 => ?_)
  · rw [if_pos c33] at hM
    refine g_iload_n X dX12_worst_123 rfl ?_
    refine g_iconst X (v := (-1)) dX12_worst_124 (by decide) ?_
    refine g_icmp_ne (tgt := 134) X dX12_worst_125 (by decide) (fun c125 => ?_) (fun c125 => ?_)
    · rw [if_neg c125] at hM
      refine g_iload_n X dX12_worst_134 rfl ?_
      refine g_if_ne (tgt := 143) X dX12_worst_135 (by decide) (fun c135 => ?_) (fun c135 => ?_)
      · rw [if_neg c135] at hM
        refine g_lload_n X dX12_worst_143 rfl ?_
        refine g_mk [false, false, false, false, false, false, false, false, false] [none, none, none, none, none, none, none, none, none] rfl ?_
        exact v_X12_worst_b144 X  hM
      · rw [if_pos c135] at hM
        refine g_iload_n X dX12_worst_138 rfl ?_
        refine g_i2l X dX12_worst_139 ?_
        refine g_goto (tgt := 144) X dX12_worst_140 (by decide) ?_
        refine g_mk [false, false, false, false, false, false, false, false, false] [none, none, none, none, none, none, none, none, none] rfl ?_
        exact v_X12_worst_b144 X  hM
    · rw [if_pos c125] at hM
      refine g_ldc2 (v := (-1)) X m_43_8 dX12_worst_128 ?_
      refine g_goto (tgt := 144) X dX12_worst_131 (by decide) ?_
      refine g_mk [false, false, false, false, false, false, false, false, false] [none, none, none, none, none, none, none, none, none] rfl ?_
      exact v_X12_worst_b144 X  hM
  · rw [if_neg c33] at hM
    refine g_aload_n X dX12_worst_36 rfl ?_
    refine g_iload X dX12_worst_37 rfl ?_
    obtain ⟨w39, e39, hM⟩ := bind_of hM
    refine g_callVi X (fun B adK => [.int x5]) (s_X12_isOpen e39) cvX12_372 cM_0 rfl rfl (Nat.le_of_ble_eq_true rfl) ⟨by decide, by decide⟩ dX12_worst_39 ?_
    refine g_if_ne (tgt := 48) X dX12_worst_42 (by decide) (fun c42 => ?_) (fun c42 => ?_)
    · rw [if_neg c42] at hM
      refine g_aload_n X dX12_worst_48 rfl ?_
      refine g_iload X dX12_worst_49 rfl ?_
      refine g_iconst X (v := 0) dX12_worst_51 (by decide) ?_
      obtain ⟨w52, e52, hM⟩ := bind_of hM
      refine g_callVi X (fun B adK => [.int x5, .int 0]) (s_X12_falls e52) cvX12_413 cM_0 rfl rfl (Nat.le_of_ble_eq_true rfl) ⟨by decide, by decide⟩ dX12_worst_52 ?_
      refine g_pop X rfl dX12_worst_55 ?_
      refine g_aload_n X dX12_worst_56 rfl ?_
      refine g_sipush X (v := 342) dX12_worst_57 (by decide) ?_
      obtain ⟨w60, e60, hM⟩ := bind_of hM
      refine g_callVl X (fun B adK => [.int 342]) (s_X12_sums e60) cvX12_460 cM_0 rfl rfl (Nat.le_of_ble_eq_true rfl) ⟨by decide, by decide⟩ dX12_worst_60 ?_
      refine g_lstore X [some (.ref (B + 0)), some (.int x1), some (.int x2), some (.long x3), none, some (.int x5), some (.long w60), none, none] dX12_worst_63 (by decide) rfl ?_
      refine g_iconst X (v := 0) dX12_worst_65 (by decide) ?_
      refine g_istore X [some (.ref (B + 0)), some (.int x1), some (.int x2), some (.long x3), none, some (.int x5), some (.long w60), none, some (.int 0)] dX12_worst_66 (by decide) rfl ?_
      refine g_mk [true, true, true, true, false, true, true, false, true] [some (.ref (B + 0)), some (.int x1), some (.int x2), some (.long x3), none, some (.int x5), some (.long w60), none, some (.int 0)] rfl ?_
      exact v_X12_worst_l68 X ih25 fz hM
    · rw [if_pos c42] at hM
      refine g_goto (tgt := 117) X dX12_worst_45 (by decide) ?_
      refine g_mk [true, true, true, true, false, true, false, false, false] [some (.ref (B + 0)), some (.int x1), some (.int x2), some (.long x3), none, some (.int x5), none, none, none] rfl ?_
      exact v_X12_worst_b117 X ih25 hM
theorem v_X12_worst_l25 {κ : gK} {B : Nat} (X : gX κ B skM cX12_worst 9 RX12 (some .long) 8 203)   : ∀ (n : Nat) {x1 : Int32} {x2 : Int32} {x3 : Int64} {x5 : Int32} {u : gM} {w : (Int64 × gM)} (hM : X12_worst_l25  n x1 x2 x3 x5 u = some w), gV κ B skM 9 ((some (.long w.1)), w.2) 25 [some (.ref (B + 0)), some (.int x1), some (.int x2), some (.long x3), none, some (.int x5), none, none, none] [] u := by
  intro n
  induction n with
  | zero => intro x1 x2 x3 x5 u w hM; exact nomatch (show (none : Option (Int64 × gM)) = some w from hM)
  | succ n ihn => intro x1 x2 x3 x5 u w hM; exact v_X12_worst_b25 X  (fun x1 x2 x3 x5 u w h => ihn h) hM
set_option maxRecDepth 20000 in
theorem v_X12_worst {κ : gK} {B : Nat} {u : gM} (X : gX κ B skM cX12_worst 9 RX12 (some .long) 8 203)   {x1 : Int32} {w : (Int64 × gM)} (hM : X12_worst x1 u = some w) : gV κ B skM 9 ((some (.long w.1)), w.2) 0 [some (.ref (B + 0)), some (.int x1), none, none, none, none, none, none, none] [] u := by
  unfold X12_worst at hM
  refine g_iload_n X dX12_worst_0 rfl ?_
  refine g_i2l X dX12_worst_1 ?_
  refine g_lconst (v := 0) X dX12_worst_2 (by decide) ?_
  refine g_lconst (v := 1) X dX12_worst_3 (by decide) ?_
  obtain ⟨w4, e4, hM⟩ := bind_of hM
  refine g_callSi X (fun B adK => [.long x1.toInt64, .long 0, .long 1]) (s_X12_isIn e4) cvX12_125 rfl rfl (Nat.le_of_ble_eq_true rfl) ⟨by decide, by decide⟩ dX12_worst_4 ?_
  refine g_if_ne (tgt := 14) X dX12_worst_7 (by decide) (fun c7 => ?_) (fun c7 => ?_)
  · rw [if_neg c7] at hM
    refine g_aload_n X dX12_worst_14 rfl ?_
    obtain ⟨w15, e15, hM⟩ := bind_of hM
    refine g_callVv X (fun B adK => []) (s_X12_laysAside e15) cvX12_390 cM_0 rfl rfl (Nat.le_of_ble_eq_true rfl) ⟨by decide, by decide⟩ dX12_worst_15 ?_
    refine g_iconst X (v := (-1)) dX12_worst_18 (by decide) ?_
    refine g_istore_n X [some (.ref (B + 0)), some (.int x1), some (.int (-1)), none, none, none, none, none, none] dX12_worst_19 (by decide) rfl ?_
    refine g_lconst (v := 0) X dX12_worst_20 (by decide) ?_
    refine g_lstore_n X [some (.ref (B + 0)), some (.int x1), some (.int (-1)), some (.long 0), none, none, none, none, none] dX12_worst_21 (by decide) rfl ?_
    refine g_iconst X (v := 0) dX12_worst_22 (by decide) ?_
    refine g_istore X [some (.ref (B + 0)), some (.int x1), some (.int (-1)), some (.long 0), none, some (.int 0), none, none, none] dX12_worst_23 (by decide) rfl ?_
    refine g_mk [true, true, true, true, false, true, false, false, false] [some (.ref (B + 0)), some (.int x1), some (.int (-1)), some (.long 0), none, some (.int 0), none, none, none] rfl ?_
    exact v_X12_worst_l25 X  fz hM
  · rw [if_pos c7] at hM
    refine g_ldc2 (v := (-1)) X m_43_8 dX12_worst_10 ?_
    cases hM
    exact g_lret X dX12_worst_13
theorem s_X12_worst {x1 : Int32} {u : gM} {w : (Int64 × gM)} (hM : X12_worst x1 u = some w) : gMet skM yX12_worst cX12_worst 9 (some .long) 8 203 (fun B adK => [.ref (B + 0), .int x1]) u ((fun _ => some (.long w.1)), w.2) := by
  refine gMet.of (by decide) (fun _ _ => Nat.le_of_ble_eq_true rfl) (fun κ B X => ?_)
  have X : gX κ B skM cX12_worst 9 RX12 (some .long) 8 203 := X
  refine g_mk [true, true, false, false, false, false, false, false, false] [some (.ref (B + 0)), some (.int x1), none, none, none, none, none, none, none] rfl ?_
  exact v_X12_worst X  hM
theorem fr_X12_worst_b144 {S : Nat → Prop} {u0 u : gM} {s0 : Int64}    {w : (Int64 × gM)} (hM : X12_worst_b144 s0 u = some w) (h0 : off S u0 u) : off S u0 w.2 := by
  unfold X12_worst_b144 at hM
  cases hM
  exact h0
theorem fr_X12_worst_b117 {S : Nat → Prop} {u0 u : gM} {x1 : Int32} {x2 : Int32} {x3 : Int64} {x5 : Int32} (hs0 : S 16) (hs1 : S 20) (hs2 : S 21) (hs3 : S 22) (hs4 : S 23) (hs5 : S 24) (hs6 : S 25) (hs7 : S 26) {k25 : Int32 → Int32 → Int64 → Int32 → gM → Option (Int64 × gM)} (ik25 : ∀ (x1 : Int32) (x2 : Int32) (x3 : Int64) (x5 : Int32) (u : gM) (w : (Int64 × gM)), S 16 → S 20 → S 21 → S 22 → S 23 → S 24 → S 25 → S 26 → off S u0 u → k25 x1 x2 x3 x5 u = some w → off S u0 w.2) {w : (Int64 × gM)} (hM : X12_worst_b117 k25 x1 x2 x3 x5 u = some w) (h0 : off S u0 u) : off S u0 w.2 := by
  unfold X12_worst_b117 at hM
  exact ik25 _ _ _ _ _ _ hs0 hs1 hs2 hs3 hs4 hs5 hs6 hs7 h0 hM
theorem fr_X12_worst_b111 {S : Nat → Prop} {u0 u : gM} {x1 : Int32} {x5 : Int32} {x6 : Int64} (hs0 : S 16) (hs1 : S 20) (hs2 : S 21) (hs3 : S 22) (hs4 : S 23) (hs5 : S 24) (hs6 : S 25) (hs7 : S 26) {k25 : Int32 → Int32 → Int64 → Int32 → gM → Option (Int64 × gM)} (ik25 : ∀ (x1 : Int32) (x2 : Int32) (x3 : Int64) (x5 : Int32) (u : gM) (w : (Int64 × gM)), S 16 → S 20 → S 21 → S 22 → S 23 → S 24 → S 25 → S 26 → off S u0 u → k25 x1 x2 x3 x5 u = some w → off S u0 w.2) {w : (Int64 × gM)} (hM : X12_worst_b111 k25 x1 x5 x6 u = some w) (h0 : off S u0 u) : off S u0 w.2 := by
  unfold X12_worst_b111 at hM
  exact fr_X12_worst_b117 hs0 hs1 hs2 hs3 hs4 hs5 hs6 hs7 ik25 hM h0
theorem fr_X12_worst_b68 {S : Nat → Prop} {u0 u : gM} {x1 : Int32} {x2 : Int32} {x3 : Int64} {x5 : Int32} {x6 : Int64} {x8 : Int32} (hs0 : S 16) (hs1 : S 20) (hs2 : S 21) (hs3 : S 22) (hs4 : S 23) (hs5 : S 24) (hs6 : S 25) (hs7 : S 26) {k25 : Int32 → Int32 → Int64 → Int32 → gM → Option (Int64 × gM)} {k68 : Int32 → Int32 → Int64 → Int32 → Int64 → Int32 → gM → Option (Int64 × gM)} (ik25 : ∀ (x1 : Int32) (x2 : Int32) (x3 : Int64) (x5 : Int32) (u : gM) (w : (Int64 × gM)), S 16 → S 20 → S 21 → S 22 → S 23 → S 24 → S 25 → S 26 → off S u0 u → k25 x1 x2 x3 x5 u = some w → off S u0 w.2) (ik68 : ∀ (x1 : Int32) (x2 : Int32) (x3 : Int64) (x5 : Int32) (x6 : Int64) (x8 : Int32) (u : gM) (w : (Int64 × gM)), S 16 → S 20 → S 21 → S 22 → S 23 → S 24 → S 25 → S 26 → off S u0 u → k68 x1 x2 x3 x5 x6 x8 u = some w → off S u0 w.2) {w : (Int64 × gM)} (hM : X12_worst_b68 k25 k68 x1 x2 x3 x5 x6 x8 u = some w) (h0 : off S u0 u) : off S u0 w.2 := by
  unfold X12_worst_b68 at hM
  by_cases c73 : 439 ≤ x8
  · rw [if_pos c73] at hM
    by_cases c98 : x2 = (-1)
    · rw [if_pos c98] at hM
      exact fr_X12_worst_b111 hs0 hs1 hs2 hs3 hs4 hs5 hs6 hs7 ik25 hM h0
    · rw [if_neg c98] at hM
      by_cases c105 : 0 < (lg_cmp x6 x3)
      · rw [if_pos c105] at hM
        exact fr_X12_worst_b111 hs0 hs1 hs2 hs3 hs4 hs5 hs6 hs7 ik25 hM h0
      · rw [if_neg c105] at hM
        exact fr_X12_worst_b117 hs0 hs1 hs2 hs3 hs4 hs5 hs6 hs7 ik25 hM h0
  · rw [if_neg c73] at hM
    obtain ⟨v88, e88, hM⟩ := bind_of hM
    obtain ⟨u89, e89, hM⟩ := bind_of hM
    have h0 := off_sI hs0 e89 h0
    exact ik68 _ _ _ _ _ _ _ _ hs0 hs1 hs2 hs3 hs4 hs5 hs6 hs7 h0 hM
theorem fr_X12_worst_l68 {S : Nat → Prop} {u0 : gM} {k25 : Int32 → Int32 → Int64 → Int32 → gM → Option (Int64 × gM)} (ik25 : ∀ (x1 : Int32) (x2 : Int32) (x3 : Int64) (x5 : Int32) (u : gM) (w : (Int64 × gM)), S 16 → S 20 → S 21 → S 22 → S 23 → S 24 → S 25 → S 26 → off S u0 u → k25 x1 x2 x3 x5 u = some w → off S u0 w.2) : ∀ (n : Nat) {x1 : Int32} {x2 : Int32} {x3 : Int64} {x5 : Int32} {x6 : Int64} {x8 : Int32} (hs0 : S 16) (hs1 : S 20) (hs2 : S 21) (hs3 : S 22) (hs4 : S 23) (hs5 : S 24) (hs6 : S 25) (hs7 : S 26) {u : gM} {w : (Int64 × gM)} (h0 : off S u0 u) (hM : X12_worst_l68 k25 n x1 x2 x3 x5 x6 x8 u = some w), off S u0 w.2 := by
  intro n
  induction n with
  | zero => intro x1 x2 x3 x5 x6 x8 hs0 hs1 hs2 hs3 hs4 hs5 hs6 hs7 u w h0 hM; exact nomatch (show (none : Option (Int64 × gM)) = some w from hM)
  | succ n ihn => intro x1 x2 x3 x5 x6 x8 hs0 hs1 hs2 hs3 hs4 hs5 hs6 hs7 u w h0 hM; exact fr_X12_worst_b68 hs0 hs1 hs2 hs3 hs4 hs5 hs6 hs7 ik25 (fun x1 x2 x3 x5 x6 x8 _ _ hs0 hs1 hs2 hs3 hs4 hs5 hs6 hs7 h0 h => ihn hs0 hs1 hs2 hs3 hs4 hs5 hs6 hs7 h0 h) hM h0
theorem fr_X12_worst_b25 {S : Nat → Prop} {u0 u : gM} {x1 : Int32} {x2 : Int32} {x3 : Int64} {x5 : Int32} (hs0 : S 16) (hs1 : S 20) (hs2 : S 21) (hs3 : S 22) (hs4 : S 23) (hs5 : S 24) (hs6 : S 25) (hs7 : S 26) {k25 : Int32 → Int32 → Int64 → Int32 → gM → Option (Int64 × gM)} (ik25 : ∀ (x1 : Int32) (x2 : Int32) (x3 : Int64) (x5 : Int32) (u : gM) (w : (Int64 × gM)), S 16 → S 20 → S 21 → S 22 → S 23 → S 24 → S 25 → S 26 → off S u0 u → k25 x1 x2 x3 x5 u = some w → off S u0 w.2) {w : (Int64 × gM)} (hM : X12_worst_b25 k25 x1 x2 x3 x5 u = some w) (h0 : off S u0 u) : off S u0 w.2 := by
  unfold X12_worst_b25 at hM
  obtain ⟨v32, e32, hM⟩ := bind_of hM
  by_cases c33 : v32 ≤ x5
  · rw [if_pos c33] at hM
    by_cases c125 : x2 = (-1)
    · rw [if_pos c125] at hM
      exact fr_X12_worst_b144   hM h0
    · rw [if_neg c125] at hM
      by_cases c135 : x1 = 0
      · rw [if_pos c135] at hM
        exact fr_X12_worst_b144   hM h0
      · rw [if_neg c135] at hM
        exact fr_X12_worst_b144   hM h0
  · rw [if_neg c33] at hM
    obtain ⟨w39, e39, hM⟩ := bind_of hM
    by_cases c42 : w39 = 0
    · rw [if_pos c42] at hM
      exact fr_X12_worst_b117 hs0 hs1 hs2 hs3 hs4 hs5 hs6 hs7 ik25 hM h0
    · rw [if_neg c42] at hM
      obtain ⟨w52, e52, hM⟩ := bind_of hM
      have h0 := fr_X12_falls hs0 hs1 hs2 hs3 hs4 hs5 hs6 hs7 e52 h0
      obtain ⟨w60, e60, hM⟩ := bind_of hM
      exact fr_X12_worst_l68 ik25 fz hs0 hs1 hs2 hs3 hs4 hs5 hs6 hs7 h0 hM
theorem fr_X12_worst_l25 {S : Nat → Prop} {u0 : gM}   : ∀ (n : Nat) {x1 : Int32} {x2 : Int32} {x3 : Int64} {x5 : Int32} (hs0 : S 16) (hs1 : S 20) (hs2 : S 21) (hs3 : S 22) (hs4 : S 23) (hs5 : S 24) (hs6 : S 25) (hs7 : S 26) {u : gM} {w : (Int64 × gM)} (h0 : off S u0 u) (hM : X12_worst_l25  n x1 x2 x3 x5 u = some w), off S u0 w.2 := by
  intro n
  induction n with
  | zero => intro x1 x2 x3 x5 hs0 hs1 hs2 hs3 hs4 hs5 hs6 hs7 u w h0 hM; exact nomatch (show (none : Option (Int64 × gM)) = some w from hM)
  | succ n ihn => intro x1 x2 x3 x5 hs0 hs1 hs2 hs3 hs4 hs5 hs6 hs7 u w h0 hM; exact fr_X12_worst_b25 hs0 hs1 hs2 hs3 hs4 hs5 hs6 hs7  (fun x1 x2 x3 x5 _ _ hs0 hs1 hs2 hs3 hs4 hs5 hs6 hs7 h0 h => ihn hs0 hs1 hs2 hs3 hs4 hs5 hs6 hs7 h0 h) hM h0
theorem fr_X12_worst {S : Nat → Prop} {u0 u : gM} {x1 : Int32} (hs0 : S 16) (hs1 : S 18) (hs2 : S 20) (hs3 : S 21) (hs4 : S 22) (hs5 : S 23) (hs6 : S 24) (hs7 : S 25) (hs8 : S 26)   {w : (Int64 × gM)} (hM : X12_worst x1 u = some w) (h0 : off S u0 u) : off S u0 w.2 := by
  unfold X12_worst at hM
  obtain ⟨w4, e4, hM⟩ := bind_of hM
  by_cases c7 : w4 = 0
  · rw [if_pos c7] at hM
    cases hM
    exact h0
  · rw [if_neg c7] at hM
    obtain ⟨w15, e15, hM⟩ := bind_of hM
    have h0 := fr_X12_laysAside hs1 e15 h0
    exact fr_X12_worst_l25  fz hs0 hs2 hs3 hs4 hs5 hs6 hs7 hs8 h0 hM

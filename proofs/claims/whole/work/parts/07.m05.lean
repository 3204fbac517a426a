/-! CoverDesk.total(I)J -/
theorem dX11_total_0 : decode cX11_total 0 = .ok (.aload_n 0, 1) := by decide +kernel
theorem dX11_total_1 : decode cX11_total 1 = .ok (.getfield 26, 3) := by decide +kernel
theorem dX11_total_4 : decode cX11_total 4 = .ok (.getfield 307, 3) := by decide +kernel
theorem dX11_total_7 : decode cX11_total 7 = .ok (.astore_n 2, 1) := by decide +kernel
theorem dX11_total_8 : decode cX11_total 8 = .ok (.aload_n 2, 1) := by decide +kernel
theorem dX11_total_9 : decode cX11_total 9 = .ok (.getfield 314, 3) := by decide +kernel
theorem dX11_total_12 : decode cX11_total 12 = .ok (.iconst (-1), 1) := by decide +kernel
theorem dX11_total_13 : decode cX11_total 13 = .ok (.if_icmp .ne 7, 3) := by decide +kernel
theorem dX11_total_16 : decode cX11_total 16 = .ok (.ldc2_w 250, 3) := by decide +kernel
theorem dX11_total_19 : decode cX11_total 19 = .ok (.lreturn, 1) := by decide +kernel
theorem dX11_total_20 : decode cX11_total 20 = .ok (.iload_n 1, 1) := by decide +kernel
theorem dX11_total_21 : decode cX11_total 21 = .ok (.tableswitch 74 0 5 #[39, 45, 51, 57, 63, 68], 39) := by decide +kernel
theorem dX11_total_60 : decode cX11_total 60 = .ok (.aload_n 2, 1) := by decide +kernel
theorem dX11_total_61 : decode cX11_total 61 = .ok (.getfield 314, 3) := by decide +kernel
theorem dX11_total_64 : decode cX11_total 64 = .ok (.i2l, 1) := by decide +kernel
theorem dX11_total_65 : decode cX11_total 65 = .ok (.lreturn, 1) := by decide +kernel
theorem dX11_total_66 : decode cX11_total 66 = .ok (.aload_n 2, 1) := by decide +kernel
theorem dX11_total_67 : decode cX11_total 67 = .ok (.iconst 0, 1) := by decide +kernel
theorem dX11_total_68 : decode cX11_total 68 = .ok (.invokevirtual 317, 3) := by decide +kernel
theorem dX11_total_71 : decode cX11_total 71 = .ok (.lreturn, 1) := by decide +kernel
theorem dX11_total_72 : decode cX11_total 72 = .ok (.aload_n 2, 1) := by decide +kernel
theorem dX11_total_73 : decode cX11_total 73 = .ok (.iconst 1, 1) := by decide +kernel
theorem dX11_total_74 : decode cX11_total 74 = .ok (.invokevirtual 317, 3) := by decide +kernel
theorem dX11_total_77 : decode cX11_total 77 = .ok (.lreturn, 1) := by decide +kernel
theorem dX11_total_78 : decode cX11_total 78 = .ok (.aload_n 2, 1) := by decide +kernel
theorem dX11_total_79 : decode cX11_total 79 = .ok (.iconst 2, 1) := by decide +kernel
theorem dX11_total_80 : decode cX11_total 80 = .ok (.invokevirtual 317, 3) := by decide +kernel
theorem dX11_total_83 : decode cX11_total 83 = .ok (.lreturn, 1) := by decide +kernel
theorem dX11_total_84 : decode cX11_total 84 = .ok (.aload_n 2, 1) := by decide +kernel
theorem dX11_total_85 : decode cX11_total 85 = .ok (.getfield 320, 3) := by decide +kernel
theorem dX11_total_88 : decode cX11_total 88 = .ok (.lreturn, 1) := by decide +kernel
theorem dX11_total_89 : decode cX11_total 89 = .ok (.aload_n 2, 1) := by decide +kernel
theorem dX11_total_90 : decode cX11_total 90 = .ok (.iconst 3, 1) := by decide +kernel
theorem dX11_total_91 : decode cX11_total 91 = .ok (.invokevirtual 317, 3) := by decide +kernel
theorem dX11_total_94 : decode cX11_total 94 = .ok (.lreturn, 1) := by decide +kernel
theorem dX11_total_95 : decode cX11_total 95 = .ok (.ldc2_w 250, 3) := by decide +kernel
theorem dX11_total_98 : decode cX11_total 98 = .ok (.lreturn, 1) := by decide +kernel
def X11_total (u : gM)  (x1 : Int32) : Option Int64 :=
(if (u.1 24 0) = (-1) then some (-1)
  else (if x1 = 0 then some ((u.1 24 0).toInt64)
    else (if x1 = 1 then ((X5_all u 24 0).bind fun w68 => some w68)
    else (if x1 = 2 then ((X5_all u 24 1).bind fun w74 => some w74)
    else (if x1 = 3 then ((X5_all u 24 2).bind fun w80 => some w80)
    else (if x1 = 4 then some (u.2 24 1)
    else (if x1 = 5 then ((X5_all u 24 3).bind fun w91 => some w91)
    else some (-1))))))))
set_option maxRecDepth 20000 in
theorem v_X11_total {κ : gK} {B : Nat} {u : gM} (X : gX κ B skC cX11_total 3 RX11 (some .long) 2 46)   {x1 : Int32} {w : Int64} (hM : X11_total u x1 = some w) : gV κ B skC 3 ((some (.long w)), u) 0 [some (.ref (B + 0)), some (.int x1), none] [] u := by
  unfold X11_total at hM
  refine g_aload_n X dX11_total_0 rfl ?_
  refine g_getR X fX11_26 cC_0 rfl dX11_total_1 ?_
  refine g_getR X fX11_307 cC_18 rfl dX11_total_4 ?_
  refine g_astore_n X [some (.ref (B + 0)), some (.int x1), some (.ref (B + 24))] dX11_total_7 (by decide) rfl ?_
  refine g_aload_n X dX11_total_8 rfl ?_
  refine g_getI X fX11_314 cC_24 rfl dX11_total_9 ?_
  refine g_iconst X (v := (-1)) dX11_total_12 (by decide) ?_
  refine g_icmp_ne (tgt := 20) X dX11_total_13 (by decide) (fun c13 => ?_) (fun c13 => ?_)
  · rw [if_neg c13] at hM
    refine g_iload_n X dX11_total_20 rfl ?_
    by_cases h21_0 : x1 = 0
    · rw [if_pos h21_0] at hM
      refine g_tabIn (tgt := 60) (off := 39) X 0 h21_0 dX11_total_21 (by decide) (by decide) (by decide) (by decide) ?_
      refine g_aload_n X dX11_total_60 rfl ?_
      refine g_getI X fX11_314 cC_24 rfl dX11_total_61 ?_
      refine g_i2l X dX11_total_64 ?_
      cases hM
      exact g_lret X dX11_total_65
    rw [if_neg h21_0] at hM
    by_cases h21_1 : x1 = 1
    · rw [if_pos h21_1] at hM
      refine g_tabIn (tgt := 66) (off := 45) X 1 h21_1 dX11_total_21 (by decide) (by decide) (by decide) (by decide) ?_
      refine g_aload_n X dX11_total_66 rfl ?_
      refine g_iconst X (v := 0) dX11_total_67 (by decide) ?_
      obtain ⟨w68, e68, hM⟩ := bind_of hM
      refine g_callVl X (fun B adK => [.int 0]) (s_X5_all e68) cvX11_317 cC_24 rfl rfl (Nat.le_of_ble_eq_true rfl) ⟨by decide, by decide⟩ dX11_total_68 ?_
      cases hM
      exact g_lret X dX11_total_71
    rw [if_neg h21_1] at hM
    by_cases h21_2 : x1 = 2
    · rw [if_pos h21_2] at hM
      refine g_tabIn (tgt := 72) (off := 51) X 2 h21_2 dX11_total_21 (by decide) (by decide) (by decide) (by decide) ?_
      refine g_aload_n X dX11_total_72 rfl ?_
      refine g_iconst X (v := 1) dX11_total_73 (by decide) ?_
      obtain ⟨w74, e74, hM⟩ := bind_of hM
      refine g_callVl X (fun B adK => [.int 1]) (s_X5_all e74) cvX11_317 cC_24 rfl rfl (Nat.le_of_ble_eq_true rfl) ⟨by decide, by decide⟩ dX11_total_74 ?_
      cases hM
      exact g_lret X dX11_total_77
    rw [if_neg h21_2] at hM
    by_cases h21_3 : x1 = 3
    · rw [if_pos h21_3] at hM
      refine g_tabIn (tgt := 78) (off := 57) X 3 h21_3 dX11_total_21 (by decide) (by decide) (by decide) (by decide) ?_
      refine g_aload_n X dX11_total_78 rfl ?_
      refine g_iconst X (v := 2) dX11_total_79 (by decide) ?_
      obtain ⟨w80, e80, hM⟩ := bind_of hM
      refine g_callVl X (fun B adK => [.int 2]) (s_X5_all e80) cvX11_317 cC_24 rfl rfl (Nat.le_of_ble_eq_true rfl) ⟨by decide, by decide⟩ dX11_total_80 ?_
      cases hM
      exact g_lret X dX11_total_83
    rw [if_neg h21_3] at hM
    by_cases h21_4 : x1 = 4
    · rw [if_pos h21_4] at hM
      refine g_tabIn (tgt := 84) (off := 63) X 4 h21_4 dX11_total_21 (by decide) (by decide) (by decide) (by decide) ?_
      refine g_aload_n X dX11_total_84 rfl ?_
      refine g_getJ X fX11_320 cC_24 rfl dX11_total_85 ?_
      cases hM
      exact g_lret X dX11_total_88
    rw [if_neg h21_4] at hM
    by_cases h21_5 : x1 = 5
    · rw [if_pos h21_5] at hM
      refine g_tabIn (tgt := 89) (off := 68) X 5 h21_5 dX11_total_21 (by decide) (by decide) (by decide) (by decide) ?_
      refine g_aload_n X dX11_total_89 rfl ?_
      refine g_iconst X (v := 3) dX11_total_90 (by decide) ?_
      obtain ⟨w91, e91, hM⟩ := bind_of hM
      refine g_callVl X (fun B adK => [.int 3]) (s_X5_all e91) cvX11_317 cC_24 rfl rfl (Nat.le_of_ble_eq_true rfl) ⟨by decide, by decide⟩ dX11_total_91 ?_
      cases hM
      exact g_lret X dX11_total_94
    rw [if_neg h21_5] at hM
    refine g_tabOut (tgt := 95) X dX11_total_21 (by have q0 := lv_neT (a := 0) h21_0 (by decide); have q1 := lv_neT (a := 1) h21_1 (by decide); have q2 := lv_neT (a := 2) h21_2 (by decide); have q3 := lv_neT (a := 3) h21_3 (by decide); have q4 := lv_neT (a := 4) h21_4 (by decide); have q5 := lv_neT (a := 5) h21_5 (by decide); omega) (by decide) ?_
    refine g_ldc2 (v := (-1)) X m_50_11 dX11_total_95 ?_
    cases hM
    exact g_lret X dX11_total_98
  · rw [if_pos c13] at hM
    refine g_ldc2 (v := (-1)) X m_50_11 dX11_total_16 ?_
    cases hM
    exact g_lret X dX11_total_19
theorem s_X11_total {x1 : Int32} {u : gM} {w : Int64} (hM : X11_total u x1 = some w) : gMet skC yX11_total cX11_total 3 (some .long) 2 46 (fun B adK => [.ref (B + 0), .int x1]) u ((fun _ => some (.long w)), u) := by
  refine gMet.of (by decide) (fun _ _ => Nat.le_of_ble_eq_true rfl) (fun κ B X => ?_)
  have X : gX κ B skC cX11_total 3 RX11 (some .long) 2 46 := X
  refine g_mk [true, true, false] [some (.ref (B + 0)), some (.int x1), none] rfl ?_
  exact v_X11_total X  hM

/-! CoverDesk$Past.restore(LCoverDesk$State;)Z -/
theorem dX7_restore_0 : decode cX7_restore 0 = .ok (.aload_n 0, 1) := by decide +kernel
theorem dX7_restore_1 : decode cX7_restore 1 = .ok (.getfield 18, 3) := by decide +kernel
theorem dX7_restore_4 : decode cX7_restore 4 = .ok (.ifCond .ne 5, 3) := by decide +kernel
theorem dX7_restore_7 : decode cX7_restore 7 = .ok (.iconst 0, 1) := by decide +kernel
theorem dX7_restore_8 : decode cX7_restore 8 = .ok (.ireturn, 1) := by decide +kernel
theorem dX7_restore_9 : decode cX7_restore 9 = .ok (.aload_n 0, 1) := by decide +kernel
theorem dX7_restore_10 : decode cX7_restore 10 = .ok (.aload_n 0, 1) := by decide +kernel
theorem dX7_restore_11 : decode cX7_restore 11 = .ok (.getfield 22, 3) := by decide +kernel
theorem dX7_restore_14 : decode cX7_restore 14 = .ok (.bipush 6, 2) := by decide +kernel
theorem dX7_restore_16 : decode cX7_restore 16 = .ok (.iadd, 1) := by decide +kernel
theorem dX7_restore_17 : decode cX7_restore 17 = .ok (.bipush 7, 2) := by decide +kernel
theorem dX7_restore_19 : decode cX7_restore 19 = .ok (.irem, 1) := by decide +kernel
theorem dX7_restore_20 : decode cX7_restore 20 = .ok (.putfield 22, 3) := by decide +kernel
theorem dX7_restore_23 : decode cX7_restore 23 = .ok (.aload_n 0, 1) := by decide +kernel
theorem dX7_restore_24 : decode cX7_restore 24 = .ok (.dup, 1) := by decide +kernel
theorem dX7_restore_25 : decode cX7_restore 25 = .ok (.getfield 18, 3) := by decide +kernel
theorem dX7_restore_28 : decode cX7_restore 28 = .ok (.iconst 1, 1) := by decide +kernel
theorem dX7_restore_29 : decode cX7_restore 29 = .ok (.isub, 1) := by decide +kernel
theorem dX7_restore_30 : decode cX7_restore 30 = .ok (.putfield 18, 3) := by decide +kernel
theorem dX7_restore_33 : decode cX7_restore 33 = .ok (.aload_n 1, 1) := by decide +kernel
theorem dX7_restore_34 : decode cX7_restore 34 = .ok (.aload_n 0, 1) := by decide +kernel
theorem dX7_restore_35 : decode cX7_restore 35 = .ok (.getfield 11, 3) := by decide +kernel
theorem dX7_restore_38 : decode cX7_restore 38 = .ok (.aload_n 0, 1) := by decide +kernel
theorem dX7_restore_39 : decode cX7_restore 39 = .ok (.getfield 22, 3) := by decide +kernel
theorem dX7_restore_42 : decode cX7_restore 42 = .ok (.aaload, 1) := by decide +kernel
theorem dX7_restore_43 : decode cX7_restore 43 = .ok (.invokevirtual 25, 3) := by decide +kernel
theorem dX7_restore_46 : decode cX7_restore 46 = .ok (.iconst 1, 1) := by decide +kernel
theorem dX7_restore_47 : decode cX7_restore 47 = .ok (.ireturn, 1) := by decide +kernel
def X7_restore_b23  (x1 : Nat) (u : gM) : Option (Int32 × gM) :=
((aR skC 31 ((upI u 30 0 ((u.1 30 0) - 1)).1 30 1)).bind fun v42 => (if isO skC x1 8 = true then ((X8_copy x1 v42 (upI u 30 0 ((u.1 30 0) - 1))).bind fun w43 => some (1, w43))
 else none))
def X7_restore  (x1 : Nat) (u : gM) : Option (Int32 × gM) :=
(if (u.1 30 0) = 0 then some (0, u)
  else (X7_restore_b23 x1 (upI u 30 1 (((u.1 30 1) + 6) - ((u.1 30 1) + 6) / 7 * 7))))
set_option maxRecDepth 20000 in
theorem v_X7_restore_b23 {κ : gK} {B : Nat} {u : gM} (X : gX κ B skC cX7_restore 2 RX7 (some .boolean) 3 68)   {x1 : Nat} {w : (Int32 × gM)} (hM : X7_restore_b23 x1 u = some w) : gV κ B skC 2 ((some (.int w.1)), w.2) 23 [some (.ref (B + 30)), some (.ref (B + x1))] [] u := by
  unfold X7_restore_b23 at hM
  refine g_aload_n X dX7_restore_23 rfl ?_
  refine g_dup X rfl dX7_restore_24 ?_
  refine g_getI X fX7_18 cC_30 rfl dX7_restore_25 ?_
  refine g_iconst X (v := 1) dX7_restore_28 (by decide) ?_
  refine g_isub X dX7_restore_29 ?_
  refine g_putI X fX7_18 gc_X7 gp_X7_0 cC_30 rfl dX7_restore_30 ?_
  refine g_aload_n X dX7_restore_33 rfl ?_
  refine g_aload_n X dX7_restore_34 rfl ?_
  refine g_getR X fX7_11 cC_30 rfl dX7_restore_35 ?_
  refine g_aload_n X dX7_restore_38 rfl ?_
  refine g_getI X fX7_22 cC_30 rfl dX7_restore_39 ?_
  obtain ⟨v42, e42, hM⟩ := bind_of hM
  refine g_aaload X e42 dX7_restore_42 ?_
  obtain ⟨o0, hM⟩ := ite_of hM
  obtain ⟨w43, e43, hM⟩ := bind_of hM
  refine g_callVv X (fun B adK => [.ref (B + v42)]) (s_X8_copy e43) cvX7_25 (sh_X8 o0) rfl rfl (Nat.le_of_ble_eq_true rfl) ⟨by decide, by decide⟩ dX7_restore_43 ?_
  refine g_iconst X (v := 1) dX7_restore_46 (by decide) ?_
  cases hM
  exact g_zret X (Or.inr rfl) dX7_restore_47
set_option maxRecDepth 20000 in
theorem v_X7_restore {κ : gK} {B : Nat} {u : gM} (X : gX κ B skC cX7_restore 2 RX7 (some .boolean) 3 68)   {x1 : Nat} {w : (Int32 × gM)} (hM : X7_restore x1 u = some w) : gV κ B skC 2 ((some (.int w.1)), w.2) 0 [some (.ref (B + 30)), some (.ref (B + x1))] [] u := by
  unfold X7_restore at hM
  refine g_aload_n X dX7_restore_0 rfl ?_
  refine g_getI X fX7_18 cC_30 rfl dX7_restore_1 ?_
  refine g_if_ne (tgt := 9) X dX7_restore_4 (by decide) (fun c4 => ?_) (fun c4 => ?_)
  · rw [if_neg c4] at hM
    refine g_aload_n X dX7_restore_9 rfl ?_
    refine g_aload_n X dX7_restore_10 rfl ?_
    refine g_getI X fX7_22 cC_30 rfl dX7_restore_11 ?_
    refine g_bipush X (v := 6) dX7_restore_14 (by decide) ?_
    refine g_iadd X dX7_restore_16 ?_
    refine g_bipush X (v := 7) dX7_restore_17 (by decide) ?_
    refine g_irem X (by decide) dX7_restore_19 ?_
    refine g_putI X fX7_22 gc_X7 gp_X7_1 cC_30 rfl dX7_restore_20 ?_
    refine g_mk [true, true] [some (.ref (B + 30)), some (.ref (B + x1))] rfl ?_
    exact v_X7_restore_b23 X  hM
  · rw [if_pos c4] at hM
    refine g_iconst X (v := 0) dX7_restore_7 (by decide) ?_
    cases hM
    exact g_zret X (Or.inl rfl) dX7_restore_8
theorem s_X7_restore {x1 : Nat} {u : gM} {w : (Int32 × gM)} (hM : X7_restore x1 u = some w) : gMet skC yX7_restore cX7_restore 2 (some .boolean) 3 68 (fun B adK => [.ref (B + 30), .ref (B + x1)]) u ((fun _ => some (.int w.1)), w.2) := by
  refine gMet.of (by decide) (fun _ _ => Nat.le_of_ble_eq_true rfl) (fun κ B X => ?_)
  have X : gX κ B skC cX7_restore 2 RX7 (some .boolean) 3 68 := X
  refine g_mk [true, true] [some (.ref (B + 30)), some (.ref (B + x1))] rfl ?_
  exact v_X7_restore X  hM
theorem fr_X7_restore_b23 {S : Nat → Prop} {u0 u : gM} {x1 : Nat} (hs0 : S (rf skC (rf skC x1 6) 2)) (hs1 : S (rf skC (rf skC x1 6) 3)) (hs2 : S (rf skC (rf skC x1 6) 4)) (hs3 : S (rf skC (rf skC x1 6) 5)) (hs4 : S (rf skC (rf skC x1 6) 6)) (hs5 : S (rf skC x1 1)) (hs6 : S (rf skC x1 2)) (hs7 : S (rf skC x1 3)) (hs8 : S (rf skC x1 4)) (hs9 : S (rf skC x1 5)) (hs10 : S (rf skC x1 6)) (hs11 : S 30) (hs12 : S x1)   {w : (Int32 × gM)} (hM : X7_restore_b23 x1 u = some w) (h0 : off S u0 u) : off S u0 w.2 := by
  unfold X7_restore_b23 at hM
  have h0 := off_upI (u := u) (k := 30) (j := 0) (x := ((u.1 30 0) - 1)) hs11 h0
  obtain ⟨v42, e42, hM⟩ := bind_of hM
  obtain ⟨o0, hM⟩ := ite_of hM
  obtain ⟨w43, e43, hM⟩ := bind_of hM
  have h0 := fr_X8_copy hs0 hs1 hs2 hs3 hs4 hs5 hs6 hs7 hs8 hs9 hs10 hs12 e43 h0
  cases hM
  exact h0
theorem fr_X7_restore {S : Nat → Prop} {u0 u : gM} {x1 : Nat} (hs0 : S (rf skC (rf skC x1 6) 2)) (hs1 : S (rf skC (rf skC x1 6) 3)) (hs2 : S (rf skC (rf skC x1 6) 4)) (hs3 : S (rf skC (rf skC x1 6) 5)) (hs4 : S (rf skC (rf skC x1 6) 6)) (hs5 : S (rf skC x1 1)) (hs6 : S (rf skC x1 2)) (hs7 : S (rf skC x1 3)) (hs8 : S (rf skC x1 4)) (hs9 : S (rf skC x1 5)) (hs10 : S (rf skC x1 6)) (hs11 : S 30) (hs12 : S x1)   {w : (Int32 × gM)} (hM : X7_restore x1 u = some w) (h0 : off S u0 u) : off S u0 w.2 := by
  unfold X7_restore at hM
  by_cases c4 : (u.1 30 0) = 0
  · rw [if_pos c4] at hM
    cases hM
    exact h0
  · rw [if_neg c4] at hM
    have h0 := off_upI (u := u) (k := 30) (j := 1) (x := (((u.1 30 1) + 6) - ((u.1 30 1) + 6) / 7 * 7)) hs11 h0
    exact fr_X7_restore_b23 hs0 hs1 hs2 hs3 hs4 hs5 hs6 hs7 hs8 hs9 hs10 hs11 hs12  hM h0
/-! CoverDesk.undo()Z -/
theorem dX11_undo_0 : decode cX11_undo 0 = .ok (.aload_n 0, 1) := by decide +kernel
theorem dX11_undo_1 : decode cX11_undo 1 = .ok (.getfield 33, 3) := by decide +kernel
theorem dX11_undo_4 : decode cX11_undo 4 = .ok (.aload_n 0, 1) := by decide +kernel
theorem dX11_undo_5 : decode cX11_undo 5 = .ok (.getfield 26, 3) := by decide +kernel
theorem dX11_undo_8 : decode cX11_undo 8 = .ok (.invokevirtual 173, 3) := by decide +kernel
theorem dX11_undo_11 : decode cX11_undo 11 = .ok (.ireturn, 1) := by decide +kernel
def X11_undo   (u : gM) : Option (Int32 × gM) :=
((X7_restore 18 u).bind fun w8 => ((bI w8.1).bind fun v11 => some (v11, w8.2)))
set_option maxRecDepth 20000 in
theorem v_X11_undo {κ : gK} {B : Nat} {u : gM} (X : gX κ B skC cX11_undo 1 RX11 (some .boolean) 4 89)    {w : (Int32 × gM)} (hM : X11_undo u = some w) : gV κ B skC 1 ((some (.int w.1)), w.2) 0 [some (.ref (B + 0))] [] u := by
  unfold X11_undo at hM
  refine g_aload_n X dX11_undo_0 rfl ?_
  refine g_getR X fX11_33 cC_0 rfl dX11_undo_1 ?_
  refine g_aload_n X dX11_undo_4 rfl ?_
  refine g_getR X fX11_26 cC_0 rfl dX11_undo_5 ?_
  obtain ⟨w8, e8, hM⟩ := bind_of hM
  refine g_callVi X (fun B adK => [.ref (B + 18)]) (s_X7_restore e8) cvX11_173 cC_30 rfl rfl (Nat.le_of_ble_eq_true rfl) ⟨by decide, by decide⟩ dX11_undo_8 ?_
  obtain ⟨v11, e11, hM⟩ := bind_of hM
  obtain ⟨hv, rfl⟩ := bI_of e11
  cases hM
  exact g_zret X hv dX11_undo_11
theorem s_X11_undo  {u : gM} {w : (Int32 × gM)} (hM : X11_undo u = some w) : gMet skC yX11_undo cX11_undo 1 (some .boolean) 4 89 (fun B adK => [.ref (B + 0)]) u ((fun _ => some (.int w.1)), w.2) := by
  refine gMet.of (by decide) (fun _ _ => Nat.le_of_ble_eq_true rfl) (fun κ B X => ?_)
  have X : gX κ B skC cX11_undo 1 RX11 (some .boolean) 4 89 := X
  refine g_mk [true] [some (.ref (B + 0))] rfl ?_
  exact v_X11_undo X  hM
theorem fr_X11_undo {S : Nat → Prop} {u0 u : gM}  (hs0 : S (rf skC (rf skC 18 6) 2)) (hs1 : S (rf skC (rf skC 18 6) 3)) (hs2 : S (rf skC (rf skC 18 6) 4)) (hs3 : S (rf skC (rf skC 18 6) 5)) (hs4 : S (rf skC (rf skC 18 6) 6)) (hs5 : S (rf skC 18 1)) (hs6 : S (rf skC 18 2)) (hs7 : S (rf skC 18 3)) (hs8 : S (rf skC 18 4)) (hs9 : S (rf skC 18 5)) (hs10 : S (rf skC 18 6)) (hs11 : S 18) (hs12 : S 30)   {w : (Int32 × gM)} (hM : X11_undo u = some w) (h0 : off S u0 u) : off S u0 w.2 := by
  unfold X11_undo at hM
  obtain ⟨w8, e8, hM⟩ := bind_of hM
  have h0 := fr_X7_restore hs0 hs1 hs2 hs3 hs4 hs5 hs6 hs7 hs8 hs9 hs10 hs12 hs11 e8 h0
  obtain ⟨v11, e11, hM⟩ := bind_of hM
  cases hM
  exact h0
/-! CoverDesk.warns(I)I -/
theorem dX11_warns_0 : decode cX11_warns 0 = .ok (.aload_n 0, 1) := by decide +kernel
theorem dX11_warns_1 : decode cX11_warns 1 = .ok (.getfield 19, 3) := by decide +kernel
theorem dX11_warns_4 : decode cX11_warns 4 = .ok (.iload_n 1, 1) := by decide +kernel
theorem dX11_warns_5 : decode cX11_warns 5 = .ok (.invokevirtual 262, 3) := by decide +kernel
theorem dX11_warns_8 : decode cX11_warns 8 = .ok (.ifCond .ne 5, 3) := by decide +kernel
theorem dX11_warns_11 : decode cX11_warns 11 = .ok (.iconst (-1), 1) := by decide +kernel
theorem dX11_warns_12 : decode cX11_warns 12 = .ok (.ireturn, 1) := by decide +kernel
theorem dX11_warns_13 : decode cX11_warns 13 = .ok (.aload_n 0, 1) := by decide +kernel
theorem dX11_warns_14 : decode cX11_warns 14 = .ok (.getfield 60, 3) := by decide +kernel
theorem dX11_warns_17 : decode cX11_warns 17 = .ok (.aload_n 0, 1) := by decide +kernel
theorem dX11_warns_18 : decode cX11_warns 18 = .ok (.getfield 26, 3) := by decide +kernel
theorem dX11_warns_21 : decode cX11_warns 21 = .ok (.getfield 191, 3) := by decide +kernel
theorem dX11_warns_24 : decode cX11_warns 24 = .ok (.invokevirtual 210, 3) := by decide +kernel
theorem dX11_warns_27 : decode cX11_warns 27 = .ok (.aload_n 0, 1) := by decide +kernel
theorem dX11_warns_28 : decode cX11_warns 28 = .ok (.getfield 60, 3) := by decide +kernel
theorem dX11_warns_31 : decode cX11_warns 31 = .ok (.iload_n 1, 1) := by decide +kernel
theorem dX11_warns_32 : decode cX11_warns 32 = .ok (.invokevirtual 301, 3) := by decide +kernel
theorem dX11_warns_35 : decode cX11_warns 35 = .ok (.lstore_n 2, 1) := by decide +kernel
theorem dX11_warns_36 : decode cX11_warns 36 = .ok (.aload_n 0, 1) := by decide +kernel
theorem dX11_warns_37 : decode cX11_warns 37 = .ok (.getfield 26, 3) := by decide +kernel
theorem dX11_warns_40 : decode cX11_warns 40 = .ok (.getfield 191, 3) := by decide +kernel
theorem dX11_warns_43 : decode cX11_warns 43 = .ok (.istore 4, 2) := by decide +kernel
theorem dX11_warns_45 : decode cX11_warns 45 = .ok (.iconst 0, 1) := by decide +kernel
theorem dX11_warns_46 : decode cX11_warns 46 = .ok (.istore 5, 2) := by decide +kernel
theorem dX11_warns_48 : decode cX11_warns 48 = .ok (.iload 5, 2) := by decide +kernel
theorem dX11_warns_50 : decode cX11_warns 50 = .ok (.sipush 999, 3) := by decide +kernel
theorem dX11_warns_53 : decode cX11_warns 53 = .ok (.if_icmp .gt 55, 3) := by decide +kernel
theorem dX11_warns_56 : decode cX11_warns 56 = .ok (.aload_n 0, 1) := by decide +kernel
theorem dX11_warns_57 : decode cX11_warns 57 = .ok (.getfield 60, 3) := by decide +kernel
theorem dX11_warns_60 : decode cX11_warns 60 = .ok (.iload 4, 2) := by decide +kernel
theorem dX11_warns_62 : decode cX11_warns 62 = .ok (.invokevirtual 304, 3) := by decide +kernel
theorem dX11_warns_65 : decode cX11_warns 65 = .ok (.istore 4, 2) := by decide +kernel
theorem dX11_warns_67 : decode cX11_warns 67 = .ok (.iload 4, 2) := by decide +kernel
theorem dX11_warns_69 : decode cX11_warns 69 = .ok (.invokestatic 265, 3) := by decide +kernel
theorem dX11_warns_72 : decode cX11_warns 72 = .ok (.ifCond .ne 5, 3) := by decide +kernel
theorem dX11_warns_75 : decode cX11_warns 75 = .ok (.iconst (-1), 1) := by decide +kernel
theorem dX11_warns_76 : decode cX11_warns 76 = .ok (.ireturn, 1) := by decide +kernel
theorem dX11_warns_77 : decode cX11_warns 77 = .ok (.aload_n 0, 1) := by decide +kernel
theorem dX11_warns_78 : decode cX11_warns 78 = .ok (.getfield 60, 3) := by decide +kernel
theorem dX11_warns_81 : decode cX11_warns 81 = .ok (.iload 4, 2) := by decide +kernel
theorem dX11_warns_83 : decode cX11_warns 83 = .ok (.invokevirtual 210, 3) := by decide +kernel
theorem dX11_warns_86 : decode cX11_warns 86 = .ok (.aload_n 0, 1) := by decide +kernel
theorem dX11_warns_87 : decode cX11_warns 87 = .ok (.getfield 60, 3) := by decide +kernel
theorem dX11_warns_90 : decode cX11_warns 90 = .ok (.iload_n 1, 1) := by decide +kernel
theorem dX11_warns_91 : decode cX11_warns 91 = .ok (.invokevirtual 301, 3) := by decide +kernel
theorem dX11_warns_94 : decode cX11_warns 94 = .ok (.lload_n 2, 1) := by decide +kernel
theorem dX11_warns_95 : decode cX11_warns 95 = .ok (.lcmp, 1) := by decide +kernel
theorem dX11_warns_96 : decode cX11_warns 96 = .ok (.ifCond .le 6, 3) := by decide +kernel
theorem dX11_warns_99 : decode cX11_warns 99 = .ok (.iload 4, 2) := by decide +kernel
theorem dX11_warns_101 : decode cX11_warns 101 = .ok (.ireturn, 1) := by decide +kernel
theorem dX11_warns_102 : decode cX11_warns 102 = .ok (.iinc 5 1, 3) := by decide +kernel
theorem dX11_warns_105 : decode cX11_warns 105 = .ok (.goto (-57), 3) := by decide +kernel
theorem dX11_warns_108 : decode cX11_warns 108 = .ok (.iconst (-1), 1) := by decide +kernel
theorem dX11_warns_109 : decode cX11_warns 109 = .ok (.ireturn, 1) := by decide +kernel
def X11_warns_b48 (k48 : Int32 → Int64 → Int32 → Int32 → gM → Option (Int32 × gM)) (x1 : Int32) (x2 : Int64) (x4 : Int32) (x5 : Int32) (u : gM) : Option (Int32 × gM) :=
(if 999 < x5 then some ((-1), u)
  else ((X1_nextChange u x4).bind fun w62 => ((X11_isMonth u w62).bind fun w69 => (if w69 = 0 then some ((-1), u)
    else ((X1_insure w62 u).bind fun w83 => ((X1_openOf w83 x1).bind fun w91 => (if (lg_cmp w91 x2) ≤ 0 then (k48 x1 x2 w62 (x5 + 1) w83)
      else some (w62, w83))))))))
def X11_warns_l48  : Nat → Int32 → Int64 → Int32 → Int32 → gM → Option (Int32 × gM)
  | 0, _, _, _, _, _ => none
  | n + 1, x1, x2, x4, x5, u => X11_warns_b48  (X11_warns_l48  n) x1 x2 x4 x5 u
def X11_warns  (x1 : Int32) (u : gM) : Option (Int32 × gM) :=
((X10_isPerson u 3 x1).bind fun w5 => (if w5 = 0 then some ((-1), u)
  else ((X1_insure (u.1 18 0) u).bind fun w24 => ((X1_openOf w24 x1).bind fun w32 => (X11_warns_l48 fz x1 w32 (w24.1 18 0) 0 w24)))))
set_option maxRecDepth 20000 in
theorem v_X11_warns_b48 {κ : gK} {B : Nat} {u : gM} (X : gX κ B skC cX11_warns 6 RX11 (some .int) 5 122) {k48 : Int32 → Int64 → Int32 → Int32 → gM → Option (Int32 × gM)} (ih48 : ∀ (x1 : Int32) (x2 : Int64) (x4 : Int32) (x5 : Int32) (u : gM) (w : (Int32 × gM)), k48 x1 x2 x4 x5 u = some w → gV κ B skC 6 ((some (.int w.1)), w.2) 48 [some (.ref (B + 0)), some (.int x1), some (.long x2), none, some (.int x4), some (.int x5)] [] u) {x1 : Int32} {x2 : Int64} {x4 : Int32} {x5 : Int32} {w : (Int32 × gM)} (hM : X11_warns_b48 k48 x1 x2 x4 x5 u = some w) : gV κ B skC 6 ((some (.int w.1)), w.2) 48 [some (.ref (B + 0)), some (.int x1), some (.long x2), none, some (.int x4), some (.int x5)] [] u := by
  unfold X11_warns_b48 at hM
  refine g_iload X dX11_warns_48 rfl ?_
  refine g_sipush X (v := 999) dX11_warns_50 (by decide) ?_
  refine g_icmp_gt (tgt := 108) X dX11_warns_53 (by decide) (fun c53 => ?_) (fun c53 => ?_)
  · rw [if_pos c53] at hM
    refine g_iconst X (v := (-1)) dX11_warns_108 (by decide) ?_
    cases hM
    exact g_iret X dX11_warns_109
  · rw [if_neg c53] at hM
    refine g_aload_n X dX11_warns_56 rfl ?_
    refine g_getR X fX11_60 cC_0 rfl dX11_warns_57 ?_
    refine g_iload X dX11_warns_60 rfl ?_
    obtain ⟨w62, e62, hM⟩ := bind_of hM
    refine g_callVi X (fun B adK => [.int x4]) (s_X1_nextChange e62) cvX11_304 cC_136 rfl rfl (Nat.le_of_ble_eq_true rfl) ⟨by decide, by decide⟩ dX11_warns_62 ?_
    refine g_istore X [some (.ref (B + 0)), some (.int x1), some (.long x2), none, some (.int w62), some (.int x5)] dX11_warns_65 (by decide) rfl ?_
    refine g_iload X dX11_warns_67 rfl ?_
    obtain ⟨w69, e69, hM⟩ := bind_of hM
    refine g_callSi X (fun B adK => [.int w62]) (s_X11_isMonth e69) cvX11_265 rfl rfl (Nat.le_of_ble_eq_true rfl) ⟨by decide, by decide⟩ dX11_warns_69 ?_
    refine g_if_ne (tgt := 77) X dX11_warns_72 (by decide) (fun c72 => ?_) (fun c72 => ?_)
    · rw [if_neg c72] at hM
      refine g_aload_n X dX11_warns_77 rfl ?_
      refine g_getR X fX11_60 cC_0 rfl dX11_warns_78 ?_
      refine g_iload X dX11_warns_81 rfl ?_
      obtain ⟨w83, e83, hM⟩ := bind_of hM
      refine g_callVv X (fun B adK => [.int w62]) (s_X1_insure e83) cvX11_210 cC_136 rfl rfl (Nat.le_of_ble_eq_true rfl) ⟨by decide, by decide⟩ dX11_warns_83 ?_
      refine g_aload_n X dX11_warns_86 rfl ?_
      refine g_getR X fX11_60 cC_0 rfl dX11_warns_87 ?_
      refine g_iload_n X dX11_warns_90 rfl ?_
      obtain ⟨w91, e91, hM⟩ := bind_of hM
      refine g_callVl X (fun B adK => [.int x1]) (s_X1_openOf e91) cvX11_301 cC_136 rfl rfl (Nat.le_of_ble_eq_true rfl) ⟨by decide, by decide⟩ dX11_warns_91 ?_
      refine g_lload_n X dX11_warns_94 rfl ?_
      refine g_lcmp X dX11_warns_95 ?_
      refine g_if_le (tgt := 102) X dX11_warns_96 (by decide) (fun c96 => ?_) (fun c96 => ?_)
      · rw [if_pos c96] at hM
        refine g_iinc (d := 1) X [some (.ref (B + 0)), some (.int x1), some (.long x2), none, some (.int w62), some (.int (x5 + 1))] dX11_warns_102 (by decide) rfl (by decide) rfl ?_
        refine g_goto (tgt := 48) X dX11_warns_105 (by decide) ?_
        refine g_mk [true, true, true, false, true, true] [some (.ref (B + 0)), some (.int x1), some (.long x2), none, some (.int w62), some (.int (x5 + 1))] rfl ?_
        exact ih48 x1 x2 w62 (x5 + 1) w83 _ hM
      · rw [if_neg c96] at hM
        refine g_iload X dX11_warns_99 rfl ?_
        cases hM
        exact g_iret X dX11_warns_101
    · rw [if_pos c72] at hM
      refine g_iconst X (v := (-1)) dX11_warns_75 (by decide) ?_
      cases hM
      exact g_iret X dX11_warns_76
theorem v_X11_warns_l48 {κ : gK} {B : Nat} (X : gX κ B skC cX11_warns 6 RX11 (some .int) 5 122)   : ∀ (n : Nat) {x1 : Int32} {x2 : Int64} {x4 : Int32} {x5 : Int32} {u : gM} {w : (Int32 × gM)} (hM : X11_warns_l48  n x1 x2 x4 x5 u = some w), gV κ B skC 6 ((some (.int w.1)), w.2) 48 [some (.ref (B + 0)), some (.int x1), some (.long x2), none, some (.int x4), some (.int x5)] [] u := by
  intro n
  induction n with
  | zero => intro x1 x2 x4 x5 u w hM; exact nomatch (show (none : Option (Int32 × gM)) = some w from hM)
  | succ n ihn => intro x1 x2 x4 x5 u w hM; exact v_X11_warns_b48 X  (fun x1 x2 x4 x5 u w h => ihn h) hM
set_option maxRecDepth 20000 in
theorem v_X11_warns {κ : gK} {B : Nat} {u : gM} (X : gX κ B skC cX11_warns 6 RX11 (some .int) 5 122)   {x1 : Int32} {w : (Int32 × gM)} (hM : X11_warns x1 u = some w) : gV κ B skC 6 ((some (.int w.1)), w.2) 0 [some (.ref (B + 0)), some (.int x1), none, none, none, none] [] u := by
  unfold X11_warns at hM
  refine g_aload_n X dX11_warns_0 rfl ?_
  refine g_getR X fX11_19 cC_0 rfl dX11_warns_1 ?_
  refine g_iload_n X dX11_warns_4 rfl ?_
  obtain ⟨w5, e5, hM⟩ := bind_of hM
  refine g_callVi X (fun B adK => [.int x1]) (s_X10_isPerson e5) cvX11_262 cC_3 rfl rfl (Nat.le_of_ble_eq_true rfl) ⟨by decide, by decide⟩ dX11_warns_5 ?_
  refine g_if_ne (tgt := 13) X dX11_warns_8 (by decide) (fun c8 => ?_) (fun c8 => ?_)
  · rw [if_neg c8] at hM
    refine g_aload_n X dX11_warns_13 rfl ?_
    refine g_getR X fX11_60 cC_0 rfl dX11_warns_14 ?_
    refine g_aload_n X dX11_warns_17 rfl ?_
    refine g_getR X fX11_26 cC_0 rfl dX11_warns_18 ?_
    refine g_getI X fX11_191 cC_18 rfl dX11_warns_21 ?_
    obtain ⟨w24, e24, hM⟩ := bind_of hM
    refine g_callVv X (fun B adK => [.int (u.1 18 0)]) (s_X1_insure e24) cvX11_210 cC_136 rfl rfl (Nat.le_of_ble_eq_true rfl) ⟨by decide, by decide⟩ dX11_warns_24 ?_
    refine g_aload_n X dX11_warns_27 rfl ?_
    refine g_getR X fX11_60 cC_0 rfl dX11_warns_28 ?_
    refine g_iload_n X dX11_warns_31 rfl ?_
    obtain ⟨w32, e32, hM⟩ := bind_of hM
    refine g_callVl X (fun B adK => [.int x1]) (s_X1_openOf e32) cvX11_301 cC_136 rfl rfl (Nat.le_of_ble_eq_true rfl) ⟨by decide, by decide⟩ dX11_warns_32 ?_
    refine g_lstore_n X [some (.ref (B + 0)), some (.int x1), some (.long w32), none, none, none] dX11_warns_35 (by decide) rfl ?_
    refine g_aload_n X dX11_warns_36 rfl ?_
    refine g_getR X fX11_26 cC_0 rfl dX11_warns_37 ?_
    refine g_getI X fX11_191 cC_18 rfl dX11_warns_40 ?_
    refine g_istore X [some (.ref (B + 0)), some (.int x1), some (.long w32), none, some (.int (w24.1 18 0)), none] dX11_warns_43 (by decide) rfl ?_
    refine g_iconst X (v := 0) dX11_warns_45 (by decide) ?_
    refine g_istore X [some (.ref (B + 0)), some (.int x1), some (.long w32), none, some (.int (w24.1 18 0)), some (.int 0)] dX11_warns_46 (by decide) rfl ?_
    refine g_mk [true, true, true, false, true, true] [some (.ref (B + 0)), some (.int x1), some (.long w32), none, some (.int (w24.1 18 0)), some (.int 0)] rfl ?_
    exact v_X11_warns_l48 X  fz hM
  · rw [if_pos c8] at hM
    refine g_iconst X (v := (-1)) dX11_warns_11 (by decide) ?_
    cases hM
    exact g_iret X dX11_warns_12
theorem s_X11_warns {x1 : Int32} {u : gM} {w : (Int32 × gM)} (hM : X11_warns x1 u = some w) : gMet skC yX11_warns cX11_warns 6 (some .int) 5 122 (fun B adK => [.ref (B + 0), .int x1]) u ((fun _ => some (.int w.1)), w.2) := by
  refine gMet.of (by decide) (fun _ _ => Nat.le_of_ble_eq_true rfl) (fun κ B X => ?_)
  have X : gX κ B skC cX11_warns 6 RX11 (some .int) 5 122 := X
  refine g_mk [true, true, false, false, false, false] [some (.ref (B + 0)), some (.int x1), none, none, none, none] rfl ?_
  exact v_X11_warns X  hM
theorem fr_X11_warns_b48 {S : Nat → Prop} {u0 u : gM} {x1 : Int32} {x2 : Int64} {x4 : Int32} {x5 : Int32} (hs0 : S (rf skC 138 2)) (hs1 : S (rf skC 138 3)) (hs2 : S (rf skC 138 4)) (hs3 : S 137) (hs4 : S 138) (hs5 : S 142) (hs6 : S 143) (hs7 : S 144) {k48 : Int32 → Int64 → Int32 → Int32 → gM → Option (Int32 × gM)} (ik48 : ∀ (x1 : Int32) (x2 : Int64) (x4 : Int32) (x5 : Int32) (u : gM) (w : (Int32 × gM)), S (rf skC 138 2) → S (rf skC 138 3) → S (rf skC 138 4) → S 137 → S 138 → S 142 → S 143 → S 144 → off S u0 u → k48 x1 x2 x4 x5 u = some w → off S u0 w.2) {w : (Int32 × gM)} (hM : X11_warns_b48 k48 x1 x2 x4 x5 u = some w) (h0 : off S u0 u) : off S u0 w.2 := by
  unfold X11_warns_b48 at hM
  by_cases c53 : 999 < x5
  · rw [if_pos c53] at hM
    cases hM
    exact h0
  · rw [if_neg c53] at hM
    obtain ⟨w62, e62, hM⟩ := bind_of hM
    obtain ⟨w69, e69, hM⟩ := bind_of hM
    by_cases c72 : w69 = 0
    · rw [if_pos c72] at hM
      cases hM
      exact h0
    · rw [if_neg c72] at hM
      obtain ⟨w83, e83, hM⟩ := bind_of hM
      have h0 := fr_X1_insure hs0 hs1 hs2 hs3 hs4 hs5 hs6 hs7 e83 h0
      obtain ⟨w91, e91, hM⟩ := bind_of hM
      by_cases c96 : (lg_cmp w91 x2) ≤ 0
      · rw [if_pos c96] at hM
        exact ik48 _ _ _ _ _ _ hs0 hs1 hs2 hs3 hs4 hs5 hs6 hs7 h0 hM
      · rw [if_neg c96] at hM
        cases hM
        exact h0
theorem fr_X11_warns_l48 {S : Nat → Prop} {u0 : gM}   : ∀ (n : Nat) {x1 : Int32} {x2 : Int64} {x4 : Int32} {x5 : Int32} (hs0 : S (rf skC 138 2)) (hs1 : S (rf skC 138 3)) (hs2 : S (rf skC 138 4)) (hs3 : S 137) (hs4 : S 138) (hs5 : S 142) (hs6 : S 143) (hs7 : S 144) {u : gM} {w : (Int32 × gM)} (h0 : off S u0 u) (hM : X11_warns_l48  n x1 x2 x4 x5 u = some w), off S u0 w.2 := by
  intro n
  induction n with
  | zero => intro x1 x2 x4 x5 hs0 hs1 hs2 hs3 hs4 hs5 hs6 hs7 u w h0 hM; exact nomatch (show (none : Option (Int32 × gM)) = some w from hM)
  | succ n ihn => intro x1 x2 x4 x5 hs0 hs1 hs2 hs3 hs4 hs5 hs6 hs7 u w h0 hM; exact fr_X11_warns_b48 hs0 hs1 hs2 hs3 hs4 hs5 hs6 hs7  (fun x1 x2 x4 x5 _ _ hs0 hs1 hs2 hs3 hs4 hs5 hs6 hs7 h0 h => ihn hs0 hs1 hs2 hs3 hs4 hs5 hs6 hs7 h0 h) hM h0
theorem fr_X11_warns {S : Nat → Prop} {u0 u : gM} {x1 : Int32} (hs0 : S (rf skC 138 2)) (hs1 : S (rf skC 138 3)) (hs2 : S (rf skC 138 4)) (hs3 : S 137) (hs4 : S 138) (hs5 : S 142) (hs6 : S 143) (hs7 : S 144)   {w : (Int32 × gM)} (hM : X11_warns x1 u = some w) (h0 : off S u0 u) : off S u0 w.2 := by
  unfold X11_warns at hM
  obtain ⟨w5, e5, hM⟩ := bind_of hM
  by_cases c8 : w5 = 0
  · rw [if_pos c8] at hM
    cases hM
    exact h0
  · rw [if_neg c8] at hM
    obtain ⟨w24, e24, hM⟩ := bind_of hM
    have h0 := fr_X1_insure hs0 hs1 hs2 hs3 hs4 hs5 hs6 hs7 e24 h0
    obtain ⟨w32, e32, hM⟩ := bind_of hM
    exact fr_X11_warns_l48  fz hs0 hs1 hs2 hs3 hs4 hs5 hs6 hs7 h0 hM
/-! CoverDesk.worst(I)J -/
theorem dX11_worst_0 : decode cX11_worst 0 = .ok (.iload_n 1, 1) := by decide +kernel
theorem dX11_worst_1 : decode cX11_worst 1 = .ok (.ifCond .eq 12, 3) := by decide +kernel
theorem dX11_worst_4 : decode cX11_worst 4 = .ok (.iload_n 1, 1) := by decide +kernel
theorem dX11_worst_5 : decode cX11_worst 5 = .ok (.iconst 1, 1) := by decide +kernel
theorem dX11_worst_6 : decode cX11_worst 6 = .ok (.if_icmp .eq 7, 3) := by decide +kernel
theorem dX11_worst_9 : decode cX11_worst 9 = .ok (.ldc2_w 250, 3) := by decide +kernel
theorem dX11_worst_12 : decode cX11_worst 12 = .ok (.lreturn, 1) := by decide +kernel
theorem dX11_worst_13 : decode cX11_worst 13 = .ok (.aload_n 0, 1) := by decide +kernel
theorem dX11_worst_14 : decode cX11_worst 14 = .ok (.getfield 60, 3) := by decide +kernel
theorem dX11_worst_17 : decode cX11_worst 17 = .ok (.aload_n 0, 1) := by decide +kernel
theorem dX11_worst_18 : decode cX11_worst 18 = .ok (.getfield 26, 3) := by decide +kernel
theorem dX11_worst_21 : decode cX11_worst 21 = .ok (.getfield 191, 3) := by decide +kernel
theorem dX11_worst_24 : decode cX11_worst 24 = .ok (.invokevirtual 210, 3) := by decide +kernel
theorem dX11_worst_27 : decode cX11_worst 27 = .ok (.iconst (-1), 1) := by decide +kernel
theorem dX11_worst_28 : decode cX11_worst 28 = .ok (.istore_n 2, 1) := by decide +kernel
theorem dX11_worst_29 : decode cX11_worst 29 = .ok (.ldc2_w 250, 3) := by decide +kernel
theorem dX11_worst_32 : decode cX11_worst 32 = .ok (.lstore_n 3, 1) := by decide +kernel
theorem dX11_worst_33 : decode cX11_worst 33 = .ok (.iconst 0, 1) := by decide +kernel
theorem dX11_worst_34 : decode cX11_worst 34 = .ok (.istore 5, 2) := by decide +kernel
theorem dX11_worst_36 : decode cX11_worst 36 = .ok (.iload 5, 2) := by decide +kernel
theorem dX11_worst_38 : decode cX11_worst 38 = .ok (.aload_n 0, 1) := by decide +kernel
theorem dX11_worst_39 : decode cX11_worst 39 = .ok (.getfield 19, 3) := by decide +kernel
theorem dX11_worst_42 : decode cX11_worst 42 = .ok (.getfield 392, 3) := by decide +kernel
theorem dX11_worst_45 : decode cX11_worst 45 = .ok (.if_icmp .ge 58, 3) := by decide +kernel
theorem dX11_worst_48 : decode cX11_worst 48 = .ok (.aload_n 0, 1) := by decide +kernel
theorem dX11_worst_49 : decode cX11_worst 49 = .ok (.getfield 26, 3) := by decide +kernel
theorem dX11_worst_52 : decode cX11_worst 52 = .ok (.iload 5, 2) := by decide +kernel
theorem dX11_worst_54 : decode cX11_worst 54 = .ok (.invokevirtual 395, 3) := by decide +kernel
theorem dX11_worst_57 : decode cX11_worst 57 = .ok (.ifCond .eq 40, 3) := by decide +kernel
theorem dX11_worst_60 : decode cX11_worst 60 = .ok (.aload_n 0, 1) := by decide +kernel
theorem dX11_worst_61 : decode cX11_worst 61 = .ok (.getfield 69, 3) := by decide +kernel
theorem dX11_worst_64 : decode cX11_worst 64 = .ok (.aload_n 0, 1) := by decide +kernel
theorem dX11_worst_65 : decode cX11_worst 65 = .ok (.getfield 83, 3) := by decide +kernel
theorem dX11_worst_68 : decode cX11_worst 68 = .ok (.iload 5, 2) := by decide +kernel
theorem dX11_worst_70 : decode cX11_worst 70 = .ok (.iconst 0, 1) := by decide +kernel
theorem dX11_worst_71 : decode cX11_worst 71 = .ok (.invokevirtual 398, 3) := by decide +kernel
theorem dX11_worst_74 : decode cX11_worst 74 = .ok (.aload_n 0, 1) := by decide +kernel
theorem dX11_worst_75 : decode cX11_worst 75 = .ok (.getfield 83, 3) := by decide +kernel
theorem dX11_worst_78 : decode cX11_worst 78 = .ok (.iconst 3, 1) := by decide +kernel
theorem dX11_worst_79 : decode cX11_worst 79 = .ok (.invokevirtual 317, 3) := by decide +kernel
theorem dX11_worst_82 : decode cX11_worst 82 = .ok (.lstore 6, 2) := by decide +kernel
theorem dX11_worst_84 : decode cX11_worst 84 = .ok (.lload 6, 2) := by decide +kernel
theorem dX11_worst_86 : decode cX11_worst 86 = .ok (.lload_n 3, 1) := by decide +kernel
theorem dX11_worst_87 : decode cX11_worst 87 = .ok (.lcmp, 1) := by decide +kernel
theorem dX11_worst_88 : decode cX11_worst 88 = .ok (.ifCond .le 9, 3) := by decide +kernel
theorem dX11_worst_91 : decode cX11_worst 91 = .ok (.lload 6, 2) := by decide +kernel
theorem dX11_worst_93 : decode cX11_worst 93 = .ok (.lstore_n 3, 1) := by decide +kernel
theorem dX11_worst_94 : decode cX11_worst 94 = .ok (.iload 5, 2) := by decide +kernel
theorem dX11_worst_96 : decode cX11_worst 96 = .ok (.istore_n 2, 1) := by decide +kernel
theorem dX11_worst_97 : decode cX11_worst 97 = .ok (.iinc 5 1, 3) := by decide +kernel
theorem dX11_worst_100 : decode cX11_worst 100 = .ok (.goto (-64), 3) := by decide +kernel
theorem dX11_worst_103 : decode cX11_worst 103 = .ok (.iload_n 1, 1) := by decide +kernel
theorem dX11_worst_104 : decode cX11_worst 104 = .ok (.ifCond .ne 8, 3) := by decide +kernel
theorem dX11_worst_107 : decode cX11_worst 107 = .ok (.iload_n 2, 1) := by decide +kernel
theorem dX11_worst_108 : decode cX11_worst 108 = .ok (.i2l, 1) := by decide +kernel
theorem dX11_worst_109 : decode cX11_worst 109 = .ok (.goto 4, 3) := by decide +kernel
theorem dX11_worst_112 : decode cX11_worst 112 = .ok (.lload_n 3, 1) := by decide +kernel
theorem dX11_worst_113 : decode cX11_worst 113 = .ok (.lreturn, 1) := by decide +kernel
def X11_worst_b113  (s0 : Int64) (u : gM) : Option (Int64 × gM) :=
some (s0, u)
def X11_worst_b97 (k36 : Int32 → Int32 → Int64 → Int32 → gM → Option (Int64 × gM)) (x1 : Int32) (x2 : Int32) (x3 : Int64) (x5 : Int32) (u : gM) : Option (Int64 × gM) :=
(k36 x1 x2 x3 (x5 + 1) u)
def X11_worst_b36 (k36 : Int32 → Int32 → Int64 → Int32 → gM → Option (Int64 × gM)) (x1 : Int32) (x2 : Int32) (x3 : Int64) (x5 : Int32) (u : gM) : Option (Int64 × gM) :=
(if (u.1 3 1) ≤ x5 then (if x1 = 0 then (X11_worst_b113 x2.toInt64 u)
    else (X11_worst_b113 x3 u))
  else ((X8_isOpen u 18 x5).bind fun w54 => (if w54 = 0 then (X11_worst_b97 k36 x1 x2 x3 x5 u)
    else ((X3_windUp 156 x5 0 u).bind fun w71 => ((X5_all w71 156 3).bind fun w79 => (if (lg_cmp w79 x3) ≤ 0 then (X11_worst_b97 k36 x1 x2 x3 x5 w71)
      else (X11_worst_b97 k36 x1 x5 w79 x5 w71)))))))
def X11_worst_l36  : Nat → Int32 → Int32 → Int64 → Int32 → gM → Option (Int64 × gM)
  | 0, _, _, _, _, _ => none
  | n + 1, x1, x2, x3, x5, u => X11_worst_b36  (X11_worst_l36  n) x1 x2 x3 x5 u
def X11_worst_b13  (x1 : Int32) (u : gM) : Option (Int64 × gM) :=
((X1_insure (u.1 18 0) u).bind fun w24 => (X11_worst_l36 fz x1 (-1) (-1) 0 w24))
def X11_worst  (x1 : Int32) (u : gM) : Option (Int64 × gM) :=
(if x1 = 0 then (X11_worst_b13 x1 u)
  else (if x1 = 1 then (X11_worst_b13 x1 u)
    else some ((-1), u)))
set_option maxRecDepth 20000 in
theorem v_X11_worst_b113 {κ : gK} {B : Nat} {u : gM} (X : gX κ B skC cX11_worst 8 RX11 (some .long) 5 122)   {s0 : Int64} {w : (Int64 × gM)} (hM : X11_worst_b113 s0 u = some w) : gV κ B skC 8 ((some (.long w.1)), w.2) 113 [none, none, none, none, none, none, none, none] [.long s0] u := by
  unfold X11_worst_b113 at hM
  cases hM
  exact g_lret X dX11_worst_113
set_option maxRecDepth 20000 in
theorem v_X11_worst_b97 {κ : gK} {B : Nat} {u : gM} (X : gX κ B skC cX11_worst 8 RX11 (some .long) 5 122) {k36 : Int32 → Int32 → Int64 → Int32 → gM → Option (Int64 × gM)} (ih36 : ∀ (x1 : Int32) (x2 : Int32) (x3 : Int64) (x5 : Int32) (u : gM) (w : (Int64 × gM)), k36 x1 x2 x3 x5 u = some w → gV κ B skC 8 ((some (.long w.1)), w.2) 36 [some (.ref (B + 0)), some (.int x1), some (.int x2), some (.long x3), none, some (.int x5), none, none] [] u) {x1 : Int32} {x2 : Int32} {x3 : Int64} {x5 : Int32} {w : (Int64 × gM)} (hM : X11_worst_b97 k36 x1 x2 x3 x5 u = some w) : gV κ B skC 8 ((some (.long w.1)), w.2) 97 [some (.ref (B + 0)), some (.int x1), some (.int x2), some (.long x3), none, some (.int x5), none, none] [] u := by
  unfold X11_worst_b97 at hM
  refine g_iinc (d := 1) X [some (.ref (B + 0)), some (.int x1), some (.int x2), some (.long x3), none, some (.int (x5 + 1)), none, none] dX11_worst_97 (by decide) rfl (by decide) rfl ?_
  refine g_goto (tgt := 36) X dX11_worst_100 (by decide) ?_
  refine g_mk [true, true, true, true, false, true, false, false] [some (.ref (B + 0)), some (.int x1), some (.int x2), some (.long x3), none, some (.int (x5 + 1)), none, none] rfl ?_
  exact ih36 x1 x2 x3 (x5 + 1) u _ hM
set_option maxRecDepth 20000 in
theorem v_X11_worst_b36 {κ : gK} {B : Nat} {u : gM} (X : gX κ B skC cX11_worst 8 RX11 (some .long) 5 122) {k36 : Int32 → Int32 → Int64 → Int32 → gM → Option (Int64 × gM)} (ih36 : ∀ (x1 : Int32) (x2 : Int32) (x3 : Int64) (x5 : Int32) (u : gM) (w : (Int64 × gM)), k36 x1 x2 x3 x5 u = some w → gV κ B skC 8 ((some (.long w.1)), w.2) 36 [some (.ref (B + 0)), some (.int x1), some (.int x2), some (.long x3), none, some (.int x5), none, none] [] u) {x1 : Int32} {x2 : Int32} {x3 : Int64} {x5 : Int32} {w : (Int64 × gM)} (hM : X11_worst_b36 k36 x1 x2 x3 x5 u = some w) : gV κ B skC 8 ((some (.long w.1)), w.2) 36 [some (.ref (B + 0)), some (.int x1), some (.int x2), some (.long x3), none, some (.int x5), none, none] [] u := by
  unfold X11_worst_b36 at hM
  refine g_iload X dX11_worst_36 rfl ?_
  refine g_aload_n X dX11_worst_38 rfl ?_
  refine g_getR X fX11_19 cC_0 rfl dX11_worst_39 ?_
  refine g_getI X fX11_392 cC_3 rfl dX11_worst_42 ?_
  refine g_icmp_ge (tgt := 103) X dX11_worst_45 (by decide) (fun c45 => ?_) (fun c45 => ?_)
  · rw [if_pos c45] at hM
    refine g_iload_n X dX11_worst_103 rfl ?_
    refine g_if_ne (tgt := 112) X dX11_worst_104 (by decide) (fun c104 => ?_) (fun c104 => ?_)
    · rw [if_neg c104] at hM
      refine g_lload_n X dX11_worst_112 rfl ?_
      refine g_mk [false, false, false, false, false, false, false, false] [none, none, none, none, none, none, none, none] rfl ?_
      exact v_X11_worst_b113 X  hM
    · rw [if_pos c104] at hM
      refine g_iload_n X dX11_worst_107 rfl ?_
      refine g_i2l X dX11_worst_108 ?_
      refine g_goto (tgt := 113) X dX11_worst_109 (by decide) ?_
      refine g_mk [false, false, false, false, false, false, false, false] [none, none, none, none, none, none, none, none] rfl ?_
      exact v_X11_worst_b113 X  hM
  · rw [if_neg c45] at hM
    refine g_aload_n X dX11_worst_48 rfl ?_
    refine g_getR X fX11_26 cC_0 rfl dX11_worst_49 ?_
    refine g_iload X dX11_worst_52 rfl ?_
    obtain ⟨w54, e54, hM⟩ := bind_of hM
    refine g_callVi X (fun B adK => [.int x5]) (s_X8_isOpen e54) cvX11_395 cC_18 rfl rfl (Nat.le_of_ble_eq_true rfl) ⟨by decide, by decide⟩ dX11_worst_54 ?_
    refine g_if_eq (tgt := 97) X dX11_worst_57 (by decide) (fun c57 => ?_) (fun c57 => ?_)
    · rw [if_pos c57] at hM
      refine g_mk [true, true, true, true, false, true, false, false] [some (.ref (B + 0)), some (.int x1), some (.int x2), some (.long x3), none, some (.int x5), none, none] rfl ?_
      exact v_X11_worst_b97 X ih36 hM
    · rw [if_neg c57] at hM
      refine g_aload_n X dX11_worst_60 rfl ?_
      refine g_getR X fX11_69 cC_0 rfl dX11_worst_61 ?_
      refine g_aload_n X dX11_worst_64 rfl ?_
      refine g_getR X fX11_83 cC_0 rfl dX11_worst_65 ?_
      refine g_iload X dX11_worst_68 rfl ?_
      refine g_iconst X (v := 0) dX11_worst_70 (by decide) ?_
      obtain ⟨w71, e71, hM⟩ := bind_of hM
      refine g_callVv X (fun B adK => [.ref (B + 156), .int x5, .int 0]) (s_X3_windUp e71) cvX11_398 cC_145 rfl rfl (Nat.le_of_ble_eq_true rfl) ⟨by decide, by decide⟩ dX11_worst_71 ?_
      refine g_aload_n X dX11_worst_74 rfl ?_
      refine g_getR X fX11_83 cC_0 rfl dX11_worst_75 ?_
      refine g_iconst X (v := 3) dX11_worst_78 (by decide) ?_
      obtain ⟨w79, e79, hM⟩ := bind_of hM
      refine g_callVl X (fun B adK => [.int 3]) (s_X5_all e79) cvX11_317 cC_156 rfl rfl (Nat.le_of_ble_eq_true rfl) ⟨by decide, by decide⟩ dX11_worst_79 ?_
      refine g_lstore X [some (.ref (B + 0)), some (.int x1), some (.int x2), some (.long x3), none, some (.int x5), some (.long w79), none] dX11_worst_82 (by decide) rfl ?_
      refine g_lload X dX11_worst_84 rfl ?_
      refine g_lload_n X dX11_worst_86 rfl ?_
      refine g_lcmp X dX11_worst_87 ?_
      refine g_if_le (tgt := 97) X dX11_worst_88 (by decide) (fun c88 => ?_) (fun c88 => ?_)
      · rw [if_pos c88] at hM
        refine g_mk [true, true, true, true, false, true, false, false] [some (.ref (B + 0)), some (.int x1), some (.int x2), some (.long x3), none, some (.int x5), none, none] rfl ?_
        exact v_X11_worst_b97 X ih36 hM
      · rw [if_neg c88] at hM
        refine g_lload X dX11_worst_91 rfl ?_
        refine g_lstore_n X [some (.ref (B + 0)), some (.int x1), some (.int x2), some (.long w79), none, some (.int x5), some (.long w79), none] dX11_worst_93 (by decide) rfl ?_
        refine g_iload X dX11_worst_94 rfl ?_
        refine g_istore_n X [some (.ref (B + 0)), some (.int x1), some (.int x5), some (.long w79), none, some (.int x5), some (.long w79), none] dX11_worst_96 (by decide) rfl ?_
        refine g_mk [true, true, true, true, false, true, false, false] [some (.ref (B + 0)), some (.int x1), some (.int x5), some (.long w79), none, some (.int x5), none, none] rfl ?_
        exact v_X11_worst_b97 X ih36 hM
theorem v_X11_worst_l36 {κ : gK} {B : Nat} (X : gX κ B skC cX11_worst 8 RX11 (some .long) 5 122)   : ∀ (n : Nat) {x1 : Int32} {x2 : Int32} {x3 : Int64} {x5 : Int32} {u : gM} {w : (Int64 × gM)} (hM : X11_worst_l36  n x1 x2 x3 x5 u = some w), gV κ B skC 8 ((some (.long w.1)), w.2) 36 [some (.ref (B + 0)), some (.int x1), some (.int x2), some (.long x3), none, some (.int x5), none, none] [] u := by
  intro n
  induction n with
  | zero => intro x1 x2 x3 x5 u w hM; exact nomatch (show (none : Option (Int64 × gM)) = some w from hM)
  | succ n ihn => intro x1 x2 x3 x5 u w hM; exact v_X11_worst_b36 X  (fun x1 x2 x3 x5 u w h => ihn h) hM
set_option maxRecDepth 20000 in
theorem v_X11_worst_b13 {κ : gK} {B : Nat} {u : gM} (X : gX κ B skC cX11_worst 8 RX11 (some .long) 5 122)   {x1 : Int32} {w : (Int64 × gM)} (hM : X11_worst_b13 x1 u = some w) : gV κ B skC 8 ((some (.long w.1)), w.2) 13 [some (.ref (B + 0)), some (.int x1), none, none, none, none, none, none] [] u := by
  unfold X11_worst_b13 at hM
  refine g_aload_n X dX11_worst_13 rfl ?_
  refine g_getR X fX11_60 cC_0 rfl dX11_worst_14 ?_
  refine g_aload_n X dX11_worst_17 rfl ?_
  refine g_getR X fX11_26 cC_0 rfl dX11_worst_18 ?_
  refine g_getI X fX11_191 cC_18 rfl dX11_worst_21 ?_
  obtain ⟨w24, e24, hM⟩ := bind_of hM
  refine g_callVv X (fun B adK => [.int (u.1 18 0)]) (s_X1_insure e24) cvX11_210 cC_136 rfl rfl (Nat.le_of_ble_eq_true rfl) ⟨by decide, by decide⟩ dX11_worst_24 ?_
  refine g_iconst X (v := (-1)) dX11_worst_27 (by decide) ?_
  refine g_istore_n X [some (.ref (B + 0)), some (.int x1), some (.int (-1)), none, none, none, none, none] dX11_worst_28 (by decide) rfl ?_
  refine g_ldc2 (v := (-1)) X m_50_11 dX11_worst_29 ?_
  refine g_lstore_n X [some (.ref (B + 0)), some (.int x1), some (.int (-1)), some (.long (-1)), none, none, none, none] dX11_worst_32 (by decide) rfl ?_
  refine g_iconst X (v := 0) dX11_worst_33 (by decide) ?_
  refine g_istore X [some (.ref (B + 0)), some (.int x1), some (.int (-1)), some (.long (-1)), none, some (.int 0), none, none] dX11_worst_34 (by decide) rfl ?_
  refine g_mk [true, true, true, true, false, true, false, false] [some (.ref (B + 0)), some (.int x1), some (.int (-1)), some (.long (-1)), none, some (.int 0), none, none] rfl ?_
  exact v_X11_worst_l36 X  fz hM
set_option maxRecDepth 20000 in
theorem v_X11_worst {κ : gK} {B : Nat} {u : gM} (X : gX κ B skC cX11_worst 8 RX11 (some .long) 5 122)   {x1 : Int32} {w : (Int64 × gM)} (hM : X11_worst x1 u = some w) : gV κ B skC 8 ((some (.long w.1)), w.2) 0 [some (.ref (B + 0)), some (.int x1), none, none, none, none, none, none] [] u := by
  unfold X11_worst at hM
  refine g_iload_n X dX11_worst_0 rfl ?_
  refine g_if_eq (tgt := 13) X dX11_worst_1 (by decide) (fun c1 => ?_) (fun c1 => ?_)
  · rw [if_pos c1] at hM
    refine g_mk [true, true, false, false, false, false, false, false] [some (.ref (B + 0)), some (.int x1), none, none, none, none, none, none] rfl ?_
    exact v_X11_worst_b13 X  hM
  · rw [if_neg c1] at hM
    refine g_iload_n X dX11_worst_4 rfl ?_
    refine g_iconst X (v := 1) dX11_worst_5 (by decide) ?_
    refine g_icmp_eq (tgt := 13) X dX11_worst_6 (by decide) (fun c6 => ?_) (fun c6 => ?_)
    · rw [if_pos c6] at hM
      refine g_mk [true, true, false, false, false, false, false, false] [some (.ref (B + 0)), some (.int x1), none, none, none, none, none, none] rfl ?_
      exact v_X11_worst_b13 X  hM
    · rw [if_neg c6] at hM
      refine g_ldc2 (v := (-1)) X m_50_11 dX11_worst_9 ?_
      cases hM
      exact g_lret X dX11_worst_12
theorem s_X11_worst {x1 : Int32} {u : gM} {w : (Int64 × gM)} (hM : X11_worst x1 u = some w) : gMet skC yX11_worst cX11_worst 8 (some .long) 5 122 (fun B adK => [.ref (B + 0), .int x1]) u ((fun _ => some (.long w.1)), w.2) := by
  refine gMet.of (by decide) (fun _ _ => Nat.le_of_ble_eq_true rfl) (fun κ B X => ?_)
  have X : gX κ B skC cX11_worst 8 RX11 (some .long) 5 122 := X
  refine g_mk [true, true, false, false, false, false, false, false] [some (.ref (B + 0)), some (.int x1), none, none, none, none, none, none] rfl ?_
  exact v_X11_worst X  hM
theorem fr_X11_worst_b113 {S : Nat → Prop} {u0 u : gM} {s0 : Int64}    {w : (Int64 × gM)} (hM : X11_worst_b113 s0 u = some w) (h0 : off S u0 u) : off S u0 w.2 := by
  unfold X11_worst_b113 at hM
  cases hM
  exact h0
theorem fr_X11_worst_b97 {S : Nat → Prop} {u0 u : gM} {x1 : Int32} {x2 : Int32} {x3 : Int64} {x5 : Int32} (hs0 : S (rf skC 146 2)) (hs1 : S (rf skC 146 3)) (hs2 : S (rf skC 146 4)) (hs3 : S (rf skC 156 2)) (hs4 : S (rf skC 156 3)) (hs5 : S (rf skC 156 4)) (hs6 : S (rf skC 156 5)) (hs7 : S (rf skC 156 6)) (hs8 : S 146) (hs9 : S 156) {k36 : Int32 → Int32 → Int64 → Int32 → gM → Option (Int64 × gM)} (ik36 : ∀ (x1 : Int32) (x2 : Int32) (x3 : Int64) (x5 : Int32) (u : gM) (w : (Int64 × gM)), S (rf skC 146 2) → S (rf skC 146 3) → S (rf skC 146 4) → S (rf skC 156 2) → S (rf skC 156 3) → S (rf skC 156 4) → S (rf skC 156 5) → S (rf skC 156 6) → S 146 → S 156 → off S u0 u → k36 x1 x2 x3 x5 u = some w → off S u0 w.2) {w : (Int64 × gM)} (hM : X11_worst_b97 k36 x1 x2 x3 x5 u = some w) (h0 : off S u0 u) : off S u0 w.2 := by
  unfold X11_worst_b97 at hM
  exact ik36 _ _ _ _ _ _ hs0 hs1 hs2 hs3 hs4 hs5 hs6 hs7 hs8 hs9 h0 hM
theorem fr_X11_worst_b36 {S : Nat → Prop} {u0 u : gM} {x1 : Int32} {x2 : Int32} {x3 : Int64} {x5 : Int32} (hs0 : S (rf skC 146 2)) (hs1 : S (rf skC 146 3)) (hs2 : S (rf skC 146 4)) (hs3 : S (rf skC 156 2)) (hs4 : S (rf skC 156 3)) (hs5 : S (rf skC 156 4)) (hs6 : S (rf skC 156 5)) (hs7 : S (rf skC 156 6)) (hs8 : S 146) (hs9 : S 156) {k36 : Int32 → Int32 → Int64 → Int32 → gM → Option (Int64 × gM)} (ik36 : ∀ (x1 : Int32) (x2 : Int32) (x3 : Int64) (x5 : Int32) (u : gM) (w : (Int64 × gM)), S (rf skC 146 2) → S (rf skC 146 3) → S (rf skC 146 4) → S (rf skC 156 2) → S (rf skC 156 3) → S (rf skC 156 4) → S (rf skC 156 5) → S (rf skC 156 6) → S 146 → S 156 → off S u0 u → k36 x1 x2 x3 x5 u = some w → off S u0 w.2) {w : (Int64 × gM)} (hM : X11_worst_b36 k36 x1 x2 x3 x5 u = some w) (h0 : off S u0 u) : off S u0 w.2 := by
  unfold X11_worst_b36 at hM
  by_cases c45 : (u.1 3 1) ≤ x5
  · rw [if_pos c45] at hM
    by_cases c104 : x1 = 0
    · rw [if_pos c104] at hM
      exact fr_X11_worst_b113   hM h0
    · rw [if_neg c104] at hM
      exact fr_X11_worst_b113   hM h0
  · rw [if_neg c45] at hM
    obtain ⟨w54, e54, hM⟩ := bind_of hM
    by_cases c57 : w54 = 0
    · rw [if_pos c57] at hM
      exact fr_X11_worst_b97 hs0 hs1 hs2 hs3 hs4 hs5 hs6 hs7 hs8 hs9 ik36 hM h0
    · rw [if_neg c57] at hM
      obtain ⟨w71, e71, hM⟩ := bind_of hM
      have h0 := fr_X3_windUp hs0 hs1 hs2 hs3 hs4 hs5 hs6 hs7 hs8 hs9 e71 h0
      obtain ⟨w79, e79, hM⟩ := bind_of hM
      by_cases c88 : (lg_cmp w79 x3) ≤ 0
      · rw [if_pos c88] at hM
        exact fr_X11_worst_b97 hs0 hs1 hs2 hs3 hs4 hs5 hs6 hs7 hs8 hs9 ik36 hM h0
      · rw [if_neg c88] at hM
        exact fr_X11_worst_b97 hs0 hs1 hs2 hs3 hs4 hs5 hs6 hs7 hs8 hs9 ik36 hM h0
theorem fr_X11_worst_l36 {S : Nat → Prop} {u0 : gM}   : ∀ (n : Nat) {x1 : Int32} {x2 : Int32} {x3 : Int64} {x5 : Int32} (hs0 : S (rf skC 146 2)) (hs1 : S (rf skC 146 3)) (hs2 : S (rf skC 146 4)) (hs3 : S (rf skC 156 2)) (hs4 : S (rf skC 156 3)) (hs5 : S (rf skC 156 4)) (hs6 : S (rf skC 156 5)) (hs7 : S (rf skC 156 6)) (hs8 : S 146) (hs9 : S 156) {u : gM} {w : (Int64 × gM)} (h0 : off S u0 u) (hM : X11_worst_l36  n x1 x2 x3 x5 u = some w), off S u0 w.2 := by
  intro n
  induction n with
  | zero => intro x1 x2 x3 x5 hs0 hs1 hs2 hs3 hs4 hs5 hs6 hs7 hs8 hs9 u w h0 hM; exact nomatch (show (none : Option (Int64 × gM)) = some w from hM)
  | succ n ihn => intro x1 x2 x3 x5 hs0 hs1 hs2 hs3 hs4 hs5 hs6 hs7 hs8 hs9 u w h0 hM; exact fr_X11_worst_b36 hs0 hs1 hs2 hs3 hs4 hs5 hs6 hs7 hs8 hs9  (fun x1 x2 x3 x5 _ _ hs0 hs1 hs2 hs3 hs4 hs5 hs6 hs7 hs8 hs9 h0 h => ihn hs0 hs1 hs2 hs3 hs4 hs5 hs6 hs7 hs8 hs9 h0 h) hM h0
theorem fr_X11_worst_b13 {S : Nat → Prop} {u0 u : gM} {x1 : Int32} (hs0 : S (rf skC 138 2)) (hs1 : S (rf skC 138 3)) (hs2 : S (rf skC 138 4)) (hs3 : S (rf skC 146 2)) (hs4 : S (rf skC 146 3)) (hs5 : S (rf skC 146 4)) (hs6 : S (rf skC 156 2)) (hs7 : S (rf skC 156 3)) (hs8 : S (rf skC 156 4)) (hs9 : S (rf skC 156 5)) (hs10 : S (rf skC 156 6)) (hs11 : S 137) (hs12 : S 138) (hs13 : S 142) (hs14 : S 143) (hs15 : S 144) (hs16 : S 146) (hs17 : S 156)   {w : (Int64 × gM)} (hM : X11_worst_b13 x1 u = some w) (h0 : off S u0 u) : off S u0 w.2 := by
  unfold X11_worst_b13 at hM
  obtain ⟨w24, e24, hM⟩ := bind_of hM
  have h0 := fr_X1_insure hs0 hs1 hs2 hs11 hs12 hs13 hs14 hs15 e24 h0
  exact fr_X11_worst_l36  fz hs3 hs4 hs5 hs6 hs7 hs8 hs9 hs10 hs16 hs17 h0 hM
theorem fr_X11_worst {S : Nat → Prop} {u0 u : gM} {x1 : Int32} (hs0 : S (rf skC 138 2)) (hs1 : S (rf skC 138 3)) (hs2 : S (rf skC 138 4)) (hs3 : S (rf skC 146 2)) (hs4 : S (rf skC 146 3)) (hs5 : S (rf skC 146 4)) (hs6 : S (rf skC 156 2)) (hs7 : S (rf skC 156 3)) (hs8 : S (rf skC 156 4)) (hs9 : S (rf skC 156 5)) (hs10 : S (rf skC 156 6)) (hs11 : S 137) (hs12 : S 138) (hs13 : S 142) (hs14 : S 143) (hs15 : S 144) (hs16 : S 146) (hs17 : S 156)   {w : (Int64 × gM)} (hM : X11_worst x1 u = some w) (h0 : off S u0 u) : off S u0 w.2 := by
  unfold X11_worst at hM
  by_cases c1 : x1 = 0
  · rw [if_pos c1] at hM
    exact fr_X11_worst_b13 hs0 hs1 hs2 hs3 hs4 hs5 hs6 hs7 hs8 hs9 hs10 hs11 hs12 hs13 hs14 hs15 hs16 hs17  hM h0
  · rw [if_neg c1] at hM
    by_cases c6 : x1 = 1
    · rw [if_pos c6] at hM
      exact fr_X11_worst_b13 hs0 hs1 hs2 hs3 hs4 hs5 hs6 hs7 hs8 hs9 hs10 hs11 hs12 hs13 hs14 hs15 hs16 hs17  hM h0
    · rw [if_neg c6] at hM
      cases hM
      exact h0

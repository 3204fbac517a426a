/-! CoverDesk$BookReader.readPerson()Z -/
theorem dX0_readPerson_0 : decode cX0_readPerson 0 = .ok (.aload_n 0, 1) := by decide +kernel
theorem dX0_readPerson_1 : decode cX0_readPerson 1 = .ok (.getfield 18, 3) := by decide +kernel
theorem dX0_readPerson_4 : decode cX0_readPerson 4 = .ok (.invokevirtual 66, 3) := by decide +kernel
theorem dX0_readPerson_7 : decode cX0_readPerson 7 = .ok (.aload_n 0, 1) := by decide +kernel
theorem dX0_readPerson_8 : decode cX0_readPerson 8 = .ok (.getfield 12, 3) := by decide +kernel
theorem dX0_readPerson_11 : decode cX0_readPerson 11 = .ok (.getfield 69, 3) := by decide +kernel
theorem dX0_readPerson_14 : decode cX0_readPerson 14 = .ok (.istore_n 1, 1) := by decide +kernel
theorem dX0_readPerson_15 : decode cX0_readPerson 15 = .ok (.aload_n 0, 1) := by decide +kernel
theorem dX0_readPerson_16 : decode cX0_readPerson 16 = .ok (.getfield 18, 3) := by decide +kernel
theorem dX0_readPerson_19 : decode cX0_readPerson 19 = .ok (.getfield 72, 3) := by decide +kernel
theorem dX0_readPerson_22 : decode cX0_readPerson 22 = .ok (.lstore_n 2, 1) := by decide +kernel
theorem dX0_readPerson_23 : decode cX0_readPerson 23 = .ok (.aload_n 0, 1) := by decide +kernel
theorem dX0_readPerson_24 : decode cX0_readPerson 24 = .ok (.getfield 18, 3) := by decide +kernel
theorem dX0_readPerson_27 : decode cX0_readPerson 27 = .ok (.aload_n 0, 1) := by decide +kernel
theorem dX0_readPerson_28 : decode cX0_readPerson 28 = .ok (.getfield 12, 3) := by decide +kernel
theorem dX0_readPerson_31 : decode cX0_readPerson 31 = .ok (.lload_n 2, 1) := by decide +kernel
theorem dX0_readPerson_32 : decode cX0_readPerson 32 = .ok (.invokevirtual 76, 3) := by decide +kernel
theorem dX0_readPerson_35 : decode cX0_readPerson 35 = .ok (.iload_n 1, 1) := by decide +kernel
theorem dX0_readPerson_36 : decode cX0_readPerson 36 = .ok (.bipush 10, 2) := by decide +kernel
theorem dX0_readPerson_38 : decode cX0_readPerson 38 = .ok (.if_icmp .lt 7, 3) := by decide +kernel
theorem dX0_readPerson_41 : decode cX0_readPerson 41 = .ok (.iconst 1, 1) := by decide +kernel
theorem dX0_readPerson_42 : decode cX0_readPerson 42 = .ok (.goto 4, 3) := by decide +kernel
theorem dX0_readPerson_45 : decode cX0_readPerson 45 = .ok (.iconst 0, 1) := by decide +kernel
theorem dX0_readPerson_46 : decode cX0_readPerson 46 = .ok (.invokevirtual 80, 3) := by decide +kernel
theorem dX0_readPerson_49 : decode cX0_readPerson 49 = .ok (.ifCond .ne 5, 3) := by decide +kernel
theorem dX0_readPerson_52 : decode cX0_readPerson 52 = .ok (.iconst 0, 1) := by decide +kernel
theorem dX0_readPerson_53 : decode cX0_readPerson 53 = .ok (.ireturn, 1) := by decide +kernel
theorem dX0_readPerson_54 : decode cX0_readPerson 54 = .ok (.aload_n 0, 1) := by decide +kernel
theorem dX0_readPerson_55 : decode cX0_readPerson 55 = .ok (.getfield 12, 3) := by decide +kernel
theorem dX0_readPerson_58 : decode cX0_readPerson 58 = .ok (.getfield 84, 3) := by decide +kernel
theorem dX0_readPerson_61 : decode cX0_readPerson 61 = .ok (.iload_n 1, 1) := by decide +kernel
theorem dX0_readPerson_62 : decode cX0_readPerson 62 = .ok (.lload_n 2, 1) := by decide +kernel
theorem dX0_readPerson_63 : decode cX0_readPerson 63 = .ok (.lastore, 1) := by decide +kernel
theorem dX0_readPerson_64 : decode cX0_readPerson 64 = .ok (.aload_n 0, 1) := by decide +kernel
theorem dX0_readPerson_65 : decode cX0_readPerson 65 = .ok (.getfield 12, 3) := by decide +kernel
theorem dX0_readPerson_68 : decode cX0_readPerson 68 = .ok (.iload_n 1, 1) := by decide +kernel
theorem dX0_readPerson_69 : decode cX0_readPerson 69 = .ok (.iconst 1, 1) := by decide +kernel
theorem dX0_readPerson_70 : decode cX0_readPerson 70 = .ok (.iadd, 1) := by decide +kernel
theorem dX0_readPerson_71 : decode cX0_readPerson 71 = .ok (.putfield 69, 3) := by decide +kernel
theorem dX0_readPerson_74 : decode cX0_readPerson 74 = .ok (.iconst 1, 1) := by decide +kernel
theorem dX0_readPerson_75 : decode cX0_readPerson 75 = .ok (.ireturn, 1) := by decide +kernel
def X0_readPerson_b46  (x1 : Int32) (x2 : Int64) (s1 : Int32) (s2 : Int32) (u : gM) : Option (Int32 × gM) :=
((X9_passNew s1 s2 u).bind fun w46 => (if w46.1 = 0 then some (0, w46.2)
  else ((sJ skC w46.2 118 x1 x2).bind fun u63 => some (1, upI u63 117 0 (x1 + 1)))))
def X0_readPerson   (u : gM) : Option (Int32 × gM) :=
((X9_step u).bind fun w4 => ((X10_isTaken w4 117 (w4.2 1 7)).bind fun w32 => (if (w4.1 117 0) < 10 then (X0_readPerson_b46 (w4.1 117 0) (w4.2 1 7) w32 0 w4)
  else (X0_readPerson_b46 (w4.1 117 0) (w4.2 1 7) w32 1 w4))))
set_option maxRecDepth 20000 in
theorem v_X0_readPerson_b46 {κ : gK} {B : Nat} {u : gM} (X : gX κ B skC cX0_readPerson 4 RX0 (some .boolean) 7 167)   {x1 : Int32} {x2 : Int64} {s1 : Int32} {s2 : Int32} {w : (Int32 × gM)} (hM : X0_readPerson_b46 x1 x2 s1 s2 u = some w) : gV κ B skC 4 ((some (.int w.1)), w.2) 46 [some (.ref (B + 116)), some (.int x1), some (.long x2), none] [.int s2, .int s1, .ref (B + 1)] u := by
  unfold X0_readPerson_b46 at hM
  obtain ⟨w46, e46, hM⟩ := bind_of hM
  refine g_callVi X (fun B adK => [.int s1, .int s2]) (s_X9_passNew e46) cvX0_80 cC_1 rfl rfl (Nat.le_of_ble_eq_true rfl) ⟨by decide, by decide⟩ dX0_readPerson_46 ?_
  refine g_if_ne (tgt := 54) X dX0_readPerson_49 (by decide) (fun c49 => ?_) (fun c49 => ?_)
  · rw [if_neg c49] at hM
    refine g_aload_n X dX0_readPerson_54 rfl ?_
    refine g_getR X fX0_12 cC_116 rfl dX0_readPerson_55 ?_
    refine g_getR X fX0_84 cC_117 rfl dX0_readPerson_58 ?_
    refine g_iload_n X dX0_readPerson_61 rfl ?_
    refine g_lload_n X dX0_readPerson_62 rfl ?_
    obtain ⟨u63, e63, hM⟩ := bind_of hM
    refine g_lastore X e63 dX0_readPerson_63 ?_
    refine g_aload_n X dX0_readPerson_64 rfl ?_
    refine g_getR X fX0_12 cC_116 rfl dX0_readPerson_65 ?_
    refine g_iload_n X dX0_readPerson_68 rfl ?_
    refine g_iconst X (v := 1) dX0_readPerson_69 (by decide) ?_
    refine g_iadd X dX0_readPerson_70 ?_
    refine g_putI X fX0_69 gc_X10 gp_X10_0 cC_117 rfl dX0_readPerson_71 ?_
    refine g_iconst X (v := 1) dX0_readPerson_74 (by decide) ?_
    cases hM
    exact g_zret X (Or.inr rfl) dX0_readPerson_75
  · rw [if_pos c49] at hM
    refine g_iconst X (v := 0) dX0_readPerson_52 (by decide) ?_
    cases hM
    exact g_zret X (Or.inl rfl) dX0_readPerson_53
set_option maxRecDepth 20000 in
theorem v_X0_readPerson {κ : gK} {B : Nat} {u : gM} (X : gX κ B skC cX0_readPerson 4 RX0 (some .boolean) 7 167)    {w : (Int32 × gM)} (hM : X0_readPerson u = some w) : gV κ B skC 4 ((some (.int w.1)), w.2) 0 [some (.ref (B + 116)), none, none, none] [] u := by
  unfold X0_readPerson at hM
  refine g_aload_n X dX0_readPerson_0 rfl ?_
  refine g_getR X fX0_18 cC_116 rfl dX0_readPerson_1 ?_
  obtain ⟨w4, e4, hM⟩ := bind_of hM
  refine g_callVv X (fun B adK => []) (s_X9_step e4) cvX0_66 cC_1 rfl rfl (Nat.le_of_ble_eq_true rfl) ⟨by decide, by decide⟩ dX0_readPerson_4 ?_
  refine g_aload_n X dX0_readPerson_7 rfl ?_
  refine g_getR X fX0_12 cC_116 rfl dX0_readPerson_8 ?_
  refine g_getI X fX0_69 cC_117 rfl dX0_readPerson_11 ?_
  refine g_istore_n X [some (.ref (B + 116)), some (.int (w4.1 117 0)), none, none] dX0_readPerson_14 (by decide) rfl ?_
  refine g_aload_n X dX0_readPerson_15 rfl ?_
  refine g_getR X fX0_18 cC_116 rfl dX0_readPerson_16 ?_
  refine g_getJ X fX0_72 cC_1 rfl dX0_readPerson_19 ?_
  refine g_lstore_n X [some (.ref (B + 116)), some (.int (w4.1 117 0)), some (.long (w4.2 1 7)), none] dX0_readPerson_22 (by decide) rfl ?_
  refine g_aload_n X dX0_readPerson_23 rfl ?_
  refine g_getR X fX0_18 cC_116 rfl dX0_readPerson_24 ?_
  refine g_aload_n X dX0_readPerson_27 rfl ?_
  refine g_getR X fX0_12 cC_116 rfl dX0_readPerson_28 ?_
  refine g_lload_n X dX0_readPerson_31 rfl ?_
  obtain ⟨w32, e32, hM⟩ := bind_of hM
  refine g_callVi X (fun B adK => [.long (w4.2 1 7)]) (s_X10_isTaken e32) cvX0_76 cC_117 rfl rfl (Nat.le_of_ble_eq_true rfl) ⟨by decide, by decide⟩ dX0_readPerson_32 ?_
  refine g_iload_n X dX0_readPerson_35 rfl ?_
  refine g_bipush X (v := 10) dX0_readPerson_36 (by decide) ?_
  refine g_icmp_lt (tgt := 45) X dX0_readPerson_38 (by decide) (fun c38 => ?_) (fun c38 => ?_)
  · rw [if_pos c38] at hM
    refine g_iconst X (v := 0) dX0_readPerson_45 (by decide) ?_
    refine g_mk [true, true, true, false] [some (.ref (B + 116)), some (.int (w4.1 117 0)), some (.long (w4.2 1 7)), none] rfl ?_
    exact v_X0_readPerson_b46 X  hM
  · rw [if_neg c38] at hM
    refine g_iconst X (v := 1) dX0_readPerson_41 (by decide) ?_
    refine g_goto (tgt := 46) X dX0_readPerson_42 (by decide) ?_
    refine g_mk [true, true, true, false] [some (.ref (B + 116)), some (.int (w4.1 117 0)), some (.long (w4.2 1 7)), none] rfl ?_
    exact v_X0_readPerson_b46 X  hM
theorem s_X0_readPerson  {u : gM} {w : (Int32 × gM)} (hM : X0_readPerson u = some w) : gMet skC yX0_readPerson cX0_readPerson 4 (some .boolean) 7 167 (fun B adK => [.ref (B + 116)]) u ((fun _ => some (.int w.1)), w.2) := by
  refine gMet.of (by decide) (fun _ _ => Nat.le_of_ble_eq_true rfl) (fun κ B X => ?_)
  have X : gX κ B skC cX0_readPerson 4 RX0 (some .boolean) 7 167 := X
  refine g_mk [true, false, false, false] [some (.ref (B + 116)), none, none, none] rfl ?_
  exact v_X0_readPerson X  hM
theorem fr_X0_readPerson_b46 {S : Nat → Prop} {u0 u : gM} {x1 : Int32} {x2 : Int64} {s1 : Int32} {s2 : Int32} (hs0 : S 1) (hs1 : S 117) (hs2 : S 118)   {w : (Int32 × gM)} (hM : X0_readPerson_b46 x1 x2 s1 s2 u = some w) (h0 : off S u0 u) : off S u0 w.2 := by
  unfold X0_readPerson_b46 at hM
  obtain ⟨w46, e46, hM⟩ := bind_of hM
  have h0 := fr_X9_passNew hs0 e46 h0
  by_cases c49 : w46.1 = 0
  · rw [if_pos c49] at hM
    cases hM
    exact h0
  · rw [if_neg c49] at hM
    obtain ⟨u63, e63, hM⟩ := bind_of hM
    have h0 := off_sJ hs2 e63 h0
    have h0 := off_upI (u := u63) (k := 117) (j := 0) (x := (x1 + 1)) hs1 h0
    cases hM
    exact h0
theorem fr_X0_readPerson {S : Nat → Prop} {u0 u : gM}  (hs0 : S 1) (hs1 : S 117) (hs2 : S 118)   {w : (Int32 × gM)} (hM : X0_readPerson u = some w) (h0 : off S u0 u) : off S u0 w.2 := by
  unfold X0_readPerson at hM
  obtain ⟨w4, e4, hM⟩ := bind_of hM
  have h0 := fr_X9_step hs0 e4 h0
  obtain ⟨w32, e32, hM⟩ := bind_of hM
  by_cases c38 : (w4.1 117 0) < 10
  · rw [if_pos c38] at hM
    exact fr_X0_readPerson_b46 hs0 hs1 hs2  hM h0
  · rw [if_neg c38] at hM
    exact fr_X0_readPerson_b46 hs0 hs1 hs2  hM h0
/-! CoverDesk$BookReader.readBank()Z -/
theorem dX0_readBank_0 : decode cX0_readBank 0 = .ok (.aload_n 0, 1) := by decide +kernel
theorem dX0_readBank_1 : decode cX0_readBank 1 = .ok (.getfield 18, 3) := by decide +kernel
theorem dX0_readBank_4 : decode cX0_readBank 4 = .ok (.invokevirtual 66, 3) := by decide +kernel
theorem dX0_readBank_7 : decode cX0_readBank 7 = .ok (.aload_n 0, 1) := by decide +kernel
theorem dX0_readBank_8 : decode cX0_readBank 8 = .ok (.getfield 12, 3) := by decide +kernel
theorem dX0_readBank_11 : decode cX0_readBank 11 = .ok (.getfield 88, 3) := by decide +kernel
theorem dX0_readBank_14 : decode cX0_readBank 14 = .ok (.istore_n 1, 1) := by decide +kernel
theorem dX0_readBank_15 : decode cX0_readBank 15 = .ok (.aload_n 0, 1) := by decide +kernel
theorem dX0_readBank_16 : decode cX0_readBank 16 = .ok (.getfield 18, 3) := by decide +kernel
theorem dX0_readBank_19 : decode cX0_readBank 19 = .ok (.getfield 72, 3) := by decide +kernel
theorem dX0_readBank_22 : decode cX0_readBank 22 = .ok (.lstore_n 2, 1) := by decide +kernel
theorem dX0_readBank_23 : decode cX0_readBank 23 = .ok (.aload_n 0, 1) := by decide +kernel
theorem dX0_readBank_24 : decode cX0_readBank 24 = .ok (.getfield 18, 3) := by decide +kernel
theorem dX0_readBank_27 : decode cX0_readBank 27 = .ok (.aload_n 0, 1) := by decide +kernel
theorem dX0_readBank_28 : decode cX0_readBank 28 = .ok (.getfield 12, 3) := by decide +kernel
theorem dX0_readBank_31 : decode cX0_readBank 31 = .ok (.lload_n 2, 1) := by decide +kernel
theorem dX0_readBank_32 : decode cX0_readBank 32 = .ok (.invokevirtual 76, 3) := by decide +kernel
theorem dX0_readBank_35 : decode cX0_readBank 35 = .ok (.iload_n 1, 1) := by decide +kernel
theorem dX0_readBank_36 : decode cX0_readBank 36 = .ok (.bipush 6, 2) := by decide +kernel
theorem dX0_readBank_38 : decode cX0_readBank 38 = .ok (.if_icmp .lt 7, 3) := by decide +kernel
theorem dX0_readBank_41 : decode cX0_readBank 41 = .ok (.iconst 1, 1) := by decide +kernel
theorem dX0_readBank_42 : decode cX0_readBank 42 = .ok (.goto 4, 3) := by decide +kernel
theorem dX0_readBank_45 : decode cX0_readBank 45 = .ok (.iconst 0, 1) := by decide +kernel
theorem dX0_readBank_46 : decode cX0_readBank 46 = .ok (.invokevirtual 80, 3) := by decide +kernel
theorem dX0_readBank_49 : decode cX0_readBank 49 = .ok (.ifCond .ne 5, 3) := by decide +kernel
theorem dX0_readBank_52 : decode cX0_readBank 52 = .ok (.iconst 0, 1) := by decide +kernel
theorem dX0_readBank_53 : decode cX0_readBank 53 = .ok (.ireturn, 1) := by decide +kernel
theorem dX0_readBank_54 : decode cX0_readBank 54 = .ok (.aload_n 0, 1) := by decide +kernel
theorem dX0_readBank_55 : decode cX0_readBank 55 = .ok (.getfield 12, 3) := by decide +kernel
theorem dX0_readBank_58 : decode cX0_readBank 58 = .ok (.getfield 91, 3) := by decide +kernel
theorem dX0_readBank_61 : decode cX0_readBank 61 = .ok (.iload_n 1, 1) := by decide +kernel
theorem dX0_readBank_62 : decode cX0_readBank 62 = .ok (.lload_n 2, 1) := by decide +kernel
theorem dX0_readBank_63 : decode cX0_readBank 63 = .ok (.lastore, 1) := by decide +kernel
theorem dX0_readBank_64 : decode cX0_readBank 64 = .ok (.aload_n 0, 1) := by decide +kernel
theorem dX0_readBank_65 : decode cX0_readBank 65 = .ok (.getfield 12, 3) := by decide +kernel
theorem dX0_readBank_68 : decode cX0_readBank 68 = .ok (.iload_n 1, 1) := by decide +kernel
theorem dX0_readBank_69 : decode cX0_readBank 69 = .ok (.iconst 1, 1) := by decide +kernel
theorem dX0_readBank_70 : decode cX0_readBank 70 = .ok (.iadd, 1) := by decide +kernel
theorem dX0_readBank_71 : decode cX0_readBank 71 = .ok (.putfield 88, 3) := by decide +kernel
theorem dX0_readBank_74 : decode cX0_readBank 74 = .ok (.iconst 1, 1) := by decide +kernel
theorem dX0_readBank_75 : decode cX0_readBank 75 = .ok (.ireturn, 1) := by decide +kernel
def X0_readBank_b46  (x1 : Int32) (x2 : Int64) (s1 : Int32) (s2 : Int32) (u : gM) : Option (Int32 × gM) :=
((X9_passNew s1 s2 u).bind fun w46 => (if w46.1 = 0 then some (0, w46.2)
  else ((sJ skC w46.2 119 x1 x2).bind fun u63 => some (1, upI u63 117 1 (x1 + 1)))))
def X0_readBank   (u : gM) : Option (Int32 × gM) :=
((X9_step u).bind fun w4 => ((X10_isTaken w4 117 (w4.2 1 7)).bind fun w32 => (if (w4.1 117 1) < 6 then (X0_readBank_b46 (w4.1 117 1) (w4.2 1 7) w32 0 w4)
  else (X0_readBank_b46 (w4.1 117 1) (w4.2 1 7) w32 1 w4))))
set_option maxRecDepth 20000 in
theorem v_X0_readBank_b46 {κ : gK} {B : Nat} {u : gM} (X : gX κ B skC cX0_readBank 4 RX0 (some .boolean) 7 167)   {x1 : Int32} {x2 : Int64} {s1 : Int32} {s2 : Int32} {w : (Int32 × gM)} (hM : X0_readBank_b46 x1 x2 s1 s2 u = some w) : gV κ B skC 4 ((some (.int w.1)), w.2) 46 [some (.ref (B + 116)), some (.int x1), some (.long x2), none] [.int s2, .int s1, .ref (B + 1)] u := by
  unfold X0_readBank_b46 at hM
  obtain ⟨w46, e46, hM⟩ := bind_of hM
  refine g_callVi X (fun B adK => [.int s1, .int s2]) (s_X9_passNew e46) cvX0_80 cC_1 rfl rfl (Nat.le_of_ble_eq_true rfl) ⟨by decide, by decide⟩ dX0_readBank_46 ?_
  refine g_if_ne (tgt := 54) X dX0_readBank_49 (by decide) (fun c49 => ?_) (fun c49 => ?_)
  · rw [if_neg c49] at hM
    refine g_aload_n X dX0_readBank_54 rfl ?_
    refine g_getR X fX0_12 cC_116 rfl dX0_readBank_55 ?_
    refine g_getR X fX0_91 cC_117 rfl dX0_readBank_58 ?_
    refine g_iload_n X dX0_readBank_61 rfl ?_
    refine g_lload_n X dX0_readBank_62 rfl ?_
    obtain ⟨u63, e63, hM⟩ := bind_of hM
    refine g_lastore X e63 dX0_readBank_63 ?_
    refine g_aload_n X dX0_readBank_64 rfl ?_
    refine g_getR X fX0_12 cC_116 rfl dX0_readBank_65 ?_
    refine g_iload_n X dX0_readBank_68 rfl ?_
    refine g_iconst X (v := 1) dX0_readBank_69 (by decide) ?_
    refine g_iadd X dX0_readBank_70 ?_
    refine g_putI X fX0_88 gc_X10 gp_X10_1 cC_117 rfl dX0_readBank_71 ?_
    refine g_iconst X (v := 1) dX0_readBank_74 (by decide) ?_
    cases hM
    exact g_zret X (Or.inr rfl) dX0_readBank_75
  · rw [if_pos c49] at hM
    refine g_iconst X (v := 0) dX0_readBank_52 (by decide) ?_
    cases hM
    exact g_zret X (Or.inl rfl) dX0_readBank_53
set_option maxRecDepth 20000 in
theorem v_X0_readBank {κ : gK} {B : Nat} {u : gM} (X : gX κ B skC cX0_readBank 4 RX0 (some .boolean) 7 167)    {w : (Int32 × gM)} (hM : X0_readBank u = some w) : gV κ B skC 4 ((some (.int w.1)), w.2) 0 [some (.ref (B + 116)), none, none, none] [] u := by
  unfold X0_readBank at hM
  refine g_aload_n X dX0_readBank_0 rfl ?_
  refine g_getR X fX0_18 cC_116 rfl dX0_readBank_1 ?_
  obtain ⟨w4, e4, hM⟩ := bind_of hM
  refine g_callVv X (fun B adK => []) (s_X9_step e4) cvX0_66 cC_1 rfl rfl (Nat.le_of_ble_eq_true rfl) ⟨by decide, by decide⟩ dX0_readBank_4 ?_
  refine g_aload_n X dX0_readBank_7 rfl ?_
  refine g_getR X fX0_12 cC_116 rfl dX0_readBank_8 ?_
  refine g_getI X fX0_88 cC_117 rfl dX0_readBank_11 ?_
  refine g_istore_n X [some (.ref (B + 116)), some (.int (w4.1 117 1)), none, none] dX0_readBank_14 (by decide) rfl ?_
  refine g_aload_n X dX0_readBank_15 rfl ?_
  refine g_getR X fX0_18 cC_116 rfl dX0_readBank_16 ?_
  refine g_getJ X fX0_72 cC_1 rfl dX0_readBank_19 ?_
  refine g_lstore_n X [some (.ref (B + 116)), some (.int (w4.1 117 1)), some (.long (w4.2 1 7)), none] dX0_readBank_22 (by decide) rfl ?_
  refine g_aload_n X dX0_readBank_23 rfl ?_
  refine g_getR X fX0_18 cC_116 rfl dX0_readBank_24 ?_
  refine g_aload_n X dX0_readBank_27 rfl ?_
  refine g_getR X fX0_12 cC_116 rfl dX0_readBank_28 ?_
  refine g_lload_n X dX0_readBank_31 rfl ?_
  obtain ⟨w32, e32, hM⟩ := bind_of hM
  refine g_callVi X (fun B adK => [.long (w4.2 1 7)]) (s_X10_isTaken e32) cvX0_76 cC_117 rfl rfl (Nat.le_of_ble_eq_true rfl) ⟨by decide, by decide⟩ dX0_readBank_32 ?_
  refine g_iload_n X dX0_readBank_35 rfl ?_
  refine g_bipush X (v := 6) dX0_readBank_36 (by decide) ?_
  refine g_icmp_lt (tgt := 45) X dX0_readBank_38 (by decide) (fun c38 => ?_) (fun c38 => ?_)
  · rw [if_pos c38] at hM
    refine g_iconst X (v := 0) dX0_readBank_45 (by decide) ?_
    refine g_mk [true, true, true, false] [some (.ref (B + 116)), some (.int (w4.1 117 1)), some (.long (w4.2 1 7)), none] rfl ?_
    exact v_X0_readBank_b46 X  hM
  · rw [if_neg c38] at hM
    refine g_iconst X (v := 1) dX0_readBank_41 (by decide) ?_
    refine g_goto (tgt := 46) X dX0_readBank_42 (by decide) ?_
    refine g_mk [true, true, true, false] [some (.ref (B + 116)), some (.int (w4.1 117 1)), some (.long (w4.2 1 7)), none] rfl ?_
    exact v_X0_readBank_b46 X  hM
theorem s_X0_readBank  {u : gM} {w : (Int32 × gM)} (hM : X0_readBank u = some w) : gMet skC yX0_readBank cX0_readBank 4 (some .boolean) 7 167 (fun B adK => [.ref (B + 116)]) u ((fun _ => some (.int w.1)), w.2) := by
  refine gMet.of (by decide) (fun _ _ => Nat.le_of_ble_eq_true rfl) (fun κ B X => ?_)
  have X : gX κ B skC cX0_readBank 4 RX0 (some .boolean) 7 167 := X
  refine g_mk [true, false, false, false] [some (.ref (B + 116)), none, none, none] rfl ?_
  exact v_X0_readBank X  hM
theorem fr_X0_readBank_b46 {S : Nat → Prop} {u0 u : gM} {x1 : Int32} {x2 : Int64} {s1 : Int32} {s2 : Int32} (hs0 : S 1) (hs1 : S 117) (hs2 : S 119)   {w : (Int32 × gM)} (hM : X0_readBank_b46 x1 x2 s1 s2 u = some w) (h0 : off S u0 u) : off S u0 w.2 := by
  unfold X0_readBank_b46 at hM
  obtain ⟨w46, e46, hM⟩ := bind_of hM
  have h0 := fr_X9_passNew hs0 e46 h0
  by_cases c49 : w46.1 = 0
  · rw [if_pos c49] at hM
    cases hM
    exact h0
  · rw [if_neg c49] at hM
    obtain ⟨u63, e63, hM⟩ := bind_of hM
    have h0 := off_sJ hs2 e63 h0
    have h0 := off_upI (u := u63) (k := 117) (j := 1) (x := (x1 + 1)) hs1 h0
    cases hM
    exact h0
theorem fr_X0_readBank {S : Nat → Prop} {u0 u : gM}  (hs0 : S 1) (hs1 : S 117) (hs2 : S 119)   {w : (Int32 × gM)} (hM : X0_readBank u = some w) (h0 : off S u0 u) : off S u0 w.2 := by
  unfold X0_readBank at hM
  obtain ⟨w4, e4, hM⟩ := bind_of hM
  have h0 := fr_X9_step hs0 e4 h0
  obtain ⟨w32, e32, hM⟩ := bind_of hM
  by_cases c38 : (w4.1 117 1) < 6
  · rw [if_pos c38] at hM
    exact fr_X0_readBank_b46 hs0 hs1 hs2  hM h0
  · rw [if_neg c38] at hM
    exact fr_X0_readBank_b46 hs0 hs1 hs2  hM h0
/-! CoverDesk$BookReader.readLimit()Z -/
theorem dX0_readLimit_0 : decode cX0_readLimit 0 = .ok (.aload_n 0, 1) := by decide +kernel
theorem dX0_readLimit_1 : decode cX0_readLimit 1 = .ok (.getfield 18, 3) := by decide +kernel
theorem dX0_readLimit_4 : decode cX0_readLimit 4 = .ok (.invokevirtual 66, 3) := by decide +kernel
theorem dX0_readLimit_7 : decode cX0_readLimit 7 = .ok (.aload_n 0, 1) := by decide +kernel
theorem dX0_readLimit_8 : decode cX0_readLimit 8 = .ok (.getfield 18, 3) := by decide +kernel
theorem dX0_readLimit_11 : decode cX0_readLimit 11 = .ok (.iconst 1, 1) := by decide +kernel
theorem dX0_readLimit_12 : decode cX0_readLimit 12 = .ok (.ldc 94, 2) := by decide +kernel
theorem dX0_readLimit_14 : decode cX0_readLimit 14 = .ok (.invokevirtual 95, 3) := by decide +kernel
theorem dX0_readLimit_17 : decode cX0_readLimit 17 = .ok (.ifCond .ne 5, 3) := by decide +kernel
theorem dX0_readLimit_20 : decode cX0_readLimit 20 = .ok (.iconst 0, 1) := by decide +kernel
theorem dX0_readLimit_21 : decode cX0_readLimit 21 = .ok (.ireturn, 1) := by decide +kernel
theorem dX0_readLimit_22 : decode cX0_readLimit 22 = .ok (.aload_n 0, 1) := by decide +kernel
theorem dX0_readLimit_23 : decode cX0_readLimit 23 = .ok (.getfield 12, 3) := by decide +kernel
theorem dX0_readLimit_26 : decode cX0_readLimit 26 = .ok (.aload_n 0, 1) := by decide +kernel
theorem dX0_readLimit_27 : decode cX0_readLimit 27 = .ok (.getfield 18, 3) := by decide +kernel
theorem dX0_readLimit_30 : decode cX0_readLimit 30 = .ok (.getfield 99, 3) := by decide +kernel
theorem dX0_readLimit_33 : decode cX0_readLimit 33 = .ok (.putfield 102, 3) := by decide +kernel
theorem dX0_readLimit_36 : decode cX0_readLimit 36 = .ok (.iconst 1, 1) := by decide +kernel
theorem dX0_readLimit_37 : decode cX0_readLimit 37 = .ok (.ireturn, 1) := by decide +kernel
def X0_readLimit   (u : gM) : Option (Int32 × gM) :=
((X9_step u).bind fun w4 => ((X9_passNumber 1 100000000 w4).bind fun w14 => (if w14.1 = 0 then some (0, w14.2)
  else some (1, upI w14.2 117 4 (w14.2.1 1 6)))))
set_option maxRecDepth 20000 in
theorem v_X0_readLimit {κ : gK} {B : Nat} {u : gM} (X : gX κ B skC cX0_readLimit 1 RX0 (some .boolean) 7 167)    {w : (Int32 × gM)} (hM : X0_readLimit u = some w) : gV κ B skC 1 ((some (.int w.1)), w.2) 0 [some (.ref (B + 116))] [] u := by
  unfold X0_readLimit at hM
  refine g_aload_n X dX0_readLimit_0 rfl ?_
  refine g_getR X fX0_18 cC_116 rfl dX0_readLimit_1 ?_
  obtain ⟨w4, e4, hM⟩ := bind_of hM
  refine g_callVv X (fun B adK => []) (s_X9_step e4) cvX0_66 cC_1 rfl rfl (Nat.le_of_ble_eq_true rfl) ⟨by decide, by decide⟩ dX0_readLimit_4 ?_
  refine g_aload_n X dX0_readLimit_7 rfl ?_
  refine g_getR X fX0_18 cC_116 rfl dX0_readLimit_8 ?_
  refine g_iconst X (v := 1) dX0_readLimit_11 (by decide) ?_
  refine g_ldc (v := 100000000) X m_19_16 dX0_readLimit_12 ?_
  obtain ⟨w14, e14, hM⟩ := bind_of hM
  refine g_callVi X (fun B adK => [.int 1, .int 100000000]) (s_X9_passNumber e14) cvX0_95 cC_1 rfl rfl (Nat.le_of_ble_eq_true rfl) ⟨by decide, by decide⟩ dX0_readLimit_14 ?_
  refine g_if_ne (tgt := 22) X dX0_readLimit_17 (by decide) (fun c17 => ?_) (fun c17 => ?_)
  · rw [if_neg c17] at hM
    refine g_aload_n X dX0_readLimit_22 rfl ?_
    refine g_getR X fX0_12 cC_116 rfl dX0_readLimit_23 ?_
    refine g_aload_n X dX0_readLimit_26 rfl ?_
    refine g_getR X fX0_18 cC_116 rfl dX0_readLimit_27 ?_
    refine g_getI X fX0_99 cC_1 rfl dX0_readLimit_30 ?_
    refine g_putI X fX0_102 gc_X10 gp_X10_4 cC_117 rfl dX0_readLimit_33 ?_
    refine g_iconst X (v := 1) dX0_readLimit_36 (by decide) ?_
    cases hM
    exact g_zret X (Or.inr rfl) dX0_readLimit_37
  · rw [if_pos c17] at hM
    refine g_iconst X (v := 0) dX0_readLimit_20 (by decide) ?_
    cases hM
    exact g_zret X (Or.inl rfl) dX0_readLimit_21
theorem s_X0_readLimit  {u : gM} {w : (Int32 × gM)} (hM : X0_readLimit u = some w) : gMet skC yX0_readLimit cX0_readLimit 1 (some .boolean) 7 167 (fun B adK => [.ref (B + 116)]) u ((fun _ => some (.int w.1)), w.2) := by
  refine gMet.of (by decide) (fun _ _ => Nat.le_of_ble_eq_true rfl) (fun κ B X => ?_)
  have X : gX κ B skC cX0_readLimit 1 RX0 (some .boolean) 7 167 := X
  refine g_mk [true] [some (.ref (B + 116))] rfl ?_
  exact v_X0_readLimit X  hM
theorem fr_X0_readLimit {S : Nat → Prop} {u0 u : gM}  (hs0 : S 1) (hs1 : S 117)   {w : (Int32 × gM)} (hM : X0_readLimit u = some w) (h0 : off S u0 u) : off S u0 w.2 := by
  unfold X0_readLimit at hM
  obtain ⟨w4, e4, hM⟩ := bind_of hM
  have h0 := fr_X9_step hs0 e4 h0
  obtain ⟨w14, e14, hM⟩ := bind_of hM
  have h0 := fr_X9_passNumber hs0 e14 h0
  by_cases c17 : w14.1 = 0
  · rw [if_pos c17] at hM
    cases hM
    exact h0
  · rw [if_neg c17] at hM
    have h0 := off_upI (u := w14.2) (k := 117) (j := 4) (x := (w14.2.1 1 6)) hs1 h0
    cases hM
    exact h0
/-! CoverDesk$BookReader.readGrace()Z -/
theorem dX0_readGrace_0 : decode cX0_readGrace 0 = .ok (.aload_n 0, 1) := by decide +kernel
theorem dX0_readGrace_1 : decode cX0_readGrace 1 = .ok (.getfield 18, 3) := by decide +kernel
theorem dX0_readGrace_4 : decode cX0_readGrace 4 = .ok (.invokevirtual 66, 3) := by decide +kernel
theorem dX0_readGrace_7 : decode cX0_readGrace 7 = .ok (.aload_n 0, 1) := by decide +kernel
theorem dX0_readGrace_8 : decode cX0_readGrace 8 = .ok (.getfield 18, 3) := by decide +kernel
theorem dX0_readGrace_11 : decode cX0_readGrace 11 = .ok (.iconst 0, 1) := by decide +kernel
theorem dX0_readGrace_12 : decode cX0_readGrace 12 = .ok (.bipush 60, 2) := by decide +kernel
theorem dX0_readGrace_14 : decode cX0_readGrace 14 = .ok (.invokevirtual 95, 3) := by decide +kernel
theorem dX0_readGrace_17 : decode cX0_readGrace 17 = .ok (.ifCond .ne 5, 3) := by decide +kernel
theorem dX0_readGrace_20 : decode cX0_readGrace 20 = .ok (.iconst 0, 1) := by decide +kernel
theorem dX0_readGrace_21 : decode cX0_readGrace 21 = .ok (.ireturn, 1) := by decide +kernel
theorem dX0_readGrace_22 : decode cX0_readGrace 22 = .ok (.aload_n 0, 1) := by decide +kernel
theorem dX0_readGrace_23 : decode cX0_readGrace 23 = .ok (.getfield 12, 3) := by decide +kernel
theorem dX0_readGrace_26 : decode cX0_readGrace 26 = .ok (.aload_n 0, 1) := by decide +kernel
theorem dX0_readGrace_27 : decode cX0_readGrace 27 = .ok (.getfield 18, 3) := by decide +kernel
theorem dX0_readGrace_30 : decode cX0_readGrace 30 = .ok (.getfield 99, 3) := by decide +kernel
theorem dX0_readGrace_33 : decode cX0_readGrace 33 = .ok (.putfield 105, 3) := by decide +kernel
theorem dX0_readGrace_36 : decode cX0_readGrace 36 = .ok (.iconst 1, 1) := by decide +kernel
theorem dX0_readGrace_37 : decode cX0_readGrace 37 = .ok (.ireturn, 1) := by decide +kernel
def X0_readGrace   (u : gM) : Option (Int32 × gM) :=
((X9_step u).bind fun w4 => ((X9_passNumber 0 60 w4).bind fun w14 => (if w14.1 = 0 then some (0, w14.2)
  else some (1, upI w14.2 117 5 (w14.2.1 1 6)))))
set_option maxRecDepth 20000 in
theorem v_X0_readGrace {κ : gK} {B : Nat} {u : gM} (X : gX κ B skC cX0_readGrace 1 RX0 (some .boolean) 7 167)    {w : (Int32 × gM)} (hM : X0_readGrace u = some w) : gV κ B skC 1 ((some (.int w.1)), w.2) 0 [some (.ref (B + 116))] [] u := by
  unfold X0_readGrace at hM
  refine g_aload_n X dX0_readGrace_0 rfl ?_
  refine g_getR X fX0_18 cC_116 rfl dX0_readGrace_1 ?_
  obtain ⟨w4, e4, hM⟩ := bind_of hM
  refine g_callVv X (fun B adK => []) (s_X9_step e4) cvX0_66 cC_1 rfl rfl (Nat.le_of_ble_eq_true rfl) ⟨by decide, by decide⟩ dX0_readGrace_4 ?_
  refine g_aload_n X dX0_readGrace_7 rfl ?_
  refine g_getR X fX0_18 cC_116 rfl dX0_readGrace_8 ?_
  refine g_iconst X (v := 0) dX0_readGrace_11 (by decide) ?_
  refine g_bipush X (v := 60) dX0_readGrace_12 (by decide) ?_
  obtain ⟨w14, e14, hM⟩ := bind_of hM
  refine g_callVi X (fun B adK => [.int 0, .int 60]) (s_X9_passNumber e14) cvX0_95 cC_1 rfl rfl (Nat.le_of_ble_eq_true rfl) ⟨by decide, by decide⟩ dX0_readGrace_14 ?_
  refine g_if_ne (tgt := 22) X dX0_readGrace_17 (by decide) (fun c17 => ?_) (fun c17 => ?_)
  · rw [if_neg c17] at hM
    refine g_aload_n X dX0_readGrace_22 rfl ?_
    refine g_getR X fX0_12 cC_116 rfl dX0_readGrace_23 ?_
    refine g_aload_n X dX0_readGrace_26 rfl ?_
    refine g_getR X fX0_18 cC_116 rfl dX0_readGrace_27 ?_
    refine g_getI X fX0_99 cC_1 rfl dX0_readGrace_30 ?_
    refine g_putI X fX0_105 gc_X10 gp_X10_5 cC_117 rfl dX0_readGrace_33 ?_
    refine g_iconst X (v := 1) dX0_readGrace_36 (by decide) ?_
    cases hM
    exact g_zret X (Or.inr rfl) dX0_readGrace_37
  · rw [if_pos c17] at hM
    refine g_iconst X (v := 0) dX0_readGrace_20 (by decide) ?_
    cases hM
    exact g_zret X (Or.inl rfl) dX0_readGrace_21
theorem s_X0_readGrace  {u : gM} {w : (Int32 × gM)} (hM : X0_readGrace u = some w) : gMet skC yX0_readGrace cX0_readGrace 1 (some .boolean) 7 167 (fun B adK => [.ref (B + 116)]) u ((fun _ => some (.int w.1)), w.2) := by
  refine gMet.of (by decide) (fun _ _ => Nat.le_of_ble_eq_true rfl) (fun κ B X => ?_)
  have X : gX κ B skC cX0_readGrace 1 RX0 (some .boolean) 7 167 := X
  refine g_mk [true] [some (.ref (B + 116))] rfl ?_
  exact v_X0_readGrace X  hM
theorem fr_X0_readGrace {S : Nat → Prop} {u0 u : gM}  (hs0 : S 1) (hs1 : S 117)   {w : (Int32 × gM)} (hM : X0_readGrace u = some w) (h0 : off S u0 u) : off S u0 w.2 := by
  unfold X0_readGrace at hM
  obtain ⟨w4, e4, hM⟩ := bind_of hM
  have h0 := fr_X9_step hs0 e4 h0
  obtain ⟨w14, e14, hM⟩ := bind_of hM
  have h0 := fr_X9_passNumber hs0 e14 h0
  by_cases c17 : w14.1 = 0
  · rw [if_pos c17] at hM
    cases hM
    exact h0
  · rw [if_neg c17] at hM
    have h0 := off_upI (u := w14.2) (k := 117) (j := 5) (x := (w14.2.1 1 6)) hs1 h0
    cases hM
    exact h0
/-! CoverDesk$BookReader.readLoan()Z -/
theorem dX0_readLoan_0 : decode cX0_readLoan 0 = .ok (.aload_n 0, 1) := by decide +kernel
theorem dX0_readLoan_1 : decode cX0_readLoan 1 = .ok (.getfield 12, 3) := by decide +kernel
theorem dX0_readLoan_4 : decode cX0_readLoan 4 = .ok (.getfield 108, 3) := by decide +kernel
theorem dX0_readLoan_7 : decode cX0_readLoan 7 = .ok (.istore_n 1, 1) := by decide +kernel
theorem dX0_readLoan_8 : decode cX0_readLoan 8 = .ok (.iload_n 1, 1) := by decide +kernel
theorem dX0_readLoan_9 : decode cX0_readLoan 9 = .ok (.bipush 10, 2) := by decide +kernel
theorem dX0_readLoan_11 : decode cX0_readLoan 11 = .ok (.if_icmp .lt 12, 3) := by decide +kernel
theorem dX0_readLoan_14 : decode cX0_readLoan 14 = .ok (.aload_n 0, 1) := by decide +kernel
theorem dX0_readLoan_15 : decode cX0_readLoan 15 = .ok (.getfield 18, 3) := by decide +kernel
theorem dX0_readLoan_18 : decode cX0_readLoan 18 = .ok (.iconst 5, 1) := by decide +kernel
theorem dX0_readLoan_19 : decode cX0_readLoan 19 = .ok (.invokevirtual 60, 3) := by decide +kernel
theorem dX0_readLoan_22 : decode cX0_readLoan 22 = .ok (.ireturn, 1) := by decide +kernel
theorem dX0_readLoan_23 : decode cX0_readLoan 23 = .ok (.aload_n 0, 1) := by decide +kernel
theorem dX0_readLoan_24 : decode cX0_readLoan 24 = .ok (.getfield 18, 3) := by decide +kernel
theorem dX0_readLoan_27 : decode cX0_readLoan 27 = .ok (.invokevirtual 66, 3) := by decide +kernel
theorem dX0_readLoan_30 : decode cX0_readLoan 30 = .ok (.aload_n 0, 1) := by decide +kernel
theorem dX0_readLoan_31 : decode cX0_readLoan 31 = .ok (.getfield 12, 3) := by decide +kernel
theorem dX0_readLoan_34 : decode cX0_readLoan 34 = .ok (.aload_n 0, 1) := by decide +kernel
theorem dX0_readLoan_35 : decode cX0_readLoan 35 = .ok (.getfield 18, 3) := by decide +kernel
theorem dX0_readLoan_38 : decode cX0_readLoan 38 = .ok (.getfield 72, 3) := by decide +kernel
theorem dX0_readLoan_41 : decode cX0_readLoan 41 = .ok (.invokevirtual 111, 3) := by decide +kernel
theorem dX0_readLoan_44 : decode cX0_readLoan 44 = .ok (.istore_n 2, 1) := by decide +kernel
theorem dX0_readLoan_45 : decode cX0_readLoan 45 = .ok (.aload_n 0, 1) := by decide +kernel
theorem dX0_readLoan_46 : decode cX0_readLoan 46 = .ok (.getfield 18, 3) := by decide +kernel
theorem dX0_readLoan_49 : decode cX0_readLoan 49 = .ok (.iload_n 2, 1) := by decide +kernel
theorem dX0_readLoan_50 : decode cX0_readLoan 50 = .ok (.invokevirtual 115, 3) := by decide +kernel
theorem dX0_readLoan_53 : decode cX0_readLoan 53 = .ok (.ifCond .eq 15, 3) := by decide +kernel
theorem dX0_readLoan_56 : decode cX0_readLoan 56 = .ok (.aload_n 0, 1) := by decide +kernel
theorem dX0_readLoan_57 : decode cX0_readLoan 57 = .ok (.getfield 18, 3) := by decide +kernel
theorem dX0_readLoan_60 : decode cX0_readLoan 60 = .ok (.bipush 10, 2) := by decide +kernel
theorem dX0_readLoan_62 : decode cX0_readLoan 62 = .ok (.invokevirtual 118, 3) := by decide +kernel
theorem dX0_readLoan_65 : decode cX0_readLoan 65 = .ok (.ifCond .ne 5, 3) := by decide +kernel
theorem dX0_readLoan_68 : decode cX0_readLoan 68 = .ok (.iconst 0, 1) := by decide +kernel
theorem dX0_readLoan_69 : decode cX0_readLoan 69 = .ok (.ireturn, 1) := by decide +kernel
theorem dX0_readLoan_70 : decode cX0_readLoan 70 = .ok (.aload_n 0, 1) := by decide +kernel
theorem dX0_readLoan_71 : decode cX0_readLoan 71 = .ok (.getfield 12, 3) := by decide +kernel
theorem dX0_readLoan_74 : decode cX0_readLoan 74 = .ok (.aload_n 0, 1) := by decide +kernel
theorem dX0_readLoan_75 : decode cX0_readLoan 75 = .ok (.getfield 18, 3) := by decide +kernel
theorem dX0_readLoan_78 : decode cX0_readLoan 78 = .ok (.getfield 72, 3) := by decide +kernel
theorem dX0_readLoan_81 : decode cX0_readLoan 81 = .ok (.invokevirtual 121, 3) := by decide +kernel
theorem dX0_readLoan_84 : decode cX0_readLoan 84 = .ok (.istore_n 3, 1) := by decide +kernel
theorem dX0_readLoan_85 : decode cX0_readLoan 85 = .ok (.aload_n 0, 1) := by decide +kernel
theorem dX0_readLoan_86 : decode cX0_readLoan 86 = .ok (.getfield 18, 3) := by decide +kernel
theorem dX0_readLoan_89 : decode cX0_readLoan 89 = .ok (.iload_n 3, 1) := by decide +kernel
theorem dX0_readLoan_90 : decode cX0_readLoan 90 = .ok (.invokevirtual 115, 3) := by decide +kernel
theorem dX0_readLoan_93 : decode cX0_readLoan 93 = .ok (.ifCond .eq 16, 3) := by decide +kernel
theorem dX0_readLoan_96 : decode cX0_readLoan 96 = .ok (.aload_n 0, 1) := by decide +kernel
theorem dX0_readLoan_97 : decode cX0_readLoan 97 = .ok (.getfield 18, 3) := by decide +kernel
theorem dX0_readLoan_100 : decode cX0_readLoan 100 = .ok (.iconst 0, 1) := by decide +kernel
theorem dX0_readLoan_101 : decode cX0_readLoan 101 = .ok (.ldc 94, 2) := by decide +kernel
theorem dX0_readLoan_103 : decode cX0_readLoan 103 = .ok (.invokevirtual 95, 3) := by decide +kernel
theorem dX0_readLoan_106 : decode cX0_readLoan 106 = .ok (.ifCond .ne 5, 3) := by decide +kernel
theorem dX0_readLoan_109 : decode cX0_readLoan 109 = .ok (.iconst 0, 1) := by decide +kernel
theorem dX0_readLoan_110 : decode cX0_readLoan 110 = .ok (.ireturn, 1) := by decide +kernel
theorem dX0_readLoan_111 : decode cX0_readLoan 111 = .ok (.aload_n 0, 1) := by decide +kernel
theorem dX0_readLoan_112 : decode cX0_readLoan 112 = .ok (.getfield 12, 3) := by decide +kernel
theorem dX0_readLoan_115 : decode cX0_readLoan 115 = .ok (.getfield 124, 3) := by decide +kernel
theorem dX0_readLoan_118 : decode cX0_readLoan 118 = .ok (.iload_n 1, 1) := by decide +kernel
theorem dX0_readLoan_119 : decode cX0_readLoan 119 = .ok (.iload_n 2, 1) := by decide +kernel
theorem dX0_readLoan_120 : decode cX0_readLoan 120 = .ok (.iastore, 1) := by decide +kernel
theorem dX0_readLoan_121 : decode cX0_readLoan 121 = .ok (.aload_n 0, 1) := by decide +kernel
theorem dX0_readLoan_122 : decode cX0_readLoan 122 = .ok (.getfield 12, 3) := by decide +kernel
theorem dX0_readLoan_125 : decode cX0_readLoan 125 = .ok (.getfield 128, 3) := by decide +kernel
theorem dX0_readLoan_128 : decode cX0_readLoan 128 = .ok (.iload_n 1, 1) := by decide +kernel
theorem dX0_readLoan_129 : decode cX0_readLoan 129 = .ok (.iload_n 3, 1) := by decide +kernel
theorem dX0_readLoan_130 : decode cX0_readLoan 130 = .ok (.iastore, 1) := by decide +kernel
theorem dX0_readLoan_131 : decode cX0_readLoan 131 = .ok (.aload_n 0, 1) := by decide +kernel
theorem dX0_readLoan_132 : decode cX0_readLoan 132 = .ok (.getfield 12, 3) := by decide +kernel
theorem dX0_readLoan_135 : decode cX0_readLoan 135 = .ok (.getfield 131, 3) := by decide +kernel
theorem dX0_readLoan_138 : decode cX0_readLoan 138 = .ok (.iload_n 1, 1) := by decide +kernel
theorem dX0_readLoan_139 : decode cX0_readLoan 139 = .ok (.aload_n 0, 1) := by decide +kernel
theorem dX0_readLoan_140 : decode cX0_readLoan 140 = .ok (.getfield 18, 3) := by decide +kernel
theorem dX0_readLoan_143 : decode cX0_readLoan 143 = .ok (.getfield 99, 3) := by decide +kernel
theorem dX0_readLoan_146 : decode cX0_readLoan 146 = .ok (.iastore, 1) := by decide +kernel
theorem dX0_readLoan_147 : decode cX0_readLoan 147 = .ok (.aload_n 0, 1) := by decide +kernel
theorem dX0_readLoan_148 : decode cX0_readLoan 148 = .ok (.getfield 12, 3) := by decide +kernel
theorem dX0_readLoan_151 : decode cX0_readLoan 151 = .ok (.iload_n 1, 1) := by decide +kernel
theorem dX0_readLoan_152 : decode cX0_readLoan 152 = .ok (.iconst 1, 1) := by decide +kernel
theorem dX0_readLoan_153 : decode cX0_readLoan 153 = .ok (.iadd, 1) := by decide +kernel
theorem dX0_readLoan_154 : decode cX0_readLoan 154 = .ok (.putfield 108, 3) := by decide +kernel
theorem dX0_readLoan_157 : decode cX0_readLoan 157 = .ok (.iconst 1, 1) := by decide +kernel
theorem dX0_readLoan_158 : decode cX0_readLoan 158 = .ok (.ireturn, 1) := by decide +kernel
def X0_readLoan_b68   (u : gM) : Option (Int32 × gM) :=
some (0, u)
def X0_readLoan_b109   (u : gM) : Option (Int32 × gM) :=
some (0, u)
def X0_readLoan   (u : gM) : Option (Int32 × gM) :=
(if (u.1 117 3) < 10 then ((X9_step u).bind fun w27 => ((X10_personNamed w27 117 (w27.2 1 7)).bind fun w41 => ((X9_passKnown w41 w27).bind fun w50 => (if w50.1 = 0 then (X0_readLoan_b68 w50.2)
    else ((X9_passWord 10 w50.2).bind fun w62 => (if w62.1 = 0 then (X0_readLoan_b68 w62.2)
      else ((X10_bankNamed w62.2 117 (w62.2.2 1 7)).bind fun w81 => ((X9_passKnown w81 w62.2).bind fun w90 => (if w90.1 = 0 then (X0_readLoan_b109 w90.2)
        else ((X9_passNumber 0 100000000 w90.2).bind fun w103 => (if w103.1 = 0 then (X0_readLoan_b109 w103.2)
          else ((sI skC w103.2 129 (u.1 117 3) w41).bind fun u120 => ((sI skC u120 130 (u.1 117 3) w81).bind fun u130 => ((sI skC u130 131 (u.1 117 3) (u130.1 1 6)).bind fun u146 => some (1, upI u146 117 3 ((u.1 117 3) + 1))))))))))))))))
  else ((X9_refuse 5 u).bind fun w19 => ((bI w19.1).bind fun v22 => some (v22, w19.2))))
set_option maxRecDepth 20000 in
theorem v_X0_readLoan_b68 {κ : gK} {B : Nat} {u : gM} (X : gX κ B skC cX0_readLoan 4 RX0 (some .boolean) 7 167)    {w : (Int32 × gM)} (hM : X0_readLoan_b68 u = some w) : gV κ B skC 4 ((some (.int w.1)), w.2) 68 [none, none, none, none] [] u := by
  unfold X0_readLoan_b68 at hM
  refine g_iconst X (v := 0) dX0_readLoan_68 (by decide) ?_
  cases hM
  exact g_zret X (Or.inl rfl) dX0_readLoan_69
set_option maxRecDepth 20000 in
theorem v_X0_readLoan_b109 {κ : gK} {B : Nat} {u : gM} (X : gX κ B skC cX0_readLoan 4 RX0 (some .boolean) 7 167)    {w : (Int32 × gM)} (hM : X0_readLoan_b109 u = some w) : gV κ B skC 4 ((some (.int w.1)), w.2) 109 [none, none, none, none] [] u := by
  unfold X0_readLoan_b109 at hM
  refine g_iconst X (v := 0) dX0_readLoan_109 (by decide) ?_
  cases hM
  exact g_zret X (Or.inl rfl) dX0_readLoan_110
set_option maxRecDepth 20000 in
theorem v_X0_readLoan {κ : gK} {B : Nat} {u : gM} (X : gX κ B skC cX0_readLoan 4 RX0 (some .boolean) 7 167)    {w : (Int32 × gM)} (hM : X0_readLoan u = some w) : gV κ B skC 4 ((some (.int w.1)), w.2) 0 [some (.ref (B + 116)), none, none, none] [] u := by
  unfold X0_readLoan at hM
  refine g_aload_n X dX0_readLoan_0 rfl ?_
  refine g_getR X fX0_12 cC_116 rfl dX0_readLoan_1 ?_
  refine g_getI X fX0_108 cC_117 rfl dX0_readLoan_4 ?_
  refine g_istore_n X [some (.ref (B + 116)), some (.int (u.1 117 3)), none, none] dX0_readLoan_7 (by decide) rfl ?_
  refine g_iload_n X dX0_readLoan_8 rfl ?_
  refine g_bipush X (v := 10) dX0_readLoan_9 (by decide) ?_
  refine g_icmp_lt (tgt := 23) X dX0_readLoan_11 (by decide) (fun c11 => ?_) (fun c11 => ?_)
  · rw [if_pos c11] at hM
    refine g_aload_n X dX0_readLoan_23 rfl ?_
    refine g_getR X fX0_18 cC_116 rfl dX0_readLoan_24 ?_
    obtain ⟨w27, e27, hM⟩ := bind_of hM
    refine g_callVv X (fun B adK => []) (s_X9_step e27) cvX0_66 cC_1 rfl rfl (Nat.le_of_ble_eq_true rfl) ⟨by decide, by decide⟩ dX0_readLoan_27 ?_
    refine g_aload_n X dX0_readLoan_30 rfl ?_
    refine g_getR X fX0_12 cC_116 rfl dX0_readLoan_31 ?_
    refine g_aload_n X dX0_readLoan_34 rfl ?_
    refine g_getR X fX0_18 cC_116 rfl dX0_readLoan_35 ?_
    refine g_getJ X fX0_72 cC_1 rfl dX0_readLoan_38 ?_
    obtain ⟨w41, e41, hM⟩ := bind_of hM
    refine g_callVi X (fun B adK => [.long (w27.2 1 7)]) (s_X10_personNamed e41) cvX0_111 cC_117 rfl rfl (Nat.le_of_ble_eq_true rfl) ⟨by decide, by decide⟩ dX0_readLoan_41 ?_
    refine g_istore_n X [some (.ref (B + 116)), some (.int (u.1 117 3)), some (.int w41), none] dX0_readLoan_44 (by decide) rfl ?_
    refine g_aload_n X dX0_readLoan_45 rfl ?_
    refine g_getR X fX0_18 cC_116 rfl dX0_readLoan_46 ?_
    refine g_iload_n X dX0_readLoan_49 rfl ?_
    obtain ⟨w50, e50, hM⟩ := bind_of hM
    refine g_callVi X (fun B adK => [.int w41]) (s_X9_passKnown e50) cvX0_115 cC_1 rfl rfl (Nat.le_of_ble_eq_true rfl) ⟨by decide, by decide⟩ dX0_readLoan_50 ?_
    refine g_if_eq (tgt := 68) X dX0_readLoan_53 (by decide) (fun c53 => ?_) (fun c53 => ?_)
    · rw [if_pos c53] at hM
      refine g_mk [false, false, false, false] [none, none, none, none] rfl ?_
      exact v_X0_readLoan_b68 X  hM
    · rw [if_neg c53] at hM
      refine g_aload_n X dX0_readLoan_56 rfl ?_
      refine g_getR X fX0_18 cC_116 rfl dX0_readLoan_57 ?_
      refine g_bipush X (v := 10) dX0_readLoan_60 (by decide) ?_
      obtain ⟨w62, e62, hM⟩ := bind_of hM
      refine g_callVi X (fun B adK => [.int 10]) (s_X9_passWord e62) cvX0_118 cC_1 rfl rfl (Nat.le_of_ble_eq_true rfl) ⟨by decide, by decide⟩ dX0_readLoan_62 ?_
      refine g_if_ne (tgt := 70) X dX0_readLoan_65 (by decide) (fun c65 => ?_) (fun c65 => ?_)
      · rw [if_neg c65] at hM
        refine g_aload_n X dX0_readLoan_70 rfl ?_
        refine g_getR X fX0_12 cC_116 rfl dX0_readLoan_71 ?_
        refine g_aload_n X dX0_readLoan_74 rfl ?_
        refine g_getR X fX0_18 cC_116 rfl dX0_readLoan_75 ?_
        refine g_getJ X fX0_72 cC_1 rfl dX0_readLoan_78 ?_
        obtain ⟨w81, e81, hM⟩ := bind_of hM
        refine g_callVi X (fun B adK => [.long (w62.2.2 1 7)]) (s_X10_bankNamed e81) cvX0_121 cC_117 rfl rfl (Nat.le_of_ble_eq_true rfl) ⟨by decide, by decide⟩ dX0_readLoan_81 ?_
        refine g_istore_n X [some (.ref (B + 116)), some (.int (u.1 117 3)), some (.int w41), some (.int w81)] dX0_readLoan_84 (by decide) rfl ?_
        refine g_aload_n X dX0_readLoan_85 rfl ?_
        refine g_getR X fX0_18 cC_116 rfl dX0_readLoan_86 ?_
        refine g_iload_n X dX0_readLoan_89 rfl ?_
        obtain ⟨w90, e90, hM⟩ := bind_of hM
        refine g_callVi X (fun B adK => [.int w81]) (s_X9_passKnown e90) cvX0_115 cC_1 rfl rfl (Nat.le_of_ble_eq_true rfl) ⟨by decide, by decide⟩ dX0_readLoan_90 ?_
        refine g_if_eq (tgt := 109) X dX0_readLoan_93 (by decide) (fun c93 => ?_) (fun c93 => ?_)
        · rw [if_pos c93] at hM
          refine g_mk [false, false, false, false] [none, none, none, none] rfl ?_
          exact v_X0_readLoan_b109 X  hM
        · rw [if_neg c93] at hM
          refine g_aload_n X dX0_readLoan_96 rfl ?_
          refine g_getR X fX0_18 cC_116 rfl dX0_readLoan_97 ?_
          refine g_iconst X (v := 0) dX0_readLoan_100 (by decide) ?_
          refine g_ldc (v := 100000000) X m_19_16 dX0_readLoan_101 ?_
          obtain ⟨w103, e103, hM⟩ := bind_of hM
          refine g_callVi X (fun B adK => [.int 0, .int 100000000]) (s_X9_passNumber e103) cvX0_95 cC_1 rfl rfl (Nat.le_of_ble_eq_true rfl) ⟨by decide, by decide⟩ dX0_readLoan_103 ?_
          refine g_if_ne (tgt := 111) X dX0_readLoan_106 (by decide) (fun c106 => ?_) (fun c106 => ?_)
          · rw [if_neg c106] at hM
            refine g_aload_n X dX0_readLoan_111 rfl ?_
            refine g_getR X fX0_12 cC_116 rfl dX0_readLoan_112 ?_
            refine g_getR X fX0_124 cC_117 rfl dX0_readLoan_115 ?_
            refine g_iload_n X dX0_readLoan_118 rfl ?_
            refine g_iload_n X dX0_readLoan_119 rfl ?_
            obtain ⟨u120, e120, hM⟩ := bind_of hM
            refine g_iastore X e120 dX0_readLoan_120 ?_
            refine g_aload_n X dX0_readLoan_121 rfl ?_
            refine g_getR X fX0_12 cC_116 rfl dX0_readLoan_122 ?_
            refine g_getR X fX0_128 cC_117 rfl dX0_readLoan_125 ?_
            refine g_iload_n X dX0_readLoan_128 rfl ?_
            refine g_iload_n X dX0_readLoan_129 rfl ?_
            obtain ⟨u130, e130, hM⟩ := bind_of hM
            refine g_iastore X e130 dX0_readLoan_130 ?_
            refine g_aload_n X dX0_readLoan_131 rfl ?_
            refine g_getR X fX0_12 cC_116 rfl dX0_readLoan_132 ?_
            refine g_getR X fX0_131 cC_117 rfl dX0_readLoan_135 ?_
            refine g_iload_n X dX0_readLoan_138 rfl ?_
            refine g_aload_n X dX0_readLoan_139 rfl ?_
            refine g_getR X fX0_18 cC_116 rfl dX0_readLoan_140 ?_
            refine g_getI X fX0_99 cC_1 rfl dX0_readLoan_143 ?_
            obtain ⟨u146, e146, hM⟩ := bind_of hM
            refine g_iastore X e146 dX0_readLoan_146 ?_
            refine g_aload_n X dX0_readLoan_147 rfl ?_
            refine g_getR X fX0_12 cC_116 rfl dX0_readLoan_148 ?_
            refine g_iload_n X dX0_readLoan_151 rfl ?_
            refine g_iconst X (v := 1) dX0_readLoan_152 (by decide) ?_
            refine g_iadd X dX0_readLoan_153 ?_
            refine g_putI X fX0_108 gc_X10 gp_X10_3 cC_117 rfl dX0_readLoan_154 ?_
            refine g_iconst X (v := 1) dX0_readLoan_157 (by decide) ?_
            cases hM
            exact g_zret X (Or.inr rfl) dX0_readLoan_158
          · rw [if_pos c106] at hM
            refine g_mk [false, false, false, false] [none, none, none, none] rfl ?_
            exact v_X0_readLoan_b109 X  hM
      · rw [if_pos c65] at hM
        refine g_mk [false, false, false, false] [none, none, none, none] rfl ?_
        exact v_X0_readLoan_b68 X  hM
  · rw [if_neg c11] at hM
    refine g_aload_n X dX0_readLoan_14 rfl ?_
    refine g_getR X fX0_18 cC_116 rfl dX0_readLoan_15 ?_
    refine g_iconst X (v := 5) dX0_readLoan_18 (by decide) ?_
    obtain ⟨w19, e19, hM⟩ := bind_of hM
    refine g_callVi X (fun B adK => [.int 5]) (s_X9_refuse e19) cvX0_60 cC_1 rfl rfl (Nat.le_of_ble_eq_true rfl) ⟨by decide, by decide⟩ dX0_readLoan_19 ?_
    obtain ⟨v22, e22, hM⟩ := bind_of hM
    obtain ⟨hv, rfl⟩ := bI_of e22
    cases hM
    exact g_zret X hv dX0_readLoan_22
theorem s_X0_readLoan  {u : gM} {w : (Int32 × gM)} (hM : X0_readLoan u = some w) : gMet skC yX0_readLoan cX0_readLoan 4 (some .boolean) 7 167 (fun B adK => [.ref (B + 116)]) u ((fun _ => some (.int w.1)), w.2) := by
  refine gMet.of (by decide) (fun _ _ => Nat.le_of_ble_eq_true rfl) (fun κ B X => ?_)
  have X : gX κ B skC cX0_readLoan 4 RX0 (some .boolean) 7 167 := X
  refine g_mk [true, false, false, false] [some (.ref (B + 116)), none, none, none] rfl ?_
  exact v_X0_readLoan X  hM
theorem fr_X0_readLoan_b68 {S : Nat → Prop} {u0 u : gM}     {w : (Int32 × gM)} (hM : X0_readLoan_b68 u = some w) (h0 : off S u0 u) : off S u0 w.2 := by
  unfold X0_readLoan_b68 at hM
  cases hM
  exact h0
theorem fr_X0_readLoan_b109 {S : Nat → Prop} {u0 u : gM}     {w : (Int32 × gM)} (hM : X0_readLoan_b109 u = some w) (h0 : off S u0 u) : off S u0 w.2 := by
  unfold X0_readLoan_b109 at hM
  cases hM
  exact h0
theorem fr_X0_readLoan {S : Nat → Prop} {u0 u : gM}  (hs0 : S 1) (hs1 : S 117) (hs2 : S 129) (hs3 : S 130) (hs4 : S 131)   {w : (Int32 × gM)} (hM : X0_readLoan u = some w) (h0 : off S u0 u) : off S u0 w.2 := by
  unfold X0_readLoan at hM
  by_cases c11 : (u.1 117 3) < 10
  · rw [if_pos c11] at hM
    obtain ⟨w27, e27, hM⟩ := bind_of hM
    have h0 := fr_X9_step hs0 e27 h0
    obtain ⟨w41, e41, hM⟩ := bind_of hM
    obtain ⟨w50, e50, hM⟩ := bind_of hM
    have h0 := fr_X9_passKnown hs0 e50 h0
    by_cases c53 : w50.1 = 0
    · rw [if_pos c53] at hM
      exact fr_X0_readLoan_b68   hM h0
    · rw [if_neg c53] at hM
      obtain ⟨w62, e62, hM⟩ := bind_of hM
      have h0 := fr_X9_passWord hs0 e62 h0
      by_cases c65 : w62.1 = 0
      · rw [if_pos c65] at hM
        exact fr_X0_readLoan_b68   hM h0
      · rw [if_neg c65] at hM
        obtain ⟨w81, e81, hM⟩ := bind_of hM
        obtain ⟨w90, e90, hM⟩ := bind_of hM
        have h0 := fr_X9_passKnown hs0 e90 h0
        by_cases c93 : w90.1 = 0
        · rw [if_pos c93] at hM
          exact fr_X0_readLoan_b109   hM h0
        · rw [if_neg c93] at hM
          obtain ⟨w103, e103, hM⟩ := bind_of hM
          have h0 := fr_X9_passNumber hs0 e103 h0
          by_cases c106 : w103.1 = 0
          · rw [if_pos c106] at hM
            exact fr_X0_readLoan_b109   hM h0
          · rw [if_neg c106] at hM
            obtain ⟨u120, e120, hM⟩ := bind_of hM
            have h0 := off_sI hs2 e120 h0
            obtain ⟨u130, e130, hM⟩ := bind_of hM
            have h0 := off_sI hs3 e130 h0
            obtain ⟨u146, e146, hM⟩ := bind_of hM
            have h0 := off_sI hs4 e146 h0
            have h0 := off_upI (u := u146) (k := 117) (j := 3) (x := ((u.1 117 3) + 1)) hs1 h0
            cases hM
            exact h0
  · rw [if_neg c11] at hM
    obtain ⟨w19, e19, hM⟩ := bind_of hM
    have h0 := fr_X9_refuse hs0 e19 h0
    obtain ⟨v22, e22, hM⟩ := bind_of hM
    cases hM
    exact h0
/-! CoverDesk$Tape.passSemicolon()Z -/
theorem dX9_passSemicolon_0 : decode cX9_passSemicolon 0 = .ok (.aload_n 0, 1) := by decide +kernel
theorem dX9_passSemicolon_1 : decode cX9_passSemicolon 1 = .ok (.getfield 48, 3) := by decide +kernel
theorem dX9_passSemicolon_4 : decode cX9_passSemicolon 4 = .ok (.iconst 4, 1) := by decide +kernel
theorem dX9_passSemicolon_5 : decode cX9_passSemicolon 5 = .ok (.if_icmp .eq 9, 3) := by decide +kernel
theorem dX9_passSemicolon_8 : decode cX9_passSemicolon 8 = .ok (.aload_n 0, 1) := by decide +kernel
theorem dX9_passSemicolon_9 : decode cX9_passSemicolon 9 = .ok (.iconst 1, 1) := by decide +kernel
theorem dX9_passSemicolon_10 : decode cX9_passSemicolon 10 = .ok (.invokevirtual 79, 3) := by decide +kernel
theorem dX9_passSemicolon_13 : decode cX9_passSemicolon 13 = .ok (.ireturn, 1) := by decide +kernel
theorem dX9_passSemicolon_14 : decode cX9_passSemicolon 14 = .ok (.aload_n 0, 1) := by decide +kernel
theorem dX9_passSemicolon_15 : decode cX9_passSemicolon 15 = .ok (.invokevirtual 28, 3) := by decide +kernel
theorem dX9_passSemicolon_18 : decode cX9_passSemicolon 18 = .ok (.iconst 1, 1) := by decide +kernel
theorem dX9_passSemicolon_19 : decode cX9_passSemicolon 19 = .ok (.ireturn, 1) := by decide +kernel
def X9_passSemicolon   (u : gM) : Option (Int32 × gM) :=
(if (u.1 1 3) = 4 then ((X9_step u).bind fun w15 => some (1, w15))
  else ((X9_refuse 1 u).bind fun w10 => ((bI w10.1).bind fun v13 => some (v13, w10.2))))
set_option maxRecDepth 20000 in
theorem v_X9_passSemicolon {κ : gK} {B : Nat} {u : gM} (X : gX κ B skC cX9_passSemicolon 1 RX9 (some .boolean) 6 145)    {w : (Int32 × gM)} (hM : X9_passSemicolon u = some w) : gV κ B skC 1 ((some (.int w.1)), w.2) 0 [some (.ref (B + 1))] [] u := by
  unfold X9_passSemicolon at hM
  refine g_aload_n X dX9_passSemicolon_0 rfl ?_
  refine g_getI X fX9_48 cC_1 rfl dX9_passSemicolon_1 ?_
  refine g_iconst X (v := 4) dX9_passSemicolon_4 (by decide) ?_
  refine g_icmp_eq (tgt := 14) X dX9_passSemicolon_5 (by decide) (fun c5 => ?_) (fun c5 => ?_)
  · rw [if_pos c5] at hM
    refine g_aload_n X dX9_passSemicolon_14 rfl ?_
    obtain ⟨w15, e15, hM⟩ := bind_of hM
    refine g_callVv X (fun B adK => []) (s_X9_step e15) cvX9_28 cC_1 rfl rfl (Nat.le_of_ble_eq_true rfl) ⟨by decide, by decide⟩ dX9_passSemicolon_15 ?_
    refine g_iconst X (v := 1) dX9_passSemicolon_18 (by decide) ?_
    cases hM
    exact g_zret X (Or.inr rfl) dX9_passSemicolon_19
  · rw [if_neg c5] at hM
    refine g_aload_n X dX9_passSemicolon_8 rfl ?_
    refine g_iconst X (v := 1) dX9_passSemicolon_9 (by decide) ?_
    obtain ⟨w10, e10, hM⟩ := bind_of hM
    refine g_callVi X (fun B adK => [.int 1]) (s_X9_refuse e10) cvX9_79 cC_1 rfl rfl (Nat.le_of_ble_eq_true rfl) ⟨by decide, by decide⟩ dX9_passSemicolon_10 ?_
    obtain ⟨v13, e13, hM⟩ := bind_of hM
    obtain ⟨hv, rfl⟩ := bI_of e13
    cases hM
    exact g_zret X hv dX9_passSemicolon_13
theorem s_X9_passSemicolon  {u : gM} {w : (Int32 × gM)} (hM : X9_passSemicolon u = some w) : gMet skC yX9_passSemicolon cX9_passSemicolon 1 (some .boolean) 6 145 (fun B adK => [.ref (B + 1)]) u ((fun _ => some (.int w.1)), w.2) := by
  refine gMet.of (by decide) (fun _ _ => Nat.le_of_ble_eq_true rfl) (fun κ B X => ?_)
  have X : gX κ B skC cX9_passSemicolon 1 RX9 (some .boolean) 6 145 := X
  refine g_mk [true] [some (.ref (B + 1))] rfl ?_
  exact v_X9_passSemicolon X  hM
theorem fr_X9_passSemicolon {S : Nat → Prop} {u0 u : gM}  (hs0 : S 1)   {w : (Int32 × gM)} (hM : X9_passSemicolon u = some w) (h0 : off S u0 u) : off S u0 w.2 := by
  unfold X9_passSemicolon at hM
  by_cases c5 : (u.1 1 3) = 4
  · rw [if_pos c5] at hM
    obtain ⟨w15, e15, hM⟩ := bind_of hM
    have h0 := fr_X9_step hs0 e15 h0
    cases hM
    exact h0
  · rw [if_neg c5] at hM
    obtain ⟨w10, e10, hM⟩ := bind_of hM
    have h0 := fr_X9_refuse hs0 e10 h0
    obtain ⟨v13, e13, hM⟩ := bind_of hM
    cases hM
    exact h0
/-! CoverDesk$BookReader.read()Z -/
theorem dX0_read_0 : decode cX0_read 0 = .ok (.aload_n 0, 1) := by decide +kernel
theorem dX0_read_1 : decode cX0_read 1 = .ok (.getfield 12, 3) := by decide +kernel
theorem dX0_read_4 : decode cX0_read 4 = .ok (.invokevirtual 22, 3) := by decide +kernel
theorem dX0_read_7 : decode cX0_read 7 = .ok (.aload_n 0, 1) := by decide +kernel
theorem dX0_read_8 : decode cX0_read 8 = .ok (.getfield 18, 3) := by decide +kernel
theorem dX0_read_11 : decode cX0_read 11 = .ok (.invokevirtual 25, 3) := by decide +kernel
theorem dX0_read_14 : decode cX0_read 14 = .ok (.aload_n 0, 1) := by decide +kernel
theorem dX0_read_15 : decode cX0_read 15 = .ok (.getfield 18, 3) := by decide +kernel
theorem dX0_read_18 : decode cX0_read 18 = .ok (.invokevirtual 30, 3) := by decide +kernel
theorem dX0_read_21 : decode cX0_read 21 = .ok (.iconst 1, 1) := by decide +kernel
theorem dX0_read_22 : decode cX0_read 22 = .ok (.istore_n 1, 1) := by decide +kernel
theorem dX0_read_23 : decode cX0_read 23 = .ok (.iconst 0, 1) := by decide +kernel
theorem dX0_read_24 : decode cX0_read 24 = .ok (.istore_n 2, 1) := by decide +kernel
theorem dX0_read_25 : decode cX0_read 25 = .ok (.iload_n 2, 1) := by decide +kernel
theorem dX0_read_26 : decode cX0_read 26 = .ok (.sipush 700, 3) := by decide +kernel
theorem dX0_read_29 : decode cX0_read 29 = .ok (.if_icmp .ge 169, 3) := by decide +kernel
theorem dX0_read_32 : decode cX0_read 32 = .ok (.iload_n 1, 1) := by decide +kernel
theorem dX0_read_33 : decode cX0_read 33 = .ok (.ifCond .eq 165, 3) := by decide +kernel
theorem dX0_read_36 : decode cX0_read 36 = .ok (.aload_n 0, 1) := by decide +kernel
theorem dX0_read_37 : decode cX0_read 37 = .ok (.getfield 18, 3) := by decide +kernel
theorem dX0_read_40 : decode cX0_read 40 = .ok (.getfield 33, 3) := by decide +kernel
theorem dX0_read_43 : decode cX0_read 43 = .ok (.ifCond .eq 155, 3) := by decide +kernel
theorem dX0_read_46 : decode cX0_read 46 = .ok (.aload_n 0, 1) := by decide +kernel
theorem dX0_read_47 : decode cX0_read 47 = .ok (.getfield 18, 3) := by decide +kernel
theorem dX0_read_50 : decode cX0_read 50 = .ok (.getfield 37, 3) := by decide +kernel
theorem dX0_read_53 : decode cX0_read 53 = .ok (.tableswitch 110 0 9 #[55, 55, 55, 55, 55, 70, 78, 86, 94, 102], 55) := by decide +kernel
theorem dX0_read_108 : decode cX0_read 108 = .ok (.aload_n 0, 1) := by decide +kernel
theorem dX0_read_109 : decode cX0_read 109 = .ok (.aload_n 0, 1) := by decide +kernel
theorem dX0_read_110 : decode cX0_read 110 = .ok (.getfield 18, 3) := by decide +kernel
theorem dX0_read_113 : decode cX0_read 113 = .ok (.getfield 37, 3) := by decide +kernel
theorem dX0_read_116 : decode cX0_read 116 = .ok (.invokevirtual 40, 3) := by decide +kernel
theorem dX0_read_119 : decode cX0_read 119 = .ok (.istore_n 1, 1) := by decide +kernel
theorem dX0_read_120 : decode cX0_read 120 = .ok (.goto 52, 3) := by decide +kernel
theorem dX0_read_123 : decode cX0_read 123 = .ok (.aload_n 0, 1) := by decide +kernel
theorem dX0_read_124 : decode cX0_read 124 = .ok (.invokevirtual 44, 3) := by decide +kernel
theorem dX0_read_127 : decode cX0_read 127 = .ok (.istore_n 1, 1) := by decide +kernel
theorem dX0_read_128 : decode cX0_read 128 = .ok (.goto 44, 3) := by decide +kernel
theorem dX0_read_131 : decode cX0_read 131 = .ok (.aload_n 0, 1) := by decide +kernel
theorem dX0_read_132 : decode cX0_read 132 = .ok (.invokevirtual 48, 3) := by decide +kernel
theorem dX0_read_135 : decode cX0_read 135 = .ok (.istore_n 1, 1) := by decide +kernel
theorem dX0_read_136 : decode cX0_read 136 = .ok (.goto 36, 3) := by decide +kernel
theorem dX0_read_139 : decode cX0_read 139 = .ok (.aload_n 0, 1) := by decide +kernel
theorem dX0_read_140 : decode cX0_read 140 = .ok (.invokevirtual 51, 3) := by decide +kernel
theorem dX0_read_143 : decode cX0_read 143 = .ok (.istore_n 1, 1) := by decide +kernel
theorem dX0_read_144 : decode cX0_read 144 = .ok (.goto 28, 3) := by decide +kernel
theorem dX0_read_147 : decode cX0_read 147 = .ok (.aload_n 0, 1) := by decide +kernel
theorem dX0_read_148 : decode cX0_read 148 = .ok (.invokevirtual 54, 3) := by decide +kernel
theorem dX0_read_151 : decode cX0_read 151 = .ok (.istore_n 1, 1) := by decide +kernel
theorem dX0_read_152 : decode cX0_read 152 = .ok (.goto 20, 3) := by decide +kernel
theorem dX0_read_155 : decode cX0_read 155 = .ok (.aload_n 0, 1) := by decide +kernel
theorem dX0_read_156 : decode cX0_read 156 = .ok (.invokevirtual 57, 3) := by decide +kernel
theorem dX0_read_159 : decode cX0_read 159 = .ok (.istore_n 1, 1) := by decide +kernel
theorem dX0_read_160 : decode cX0_read 160 = .ok (.goto 12, 3) := by decide +kernel
theorem dX0_read_163 : decode cX0_read 163 = .ok (.aload_n 0, 1) := by decide +kernel
theorem dX0_read_164 : decode cX0_read 164 = .ok (.getfield 18, 3) := by decide +kernel
theorem dX0_read_167 : decode cX0_read 167 = .ok (.iconst 1, 1) := by decide +kernel
theorem dX0_read_168 : decode cX0_read 168 = .ok (.invokevirtual 60, 3) := by decide +kernel
theorem dX0_read_171 : decode cX0_read 171 = .ok (.istore_n 1, 1) := by decide +kernel
theorem dX0_read_172 : decode cX0_read 172 = .ok (.iload_n 1, 1) := by decide +kernel
theorem dX0_read_173 : decode cX0_read 173 = .ok (.ifCond .eq 17, 3) := by decide +kernel
theorem dX0_read_176 : decode cX0_read 176 = .ok (.aload_n 0, 1) := by decide +kernel
theorem dX0_read_177 : decode cX0_read 177 = .ok (.getfield 18, 3) := by decide +kernel
theorem dX0_read_180 : decode cX0_read 180 = .ok (.invokevirtual 63, 3) := by decide +kernel
theorem dX0_read_183 : decode cX0_read 183 = .ok (.ifCond .eq 7, 3) := by decide +kernel
theorem dX0_read_186 : decode cX0_read 186 = .ok (.iconst 1, 1) := by decide +kernel
theorem dX0_read_187 : decode cX0_read 187 = .ok (.goto 4, 3) := by decide +kernel
theorem dX0_read_190 : decode cX0_read 190 = .ok (.iconst 0, 1) := by decide +kernel
theorem dX0_read_191 : decode cX0_read 191 = .ok (.istore_n 1, 1) := by decide +kernel
theorem dX0_read_192 : decode cX0_read 192 = .ok (.iinc 2 1, 3) := by decide +kernel
theorem dX0_read_195 : decode cX0_read 195 = .ok (.goto (-170), 3) := by decide +kernel
theorem dX0_read_198 : decode cX0_read 198 = .ok (.iload_n 1, 1) := by decide +kernel
theorem dX0_read_199 : decode cX0_read 199 = .ok (.ireturn, 1) := by decide +kernel
def X0_read_b198  (x1 : Int32) (u : gM) : Option (Int32 × gM) :=
((bI x1).bind fun v199 => some (v199, u))
def X0_read_b191 (k25 : Int32 → Int32 → gM → Option (Int32 × gM)) (x2 : Int32) (s0 : Int32) (u : gM) : Option (Int32 × gM) :=
(k25 s0 (x2 + 1) u)
def X0_read_b190 (k25 : Int32 → Int32 → gM → Option (Int32 × gM)) (x2 : Int32) (u : gM) : Option (Int32 × gM) :=
(X0_read_b191 k25 x2 0 u)
def X0_read_b172 (k25 : Int32 → Int32 → gM → Option (Int32 × gM)) (x1 : Int32) (x2 : Int32) (u : gM) : Option (Int32 × gM) :=
(if x1 = 0 then (X0_read_b190 k25 x2 u)
  else ((X9_passSemicolon u).bind fun w180 => (if w180.1 = 0 then (X0_read_b190 k25 x2 w180.2)
    else (X0_read_b191 k25 x2 1 w180.2))))
def X0_read_b108 (k25 : Int32 → Int32 → gM → Option (Int32 × gM)) (x2 : Int32) (u : gM) : Option (Int32 × gM) :=
((X0_readAccount (u.1 1 4) u).bind fun w116 => (X0_read_b172 k25 w116.1 x2 w116.2))
def X0_read_b25 (k25 : Int32 → Int32 → gM → Option (Int32 × gM)) (x1 : Int32) (x2 : Int32) (u : gM) : Option (Int32 × gM) :=
(if 700 ≤ x2 then (X0_read_b198 x1 u)
  else (if x1 = 0 then (X0_read_b198 x1 u)
    else (if (u.1 1 3) = 0 then (X0_read_b198 x1 u)
      else (if (u.1 1 4) = 0 then (X0_read_b108 k25 x2 u)
        else (if (u.1 1 4) = 1 then (X0_read_b108 k25 x2 u)
        else (if (u.1 1 4) = 2 then (X0_read_b108 k25 x2 u)
        else (if (u.1 1 4) = 3 then (X0_read_b108 k25 x2 u)
        else (if (u.1 1 4) = 4 then (X0_read_b108 k25 x2 u)
        else (if (u.1 1 4) = 5 then ((X0_readPerson u).bind fun w124 => (X0_read_b172 k25 w124.1 x2 w124.2))
        else (if (u.1 1 4) = 6 then ((X0_readBank u).bind fun w132 => (X0_read_b172 k25 w132.1 x2 w132.2))
        else (if (u.1 1 4) = 7 then ((X0_readLimit u).bind fun w140 => (X0_read_b172 k25 w140.1 x2 w140.2))
        else (if (u.1 1 4) = 8 then ((X0_readGrace u).bind fun w148 => (X0_read_b172 k25 w148.1 x2 w148.2))
        else (if (u.1 1 4) = 9 then ((X0_readLoan u).bind fun w156 => (X0_read_b172 k25 w156.1 x2 w156.2))
        else ((X9_refuse 1 u).bind fun w168 => (X0_read_b172 k25 w168.1 x2 w168.2)))))))))))))))
def X0_read_l25  : Nat → Int32 → Int32 → gM → Option (Int32 × gM)
  | 0, _, _, _ => none
  | n + 1, x1, x2, u => X0_read_b25  (X0_read_l25  n) x1 x2 u
def X0_read   (u : gM) : Option (Int32 × gM) :=
((X10_clear 117 u).bind fun w4 => ((X9_forgetFault w4).bind fun w11 => ((X9_begin w11).bind fun w18 => (X0_read_l25 fz 1 0 w18))))
set_option maxRecDepth 20000 in
theorem v_X0_read_b198 {κ : gK} {B : Nat} {u : gM} (X : gX κ B skC cX0_read 3 RX0 (some .boolean) 9 217)   {x1 : Int32} {w : (Int32 × gM)} (hM : X0_read_b198 x1 u = some w) : gV κ B skC 3 ((some (.int w.1)), w.2) 198 [none, some (.int x1), none] [] u := by
  unfold X0_read_b198 at hM
  refine g_iload_n X dX0_read_198 rfl ?_
  obtain ⟨v199, e199, hM⟩ := bind_of hM
  obtain ⟨hv, rfl⟩ := bI_of e199
  cases hM
  exact g_zret X hv dX0_read_199
set_option maxRecDepth 20000 in
theorem v_X0_read_b191 {κ : gK} {B : Nat} {u : gM} (X : gX κ B skC cX0_read 3 RX0 (some .boolean) 9 217) {k25 : Int32 → Int32 → gM → Option (Int32 × gM)} (ih25 : ∀ (x1 : Int32) (x2 : Int32) (u : gM) (w : (Int32 × gM)), k25 x1 x2 u = some w → gV κ B skC 3 ((some (.int w.1)), w.2) 25 [some (.ref (B + 116)), some (.int x1), some (.int x2)] [] u) {x2 : Int32} {s0 : Int32} {w : (Int32 × gM)} (hM : X0_read_b191 k25 x2 s0 u = some w) : gV κ B skC 3 ((some (.int w.1)), w.2) 191 [some (.ref (B + 116)), none, some (.int x2)] [.int s0] u := by
  unfold X0_read_b191 at hM
  refine g_istore_n X [some (.ref (B + 116)), some (.int s0), some (.int x2)] dX0_read_191 (by decide) rfl ?_
  refine g_iinc (d := 1) X [some (.ref (B + 116)), some (.int s0), some (.int (x2 + 1))] dX0_read_192 (by decide) rfl (by decide) rfl ?_
  refine g_goto (tgt := 25) X dX0_read_195 (by decide) ?_
  refine g_mk [true, true, true] [some (.ref (B + 116)), some (.int s0), some (.int (x2 + 1))] rfl ?_
  exact ih25 s0 (x2 + 1) u _ hM
set_option maxRecDepth 20000 in
theorem v_X0_read_b190 {κ : gK} {B : Nat} {u : gM} (X : gX κ B skC cX0_read 3 RX0 (some .boolean) 9 217) {k25 : Int32 → Int32 → gM → Option (Int32 × gM)} (ih25 : ∀ (x1 : Int32) (x2 : Int32) (u : gM) (w : (Int32 × gM)), k25 x1 x2 u = some w → gV κ B skC 3 ((some (.int w.1)), w.2) 25 [some (.ref (B + 116)), some (.int x1), some (.int x2)] [] u) {x2 : Int32} {w : (Int32 × gM)} (hM : X0_read_b190 k25 x2 u = some w) : gV κ B skC 3 ((some (.int w.1)), w.2) 190 [some (.ref (B + 116)), none, some (.int x2)] [] u := by
  unfold X0_read_b190 at hM
  refine g_iconst X (v := 0) dX0_read_190 (by decide) ?_
  refine g_mk [true, false, true] [some (.ref (B + 116)), none, some (.int x2)] rfl ?_
  exact v_X0_read_b191 X ih25 hM
set_option maxRecDepth 20000 in
theorem v_X0_read_b172 {κ : gK} {B : Nat} {u : gM} (X : gX κ B skC cX0_read 3 RX0 (some .boolean) 9 217) {k25 : Int32 → Int32 → gM → Option (Int32 × gM)} (ih25 : ∀ (x1 : Int32) (x2 : Int32) (u : gM) (w : (Int32 × gM)), k25 x1 x2 u = some w → gV κ B skC 3 ((some (.int w.1)), w.2) 25 [some (.ref (B + 116)), some (.int x1), some (.int x2)] [] u) {x1 : Int32} {x2 : Int32} {w : (Int32 × gM)} (hM : X0_read_b172 k25 x1 x2 u = some w) : gV κ B skC 3 ((some (.int w.1)), w.2) 172 [some (.ref (B + 116)), some (.int x1), some (.int x2)] [] u := by
  unfold X0_read_b172 at hM
  refine g_iload_n X dX0_read_172 rfl ?_
  refine g_if_eq (tgt := 190) X dX0_read_173 (by decide) (fun c173 => ?_) (fun c173 => ?_)
  · rw [if_pos c173] at hM
    refine g_mk [true, false, true] [some (.ref (B + 116)), none, some (.int x2)] rfl ?_
    exact v_X0_read_b190 X ih25 hM
  · rw [if_neg c173] at hM
    refine g_aload_n X dX0_read_176 rfl ?_
    refine g_getR X fX0_18 cC_116 rfl dX0_read_177 ?_
    obtain ⟨w180, e180, hM⟩ := bind_of hM
    refine g_callVi X (fun B adK => []) (s_X9_passSemicolon e180) cvX0_63 cC_1 rfl rfl (Nat.le_of_ble_eq_true rfl) ⟨by decide, by decide⟩ dX0_read_180 ?_
    refine g_if_eq (tgt := 190) X dX0_read_183 (by decide) (fun c183 => ?_) (fun c183 => ?_)
    · rw [if_pos c183] at hM
      refine g_mk [true, false, true] [some (.ref (B + 116)), none, some (.int x2)] rfl ?_
      exact v_X0_read_b190 X ih25 hM
    · rw [if_neg c183] at hM
      refine g_iconst X (v := 1) dX0_read_186 (by decide) ?_
      refine g_goto (tgt := 191) X dX0_read_187 (by decide) ?_
      refine g_mk [true, false, true] [some (.ref (B + 116)), none, some (.int x2)] rfl ?_
      exact v_X0_read_b191 X ih25 hM
set_option maxRecDepth 20000 in
theorem v_X0_read_b108 {κ : gK} {B : Nat} {u : gM} (X : gX κ B skC cX0_read 3 RX0 (some .boolean) 9 217) {k25 : Int32 → Int32 → gM → Option (Int32 × gM)} (ih25 : ∀ (x1 : Int32) (x2 : Int32) (u : gM) (w : (Int32 × gM)), k25 x1 x2 u = some w → gV κ B skC 3 ((some (.int w.1)), w.2) 25 [some (.ref (B + 116)), some (.int x1), some (.int x2)] [] u) {x2 : Int32} {w : (Int32 × gM)} (hM : X0_read_b108 k25 x2 u = some w) : gV κ B skC 3 ((some (.int w.1)), w.2) 108 [some (.ref (B + 116)), none, some (.int x2)] [] u := by
  unfold X0_read_b108 at hM
  refine g_aload_n X dX0_read_108 rfl ?_
  refine g_aload_n X dX0_read_109 rfl ?_
  refine g_getR X fX0_18 cC_116 rfl dX0_read_110 ?_
  refine g_getI X fX0_37 cC_1 rfl dX0_read_113 ?_
  obtain ⟨w116, e116, hM⟩ := bind_of hM
  refine g_callVi X (fun B adK => [.int (u.1 1 4)]) (s_X0_readAccount e116) cvX0_40 cC_116 rfl rfl (Nat.le_of_ble_eq_true rfl) ⟨by decide, by decide⟩ dX0_read_116 ?_
  refine g_istore_n X [some (.ref (B + 116)), some (.int w116.1), some (.int x2)] dX0_read_119 (by decide) rfl ?_
  refine g_goto (tgt := 172) X dX0_read_120 (by decide) ?_
  refine g_mk [true, true, true] [some (.ref (B + 116)), some (.int w116.1), some (.int x2)] rfl ?_
  exact v_X0_read_b172 X ih25 hM
set_option maxRecDepth 20000 in
theorem v_X0_read_b25 {κ : gK} {B : Nat} {u : gM} (X : gX κ B skC cX0_read 3 RX0 (some .boolean) 9 217) {k25 : Int32 → Int32 → gM → Option (Int32 × gM)} (ih25 : ∀ (x1 : Int32) (x2 : Int32) (u : gM) (w : (Int32 × gM)), k25 x1 x2 u = some w → gV κ B skC 3 ((some (.int w.1)), w.2) 25 [some (.ref (B + 116)), some (.int x1), some (.int x2)] [] u) {x1 : Int32} {x2 : Int32} {w : (Int32 × gM)} (hM : X0_read_b25 k25 x1 x2 u = some w) : gV κ B skC 3 ((some (.int w.1)), w.2) 25 [some (.ref (B + 116)), some (.int x1), some (.int x2)] [] u := by
  unfold X0_read_b25 at hM
  refine g_iload_n X dX0_read_25 rfl ?_
  refine g_sipush X (v := 700) dX0_read_26 (by decide) ?_
  refine g_icmp_ge (tgt := 198) X dX0_read_29 (by decide) (fun c29 => ?_) (fun c29 => ?_)
  · rw [if_pos c29] at hM
    refine g_mk [false, true, false] [none, some (.int x1), none] rfl ?_
    exact v_X0_read_b198 X  hM
  · rw [if_neg c29] at hM
    refine g_iload_n X dX0_read_32 rfl ?_
    refine g_if_eq (tgt := 198) X dX0_read_33 (by decide) (fun c33 => ?_) (fun c33 => ?_)
    · rw [if_pos c33] at hM
      refine g_mk [false, true, false] [none, some (.int x1), none] rfl ?_
      exact v_X0_read_b198 X  hM
    · rw [if_neg c33] at hM
      refine g_aload_n X dX0_read_36 rfl ?_
      refine g_getR X fX0_18 cC_116 rfl dX0_read_37 ?_
      refine g_getI X fX0_33 cC_1 rfl dX0_read_40 ?_
      refine g_if_eq (tgt := 198) X dX0_read_43 (by decide) (fun c43 => ?_) (fun c43 => ?_)
      · rw [if_pos c43] at hM
        refine g_mk [false, true, false] [none, some (.int x1), none] rfl ?_
        exact v_X0_read_b198 X  hM
      · rw [if_neg c43] at hM
        refine g_aload_n X dX0_read_46 rfl ?_
        refine g_getR X fX0_18 cC_116 rfl dX0_read_47 ?_
        refine g_getI X fX0_37 cC_1 rfl dX0_read_50 ?_
        by_cases h53_0 : (u.1 1 4) = 0
        · rw [if_pos h53_0] at hM
          refine g_tabIn (tgt := 108) (off := 55) X 0 h53_0 dX0_read_53 (by decide) (by decide) (by decide) (by decide) ?_
          refine g_mk [true, false, true] [some (.ref (B + 116)), none, some (.int x2)] rfl ?_
          exact v_X0_read_b108 X ih25 hM
        rw [if_neg h53_0] at hM
        by_cases h53_1 : (u.1 1 4) = 1
        · rw [if_pos h53_1] at hM
          refine g_tabIn (tgt := 108) (off := 55) X 1 h53_1 dX0_read_53 (by decide) (by decide) (by decide) (by decide) ?_
          refine g_mk [true, false, true] [some (.ref (B + 116)), none, some (.int x2)] rfl ?_
          exact v_X0_read_b108 X ih25 hM
        rw [if_neg h53_1] at hM
        by_cases h53_2 : (u.1 1 4) = 2
        · rw [if_pos h53_2] at hM
          refine g_tabIn (tgt := 108) (off := 55) X 2 h53_2 dX0_read_53 (by decide) (by decide) (by decide) (by decide) ?_
          refine g_mk [true, false, true] [some (.ref (B + 116)), none, some (.int x2)] rfl ?_
          exact v_X0_read_b108 X ih25 hM
        rw [if_neg h53_2] at hM
        by_cases h53_3 : (u.1 1 4) = 3
        · rw [if_pos h53_3] at hM
          refine g_tabIn (tgt := 108) (off := 55) X 3 h53_3 dX0_read_53 (by decide) (by decide) (by decide) (by decide) ?_
          refine g_mk [true, false, true] [some (.ref (B + 116)), none, some (.int x2)] rfl ?_
          exact v_X0_read_b108 X ih25 hM
        rw [if_neg h53_3] at hM
        by_cases h53_4 : (u.1 1 4) = 4
        · rw [if_pos h53_4] at hM
          refine g_tabIn (tgt := 108) (off := 55) X 4 h53_4 dX0_read_53 (by decide) (by decide) (by decide) (by decide) ?_
          refine g_mk [true, false, true] [some (.ref (B + 116)), none, some (.int x2)] rfl ?_
          exact v_X0_read_b108 X ih25 hM
        rw [if_neg h53_4] at hM
        by_cases h53_5 : (u.1 1 4) = 5
        · rw [if_pos h53_5] at hM
          refine g_tabIn (tgt := 123) (off := 70) X 5 h53_5 dX0_read_53 (by decide) (by decide) (by decide) (by decide) ?_
          refine g_aload_n X dX0_read_123 rfl ?_
          obtain ⟨w124, e124, hM⟩ := bind_of hM
          refine g_callVi X (fun B adK => []) (s_X0_readPerson e124) cvX0_44 cC_116 rfl rfl (Nat.le_of_ble_eq_true rfl) ⟨by decide, by decide⟩ dX0_read_124 ?_
          refine g_istore_n X [some (.ref (B + 116)), some (.int w124.1), some (.int x2)] dX0_read_127 (by decide) rfl ?_
          refine g_goto (tgt := 172) X dX0_read_128 (by decide) ?_
          refine g_mk [true, true, true] [some (.ref (B + 116)), some (.int w124.1), some (.int x2)] rfl ?_
          exact v_X0_read_b172 X ih25 hM
        rw [if_neg h53_5] at hM
        by_cases h53_6 : (u.1 1 4) = 6
        · rw [if_pos h53_6] at hM
          refine g_tabIn (tgt := 131) (off := 78) X 6 h53_6 dX0_read_53 (by decide) (by decide) (by decide) (by decide) ?_
          refine g_aload_n X dX0_read_131 rfl ?_
          obtain ⟨w132, e132, hM⟩ := bind_of hM
          refine g_callVi X (fun B adK => []) (s_X0_readBank e132) cvX0_48 cC_116 rfl rfl (Nat.le_of_ble_eq_true rfl) ⟨by decide, by decide⟩ dX0_read_132 ?_
          refine g_istore_n X [some (.ref (B + 116)), some (.int w132.1), some (.int x2)] dX0_read_135 (by decide) rfl ?_
          refine g_goto (tgt := 172) X dX0_read_136 (by decide) ?_
          refine g_mk [true, true, true] [some (.ref (B + 116)), some (.int w132.1), some (.int x2)] rfl ?_
          exact v_X0_read_b172 X ih25 hM
        rw [if_neg h53_6] at hM
        by_cases h53_7 : (u.1 1 4) = 7
        · rw [if_pos h53_7] at hM
          refine g_tabIn (tgt := 139) (off := 86) X 7 h53_7 dX0_read_53 (by decide) (by decide) (by decide) (by decide) ?_
          refine g_aload_n X dX0_read_139 rfl ?_
          obtain ⟨w140, e140, hM⟩ := bind_of hM
          refine g_callVi X (fun B adK => []) (s_X0_readLimit e140) cvX0_51 cC_116 rfl rfl (Nat.le_of_ble_eq_true rfl) ⟨by decide, by decide⟩ dX0_read_140 ?_
          refine g_istore_n X [some (.ref (B + 116)), some (.int w140.1), some (.int x2)] dX0_read_143 (by decide) rfl ?_
          refine g_goto (tgt := 172) X dX0_read_144 (by decide) ?_
          refine g_mk [true, true, true] [some (.ref (B + 116)), some (.int w140.1), some (.int x2)] rfl ?_
          exact v_X0_read_b172 X ih25 hM
        rw [if_neg h53_7] at hM
        by_cases h53_8 : (u.1 1 4) = 8
        · rw [if_pos h53_8] at hM
          refine g_tabIn (tgt := 147) (off := 94) X 8 h53_8 dX0_read_53 (by decide) (by decide) (by decide) (by decide) ?_
          refine g_aload_n X dX0_read_147 rfl ?_
          obtain ⟨w148, e148, hM⟩ := bind_of hM
          refine g_callVi X (fun B adK => []) (s_X0_readGrace e148) cvX0_54 cC_116 rfl rfl (Nat.le_of_ble_eq_true rfl) ⟨by decide, by decide⟩ dX0_read_148 ?_
          refine g_istore_n X [some (.ref (B + 116)), some (.int w148.1), some (.int x2)] dX0_read_151 (by decide) rfl ?_
          refine g_goto (tgt := 172) X dX0_read_152 (by decide) ?_
          refine g_mk [true, true, true] [some (.ref (B + 116)), some (.int w148.1), some (.int x2)] rfl ?_
          exact v_X0_read_b172 X ih25 hM
        rw [if_neg h53_8] at hM
        by_cases h53_9 : (u.1 1 4) = 9
        · rw [if_pos h53_9] at hM
          refine g_tabIn (tgt := 155) (off := 102) X 9 h53_9 dX0_read_53 (by decide) (by decide) (by decide) (by decide) ?_
          refine g_aload_n X dX0_read_155 rfl ?_
          obtain ⟨w156, e156, hM⟩ := bind_of hM
          refine g_callVi X (fun B adK => []) (s_X0_readLoan e156) cvX0_57 cC_116 rfl rfl (Nat.le_of_ble_eq_true rfl) ⟨by decide, by decide⟩ dX0_read_156 ?_
          refine g_istore_n X [some (.ref (B + 116)), some (.int w156.1), some (.int x2)] dX0_read_159 (by decide) rfl ?_
          refine g_goto (tgt := 172) X dX0_read_160 (by decide) ?_
          refine g_mk [true, true, true] [some (.ref (B + 116)), some (.int w156.1), some (.int x2)] rfl ?_
          exact v_X0_read_b172 X ih25 hM
        rw [if_neg h53_9] at hM
        refine g_tabOut (tgt := 163) X dX0_read_53 (by have q0 := lv_neT (a := 0) h53_0 (by decide); have q1 := lv_neT (a := 1) h53_1 (by decide); have q2 := lv_neT (a := 2) h53_2 (by decide); have q3 := lv_neT (a := 3) h53_3 (by decide); have q4 := lv_neT (a := 4) h53_4 (by decide); have q5 := lv_neT (a := 5) h53_5 (by decide); have q6 := lv_neT (a := 6) h53_6 (by decide); have q7 := lv_neT (a := 7) h53_7 (by decide); have q8 := lv_neT (a := 8) h53_8 (by decide); have q9 := lv_neT (a := 9) h53_9 (by decide); omega) (by decide) ?_
        refine g_aload_n X dX0_read_163 rfl ?_
        refine g_getR X fX0_18 cC_116 rfl dX0_read_164 ?_
        refine g_iconst X (v := 1) dX0_read_167 (by decide) ?_
        obtain ⟨w168, e168, hM⟩ := bind_of hM
        refine g_callVi X (fun B adK => [.int 1]) (s_X9_refuse e168) cvX0_60 cC_1 rfl rfl (Nat.le_of_ble_eq_true rfl) ⟨by decide, by decide⟩ dX0_read_168 ?_
        refine g_istore_n X [some (.ref (B + 116)), some (.int w168.1), some (.int x2)] dX0_read_171 (by decide) rfl ?_
        refine g_mk [true, true, true] [some (.ref (B + 116)), some (.int w168.1), some (.int x2)] rfl ?_
        exact v_X0_read_b172 X ih25 hM
theorem v_X0_read_l25 {κ : gK} {B : Nat} (X : gX κ B skC cX0_read 3 RX0 (some .boolean) 9 217)   : ∀ (n : Nat) {x1 : Int32} {x2 : Int32} {u : gM} {w : (Int32 × gM)} (hM : X0_read_l25  n x1 x2 u = some w), gV κ B skC 3 ((some (.int w.1)), w.2) 25 [some (.ref (B + 116)), some (.int x1), some (.int x2)] [] u := by
  intro n
  induction n with
  | zero => intro x1 x2 u w hM; exact nomatch (show (none : Option (Int32 × gM)) = some w from hM)
  | succ n ihn => intro x1 x2 u w hM; exact v_X0_read_b25 X  (fun x1 x2 u w h => ihn h) hM
set_option maxRecDepth 20000 in
theorem v_X0_read {κ : gK} {B : Nat} {u : gM} (X : gX κ B skC cX0_read 3 RX0 (some .boolean) 9 217)    {w : (Int32 × gM)} (hM : X0_read u = some w) : gV κ B skC 3 ((some (.int w.1)), w.2) 0 [some (.ref (B + 116)), none, none] [] u := by
  unfold X0_read at hM
  refine g_aload_n X dX0_read_0 rfl ?_
  refine g_getR X fX0_12 cC_116 rfl dX0_read_1 ?_
  obtain ⟨w4, e4, hM⟩ := bind_of hM
  refine g_callVv X (fun B adK => []) (s_X10_clear e4) cvX0_22 cC_117 rfl rfl (Nat.le_of_ble_eq_true rfl) ⟨by decide, by decide⟩ dX0_read_4 ?_
  refine g_aload_n X dX0_read_7 rfl ?_
  refine g_getR X fX0_18 cC_116 rfl dX0_read_8 ?_
  obtain ⟨w11, e11, hM⟩ := bind_of hM
  refine g_callVv X (fun B adK => []) (s_X9_forgetFault e11) cvX0_25 cC_1 rfl rfl (Nat.le_of_ble_eq_true rfl) ⟨by decide, by decide⟩ dX0_read_11 ?_
  refine g_aload_n X dX0_read_14 rfl ?_
  refine g_getR X fX0_18 cC_116 rfl dX0_read_15 ?_
  obtain ⟨w18, e18, hM⟩ := bind_of hM
  refine g_callVv X (fun B adK => []) (s_X9_begin e18) cvX0_30 cC_1 rfl rfl (Nat.le_of_ble_eq_true rfl) ⟨by decide, by decide⟩ dX0_read_18 ?_
  refine g_iconst X (v := 1) dX0_read_21 (by decide) ?_
  refine g_istore_n X [some (.ref (B + 116)), some (.int 1), none] dX0_read_22 (by decide) rfl ?_
  refine g_iconst X (v := 0) dX0_read_23 (by decide) ?_
  refine g_istore_n X [some (.ref (B + 116)), some (.int 1), some (.int 0)] dX0_read_24 (by decide) rfl ?_
  refine g_mk [true, true, true] [some (.ref (B + 116)), some (.int 1), some (.int 0)] rfl ?_
  exact v_X0_read_l25 X  fz hM
theorem s_X0_read  {u : gM} {w : (Int32 × gM)} (hM : X0_read u = some w) : gMet skC yX0_read cX0_read 3 (some .boolean) 9 217 (fun B adK => [.ref (B + 116)]) u ((fun _ => some (.int w.1)), w.2) := by
  refine gMet.of (by decide) (fun _ _ => Nat.le_of_ble_eq_true rfl) (fun κ B X => ?_)
  have X : gX κ B skC cX0_read 3 RX0 (some .boolean) 9 217 := X
  refine g_mk [true, false, false] [some (.ref (B + 116)), none, none] rfl ?_
  exact v_X0_read X  hM
theorem fr_X0_read_b198 {S : Nat → Prop} {u0 u : gM} {x1 : Int32}    {w : (Int32 × gM)} (hM : X0_read_b198 x1 u = some w) (h0 : off S u0 u) : off S u0 w.2 := by
  unfold X0_read_b198 at hM
  obtain ⟨v199, e199, hM⟩ := bind_of hM
  cases hM
  exact h0
theorem fr_X0_read_b191 {S : Nat → Prop} {u0 u : gM} {x2 : Int32} {s0 : Int32} (hs0 : S (rf skC 117 13)) (hs1 : S (rf skC 117 14)) (hs2 : S (rf skC 117 15)) (hs3 : S (rf skC 117 16)) (hs4 : S 1) (hs5 : S 117) (hs6 : S 118) (hs7 : S 119) (hs8 : S 120) (hs9 : S 121) (hs10 : S 122) (hs11 : S 123) (hs12 : S 124) (hs13 : S 125) (hs14 : S 126) (hs15 : S 129) (hs16 : S 130) (hs17 : S 131) {k25 : Int32 → Int32 → gM → Option (Int32 × gM)} (ik25 : ∀ (x1 : Int32) (x2 : Int32) (u : gM) (w : (Int32 × gM)), S (rf skC 117 13) → S (rf skC 117 14) → S (rf skC 117 15) → S (rf skC 117 16) → S 1 → S 117 → S 118 → S 119 → S 120 → S 121 → S 122 → S 123 → S 124 → S 125 → S 126 → S 129 → S 130 → S 131 → off S u0 u → k25 x1 x2 u = some w → off S u0 w.2) {w : (Int32 × gM)} (hM : X0_read_b191 k25 x2 s0 u = some w) (h0 : off S u0 u) : off S u0 w.2 := by
  unfold X0_read_b191 at hM
  exact ik25 _ _ _ _ hs0 hs1 hs2 hs3 hs4 hs5 hs6 hs7 hs8 hs9 hs10 hs11 hs12 hs13 hs14 hs15 hs16 hs17 h0 hM
theorem fr_X0_read_b190 {S : Nat → Prop} {u0 u : gM} {x2 : Int32} (hs0 : S (rf skC 117 13)) (hs1 : S (rf skC 117 14)) (hs2 : S (rf skC 117 15)) (hs3 : S (rf skC 117 16)) (hs4 : S 1) (hs5 : S 117) (hs6 : S 118) (hs7 : S 119) (hs8 : S 120) (hs9 : S 121) (hs10 : S 122) (hs11 : S 123) (hs12 : S 124) (hs13 : S 125) (hs14 : S 126) (hs15 : S 129) (hs16 : S 130) (hs17 : S 131) {k25 : Int32 → Int32 → gM → Option (Int32 × gM)} (ik25 : ∀ (x1 : Int32) (x2 : Int32) (u : gM) (w : (Int32 × gM)), S (rf skC 117 13) → S (rf skC 117 14) → S (rf skC 117 15) → S (rf skC 117 16) → S 1 → S 117 → S 118 → S 119 → S 120 → S 121 → S 122 → S 123 → S 124 → S 125 → S 126 → S 129 → S 130 → S 131 → off S u0 u → k25 x1 x2 u = some w → off S u0 w.2) {w : (Int32 × gM)} (hM : X0_read_b190 k25 x2 u = some w) (h0 : off S u0 u) : off S u0 w.2 := by
  unfold X0_read_b190 at hM
  exact fr_X0_read_b191 hs0 hs1 hs2 hs3 hs4 hs5 hs6 hs7 hs8 hs9 hs10 hs11 hs12 hs13 hs14 hs15 hs16 hs17 ik25 hM h0
theorem fr_X0_read_b172 {S : Nat → Prop} {u0 u : gM} {x1 : Int32} {x2 : Int32} (hs0 : S (rf skC 117 13)) (hs1 : S (rf skC 117 14)) (hs2 : S (rf skC 117 15)) (hs3 : S (rf skC 117 16)) (hs4 : S 1) (hs5 : S 117) (hs6 : S 118) (hs7 : S 119) (hs8 : S 120) (hs9 : S 121) (hs10 : S 122) (hs11 : S 123) (hs12 : S 124) (hs13 : S 125) (hs14 : S 126) (hs15 : S 129) (hs16 : S 130) (hs17 : S 131) {k25 : Int32 → Int32 → gM → Option (Int32 × gM)} (ik25 : ∀ (x1 : Int32) (x2 : Int32) (u : gM) (w : (Int32 × gM)), S (rf skC 117 13) → S (rf skC 117 14) → S (rf skC 117 15) → S (rf skC 117 16) → S 1 → S 117 → S 118 → S 119 → S 120 → S 121 → S 122 → S 123 → S 124 → S 125 → S 126 → S 129 → S 130 → S 131 → off S u0 u → k25 x1 x2 u = some w → off S u0 w.2) {w : (Int32 × gM)} (hM : X0_read_b172 k25 x1 x2 u = some w) (h0 : off S u0 u) : off S u0 w.2 := by
  unfold X0_read_b172 at hM
  by_cases c173 : x1 = 0
  · rw [if_pos c173] at hM
    exact fr_X0_read_b190 hs0 hs1 hs2 hs3 hs4 hs5 hs6 hs7 hs8 hs9 hs10 hs11 hs12 hs13 hs14 hs15 hs16 hs17 ik25 hM h0
  · rw [if_neg c173] at hM
    obtain ⟨w180, e180, hM⟩ := bind_of hM
    have h0 := fr_X9_passSemicolon hs4 e180 h0
    by_cases c183 : w180.1 = 0
    · rw [if_pos c183] at hM
      exact fr_X0_read_b190 hs0 hs1 hs2 hs3 hs4 hs5 hs6 hs7 hs8 hs9 hs10 hs11 hs12 hs13 hs14 hs15 hs16 hs17 ik25 hM h0
    · rw [if_neg c183] at hM
      exact fr_X0_read_b191 hs0 hs1 hs2 hs3 hs4 hs5 hs6 hs7 hs8 hs9 hs10 hs11 hs12 hs13 hs14 hs15 hs16 hs17 ik25 hM h0
theorem fr_X0_read_b108 {S : Nat → Prop} {u0 u : gM} {x2 : Int32} (hs0 : S (rf skC 117 13)) (hs1 : S (rf skC 117 14)) (hs2 : S (rf skC 117 15)) (hs3 : S (rf skC 117 16)) (hs4 : S 1) (hs5 : S 117) (hs6 : S 118) (hs7 : S 119) (hs8 : S 120) (hs9 : S 121) (hs10 : S 122) (hs11 : S 123) (hs12 : S 124) (hs13 : S 125) (hs14 : S 126) (hs15 : S 129) (hs16 : S 130) (hs17 : S 131) {k25 : Int32 → Int32 → gM → Option (Int32 × gM)} (ik25 : ∀ (x1 : Int32) (x2 : Int32) (u : gM) (w : (Int32 × gM)), S (rf skC 117 13) → S (rf skC 117 14) → S (rf skC 117 15) → S (rf skC 117 16) → S 1 → S 117 → S 118 → S 119 → S 120 → S 121 → S 122 → S 123 → S 124 → S 125 → S 126 → S 129 → S 130 → S 131 → off S u0 u → k25 x1 x2 u = some w → off S u0 w.2) {w : (Int32 × gM)} (hM : X0_read_b108 k25 x2 u = some w) (h0 : off S u0 u) : off S u0 w.2 := by
  unfold X0_read_b108 at hM
  obtain ⟨w116, e116, hM⟩ := bind_of hM
  have h0 := fr_X0_readAccount hs0 hs1 hs2 hs3 hs4 hs5 hs8 hs9 hs10 hs11 hs12 hs13 hs14 e116 h0
  exact fr_X0_read_b172 hs0 hs1 hs2 hs3 hs4 hs5 hs6 hs7 hs8 hs9 hs10 hs11 hs12 hs13 hs14 hs15 hs16 hs17 ik25 hM h0
theorem fr_X0_read_b25 {S : Nat → Prop} {u0 u : gM} {x1 : Int32} {x2 : Int32} (hs0 : S (rf skC 117 13)) (hs1 : S (rf skC 117 14)) (hs2 : S (rf skC 117 15)) (hs3 : S (rf skC 117 16)) (hs4 : S 1) (hs5 : S 117) (hs6 : S 118) (hs7 : S 119) (hs8 : S 120) (hs9 : S 121) (hs10 : S 122) (hs11 : S 123) (hs12 : S 124) (hs13 : S 125) (hs14 : S 126) (hs15 : S 129) (hs16 : S 130) (hs17 : S 131) {k25 : Int32 → Int32 → gM → Option (Int32 × gM)} (ik25 : ∀ (x1 : Int32) (x2 : Int32) (u : gM) (w : (Int32 × gM)), S (rf skC 117 13) → S (rf skC 117 14) → S (rf skC 117 15) → S (rf skC 117 16) → S 1 → S 117 → S 118 → S 119 → S 120 → S 121 → S 122 → S 123 → S 124 → S 125 → S 126 → S 129 → S 130 → S 131 → off S u0 u → k25 x1 x2 u = some w → off S u0 w.2) {w : (Int32 × gM)} (hM : X0_read_b25 k25 x1 x2 u = some w) (h0 : off S u0 u) : off S u0 w.2 := by
  unfold X0_read_b25 at hM
  by_cases c29 : 700 ≤ x2
  · rw [if_pos c29] at hM
    exact fr_X0_read_b198   hM h0
  · rw [if_neg c29] at hM
    by_cases c33 : x1 = 0
    · rw [if_pos c33] at hM
      exact fr_X0_read_b198   hM h0
    · rw [if_neg c33] at hM
      by_cases c43 : (u.1 1 3) = 0
      · rw [if_pos c43] at hM
        exact fr_X0_read_b198   hM h0
      · rw [if_neg c43] at hM
        by_cases h53_0 : (u.1 1 4) = 0
        · rw [if_pos h53_0] at hM
          exact fr_X0_read_b108 hs0 hs1 hs2 hs3 hs4 hs5 hs6 hs7 hs8 hs9 hs10 hs11 hs12 hs13 hs14 hs15 hs16 hs17 ik25 hM h0
        rw [if_neg h53_0] at hM
        by_cases h53_1 : (u.1 1 4) = 1
        · rw [if_pos h53_1] at hM
          exact fr_X0_read_b108 hs0 hs1 hs2 hs3 hs4 hs5 hs6 hs7 hs8 hs9 hs10 hs11 hs12 hs13 hs14 hs15 hs16 hs17 ik25 hM h0
        rw [if_neg h53_1] at hM
        by_cases h53_2 : (u.1 1 4) = 2
        · rw [if_pos h53_2] at hM
          exact fr_X0_read_b108 hs0 hs1 hs2 hs3 hs4 hs5 hs6 hs7 hs8 hs9 hs10 hs11 hs12 hs13 hs14 hs15 hs16 hs17 ik25 hM h0
        rw [if_neg h53_2] at hM
        by_cases h53_3 : (u.1 1 4) = 3
        · rw [if_pos h53_3] at hM
          exact fr_X0_read_b108 hs0 hs1 hs2 hs3 hs4 hs5 hs6 hs7 hs8 hs9 hs10 hs11 hs12 hs13 hs14 hs15 hs16 hs17 ik25 hM h0
        rw [if_neg h53_3] at hM
        by_cases h53_4 : (u.1 1 4) = 4
        · rw [if_pos h53_4] at hM
          exact fr_X0_read_b108 hs0 hs1 hs2 hs3 hs4 hs5 hs6 hs7 hs8 hs9 hs10 hs11 hs12 hs13 hs14 hs15 hs16 hs17 ik25 hM h0
        rw [if_neg h53_4] at hM
        by_cases h53_5 : (u.1 1 4) = 5
        · rw [if_pos h53_5] at hM
          obtain ⟨w124, e124, hM⟩ := bind_of hM
          have h0 := fr_X0_readPerson hs4 hs5 hs6 e124 h0
          exact fr_X0_read_b172 hs0 hs1 hs2 hs3 hs4 hs5 hs6 hs7 hs8 hs9 hs10 hs11 hs12 hs13 hs14 hs15 hs16 hs17 ik25 hM h0
        rw [if_neg h53_5] at hM
        by_cases h53_6 : (u.1 1 4) = 6
        · rw [if_pos h53_6] at hM
          obtain ⟨w132, e132, hM⟩ := bind_of hM
          have h0 := fr_X0_readBank hs4 hs5 hs7 e132 h0
          exact fr_X0_read_b172 hs0 hs1 hs2 hs3 hs4 hs5 hs6 hs7 hs8 hs9 hs10 hs11 hs12 hs13 hs14 hs15 hs16 hs17 ik25 hM h0
        rw [if_neg h53_6] at hM
        by_cases h53_7 : (u.1 1 4) = 7
        · rw [if_pos h53_7] at hM
          obtain ⟨w140, e140, hM⟩ := bind_of hM
          have h0 := fr_X0_readLimit hs4 hs5 e140 h0
          exact fr_X0_read_b172 hs0 hs1 hs2 hs3 hs4 hs5 hs6 hs7 hs8 hs9 hs10 hs11 hs12 hs13 hs14 hs15 hs16 hs17 ik25 hM h0
        rw [if_neg h53_7] at hM
        by_cases h53_8 : (u.1 1 4) = 8
        · rw [if_pos h53_8] at hM
          obtain ⟨w148, e148, hM⟩ := bind_of hM
          have h0 := fr_X0_readGrace hs4 hs5 e148 h0
          exact fr_X0_read_b172 hs0 hs1 hs2 hs3 hs4 hs5 hs6 hs7 hs8 hs9 hs10 hs11 hs12 hs13 hs14 hs15 hs16 hs17 ik25 hM h0
        rw [if_neg h53_8] at hM
        by_cases h53_9 : (u.1 1 4) = 9
        · rw [if_pos h53_9] at hM
          obtain ⟨w156, e156, hM⟩ := bind_of hM
          have h0 := fr_X0_readLoan hs4 hs5 hs15 hs16 hs17 e156 h0
          exact fr_X0_read_b172 hs0 hs1 hs2 hs3 hs4 hs5 hs6 hs7 hs8 hs9 hs10 hs11 hs12 hs13 hs14 hs15 hs16 hs17 ik25 hM h0
        rw [if_neg h53_9] at hM
        obtain ⟨w168, e168, hM⟩ := bind_of hM
        have h0 := fr_X9_refuse hs4 e168 h0
        exact fr_X0_read_b172 hs0 hs1 hs2 hs3 hs4 hs5 hs6 hs7 hs8 hs9 hs10 hs11 hs12 hs13 hs14 hs15 hs16 hs17 ik25 hM h0
theorem fr_X0_read_l25 {S : Nat → Prop} {u0 : gM}   : ∀ (n : Nat) {x1 : Int32} {x2 : Int32} (hs0 : S (rf skC 117 13)) (hs1 : S (rf skC 117 14)) (hs2 : S (rf skC 117 15)) (hs3 : S (rf skC 117 16)) (hs4 : S 1) (hs5 : S 117) (hs6 : S 118) (hs7 : S 119) (hs8 : S 120) (hs9 : S 121) (hs10 : S 122) (hs11 : S 123) (hs12 : S 124) (hs13 : S 125) (hs14 : S 126) (hs15 : S 129) (hs16 : S 130) (hs17 : S 131) {u : gM} {w : (Int32 × gM)} (h0 : off S u0 u) (hM : X0_read_l25  n x1 x2 u = some w), off S u0 w.2 := by
  intro n
  induction n with
  | zero => intro x1 x2 hs0 hs1 hs2 hs3 hs4 hs5 hs6 hs7 hs8 hs9 hs10 hs11 hs12 hs13 hs14 hs15 hs16 hs17 u w h0 hM; exact nomatch (show (none : Option (Int32 × gM)) = some w from hM)
  | succ n ihn => intro x1 x2 hs0 hs1 hs2 hs3 hs4 hs5 hs6 hs7 hs8 hs9 hs10 hs11 hs12 hs13 hs14 hs15 hs16 hs17 u w h0 hM; exact fr_X0_read_b25 hs0 hs1 hs2 hs3 hs4 hs5 hs6 hs7 hs8 hs9 hs10 hs11 hs12 hs13 hs14 hs15 hs16 hs17  (fun x1 x2 _ _ hs0 hs1 hs2 hs3 hs4 hs5 hs6 hs7 hs8 hs9 hs10 hs11 hs12 hs13 hs14 hs15 hs16 hs17 h0 h => ihn hs0 hs1 hs2 hs3 hs4 hs5 hs6 hs7 hs8 hs9 hs10 hs11 hs12 hs13 hs14 hs15 hs16 hs17 h0 h) hM h0
theorem fr_X0_read {S : Nat → Prop} {u0 u : gM}  (hs0 : S (rf skC 117 13)) (hs1 : S (rf skC 117 14)) (hs2 : S (rf skC 117 15)) (hs3 : S (rf skC 117 16)) (hs4 : S 1) (hs5 : S 117) (hs6 : S 118) (hs7 : S 119) (hs8 : S 120) (hs9 : S 121) (hs10 : S 122) (hs11 : S 123) (hs12 : S 124) (hs13 : S 125) (hs14 : S 126) (hs15 : S 129) (hs16 : S 130) (hs17 : S 131)   {w : (Int32 × gM)} (hM : X0_read u = some w) (h0 : off S u0 u) : off S u0 w.2 := by
  unfold X0_read at hM
  obtain ⟨w4, e4, hM⟩ := bind_of hM
  have h0 := fr_X10_clear hs5 e4 h0
  obtain ⟨w11, e11, hM⟩ := bind_of hM
  have h0 := fr_X9_forgetFault hs4 e11 h0
  obtain ⟨w18, e18, hM⟩ := bind_of hM
  have h0 := fr_X9_begin hs4 e18 h0
  exact fr_X0_read_l25  fz hs0 hs1 hs2 hs3 hs4 hs5 hs6 hs7 hs8 hs9 hs10 hs11 hs12 hs13 hs14 hs15 hs16 hs17 h0 hM
/-! CoverDesk$Told.copy(LCoverDesk$Told;)V -/
theorem dX10_copy_0 : decode cX10_copy 0 = .ok (.aload_n 0, 1) := by decide +kernel
theorem dX10_copy_1 : decode cX10_copy 1 = .ok (.aload_n 1, 1) := by decide +kernel
theorem dX10_copy_2 : decode cX10_copy 2 = .ok (.getfield 63, 3) := by decide +kernel
theorem dX10_copy_5 : decode cX10_copy 5 = .ok (.putfield 63, 3) := by decide +kernel
theorem dX10_copy_8 : decode cX10_copy 8 = .ok (.aload_n 0, 1) := by decide +kernel
theorem dX10_copy_9 : decode cX10_copy 9 = .ok (.aload_n 1, 1) := by decide +kernel
theorem dX10_copy_10 : decode cX10_copy 10 = .ok (.getfield 66, 3) := by decide +kernel
theorem dX10_copy_13 : decode cX10_copy 13 = .ok (.putfield 66, 3) := by decide +kernel
theorem dX10_copy_16 : decode cX10_copy 16 = .ok (.aload_n 0, 1) := by decide +kernel
theorem dX10_copy_17 : decode cX10_copy 17 = .ok (.aload_n 1, 1) := by decide +kernel
theorem dX10_copy_18 : decode cX10_copy 18 = .ok (.getfield 69, 3) := by decide +kernel
theorem dX10_copy_21 : decode cX10_copy 21 = .ok (.putfield 69, 3) := by decide +kernel
theorem dX10_copy_24 : decode cX10_copy 24 = .ok (.aload_n 0, 1) := by decide +kernel
theorem dX10_copy_25 : decode cX10_copy 25 = .ok (.aload_n 1, 1) := by decide +kernel
theorem dX10_copy_26 : decode cX10_copy 26 = .ok (.getfield 72, 3) := by decide +kernel
theorem dX10_copy_29 : decode cX10_copy 29 = .ok (.putfield 72, 3) := by decide +kernel
theorem dX10_copy_32 : decode cX10_copy 32 = .ok (.aload_n 0, 1) := by decide +kernel
theorem dX10_copy_33 : decode cX10_copy 33 = .ok (.aload_n 1, 1) := by decide +kernel
theorem dX10_copy_34 : decode cX10_copy 34 = .ok (.getfield 10, 3) := by decide +kernel
theorem dX10_copy_37 : decode cX10_copy 37 = .ok (.putfield 10, 3) := by decide +kernel
theorem dX10_copy_40 : decode cX10_copy 40 = .ok (.aload_n 0, 1) := by decide +kernel
theorem dX10_copy_41 : decode cX10_copy 41 = .ok (.aload_n 1, 1) := by decide +kernel
theorem dX10_copy_42 : decode cX10_copy 42 = .ok (.getfield 16, 3) := by decide +kernel
theorem dX10_copy_45 : decode cX10_copy 45 = .ok (.putfield 16, 3) := by decide +kernel
theorem dX10_copy_48 : decode cX10_copy 48 = .ok (.aload_n 1, 1) := by decide +kernel
theorem dX10_copy_49 : decode cX10_copy 49 = .ok (.getfield 19, 3) := by decide +kernel
theorem dX10_copy_52 : decode cX10_copy 52 = .ok (.iconst 0, 1) := by decide +kernel
theorem dX10_copy_53 : decode cX10_copy 53 = .ok (.aload_n 0, 1) := by decide +kernel
theorem dX10_copy_54 : decode cX10_copy 54 = .ok (.getfield 19, 3) := by decide +kernel
theorem dX10_copy_57 : decode cX10_copy 57 = .ok (.iconst 0, 1) := by decide +kernel
theorem dX10_copy_58 : decode cX10_copy 58 = .ok (.bipush 10, 2) := by decide +kernel
theorem dX10_copy_60 : decode cX10_copy 60 = .ok (.invokestatic 75, 3) := by decide +kernel
theorem dX10_copy_63 : decode cX10_copy 63 = .ok (.aload_n 1, 1) := by decide +kernel
theorem dX10_copy_64 : decode cX10_copy 64 = .ok (.getfield 23, 3) := by decide +kernel
theorem dX10_copy_67 : decode cX10_copy 67 = .ok (.iconst 0, 1) := by decide +kernel
theorem dX10_copy_68 : decode cX10_copy 68 = .ok (.aload_n 0, 1) := by decide +kernel
theorem dX10_copy_69 : decode cX10_copy 69 = .ok (.getfield 23, 3) := by decide +kernel
theorem dX10_copy_72 : decode cX10_copy 72 = .ok (.iconst 0, 1) := by decide +kernel
theorem dX10_copy_73 : decode cX10_copy 73 = .ok (.bipush 6, 2) := by decide +kernel
theorem dX10_copy_75 : decode cX10_copy 75 = .ok (.invokestatic 75, 3) := by decide +kernel
theorem dX10_copy_78 : decode cX10_copy 78 = .ok (.aload_n 1, 1) := by decide +kernel
theorem dX10_copy_79 : decode cX10_copy 79 = .ok (.getfield 26, 3) := by decide +kernel
theorem dX10_copy_82 : decode cX10_copy 82 = .ok (.iconst 0, 1) := by decide +kernel
theorem dX10_copy_83 : decode cX10_copy 83 = .ok (.aload_n 0, 1) := by decide +kernel
theorem dX10_copy_84 : decode cX10_copy 84 = .ok (.getfield 26, 3) := by decide +kernel
theorem dX10_copy_87 : decode cX10_copy 87 = .ok (.iconst 0, 1) := by decide +kernel
theorem dX10_copy_88 : decode cX10_copy 88 = .ok (.bipush 24, 2) := by decide +kernel
theorem dX10_copy_90 : decode cX10_copy 90 = .ok (.invokestatic 75, 3) := by decide +kernel
theorem dX10_copy_93 : decode cX10_copy 93 = .ok (.aload_n 1, 1) := by decide +kernel
theorem dX10_copy_94 : decode cX10_copy 94 = .ok (.getfield 29, 3) := by decide +kernel
theorem dX10_copy_97 : decode cX10_copy 97 = .ok (.iconst 0, 1) := by decide +kernel
theorem dX10_copy_98 : decode cX10_copy 98 = .ok (.aload_n 0, 1) := by decide +kernel
theorem dX10_copy_99 : decode cX10_copy 99 = .ok (.getfield 29, 3) := by decide +kernel
theorem dX10_copy_102 : decode cX10_copy 102 = .ok (.iconst 0, 1) := by decide +kernel
theorem dX10_copy_103 : decode cX10_copy 103 = .ok (.bipush 24, 2) := by decide +kernel
theorem dX10_copy_105 : decode cX10_copy 105 = .ok (.invokestatic 75, 3) := by decide +kernel
theorem dX10_copy_108 : decode cX10_copy 108 = .ok (.aload_n 1, 1) := by decide +kernel
theorem dX10_copy_109 : decode cX10_copy 109 = .ok (.getfield 33, 3) := by decide +kernel
theorem dX10_copy_112 : decode cX10_copy 112 = .ok (.iconst 0, 1) := by decide +kernel
theorem dX10_copy_113 : decode cX10_copy 113 = .ok (.aload_n 0, 1) := by decide +kernel
theorem dX10_copy_114 : decode cX10_copy 114 = .ok (.getfield 33, 3) := by decide +kernel
theorem dX10_copy_117 : decode cX10_copy 117 = .ok (.iconst 0, 1) := by decide +kernel
theorem dX10_copy_118 : decode cX10_copy 118 = .ok (.bipush 24, 2) := by decide +kernel
theorem dX10_copy_120 : decode cX10_copy 120 = .ok (.invokestatic 75, 3) := by decide +kernel
theorem dX10_copy_123 : decode cX10_copy 123 = .ok (.aload_n 1, 1) := by decide +kernel
theorem dX10_copy_124 : decode cX10_copy 124 = .ok (.getfield 36, 3) := by decide +kernel
theorem dX10_copy_127 : decode cX10_copy 127 = .ok (.iconst 0, 1) := by decide +kernel
theorem dX10_copy_128 : decode cX10_copy 128 = .ok (.aload_n 0, 1) := by decide +kernel
theorem dX10_copy_129 : decode cX10_copy 129 = .ok (.getfield 36, 3) := by decide +kernel
theorem dX10_copy_132 : decode cX10_copy 132 = .ok (.iconst 0, 1) := by decide +kernel
theorem dX10_copy_133 : decode cX10_copy 133 = .ok (.bipush 24, 2) := by decide +kernel
theorem dX10_copy_135 : decode cX10_copy 135 = .ok (.invokestatic 75, 3) := by decide +kernel
theorem dX10_copy_138 : decode cX10_copy 138 = .ok (.aload_n 1, 1) := by decide +kernel
theorem dX10_copy_139 : decode cX10_copy 139 = .ok (.getfield 39, 3) := by decide +kernel
theorem dX10_copy_142 : decode cX10_copy 142 = .ok (.iconst 0, 1) := by decide +kernel
theorem dX10_copy_143 : decode cX10_copy 143 = .ok (.aload_n 0, 1) := by decide +kernel
theorem dX10_copy_144 : decode cX10_copy 144 = .ok (.getfield 39, 3) := by decide +kernel
theorem dX10_copy_147 : decode cX10_copy 147 = .ok (.iconst 0, 1) := by decide +kernel
theorem dX10_copy_148 : decode cX10_copy 148 = .ok (.bipush 24, 2) := by decide +kernel
theorem dX10_copy_150 : decode cX10_copy 150 = .ok (.invokestatic 75, 3) := by decide +kernel
theorem dX10_copy_153 : decode cX10_copy 153 = .ok (.aload_n 1, 1) := by decide +kernel
theorem dX10_copy_154 : decode cX10_copy 154 = .ok (.getfield 42, 3) := by decide +kernel
theorem dX10_copy_157 : decode cX10_copy 157 = .ok (.iconst 0, 1) := by decide +kernel
theorem dX10_copy_158 : decode cX10_copy 158 = .ok (.aload_n 0, 1) := by decide +kernel
theorem dX10_copy_159 : decode cX10_copy 159 = .ok (.getfield 42, 3) := by decide +kernel
theorem dX10_copy_162 : decode cX10_copy 162 = .ok (.iconst 0, 1) := by decide +kernel
theorem dX10_copy_163 : decode cX10_copy 163 = .ok (.bipush 24, 2) := by decide +kernel
theorem dX10_copy_165 : decode cX10_copy 165 = .ok (.invokestatic 75, 3) := by decide +kernel
theorem dX10_copy_168 : decode cX10_copy 168 = .ok (.aload_n 1, 1) := by decide +kernel
theorem dX10_copy_169 : decode cX10_copy 169 = .ok (.getfield 45, 3) := by decide +kernel
theorem dX10_copy_172 : decode cX10_copy 172 = .ok (.iconst 0, 1) := by decide +kernel
theorem dX10_copy_173 : decode cX10_copy 173 = .ok (.aload_n 0, 1) := by decide +kernel
theorem dX10_copy_174 : decode cX10_copy 174 = .ok (.getfield 45, 3) := by decide +kernel
theorem dX10_copy_177 : decode cX10_copy 177 = .ok (.iconst 0, 1) := by decide +kernel
theorem dX10_copy_178 : decode cX10_copy 178 = .ok (.bipush 24, 2) := by decide +kernel
theorem dX10_copy_180 : decode cX10_copy 180 = .ok (.invokestatic 75, 3) := by decide +kernel
theorem dX10_copy_183 : decode cX10_copy 183 = .ok (.aload_n 1, 1) := by decide +kernel
theorem dX10_copy_184 : decode cX10_copy 184 = .ok (.getfield 48, 3) := by decide +kernel
theorem dX10_copy_187 : decode cX10_copy 187 = .ok (.iconst 0, 1) := by decide +kernel
theorem dX10_copy_188 : decode cX10_copy 188 = .ok (.aload_n 0, 1) := by decide +kernel
theorem dX10_copy_189 : decode cX10_copy 189 = .ok (.getfield 48, 3) := by decide +kernel
theorem dX10_copy_192 : decode cX10_copy 192 = .ok (.iconst 0, 1) := by decide +kernel
theorem dX10_copy_193 : decode cX10_copy 193 = .ok (.bipush 96, 2) := by decide +kernel
theorem dX10_copy_195 : decode cX10_copy 195 = .ok (.invokestatic 75, 3) := by decide +kernel
theorem dX10_copy_198 : decode cX10_copy 198 = .ok (.aload_n 1, 1) := by decide +kernel
theorem dX10_copy_199 : decode cX10_copy 199 = .ok (.getfield 51, 3) := by decide +kernel
theorem dX10_copy_202 : decode cX10_copy 202 = .ok (.iconst 0, 1) := by decide +kernel
theorem dX10_copy_203 : decode cX10_copy 203 = .ok (.aload_n 0, 1) := by decide +kernel
theorem dX10_copy_204 : decode cX10_copy 204 = .ok (.getfield 51, 3) := by decide +kernel
theorem dX10_copy_207 : decode cX10_copy 207 = .ok (.iconst 0, 1) := by decide +kernel
theorem dX10_copy_208 : decode cX10_copy 208 = .ok (.sipush 144, 3) := by decide +kernel
theorem dX10_copy_211 : decode cX10_copy 211 = .ok (.invokestatic 75, 3) := by decide +kernel
theorem dX10_copy_214 : decode cX10_copy 214 = .ok (.aload_n 1, 1) := by decide +kernel
theorem dX10_copy_215 : decode cX10_copy 215 = .ok (.getfield 54, 3) := by decide +kernel
theorem dX10_copy_218 : decode cX10_copy 218 = .ok (.iconst 0, 1) := by decide +kernel
theorem dX10_copy_219 : decode cX10_copy 219 = .ok (.aload_n 0, 1) := by decide +kernel
theorem dX10_copy_220 : decode cX10_copy 220 = .ok (.getfield 54, 3) := by decide +kernel
theorem dX10_copy_223 : decode cX10_copy 223 = .ok (.iconst 0, 1) := by decide +kernel
theorem dX10_copy_224 : decode cX10_copy 224 = .ok (.bipush 10, 2) := by decide +kernel
theorem dX10_copy_226 : decode cX10_copy 226 = .ok (.invokestatic 75, 3) := by decide +kernel
theorem dX10_copy_229 : decode cX10_copy 229 = .ok (.aload_n 1, 1) := by decide +kernel
theorem dX10_copy_230 : decode cX10_copy 230 = .ok (.getfield 57, 3) := by decide +kernel
theorem dX10_copy_233 : decode cX10_copy 233 = .ok (.iconst 0, 1) := by decide +kernel
theorem dX10_copy_234 : decode cX10_copy 234 = .ok (.aload_n 0, 1) := by decide +kernel
theorem dX10_copy_235 : decode cX10_copy 235 = .ok (.getfield 57, 3) := by decide +kernel
theorem dX10_copy_238 : decode cX10_copy 238 = .ok (.iconst 0, 1) := by decide +kernel
theorem dX10_copy_239 : decode cX10_copy 239 = .ok (.bipush 10, 2) := by decide +kernel
theorem dX10_copy_241 : decode cX10_copy 241 = .ok (.invokestatic 75, 3) := by decide +kernel
theorem dX10_copy_244 : decode cX10_copy 244 = .ok (.aload_n 1, 1) := by decide +kernel
theorem dX10_copy_245 : decode cX10_copy 245 = .ok (.getfield 60, 3) := by decide +kernel
theorem dX10_copy_248 : decode cX10_copy 248 = .ok (.iconst 0, 1) := by decide +kernel
theorem dX10_copy_249 : decode cX10_copy 249 = .ok (.aload_n 0, 1) := by decide +kernel
theorem dX10_copy_250 : decode cX10_copy 250 = .ok (.getfield 60, 3) := by decide +kernel
theorem dX10_copy_253 : decode cX10_copy 253 = .ok (.iconst 0, 1) := by decide +kernel
theorem dX10_copy_254 : decode cX10_copy 254 = .ok (.bipush 10, 2) := by decide +kernel
theorem dX10_copy_256 : decode cX10_copy 256 = .ok (.invokestatic 75, 3) := by decide +kernel
theorem dX10_copy_259 : decode cX10_copy 259 = .ok (.return_, 1) := by decide +kernel
def X10_copy_b48  (x0 : Nat) (x1 : Nat) (u : gM) : Option gM :=
(if isO skC x1 10 = true then (if isO skC x0 10 = true then ((cpJ skC u (rf skC x1 6) 0 (rf skC x0 6) 0 10).bind fun u60 => ((cpJ skC u60 (rf skC x1 7) 0 (rf skC x0 7) 0 6).bind fun u75 => ((cpJ skC u75 (rf skC x1 8) 0 (rf skC x0 8) 0 24).bind fun u90 => ((cpI skC u90 (rf skC x1 9) 0 (rf skC x0 9) 0 24).bind fun u105 => ((cpI skC u105 (rf skC x1 10) 0 (rf skC x0 10) 0 24).bind fun u120 => ((cpI skC u120 (rf skC x1 11) 0 (rf skC x0 11) 0 24).bind fun u135 => ((cpI skC u135 (rf skC x1 12) 0 (rf skC x0 12) 0 24).bind fun u150 => ((cpI skC u150 (rf skC x1 13) 0 (rf skC x0 13) 0 24).bind fun u165 => ((cpI skC u165 (rf skC x1 14) 0 (rf skC x0 14) 0 24).bind fun u180 => ((cpI skC u180 (rf skC x1 15) 0 (rf skC x0 15) 0 96).bind fun u195 => ((cpJ skC u195 (rf skC x1 16) 0 (rf skC x0 16) 0 144).bind fun u211 => ((cpI skC u211 (rf skC x1 17) 0 (rf skC x0 17) 0 10).bind fun u226 => ((cpI skC u226 (rf skC x1 18) 0 (rf skC x0 18) 0 10).bind fun u241 => ((cpI skC u241 (rf skC x1 19) 0 (rf skC x0 19) 0 10).bind fun u256 => some u256))))))))))))))
 else none)
 else none)
def X10_copy_b32  (x0 : Nat) (x1 : Nat) (u : gM) : Option gM :=
(if isO skC x1 10 = true then (if isO skC x0 10 = true then (X10_copy_b48 x0 x1 (upI (upI u x0 4 (u.1 x1 4)) x0 5 ((upI u x0 4 (u.1 x1 4)).1 x1 5)))
 else none)
 else none)
def X10_copy_b16  (x0 : Nat) (x1 : Nat) (u : gM) : Option gM :=
(if isO skC x1 10 = true then (if isO skC x0 10 = true then (X10_copy_b32 x0 x1 (upI (upI u x0 2 (u.1 x1 2)) x0 3 ((upI u x0 2 (u.1 x1 2)).1 x1 3)))
 else none)
 else none)
def X10_copy  (x0 : Nat) (x1 : Nat) (u : gM) : Option gM :=
(if isO skC x1 10 = true then (if isO skC x0 10 = true then (X10_copy_b16 x0 x1 (upI (upI u x0 0 (u.1 x1 0)) x0 1 ((upI u x0 0 (u.1 x1 0)).1 x1 1)))
 else none)
 else none)
set_option maxRecDepth 20000 in
theorem v_X10_copy_b48 {κ : gK} {B : Nat} {u : gM} (X : gX κ B skC cX10_copy 2 RX10 none 1 26)   {x0 : Nat} {x1 : Nat} {w : gM} (hM : X10_copy_b48 x0 x1 u = some w) : gV κ B skC 2 ((none), w) 48 [some (.ref (B + x0)), some (.ref (B + x1))] [] u := by
  unfold X10_copy_b48 at hM
  refine g_aload_n X dX10_copy_48 rfl ?_
  obtain ⟨o0, hM⟩ := ite_of hM
  refine g_getR X fX10_19 (sh_X10 o0) rfl dX10_copy_49 ?_
  refine g_iconst X (v := 0) dX10_copy_52 (by decide) ?_
  refine g_aload_n X dX10_copy_53 rfl ?_
  obtain ⟨o1, hM⟩ := ite_of hM
  refine g_getR X fX10_19 (sh_X10 o1) rfl dX10_copy_54 ?_
  refine g_iconst X (v := 0) dX10_copy_57 (by decide) ?_
  refine g_bipush X (v := 10) dX10_copy_58 (by decide) ?_
  obtain ⟨u60, e60, hM⟩ := bind_of hM
  refine g_copyJ X m_21_19 e60 ⟨by decide, by decide⟩ dX10_copy_60 ?_
  refine g_aload_n X dX10_copy_63 rfl ?_
  refine g_getR X fX10_23 (sh_X10 o0) rfl dX10_copy_64 ?_
  refine g_iconst X (v := 0) dX10_copy_67 (by decide) ?_
  refine g_aload_n X dX10_copy_68 rfl ?_
  refine g_getR X fX10_23 (sh_X10 o1) rfl dX10_copy_69 ?_
  refine g_iconst X (v := 0) dX10_copy_72 (by decide) ?_
  refine g_bipush X (v := 6) dX10_copy_73 (by decide) ?_
  obtain ⟨u75, e75, hM⟩ := bind_of hM
  refine g_copyJ X m_21_19 e75 ⟨by decide, by decide⟩ dX10_copy_75 ?_
  refine g_aload_n X dX10_copy_78 rfl ?_
  refine g_getR X fX10_26 (sh_X10 o0) rfl dX10_copy_79 ?_
  refine g_iconst X (v := 0) dX10_copy_82 (by decide) ?_
  refine g_aload_n X dX10_copy_83 rfl ?_
  refine g_getR X fX10_26 (sh_X10 o1) rfl dX10_copy_84 ?_
  refine g_iconst X (v := 0) dX10_copy_87 (by decide) ?_
  refine g_bipush X (v := 24) dX10_copy_88 (by decide) ?_
  obtain ⟨u90, e90, hM⟩ := bind_of hM
  refine g_copyJ X m_21_19 e90 ⟨by decide, by decide⟩ dX10_copy_90 ?_
  refine g_aload_n X dX10_copy_93 rfl ?_
  refine g_getR X fX10_29 (sh_X10 o0) rfl dX10_copy_94 ?_
  refine g_iconst X (v := 0) dX10_copy_97 (by decide) ?_
  refine g_aload_n X dX10_copy_98 rfl ?_
  refine g_getR X fX10_29 (sh_X10 o1) rfl dX10_copy_99 ?_
  refine g_iconst X (v := 0) dX10_copy_102 (by decide) ?_
  refine g_bipush X (v := 24) dX10_copy_103 (by decide) ?_
  obtain ⟨u105, e105, hM⟩ := bind_of hM
  refine g_copyI X m_21_19 e105 ⟨by decide, by decide⟩ dX10_copy_105 ?_
  refine g_aload_n X dX10_copy_108 rfl ?_
  refine g_getR X fX10_33 (sh_X10 o0) rfl dX10_copy_109 ?_
  refine g_iconst X (v := 0) dX10_copy_112 (by decide) ?_
  refine g_aload_n X dX10_copy_113 rfl ?_
  refine g_getR X fX10_33 (sh_X10 o1) rfl dX10_copy_114 ?_
  refine g_iconst X (v := 0) dX10_copy_117 (by decide) ?_
  refine g_bipush X (v := 24) dX10_copy_118 (by decide) ?_
  obtain ⟨u120, e120, hM⟩ := bind_of hM
  refine g_copyI X m_21_19 e120 ⟨by decide, by decide⟩ dX10_copy_120 ?_
  refine g_aload_n X dX10_copy_123 rfl ?_
  refine g_getR X fX10_36 (sh_X10 o0) rfl dX10_copy_124 ?_
  refine g_iconst X (v := 0) dX10_copy_127 (by decide) ?_
  refine g_aload_n X dX10_copy_128 rfl ?_
  refine g_getR X fX10_36 (sh_X10 o1) rfl dX10_copy_129 ?_
  refine g_iconst X (v := 0) dX10_copy_132 (by decide) ?_
  refine g_bipush X (v := 24) dX10_copy_133 (by decide) ?_
  obtain ⟨u135, e135, hM⟩ := bind_of hM
  refine g_copyI X m_21_19 e135 ⟨by decide, by decide⟩ dX10_copy_135 ?_
  refine g_aload_n X dX10_copy_138 rfl ?_
  refine g_getR X fX10_39 (sh_X10 o0) rfl dX10_copy_139 ?_
  refine g_iconst X (v := 0) dX10_copy_142 (by decide) ?_
  refine g_aload_n X dX10_copy_143 rfl ?_
  refine g_getR X fX10_39 (sh_X10 o1) rfl dX10_copy_144 ?_
  refine g_iconst X (v := 0) dX10_copy_147 (by decide) ?_
  refine g_bipush X (v := 24) dX10_copy_148 (by decide) ?_
  obtain ⟨u150, e150, hM⟩ := bind_of hM
  refine g_copyI X m_21_19 e150 ⟨by decide, by decide⟩ dX10_copy_150 ?_
  refine g_aload_n X dX10_copy_153 rfl ?_
  refine g_getR X fX10_42 (sh_X10 o0) rfl dX10_copy_154 ?_
  refine g_iconst X (v := 0) dX10_copy_157 (by decide) ?_
  refine g_aload_n X dX10_copy_158 rfl ?_
  refine g_getR X fX10_42 (sh_X10 o1) rfl dX10_copy_159 ?_
  refine g_iconst X (v := 0) dX10_copy_162 (by decide) ?_
  refine g_bipush X (v := 24) dX10_copy_163 (by decide) ?_
  obtain ⟨u165, e165, hM⟩ := bind_of hM
  refine g_copyI X m_21_19 e165 ⟨by decide, by decide⟩ dX10_copy_165 ?_
  refine g_aload_n X dX10_copy_168 rfl ?_
  refine g_getR X fX10_45 (sh_X10 o0) rfl dX10_copy_169 ?_
  refine g_iconst X (v := 0) dX10_copy_172 (by decide) ?_
  refine g_aload_n X dX10_copy_173 rfl ?_
  refine g_getR X fX10_45 (sh_X10 o1) rfl dX10_copy_174 ?_
  refine g_iconst X (v := 0) dX10_copy_177 (by decide) ?_
  refine g_bipush X (v := 24) dX10_copy_178 (by decide) ?_
  obtain ⟨u180, e180, hM⟩ := bind_of hM
  refine g_copyI X m_21_19 e180 ⟨by decide, by decide⟩ dX10_copy_180 ?_
  refine g_aload_n X dX10_copy_183 rfl ?_
  refine g_getR X fX10_48 (sh_X10 o0) rfl dX10_copy_184 ?_
  refine g_iconst X (v := 0) dX10_copy_187 (by decide) ?_
  refine g_aload_n X dX10_copy_188 rfl ?_
  refine g_getR X fX10_48 (sh_X10 o1) rfl dX10_copy_189 ?_
  refine g_iconst X (v := 0) dX10_copy_192 (by decide) ?_
  refine g_bipush X (v := 96) dX10_copy_193 (by decide) ?_
  obtain ⟨u195, e195, hM⟩ := bind_of hM
  refine g_copyI X m_21_19 e195 ⟨by decide, by decide⟩ dX10_copy_195 ?_
  refine g_aload_n X dX10_copy_198 rfl ?_
  refine g_getR X fX10_51 (sh_X10 o0) rfl dX10_copy_199 ?_
  refine g_iconst X (v := 0) dX10_copy_202 (by decide) ?_
  refine g_aload_n X dX10_copy_203 rfl ?_
  refine g_getR X fX10_51 (sh_X10 o1) rfl dX10_copy_204 ?_
  refine g_iconst X (v := 0) dX10_copy_207 (by decide) ?_
  refine g_sipush X (v := 144) dX10_copy_208 (by decide) ?_
  obtain ⟨u211, e211, hM⟩ := bind_of hM
  refine g_copyJ X m_21_19 e211 ⟨by decide, by decide⟩ dX10_copy_211 ?_
  refine g_aload_n X dX10_copy_214 rfl ?_
  refine g_getR X fX10_54 (sh_X10 o0) rfl dX10_copy_215 ?_
  refine g_iconst X (v := 0) dX10_copy_218 (by decide) ?_
  refine g_aload_n X dX10_copy_219 rfl ?_
  refine g_getR X fX10_54 (sh_X10 o1) rfl dX10_copy_220 ?_
  refine g_iconst X (v := 0) dX10_copy_223 (by decide) ?_
  refine g_bipush X (v := 10) dX10_copy_224 (by decide) ?_
  obtain ⟨u226, e226, hM⟩ := bind_of hM
  refine g_copyI X m_21_19 e226 ⟨by decide, by decide⟩ dX10_copy_226 ?_
  refine g_aload_n X dX10_copy_229 rfl ?_
  refine g_getR X fX10_57 (sh_X10 o0) rfl dX10_copy_230 ?_
  refine g_iconst X (v := 0) dX10_copy_233 (by decide) ?_
  refine g_aload_n X dX10_copy_234 rfl ?_
  refine g_getR X fX10_57 (sh_X10 o1) rfl dX10_copy_235 ?_
  refine g_iconst X (v := 0) dX10_copy_238 (by decide) ?_
  refine g_bipush X (v := 10) dX10_copy_239 (by decide) ?_
  obtain ⟨u241, e241, hM⟩ := bind_of hM
  refine g_copyI X m_21_19 e241 ⟨by decide, by decide⟩ dX10_copy_241 ?_
  refine g_aload_n X dX10_copy_244 rfl ?_
  refine g_getR X fX10_60 (sh_X10 o0) rfl dX10_copy_245 ?_
  refine g_iconst X (v := 0) dX10_copy_248 (by decide) ?_
  refine g_aload_n X dX10_copy_249 rfl ?_
  refine g_getR X fX10_60 (sh_X10 o1) rfl dX10_copy_250 ?_
  refine g_iconst X (v := 0) dX10_copy_253 (by decide) ?_
  refine g_bipush X (v := 10) dX10_copy_254 (by decide) ?_
  obtain ⟨u256, e256, hM⟩ := bind_of hM
  refine g_copyI X m_21_19 e256 ⟨by decide, by decide⟩ dX10_copy_256 ?_
  cases hM
  exact g_vret X dX10_copy_259
set_option maxRecDepth 20000 in
theorem v_X10_copy_b32 {κ : gK} {B : Nat} {u : gM} (X : gX κ B skC cX10_copy 2 RX10 none 1 26)   {x0 : Nat} {x1 : Nat} {w : gM} (hM : X10_copy_b32 x0 x1 u = some w) : gV κ B skC 2 ((none), w) 32 [some (.ref (B + x0)), some (.ref (B + x1))] [] u := by
  unfold X10_copy_b32 at hM
  refine g_aload_n X dX10_copy_32 rfl ?_
  refine g_aload_n X dX10_copy_33 rfl ?_
  obtain ⟨o0, hM⟩ := ite_of hM
  refine g_getI X fX10_10 (sh_X10 o0) rfl dX10_copy_34 ?_
  obtain ⟨o1, hM⟩ := ite_of hM
  refine g_putI X fX10_10 gc_X10 gp_X10_4 (sh_X10 o1) rfl dX10_copy_37 ?_
  refine g_aload_n X dX10_copy_40 rfl ?_
  refine g_aload_n X dX10_copy_41 rfl ?_
  refine g_getI X fX10_16 (sh_X10 o0) rfl dX10_copy_42 ?_
  refine g_putI X fX10_16 gc_X10 gp_X10_5 (sh_X10 o1) rfl dX10_copy_45 ?_
  refine g_mk [true, true] [some (.ref (B + x0)), some (.ref (B + x1))] rfl ?_
  exact v_X10_copy_b48 X  hM
set_option maxRecDepth 20000 in
theorem v_X10_copy_b16 {κ : gK} {B : Nat} {u : gM} (X : gX κ B skC cX10_copy 2 RX10 none 1 26)   {x0 : Nat} {x1 : Nat} {w : gM} (hM : X10_copy_b16 x0 x1 u = some w) : gV κ B skC 2 ((none), w) 16 [some (.ref (B + x0)), some (.ref (B + x1))] [] u := by
  unfold X10_copy_b16 at hM
  refine g_aload_n X dX10_copy_16 rfl ?_
  refine g_aload_n X dX10_copy_17 rfl ?_
  obtain ⟨o0, hM⟩ := ite_of hM
  refine g_getI X fX10_69 (sh_X10 o0) rfl dX10_copy_18 ?_
  obtain ⟨o1, hM⟩ := ite_of hM
  refine g_putI X fX10_69 gc_X10 gp_X10_2 (sh_X10 o1) rfl dX10_copy_21 ?_
  refine g_aload_n X dX10_copy_24 rfl ?_
  refine g_aload_n X dX10_copy_25 rfl ?_
  refine g_getI X fX10_72 (sh_X10 o0) rfl dX10_copy_26 ?_
  refine g_putI X fX10_72 gc_X10 gp_X10_3 (sh_X10 o1) rfl dX10_copy_29 ?_
  refine g_mk [true, true] [some (.ref (B + x0)), some (.ref (B + x1))] rfl ?_
  exact v_X10_copy_b32 X  hM
set_option maxRecDepth 20000 in
theorem v_X10_copy {κ : gK} {B : Nat} {u : gM} (X : gX κ B skC cX10_copy 2 RX10 none 1 26)   {x0 : Nat} {x1 : Nat} {w : gM} (hM : X10_copy x0 x1 u = some w) : gV κ B skC 2 ((none), w) 0 [some (.ref (B + x0)), some (.ref (B + x1))] [] u := by
  unfold X10_copy at hM
  refine g_aload_n X dX10_copy_0 rfl ?_
  refine g_aload_n X dX10_copy_1 rfl ?_
  obtain ⟨o0, hM⟩ := ite_of hM
  refine g_getI X fX10_63 (sh_X10 o0) rfl dX10_copy_2 ?_
  obtain ⟨o1, hM⟩ := ite_of hM
  refine g_putI X fX10_63 gc_X10 gp_X10_0 (sh_X10 o1) rfl dX10_copy_5 ?_
  refine g_aload_n X dX10_copy_8 rfl ?_
  refine g_aload_n X dX10_copy_9 rfl ?_
  refine g_getI X fX10_66 (sh_X10 o0) rfl dX10_copy_10 ?_
  refine g_putI X fX10_66 gc_X10 gp_X10_1 (sh_X10 o1) rfl dX10_copy_13 ?_
  refine g_mk [true, true] [some (.ref (B + x0)), some (.ref (B + x1))] rfl ?_
  exact v_X10_copy_b16 X  hM
theorem s_X10_copy {x0 : Nat} {x1 : Nat} {u : gM} {w : gM} (hM : X10_copy x0 x1 u = some w) : gMet skC yX10_copy cX10_copy 2 none 1 26 (fun B adK => [.ref (B + x0), .ref (B + x1)]) u ((fun _ => none), w) := by
  refine gMet.of (by decide) (fun _ _ => Nat.le_of_ble_eq_true rfl) (fun κ B X => ?_)
  have X : gX κ B skC cX10_copy 2 RX10 none 1 26 := X
  refine g_mk [true, true] [some (.ref (B + x0)), some (.ref (B + x1))] rfl ?_
  exact v_X10_copy X  hM
theorem fr_X10_copy_b48 {S : Nat → Prop} {u0 u : gM} {x0 : Nat} {x1 : Nat} (hs0 : S (rf skC x0 10)) (hs1 : S (rf skC x0 11)) (hs2 : S (rf skC x0 12)) (hs3 : S (rf skC x0 13)) (hs4 : S (rf skC x0 14)) (hs5 : S (rf skC x0 15)) (hs6 : S (rf skC x0 16)) (hs7 : S (rf skC x0 17)) (hs8 : S (rf skC x0 18)) (hs9 : S (rf skC x0 19)) (hs10 : S (rf skC x0 6)) (hs11 : S (rf skC x0 7)) (hs12 : S (rf skC x0 8)) (hs13 : S (rf skC x0 9))   {w : gM} (hM : X10_copy_b48 x0 x1 u = some w) (h0 : off S u0 u) : off S u0 w := by
  unfold X10_copy_b48 at hM
  obtain ⟨o0, hM⟩ := ite_of hM
  obtain ⟨o1, hM⟩ := ite_of hM
  obtain ⟨u60, e60, hM⟩ := bind_of hM
  have h0 := off_cpJ hs10 e60 h0
  obtain ⟨u75, e75, hM⟩ := bind_of hM
  have h0 := off_cpJ hs11 e75 h0
  obtain ⟨u90, e90, hM⟩ := bind_of hM
  have h0 := off_cpJ hs12 e90 h0
  obtain ⟨u105, e105, hM⟩ := bind_of hM
  have h0 := off_cpI hs13 e105 h0
  obtain ⟨u120, e120, hM⟩ := bind_of hM
  have h0 := off_cpI hs0 e120 h0
  obtain ⟨u135, e135, hM⟩ := bind_of hM
  have h0 := off_cpI hs1 e135 h0
  obtain ⟨u150, e150, hM⟩ := bind_of hM
  have h0 := off_cpI hs2 e150 h0
  obtain ⟨u165, e165, hM⟩ := bind_of hM
  have h0 := off_cpI hs3 e165 h0
  obtain ⟨u180, e180, hM⟩ := bind_of hM
  have h0 := off_cpI hs4 e180 h0
  obtain ⟨u195, e195, hM⟩ := bind_of hM
  have h0 := off_cpI hs5 e195 h0
  obtain ⟨u211, e211, hM⟩ := bind_of hM
  have h0 := off_cpJ hs6 e211 h0
  obtain ⟨u226, e226, hM⟩ := bind_of hM
  have h0 := off_cpI hs7 e226 h0
  obtain ⟨u241, e241, hM⟩ := bind_of hM
  have h0 := off_cpI hs8 e241 h0
  obtain ⟨u256, e256, hM⟩ := bind_of hM
  have h0 := off_cpI hs9 e256 h0
  cases hM
  exact h0
theorem fr_X10_copy_b32 {S : Nat → Prop} {u0 u : gM} {x0 : Nat} {x1 : Nat} (hs0 : S (rf skC x0 10)) (hs1 : S (rf skC x0 11)) (hs2 : S (rf skC x0 12)) (hs3 : S (rf skC x0 13)) (hs4 : S (rf skC x0 14)) (hs5 : S (rf skC x0 15)) (hs6 : S (rf skC x0 16)) (hs7 : S (rf skC x0 17)) (hs8 : S (rf skC x0 18)) (hs9 : S (rf skC x0 19)) (hs10 : S (rf skC x0 6)) (hs11 : S (rf skC x0 7)) (hs12 : S (rf skC x0 8)) (hs13 : S (rf skC x0 9)) (hs14 : S x0)   {w : gM} (hM : X10_copy_b32 x0 x1 u = some w) (h0 : off S u0 u) : off S u0 w := by
  unfold X10_copy_b32 at hM
  obtain ⟨o0, hM⟩ := ite_of hM
  obtain ⟨o1, hM⟩ := ite_of hM
  have h0 := off_upI (u := u) (k := x0) (j := 4) (x := (u.1 x1 4)) hs14 h0
  have h0 := off_upI (u := (upI u x0 4 (u.1 x1 4))) (k := x0) (j := 5) (x := ((upI u x0 4 (u.1 x1 4)).1 x1 5)) hs14 h0
  exact fr_X10_copy_b48 hs0 hs1 hs2 hs3 hs4 hs5 hs6 hs7 hs8 hs9 hs10 hs11 hs12 hs13  hM h0
theorem fr_X10_copy_b16 {S : Nat → Prop} {u0 u : gM} {x0 : Nat} {x1 : Nat} (hs0 : S (rf skC x0 10)) (hs1 : S (rf skC x0 11)) (hs2 : S (rf skC x0 12)) (hs3 : S (rf skC x0 13)) (hs4 : S (rf skC x0 14)) (hs5 : S (rf skC x0 15)) (hs6 : S (rf skC x0 16)) (hs7 : S (rf skC x0 17)) (hs8 : S (rf skC x0 18)) (hs9 : S (rf skC x0 19)) (hs10 : S (rf skC x0 6)) (hs11 : S (rf skC x0 7)) (hs12 : S (rf skC x0 8)) (hs13 : S (rf skC x0 9)) (hs14 : S x0)   {w : gM} (hM : X10_copy_b16 x0 x1 u = some w) (h0 : off S u0 u) : off S u0 w := by
  unfold X10_copy_b16 at hM
  obtain ⟨o0, hM⟩ := ite_of hM
  obtain ⟨o1, hM⟩ := ite_of hM
  have h0 := off_upI (u := u) (k := x0) (j := 2) (x := (u.1 x1 2)) hs14 h0
  have h0 := off_upI (u := (upI u x0 2 (u.1 x1 2))) (k := x0) (j := 3) (x := ((upI u x0 2 (u.1 x1 2)).1 x1 3)) hs14 h0
  exact fr_X10_copy_b32 hs0 hs1 hs2 hs3 hs4 hs5 hs6 hs7 hs8 hs9 hs10 hs11 hs12 hs13 hs14  hM h0
theorem fr_X10_copy {S : Nat → Prop} {u0 u : gM} {x0 : Nat} {x1 : Nat} (hs0 : S (rf skC x0 10)) (hs1 : S (rf skC x0 11)) (hs2 : S (rf skC x0 12)) (hs3 : S (rf skC x0 13)) (hs4 : S (rf skC x0 14)) (hs5 : S (rf skC x0 15)) (hs6 : S (rf skC x0 16)) (hs7 : S (rf skC x0 17)) (hs8 : S (rf skC x0 18)) (hs9 : S (rf skC x0 19)) (hs10 : S (rf skC x0 6)) (hs11 : S (rf skC x0 7)) (hs12 : S (rf skC x0 8)) (hs13 : S (rf skC x0 9)) (hs14 : S x0)   {w : gM} (hM : X10_copy x0 x1 u = some w) (h0 : off S u0 u) : off S u0 w := by
  unfold X10_copy at hM
  obtain ⟨o0, hM⟩ := ite_of hM
  obtain ⟨o1, hM⟩ := ite_of hM
  have h0 := off_upI (u := u) (k := x0) (j := 0) (x := (u.1 x1 0)) hs14 h0
  have h0 := off_upI (u := (upI u x0 0 (u.1 x1 0))) (k := x0) (j := 1) (x := ((upI u x0 0 (u.1 x1 0)).1 x1 1)) hs14 h0
  exact fr_X10_copy_b16 hs0 hs1 hs2 hs3 hs4 hs5 hs6 hs7 hs8 hs9 hs10 hs11 hs12 hs13 hs14  hM h0
/-! CoverDesk$Failing.clear(I)V -/
theorem dX5_clear_0 : decode cX5_clear 0 = .ok (.aload_n 0, 1) := by decide +kernel
theorem dX5_clear_1 : decode cX5_clear 1 = .ok (.iload_n 1, 1) := by decide +kernel
theorem dX5_clear_2 : decode cX5_clear 2 = .ok (.putfield 9, 3) := by decide +kernel
theorem dX5_clear_5 : decode cX5_clear 5 = .ok (.aload_n 0, 1) := by decide +kernel
theorem dX5_clear_6 : decode cX5_clear 6 = .ok (.lconst 0, 1) := by decide +kernel
theorem dX5_clear_7 : decode cX5_clear 7 = .ok (.putfield 35, 3) := by decide +kernel
theorem dX5_clear_10 : decode cX5_clear 10 = .ok (.aload_n 0, 1) := by decide +kernel
theorem dX5_clear_11 : decode cX5_clear 11 = .ok (.getfield 15, 3) := by decide +kernel
theorem dX5_clear_14 : decode cX5_clear 14 = .ok (.iconst (-1), 1) := by decide +kernel
theorem dX5_clear_15 : decode cX5_clear 15 = .ok (.invokestatic 39, 3) := by decide +kernel
theorem dX5_clear_18 : decode cX5_clear 18 = .ok (.aload_n 0, 1) := by decide +kernel
theorem dX5_clear_19 : decode cX5_clear 19 = .ok (.getfield 19, 3) := by decide +kernel
theorem dX5_clear_22 : decode cX5_clear 22 = .ok (.iconst (-1), 1) := by decide +kernel
theorem dX5_clear_23 : decode cX5_clear 23 = .ok (.invokestatic 39, 3) := by decide +kernel
theorem dX5_clear_26 : decode cX5_clear 26 = .ok (.aload_n 0, 1) := by decide +kernel
theorem dX5_clear_27 : decode cX5_clear 27 = .ok (.getfield 22, 3) := by decide +kernel
theorem dX5_clear_30 : decode cX5_clear 30 = .ok (.iconst (-1), 1) := by decide +kernel
theorem dX5_clear_31 : decode cX5_clear 31 = .ok (.invokestatic 39, 3) := by decide +kernel
theorem dX5_clear_34 : decode cX5_clear 34 = .ok (.aload_n 0, 1) := by decide +kernel
theorem dX5_clear_35 : decode cX5_clear 35 = .ok (.getfield 25, 3) := by decide +kernel
theorem dX5_clear_38 : decode cX5_clear 38 = .ok (.iconst (-1), 1) := by decide +kernel
theorem dX5_clear_39 : decode cX5_clear 39 = .ok (.invokestatic 39, 3) := by decide +kernel
theorem dX5_clear_42 : decode cX5_clear 42 = .ok (.return_, 1) := by decide +kernel
def X5_clear  (x0 : Nat) (x1 : Int32) (u : gM) : Option gM :=
(if isO skC x0 5 = true then ((J7_fill_53178 (rf skC x0 2) (-1) (upJ (upI u x0 0 x1) x0 1 0)).bind fun w15 => ((J7_fill_53178 (rf skC x0 3) (-1) w15).bind fun w23 => ((J7_fill_53178 (rf skC x0 4) (-1) w23).bind fun w31 => ((J7_fill_53178 (rf skC x0 5) (-1) w31).bind fun w39 => some w39))))
 else none)
set_option maxRecDepth 20000 in
theorem v_X5_clear {κ : gK} {B : Nat} {u : gM} (X : gX κ B skC cX5_clear 2 RX5 none 1 23)   {x0 : Nat} {x1 : Int32} {w : gM} (hM : X5_clear x0 x1 u = some w) : gV κ B skC 2 ((none), w) 0 [some (.ref (B + x0)), some (.int x1)] [] u := by
  unfold X5_clear at hM
  refine g_aload_n X dX5_clear_0 rfl ?_
  refine g_iload_n X dX5_clear_1 rfl ?_
  obtain ⟨o0, hM⟩ := ite_of hM
  refine g_putI X fX5_9 gc_X5 gp_X5_0 (sh_X5 o0) rfl dX5_clear_2 ?_
  refine g_aload_n X dX5_clear_5 rfl ?_
  refine g_lconst (v := 0) X dX5_clear_6 (by decide) ?_
  refine g_putJ X fX5_35 gc_X5 gp_X5_1 (sh_X5 o0) rfl dX5_clear_7 ?_
  refine g_aload_n X dX5_clear_10 rfl ?_
  refine g_getR X fX5_15 (sh_X5 o0) rfl dX5_clear_11 ?_
  refine g_iconst X (v := (-1)) dX5_clear_14 (by decide) ?_
  obtain ⟨w15, e15, hM⟩ := bind_of hM
  refine g_callSv X (fun B adK => [.ref (B + (rf skC x0 2)), .int (-1)]) (s_J7_fill_53178 e15) cvX5_39 rfl rfl (Nat.le_of_ble_eq_true rfl) ⟨by decide, by decide⟩ dX5_clear_15 ?_
  refine g_aload_n X dX5_clear_18 rfl ?_
  refine g_getR X fX5_19 (sh_X5 o0) rfl dX5_clear_19 ?_
  refine g_iconst X (v := (-1)) dX5_clear_22 (by decide) ?_
  obtain ⟨w23, e23, hM⟩ := bind_of hM
  refine g_callSv X (fun B adK => [.ref (B + (rf skC x0 3)), .int (-1)]) (s_J7_fill_53178 e23) cvX5_39 rfl rfl (Nat.le_of_ble_eq_true rfl) ⟨by decide, by decide⟩ dX5_clear_23 ?_
  refine g_aload_n X dX5_clear_26 rfl ?_
  refine g_getR X fX5_22 (sh_X5 o0) rfl dX5_clear_27 ?_
  refine g_iconst X (v := (-1)) dX5_clear_30 (by decide) ?_
  obtain ⟨w31, e31, hM⟩ := bind_of hM
  refine g_callSv X (fun B adK => [.ref (B + (rf skC x0 4)), .int (-1)]) (s_J7_fill_53178 e31) cvX5_39 rfl rfl (Nat.le_of_ble_eq_true rfl) ⟨by decide, by decide⟩ dX5_clear_31 ?_
  refine g_aload_n X dX5_clear_34 rfl ?_
  refine g_getR X fX5_25 (sh_X5 o0) rfl dX5_clear_35 ?_
  refine g_iconst X (v := (-1)) dX5_clear_38 (by decide) ?_
  obtain ⟨w39, e39, hM⟩ := bind_of hM
  refine g_callSv X (fun B adK => [.ref (B + (rf skC x0 5)), .int (-1)]) (s_J7_fill_53178 e39) cvX5_39 rfl rfl (Nat.le_of_ble_eq_true rfl) ⟨by decide, by decide⟩ dX5_clear_39 ?_
  cases hM
  exact g_vret X dX5_clear_42
theorem s_X5_clear {x0 : Nat} {x1 : Int32} {u : gM} {w : gM} (hM : X5_clear x0 x1 u = some w) : gMet skC yX5_clear cX5_clear 2 none 1 23 (fun B adK => [.ref (B + x0), .int x1]) u ((fun _ => none), w) := by
  refine gMet.of (by decide) (fun _ _ => Nat.le_of_ble_eq_true rfl) (fun κ B X => ?_)
  have X : gX κ B skC cX5_clear 2 RX5 none 1 23 := X
  refine g_mk [true, true] [some (.ref (B + x0)), some (.int x1)] rfl ?_
  exact v_X5_clear X  hM
theorem fr_X5_clear {S : Nat → Prop} {u0 u : gM} {x0 : Nat} {x1 : Int32} (hs0 : S (rf skC x0 2)) (hs1 : S (rf skC x0 3)) (hs2 : S (rf skC x0 4)) (hs3 : S (rf skC x0 5)) (hs4 : S x0)   {w : gM} (hM : X5_clear x0 x1 u = some w) (h0 : off S u0 u) : off S u0 w := by
  unfold X5_clear at hM
  obtain ⟨o0, hM⟩ := ite_of hM
  have h0 := off_upI (u := u) (k := x0) (j := 0) (x := x1) hs4 h0
  have h0 := off_upJ (u := (upI u x0 0 x1)) (k := x0) (j := 1) (x := 0) hs4 h0
  obtain ⟨w15, e15, hM⟩ := bind_of hM
  have h0 := fr_J7_fill_53178 hs0 e15 h0
  obtain ⟨w23, e23, hM⟩ := bind_of hM
  have h0 := fr_J7_fill_53178 hs1 e23 h0
  obtain ⟨w31, e31, hM⟩ := bind_of hM
  have h0 := fr_J7_fill_53178 hs2 e31 h0
  obtain ⟨w39, e39, hM⟩ := bind_of hM
  have h0 := fr_J7_fill_53178 hs3 e39 h0
  cases hM
  exact h0
/-! CoverDesk$State.open(LCoverDesk$Told;)V -/
theorem dX8_open_0 : decode cX8_open 0 = .ok (.aload_n 0, 1) := by decide +kernel
theorem dX8_open_1 : decode cX8_open 1 = .ok (.iconst 0, 1) := by decide +kernel
theorem dX8_open_2 : decode cX8_open 2 = .ok (.putfield 34, 3) := by decide +kernel
theorem dX8_open_5 : decode cX8_open 5 = .ok (.aload_n 1, 1) := by decide +kernel
theorem dX8_open_6 : decode cX8_open 6 = .ok (.getfield 38, 3) := by decide +kernel
theorem dX8_open_9 : decode cX8_open 9 = .ok (.iconst 0, 1) := by decide +kernel
theorem dX8_open_10 : decode cX8_open 10 = .ok (.aload_n 0, 1) := by decide +kernel
theorem dX8_open_11 : decode cX8_open 11 = .ok (.getfield 9, 3) := by decide +kernel
theorem dX8_open_14 : decode cX8_open 14 = .ok (.iconst 0, 1) := by decide +kernel
theorem dX8_open_15 : decode cX8_open 15 = .ok (.bipush 24, 2) := by decide +kernel
theorem dX8_open_17 : decode cX8_open 17 = .ok (.invokestatic 41, 3) := by decide +kernel
theorem dX8_open_20 : decode cX8_open 20 = .ok (.aload_n 1, 1) := by decide +kernel
theorem dX8_open_21 : decode cX8_open 21 = .ok (.getfield 47, 3) := by decide +kernel
theorem dX8_open_24 : decode cX8_open 24 = .ok (.iconst 0, 1) := by decide +kernel
theorem dX8_open_25 : decode cX8_open 25 = .ok (.aload_n 0, 1) := by decide +kernel
theorem dX8_open_26 : decode cX8_open 26 = .ok (.getfield 15, 3) := by decide +kernel
theorem dX8_open_29 : decode cX8_open 29 = .ok (.iconst 0, 1) := by decide +kernel
theorem dX8_open_30 : decode cX8_open 30 = .ok (.bipush 10, 2) := by decide +kernel
theorem dX8_open_32 : decode cX8_open 32 = .ok (.invokestatic 41, 3) := by decide +kernel
theorem dX8_open_35 : decode cX8_open 35 = .ok (.aload_n 0, 1) := by decide +kernel
theorem dX8_open_36 : decode cX8_open 36 = .ok (.getfield 18, 3) := by decide +kernel
theorem dX8_open_39 : decode cX8_open 39 = .ok (.iconst (-1), 1) := by decide +kernel
theorem dX8_open_40 : decode cX8_open 40 = .ok (.invokestatic 50, 3) := by decide +kernel
theorem dX8_open_43 : decode cX8_open 43 = .ok (.aload_n 0, 1) := by decide +kernel
theorem dX8_open_44 : decode cX8_open 44 = .ok (.getfield 21, 3) := by decide +kernel
theorem dX8_open_47 : decode cX8_open 47 = .ok (.iconst (-1), 1) := by decide +kernel
theorem dX8_open_48 : decode cX8_open 48 = .ok (.invokestatic 50, 3) := by decide +kernel
theorem dX8_open_51 : decode cX8_open 51 = .ok (.aload_n 0, 1) := by decide +kernel
theorem dX8_open_52 : decode cX8_open 52 = .ok (.getfield 24, 3) := by decide +kernel
theorem dX8_open_55 : decode cX8_open 55 = .ok (.iconst 0, 1) := by decide +kernel
theorem dX8_open_56 : decode cX8_open 56 = .ok (.invokestatic 50, 3) := by decide +kernel
theorem dX8_open_59 : decode cX8_open 59 = .ok (.aload_n 0, 1) := by decide +kernel
theorem dX8_open_60 : decode cX8_open 60 = .ok (.getfield 30, 3) := by decide +kernel
theorem dX8_open_63 : decode cX8_open 63 = .ok (.iconst (-1), 1) := by decide +kernel
theorem dX8_open_64 : decode cX8_open 64 = .ok (.invokevirtual 56, 3) := by decide +kernel
theorem dX8_open_67 : decode cX8_open 67 = .ok (.return_, 1) := by decide +kernel
def X8_open  (x0 : Nat) (x1 : Nat) (u : gM) : Option gM :=
(if isO skC x0 8 = true then (if isO skC x1 10 = true then ((cpI skC (upI u x0 0 0) (rf skC x1 11) 0 (rf skC x0 1) 0 24).bind fun u17 => ((cpI skC u17 (rf skC x1 19) 0 (rf skC x0 2) 0 10).bind fun u32 => ((J7_fill_53178 (rf skC x0 3) (-1) u32).bind fun w40 => ((J7_fill_53178 (rf skC x0 4) (-1) w40).bind fun w48 => ((J7_fill_53178 (rf skC x0 5) 0 w48).bind fun w56 => (if isO skC (rf skC x0 6) 5 = true then ((X5_clear (rf skC x0 6) (-1) w56).bind fun w64 => some w64)
 else none))))))
 else none)
 else none)
set_option maxRecDepth 20000 in
theorem v_X8_open {κ : gK} {B : Nat} {u : gM} (X : gX κ B skC cX8_open 2 RX8 none 2 44)   {x0 : Nat} {x1 : Nat} {w : gM} (hM : X8_open x0 x1 u = some w) : gV κ B skC 2 ((none), w) 0 [some (.ref (B + x0)), some (.ref (B + x1))] [] u := by
  unfold X8_open at hM
  refine g_aload_n X dX8_open_0 rfl ?_
  refine g_iconst X (v := 0) dX8_open_1 (by decide) ?_
  obtain ⟨o0, hM⟩ := ite_of hM
  refine g_putI X fX8_34 gc_X8 gp_X8_0 (sh_X8 o0) rfl dX8_open_2 ?_
  refine g_aload_n X dX8_open_5 rfl ?_
  obtain ⟨o1, hM⟩ := ite_of hM
  refine g_getR X fX8_38 (sh_X10 o1) rfl dX8_open_6 ?_
  refine g_iconst X (v := 0) dX8_open_9 (by decide) ?_
  refine g_aload_n X dX8_open_10 rfl ?_
  refine g_getR X fX8_9 (sh_X8 o0) rfl dX8_open_11 ?_
  refine g_iconst X (v := 0) dX8_open_14 (by decide) ?_
  refine g_bipush X (v := 24) dX8_open_15 (by decide) ?_
  obtain ⟨u17, e17, hM⟩ := bind_of hM
  refine g_copyI X m_8_11 e17 ⟨by decide, by decide⟩ dX8_open_17 ?_
  refine g_aload_n X dX8_open_20 rfl ?_
  refine g_getR X fX8_47 (sh_X10 o1) rfl dX8_open_21 ?_
  refine g_iconst X (v := 0) dX8_open_24 (by decide) ?_
  refine g_aload_n X dX8_open_25 rfl ?_
  refine g_getR X fX8_15 (sh_X8 o0) rfl dX8_open_26 ?_
  refine g_iconst X (v := 0) dX8_open_29 (by decide) ?_
  refine g_bipush X (v := 10) dX8_open_30 (by decide) ?_
  obtain ⟨u32, e32, hM⟩ := bind_of hM
  refine g_copyI X m_8_11 e32 ⟨by decide, by decide⟩ dX8_open_32 ?_
  refine g_aload_n X dX8_open_35 rfl ?_
  refine g_getR X fX8_18 (sh_X8 o0) rfl dX8_open_36 ?_
  refine g_iconst X (v := (-1)) dX8_open_39 (by decide) ?_
  obtain ⟨w40, e40, hM⟩ := bind_of hM
  refine g_callSv X (fun B adK => [.ref (B + (rf skC x0 3)), .int (-1)]) (s_J7_fill_53178 e40) cvX8_50 rfl rfl (Nat.le_of_ble_eq_true rfl) ⟨by decide, by decide⟩ dX8_open_40 ?_
  refine g_aload_n X dX8_open_43 rfl ?_
  refine g_getR X fX8_21 (sh_X8 o0) rfl dX8_open_44 ?_
  refine g_iconst X (v := (-1)) dX8_open_47 (by decide) ?_
  obtain ⟨w48, e48, hM⟩ := bind_of hM
  refine g_callSv X (fun B adK => [.ref (B + (rf skC x0 4)), .int (-1)]) (s_J7_fill_53178 e48) cvX8_50 rfl rfl (Nat.le_of_ble_eq_true rfl) ⟨by decide, by decide⟩ dX8_open_48 ?_
  refine g_aload_n X dX8_open_51 rfl ?_
  refine g_getR X fX8_24 (sh_X8 o0) rfl dX8_open_52 ?_
  refine g_iconst X (v := 0) dX8_open_55 (by decide) ?_
  obtain ⟨w56, e56, hM⟩ := bind_of hM
  refine g_callSv X (fun B adK => [.ref (B + (rf skC x0 5)), .int 0]) (s_J7_fill_53178 e56) cvX8_50 rfl rfl (Nat.le_of_ble_eq_true rfl) ⟨by decide, by decide⟩ dX8_open_56 ?_
  refine g_aload_n X dX8_open_59 rfl ?_
  refine g_getR X fX8_30 (sh_X8 o0) rfl dX8_open_60 ?_
  refine g_iconst X (v := (-1)) dX8_open_63 (by decide) ?_
  obtain ⟨o2, hM⟩ := ite_of hM
  obtain ⟨w64, e64, hM⟩ := bind_of hM
  refine g_callVv X (fun B adK => [.int (-1)]) (s_X5_clear e64) cvX8_56 (sh_X5 o2) rfl rfl (Nat.le_of_ble_eq_true rfl) ⟨by decide, by decide⟩ dX8_open_64 ?_
  cases hM
  exact g_vret X dX8_open_67
theorem s_X8_open {x0 : Nat} {x1 : Nat} {u : gM} {w : gM} (hM : X8_open x0 x1 u = some w) : gMet skC yX8_open cX8_open 2 none 2 44 (fun B adK => [.ref (B + x0), .ref (B + x1)]) u ((fun _ => none), w) := by
  refine gMet.of (by decide) (fun _ _ => Nat.le_of_ble_eq_true rfl) (fun κ B X => ?_)
  have X : gX κ B skC cX8_open 2 RX8 none 2 44 := X
  refine g_mk [true, true] [some (.ref (B + x0)), some (.ref (B + x1))] rfl ?_
  exact v_X8_open X  hM
theorem fr_X8_open {S : Nat → Prop} {u0 u : gM} {x0 : Nat} {x1 : Nat} (hs0 : S (rf skC (rf skC x0 6) 2)) (hs1 : S (rf skC (rf skC x0 6) 3)) (hs2 : S (rf skC (rf skC x0 6) 4)) (hs3 : S (rf skC (rf skC x0 6) 5)) (hs4 : S (rf skC x0 1)) (hs5 : S (rf skC x0 2)) (hs6 : S (rf skC x0 3)) (hs7 : S (rf skC x0 4)) (hs8 : S (rf skC x0 5)) (hs9 : S (rf skC x0 6)) (hs10 : S x0)   {w : gM} (hM : X8_open x0 x1 u = some w) (h0 : off S u0 u) : off S u0 w := by
  unfold X8_open at hM
  obtain ⟨o0, hM⟩ := ite_of hM
  have h0 := off_upI (u := u) (k := x0) (j := 0) (x := 0) hs10 h0
  obtain ⟨o1, hM⟩ := ite_of hM
  obtain ⟨u17, e17, hM⟩ := bind_of hM
  have h0 := off_cpI hs4 e17 h0
  obtain ⟨u32, e32, hM⟩ := bind_of hM
  have h0 := off_cpI hs5 e32 h0
  obtain ⟨w40, e40, hM⟩ := bind_of hM
  have h0 := fr_J7_fill_53178 hs6 e40 h0
  obtain ⟨w48, e48, hM⟩ := bind_of hM
  have h0 := fr_J7_fill_53178 hs7 e48 h0
  obtain ⟨w56, e56, hM⟩ := bind_of hM
  have h0 := fr_J7_fill_53178 hs8 e56 h0
  obtain ⟨o2, hM⟩ := ite_of hM
  obtain ⟨w64, e64, hM⟩ := bind_of hM
  have h0 := fr_X5_clear hs0 hs1 hs2 hs3 hs9 e64 h0
  cases hM
  exact h0
/-! CoverDesk$Past.clear()V -/
theorem dX7_clear_0 : decode cX7_clear 0 = .ok (.aload_n 0, 1) := by decide +kernel
theorem dX7_clear_1 : decode cX7_clear 1 = .ok (.iconst 0, 1) := by decide +kernel
theorem dX7_clear_2 : decode cX7_clear 2 = .ok (.putfield 18, 3) := by decide +kernel
theorem dX7_clear_5 : decode cX7_clear 5 = .ok (.return_, 1) := by decide +kernel
def X7_clear   (u : gM) : Option gM :=
some (upI u 30 0 0)
set_option maxRecDepth 20000 in
theorem v_X7_clear {κ : gK} {B : Nat} {u : gM} (X : gX κ B skC cX7_clear 1 RX7 none 0 0)    {w : gM} (hM : X7_clear u = some w) : gV κ B skC 1 ((none), w) 0 [some (.ref (B + 30))] [] u := by
  unfold X7_clear at hM
  refine g_aload_n X dX7_clear_0 rfl ?_
  refine g_iconst X (v := 0) dX7_clear_1 (by decide) ?_
  refine g_putI X fX7_18 gc_X7 gp_X7_0 cC_30 rfl dX7_clear_2 ?_
  cases hM
  exact g_vret X dX7_clear_5
theorem s_X7_clear  {u : gM} {w : gM} (hM : X7_clear u = some w) : gMet skC yX7_clear cX7_clear 1 none 0 0 (fun B adK => [.ref (B + 30)]) u ((fun _ => none), w) := by
  refine gMet.of (by decide) (fun _ _ => Nat.le_of_ble_eq_true rfl) (fun κ B X => ?_)
  have X : gX κ B skC cX7_clear 1 RX7 none 0 0 := X
  refine g_mk [true] [some (.ref (B + 30))] rfl ?_
  exact v_X7_clear X  hM
theorem fr_X7_clear {S : Nat → Prop} {u0 u : gM}  (hs0 : S 30)   {w : gM} (hM : X7_clear u = some w) (h0 : off S u0 u) : off S u0 w := by
  unfold X7_clear at hM
  have h0 := off_upI (u := u) (k := 30) (j := 0) (x := 0) hs0 h0
  cases hM
  exact h0
/-! CoverDesk.book()I -/
theorem dX11_book_0 : decode cX11_book 0 = .ok (.aload_n 0, 1) := by decide +kernel
theorem dX11_book_1 : decode cX11_book 1 = .ok (.getfield 42, 3) := by decide +kernel
theorem dX11_book_4 : decode cX11_book 4 = .ok (.invokevirtual 99, 3) := by decide +kernel
theorem dX11_book_7 : decode cX11_book 7 = .ok (.istore_n 1, 1) := by decide +kernel
theorem dX11_book_8 : decode cX11_book 8 = .ok (.aload_n 0, 1) := by decide +kernel
theorem dX11_book_9 : decode cX11_book 9 = .ok (.getfield 12, 3) := by decide +kernel
theorem dX11_book_12 : decode cX11_book 12 = .ok (.iconst 0, 1) := by decide +kernel
theorem dX11_book_13 : decode cX11_book 13 = .ok (.putfield 91, 3) := by decide +kernel
theorem dX11_book_16 : decode cX11_book 16 = .ok (.iload_n 1, 1) := by decide +kernel
theorem dX11_book_17 : decode cX11_book 17 = .ok (.ifCond .ne 5, 3) := by decide +kernel
theorem dX11_book_20 : decode cX11_book 20 = .ok (.iconst (-1), 1) := by decide +kernel
theorem dX11_book_21 : decode cX11_book 21 = .ok (.ireturn, 1) := by decide +kernel
theorem dX11_book_22 : decode cX11_book 22 = .ok (.aload_n 0, 1) := by decide +kernel
theorem dX11_book_23 : decode cX11_book 23 = .ok (.getfield 19, 3) := by decide +kernel
theorem dX11_book_26 : decode cX11_book 26 = .ok (.aload_n 0, 1) := by decide +kernel
theorem dX11_book_27 : decode cX11_book 27 = .ok (.getfield 42, 3) := by decide +kernel
theorem dX11_book_30 : decode cX11_book 30 = .ok (.getfield 103, 3) := by decide +kernel
theorem dX11_book_33 : decode cX11_book 33 = .ok (.invokevirtual 106, 3) := by decide +kernel
theorem dX11_book_36 : decode cX11_book 36 = .ok (.aload_n 0, 1) := by decide +kernel
theorem dX11_book_37 : decode cX11_book 37 = .ok (.getfield 26, 3) := by decide +kernel
theorem dX11_book_40 : decode cX11_book 40 = .ok (.aload_n 0, 1) := by decide +kernel
theorem dX11_book_41 : decode cX11_book 41 = .ok (.getfield 19, 3) := by decide +kernel
theorem dX11_book_44 : decode cX11_book 44 = .ok (.invokevirtual 87, 3) := by decide +kernel
theorem dX11_book_47 : decode cX11_book 47 = .ok (.aload_n 0, 1) := by decide +kernel
theorem dX11_book_48 : decode cX11_book 48 = .ok (.getfield 33, 3) := by decide +kernel
theorem dX11_book_51 : decode cX11_book 51 = .ok (.invokevirtual 109, 3) := by decide +kernel
theorem dX11_book_54 : decode cX11_book 54 = .ok (.aload_n 0, 1) := by decide +kernel
theorem dX11_book_55 : decode cX11_book 55 = .ok (.getfield 19, 3) := by decide +kernel
theorem dX11_book_58 : decode cX11_book 58 = .ok (.getfield 112, 3) := by decide +kernel
theorem dX11_book_61 : decode cX11_book 61 = .ok (.ireturn, 1) := by decide +kernel
def X11_book   (u : gM) : Option (Int32 × gM) :=
((X0_read u).bind fun w4 => (if w4.1 = 0 then some ((-1), upI w4.2 1 0 0)
  else ((X10_copy 3 117 (upI w4.2 1 0 0)).bind fun w33 => ((X8_open 18 3 w33).bind fun w44 => ((X7_clear w44).bind fun w51 => some ((w51.1 3 2), w51))))))
set_option maxRecDepth 20000 in
theorem v_X11_book {κ : gK} {B : Nat} {u : gM} (X : gX κ B skC cX11_book 2 RX11 (some .int) 10 239)    {w : (Int32 × gM)} (hM : X11_book u = some w) : gV κ B skC 2 ((some (.int w.1)), w.2) 0 [some (.ref (B + 0)), none] [] u := by
  unfold X11_book at hM
  refine g_aload_n X dX11_book_0 rfl ?_
  refine g_getR X fX11_42 cC_0 rfl dX11_book_1 ?_
  obtain ⟨w4, e4, hM⟩ := bind_of hM
  refine g_callVi X (fun B adK => []) (s_X0_read e4) cvX11_99 cC_116 rfl rfl (Nat.le_of_ble_eq_true rfl) ⟨by decide, by decide⟩ dX11_book_4 ?_
  refine g_istore_n X [some (.ref (B + 0)), some (.int w4.1)] dX11_book_7 (by decide) rfl ?_
  refine g_aload_n X dX11_book_8 rfl ?_
  refine g_getR X fX11_12 cC_0 rfl dX11_book_9 ?_
  refine g_iconst X (v := 0) dX11_book_12 (by decide) ?_
  refine g_putI X fX11_91 gc_X9 gp_X9_0 cC_1 rfl dX11_book_13 ?_
  refine g_iload_n X dX11_book_16 rfl ?_
  refine g_if_ne (tgt := 22) X dX11_book_17 (by decide) (fun c17 => ?_) (fun c17 => ?_)
  · rw [if_neg c17] at hM
    refine g_aload_n X dX11_book_22 rfl ?_
    refine g_getR X fX11_19 cC_0 rfl dX11_book_23 ?_
    refine g_aload_n X dX11_book_26 rfl ?_
    refine g_getR X fX11_42 cC_0 rfl dX11_book_27 ?_
    refine g_getR X fX11_103 cC_116 rfl dX11_book_30 ?_
    obtain ⟨w33, e33, hM⟩ := bind_of hM
    refine g_callVv X (fun B adK => [.ref (B + 117)]) (s_X10_copy e33) cvX11_106 cC_3 rfl rfl (Nat.le_of_ble_eq_true rfl) ⟨by decide, by decide⟩ dX11_book_33 ?_
    refine g_aload_n X dX11_book_36 rfl ?_
    refine g_getR X fX11_26 cC_0 rfl dX11_book_37 ?_
    refine g_aload_n X dX11_book_40 rfl ?_
    refine g_getR X fX11_19 cC_0 rfl dX11_book_41 ?_
    obtain ⟨w44, e44, hM⟩ := bind_of hM
    refine g_callVv X (fun B adK => [.ref (B + 3)]) (s_X8_open e44) cvX11_87 cC_18 rfl rfl (Nat.le_of_ble_eq_true rfl) ⟨by decide, by decide⟩ dX11_book_44 ?_
    refine g_aload_n X dX11_book_47 rfl ?_
    refine g_getR X fX11_33 cC_0 rfl dX11_book_48 ?_
    obtain ⟨w51, e51, hM⟩ := bind_of hM
    refine g_callVv X (fun B adK => []) (s_X7_clear e51) cvX11_109 cC_30 rfl rfl (Nat.le_of_ble_eq_true rfl) ⟨by decide, by decide⟩ dX11_book_51 ?_
    refine g_aload_n X dX11_book_54 rfl ?_
    refine g_getR X fX11_19 cC_0 rfl dX11_book_55 ?_
    refine g_getI X fX11_112 cC_3 rfl dX11_book_58 ?_
    cases hM
    exact g_iret X dX11_book_61
  · rw [if_pos c17] at hM
    refine g_iconst X (v := (-1)) dX11_book_20 (by decide) ?_
    cases hM
    exact g_iret X dX11_book_21
theorem s_X11_book  {u : gM} {w : (Int32 × gM)} (hM : X11_book u = some w) : gMet skC yX11_book cX11_book 2 (some .int) 10 239 (fun B adK => [.ref (B + 0)]) u ((fun _ => some (.int w.1)), w.2) := by
  refine gMet.of (by decide) (fun _ _ => Nat.le_of_ble_eq_true rfl) (fun κ B X => ?_)
  have X : gX κ B skC cX11_book 2 RX11 (some .int) 10 239 := X
  refine g_mk [true, false] [some (.ref (B + 0)), none] rfl ?_
  exact v_X11_book X  hM
theorem fr_X11_book {S : Nat → Prop} {u0 u : gM}  (hs0 : S (rf skC (rf skC 18 6) 2)) (hs1 : S (rf skC (rf skC 18 6) 3)) (hs2 : S (rf skC (rf skC 18 6) 4)) (hs3 : S (rf skC (rf skC 18 6) 5)) (hs4 : S (rf skC 117 13)) (hs5 : S (rf skC 117 14)) (hs6 : S (rf skC 117 15)) (hs7 : S (rf skC 117 16)) (hs8 : S (rf skC 18 1)) (hs9 : S (rf skC 18 2)) (hs10 : S (rf skC 18 3)) (hs11 : S (rf skC 18 4)) (hs12 : S (rf skC 18 5)) (hs13 : S (rf skC 18 6)) (hs14 : S (rf skC 3 10)) (hs15 : S (rf skC 3 11)) (hs16 : S (rf skC 3 12)) (hs17 : S (rf skC 3 13)) (hs18 : S (rf skC 3 14)) (hs19 : S (rf skC 3 15)) (hs20 : S (rf skC 3 16)) (hs21 : S (rf skC 3 17)) (hs22 : S (rf skC 3 18)) (hs23 : S (rf skC 3 19)) (hs24 : S (rf skC 3 6)) (hs25 : S (rf skC 3 7)) (hs26 : S (rf skC 3 8)) (hs27 : S (rf skC 3 9)) (hs28 : S 1) (hs29 : S 117) (hs30 : S 118) (hs31 : S 119) (hs32 : S 120) (hs33 : S 121) (hs34 : S 122) (hs35 : S 123) (hs36 : S 124) (hs37 : S 125) (hs38 : S 126) (hs39 : S 129) (hs40 : S 130) (hs41 : S 131) (hs42 : S 18) (hs43 : S 3) (hs44 : S 30)   {w : (Int32 × gM)} (hM : X11_book u = some w) (h0 : off S u0 u) : off S u0 w.2 := by
  unfold X11_book at hM
  obtain ⟨w4, e4, hM⟩ := bind_of hM
  have h0 := fr_X0_read hs4 hs5 hs6 hs7 hs28 hs29 hs30 hs31 hs32 hs33 hs34 hs35 hs36 hs37 hs38 hs39 hs40 hs41 e4 h0
  have h0 := off_upI (u := w4.2) (k := 1) (j := 0) (x := 0) hs28 h0
  by_cases c17 : w4.1 = 0
  · rw [if_pos c17] at hM
    cases hM
    exact h0
  · rw [if_neg c17] at hM
    obtain ⟨w33, e33, hM⟩ := bind_of hM
    have h0 := fr_X10_copy hs14 hs15 hs16 hs17 hs18 hs19 hs20 hs21 hs22 hs23 hs24 hs25 hs26 hs27 hs43 e33 h0
    obtain ⟨w44, e44, hM⟩ := bind_of hM
    have h0 := fr_X8_open hs0 hs1 hs2 hs3 hs8 hs9 hs10 hs11 hs12 hs13 hs42 e44 h0
    obtain ⟨w51, e51, hM⟩ := bind_of hM
    have h0 := fr_X7_clear hs44 e51 h0
    cases hM
    exact h0
/-! CoverDesk$Told.isShare(II)Z -/
theorem dX10_isShare_0 : decode cX10_isShare 0 = .ok (.aload_n 0, 1) := by decide +kernel
theorem dX10_isShare_1 : decode cX10_isShare 1 = .ok (.iload_n 1, 1) := by decide +kernel
theorem dX10_isShare_2 : decode cX10_isShare 2 = .ok (.invokevirtual 81, 3) := by decide +kernel
theorem dX10_isShare_5 : decode cX10_isShare 5 = .ok (.ifCond .eq 21, 3) := by decide +kernel
theorem dX10_isShare_8 : decode cX10_isShare 8 = .ok (.iload_n 2, 1) := by decide +kernel
theorem dX10_isShare_9 : decode cX10_isShare 9 = .ok (.ifCond .lt 17, 3) := by decide +kernel
theorem dX10_isShare_12 : decode cX10_isShare 12 = .ok (.iload_n 2, 1) := by decide +kernel
theorem dX10_isShare_13 : decode cX10_isShare 13 = .ok (.aload_n 0, 1) := by decide +kernel
theorem dX10_isShare_14 : decode cX10_isShare 14 = .ok (.getfield 42, 3) := by decide +kernel
theorem dX10_isShare_17 : decode cX10_isShare 17 = .ok (.iload_n 1, 1) := by decide +kernel
theorem dX10_isShare_18 : decode cX10_isShare 18 = .ok (.iaload, 1) := by decide +kernel
theorem dX10_isShare_19 : decode cX10_isShare 19 = .ok (.if_icmp .ge 7, 3) := by decide +kernel
theorem dX10_isShare_22 : decode cX10_isShare 22 = .ok (.iconst 1, 1) := by decide +kernel
theorem dX10_isShare_23 : decode cX10_isShare 23 = .ok (.goto 4, 3) := by decide +kernel
theorem dX10_isShare_26 : decode cX10_isShare 26 = .ok (.iconst 0, 1) := by decide +kernel
theorem dX10_isShare_27 : decode cX10_isShare 27 = .ok (.ireturn, 1) := by decide +kernel
def X10_isShare_b27 (u : gM)  (s0 : Int32) : Option Int32 :=
bI s0
def X10_isShare_b26 (u : gM)   : Option Int32 :=
(X10_isShare_b27 u 0)
def X10_isShare (u : gM)  (x0 : Nat) (x1 : Int32) (x2 : Int32) : Option Int32 :=
(if isO skC x0 10 = true then ((X10_isAccount u x0 x1).bind fun w2 => (if w2 = 0 then (X10_isShare_b26 u)
  else (if x2 < 0 then (X10_isShare_b26 u)
    else ((aI skC u (rf skC x0 13) x1).bind fun v18 => (if v18 ≤ x2 then (X10_isShare_b26 u)
      else (X10_isShare_b27 u 1))))))
 else none)
set_option maxRecDepth 20000 in
theorem v_X10_isShare_b27 {κ : gK} {B : Nat} {u : gM} (X : gX κ B skC cX10_isShare 3 RX10 (some .boolean) 1 21)   {s0 : Int32} {w : Int32} (hM : X10_isShare_b27 u s0 = some w) : gV κ B skC 3 ((some (.int w)), u) 27 [none, none, none] [.int s0] u := by
  unfold X10_isShare_b27 at hM
  obtain ⟨hv, rfl⟩ := bI_of hM
  exact g_zret X hv dX10_isShare_27
set_option maxRecDepth 20000 in
theorem v_X10_isShare_b26 {κ : gK} {B : Nat} {u : gM} (X : gX κ B skC cX10_isShare 3 RX10 (some .boolean) 1 21)    {w : Int32} (hM : X10_isShare_b26 u = some w) : gV κ B skC 3 ((some (.int w)), u) 26 [none, none, none] [] u := by
  unfold X10_isShare_b26 at hM
  refine g_iconst X (v := 0) dX10_isShare_26 (by decide) ?_
  refine g_mk [false, false, false] [none, none, none] rfl ?_
  exact v_X10_isShare_b27 X  hM
set_option maxRecDepth 20000 in
theorem v_X10_isShare {κ : gK} {B : Nat} {u : gM} (X : gX κ B skC cX10_isShare 3 RX10 (some .boolean) 1 21)   {x0 : Nat} {x1 : Int32} {x2 : Int32} {w : Int32} (hM : X10_isShare u x0 x1 x2 = some w) : gV κ B skC 3 ((some (.int w)), u) 0 [some (.ref (B + x0)), some (.int x1), some (.int x2)] [] u := by
  unfold X10_isShare at hM
  refine g_aload_n X dX10_isShare_0 rfl ?_
  refine g_iload_n X dX10_isShare_1 rfl ?_
  obtain ⟨o0, hM⟩ := ite_of hM
  obtain ⟨w2, e2, hM⟩ := bind_of hM
  refine g_callVi X (fun B adK => [.int x1]) (s_X10_isAccount e2) cvX10_81 (sh_X10 o0) rfl rfl (Nat.le_of_ble_eq_true rfl) ⟨by decide, by decide⟩ dX10_isShare_2 ?_
  refine g_if_eq (tgt := 26) X dX10_isShare_5 (by decide) (fun c5 => ?_) (fun c5 => ?_)
  · rw [if_pos c5] at hM
    refine g_mk [false, false, false] [none, none, none] rfl ?_
    exact v_X10_isShare_b26 X  hM
  · rw [if_neg c5] at hM
    refine g_iload_n X dX10_isShare_8 rfl ?_
    refine g_if_lt (tgt := 26) X dX10_isShare_9 (by decide) (fun c9 => ?_) (fun c9 => ?_)
    · rw [if_pos c9] at hM
      refine g_mk [false, false, false] [none, none, none] rfl ?_
      exact v_X10_isShare_b26 X  hM
    · rw [if_neg c9] at hM
      refine g_iload_n X dX10_isShare_12 rfl ?_
      refine g_aload_n X dX10_isShare_13 rfl ?_
      refine g_getR X fX10_42 (sh_X10 o0) rfl dX10_isShare_14 ?_
      refine g_iload_n X dX10_isShare_17 rfl ?_
      obtain ⟨v18, e18, hM⟩ := bind_of hM
      refine g_iaload X e18 dX10_isShare_18 ?_
      refine g_icmp_ge (tgt := 26) X dX10_isShare_19 (by decide) (fun c19 => ?_) (fun c19 => ?_)
      · rw [if_pos c19] at hM
        refine g_mk [false, false, false] [none, none, none] rfl ?_
        exact v_X10_isShare_b26 X  hM
      · rw [if_neg c19] at hM
        refine g_iconst X (v := 1) dX10_isShare_22 (by decide) ?_
        refine g_goto (tgt := 27) X dX10_isShare_23 (by decide) ?_
        refine g_mk [false, false, false] [none, none, none] rfl ?_
        exact v_X10_isShare_b27 X  hM
theorem s_X10_isShare {x0 : Nat} {x1 : Int32} {x2 : Int32} {u : gM} {w : Int32} (hM : X10_isShare u x0 x1 x2 = some w) : gMet skC yX10_isShare cX10_isShare 3 (some .boolean) 1 21 (fun B adK => [.ref (B + x0), .int x1, .int x2]) u ((fun _ => some (.int w)), u) := by
  refine gMet.of (by decide) (fun _ _ => Nat.le_of_ble_eq_true rfl) (fun κ B X => ?_)
  have X : gX κ B skC cX10_isShare 3 RX10 (some .boolean) 1 21 := X
  refine g_mk [true, true, true] [some (.ref (B + x0)), some (.int x1), some (.int x2)] rfl ?_
  exact v_X10_isShare X  hM

/-! CoverDesk$Failing.row(I)[I -/
theorem dX5_row_0 : decode cX5_row 0 = .ok (.iload_n 1, 1) := by decide +kernel
theorem dX5_row_1 : decode cX5_row 1 = .ok (.tableswitch 42 0 2 #[27, 32, 37], 27) := by decide +kernel
theorem dX5_row_28 : decode cX5_row 28 = .ok (.aload_n 0, 1) := by decide +kernel
theorem dX5_row_29 : decode cX5_row 29 = .ok (.getfield 15, 3) := by decide +kernel
theorem dX5_row_32 : decode cX5_row 32 = .ok (.areturn, 1) := by decide +kernel
theorem dX5_row_33 : decode cX5_row 33 = .ok (.aload_n 0, 1) := by decide +kernel
theorem dX5_row_34 : decode cX5_row 34 = .ok (.getfield 19, 3) := by decide +kernel
theorem dX5_row_37 : decode cX5_row 37 = .ok (.areturn, 1) := by decide +kernel
theorem dX5_row_38 : decode cX5_row 38 = .ok (.aload_n 0, 1) := by decide +kernel
theorem dX5_row_39 : decode cX5_row 39 = .ok (.getfield 22, 3) := by decide +kernel
theorem dX5_row_42 : decode cX5_row 42 = .ok (.areturn, 1) := by decide +kernel
theorem dX5_row_43 : decode cX5_row 43 = .ok (.aload_n 0, 1) := by decide +kernel
theorem dX5_row_44 : decode cX5_row 44 = .ok (.getfield 25, 3) := by decide +kernel
theorem dX5_row_47 : decode cX5_row 47 = .ok (.areturn, 1) := by decide +kernel
def X5_row (u : gM)  (x0 : Nat) (x1 : Int32) : Option Nat :=
(if x1 = 0 then (if isO skC x0 5 = true then some (rf skC x0 2)
 else none)
  else (if x1 = 1 then (if isO skC x0 5 = true then some (rf skC x0 3)
 else none)
  else (if x1 = 2 then (if isO skC x0 5 = true then some (rf skC x0 4)
 else none)
  else (if isO skC x0 5 = true then some (rf skC x0 5)
 else none))))
set_option maxRecDepth 20000 in
theorem v_X5_row {κ : gK} {B : Nat} {u : gM} (X : gX κ B skC cX5_row 2 RX5 (some (.array .int)) 0 0)   {x0 : Nat} {x1 : Int32} {w : Nat} (hM : X5_row u x0 x1 = some w) : gV κ B skC 2 ((some (.ref (B + w))), u) 0 [some (.ref (B + x0)), some (.int x1)] [] u := by
  unfold X5_row at hM
  refine g_iload_n X dX5_row_0 rfl ?_
  by_cases h1_0 : x1 = 0
  · rw [if_pos h1_0] at hM
    refine g_tabIn (tgt := 28) (off := 27) X 0 h1_0 dX5_row_1 (by decide) (by decide) (by decide) (by decide) ?_
    refine g_aload_n X dX5_row_28 rfl ?_
    obtain ⟨o0, hM⟩ := ite_of hM
    refine g_getR X fX5_15 (sh_X5 o0) rfl dX5_row_29 ?_
    cases hM
    exact g_aret X (Or.inr ⟨_, rfl⟩) dX5_row_32
  rw [if_neg h1_0] at hM
  by_cases h1_1 : x1 = 1
  · rw [if_pos h1_1] at hM
    refine g_tabIn (tgt := 33) (off := 32) X 1 h1_1 dX5_row_1 (by decide) (by decide) (by decide) (by decide) ?_
    refine g_aload_n X dX5_row_33 rfl ?_
    obtain ⟨o0, hM⟩ := ite_of hM
    refine g_getR X fX5_19 (sh_X5 o0) rfl dX5_row_34 ?_
    cases hM
    exact g_aret X (Or.inr ⟨_, rfl⟩) dX5_row_37
  rw [if_neg h1_1] at hM
  by_cases h1_2 : x1 = 2
  · rw [if_pos h1_2] at hM
    refine g_tabIn (tgt := 38) (off := 37) X 2 h1_2 dX5_row_1 (by decide) (by decide) (by decide) (by decide) ?_
    refine g_aload_n X dX5_row_38 rfl ?_
    obtain ⟨o0, hM⟩ := ite_of hM
    refine g_getR X fX5_22 (sh_X5 o0) rfl dX5_row_39 ?_
    cases hM
    exact g_aret X (Or.inr ⟨_, rfl⟩) dX5_row_42
  rw [if_neg h1_2] at hM
  refine g_tabOut (tgt := 43) X dX5_row_1 (by have q0 := lv_neT (a := 0) h1_0 (by decide); have q1 := lv_neT (a := 1) h1_1 (by decide); have q2 := lv_neT (a := 2) h1_2 (by decide); omega) (by decide) ?_
  refine g_aload_n X dX5_row_43 rfl ?_
  obtain ⟨o0, hM⟩ := ite_of hM
  refine g_getR X fX5_25 (sh_X5 o0) rfl dX5_row_44 ?_
  cases hM
  exact g_aret X (Or.inr ⟨_, rfl⟩) dX5_row_47
theorem s_X5_row {x0 : Nat} {x1 : Int32} {u : gM} {w : Nat} (hM : X5_row u x0 x1 = some w) : gMet skC yX5_row cX5_row 2 (some (.array .int)) 0 0 (fun B adK => [.ref (B + x0), .int x1]) u ((fun B => some (.ref (B + w))), u) := by
  refine gMet.of (by decide) (fun _ _ => Nat.le_of_ble_eq_true rfl) (fun κ B X => ?_)
  have X : gX κ B skC cX5_row 2 RX5 (some (.array .int)) 0 0 := X
  refine g_mk [true, true] [some (.ref (B + x0)), some (.int x1)] rfl ?_
  exact v_X5_row X  hM

/-! CoverDesk.came(III)J -/
theorem dX11_came_0 : decode cX11_came 0 = .ok (.aload_n 0, 1) := by decide +kernel
theorem dX11_came_1 : decode cX11_came 1 = .ok (.getfield 19, 3) := by decide +kernel
theorem dX11_came_4 : decode cX11_came 4 = .ok (.iload_n 1, 1) := by decide +kernel
theorem dX11_came_5 : decode cX11_came 5 = .ok (.iload_n 2, 1) := by decide +kernel
theorem dX11_came_6 : decode cX11_came 6 = .ok (.invokevirtual 219, 3) := by decide +kernel
theorem dX11_came_9 : decode cX11_came 9 = .ok (.ifCond .eq 12, 3) := by decide +kernel
theorem dX11_came_12 : decode cX11_came 12 = .ok (.iload_n 3, 1) := by decide +kernel
theorem dX11_came_13 : decode cX11_came 13 = .ok (.ifCond .lt 8, 3) := by decide +kernel
theorem dX11_came_16 : decode cX11_came 16 = .ok (.iload_n 3, 1) := by decide +kernel
theorem dX11_came_17 : decode cX11_came 17 = .ok (.iconst 3, 1) := by decide +kernel
theorem dX11_came_18 : decode cX11_came 18 = .ok (.if_icmp .le 7, 3) := by decide +kernel
theorem dX11_came_21 : decode cX11_came 21 = .ok (.ldc2_w 250, 3) := by decide +kernel
theorem dX11_came_24 : decode cX11_came 24 = .ok (.lreturn, 1) := by decide +kernel
theorem dX11_came_25 : decode cX11_came 25 = .ok (.aload_n 0, 1) := by decide +kernel
theorem dX11_came_26 : decode cX11_came 26 = .ok (.getfield 26, 3) := by decide +kernel
theorem dX11_came_29 : decode cX11_came 29 = .ok (.getfield 307, 3) := by decide +kernel
theorem dX11_came_32 : decode cX11_came 32 = .ok (.iload_n 3, 1) := by decide +kernel
theorem dX11_came_33 : decode cX11_came 33 = .ok (.invokevirtual 310, 3) := by decide +kernel
theorem dX11_came_36 : decode cX11_came 36 = .ok (.iload_n 1, 1) := by decide +kernel
theorem dX11_came_37 : decode cX11_came 37 = .ok (.iconst 4, 1) := by decide +kernel
theorem dX11_came_38 : decode cX11_came 38 = .ok (.imul, 1) := by decide +kernel
theorem dX11_came_39 : decode cX11_came 39 = .ok (.iload_n 2, 1) := by decide +kernel
theorem dX11_came_40 : decode cX11_came 40 = .ok (.iadd, 1) := by decide +kernel
theorem dX11_came_41 : decode cX11_came 41 = .ok (.iaload, 1) := by decide +kernel
theorem dX11_came_42 : decode cX11_came 42 = .ok (.i2l, 1) := by decide +kernel
theorem dX11_came_43 : decode cX11_came 43 = .ok (.lreturn, 1) := by decide +kernel
def X11_came_b21 (u : gM)   : Option Int64 :=
some (-1)
def X11_came (u : gM)  (x1 : Int32) (x2 : Int32) (x3 : Int32) : Option Int64 :=
((X10_isShare u 3 x1 x2).bind fun w6 => (if w6 = 0 then (X11_came_b21 u)
  else (if x3 < 0 then (X11_came_b21 u)
    else (if x3 ≤ 3 then ((X5_row u 24 x3).bind fun w33 => ((aI skC u w33 ((x1 * 4) + x2)).bind fun v41 => some v41.toInt64))
      else (X11_came_b21 u)))))
set_option maxRecDepth 20000 in
theorem v_X11_came_b21 {κ : gK} {B : Nat} {u : gM} (X : gX κ B skC cX11_came 4 RX11 (some .long) 2 43)    {w : Int64} (hM : X11_came_b21 u = some w) : gV κ B skC 4 ((some (.long w)), u) 21 [none, none, none, none] [] u := by
  unfold X11_came_b21 at hM
  refine g_ldc2 (v := (-1)) X m_50_11 dX11_came_21 ?_
  cases hM
  exact g_lret X dX11_came_24
set_option maxRecDepth 20000 in
theorem v_X11_came {κ : gK} {B : Nat} {u : gM} (X : gX κ B skC cX11_came 4 RX11 (some .long) 2 43)   {x1 : Int32} {x2 : Int32} {x3 : Int32} {w : Int64} (hM : X11_came u x1 x2 x3 = some w) : gV κ B skC 4 ((some (.long w)), u) 0 [some (.ref (B + 0)), some (.int x1), some (.int x2), some (.int x3)] [] u := by
  unfold X11_came at hM
  refine g_aload_n X dX11_came_0 rfl ?_
  refine g_getR X fX11_19 cC_0 rfl dX11_came_1 ?_
  refine g_iload_n X dX11_came_4 rfl ?_
  refine g_iload_n X dX11_came_5 rfl ?_
  obtain ⟨w6, e6, hM⟩ := bind_of hM
  refine g_callVi X (fun B adK => [.int x1, .int x2]) (s_X10_isShare e6) cvX11_219 cC_3 rfl rfl (Nat.le_of_ble_eq_true rfl) ⟨by decide, by decide⟩ dX11_came_6 ?_
  refine g_if_eq (tgt := 21) X dX11_came_9 (by decide) (fun c9 => ?_) (fun c9 => ?_)
  · rw [if_pos c9] at hM
    refine g_mk [false, false, false, false] [none, none, none, none] rfl ?_
    exact v_X11_came_b21 X  hM
  · rw [if_neg c9] at hM
    refine g_iload_n X dX11_came_12 rfl ?_
    refine g_if_lt (tgt := 21) X dX11_came_13 (by decide) (fun c13 => ?_) (fun c13 => ?_)
    · rw [if_pos c13] at hM
      refine g_mk [false, false, false, false] [none, none, none, none] rfl ?_
      exact v_X11_came_b21 X  hM
    · rw [if_neg c13] at hM
      refine g_iload_n X dX11_came_16 rfl ?_
      refine g_iconst X (v := 3) dX11_came_17 (by decide) ?_
      refine g_icmp_le (tgt := 25) X dX11_came_18 (by decide) (fun c18 => ?_) (fun c18 => ?_)
      · rw [if_pos c18] at hM
        refine g_aload_n X dX11_came_25 rfl ?_
        refine g_getR X fX11_26 cC_0 rfl dX11_came_26 ?_
        refine g_getR X fX11_307 cC_18 rfl dX11_came_29 ?_
        refine g_iload_n X dX11_came_32 rfl ?_
        obtain ⟨w33, e33, hM⟩ := bind_of hM
        refine g_callVa X (fun B adK => [.int x3]) (s_X5_row e33) cvX11_310 cC_24 rfl rfl (Nat.le_of_ble_eq_true rfl) ⟨by decide, by decide⟩ dX11_came_33 ?_
        refine g_iload_n X dX11_came_36 rfl ?_
        refine g_iconst X (v := 4) dX11_came_37 (by decide) ?_
        refine g_imul X dX11_came_38 ?_
        refine g_iload_n X dX11_came_39 rfl ?_
        refine g_iadd X dX11_came_40 ?_
        obtain ⟨v41, e41, hM⟩ := bind_of hM
        refine g_iaload X e41 dX11_came_41 ?_
        refine g_i2l X dX11_came_42 ?_
        cases hM
        exact g_lret X dX11_came_43
      · rw [if_neg c18] at hM
        refine g_mk [false, false, false, false] [none, none, none, none] rfl ?_
        exact v_X11_came_b21 X  hM
theorem s_X11_came {x1 : Int32} {x2 : Int32} {x3 : Int32} {u : gM} {w : Int64} (hM : X11_came u x1 x2 x3 = some w) : gMet skC yX11_came cX11_came 4 (some .long) 2 43 (fun B adK => [.ref (B + 0), .int x1, .int x2, .int x3]) u ((fun _ => some (.long w)), u) := by
  refine gMet.of (by decide) (fun _ _ => Nat.le_of_ble_eq_true rfl) (fun κ B X => ?_)
  have X : gX κ B skC cX11_came 4 RX11 (some .long) 2 43 := X
  refine g_mk [true, true, true, true] [some (.ref (B + 0)), some (.int x1), some (.int x2), some (.int x3)] rfl ?_
  exact v_X11_came X  hM

/-! CoverDesk$Cover.nextChange(I)I -/
theorem dX1_nextChange_0 : decode cX1_nextChange 0 = .ok (.iconst (-1), 1) := by decide +kernel
theorem dX1_nextChange_1 : decode cX1_nextChange 1 = .ok (.istore_n 2, 1) := by decide +kernel
theorem dX1_nextChange_2 : decode cX1_nextChange 2 = .ok (.iconst 0, 1) := by decide +kernel
theorem dX1_nextChange_3 : decode cX1_nextChange 3 = .ok (.istore_n 3, 1) := by decide +kernel
theorem dX1_nextChange_4 : decode cX1_nextChange 4 = .ok (.iload_n 3, 1) := by decide +kernel
theorem dX1_nextChange_5 : decode cX1_nextChange 5 = .ok (.aload_n 0, 1) := by decide +kernel
theorem dX1_nextChange_6 : decode cX1_nextChange 6 = .ok (.getfield 32, 3) := by decide +kernel
theorem dX1_nextChange_9 : decode cX1_nextChange 9 = .ok (.getfield 82, 3) := by decide +kernel
theorem dX1_nextChange_12 : decode cX1_nextChange 12 = .ok (.if_icmp .ge 37, 3) := by decide +kernel
theorem dX1_nextChange_15 : decode cX1_nextChange 15 = .ok (.aload_n 0, 1) := by decide +kernel
theorem dX1_nextChange_16 : decode cX1_nextChange 16 = .ok (.iload_n 3, 1) := by decide +kernel
theorem dX1_nextChange_17 : decode cX1_nextChange 17 = .ok (.iload_n 1, 1) := by decide +kernel
theorem dX1_nextChange_18 : decode cX1_nextChange 18 = .ok (.invokevirtual 85, 3) := by decide +kernel
theorem dX1_nextChange_21 : decode cX1_nextChange 21 = .ok (.istore 4, 2) := by decide +kernel
theorem dX1_nextChange_23 : decode cX1_nextChange 23 = .ok (.iload 4, 2) := by decide +kernel
theorem dX1_nextChange_25 : decode cX1_nextChange 25 = .ok (.iconst (-1), 1) := by decide +kernel
theorem dX1_nextChange_26 : decode cX1_nextChange 26 = .ok (.if_icmp .eq 17, 3) := by decide +kernel
theorem dX1_nextChange_29 : decode cX1_nextChange 29 = .ok (.iload_n 2, 1) := by decide +kernel
theorem dX1_nextChange_30 : decode cX1_nextChange 30 = .ok (.iconst (-1), 1) := by decide +kernel
theorem dX1_nextChange_31 : decode cX1_nextChange 31 = .ok (.if_icmp .eq 9, 3) := by decide +kernel
theorem dX1_nextChange_34 : decode cX1_nextChange 34 = .ok (.iload 4, 2) := by decide +kernel
theorem dX1_nextChange_36 : decode cX1_nextChange 36 = .ok (.iload_n 2, 1) := by decide +kernel
theorem dX1_nextChange_37 : decode cX1_nextChange 37 = .ok (.if_icmp .ge 6, 3) := by decide +kernel
theorem dX1_nextChange_40 : decode cX1_nextChange 40 = .ok (.iload 4, 2) := by decide +kernel
theorem dX1_nextChange_42 : decode cX1_nextChange 42 = .ok (.istore_n 2, 1) := by decide +kernel
theorem dX1_nextChange_43 : decode cX1_nextChange 43 = .ok (.iinc 3 1, 3) := by decide +kernel
theorem dX1_nextChange_46 : decode cX1_nextChange 46 = .ok (.goto (-42), 3) := by decide +kernel
theorem dX1_nextChange_49 : decode cX1_nextChange 49 = .ok (.iload_n 2, 1) := by decide +kernel
theorem dX1_nextChange_50 : decode cX1_nextChange 50 = .ok (.ireturn, 1) := by decide +kernel
def X1_nextChange_b43 (u : gM) (k4 : Int32 → Int32 → Int32 → Option Int32) (x1 : Int32) (x2 : Int32) (x3 : Int32) : Option Int32 :=
(k4 x1 x2 (x3 + 1))
def X1_nextChange_b40 (u : gM) (k4 : Int32 → Int32 → Int32 → Option Int32) (x1 : Int32) (x3 : Int32) (x4 : Int32) : Option Int32 :=
(X1_nextChange_b43 u k4 x1 x4 x3)
def X1_nextChange_b4 (u : gM) (k4 : Int32 → Int32 → Int32 → Option Int32) (x1 : Int32) (x2 : Int32) (x3 : Int32) : Option Int32 :=
(if (u.1 3 2) ≤ x3 then some x2
  else ((X1_leaves u x3 x1).bind fun w18 => (if w18 = (-1) then (X1_nextChange_b43 u k4 x1 x2 x3)
    else (if x2 = (-1) then (X1_nextChange_b40 u k4 x1 x3 w18)
      else (if x2 ≤ w18 then (X1_nextChange_b43 u k4 x1 x2 x3)
        else (X1_nextChange_b40 u k4 x1 x3 w18))))))
def X1_nextChange_l4 (u : gM)  : Nat → Int32 → Int32 → Int32 → Option Int32
  | 0, _, _, _ => none
  | n + 1, x1, x2, x3 => X1_nextChange_b4 u  (X1_nextChange_l4 u  n) x1 x2 x3
def X1_nextChange (u : gM)  (x1 : Int32) : Option Int32 :=
(X1_nextChange_l4 u fz x1 (-1) 0)
set_option maxRecDepth 20000 in
theorem v_X1_nextChange_b43 {κ : gK} {B : Nat} {u : gM} (X : gX κ B skC cX1_nextChange 5 RX1 (some .int) 4 97) {k4 : Int32 → Int32 → Int32 → Option Int32} (ih4 : ∀ (x1 : Int32) (x2 : Int32) (x3 : Int32) (w : Int32), k4 x1 x2 x3 = some w → gV κ B skC 5 ((some (.int w)), u) 4 [some (.ref (B + 136)), some (.int x1), some (.int x2), some (.int x3), none] [] u) {x1 : Int32} {x2 : Int32} {x3 : Int32} {w : Int32} (hM : X1_nextChange_b43 u k4 x1 x2 x3 = some w) : gV κ B skC 5 ((some (.int w)), u) 43 [some (.ref (B + 136)), some (.int x1), some (.int x2), some (.int x3), none] [] u := by
  unfold X1_nextChange_b43 at hM
  refine g_iinc (d := 1) X [some (.ref (B + 136)), some (.int x1), some (.int x2), some (.int (x3 + 1)), none] dX1_nextChange_43 (by decide) rfl (by decide) rfl ?_
  refine g_goto (tgt := 4) X dX1_nextChange_46 (by decide) ?_
  refine g_mk [true, true, true, true, false] [some (.ref (B + 136)), some (.int x1), some (.int x2), some (.int (x3 + 1)), none] rfl ?_
  exact ih4 x1 x2 (x3 + 1) _ hM
set_option maxRecDepth 20000 in
theorem v_X1_nextChange_b40 {κ : gK} {B : Nat} {u : gM} (X : gX κ B skC cX1_nextChange 5 RX1 (some .int) 4 97) {k4 : Int32 → Int32 → Int32 → Option Int32} (ih4 : ∀ (x1 : Int32) (x2 : Int32) (x3 : Int32) (w : Int32), k4 x1 x2 x3 = some w → gV κ B skC 5 ((some (.int w)), u) 4 [some (.ref (B + 136)), some (.int x1), some (.int x2), some (.int x3), none] [] u) {x1 : Int32} {x3 : Int32} {x4 : Int32} {w : Int32} (hM : X1_nextChange_b40 u k4 x1 x3 x4 = some w) : gV κ B skC 5 ((some (.int w)), u) 40 [some (.ref (B + 136)), some (.int x1), none, some (.int x3), some (.int x4)] [] u := by
  unfold X1_nextChange_b40 at hM
  refine g_iload X dX1_nextChange_40 rfl ?_
  refine g_istore_n X [some (.ref (B + 136)), some (.int x1), some (.int x4), some (.int x3), some (.int x4)] dX1_nextChange_42 (by decide) rfl ?_
  refine g_mk [true, true, true, true, false] [some (.ref (B + 136)), some (.int x1), some (.int x4), some (.int x3), none] rfl ?_
  exact v_X1_nextChange_b43 X ih4 hM
set_option maxRecDepth 20000 in
theorem v_X1_nextChange_b4 {κ : gK} {B : Nat} {u : gM} (X : gX κ B skC cX1_nextChange 5 RX1 (some .int) 4 97) {k4 : Int32 → Int32 → Int32 → Option Int32} (ih4 : ∀ (x1 : Int32) (x2 : Int32) (x3 : Int32) (w : Int32), k4 x1 x2 x3 = some w → gV κ B skC 5 ((some (.int w)), u) 4 [some (.ref (B + 136)), some (.int x1), some (.int x2), some (.int x3), none] [] u) {x1 : Int32} {x2 : Int32} {x3 : Int32} {w : Int32} (hM : X1_nextChange_b4 u k4 x1 x2 x3 = some w) : gV κ B skC 5 ((some (.int w)), u) 4 [some (.ref (B + 136)), some (.int x1), some (.int x2), some (.int x3), none] [] u := by
  unfold X1_nextChange_b4 at hM
  refine g_iload_n X dX1_nextChange_4 rfl ?_
  refine g_aload_n X dX1_nextChange_5 rfl ?_
  refine g_getR X fX1_32 cC_136 rfl dX1_nextChange_6 ?_
  refine g_getI X fX1_82 cC_3 rfl dX1_nextChange_9 ?_
  refine g_icmp_ge (tgt := 49) X dX1_nextChange_12 (by decide) (fun c12 => ?_) (fun c12 => ?_)
  · rw [if_pos c12] at hM
    refine g_iload_n X dX1_nextChange_49 rfl ?_
    cases hM
    exact g_iret X dX1_nextChange_50
  · rw [if_neg c12] at hM
    refine g_aload_n X dX1_nextChange_15 rfl ?_
    refine g_iload_n X dX1_nextChange_16 rfl ?_
    refine g_iload_n X dX1_nextChange_17 rfl ?_
    obtain ⟨w18, e18, hM⟩ := bind_of hM
    refine g_callVi X (fun B adK => [.int x3, .int x1]) (s_X1_leaves e18) cvX1_85 cC_136 rfl rfl (Nat.le_of_ble_eq_true rfl) ⟨by decide, by decide⟩ dX1_nextChange_18 ?_
    refine g_istore X [some (.ref (B + 136)), some (.int x1), some (.int x2), some (.int x3), some (.int w18)] dX1_nextChange_21 (by decide) rfl ?_
    refine g_iload X dX1_nextChange_23 rfl ?_
    refine g_iconst X (v := (-1)) dX1_nextChange_25 (by decide) ?_
    refine g_icmp_eq (tgt := 43) X dX1_nextChange_26 (by decide) (fun c26 => ?_) (fun c26 => ?_)
    · rw [if_pos c26] at hM
      refine g_mk [true, true, true, true, false] [some (.ref (B + 136)), some (.int x1), some (.int x2), some (.int x3), none] rfl ?_
      exact v_X1_nextChange_b43 X ih4 hM
    · rw [if_neg c26] at hM
      refine g_iload_n X dX1_nextChange_29 rfl ?_
      refine g_iconst X (v := (-1)) dX1_nextChange_30 (by decide) ?_
      refine g_icmp_eq (tgt := 40) X dX1_nextChange_31 (by decide) (fun c31 => ?_) (fun c31 => ?_)
      · rw [if_pos c31] at hM
        refine g_mk [true, true, false, true, true] [some (.ref (B + 136)), some (.int x1), none, some (.int x3), some (.int w18)] rfl ?_
        exact v_X1_nextChange_b40 X ih4 hM
      · rw [if_neg c31] at hM
        refine g_iload X dX1_nextChange_34 rfl ?_
        refine g_iload_n X dX1_nextChange_36 rfl ?_
        refine g_icmp_ge (tgt := 43) X dX1_nextChange_37 (by decide) (fun c37 => ?_) (fun c37 => ?_)
        · rw [if_pos c37] at hM
          refine g_mk [true, true, true, true, false] [some (.ref (B + 136)), some (.int x1), some (.int x2), some (.int x3), none] rfl ?_
          exact v_X1_nextChange_b43 X ih4 hM
        · rw [if_neg c37] at hM
          refine g_mk [true, true, false, true, true] [some (.ref (B + 136)), some (.int x1), none, some (.int x3), some (.int w18)] rfl ?_
          exact v_X1_nextChange_b40 X ih4 hM
theorem v_X1_nextChange_l4 {κ : gK} {B : Nat} {u : gM} (X : gX κ B skC cX1_nextChange 5 RX1 (some .int) 4 97)   : ∀ (n : Nat) {x1 : Int32} {x2 : Int32} {x3 : Int32} {w : Int32} (hM : X1_nextChange_l4 u  n x1 x2 x3 = some w), gV κ B skC 5 ((some (.int w)), u) 4 [some (.ref (B + 136)), some (.int x1), some (.int x2), some (.int x3), none] [] u := by
  intro n
  induction n with
  | zero => intro x1 x2 x3 w hM; exact nomatch (show (none : Option Int32) = some w from hM)
  | succ n ihn => intro x1 x2 x3 w hM; exact v_X1_nextChange_b4 X  (fun x1 x2 x3 w h => ihn h) hM
set_option maxRecDepth 20000 in
theorem v_X1_nextChange {κ : gK} {B : Nat} {u : gM} (X : gX κ B skC cX1_nextChange 5 RX1 (some .int) 4 97)   {x1 : Int32} {w : Int32} (hM : X1_nextChange u x1 = some w) : gV κ B skC 5 ((some (.int w)), u) 0 [some (.ref (B + 136)), some (.int x1), none, none, none] [] u := by
  unfold X1_nextChange at hM
  refine g_iconst X (v := (-1)) dX1_nextChange_0 (by decide) ?_
  refine g_istore_n X [some (.ref (B + 136)), some (.int x1), some (.int (-1)), none, none] dX1_nextChange_1 (by decide) rfl ?_
  refine g_iconst X (v := 0) dX1_nextChange_2 (by decide) ?_
  refine g_istore_n X [some (.ref (B + 136)), some (.int x1), some (.int (-1)), some (.int 0), none] dX1_nextChange_3 (by decide) rfl ?_
  refine g_mk [true, true, true, true, false] [some (.ref (B + 136)), some (.int x1), some (.int (-1)), some (.int 0), none] rfl ?_
  exact v_X1_nextChange_l4 X  fz hM
theorem s_X1_nextChange {x1 : Int32} {u : gM} {w : Int32} (hM : X1_nextChange u x1 = some w) : gMet skC yX1_nextChange cX1_nextChange 5 (some .int) 4 97 (fun B adK => [.ref (B + 136), .int x1]) u ((fun _ => some (.int w)), u) := by
  refine gMet.of (by decide) (fun _ _ => Nat.le_of_ble_eq_true rfl) (fun κ B X => ?_)
  have X : gX κ B skC cX1_nextChange 5 RX1 (some .int) 4 97 := X
  refine g_mk [true, true, false, false, false] [some (.ref (B + 136)), some (.int x1), none, none, none] rfl ?_
  exact v_X1_nextChange X  hM

/-! CoverDesk.isMonth(I)Z -/
theorem dX11_isMonth_0 : decode cX11_isMonth 0 = .ok (.iload_n 0, 1) := by decide +kernel
theorem dX11_isMonth_1 : decode cX11_isMonth 1 = .ok (.ifCond .lt 14, 3) := by decide +kernel
theorem dX11_isMonth_4 : decode cX11_isMonth 4 = .ok (.iload_n 0, 1) := by decide +kernel
theorem dX11_isMonth_5 : decode cX11_isMonth 5 = .ok (.sipush 999, 3) := by decide +kernel
theorem dX11_isMonth_8 : decode cX11_isMonth 8 = .ok (.if_icmp .gt 7, 3) := by decide +kernel
theorem dX11_isMonth_11 : decode cX11_isMonth 11 = .ok (.iconst 1, 1) := by decide +kernel
theorem dX11_isMonth_12 : decode cX11_isMonth 12 = .ok (.goto 4, 3) := by decide +kernel
theorem dX11_isMonth_15 : decode cX11_isMonth 15 = .ok (.iconst 0, 1) := by decide +kernel
theorem dX11_isMonth_16 : decode cX11_isMonth 16 = .ok (.ireturn, 1) := by decide +kernel
def X11_isMonth_b16 (u : gM)  (s0 : Int32) : Option Int32 :=
bI s0
def X11_isMonth_b15 (u : gM)   : Option Int32 :=
(X11_isMonth_b16 u 0)
def X11_isMonth (u : gM)  (x0 : Int32) : Option Int32 :=
(if x0 < 0 then (X11_isMonth_b15 u)
  else (if 999 < x0 then (X11_isMonth_b15 u)
    else (X11_isMonth_b16 u 1)))
set_option maxRecDepth 20000 in
theorem v_X11_isMonth_b16 {κ : gK} {B : Nat} {u : gM} (X : gX κ B skC cX11_isMonth 1 RX11 (some .boolean) 0 0)   {s0 : Int32} {w : Int32} (hM : X11_isMonth_b16 u s0 = some w) : gV κ B skC 1 ((some (.int w)), u) 16 [none] [.int s0] u := by
  unfold X11_isMonth_b16 at hM
  obtain ⟨hv, rfl⟩ := bI_of hM
  exact g_zret X hv dX11_isMonth_16
set_option maxRecDepth 20000 in
theorem v_X11_isMonth_b15 {κ : gK} {B : Nat} {u : gM} (X : gX κ B skC cX11_isMonth 1 RX11 (some .boolean) 0 0)    {w : Int32} (hM : X11_isMonth_b15 u = some w) : gV κ B skC 1 ((some (.int w)), u) 15 [none] [] u := by
  unfold X11_isMonth_b15 at hM
  refine g_iconst X (v := 0) dX11_isMonth_15 (by decide) ?_
  refine g_mk [false] [none] rfl ?_
  exact v_X11_isMonth_b16 X  hM
set_option maxRecDepth 20000 in
theorem v_X11_isMonth {κ : gK} {B : Nat} {u : gM} (X : gX κ B skC cX11_isMonth 1 RX11 (some .boolean) 0 0)   {x0 : Int32} {w : Int32} (hM : X11_isMonth u x0 = some w) : gV κ B skC 1 ((some (.int w)), u) 0 [some (.int x0)] [] u := by
  unfold X11_isMonth at hM
  refine g_iload_n X dX11_isMonth_0 rfl ?_
  refine g_if_lt (tgt := 15) X dX11_isMonth_1 (by decide) (fun c1 => ?_) (fun c1 => ?_)
  · rw [if_pos c1] at hM
    refine g_mk [false] [none] rfl ?_
    exact v_X11_isMonth_b15 X  hM
  · rw [if_neg c1] at hM
    refine g_iload_n X dX11_isMonth_4 rfl ?_
    refine g_sipush X (v := 999) dX11_isMonth_5 (by decide) ?_
    refine g_icmp_gt (tgt := 15) X dX11_isMonth_8 (by decide) (fun c8 => ?_) (fun c8 => ?_)
    · rw [if_pos c8] at hM
      refine g_mk [false] [none] rfl ?_
      exact v_X11_isMonth_b15 X  hM
    · rw [if_neg c8] at hM
      refine g_iconst X (v := 1) dX11_isMonth_11 (by decide) ?_
      refine g_goto (tgt := 16) X dX11_isMonth_12 (by decide) ?_
      refine g_mk [false] [none] rfl ?_
      exact v_X11_isMonth_b16 X  hM
theorem s_X11_isMonth {x0 : Int32} {u : gM} {w : Int32} (hM : X11_isMonth u x0 = some w) : gMet skC yX11_isMonth cX11_isMonth 1 (some .boolean) 0 0 (fun B adK => [.int x0]) u ((fun _ => some (.int w)), u) := by
  refine gMet.of (by decide) (fun _ _ => Nat.le_of_ble_eq_true rfl) (fun κ B X => ?_)
  have X : gX κ B skC cX11_isMonth 1 RX11 (some .boolean) 0 0 := X
  refine g_mk [true] [some (.int x0)] rfl ?_
  exact v_X11_isMonth X  hM

/-! CoverDesk.change(I)I -/
theorem dX11_change_0 : decode cX11_change 0 = .ok (.aload_n 0, 1) := by decide +kernel
theorem dX11_change_1 : decode cX11_change 1 = .ok (.getfield 26, 3) := by decide +kernel
theorem dX11_change_4 : decode cX11_change 4 = .ok (.getfield 191, 3) := by decide +kernel
theorem dX11_change_7 : decode cX11_change 7 = .ok (.istore_n 2, 1) := by decide +kernel
theorem dX11_change_8 : decode cX11_change 8 = .ok (.iconst 0, 1) := by decide +kernel
theorem dX11_change_9 : decode cX11_change 9 = .ok (.istore_n 3, 1) := by decide +kernel
theorem dX11_change_10 : decode cX11_change 10 = .ok (.iload_n 3, 1) := by decide +kernel
theorem dX11_change_11 : decode cX11_change 11 = .ok (.sipush 999, 3) := by decide +kernel
theorem dX11_change_14 : decode cX11_change 14 = .ok (.if_icmp .gt 43, 3) := by decide +kernel
theorem dX11_change_17 : decode cX11_change 17 = .ok (.aload_n 0, 1) := by decide +kernel
theorem dX11_change_18 : decode cX11_change 18 = .ok (.getfield 60, 3) := by decide +kernel
theorem dX11_change_21 : decode cX11_change 21 = .ok (.iload_n 2, 1) := by decide +kernel
theorem dX11_change_22 : decode cX11_change 22 = .ok (.invokevirtual 304, 3) := by decide +kernel
theorem dX11_change_25 : decode cX11_change 25 = .ok (.istore_n 2, 1) := by decide +kernel
theorem dX11_change_26 : decode cX11_change 26 = .ok (.iload_n 2, 1) := by decide +kernel
theorem dX11_change_27 : decode cX11_change 27 = .ok (.invokestatic 265, 3) := by decide +kernel
theorem dX11_change_30 : decode cX11_change 30 = .ok (.ifCond .ne 14, 3) := by decide +kernel
theorem dX11_change_33 : decode cX11_change 33 = .ok (.iload_n 1, 1) := by decide +kernel
theorem dX11_change_34 : decode cX11_change 34 = .ok (.iconst (-1), 1) := by decide +kernel
theorem dX11_change_35 : decode cX11_change 35 = .ok (.if_icmp .ne 7, 3) := by decide +kernel
theorem dX11_change_38 : decode cX11_change 38 = .ok (.iload_n 3, 1) := by decide +kernel
theorem dX11_change_39 : decode cX11_change 39 = .ok (.goto 4, 3) := by decide +kernel
theorem dX11_change_42 : decode cX11_change 42 = .ok (.iconst (-1), 1) := by decide +kernel
theorem dX11_change_43 : decode cX11_change 43 = .ok (.ireturn, 1) := by decide +kernel
theorem dX11_change_44 : decode cX11_change 44 = .ok (.iload_n 3, 1) := by decide +kernel
theorem dX11_change_45 : decode cX11_change 45 = .ok (.iload_n 1, 1) := by decide +kernel
theorem dX11_change_46 : decode cX11_change 46 = .ok (.if_icmp .ne 5, 3) := by decide +kernel
theorem dX11_change_49 : decode cX11_change 49 = .ok (.iload_n 2, 1) := by decide +kernel
theorem dX11_change_50 : decode cX11_change 50 = .ok (.ireturn, 1) := by decide +kernel
theorem dX11_change_51 : decode cX11_change 51 = .ok (.iinc 3 1, 3) := by decide +kernel
theorem dX11_change_54 : decode cX11_change 54 = .ok (.goto (-44), 3) := by decide +kernel
theorem dX11_change_57 : decode cX11_change 57 = .ok (.iconst (-1), 1) := by decide +kernel
theorem dX11_change_58 : decode cX11_change 58 = .ok (.ireturn, 1) := by decide +kernel
def X11_change_b43 (u : gM)  (s0 : Int32) : Option Int32 :=
some s0
def X11_change_b10 (u : gM) (k10 : Int32 → Int32 → Int32 → Option Int32) (x1 : Int32) (x2 : Int32) (x3 : Int32) : Option Int32 :=
(if 999 < x3 then some (-1)
  else ((X1_nextChange u x2).bind fun w22 => ((X11_isMonth u w22).bind fun w27 => (if w27 = 0 then (if x1 = (-1) then (X11_change_b43 u x3)
      else (X11_change_b43 u (-1)))
    else (if x3 = x1 then some w22
      else (k10 x1 w22 (x3 + 1)))))))
def X11_change_l10 (u : gM)  : Nat → Int32 → Int32 → Int32 → Option Int32
  | 0, _, _, _ => none
  | n + 1, x1, x2, x3 => X11_change_b10 u  (X11_change_l10 u  n) x1 x2 x3
def X11_change (u : gM)  (x1 : Int32) : Option Int32 :=
(X11_change_l10 u fz x1 (u.1 18 0) 0)
set_option maxRecDepth 20000 in
theorem v_X11_change_b43 {κ : gK} {B : Nat} {u : gM} (X : gX κ B skC cX11_change 4 RX11 (some .int) 5 121)   {s0 : Int32} {w : Int32} (hM : X11_change_b43 u s0 = some w) : gV κ B skC 4 ((some (.int w)), u) 43 [none, none, none, none] [.int s0] u := by
  unfold X11_change_b43 at hM
  cases hM
  exact g_iret X dX11_change_43
set_option maxRecDepth 20000 in
theorem v_X11_change_b10 {κ : gK} {B : Nat} {u : gM} (X : gX κ B skC cX11_change 4 RX11 (some .int) 5 121) {k10 : Int32 → Int32 → Int32 → Option Int32} (ih10 : ∀ (x1 : Int32) (x2 : Int32) (x3 : Int32) (w : Int32), k10 x1 x2 x3 = some w → gV κ B skC 4 ((some (.int w)), u) 10 [some (.ref (B + 0)), some (.int x1), some (.int x2), some (.int x3)] [] u) {x1 : Int32} {x2 : Int32} {x3 : Int32} {w : Int32} (hM : X11_change_b10 u k10 x1 x2 x3 = some w) : gV κ B skC 4 ((some (.int w)), u) 10 [some (.ref (B + 0)), some (.int x1), some (.int x2), some (.int x3)] [] u := by
  unfold X11_change_b10 at hM
  refine g_iload_n X dX11_change_10 rfl ?_
  refine g_sipush X (v := 999) dX11_change_11 (by decide) ?_
  refine g_icmp_gt (tgt := 57) X dX11_change_14 (by decide) (fun c14 => ?_) (fun c14 => ?_)
  · rw [if_pos c14] at hM
    refine g_iconst X (v := (-1)) dX11_change_57 (by decide) ?_
    cases hM
    exact g_iret X dX11_change_58
  · rw [if_neg c14] at hM
    refine g_aload_n X dX11_change_17 rfl ?_
    refine g_getR X fX11_60 cC_0 rfl dX11_change_18 ?_
    refine g_iload_n X dX11_change_21 rfl ?_
    obtain ⟨w22, e22, hM⟩ := bind_of hM
    refine g_callVi X (fun B adK => [.int x2]) (s_X1_nextChange e22) cvX11_304 cC_136 rfl rfl (Nat.le_of_ble_eq_true rfl) ⟨by decide, by decide⟩ dX11_change_22 ?_
    refine g_istore_n X [some (.ref (B + 0)), some (.int x1), some (.int w22), some (.int x3)] dX11_change_25 (by decide) rfl ?_
    refine g_iload_n X dX11_change_26 rfl ?_
    obtain ⟨w27, e27, hM⟩ := bind_of hM
    refine g_callSi X (fun B adK => [.int w22]) (s_X11_isMonth e27) cvX11_265 rfl rfl (Nat.le_of_ble_eq_true rfl) ⟨by decide, by decide⟩ dX11_change_27 ?_
    refine g_if_ne (tgt := 44) X dX11_change_30 (by decide) (fun c30 => ?_) (fun c30 => ?_)
    · rw [if_neg c30] at hM
      refine g_iload_n X dX11_change_44 rfl ?_
      refine g_iload_n X dX11_change_45 rfl ?_
      refine g_icmp_ne (tgt := 51) X dX11_change_46 (by decide) (fun c46 => ?_) (fun c46 => ?_)
      · rw [if_neg c46] at hM
        refine g_iinc (d := 1) X [some (.ref (B + 0)), some (.int x1), some (.int w22), some (.int (x3 + 1))] dX11_change_51 (by decide) rfl (by decide) rfl ?_
        refine g_goto (tgt := 10) X dX11_change_54 (by decide) ?_
        refine g_mk [true, true, true, true] [some (.ref (B + 0)), some (.int x1), some (.int w22), some (.int (x3 + 1))] rfl ?_
        exact ih10 x1 w22 (x3 + 1) _ hM
      · rw [if_pos c46] at hM
        refine g_iload_n X dX11_change_49 rfl ?_
        cases hM
        exact g_iret X dX11_change_50
    · rw [if_pos c30] at hM
      refine g_iload_n X dX11_change_33 rfl ?_
      refine g_iconst X (v := (-1)) dX11_change_34 (by decide) ?_
      refine g_icmp_ne (tgt := 42) X dX11_change_35 (by decide) (fun c35 => ?_) (fun c35 => ?_)
      · rw [if_neg c35] at hM
        refine g_iconst X (v := (-1)) dX11_change_42 (by decide) ?_
        refine g_mk [false, false, false, false] [none, none, none, none] rfl ?_
        exact v_X11_change_b43 X  hM
      · rw [if_pos c35] at hM
        refine g_iload_n X dX11_change_38 rfl ?_
        refine g_goto (tgt := 43) X dX11_change_39 (by decide) ?_
        refine g_mk [false, false, false, false] [none, none, none, none] rfl ?_
        exact v_X11_change_b43 X  hM
theorem v_X11_change_l10 {κ : gK} {B : Nat} {u : gM} (X : gX κ B skC cX11_change 4 RX11 (some .int) 5 121)   : ∀ (n : Nat) {x1 : Int32} {x2 : Int32} {x3 : Int32} {w : Int32} (hM : X11_change_l10 u  n x1 x2 x3 = some w), gV κ B skC 4 ((some (.int w)), u) 10 [some (.ref (B + 0)), some (.int x1), some (.int x2), some (.int x3)] [] u := by
  intro n
  induction n with
  | zero => intro x1 x2 x3 w hM; exact nomatch (show (none : Option Int32) = some w from hM)
  | succ n ihn => intro x1 x2 x3 w hM; exact v_X11_change_b10 X  (fun x1 x2 x3 w h => ihn h) hM
set_option maxRecDepth 20000 in
theorem v_X11_change {κ : gK} {B : Nat} {u : gM} (X : gX κ B skC cX11_change 4 RX11 (some .int) 5 121)   {x1 : Int32} {w : Int32} (hM : X11_change u x1 = some w) : gV κ B skC 4 ((some (.int w)), u) 0 [some (.ref (B + 0)), some (.int x1), none, none] [] u := by
  unfold X11_change at hM
  refine g_aload_n X dX11_change_0 rfl ?_
  refine g_getR X fX11_26 cC_0 rfl dX11_change_1 ?_
  refine g_getI X fX11_191 cC_18 rfl dX11_change_4 ?_
  refine g_istore_n X [some (.ref (B + 0)), some (.int x1), some (.int (u.1 18 0)), none] dX11_change_7 (by decide) rfl ?_
  refine g_iconst X (v := 0) dX11_change_8 (by decide) ?_
  refine g_istore_n X [some (.ref (B + 0)), some (.int x1), some (.int (u.1 18 0)), some (.int 0)] dX11_change_9 (by decide) rfl ?_
  refine g_mk [true, true, true, true] [some (.ref (B + 0)), some (.int x1), some (.int (u.1 18 0)), some (.int 0)] rfl ?_
  exact v_X11_change_l10 X  fz hM
theorem s_X11_change {x1 : Int32} {u : gM} {w : Int32} (hM : X11_change u x1 = some w) : gMet skC yX11_change cX11_change 4 (some .int) 5 121 (fun B adK => [.ref (B + 0), .int x1]) u ((fun _ => some (.int w)), u) := by
  refine gMet.of (by decide) (fun _ _ => Nat.le_of_ble_eq_true rfl) (fun κ B X => ?_)
  have X : gX κ B skC cX11_change 4 RX11 (some .int) 5 121 := X
  refine g_mk [true, true, false, false] [some (.ref (B + 0)), some (.int x1), none, none] rfl ?_
  exact v_X11_change X  hM

/-! CoverDesk.coinsNowAt(I)J -/
theorem dX11_coinsNowAt_0 : decode cX11_coinsNowAt 0 = .ok (.lconst 0, 1) := by decide +kernel
theorem dX11_coinsNowAt_1 : decode cX11_coinsNowAt 1 = .ok (.lstore_n 2, 1) := by decide +kernel
theorem dX11_coinsNowAt_2 : decode cX11_coinsNowAt 2 = .ok (.iconst 0, 1) := by decide +kernel
theorem dX11_coinsNowAt_3 : decode cX11_coinsNowAt 3 = .ok (.istore 4, 2) := by decide +kernel
theorem dX11_coinsNowAt_5 : decode cX11_coinsNowAt 5 = .ok (.iload 4, 2) := by decide +kernel
theorem dX11_coinsNowAt_7 : decode cX11_coinsNowAt 7 = .ok (.aload_n 0, 1) := by decide +kernel
theorem dX11_coinsNowAt_8 : decode cX11_coinsNowAt 8 = .ok (.getfield 19, 3) := by decide +kernel
theorem dX11_coinsNowAt_11 : decode cX11_coinsNowAt 11 = .ok (.getfield 112, 3) := by decide +kernel
theorem dX11_coinsNowAt_14 : decode cX11_coinsNowAt 14 = .ok (.if_icmp .ge 44, 3) := by decide +kernel
theorem dX11_coinsNowAt_17 : decode cX11_coinsNowAt 17 = .ok (.aload_n 0, 1) := by decide +kernel
theorem dX11_coinsNowAt_18 : decode cX11_coinsNowAt 18 = .ok (.getfield 26, 3) := by decide +kernel
theorem dX11_coinsNowAt_21 : decode cX11_coinsNowAt 21 = .ok (.aload_n 0, 1) := by decide +kernel
theorem dX11_coinsNowAt_22 : decode cX11_coinsNowAt 22 = .ok (.getfield 19, 3) := by decide +kernel
theorem dX11_coinsNowAt_25 : decode cX11_coinsNowAt 25 = .ok (.getfield 184, 3) := by decide +kernel
theorem dX11_coinsNowAt_28 : decode cX11_coinsNowAt 28 = .ok (.iload 4, 2) := by decide +kernel
theorem dX11_coinsNowAt_30 : decode cX11_coinsNowAt 30 = .ok (.iaload, 1) := by decide +kernel
theorem dX11_coinsNowAt_31 : decode cX11_coinsNowAt 31 = .ok (.invokevirtual 187, 3) := by decide +kernel
theorem dX11_coinsNowAt_34 : decode cX11_coinsNowAt 34 = .ok (.iload_n 1, 1) := by decide +kernel
theorem dX11_coinsNowAt_35 : decode cX11_coinsNowAt 35 = .ok (.if_icmp .ne 17, 3) := by decide +kernel
theorem dX11_coinsNowAt_38 : decode cX11_coinsNowAt 38 = .ok (.lload_n 2, 1) := by decide +kernel
theorem dX11_coinsNowAt_39 : decode cX11_coinsNowAt 39 = .ok (.aload_n 0, 1) := by decide +kernel
theorem dX11_coinsNowAt_40 : decode cX11_coinsNowAt 40 = .ok (.getfield 26, 3) := by decide +kernel
theorem dX11_coinsNowAt_43 : decode cX11_coinsNowAt 43 = .ok (.getfield 198, 3) := by decide +kernel
theorem dX11_coinsNowAt_46 : decode cX11_coinsNowAt 46 = .ok (.iload 4, 2) := by decide +kernel
theorem dX11_coinsNowAt_48 : decode cX11_coinsNowAt 48 = .ok (.iaload, 1) := by decide +kernel
theorem dX11_coinsNowAt_49 : decode cX11_coinsNowAt 49 = .ok (.i2l, 1) := by decide +kernel
theorem dX11_coinsNowAt_50 : decode cX11_coinsNowAt 50 = .ok (.ladd, 1) := by decide +kernel
theorem dX11_coinsNowAt_51 : decode cX11_coinsNowAt 51 = .ok (.lstore_n 2, 1) := by decide +kernel
theorem dX11_coinsNowAt_52 : decode cX11_coinsNowAt 52 = .ok (.iinc 4 1, 3) := by decide +kernel
theorem dX11_coinsNowAt_55 : decode cX11_coinsNowAt 55 = .ok (.goto (-50), 3) := by decide +kernel
theorem dX11_coinsNowAt_58 : decode cX11_coinsNowAt 58 = .ok (.lload_n 2, 1) := by decide +kernel
theorem dX11_coinsNowAt_59 : decode cX11_coinsNowAt 59 = .ok (.lreturn, 1) := by decide +kernel
def X11_coinsNowAt_b52 (u : gM) (k5 : Int32 → Int64 → Int32 → Option Int64) (x1 : Int32) (x2 : Int64) (x4 : Int32) : Option Int64 :=
(k5 x1 x2 (x4 + 1))
def X11_coinsNowAt_b5 (u : gM) (k5 : Int32 → Int64 → Int32 → Option Int64) (x1 : Int32) (x2 : Int64) (x4 : Int32) : Option Int64 :=
(if (u.1 3 2) ≤ x4 then some x2
  else ((aI skC u 8 x4).bind fun v30 => ((X8_nowAt u 18 v30).bind fun w31 => (if w31 = x1 then ((aI skC u 19 x4).bind fun v48 => (X11_coinsNowAt_b52 u k5 x1 (x2 + v48.toInt64) x4))
    else (X11_coinsNowAt_b52 u k5 x1 x2 x4)))))
def X11_coinsNowAt_l5 (u : gM)  : Nat → Int32 → Int64 → Int32 → Option Int64
  | 0, _, _, _ => none
  | n + 1, x1, x2, x4 => X11_coinsNowAt_b5 u  (X11_coinsNowAt_l5 u  n) x1 x2 x4
def X11_coinsNowAt (u : gM)  (x1 : Int32) : Option Int64 :=
(X11_coinsNowAt_l5 u fz x1 0 0)
set_option maxRecDepth 20000 in
theorem v_X11_coinsNowAt_b52 {κ : gK} {B : Nat} {u : gM} (X : gX κ B skC cX11_coinsNowAt 5 RX11 (some .long) 2 44) {k5 : Int32 → Int64 → Int32 → Option Int64} (ih5 : ∀ (x1 : Int32) (x2 : Int64) (x4 : Int32) (w : Int64), k5 x1 x2 x4 = some w → gV κ B skC 5 ((some (.long w)), u) 5 [some (.ref (B + 0)), some (.int x1), some (.long x2), none, some (.int x4)] [] u) {x1 : Int32} {x2 : Int64} {x4 : Int32} {w : Int64} (hM : X11_coinsNowAt_b52 u k5 x1 x2 x4 = some w) : gV κ B skC 5 ((some (.long w)), u) 52 [some (.ref (B + 0)), some (.int x1), some (.long x2), none, some (.int x4)] [] u := by
  unfold X11_coinsNowAt_b52 at hM
  refine g_iinc (d := 1) X [some (.ref (B + 0)), some (.int x1), some (.long x2), none, some (.int (x4 + 1))] dX11_coinsNowAt_52 (by decide) rfl (by decide) rfl ?_
  refine g_goto (tgt := 5) X dX11_coinsNowAt_55 (by decide) ?_
  refine g_mk [true, true, true, false, true] [some (.ref (B + 0)), some (.int x1), some (.long x2), none, some (.int (x4 + 1))] rfl ?_
  exact ih5 x1 x2 (x4 + 1) _ hM
set_option maxRecDepth 20000 in
theorem v_X11_coinsNowAt_b5 {κ : gK} {B : Nat} {u : gM} (X : gX κ B skC cX11_coinsNowAt 5 RX11 (some .long) 2 44) {k5 : Int32 → Int64 → Int32 → Option Int64} (ih5 : ∀ (x1 : Int32) (x2 : Int64) (x4 : Int32) (w : Int64), k5 x1 x2 x4 = some w → gV κ B skC 5 ((some (.long w)), u) 5 [some (.ref (B + 0)), some (.int x1), some (.long x2), none, some (.int x4)] [] u) {x1 : Int32} {x2 : Int64} {x4 : Int32} {w : Int64} (hM : X11_coinsNowAt_b5 u k5 x1 x2 x4 = some w) : gV κ B skC 5 ((some (.long w)), u) 5 [some (.ref (B + 0)), some (.int x1), some (.long x2), none, some (.int x4)] [] u := by
  unfold X11_coinsNowAt_b5 at hM
  refine g_iload X dX11_coinsNowAt_5 rfl ?_
  refine g_aload_n X dX11_coinsNowAt_7 rfl ?_
  refine g_getR X fX11_19 cC_0 rfl dX11_coinsNowAt_8 ?_
  refine g_getI X fX11_112 cC_3 rfl dX11_coinsNowAt_11 ?_
  refine g_icmp_ge (tgt := 58) X dX11_coinsNowAt_14 (by decide) (fun c14 => ?_) (fun c14 => ?_)
  · rw [if_pos c14] at hM
    refine g_lload_n X dX11_coinsNowAt_58 rfl ?_
    cases hM
    exact g_lret X dX11_coinsNowAt_59
  · rw [if_neg c14] at hM
    refine g_aload_n X dX11_coinsNowAt_17 rfl ?_
    refine g_getR X fX11_26 cC_0 rfl dX11_coinsNowAt_18 ?_
    refine g_aload_n X dX11_coinsNowAt_21 rfl ?_
    refine g_getR X fX11_19 cC_0 rfl dX11_coinsNowAt_22 ?_
    refine g_getR X fX11_184 cC_3 rfl dX11_coinsNowAt_25 ?_
    refine g_iload X dX11_coinsNowAt_28 rfl ?_
    obtain ⟨v30, e30, hM⟩ := bind_of hM
    refine g_iaload X e30 dX11_coinsNowAt_30 ?_
    obtain ⟨w31, e31, hM⟩ := bind_of hM
    refine g_callVi X (fun B adK => [.int v30]) (s_X8_nowAt e31) cvX11_187 cC_18 rfl rfl (Nat.le_of_ble_eq_true rfl) ⟨by decide, by decide⟩ dX11_coinsNowAt_31 ?_
    refine g_iload_n X dX11_coinsNowAt_34 rfl ?_
    refine g_icmp_ne (tgt := 52) X dX11_coinsNowAt_35 (by decide) (fun c35 => ?_) (fun c35 => ?_)
    · rw [if_neg c35] at hM
      refine g_mk [true, true, true, false, true] [some (.ref (B + 0)), some (.int x1), some (.long x2), none, some (.int x4)] rfl ?_
      exact v_X11_coinsNowAt_b52 X ih5 hM
    · rw [if_pos c35] at hM
      refine g_lload_n X dX11_coinsNowAt_38 rfl ?_
      refine g_aload_n X dX11_coinsNowAt_39 rfl ?_
      refine g_getR X fX11_26 cC_0 rfl dX11_coinsNowAt_40 ?_
      refine g_getR X fX11_198 cC_18 rfl dX11_coinsNowAt_43 ?_
      refine g_iload X dX11_coinsNowAt_46 rfl ?_
      obtain ⟨v48, e48, hM⟩ := bind_of hM
      refine g_iaload X e48 dX11_coinsNowAt_48 ?_
      refine g_i2l X dX11_coinsNowAt_49 ?_
      refine g_ladd X dX11_coinsNowAt_50 ?_
      refine g_lstore_n X [some (.ref (B + 0)), some (.int x1), some (.long (x2 + v48.toInt64)), none, some (.int x4)] dX11_coinsNowAt_51 (by decide) rfl ?_
      refine g_mk [true, true, true, false, true] [some (.ref (B + 0)), some (.int x1), some (.long (x2 + v48.toInt64)), none, some (.int x4)] rfl ?_
      exact v_X11_coinsNowAt_b52 X ih5 hM
theorem v_X11_coinsNowAt_l5 {κ : gK} {B : Nat} {u : gM} (X : gX κ B skC cX11_coinsNowAt 5 RX11 (some .long) 2 44)   : ∀ (n : Nat) {x1 : Int32} {x2 : Int64} {x4 : Int32} {w : Int64} (hM : X11_coinsNowAt_l5 u  n x1 x2 x4 = some w), gV κ B skC 5 ((some (.long w)), u) 5 [some (.ref (B + 0)), some (.int x1), some (.long x2), none, some (.int x4)] [] u := by
  intro n
  induction n with
  | zero => intro x1 x2 x4 w hM; exact nomatch (show (none : Option Int64) = some w from hM)
  | succ n ihn => intro x1 x2 x4 w hM; exact v_X11_coinsNowAt_b5 X  (fun x1 x2 x4 w h => ihn h) hM
set_option maxRecDepth 20000 in
theorem v_X11_coinsNowAt {κ : gK} {B : Nat} {u : gM} (X : gX κ B skC cX11_coinsNowAt 5 RX11 (some .long) 2 44)   {x1 : Int32} {w : Int64} (hM : X11_coinsNowAt u x1 = some w) : gV κ B skC 5 ((some (.long w)), u) 0 [some (.ref (B + 0)), some (.int x1), none, none, none] [] u := by
  unfold X11_coinsNowAt at hM
  refine g_lconst (v := 0) X dX11_coinsNowAt_0 (by decide) ?_
  refine g_lstore_n X [some (.ref (B + 0)), some (.int x1), some (.long 0), none, none] dX11_coinsNowAt_1 (by decide) rfl ?_
  refine g_iconst X (v := 0) dX11_coinsNowAt_2 (by decide) ?_
  refine g_istore X [some (.ref (B + 0)), some (.int x1), some (.long 0), none, some (.int 0)] dX11_coinsNowAt_3 (by decide) rfl ?_
  refine g_mk [true, true, true, false, true] [some (.ref (B + 0)), some (.int x1), some (.long 0), none, some (.int 0)] rfl ?_
  exact v_X11_coinsNowAt_l5 X  fz hM
theorem s_X11_coinsNowAt {x1 : Int32} {u : gM} {w : Int64} (hM : X11_coinsNowAt u x1 = some w) : gMet skC yX11_coinsNowAt cX11_coinsNowAt 5 (some .long) 2 44 (fun B adK => [.ref (B + 0), .int x1]) u ((fun _ => some (.long w)), u) := by
  refine gMet.of (by decide) (fun _ _ => Nat.le_of_ble_eq_true rfl) (fun κ B X => ?_)
  have X : gX κ B skC cX11_coinsNowAt 5 RX11 (some .long) 2 44 := X
  refine g_mk [true, true, false, false, false] [some (.ref (B + 0)), some (.int x1), none, none, none] rfl ?_
  exact v_X11_coinsNowAt X  hM

/-! CoverDesk$DayReader.readCoinsOfAccount()Z -/
theorem dX2_readCoinsOfAccount_0 : decode cX2_readCoinsOfAccount 0 = .ok (.aload_n 0, 1) := by decide +kernel
theorem dX2_readCoinsOfAccount_1 : decode cX2_readCoinsOfAccount 1 = .ok (.getfield 21, 3) := by decide +kernel
theorem dX2_readCoinsOfAccount_4 : decode cX2_readCoinsOfAccount 4 = .ok (.invokevirtual 79, 3) := by decide +kernel
theorem dX2_readCoinsOfAccount_7 : decode cX2_readCoinsOfAccount 7 = .ok (.aload_n 0, 1) := by decide +kernel
theorem dX2_readCoinsOfAccount_8 : decode cX2_readCoinsOfAccount 8 = .ok (.getfield 21, 3) := by decide +kernel
theorem dX2_readCoinsOfAccount_11 : decode cX2_readCoinsOfAccount 11 = .ok (.iconst 0, 1) := by decide +kernel
theorem dX2_readCoinsOfAccount_12 : decode cX2_readCoinsOfAccount 12 = .ok (.ldc 82, 2) := by decide +kernel
theorem dX2_readCoinsOfAccount_14 : decode cX2_readCoinsOfAccount 14 = .ok (.invokevirtual 83, 3) := by decide +kernel
theorem dX2_readCoinsOfAccount_17 : decode cX2_readCoinsOfAccount 17 = .ok (.ifCond .ne 5, 3) := by decide +kernel
theorem dX2_readCoinsOfAccount_20 : decode cX2_readCoinsOfAccount 20 = .ok (.iconst 0, 1) := by decide +kernel
theorem dX2_readCoinsOfAccount_21 : decode cX2_readCoinsOfAccount 21 = .ok (.ireturn, 1) := by decide +kernel
theorem dX2_readCoinsOfAccount_22 : decode cX2_readCoinsOfAccount 22 = .ok (.aload_n 0, 1) := by decide +kernel
theorem dX2_readCoinsOfAccount_23 : decode cX2_readCoinsOfAccount 23 = .ok (.aload_n 0, 1) := by decide +kernel
theorem dX2_readCoinsOfAccount_24 : decode cX2_readCoinsOfAccount 24 = .ok (.getfield 21, 3) := by decide +kernel
theorem dX2_readCoinsOfAccount_27 : decode cX2_readCoinsOfAccount 27 = .ok (.getfield 87, 3) := by decide +kernel
theorem dX2_readCoinsOfAccount_30 : decode cX2_readCoinsOfAccount 30 = .ok (.putfield 58, 3) := by decide +kernel
theorem dX2_readCoinsOfAccount_33 : decode cX2_readCoinsOfAccount 33 = .ok (.aload_n 0, 1) := by decide +kernel
theorem dX2_readCoinsOfAccount_34 : decode cX2_readCoinsOfAccount 34 = .ok (.aload_n 0, 1) := by decide +kernel
theorem dX2_readCoinsOfAccount_35 : decode cX2_readCoinsOfAccount 35 = .ok (.getfield 25, 3) := by decide +kernel
theorem dX2_readCoinsOfAccount_38 : decode cX2_readCoinsOfAccount 38 = .ok (.aload_n 0, 1) := by decide +kernel
theorem dX2_readCoinsOfAccount_39 : decode cX2_readCoinsOfAccount 39 = .ok (.getfield 21, 3) := by decide +kernel
theorem dX2_readCoinsOfAccount_42 : decode cX2_readCoinsOfAccount 42 = .ok (.getfield 90, 3) := by decide +kernel
theorem dX2_readCoinsOfAccount_45 : decode cX2_readCoinsOfAccount 45 = .ok (.invokevirtual 94, 3) := by decide +kernel
theorem dX2_readCoinsOfAccount_48 : decode cX2_readCoinsOfAccount 48 = .ok (.putfield 55, 3) := by decide +kernel
theorem dX2_readCoinsOfAccount_51 : decode cX2_readCoinsOfAccount 51 = .ok (.aload_n 0, 1) := by decide +kernel
theorem dX2_readCoinsOfAccount_52 : decode cX2_readCoinsOfAccount 52 = .ok (.getfield 21, 3) := by decide +kernel
theorem dX2_readCoinsOfAccount_55 : decode cX2_readCoinsOfAccount 55 = .ok (.aload_n 0, 1) := by decide +kernel
theorem dX2_readCoinsOfAccount_56 : decode cX2_readCoinsOfAccount 56 = .ok (.getfield 55, 3) := by decide +kernel
theorem dX2_readCoinsOfAccount_59 : decode cX2_readCoinsOfAccount 59 = .ok (.invokevirtual 100, 3) := by decide +kernel
theorem dX2_readCoinsOfAccount_62 : decode cX2_readCoinsOfAccount 62 = .ok (.ireturn, 1) := by decide +kernel
def X2_readCoinsOfAccount_b51   (u : gM) : Option (Int32 × gM) :=
((X9_passKnown (u.1 132 6) u).bind fun w59 => ((bI w59.1).bind fun v62 => some (v62, w59.2)))
def X2_readCoinsOfAccount   (u : gM) : Option (Int32 × gM) :=
((X9_step u).bind fun w4 => ((X9_passNumber 0 100000000 w4).bind fun w14 => (if w14.1 = 0 then some (0, w14.2)
  else ((X10_accountNamed (upI w14.2 132 7 (w14.2.1 1 6)) 3 ((upI w14.2 132 7 (w14.2.1 1 6)).2 1 7)).bind fun w45 => (X2_readCoinsOfAccount_b51 (upI (upI w14.2 132 7 (w14.2.1 1 6)) 132 6 w45))))))
set_option maxRecDepth 20000 in
theorem v_X2_readCoinsOfAccount_b51 {κ : gK} {B : Nat} {u : gM} (X : gX κ B skC cX2_readCoinsOfAccount 1 RX2 (some .boolean) 7 167)    {w : (Int32 × gM)} (hM : X2_readCoinsOfAccount_b51 u = some w) : gV κ B skC 1 ((some (.int w.1)), w.2) 51 [some (.ref (B + 132))] [] u := by
  unfold X2_readCoinsOfAccount_b51 at hM
  refine g_aload_n X dX2_readCoinsOfAccount_51 rfl ?_
  refine g_getR X fX2_21 cC_132 rfl dX2_readCoinsOfAccount_52 ?_
  refine g_aload_n X dX2_readCoinsOfAccount_55 rfl ?_
  refine g_getI X fX2_55 cC_132 rfl dX2_readCoinsOfAccount_56 ?_
  obtain ⟨w59, e59, hM⟩ := bind_of hM
  refine g_callVi X (fun B adK => [.int (u.1 132 6)]) (s_X9_passKnown e59) cvX2_100 cC_1 rfl rfl (Nat.le_of_ble_eq_true rfl) ⟨by decide, by decide⟩ dX2_readCoinsOfAccount_59 ?_
  obtain ⟨v62, e62, hM⟩ := bind_of hM
  obtain ⟨hv, rfl⟩ := bI_of e62
  cases hM
  exact g_zret X hv dX2_readCoinsOfAccount_62
set_option maxRecDepth 20000 in
theorem v_X2_readCoinsOfAccount {κ : gK} {B : Nat} {u : gM} (X : gX κ B skC cX2_readCoinsOfAccount 1 RX2 (some .boolean) 7 167)    {w : (Int32 × gM)} (hM : X2_readCoinsOfAccount u = some w) : gV κ B skC 1 ((some (.int w.1)), w.2) 0 [some (.ref (B + 132))] [] u := by
  unfold X2_readCoinsOfAccount at hM
  refine g_aload_n X dX2_readCoinsOfAccount_0 rfl ?_
  refine g_getR X fX2_21 cC_132 rfl dX2_readCoinsOfAccount_1 ?_
  obtain ⟨w4, e4, hM⟩ := bind_of hM
  refine g_callVv X (fun B adK => []) (s_X9_step e4) cvX2_79 cC_1 rfl rfl (Nat.le_of_ble_eq_true rfl) ⟨by decide, by decide⟩ dX2_readCoinsOfAccount_4 ?_
  refine g_aload_n X dX2_readCoinsOfAccount_7 rfl ?_
  refine g_getR X fX2_21 cC_132 rfl dX2_readCoinsOfAccount_8 ?_
  refine g_iconst X (v := 0) dX2_readCoinsOfAccount_11 (by decide) ?_
  refine g_ldc (v := 100000000) X m_27_22 dX2_readCoinsOfAccount_12 ?_
  obtain ⟨w14, e14, hM⟩ := bind_of hM
  refine g_callVi X (fun B adK => [.int 0, .int 100000000]) (s_X9_passNumber e14) cvX2_83 cC_1 rfl rfl (Nat.le_of_ble_eq_true rfl) ⟨by decide, by decide⟩ dX2_readCoinsOfAccount_14 ?_
  refine g_if_ne (tgt := 22) X dX2_readCoinsOfAccount_17 (by decide) (fun c17 => ?_) (fun c17 => ?_)
  · rw [if_neg c17] at hM
    refine g_aload_n X dX2_readCoinsOfAccount_22 rfl ?_
    refine g_aload_n X dX2_readCoinsOfAccount_23 rfl ?_
    refine g_getR X fX2_21 cC_132 rfl dX2_readCoinsOfAccount_24 ?_
    refine g_getI X fX2_87 cC_1 rfl dX2_readCoinsOfAccount_27 ?_
    refine g_putI X fX2_58 gc_X2 gp_X2_7 cC_132 rfl dX2_readCoinsOfAccount_30 ?_
    refine g_aload_n X dX2_readCoinsOfAccount_33 rfl ?_
    refine g_aload_n X dX2_readCoinsOfAccount_34 rfl ?_
    refine g_getR X fX2_25 cC_132 rfl dX2_readCoinsOfAccount_35 ?_
    refine g_aload_n X dX2_readCoinsOfAccount_38 rfl ?_
    refine g_getR X fX2_21 cC_132 rfl dX2_readCoinsOfAccount_39 ?_
    refine g_getJ X fX2_90 cC_1 rfl dX2_readCoinsOfAccount_42 ?_
    obtain ⟨w45, e45, hM⟩ := bind_of hM
    refine g_callVi X (fun B adK => [.long ((upI w14.2 132 7 (w14.2.1 1 6)).2 1 7)]) (s_X10_accountNamed e45) cvX2_94 cC_3 rfl rfl (Nat.le_of_ble_eq_true rfl) ⟨by decide, by decide⟩ dX2_readCoinsOfAccount_45 ?_
    refine g_putI X fX2_55 gc_X2 gp_X2_6 cC_132 rfl dX2_readCoinsOfAccount_48 ?_
    refine g_mk [true] [some (.ref (B + 132))] rfl ?_
    exact v_X2_readCoinsOfAccount_b51 X  hM
  · rw [if_pos c17] at hM
    refine g_iconst X (v := 0) dX2_readCoinsOfAccount_20 (by decide) ?_
    cases hM
    exact g_zret X (Or.inl rfl) dX2_readCoinsOfAccount_21
theorem s_X2_readCoinsOfAccount  {u : gM} {w : (Int32 × gM)} (hM : X2_readCoinsOfAccount u = some w) : gMet skC yX2_readCoinsOfAccount cX2_readCoinsOfAccount 1 (some .boolean) 7 167 (fun B adK => [.ref (B + 132)]) u ((fun _ => some (.int w.1)), w.2) := by
  refine gMet.of (by decide) (fun _ _ => Nat.le_of_ble_eq_true rfl) (fun κ B X => ?_)
  have X : gX κ B skC cX2_readCoinsOfAccount 1 RX2 (some .boolean) 7 167 := X
  refine g_mk [true] [some (.ref (B + 132))] rfl ?_
  exact v_X2_readCoinsOfAccount X  hM
theorem fr_X2_readCoinsOfAccount_b51 {S : Nat → Prop} {u0 u : gM}  (hs0 : S 1)   {w : (Int32 × gM)} (hM : X2_readCoinsOfAccount_b51 u = some w) (h0 : off S u0 u) : off S u0 w.2 := by
  unfold X2_readCoinsOfAccount_b51 at hM
  obtain ⟨w59, e59, hM⟩ := bind_of hM
  have h0 := fr_X9_passKnown hs0 e59 h0
  obtain ⟨v62, e62, hM⟩ := bind_of hM
  cases hM
  exact h0
theorem fr_X2_readCoinsOfAccount {S : Nat → Prop} {u0 u : gM}  (hs0 : S 1) (hs1 : S 132)   {w : (Int32 × gM)} (hM : X2_readCoinsOfAccount u = some w) (h0 : off S u0 u) : off S u0 w.2 := by
  unfold X2_readCoinsOfAccount at hM
  obtain ⟨w4, e4, hM⟩ := bind_of hM
  have h0 := fr_X9_step hs0 e4 h0
  obtain ⟨w14, e14, hM⟩ := bind_of hM
  have h0 := fr_X9_passNumber hs0 e14 h0
  by_cases c17 : w14.1 = 0
  · rw [if_pos c17] at hM
    cases hM
    exact h0
  · rw [if_neg c17] at hM
    have h0 := off_upI (u := w14.2) (k := 132) (j := 7) (x := (w14.2.1 1 6)) hs1 h0
    obtain ⟨w45, e45, hM⟩ := bind_of hM
    have h0 := off_upI (u := (upI w14.2 132 7 (w14.2.1 1 6))) (k := 132) (j := 6) (x := w45) hs1 h0
    exact fr_X2_readCoinsOfAccount_b51 hs0  hM h0
/-! CoverDesk$DayReader.readMerger()Z -/
theorem dX2_readMerger_0 : decode cX2_readMerger 0 = .ok (.aload_n 0, 1) := by decide +kernel
theorem dX2_readMerger_1 : decode cX2_readMerger 1 = .ok (.getfield 21, 3) := by decide +kernel
theorem dX2_readMerger_4 : decode cX2_readMerger 4 = .ok (.invokevirtual 79, 3) := by decide +kernel
theorem dX2_readMerger_7 : decode cX2_readMerger 7 = .ok (.aload_n 0, 1) := by decide +kernel
theorem dX2_readMerger_8 : decode cX2_readMerger 8 = .ok (.aload_n 0, 1) := by decide +kernel
theorem dX2_readMerger_9 : decode cX2_readMerger 9 = .ok (.getfield 25, 3) := by decide +kernel
theorem dX2_readMerger_12 : decode cX2_readMerger 12 = .ok (.aload_n 0, 1) := by decide +kernel
theorem dX2_readMerger_13 : decode cX2_readMerger 13 = .ok (.getfield 21, 3) := by decide +kernel
theorem dX2_readMerger_16 : decode cX2_readMerger 16 = .ok (.getfield 90, 3) := by decide +kernel
theorem dX2_readMerger_19 : decode cX2_readMerger 19 = .ok (.invokevirtual 103, 3) := by decide +kernel
theorem dX2_readMerger_22 : decode cX2_readMerger 22 = .ok (.putfield 55, 3) := by decide +kernel
theorem dX2_readMerger_25 : decode cX2_readMerger 25 = .ok (.aload_n 0, 1) := by decide +kernel
theorem dX2_readMerger_26 : decode cX2_readMerger 26 = .ok (.getfield 21, 3) := by decide +kernel
theorem dX2_readMerger_29 : decode cX2_readMerger 29 = .ok (.aload_n 0, 1) := by decide +kernel
theorem dX2_readMerger_30 : decode cX2_readMerger 30 = .ok (.getfield 55, 3) := by decide +kernel
theorem dX2_readMerger_33 : decode cX2_readMerger 33 = .ok (.invokevirtual 100, 3) := by decide +kernel
theorem dX2_readMerger_36 : decode cX2_readMerger 36 = .ok (.ifCond .eq 15, 3) := by decide +kernel
theorem dX2_readMerger_39 : decode cX2_readMerger 39 = .ok (.aload_n 0, 1) := by decide +kernel
theorem dX2_readMerger_40 : decode cX2_readMerger 40 = .ok (.getfield 21, 3) := by decide +kernel
theorem dX2_readMerger_43 : decode cX2_readMerger 43 = .ok (.bipush 17, 2) := by decide +kernel
theorem dX2_readMerger_45 : decode cX2_readMerger 45 = .ok (.invokevirtual 106, 3) := by decide +kernel
theorem dX2_readMerger_48 : decode cX2_readMerger 48 = .ok (.ifCond .ne 5, 3) := by decide +kernel
theorem dX2_readMerger_51 : decode cX2_readMerger 51 = .ok (.iconst 0, 1) := by decide +kernel
theorem dX2_readMerger_52 : decode cX2_readMerger 52 = .ok (.ireturn, 1) := by decide +kernel
theorem dX2_readMerger_53 : decode cX2_readMerger 53 = .ok (.aload_n 0, 1) := by decide +kernel
theorem dX2_readMerger_54 : decode cX2_readMerger 54 = .ok (.aload_n 0, 1) := by decide +kernel
theorem dX2_readMerger_55 : decode cX2_readMerger 55 = .ok (.getfield 25, 3) := by decide +kernel
theorem dX2_readMerger_58 : decode cX2_readMerger 58 = .ok (.aload_n 0, 1) := by decide +kernel
theorem dX2_readMerger_59 : decode cX2_readMerger 59 = .ok (.getfield 21, 3) := by decide +kernel
theorem dX2_readMerger_62 : decode cX2_readMerger 62 = .ok (.getfield 90, 3) := by decide +kernel
theorem dX2_readMerger_65 : decode cX2_readMerger 65 = .ok (.invokevirtual 103, 3) := by decide +kernel
theorem dX2_readMerger_68 : decode cX2_readMerger 68 = .ok (.putfield 58, 3) := by decide +kernel
theorem dX2_readMerger_71 : decode cX2_readMerger 71 = .ok (.aload_n 0, 1) := by decide +kernel
theorem dX2_readMerger_72 : decode cX2_readMerger 72 = .ok (.getfield 21, 3) := by decide +kernel
theorem dX2_readMerger_75 : decode cX2_readMerger 75 = .ok (.aload_n 0, 1) := by decide +kernel
theorem dX2_readMerger_76 : decode cX2_readMerger 76 = .ok (.getfield 58, 3) := by decide +kernel
theorem dX2_readMerger_79 : decode cX2_readMerger 79 = .ok (.invokevirtual 100, 3) := by decide +kernel
theorem dX2_readMerger_82 : decode cX2_readMerger 82 = .ok (.ireturn, 1) := by decide +kernel
def X2_readMerger_b51   (u : gM) : Option (Int32 × gM) :=
some (0, u)
def X2_readMerger   (u : gM) : Option (Int32 × gM) :=
((X9_step u).bind fun w4 => ((X10_bankNamed w4 3 (w4.2 1 7)).bind fun w19 => ((X9_passKnown ((upI w4 132 6 w19).1 132 6) (upI w4 132 6 w19)).bind fun w33 => (if w33.1 = 0 then (X2_readMerger_b51 w33.2)
  else ((X9_passWord 17 w33.2).bind fun w45 => (if w45.1 = 0 then (X2_readMerger_b51 w45.2)
    else ((X10_bankNamed w45.2 3 (w45.2.2 1 7)).bind fun w65 => ((X9_passKnown ((upI w45.2 132 7 w65).1 132 7) (upI w45.2 132 7 w65)).bind fun w79 => ((bI w79.1).bind fun v82 => some (v82, w79.2))))))))))
set_option maxRecDepth 20000 in
theorem v_X2_readMerger_b51 {κ : gK} {B : Nat} {u : gM} (X : gX κ B skC cX2_readMerger 1 RX2 (some .boolean) 7 166)    {w : (Int32 × gM)} (hM : X2_readMerger_b51 u = some w) : gV κ B skC 1 ((some (.int w.1)), w.2) 51 [none] [] u := by
  unfold X2_readMerger_b51 at hM
  refine g_iconst X (v := 0) dX2_readMerger_51 (by decide) ?_
  cases hM
  exact g_zret X (Or.inl rfl) dX2_readMerger_52
set_option maxRecDepth 20000 in
theorem v_X2_readMerger {κ : gK} {B : Nat} {u : gM} (X : gX κ B skC cX2_readMerger 1 RX2 (some .boolean) 7 166)    {w : (Int32 × gM)} (hM : X2_readMerger u = some w) : gV κ B skC 1 ((some (.int w.1)), w.2) 0 [some (.ref (B + 132))] [] u := by
  unfold X2_readMerger at hM
  refine g_aload_n X dX2_readMerger_0 rfl ?_
  refine g_getR X fX2_21 cC_132 rfl dX2_readMerger_1 ?_
  obtain ⟨w4, e4, hM⟩ := bind_of hM
  refine g_callVv X (fun B adK => []) (s_X9_step e4) cvX2_79 cC_1 rfl rfl (Nat.le_of_ble_eq_true rfl) ⟨by decide, by decide⟩ dX2_readMerger_4 ?_
  refine g_aload_n X dX2_readMerger_7 rfl ?_
  refine g_aload_n X dX2_readMerger_8 rfl ?_
  refine g_getR X fX2_25 cC_132 rfl dX2_readMerger_9 ?_
  refine g_aload_n X dX2_readMerger_12 rfl ?_
  refine g_getR X fX2_21 cC_132 rfl dX2_readMerger_13 ?_
  refine g_getJ X fX2_90 cC_1 rfl dX2_readMerger_16 ?_
  obtain ⟨w19, e19, hM⟩ := bind_of hM
  refine g_callVi X (fun B adK => [.long (w4.2 1 7)]) (s_X10_bankNamed e19) cvX2_103 cC_3 rfl rfl (Nat.le_of_ble_eq_true rfl) ⟨by decide, by decide⟩ dX2_readMerger_19 ?_
  refine g_putI X fX2_55 gc_X2 gp_X2_6 cC_132 rfl dX2_readMerger_22 ?_
  refine g_aload_n X dX2_readMerger_25 rfl ?_
  refine g_getR X fX2_21 cC_132 rfl dX2_readMerger_26 ?_
  refine g_aload_n X dX2_readMerger_29 rfl ?_
  refine g_getI X fX2_55 cC_132 rfl dX2_readMerger_30 ?_
  obtain ⟨w33, e33, hM⟩ := bind_of hM
  refine g_callVi X (fun B adK => [.int ((upI w4 132 6 w19).1 132 6)]) (s_X9_passKnown e33) cvX2_100 cC_1 rfl rfl (Nat.le_of_ble_eq_true rfl) ⟨by decide, by decide⟩ dX2_readMerger_33 ?_
  refine g_if_eq (tgt := 51) X dX2_readMerger_36 (by decide) (fun c36 => ?_) (fun c36 => ?_)
  · rw [if_pos c36] at hM
    refine g_mk [false] [none] rfl ?_
    exact v_X2_readMerger_b51 X  hM
  · rw [if_neg c36] at hM
    refine g_aload_n X dX2_readMerger_39 rfl ?_
    refine g_getR X fX2_21 cC_132 rfl dX2_readMerger_40 ?_
    refine g_bipush X (v := 17) dX2_readMerger_43 (by decide) ?_
    obtain ⟨w45, e45, hM⟩ := bind_of hM
    refine g_callVi X (fun B adK => [.int 17]) (s_X9_passWord e45) cvX2_106 cC_1 rfl rfl (Nat.le_of_ble_eq_true rfl) ⟨by decide, by decide⟩ dX2_readMerger_45 ?_
    refine g_if_ne (tgt := 53) X dX2_readMerger_48 (by decide) (fun c48 => ?_) (fun c48 => ?_)
    · rw [if_neg c48] at hM
      refine g_aload_n X dX2_readMerger_53 rfl ?_
      refine g_aload_n X dX2_readMerger_54 rfl ?_
      refine g_getR X fX2_25 cC_132 rfl dX2_readMerger_55 ?_
      refine g_aload_n X dX2_readMerger_58 rfl ?_
      refine g_getR X fX2_21 cC_132 rfl dX2_readMerger_59 ?_
      refine g_getJ X fX2_90 cC_1 rfl dX2_readMerger_62 ?_
      obtain ⟨w65, e65, hM⟩ := bind_of hM
      refine g_callVi X (fun B adK => [.long (w45.2.2 1 7)]) (s_X10_bankNamed e65) cvX2_103 cC_3 rfl rfl (Nat.le_of_ble_eq_true rfl) ⟨by decide, by decide⟩ dX2_readMerger_65 ?_
      refine g_putI X fX2_58 gc_X2 gp_X2_7 cC_132 rfl dX2_readMerger_68 ?_
      refine g_aload_n X dX2_readMerger_71 rfl ?_
      refine g_getR X fX2_21 cC_132 rfl dX2_readMerger_72 ?_
      refine g_aload_n X dX2_readMerger_75 rfl ?_
      refine g_getI X fX2_58 cC_132 rfl dX2_readMerger_76 ?_
      obtain ⟨w79, e79, hM⟩ := bind_of hM
      refine g_callVi X (fun B adK => [.int ((upI w45.2 132 7 w65).1 132 7)]) (s_X9_passKnown e79) cvX2_100 cC_1 rfl rfl (Nat.le_of_ble_eq_true rfl) ⟨by decide, by decide⟩ dX2_readMerger_79 ?_
      obtain ⟨v82, e82, hM⟩ := bind_of hM
      obtain ⟨hv, rfl⟩ := bI_of e82
      cases hM
      exact g_zret X hv dX2_readMerger_82
    · rw [if_pos c48] at hM
      refine g_mk [false] [none] rfl ?_
      exact v_X2_readMerger_b51 X  hM
theorem s_X2_readMerger  {u : gM} {w : (Int32 × gM)} (hM : X2_readMerger u = some w) : gMet skC yX2_readMerger cX2_readMerger 1 (some .boolean) 7 166 (fun B adK => [.ref (B + 132)]) u ((fun _ => some (.int w.1)), w.2) := by
  refine gMet.of (by decide) (fun _ _ => Nat.le_of_ble_eq_true rfl) (fun κ B X => ?_)
  have X : gX κ B skC cX2_readMerger 1 RX2 (some .boolean) 7 166 := X
  refine g_mk [true] [some (.ref (B + 132))] rfl ?_
  exact v_X2_readMerger X  hM
theorem fr_X2_readMerger_b51 {S : Nat → Prop} {u0 u : gM}     {w : (Int32 × gM)} (hM : X2_readMerger_b51 u = some w) (h0 : off S u0 u) : off S u0 w.2 := by
  unfold X2_readMerger_b51 at hM
  cases hM
  exact h0
theorem fr_X2_readMerger {S : Nat → Prop} {u0 u : gM}  (hs0 : S 1) (hs1 : S 132)   {w : (Int32 × gM)} (hM : X2_readMerger u = some w) (h0 : off S u0 u) : off S u0 w.2 := by
  unfold X2_readMerger at hM
  obtain ⟨w4, e4, hM⟩ := bind_of hM
  have h0 := fr_X9_step hs0 e4 h0
  obtain ⟨w19, e19, hM⟩ := bind_of hM
  have h0 := off_upI (u := w4) (k := 132) (j := 6) (x := w19) hs1 h0
  obtain ⟨w33, e33, hM⟩ := bind_of hM
  have h0 := fr_X9_passKnown hs0 e33 h0
  by_cases c36 : w33.1 = 0
  · rw [if_pos c36] at hM
    exact fr_X2_readMerger_b51   hM h0
  · rw [if_neg c36] at hM
    obtain ⟨w45, e45, hM⟩ := bind_of hM
    have h0 := fr_X9_passWord hs0 e45 h0
    by_cases c48 : w45.1 = 0
    · rw [if_pos c48] at hM
      exact fr_X2_readMerger_b51   hM h0
    · rw [if_neg c48] at hM
      obtain ⟨w65, e65, hM⟩ := bind_of hM
      have h0 := off_upI (u := w45.2) (k := 132) (j := 7) (x := w65) hs1 h0
      obtain ⟨w79, e79, hM⟩ := bind_of hM
      have h0 := fr_X9_passKnown hs0 e79 h0
      obtain ⟨v82, e82, hM⟩ := bind_of hM
      cases hM
      exact h0
/-! CoverDesk$DayReader.readMonths()Z -/
theorem dX2_readMonths_0 : decode cX2_readMonths 0 = .ok (.aload_n 0, 1) := by decide +kernel
theorem dX2_readMonths_1 : decode cX2_readMonths 1 = .ok (.getfield 21, 3) := by decide +kernel
theorem dX2_readMonths_4 : decode cX2_readMonths 4 = .ok (.invokevirtual 79, 3) := by decide +kernel
theorem dX2_readMonths_7 : decode cX2_readMonths 7 = .ok (.aload_n 0, 1) := by decide +kernel
theorem dX2_readMonths_8 : decode cX2_readMonths 8 = .ok (.getfield 21, 3) := by decide +kernel
theorem dX2_readMonths_11 : decode cX2_readMonths 11 = .ok (.iconst 0, 1) := by decide +kernel
theorem dX2_readMonths_12 : decode cX2_readMonths 12 = .ok (.ldc 82, 2) := by decide +kernel
theorem dX2_readMonths_14 : decode cX2_readMonths 14 = .ok (.invokevirtual 83, 3) := by decide +kernel
theorem dX2_readMonths_17 : decode cX2_readMonths 17 = .ok (.ifCond .ne 5, 3) := by decide +kernel
theorem dX2_readMonths_20 : decode cX2_readMonths 20 = .ok (.iconst 0, 1) := by decide +kernel
theorem dX2_readMonths_21 : decode cX2_readMonths 21 = .ok (.ireturn, 1) := by decide +kernel
theorem dX2_readMonths_22 : decode cX2_readMonths 22 = .ok (.aload_n 0, 1) := by decide +kernel
theorem dX2_readMonths_23 : decode cX2_readMonths 23 = .ok (.aload_n 0, 1) := by decide +kernel
theorem dX2_readMonths_24 : decode cX2_readMonths 24 = .ok (.getfield 21, 3) := by decide +kernel
theorem dX2_readMonths_27 : decode cX2_readMonths 27 = .ok (.getfield 87, 3) := by decide +kernel
theorem dX2_readMonths_30 : decode cX2_readMonths 30 = .ok (.putfield 55, 3) := by decide +kernel
theorem dX2_readMonths_33 : decode cX2_readMonths 33 = .ok (.aload_n 0, 1) := by decide +kernel
theorem dX2_readMonths_34 : decode cX2_readMonths 34 = .ok (.iconst 0, 1) := by decide +kernel
theorem dX2_readMonths_35 : decode cX2_readMonths 35 = .ok (.putfield 58, 3) := by decide +kernel
theorem dX2_readMonths_38 : decode cX2_readMonths 38 = .ok (.iconst 1, 1) := by decide +kernel
theorem dX2_readMonths_39 : decode cX2_readMonths 39 = .ok (.ireturn, 1) := by decide +kernel
def X2_readMonths   (u : gM) : Option (Int32 × gM) :=
((X9_step u).bind fun w4 => ((X9_passNumber 0 100000000 w4).bind fun w14 => (if w14.1 = 0 then some (0, w14.2)
  else some (1, upI (upI w14.2 132 6 (w14.2.1 1 6)) 132 7 0))))
set_option maxRecDepth 20000 in
theorem v_X2_readMonths {κ : gK} {B : Nat} {u : gM} (X : gX κ B skC cX2_readMonths 1 RX2 (some .boolean) 7 167)    {w : (Int32 × gM)} (hM : X2_readMonths u = some w) : gV κ B skC 1 ((some (.int w.1)), w.2) 0 [some (.ref (B + 132))] [] u := by
  unfold X2_readMonths at hM
  refine g_aload_n X dX2_readMonths_0 rfl ?_
  refine g_getR X fX2_21 cC_132 rfl dX2_readMonths_1 ?_
  obtain ⟨w4, e4, hM⟩ := bind_of hM
  refine g_callVv X (fun B adK => []) (s_X9_step e4) cvX2_79 cC_1 rfl rfl (Nat.le_of_ble_eq_true rfl) ⟨by decide, by decide⟩ dX2_readMonths_4 ?_
  refine g_aload_n X dX2_readMonths_7 rfl ?_
  refine g_getR X fX2_21 cC_132 rfl dX2_readMonths_8 ?_
  refine g_iconst X (v := 0) dX2_readMonths_11 (by decide) ?_
  refine g_ldc (v := 100000000) X m_27_22 dX2_readMonths_12 ?_
  obtain ⟨w14, e14, hM⟩ := bind_of hM
  refine g_callVi X (fun B adK => [.int 0, .int 100000000]) (s_X9_passNumber e14) cvX2_83 cC_1 rfl rfl (Nat.le_of_ble_eq_true rfl) ⟨by decide, by decide⟩ dX2_readMonths_14 ?_
  refine g_if_ne (tgt := 22) X dX2_readMonths_17 (by decide) (fun c17 => ?_) (fun c17 => ?_)
  · rw [if_neg c17] at hM
    refine g_aload_n X dX2_readMonths_22 rfl ?_
    refine g_aload_n X dX2_readMonths_23 rfl ?_
    refine g_getR X fX2_21 cC_132 rfl dX2_readMonths_24 ?_
    refine g_getI X fX2_87 cC_1 rfl dX2_readMonths_27 ?_
    refine g_putI X fX2_55 gc_X2 gp_X2_6 cC_132 rfl dX2_readMonths_30 ?_
    refine g_aload_n X dX2_readMonths_33 rfl ?_
    refine g_iconst X (v := 0) dX2_readMonths_34 (by decide) ?_
    refine g_putI X fX2_58 gc_X2 gp_X2_7 cC_132 rfl dX2_readMonths_35 ?_
    refine g_iconst X (v := 1) dX2_readMonths_38 (by decide) ?_
    cases hM
    exact g_zret X (Or.inr rfl) dX2_readMonths_39
  · rw [if_pos c17] at hM
    refine g_iconst X (v := 0) dX2_readMonths_20 (by decide) ?_
    cases hM
    exact g_zret X (Or.inl rfl) dX2_readMonths_21
theorem s_X2_readMonths  {u : gM} {w : (Int32 × gM)} (hM : X2_readMonths u = some w) : gMet skC yX2_readMonths cX2_readMonths 1 (some .boolean) 7 167 (fun B adK => [.ref (B + 132)]) u ((fun _ => some (.int w.1)), w.2) := by
  refine gMet.of (by decide) (fun _ _ => Nat.le_of_ble_eq_true rfl) (fun κ B X => ?_)
  have X : gX κ B skC cX2_readMonths 1 RX2 (some .boolean) 7 167 := X
  refine g_mk [true] [some (.ref (B + 132))] rfl ?_
  exact v_X2_readMonths X  hM
theorem fr_X2_readMonths {S : Nat → Prop} {u0 u : gM}  (hs0 : S 1) (hs1 : S 132)   {w : (Int32 × gM)} (hM : X2_readMonths u = some w) (h0 : off S u0 u) : off S u0 w.2 := by
  unfold X2_readMonths at hM
  obtain ⟨w4, e4, hM⟩ := bind_of hM
  have h0 := fr_X9_step hs0 e4 h0
  obtain ⟨w14, e14, hM⟩ := bind_of hM
  have h0 := fr_X9_passNumber hs0 e14 h0
  by_cases c17 : w14.1 = 0
  · rw [if_pos c17] at hM
    cases hM
    exact h0
  · rw [if_neg c17] at hM
    have h0 := off_upI (u := w14.2) (k := 132) (j := 6) (x := (w14.2.1 1 6)) hs1 h0
    have h0 := off_upI (u := (upI w14.2 132 6 (w14.2.1 1 6))) (k := 132) (j := 7) (x := 0) hs1 h0
    cases hM
    exact h0
/-! CoverDesk$DayReader.readPayment()Z -/
theorem dX2_readPayment_0 : decode cX2_readPayment 0 = .ok (.aload_n 0, 1) := by decide +kernel
theorem dX2_readPayment_1 : decode cX2_readPayment 1 = .ok (.getfield 21, 3) := by decide +kernel
theorem dX2_readPayment_4 : decode cX2_readPayment 4 = .ok (.invokevirtual 79, 3) := by decide +kernel
theorem dX2_readPayment_7 : decode cX2_readPayment 7 = .ok (.aload_n 0, 1) := by decide +kernel
theorem dX2_readPayment_8 : decode cX2_readPayment 8 = .ok (.getfield 21, 3) := by decide +kernel
theorem dX2_readPayment_11 : decode cX2_readPayment 11 = .ok (.iconst 0, 1) := by decide +kernel
theorem dX2_readPayment_12 : decode cX2_readPayment 12 = .ok (.ldc 82, 2) := by decide +kernel
theorem dX2_readPayment_14 : decode cX2_readPayment 14 = .ok (.invokevirtual 83, 3) := by decide +kernel
theorem dX2_readPayment_17 : decode cX2_readPayment 17 = .ok (.ifCond .ne 5, 3) := by decide +kernel
theorem dX2_readPayment_20 : decode cX2_readPayment 20 = .ok (.iconst 0, 1) := by decide +kernel
theorem dX2_readPayment_21 : decode cX2_readPayment 21 = .ok (.ireturn, 1) := by decide +kernel
theorem dX2_readPayment_22 : decode cX2_readPayment 22 = .ok (.aload_n 0, 1) := by decide +kernel
theorem dX2_readPayment_23 : decode cX2_readPayment 23 = .ok (.aload_n 0, 1) := by decide +kernel
theorem dX2_readPayment_24 : decode cX2_readPayment 24 = .ok (.getfield 21, 3) := by decide +kernel
theorem dX2_readPayment_27 : decode cX2_readPayment 27 = .ok (.getfield 87, 3) := by decide +kernel
theorem dX2_readPayment_30 : decode cX2_readPayment 30 = .ok (.putfield 55, 3) := by decide +kernel
theorem dX2_readPayment_33 : decode cX2_readPayment 33 = .ok (.aload_n 0, 1) := by decide +kernel
theorem dX2_readPayment_34 : decode cX2_readPayment 34 = .ok (.getfield 21, 3) := by decide +kernel
theorem dX2_readPayment_37 : decode cX2_readPayment 37 = .ok (.iconst 0, 1) := by decide +kernel
theorem dX2_readPayment_38 : decode cX2_readPayment 38 = .ok (.ldc 82, 2) := by decide +kernel
theorem dX2_readPayment_40 : decode cX2_readPayment 40 = .ok (.invokevirtual 83, 3) := by decide +kernel
theorem dX2_readPayment_43 : decode cX2_readPayment 43 = .ok (.ifCond .ne 5, 3) := by decide +kernel
theorem dX2_readPayment_46 : decode cX2_readPayment 46 = .ok (.iconst 0, 1) := by decide +kernel
theorem dX2_readPayment_47 : decode cX2_readPayment 47 = .ok (.ireturn, 1) := by decide +kernel
theorem dX2_readPayment_48 : decode cX2_readPayment 48 = .ok (.aload_n 0, 1) := by decide +kernel
theorem dX2_readPayment_49 : decode cX2_readPayment 49 = .ok (.aload_n 0, 1) := by decide +kernel
theorem dX2_readPayment_50 : decode cX2_readPayment 50 = .ok (.getfield 21, 3) := by decide +kernel
theorem dX2_readPayment_53 : decode cX2_readPayment 53 = .ok (.getfield 87, 3) := by decide +kernel
theorem dX2_readPayment_56 : decode cX2_readPayment 56 = .ok (.putfield 58, 3) := by decide +kernel
theorem dX2_readPayment_59 : decode cX2_readPayment 59 = .ok (.iconst 1, 1) := by decide +kernel
theorem dX2_readPayment_60 : decode cX2_readPayment 60 = .ok (.ireturn, 1) := by decide +kernel
def X2_readPayment   (u : gM) : Option (Int32 × gM) :=
((X9_step u).bind fun w4 => ((X9_passNumber 0 100000000 w4).bind fun w14 => (if w14.1 = 0 then some (0, w14.2)
  else ((X9_passNumber 0 100000000 (upI w14.2 132 6 (w14.2.1 1 6))).bind fun w40 => (if w40.1 = 0 then some (0, w40.2)
    else some (1, upI w40.2 132 7 (w40.2.1 1 6)))))))
set_option maxRecDepth 20000 in
theorem v_X2_readPayment {κ : gK} {B : Nat} {u : gM} (X : gX κ B skC cX2_readPayment 1 RX2 (some .boolean) 7 167)    {w : (Int32 × gM)} (hM : X2_readPayment u = some w) : gV κ B skC 1 ((some (.int w.1)), w.2) 0 [some (.ref (B + 132))] [] u := by
  unfold X2_readPayment at hM
  refine g_aload_n X dX2_readPayment_0 rfl ?_
  refine g_getR X fX2_21 cC_132 rfl dX2_readPayment_1 ?_
  obtain ⟨w4, e4, hM⟩ := bind_of hM
  refine g_callVv X (fun B adK => []) (s_X9_step e4) cvX2_79 cC_1 rfl rfl (Nat.le_of_ble_eq_true rfl) ⟨by decide, by decide⟩ dX2_readPayment_4 ?_
  refine g_aload_n X dX2_readPayment_7 rfl ?_
  refine g_getR X fX2_21 cC_132 rfl dX2_readPayment_8 ?_
  refine g_iconst X (v := 0) dX2_readPayment_11 (by decide) ?_
  refine g_ldc (v := 100000000) X m_27_22 dX2_readPayment_12 ?_
  obtain ⟨w14, e14, hM⟩ := bind_of hM
  refine g_callVi X (fun B adK => [.int 0, .int 100000000]) (s_X9_passNumber e14) cvX2_83 cC_1 rfl rfl (Nat.le_of_ble_eq_true rfl) ⟨by decide, by decide⟩ dX2_readPayment_14 ?_
  refine g_if_ne (tgt := 22) X dX2_readPayment_17 (by decide) (fun c17 => ?_) (fun c17 => ?_)
  · rw [if_neg c17] at hM
    refine g_aload_n X dX2_readPayment_22 rfl ?_
    refine g_aload_n X dX2_readPayment_23 rfl ?_
    refine g_getR X fX2_21 cC_132 rfl dX2_readPayment_24 ?_
    refine g_getI X fX2_87 cC_1 rfl dX2_readPayment_27 ?_
    refine g_putI X fX2_55 gc_X2 gp_X2_6 cC_132 rfl dX2_readPayment_30 ?_
    refine g_aload_n X dX2_readPayment_33 rfl ?_
    refine g_getR X fX2_21 cC_132 rfl dX2_readPayment_34 ?_
    refine g_iconst X (v := 0) dX2_readPayment_37 (by decide) ?_
    refine g_ldc (v := 100000000) X m_27_22 dX2_readPayment_38 ?_
    obtain ⟨w40, e40, hM⟩ := bind_of hM
    refine g_callVi X (fun B adK => [.int 0, .int 100000000]) (s_X9_passNumber e40) cvX2_83 cC_1 rfl rfl (Nat.le_of_ble_eq_true rfl) ⟨by decide, by decide⟩ dX2_readPayment_40 ?_
    refine g_if_ne (tgt := 48) X dX2_readPayment_43 (by decide) (fun c43 => ?_) (fun c43 => ?_)
    · rw [if_neg c43] at hM
      refine g_aload_n X dX2_readPayment_48 rfl ?_
      refine g_aload_n X dX2_readPayment_49 rfl ?_
      refine g_getR X fX2_21 cC_132 rfl dX2_readPayment_50 ?_
      refine g_getI X fX2_87 cC_1 rfl dX2_readPayment_53 ?_
      refine g_putI X fX2_58 gc_X2 gp_X2_7 cC_132 rfl dX2_readPayment_56 ?_
      refine g_iconst X (v := 1) dX2_readPayment_59 (by decide) ?_
      cases hM
      exact g_zret X (Or.inr rfl) dX2_readPayment_60
    · rw [if_pos c43] at hM
      refine g_iconst X (v := 0) dX2_readPayment_46 (by decide) ?_
      cases hM
      exact g_zret X (Or.inl rfl) dX2_readPayment_47
  · rw [if_pos c17] at hM
    refine g_iconst X (v := 0) dX2_readPayment_20 (by decide) ?_
    cases hM
    exact g_zret X (Or.inl rfl) dX2_readPayment_21
theorem s_X2_readPayment  {u : gM} {w : (Int32 × gM)} (hM : X2_readPayment u = some w) : gMet skC yX2_readPayment cX2_readPayment 1 (some .boolean) 7 167 (fun B adK => [.ref (B + 132)]) u ((fun _ => some (.int w.1)), w.2) := by
  refine gMet.of (by decide) (fun _ _ => Nat.le_of_ble_eq_true rfl) (fun κ B X => ?_)
  have X : gX κ B skC cX2_readPayment 1 RX2 (some .boolean) 7 167 := X
  refine g_mk [true] [some (.ref (B + 132))] rfl ?_
  exact v_X2_readPayment X  hM
theorem fr_X2_readPayment {S : Nat → Prop} {u0 u : gM}  (hs0 : S 1) (hs1 : S 132)   {w : (Int32 × gM)} (hM : X2_readPayment u = some w) (h0 : off S u0 u) : off S u0 w.2 := by
  unfold X2_readPayment at hM
  obtain ⟨w4, e4, hM⟩ := bind_of hM
  have h0 := fr_X9_step hs0 e4 h0
  obtain ⟨w14, e14, hM⟩ := bind_of hM
  have h0 := fr_X9_passNumber hs0 e14 h0
  by_cases c17 : w14.1 = 0
  · rw [if_pos c17] at hM
    cases hM
    exact h0
  · rw [if_neg c17] at hM
    have h0 := off_upI (u := w14.2) (k := 132) (j := 6) (x := (w14.2.1 1 6)) hs1 h0
    obtain ⟨w40, e40, hM⟩ := bind_of hM
    have h0 := fr_X9_passNumber hs0 e40 h0
    by_cases c43 : w40.1 = 0
    · rw [if_pos c43] at hM
      cases hM
      exact h0
    · rw [if_neg c43] at hM
      have h0 := off_upI (u := w40.2) (k := 132) (j := 7) (x := (w40.2.1 1 6)) hs1 h0
      cases hM
      exact h0
/-! CoverDesk$DayReader.readFailing()Z -/
theorem dX2_readFailing_0 : decode cX2_readFailing 0 = .ok (.aload_n 0, 1) := by decide +kernel
theorem dX2_readFailing_1 : decode cX2_readFailing 1 = .ok (.getfield 21, 3) := by decide +kernel
theorem dX2_readFailing_4 : decode cX2_readFailing 4 = .ok (.invokevirtual 79, 3) := by decide +kernel
theorem dX2_readFailing_7 : decode cX2_readFailing 7 = .ok (.aload_n 0, 1) := by decide +kernel
theorem dX2_readFailing_8 : decode cX2_readFailing 8 = .ok (.aload_n 0, 1) := by decide +kernel
theorem dX2_readFailing_9 : decode cX2_readFailing 9 = .ok (.getfield 25, 3) := by decide +kernel
theorem dX2_readFailing_12 : decode cX2_readFailing 12 = .ok (.aload_n 0, 1) := by decide +kernel
theorem dX2_readFailing_13 : decode cX2_readFailing 13 = .ok (.getfield 21, 3) := by decide +kernel
theorem dX2_readFailing_16 : decode cX2_readFailing 16 = .ok (.getfield 90, 3) := by decide +kernel
theorem dX2_readFailing_19 : decode cX2_readFailing 19 = .ok (.invokevirtual 103, 3) := by decide +kernel
theorem dX2_readFailing_22 : decode cX2_readFailing 22 = .ok (.putfield 55, 3) := by decide +kernel
theorem dX2_readFailing_25 : decode cX2_readFailing 25 = .ok (.aload_n 0, 1) := by decide +kernel
theorem dX2_readFailing_26 : decode cX2_readFailing 26 = .ok (.getfield 21, 3) := by decide +kernel
theorem dX2_readFailing_29 : decode cX2_readFailing 29 = .ok (.aload_n 0, 1) := by decide +kernel
theorem dX2_readFailing_30 : decode cX2_readFailing 30 = .ok (.getfield 55, 3) := by decide +kernel
theorem dX2_readFailing_33 : decode cX2_readFailing 33 = .ok (.invokevirtual 100, 3) := by decide +kernel
theorem dX2_readFailing_36 : decode cX2_readFailing 36 = .ok (.ifCond .eq 16, 3) := by decide +kernel
theorem dX2_readFailing_39 : decode cX2_readFailing 39 = .ok (.aload_n 0, 1) := by decide +kernel
theorem dX2_readFailing_40 : decode cX2_readFailing 40 = .ok (.getfield 21, 3) := by decide +kernel
theorem dX2_readFailing_43 : decode cX2_readFailing 43 = .ok (.iconst 0, 1) := by decide +kernel
theorem dX2_readFailing_44 : decode cX2_readFailing 44 = .ok (.ldc 82, 2) := by decide +kernel
theorem dX2_readFailing_46 : decode cX2_readFailing 46 = .ok (.invokevirtual 83, 3) := by decide +kernel
theorem dX2_readFailing_49 : decode cX2_readFailing 49 = .ok (.ifCond .ne 5, 3) := by decide +kernel
theorem dX2_readFailing_52 : decode cX2_readFailing 52 = .ok (.iconst 0, 1) := by decide +kernel
theorem dX2_readFailing_53 : decode cX2_readFailing 53 = .ok (.ireturn, 1) := by decide +kernel
theorem dX2_readFailing_54 : decode cX2_readFailing 54 = .ok (.aload_n 0, 1) := by decide +kernel
theorem dX2_readFailing_55 : decode cX2_readFailing 55 = .ok (.aload_n 0, 1) := by decide +kernel
theorem dX2_readFailing_56 : decode cX2_readFailing 56 = .ok (.getfield 21, 3) := by decide +kernel
theorem dX2_readFailing_59 : decode cX2_readFailing 59 = .ok (.getfield 87, 3) := by decide +kernel
theorem dX2_readFailing_62 : decode cX2_readFailing 62 = .ok (.putfield 58, 3) := by decide +kernel
theorem dX2_readFailing_65 : decode cX2_readFailing 65 = .ok (.iconst 1, 1) := by decide +kernel
theorem dX2_readFailing_66 : decode cX2_readFailing 66 = .ok (.ireturn, 1) := by decide +kernel
def X2_readFailing_b52   (u : gM) : Option (Int32 × gM) :=
some (0, u)
def X2_readFailing   (u : gM) : Option (Int32 × gM) :=
((X9_step u).bind fun w4 => ((X10_bankNamed w4 3 (w4.2 1 7)).bind fun w19 => ((X9_passKnown ((upI w4 132 6 w19).1 132 6) (upI w4 132 6 w19)).bind fun w33 => (if w33.1 = 0 then (X2_readFailing_b52 w33.2)
  else ((X9_passNumber 0 100000000 w33.2).bind fun w46 => (if w46.1 = 0 then (X2_readFailing_b52 w46.2)
    else some (1, upI w46.2 132 7 (w46.2.1 1 6))))))))
set_option maxRecDepth 20000 in
theorem v_X2_readFailing_b52 {κ : gK} {B : Nat} {u : gM} (X : gX κ B skC cX2_readFailing 1 RX2 (some .boolean) 7 167)    {w : (Int32 × gM)} (hM : X2_readFailing_b52 u = some w) : gV κ B skC 1 ((some (.int w.1)), w.2) 52 [none] [] u := by
  unfold X2_readFailing_b52 at hM
  refine g_iconst X (v := 0) dX2_readFailing_52 (by decide) ?_
  cases hM
  exact g_zret X (Or.inl rfl) dX2_readFailing_53
set_option maxRecDepth 20000 in
theorem v_X2_readFailing {κ : gK} {B : Nat} {u : gM} (X : gX κ B skC cX2_readFailing 1 RX2 (some .boolean) 7 167)    {w : (Int32 × gM)} (hM : X2_readFailing u = some w) : gV κ B skC 1 ((some (.int w.1)), w.2) 0 [some (.ref (B + 132))] [] u := by
  unfold X2_readFailing at hM
  refine g_aload_n X dX2_readFailing_0 rfl ?_
  refine g_getR X fX2_21 cC_132 rfl dX2_readFailing_1 ?_
  obtain ⟨w4, e4, hM⟩ := bind_of hM
  refine g_callVv X (fun B adK => []) (s_X9_step e4) cvX2_79 cC_1 rfl rfl (Nat.le_of_ble_eq_true rfl) ⟨by decide, by decide⟩ dX2_readFailing_4 ?_
  refine g_aload_n X dX2_readFailing_7 rfl ?_
  refine g_aload_n X dX2_readFailing_8 rfl ?_
  refine g_getR X fX2_25 cC_132 rfl dX2_readFailing_9 ?_
  refine g_aload_n X dX2_readFailing_12 rfl ?_
  refine g_getR X fX2_21 cC_132 rfl dX2_readFailing_13 ?_
  refine g_getJ X fX2_90 cC_1 rfl dX2_readFailing_16 ?_
  obtain ⟨w19, e19, hM⟩ := bind_of hM
  refine g_callVi X (fun B adK => [.long (w4.2 1 7)]) (s_X10_bankNamed e19) cvX2_103 cC_3 rfl rfl (Nat.le_of_ble_eq_true rfl) ⟨by decide, by decide⟩ dX2_readFailing_19 ?_
  refine g_putI X fX2_55 gc_X2 gp_X2_6 cC_132 rfl dX2_readFailing_22 ?_
  refine g_aload_n X dX2_readFailing_25 rfl ?_
  refine g_getR X fX2_21 cC_132 rfl dX2_readFailing_26 ?_
  refine g_aload_n X dX2_readFailing_29 rfl ?_
  refine g_getI X fX2_55 cC_132 rfl dX2_readFailing_30 ?_
  obtain ⟨w33, e33, hM⟩ := bind_of hM
  refine g_callVi X (fun B adK => [.int ((upI w4 132 6 w19).1 132 6)]) (s_X9_passKnown e33) cvX2_100 cC_1 rfl rfl (Nat.le_of_ble_eq_true rfl) ⟨by decide, by decide⟩ dX2_readFailing_33 ?_
  refine g_if_eq (tgt := 52) X dX2_readFailing_36 (by decide) (fun c36 => ?_) (fun c36 => ?_)
  · rw [if_pos c36] at hM
    refine g_mk [false] [none] rfl ?_
    exact v_X2_readFailing_b52 X  hM
  · rw [if_neg c36] at hM
    refine g_aload_n X dX2_readFailing_39 rfl ?_
    refine g_getR X fX2_21 cC_132 rfl dX2_readFailing_40 ?_
    refine g_iconst X (v := 0) dX2_readFailing_43 (by decide) ?_
    refine g_ldc (v := 100000000) X m_27_22 dX2_readFailing_44 ?_
    obtain ⟨w46, e46, hM⟩ := bind_of hM
    refine g_callVi X (fun B adK => [.int 0, .int 100000000]) (s_X9_passNumber e46) cvX2_83 cC_1 rfl rfl (Nat.le_of_ble_eq_true rfl) ⟨by decide, by decide⟩ dX2_readFailing_46 ?_
    refine g_if_ne (tgt := 54) X dX2_readFailing_49 (by decide) (fun c49 => ?_) (fun c49 => ?_)
    · rw [if_neg c49] at hM
      refine g_aload_n X dX2_readFailing_54 rfl ?_
      refine g_aload_n X dX2_readFailing_55 rfl ?_
      refine g_getR X fX2_21 cC_132 rfl dX2_readFailing_56 ?_
      refine g_getI X fX2_87 cC_1 rfl dX2_readFailing_59 ?_
      refine g_putI X fX2_58 gc_X2 gp_X2_7 cC_132 rfl dX2_readFailing_62 ?_
      refine g_iconst X (v := 1) dX2_readFailing_65 (by decide) ?_
      cases hM
      exact g_zret X (Or.inr rfl) dX2_readFailing_66
    · rw [if_pos c49] at hM
      refine g_mk [false] [none] rfl ?_
      exact v_X2_readFailing_b52 X  hM
theorem s_X2_readFailing  {u : gM} {w : (Int32 × gM)} (hM : X2_readFailing u = some w) : gMet skC yX2_readFailing cX2_readFailing 1 (some .boolean) 7 167 (fun B adK => [.ref (B + 132)]) u ((fun _ => some (.int w.1)), w.2) := by
  refine gMet.of (by decide) (fun _ _ => Nat.le_of_ble_eq_true rfl) (fun κ B X => ?_)
  have X : gX κ B skC cX2_readFailing 1 RX2 (some .boolean) 7 167 := X
  refine g_mk [true] [some (.ref (B + 132))] rfl ?_
  exact v_X2_readFailing X  hM
theorem fr_X2_readFailing_b52 {S : Nat → Prop} {u0 u : gM}     {w : (Int32 × gM)} (hM : X2_readFailing_b52 u = some w) (h0 : off S u0 u) : off S u0 w.2 := by
  unfold X2_readFailing_b52 at hM
  cases hM
  exact h0
theorem fr_X2_readFailing {S : Nat → Prop} {u0 u : gM}  (hs0 : S 1) (hs1 : S 132)   {w : (Int32 × gM)} (hM : X2_readFailing u = some w) (h0 : off S u0 u) : off S u0 w.2 := by
  unfold X2_readFailing at hM
  obtain ⟨w4, e4, hM⟩ := bind_of hM
  have h0 := fr_X9_step hs0 e4 h0
  obtain ⟨w19, e19, hM⟩ := bind_of hM
  have h0 := off_upI (u := w4) (k := 132) (j := 6) (x := w19) hs1 h0
  obtain ⟨w33, e33, hM⟩ := bind_of hM
  have h0 := fr_X9_passKnown hs0 e33 h0
  by_cases c36 : w33.1 = 0
  · rw [if_pos c36] at hM
    exact fr_X2_readFailing_b52   hM h0
  · rw [if_neg c36] at hM
    obtain ⟨w46, e46, hM⟩ := bind_of hM
    have h0 := fr_X9_passNumber hs0 e46 h0
    by_cases c49 : w46.1 = 0
    · rw [if_pos c49] at hM
      exact fr_X2_readFailing_b52   hM h0
    · rw [if_neg c49] at hM
      have h0 := off_upI (u := w46.2) (k := 132) (j := 7) (x := (w46.2.1 1 6)) hs1 h0
      cases hM
      exact h0
/-! CoverDesk$DayReader.readDeed(I)Z -/
theorem dX2_readDeed_0 : decode cX2_readDeed 0 = .ok (.iload_n 1, 1) := by decide +kernel
theorem dX2_readDeed_1 : decode cX2_readDeed 1 = .ok (.tableswitch 68 14 20 #[43, 43, 48, 68, 53, 58, 63], 43) := by decide +kernel
theorem dX2_readDeed_44 : decode cX2_readDeed 44 = .ok (.aload_n 0, 1) := by decide +kernel
theorem dX2_readDeed_45 : decode cX2_readDeed 45 = .ok (.invokevirtual 64, 3) := by decide +kernel
theorem dX2_readDeed_48 : decode cX2_readDeed 48 = .ok (.ireturn, 1) := by decide +kernel
theorem dX2_readDeed_49 : decode cX2_readDeed 49 = .ok (.aload_n 0, 1) := by decide +kernel
theorem dX2_readDeed_50 : decode cX2_readDeed 50 = .ok (.invokevirtual 67, 3) := by decide +kernel
theorem dX2_readDeed_53 : decode cX2_readDeed 53 = .ok (.ireturn, 1) := by decide +kernel
theorem dX2_readDeed_54 : decode cX2_readDeed 54 = .ok (.aload_n 0, 1) := by decide +kernel
theorem dX2_readDeed_55 : decode cX2_readDeed 55 = .ok (.invokevirtual 70, 3) := by decide +kernel
theorem dX2_readDeed_58 : decode cX2_readDeed 58 = .ok (.ireturn, 1) := by decide +kernel
theorem dX2_readDeed_59 : decode cX2_readDeed 59 = .ok (.aload_n 0, 1) := by decide +kernel
theorem dX2_readDeed_60 : decode cX2_readDeed 60 = .ok (.invokevirtual 73, 3) := by decide +kernel
theorem dX2_readDeed_63 : decode cX2_readDeed 63 = .ok (.ireturn, 1) := by decide +kernel
theorem dX2_readDeed_64 : decode cX2_readDeed 64 = .ok (.aload_n 0, 1) := by decide +kernel
theorem dX2_readDeed_65 : decode cX2_readDeed 65 = .ok (.invokevirtual 76, 3) := by decide +kernel
theorem dX2_readDeed_68 : decode cX2_readDeed 68 = .ok (.ireturn, 1) := by decide +kernel
theorem dX2_readDeed_69 : decode cX2_readDeed 69 = .ok (.aload_n 0, 1) := by decide +kernel
theorem dX2_readDeed_70 : decode cX2_readDeed 70 = .ok (.getfield 21, 3) := by decide +kernel
theorem dX2_readDeed_73 : decode cX2_readDeed 73 = .ok (.iconst 1, 1) := by decide +kernel
theorem dX2_readDeed_74 : decode cX2_readDeed 74 = .ok (.invokevirtual 61, 3) := by decide +kernel
theorem dX2_readDeed_77 : decode cX2_readDeed 77 = .ok (.ireturn, 1) := by decide +kernel
def X2_readDeed_b44   (u : gM) : Option (Int32 × gM) :=
((X2_readCoinsOfAccount u).bind fun w45 => ((bI w45.1).bind fun v48 => some (v48, w45.2)))
def X2_readDeed_b69   (u : gM) : Option (Int32 × gM) :=
((X9_refuse 1 u).bind fun w74 => ((bI w74.1).bind fun v77 => some (v77, w74.2)))
def X2_readDeed  (x1 : Int32) (u : gM) : Option (Int32 × gM) :=
(if x1 = 14 then (X2_readDeed_b44 u)
  else (if x1 = 15 then (X2_readDeed_b44 u)
  else (if x1 = 16 then ((X2_readMerger u).bind fun w50 => ((bI w50.1).bind fun v53 => some (v53, w50.2)))
  else (if x1 = 17 then (X2_readDeed_b69 u)
  else (if x1 = 18 then ((X2_readMonths u).bind fun w55 => ((bI w55.1).bind fun v58 => some (v58, w55.2)))
  else (if x1 = 19 then ((X2_readPayment u).bind fun w60 => ((bI w60.1).bind fun v63 => some (v63, w60.2)))
  else (if x1 = 20 then ((X2_readFailing u).bind fun w65 => ((bI w65.1).bind fun v68 => some (v68, w65.2)))
  else (X2_readDeed_b69 u))))))))
set_option maxRecDepth 20000 in
theorem v_X2_readDeed_b44 {κ : gK} {B : Nat} {u : gM} (X : gX κ B skC cX2_readDeed 2 RX2 (some .boolean) 8 187)    {w : (Int32 × gM)} (hM : X2_readDeed_b44 u = some w) : gV κ B skC 2 ((some (.int w.1)), w.2) 44 [some (.ref (B + 132)), none] [] u := by
  unfold X2_readDeed_b44 at hM
  refine g_aload_n X dX2_readDeed_44 rfl ?_
  obtain ⟨w45, e45, hM⟩ := bind_of hM
  refine g_callVi X (fun B adK => []) (s_X2_readCoinsOfAccount e45) cvX2_64 cC_132 rfl rfl (Nat.le_of_ble_eq_true rfl) ⟨by decide, by decide⟩ dX2_readDeed_45 ?_
  obtain ⟨v48, e48, hM⟩ := bind_of hM
  obtain ⟨hv, rfl⟩ := bI_of e48
  cases hM
  exact g_zret X hv dX2_readDeed_48
set_option maxRecDepth 20000 in
theorem v_X2_readDeed_b69 {κ : gK} {B : Nat} {u : gM} (X : gX κ B skC cX2_readDeed 2 RX2 (some .boolean) 8 187)    {w : (Int32 × gM)} (hM : X2_readDeed_b69 u = some w) : gV κ B skC 2 ((some (.int w.1)), w.2) 69 [some (.ref (B + 132)), none] [] u := by
  unfold X2_readDeed_b69 at hM
  refine g_aload_n X dX2_readDeed_69 rfl ?_
  refine g_getR X fX2_21 cC_132 rfl dX2_readDeed_70 ?_
  refine g_iconst X (v := 1) dX2_readDeed_73 (by decide) ?_
  obtain ⟨w74, e74, hM⟩ := bind_of hM
  refine g_callVi X (fun B adK => [.int 1]) (s_X9_refuse e74) cvX2_61 cC_1 rfl rfl (Nat.le_of_ble_eq_true rfl) ⟨by decide, by decide⟩ dX2_readDeed_74 ?_
  obtain ⟨v77, e77, hM⟩ := bind_of hM
  obtain ⟨hv, rfl⟩ := bI_of e77
  cases hM
  exact g_zret X hv dX2_readDeed_77
set_option maxRecDepth 20000 in
theorem v_X2_readDeed {κ : gK} {B : Nat} {u : gM} (X : gX κ B skC cX2_readDeed 2 RX2 (some .boolean) 8 187)   {x1 : Int32} {w : (Int32 × gM)} (hM : X2_readDeed x1 u = some w) : gV κ B skC 2 ((some (.int w.1)), w.2) 0 [some (.ref (B + 132)), some (.int x1)] [] u := by
  unfold X2_readDeed at hM
  refine g_iload_n X dX2_readDeed_0 rfl ?_
  by_cases h1_14 : x1 = 14
  · rw [if_pos h1_14] at hM
    refine g_tabIn (tgt := 44) (off := 43) X 14 h1_14 dX2_readDeed_1 (by decide) (by decide) (by decide) (by decide) ?_
    refine g_mk [true, false] [some (.ref (B + 132)), none] rfl ?_
    exact v_X2_readDeed_b44 X  hM
  rw [if_neg h1_14] at hM
  by_cases h1_15 : x1 = 15
  · rw [if_pos h1_15] at hM
    refine g_tabIn (tgt := 44) (off := 43) X 15 h1_15 dX2_readDeed_1 (by decide) (by decide) (by decide) (by decide) ?_
    refine g_mk [true, false] [some (.ref (B + 132)), none] rfl ?_
    exact v_X2_readDeed_b44 X  hM
  rw [if_neg h1_15] at hM
  by_cases h1_16 : x1 = 16
  · rw [if_pos h1_16] at hM
    refine g_tabIn (tgt := 49) (off := 48) X 16 h1_16 dX2_readDeed_1 (by decide) (by decide) (by decide) (by decide) ?_
    refine g_aload_n X dX2_readDeed_49 rfl ?_
    obtain ⟨w50, e50, hM⟩ := bind_of hM
    refine g_callVi X (fun B adK => []) (s_X2_readMerger e50) cvX2_67 cC_132 rfl rfl (Nat.le_of_ble_eq_true rfl) ⟨by decide, by decide⟩ dX2_readDeed_50 ?_
    obtain ⟨v53, e53, hM⟩ := bind_of hM
    obtain ⟨hv, rfl⟩ := bI_of e53
    cases hM
    exact g_zret X hv dX2_readDeed_53
  rw [if_neg h1_16] at hM
  by_cases h1_17 : x1 = 17
  · rw [if_pos h1_17] at hM
    refine g_tabIn (tgt := 69) (off := 68) X 17 h1_17 dX2_readDeed_1 (by decide) (by decide) (by decide) (by decide) ?_
    refine g_mk [true, false] [some (.ref (B + 132)), none] rfl ?_
    exact v_X2_readDeed_b69 X  hM
  rw [if_neg h1_17] at hM
  by_cases h1_18 : x1 = 18
  · rw [if_pos h1_18] at hM
    refine g_tabIn (tgt := 54) (off := 53) X 18 h1_18 dX2_readDeed_1 (by decide) (by decide) (by decide) (by decide) ?_
    refine g_aload_n X dX2_readDeed_54 rfl ?_
    obtain ⟨w55, e55, hM⟩ := bind_of hM
    refine g_callVi X (fun B adK => []) (s_X2_readMonths e55) cvX2_70 cC_132 rfl rfl (Nat.le_of_ble_eq_true rfl) ⟨by decide, by decide⟩ dX2_readDeed_55 ?_
    obtain ⟨v58, e58, hM⟩ := bind_of hM
    obtain ⟨hv, rfl⟩ := bI_of e58
    cases hM
    exact g_zret X hv dX2_readDeed_58
  rw [if_neg h1_18] at hM
  by_cases h1_19 : x1 = 19
  · rw [if_pos h1_19] at hM
    refine g_tabIn (tgt := 59) (off := 58) X 19 h1_19 dX2_readDeed_1 (by decide) (by decide) (by decide) (by decide) ?_
    refine g_aload_n X dX2_readDeed_59 rfl ?_
    obtain ⟨w60, e60, hM⟩ := bind_of hM
    refine g_callVi X (fun B adK => []) (s_X2_readPayment e60) cvX2_73 cC_132 rfl rfl (Nat.le_of_ble_eq_true rfl) ⟨by decide, by decide⟩ dX2_readDeed_60 ?_
    obtain ⟨v63, e63, hM⟩ := bind_of hM
    obtain ⟨hv, rfl⟩ := bI_of e63
    cases hM
    exact g_zret X hv dX2_readDeed_63
  rw [if_neg h1_19] at hM
  by_cases h1_20 : x1 = 20
  · rw [if_pos h1_20] at hM
    refine g_tabIn (tgt := 64) (off := 63) X 20 h1_20 dX2_readDeed_1 (by decide) (by decide) (by decide) (by decide) ?_
    refine g_aload_n X dX2_readDeed_64 rfl ?_
    obtain ⟨w65, e65, hM⟩ := bind_of hM
    refine g_callVi X (fun B adK => []) (s_X2_readFailing e65) cvX2_76 cC_132 rfl rfl (Nat.le_of_ble_eq_true rfl) ⟨by decide, by decide⟩ dX2_readDeed_65 ?_
    obtain ⟨v68, e68, hM⟩ := bind_of hM
    obtain ⟨hv, rfl⟩ := bI_of e68
    cases hM
    exact g_zret X hv dX2_readDeed_68
  rw [if_neg h1_20] at hM
  refine g_tabOut (tgt := 69) X dX2_readDeed_1 (by have q0 := lv_neT (a := 14) h1_14 (by decide); have q1 := lv_neT (a := 15) h1_15 (by decide); have q2 := lv_neT (a := 16) h1_16 (by decide); have q3 := lv_neT (a := 17) h1_17 (by decide); have q4 := lv_neT (a := 18) h1_18 (by decide); have q5 := lv_neT (a := 19) h1_19 (by decide); have q6 := lv_neT (a := 20) h1_20 (by decide); omega) (by decide) ?_
  refine g_mk [true, false] [some (.ref (B + 132)), none] rfl ?_
  exact v_X2_readDeed_b69 X  hM
theorem s_X2_readDeed {x1 : Int32} {u : gM} {w : (Int32 × gM)} (hM : X2_readDeed x1 u = some w) : gMet skC yX2_readDeed cX2_readDeed 2 (some .boolean) 8 187 (fun B adK => [.ref (B + 132), .int x1]) u ((fun _ => some (.int w.1)), w.2) := by
  refine gMet.of (by decide) (fun _ _ => Nat.le_of_ble_eq_true rfl) (fun κ B X => ?_)
  have X : gX κ B skC cX2_readDeed 2 RX2 (some .boolean) 8 187 := X
  refine g_mk [true, true] [some (.ref (B + 132)), some (.int x1)] rfl ?_
  exact v_X2_readDeed X  hM
theorem fr_X2_readDeed_b44 {S : Nat → Prop} {u0 u : gM}  (hs0 : S 1) (hs1 : S 132)   {w : (Int32 × gM)} (hM : X2_readDeed_b44 u = some w) (h0 : off S u0 u) : off S u0 w.2 := by
  unfold X2_readDeed_b44 at hM
  obtain ⟨w45, e45, hM⟩ := bind_of hM
  have h0 := fr_X2_readCoinsOfAccount hs0 hs1 e45 h0
  obtain ⟨v48, e48, hM⟩ := bind_of hM
  cases hM
  exact h0
theorem fr_X2_readDeed_b69 {S : Nat → Prop} {u0 u : gM}  (hs0 : S 1)   {w : (Int32 × gM)} (hM : X2_readDeed_b69 u = some w) (h0 : off S u0 u) : off S u0 w.2 := by
  unfold X2_readDeed_b69 at hM
  obtain ⟨w74, e74, hM⟩ := bind_of hM
  have h0 := fr_X9_refuse hs0 e74 h0
  obtain ⟨v77, e77, hM⟩ := bind_of hM
  cases hM
  exact h0
theorem fr_X2_readDeed {S : Nat → Prop} {u0 u : gM} {x1 : Int32} (hs0 : S 1) (hs1 : S 132)   {w : (Int32 × gM)} (hM : X2_readDeed x1 u = some w) (h0 : off S u0 u) : off S u0 w.2 := by
  unfold X2_readDeed at hM
  by_cases h1_14 : x1 = 14
  · rw [if_pos h1_14] at hM
    exact fr_X2_readDeed_b44 hs0 hs1  hM h0
  rw [if_neg h1_14] at hM
  by_cases h1_15 : x1 = 15
  · rw [if_pos h1_15] at hM
    exact fr_X2_readDeed_b44 hs0 hs1  hM h0
  rw [if_neg h1_15] at hM
  by_cases h1_16 : x1 = 16
  · rw [if_pos h1_16] at hM
    obtain ⟨w50, e50, hM⟩ := bind_of hM
    have h0 := fr_X2_readMerger hs0 hs1 e50 h0
    obtain ⟨v53, e53, hM⟩ := bind_of hM
    cases hM
    exact h0
  rw [if_neg h1_16] at hM
  by_cases h1_17 : x1 = 17
  · rw [if_pos h1_17] at hM
    exact fr_X2_readDeed_b69 hs0  hM h0
  rw [if_neg h1_17] at hM
  by_cases h1_18 : x1 = 18
  · rw [if_pos h1_18] at hM
    obtain ⟨w55, e55, hM⟩ := bind_of hM
    have h0 := fr_X2_readMonths hs0 hs1 e55 h0
    obtain ⟨v58, e58, hM⟩ := bind_of hM
    cases hM
    exact h0
  rw [if_neg h1_18] at hM
  by_cases h1_19 : x1 = 19
  · rw [if_pos h1_19] at hM
    obtain ⟨w60, e60, hM⟩ := bind_of hM
    have h0 := fr_X2_readPayment hs0 hs1 e60 h0
    obtain ⟨v63, e63, hM⟩ := bind_of hM
    cases hM
    exact h0
  rw [if_neg h1_19] at hM
  by_cases h1_20 : x1 = 20
  · rw [if_pos h1_20] at hM
    obtain ⟨w65, e65, hM⟩ := bind_of hM
    have h0 := fr_X2_readFailing hs0 hs1 e65 h0
    obtain ⟨v68, e68, hM⟩ := bind_of hM
    cases hM
    exact h0
  rw [if_neg h1_20] at hM
  exact fr_X2_readDeed_b69 hs0  hM h0
/-! CoverDesk$DayReader.read()Z -/
theorem dX2_read_0 : decode cX2_read 0 = .ok (.aload_n 0, 1) := by decide +kernel
theorem dX2_read_1 : decode cX2_read 1 = .ok (.getfield 21, 3) := by decide +kernel
theorem dX2_read_4 : decode cX2_read 4 = .ok (.invokevirtual 29, 3) := by decide +kernel
theorem dX2_read_7 : decode cX2_read 7 = .ok (.aload_n 0, 1) := by decide +kernel
theorem dX2_read_8 : decode cX2_read 8 = .ok (.getfield 21, 3) := by decide +kernel
theorem dX2_read_11 : decode cX2_read 11 = .ok (.invokevirtual 34, 3) := by decide +kernel
theorem dX2_read_14 : decode cX2_read 14 = .ok (.aload_n 0, 1) := by decide +kernel
theorem dX2_read_15 : decode cX2_read 15 = .ok (.iconst 0, 1) := by decide +kernel
theorem dX2_read_16 : decode cX2_read 16 = .ok (.putfield 37, 3) := by decide +kernel
theorem dX2_read_19 : decode cX2_read 19 = .ok (.aload_n 0, 1) := by decide +kernel
theorem dX2_read_20 : decode cX2_read 20 = .ok (.getfield 37, 3) := by decide +kernel
theorem dX2_read_23 : decode cX2_read 23 = .ok (.bipush 117, 2) := by decide +kernel
theorem dX2_read_25 : decode cX2_read 25 = .ok (.if_icmp .ge 90, 3) := by decide +kernel
theorem dX2_read_28 : decode cX2_read 28 = .ok (.aload_n 0, 1) := by decide +kernel
theorem dX2_read_29 : decode cX2_read 29 = .ok (.getfield 21, 3) := by decide +kernel
theorem dX2_read_32 : decode cX2_read 32 = .ok (.getfield 41, 3) := by decide +kernel
theorem dX2_read_35 : decode cX2_read 35 = .ok (.ifCond .eq 80, 3) := by decide +kernel
theorem dX2_read_38 : decode cX2_read 38 = .ok (.aload_n 0, 1) := by decide +kernel
theorem dX2_read_39 : decode cX2_read 39 = .ok (.getfield 21, 3) := by decide +kernel
theorem dX2_read_42 : decode cX2_read 42 = .ok (.getfield 44, 3) := by decide +kernel
theorem dX2_read_45 : decode cX2_read 45 = .ok (.istore_n 1, 1) := by decide +kernel
theorem dX2_read_46 : decode cX2_read 46 = .ok (.aload_n 0, 1) := by decide +kernel
theorem dX2_read_47 : decode cX2_read 47 = .ok (.iload_n 1, 1) := by decide +kernel
theorem dX2_read_48 : decode cX2_read 48 = .ok (.invokevirtual 47, 3) := by decide +kernel
theorem dX2_read_51 : decode cX2_read 51 = .ok (.ifCond .eq 13, 3) := by decide +kernel
theorem dX2_read_54 : decode cX2_read 54 = .ok (.aload_n 0, 1) := by decide +kernel
theorem dX2_read_55 : decode cX2_read 55 = .ok (.getfield 21, 3) := by decide +kernel
theorem dX2_read_58 : decode cX2_read 58 = .ok (.invokevirtual 51, 3) := by decide +kernel
theorem dX2_read_61 : decode cX2_read 61 = .ok (.ifCond .ne 5, 3) := by decide +kernel
theorem dX2_read_64 : decode cX2_read 64 = .ok (.iconst 0, 1) := by decide +kernel
theorem dX2_read_65 : decode cX2_read 65 = .ok (.ireturn, 1) := by decide +kernel
theorem dX2_read_66 : decode cX2_read 66 = .ok (.aload_n 0, 1) := by decide +kernel
theorem dX2_read_67 : decode cX2_read 67 = .ok (.getfield 9, 3) := by decide +kernel
theorem dX2_read_70 : decode cX2_read 70 = .ok (.aload_n 0, 1) := by decide +kernel
theorem dX2_read_71 : decode cX2_read 71 = .ok (.getfield 37, 3) := by decide +kernel
theorem dX2_read_74 : decode cX2_read 74 = .ok (.iload_n 1, 1) := by decide +kernel
theorem dX2_read_75 : decode cX2_read 75 = .ok (.iastore, 1) := by decide +kernel
theorem dX2_read_76 : decode cX2_read 76 = .ok (.aload_n 0, 1) := by decide +kernel
theorem dX2_read_77 : decode cX2_read 77 = .ok (.getfield 15, 3) := by decide +kernel
theorem dX2_read_80 : decode cX2_read 80 = .ok (.aload_n 0, 1) := by decide +kernel
theorem dX2_read_81 : decode cX2_read 81 = .ok (.getfield 37, 3) := by decide +kernel
theorem dX2_read_84 : decode cX2_read 84 = .ok (.aload_n 0, 1) := by decide +kernel
theorem dX2_read_85 : decode cX2_read 85 = .ok (.getfield 55, 3) := by decide +kernel
theorem dX2_read_88 : decode cX2_read 88 = .ok (.iastore, 1) := by decide +kernel
theorem dX2_read_89 : decode cX2_read 89 = .ok (.aload_n 0, 1) := by decide +kernel
theorem dX2_read_90 : decode cX2_read 90 = .ok (.getfield 18, 3) := by decide +kernel
theorem dX2_read_93 : decode cX2_read 93 = .ok (.aload_n 0, 1) := by decide +kernel
theorem dX2_read_94 : decode cX2_read 94 = .ok (.getfield 37, 3) := by decide +kernel
theorem dX2_read_97 : decode cX2_read 97 = .ok (.aload_n 0, 1) := by decide +kernel
theorem dX2_read_98 : decode cX2_read 98 = .ok (.getfield 58, 3) := by decide +kernel
theorem dX2_read_101 : decode cX2_read 101 = .ok (.iastore, 1) := by decide +kernel
theorem dX2_read_102 : decode cX2_read 102 = .ok (.aload_n 0, 1) := by decide +kernel
theorem dX2_read_103 : decode cX2_read 103 = .ok (.dup, 1) := by decide +kernel
theorem dX2_read_104 : decode cX2_read 104 = .ok (.getfield 37, 3) := by decide +kernel
theorem dX2_read_107 : decode cX2_read 107 = .ok (.iconst 1, 1) := by decide +kernel
theorem dX2_read_108 : decode cX2_read 108 = .ok (.iadd, 1) := by decide +kernel
theorem dX2_read_109 : decode cX2_read 109 = .ok (.putfield 37, 3) := by decide +kernel
theorem dX2_read_112 : decode cX2_read 112 = .ok (.goto (-93), 3) := by decide +kernel
theorem dX2_read_115 : decode cX2_read 115 = .ok (.aload_n 0, 1) := by decide +kernel
theorem dX2_read_116 : decode cX2_read 116 = .ok (.getfield 21, 3) := by decide +kernel
theorem dX2_read_119 : decode cX2_read 119 = .ok (.getfield 41, 3) := by decide +kernel
theorem dX2_read_122 : decode cX2_read 122 = .ok (.ifCond .eq 14, 3) := by decide +kernel
theorem dX2_read_125 : decode cX2_read 125 = .ok (.aload_n 0, 1) := by decide +kernel
theorem dX2_read_126 : decode cX2_read 126 = .ok (.getfield 21, 3) := by decide +kernel
theorem dX2_read_129 : decode cX2_read 129 = .ok (.iconst 1, 1) := by decide +kernel
theorem dX2_read_130 : decode cX2_read 130 = .ok (.invokevirtual 61, 3) := by decide +kernel
theorem dX2_read_133 : decode cX2_read 133 = .ok (.ifCond .eq 7, 3) := by decide +kernel
theorem dX2_read_136 : decode cX2_read 136 = .ok (.iconst 1, 1) := by decide +kernel
theorem dX2_read_137 : decode cX2_read 137 = .ok (.goto 4, 3) := by decide +kernel
theorem dX2_read_140 : decode cX2_read 140 = .ok (.iconst 0, 1) := by decide +kernel
theorem dX2_read_141 : decode cX2_read 141 = .ok (.ireturn, 1) := by decide +kernel
def X2_read_b141  (s0 : Int32) (u : gM) : Option (Int32 × gM) :=
((bI s0).bind fun v141 => some (v141, u))
def X2_read_b136   (u : gM) : Option (Int32 × gM) :=
(X2_read_b141 1 u)
def X2_read_b115   (u : gM) : Option (Int32 × gM) :=
(if (u.1 1 3) = 0 then (X2_read_b136 u)
  else ((X9_refuse 1 u).bind fun w130 => (if w130.1 = 0 then (X2_read_b141 0 w130.2)
    else (X2_read_b136 w130.2))))
def X2_read_b64   (u : gM) : Option (Int32 × gM) :=
some (0, u)
def X2_read_b19 (k19 : gM → Option (Int32 × gM))  (u : gM) : Option (Int32 × gM) :=
(if 117 ≤ (u.1 132 0) then (X2_read_b115 u)
  else (if (u.1 1 3) = 0 then (X2_read_b115 u)
    else ((X2_readDeed (u.1 1 4) u).bind fun w48 => (if w48.1 = 0 then (X2_read_b64 w48.2)
      else ((X9_passSemicolon w48.2).bind fun w58 => (if w58.1 = 0 then (X2_read_b64 w58.2)
        else ((sI skC w58.2 133 (w58.2.1 132 0) (u.1 1 4)).bind fun u75 => ((sI skC u75 134 (u75.1 132 0) (u75.1 132 6)).bind fun u88 => ((sI skC u88 135 (u88.1 132 0) (u88.1 132 7)).bind fun u101 => (k19 (upI u101 132 0 ((u101.1 132 0) + 1))))))))))))
def X2_read_l19  : Nat → gM → Option (Int32 × gM)
  | 0, _ => none
  | n + 1, u => X2_read_b19  (X2_read_l19  n) u
def X2_read   (u : gM) : Option (Int32 × gM) :=
((X9_forgetFault u).bind fun w4 => ((X9_begin w4).bind fun w11 => (X2_read_l19 fz (upI w11 132 0 0))))
set_option maxRecDepth 20000 in
theorem v_X2_read_b141 {κ : gK} {B : Nat} {u : gM} (X : gX κ B skC cX2_read 2 RX2 (some .boolean) 9 208)   {s0 : Int32} {w : (Int32 × gM)} (hM : X2_read_b141 s0 u = some w) : gV κ B skC 2 ((some (.int w.1)), w.2) 141 [none, none] [.int s0] u := by
  unfold X2_read_b141 at hM
  obtain ⟨v141, e141, hM⟩ := bind_of hM
  obtain ⟨hv, rfl⟩ := bI_of e141
  cases hM
  exact g_zret X hv dX2_read_141
set_option maxRecDepth 20000 in
theorem v_X2_read_b136 {κ : gK} {B : Nat} {u : gM} (X : gX κ B skC cX2_read 2 RX2 (some .boolean) 9 208)    {w : (Int32 × gM)} (hM : X2_read_b136 u = some w) : gV κ B skC 2 ((some (.int w.1)), w.2) 136 [none, none] [] u := by
  unfold X2_read_b136 at hM
  refine g_iconst X (v := 1) dX2_read_136 (by decide) ?_
  refine g_goto (tgt := 141) X dX2_read_137 (by decide) ?_
  refine g_mk [false, false] [none, none] rfl ?_
  exact v_X2_read_b141 X  hM
set_option maxRecDepth 20000 in
theorem v_X2_read_b115 {κ : gK} {B : Nat} {u : gM} (X : gX κ B skC cX2_read 2 RX2 (some .boolean) 9 208)    {w : (Int32 × gM)} (hM : X2_read_b115 u = some w) : gV κ B skC 2 ((some (.int w.1)), w.2) 115 [some (.ref (B + 132)), none] [] u := by
  unfold X2_read_b115 at hM
  refine g_aload_n X dX2_read_115 rfl ?_
  refine g_getR X fX2_21 cC_132 rfl dX2_read_116 ?_
  refine g_getI X fX2_41 cC_1 rfl dX2_read_119 ?_
  refine g_if_eq (tgt := 136) X dX2_read_122 (by decide) (fun c122 => ?_) (fun c122 => ?_)
  · rw [if_pos c122] at hM
    refine g_mk [false, false] [none, none] rfl ?_
    exact v_X2_read_b136 X  hM
  · rw [if_neg c122] at hM
    refine g_aload_n X dX2_read_125 rfl ?_
    refine g_getR X fX2_21 cC_132 rfl dX2_read_126 ?_
    refine g_iconst X (v := 1) dX2_read_129 (by decide) ?_
    obtain ⟨w130, e130, hM⟩ := bind_of hM
    refine g_callVi X (fun B adK => [.int 1]) (s_X9_refuse e130) cvX2_61 cC_1 rfl rfl (Nat.le_of_ble_eq_true rfl) ⟨by decide, by decide⟩ dX2_read_130 ?_
    refine g_if_eq (tgt := 140) X dX2_read_133 (by decide) (fun c133 => ?_) (fun c133 => ?_)
    · rw [if_pos c133] at hM
      refine g_iconst X (v := 0) dX2_read_140 (by decide) ?_
      refine g_mk [false, false] [none, none] rfl ?_
      exact v_X2_read_b141 X  hM
    · rw [if_neg c133] at hM
      refine g_mk [false, false] [none, none] rfl ?_
      exact v_X2_read_b136 X  hM
set_option maxRecDepth 20000 in
theorem v_X2_read_b64 {κ : gK} {B : Nat} {u : gM} (X : gX κ B skC cX2_read 2 RX2 (some .boolean) 9 208)    {w : (Int32 × gM)} (hM : X2_read_b64 u = some w) : gV κ B skC 2 ((some (.int w.1)), w.2) 64 [none, none] [] u := by
  unfold X2_read_b64 at hM
  refine g_iconst X (v := 0) dX2_read_64 (by decide) ?_
  cases hM
  exact g_zret X (Or.inl rfl) dX2_read_65
set_option maxRecDepth 20000 in
theorem v_X2_read_b19 {κ : gK} {B : Nat} {u : gM} (X : gX κ B skC cX2_read 2 RX2 (some .boolean) 9 208) {k19 : gM → Option (Int32 × gM)} (ih19 : ∀  (u : gM) (w : (Int32 × gM)), k19 u = some w → gV κ B skC 2 ((some (.int w.1)), w.2) 19 [some (.ref (B + 132)), none] [] u)  {w : (Int32 × gM)} (hM : X2_read_b19 k19 u = some w) : gV κ B skC 2 ((some (.int w.1)), w.2) 19 [some (.ref (B + 132)), none] [] u := by
  unfold X2_read_b19 at hM
  refine g_aload_n X dX2_read_19 rfl ?_
  refine g_getI X fX2_37 cC_132 rfl dX2_read_20 ?_
  refine g_bipush X (v := 117) dX2_read_23 (by decide) ?_
  refine g_icmp_ge (tgt := 115) X dX2_read_25 (by decide) (fun c25 => ?_) (fun c25 => ?_)
  · rw [if_pos c25] at hM
    refine g_mk [true, false] [some (.ref (B + 132)), none] rfl ?_
    exact v_X2_read_b115 X  hM
  · rw [if_neg c25] at hM
    refine g_aload_n X dX2_read_28 rfl ?_
    refine g_getR X fX2_21 cC_132 rfl dX2_read_29 ?_
    refine g_getI X fX2_41 cC_1 rfl dX2_read_32 ?_
    refine g_if_eq (tgt := 115) X dX2_read_35 (by decide) (fun c35 => ?_) (fun c35 => ?_)
    · rw [if_pos c35] at hM
      refine g_mk [true, false] [some (.ref (B + 132)), none] rfl ?_
      exact v_X2_read_b115 X  hM
    · rw [if_neg c35] at hM
      refine g_aload_n X dX2_read_38 rfl ?_
      refine g_getR X fX2_21 cC_132 rfl dX2_read_39 ?_
      refine g_getI X fX2_44 cC_1 rfl dX2_read_42 ?_
      refine g_istore_n X [some (.ref (B + 132)), some (.int (u.1 1 4))] dX2_read_45 (by decide) rfl ?_
      refine g_aload_n X dX2_read_46 rfl ?_
      refine g_iload_n X dX2_read_47 rfl ?_
      obtain ⟨w48, e48, hM⟩ := bind_of hM
      refine g_callVi X (fun B adK => [.int (u.1 1 4)]) (s_X2_readDeed e48) cvX2_47 cC_132 rfl rfl (Nat.le_of_ble_eq_true rfl) ⟨by decide, by decide⟩ dX2_read_48 ?_
      refine g_if_eq (tgt := 64) X dX2_read_51 (by decide) (fun c51 => ?_) (fun c51 => ?_)
      · rw [if_pos c51] at hM
        refine g_mk [false, false] [none, none] rfl ?_
        exact v_X2_read_b64 X  hM
      · rw [if_neg c51] at hM
        refine g_aload_n X dX2_read_54 rfl ?_
        refine g_getR X fX2_21 cC_132 rfl dX2_read_55 ?_
        obtain ⟨w58, e58, hM⟩ := bind_of hM
        refine g_callVi X (fun B adK => []) (s_X9_passSemicolon e58) cvX2_51 cC_1 rfl rfl (Nat.le_of_ble_eq_true rfl) ⟨by decide, by decide⟩ dX2_read_58 ?_
        refine g_if_ne (tgt := 66) X dX2_read_61 (by decide) (fun c61 => ?_) (fun c61 => ?_)
        · rw [if_neg c61] at hM
          refine g_aload_n X dX2_read_66 rfl ?_
          refine g_getR X fX2_9 cC_132 rfl dX2_read_67 ?_
          refine g_aload_n X dX2_read_70 rfl ?_
          refine g_getI X fX2_37 cC_132 rfl dX2_read_71 ?_
          refine g_iload_n X dX2_read_74 rfl ?_
          obtain ⟨u75, e75, hM⟩ := bind_of hM
          refine g_iastore X e75 dX2_read_75 ?_
          refine g_aload_n X dX2_read_76 rfl ?_
          refine g_getR X fX2_15 cC_132 rfl dX2_read_77 ?_
          refine g_aload_n X dX2_read_80 rfl ?_
          refine g_getI X fX2_37 cC_132 rfl dX2_read_81 ?_
          refine g_aload_n X dX2_read_84 rfl ?_
          refine g_getI X fX2_55 cC_132 rfl dX2_read_85 ?_
          obtain ⟨u88, e88, hM⟩ := bind_of hM
          refine g_iastore X e88 dX2_read_88 ?_
          refine g_aload_n X dX2_read_89 rfl ?_
          refine g_getR X fX2_18 cC_132 rfl dX2_read_90 ?_
          refine g_aload_n X dX2_read_93 rfl ?_
          refine g_getI X fX2_37 cC_132 rfl dX2_read_94 ?_
          refine g_aload_n X dX2_read_97 rfl ?_
          refine g_getI X fX2_58 cC_132 rfl dX2_read_98 ?_
          obtain ⟨u101, e101, hM⟩ := bind_of hM
          refine g_iastore X e101 dX2_read_101 ?_
          refine g_aload_n X dX2_read_102 rfl ?_
          refine g_dup X rfl dX2_read_103 ?_
          refine g_getI X fX2_37 cC_132 rfl dX2_read_104 ?_
          refine g_iconst X (v := 1) dX2_read_107 (by decide) ?_
          refine g_iadd X dX2_read_108 ?_
          refine g_putI X fX2_37 gc_X2 gp_X2_0 cC_132 rfl dX2_read_109 ?_
          refine g_goto (tgt := 19) X dX2_read_112 (by decide) ?_
          refine g_mk [true, false] [some (.ref (B + 132)), none] rfl ?_
          exact ih19 (upI u101 132 0 ((u101.1 132 0) + 1)) _ hM
        · rw [if_pos c61] at hM
          refine g_mk [false, false] [none, none] rfl ?_
          exact v_X2_read_b64 X  hM
theorem v_X2_read_l19 {κ : gK} {B : Nat} (X : gX κ B skC cX2_read 2 RX2 (some .boolean) 9 208)   : ∀ (n : Nat)  {u : gM} {w : (Int32 × gM)} (hM : X2_read_l19  n u = some w), gV κ B skC 2 ((some (.int w.1)), w.2) 19 [some (.ref (B + 132)), none] [] u := by
  intro n
  induction n with
  | zero => intro u w hM; exact nomatch (show (none : Option (Int32 × gM)) = some w from hM)
  | succ n ihn => intro u w hM; exact v_X2_read_b19 X  (fun u w h => ihn h) hM
set_option maxRecDepth 20000 in
theorem v_X2_read {κ : gK} {B : Nat} {u : gM} (X : gX κ B skC cX2_read 2 RX2 (some .boolean) 9 208)    {w : (Int32 × gM)} (hM : X2_read u = some w) : gV κ B skC 2 ((some (.int w.1)), w.2) 0 [some (.ref (B + 132)), none] [] u := by
  unfold X2_read at hM
  refine g_aload_n X dX2_read_0 rfl ?_
  refine g_getR X fX2_21 cC_132 rfl dX2_read_1 ?_
  obtain ⟨w4, e4, hM⟩ := bind_of hM
  refine g_callVv X (fun B adK => []) (s_X9_forgetFault e4) cvX2_29 cC_1 rfl rfl (Nat.le_of_ble_eq_true rfl) ⟨by decide, by decide⟩ dX2_read_4 ?_
  refine g_aload_n X dX2_read_7 rfl ?_
  refine g_getR X fX2_21 cC_132 rfl dX2_read_8 ?_
  obtain ⟨w11, e11, hM⟩ := bind_of hM
  refine g_callVv X (fun B adK => []) (s_X9_begin e11) cvX2_34 cC_1 rfl rfl (Nat.le_of_ble_eq_true rfl) ⟨by decide, by decide⟩ dX2_read_11 ?_
  refine g_aload_n X dX2_read_14 rfl ?_
  refine g_iconst X (v := 0) dX2_read_15 (by decide) ?_
  refine g_putI X fX2_37 gc_X2 gp_X2_0 cC_132 rfl dX2_read_16 ?_
  refine g_mk [true, false] [some (.ref (B + 132)), none] rfl ?_
  exact v_X2_read_l19 X  fz hM
theorem s_X2_read  {u : gM} {w : (Int32 × gM)} (hM : X2_read u = some w) : gMet skC yX2_read cX2_read 2 (some .boolean) 9 208 (fun B adK => [.ref (B + 132)]) u ((fun _ => some (.int w.1)), w.2) := by
  refine gMet.of (by decide) (fun _ _ => Nat.le_of_ble_eq_true rfl) (fun κ B X => ?_)
  have X : gX κ B skC cX2_read 2 RX2 (some .boolean) 9 208 := X
  refine g_mk [true, false] [some (.ref (B + 132)), none] rfl ?_
  exact v_X2_read X  hM
theorem fr_X2_read_b141 {S : Nat → Prop} {u0 u : gM} {s0 : Int32}    {w : (Int32 × gM)} (hM : X2_read_b141 s0 u = some w) (h0 : off S u0 u) : off S u0 w.2 := by
  unfold X2_read_b141 at hM
  obtain ⟨v141, e141, hM⟩ := bind_of hM
  cases hM
  exact h0
theorem fr_X2_read_b136 {S : Nat → Prop} {u0 u : gM}     {w : (Int32 × gM)} (hM : X2_read_b136 u = some w) (h0 : off S u0 u) : off S u0 w.2 := by
  unfold X2_read_b136 at hM
  exact fr_X2_read_b141   hM h0
theorem fr_X2_read_b115 {S : Nat → Prop} {u0 u : gM}  (hs0 : S 1)   {w : (Int32 × gM)} (hM : X2_read_b115 u = some w) (h0 : off S u0 u) : off S u0 w.2 := by
  unfold X2_read_b115 at hM
  by_cases c122 : (u.1 1 3) = 0
  · rw [if_pos c122] at hM
    exact fr_X2_read_b136   hM h0
  · rw [if_neg c122] at hM
    obtain ⟨w130, e130, hM⟩ := bind_of hM
    have h0 := fr_X9_refuse hs0 e130 h0
    by_cases c133 : w130.1 = 0
    · rw [if_pos c133] at hM
      exact fr_X2_read_b141   hM h0
    · rw [if_neg c133] at hM
      exact fr_X2_read_b136   hM h0
theorem fr_X2_read_b64 {S : Nat → Prop} {u0 u : gM}     {w : (Int32 × gM)} (hM : X2_read_b64 u = some w) (h0 : off S u0 u) : off S u0 w.2 := by
  unfold X2_read_b64 at hM
  cases hM
  exact h0
theorem fr_X2_read_b19 {S : Nat → Prop} {u0 u : gM}  (hs0 : S 1) (hs1 : S 132) (hs2 : S 133) (hs3 : S 134) (hs4 : S 135) {k19 : gM → Option (Int32 × gM)} (ik19 : ∀  (u : gM) (w : (Int32 × gM)), S 1 → S 132 → S 133 → S 134 → S 135 → off S u0 u → k19  u = some w → off S u0 w.2) {w : (Int32 × gM)} (hM : X2_read_b19 k19 u = some w) (h0 : off S u0 u) : off S u0 w.2 := by
  unfold X2_read_b19 at hM
  by_cases c25 : 117 ≤ (u.1 132 0)
  · rw [if_pos c25] at hM
    exact fr_X2_read_b115 hs0  hM h0
  · rw [if_neg c25] at hM
    by_cases c35 : (u.1 1 3) = 0
    · rw [if_pos c35] at hM
      exact fr_X2_read_b115 hs0  hM h0
    · rw [if_neg c35] at hM
      obtain ⟨w48, e48, hM⟩ := bind_of hM
      have h0 := fr_X2_readDeed hs0 hs1 e48 h0
      by_cases c51 : w48.1 = 0
      · rw [if_pos c51] at hM
        exact fr_X2_read_b64   hM h0
      · rw [if_neg c51] at hM
        obtain ⟨w58, e58, hM⟩ := bind_of hM
        have h0 := fr_X9_passSemicolon hs0 e58 h0
        by_cases c61 : w58.1 = 0
        · rw [if_pos c61] at hM
          exact fr_X2_read_b64   hM h0
        · rw [if_neg c61] at hM
          obtain ⟨u75, e75, hM⟩ := bind_of hM
          have h0 := off_sI hs2 e75 h0
          obtain ⟨u88, e88, hM⟩ := bind_of hM
          have h0 := off_sI hs3 e88 h0
          obtain ⟨u101, e101, hM⟩ := bind_of hM
          have h0 := off_sI hs4 e101 h0
          have h0 := off_upI (u := u101) (k := 132) (j := 0) (x := ((u101.1 132 0) + 1)) hs1 h0
          exact ik19 _ _ hs0 hs1 hs2 hs3 hs4 h0 hM
theorem fr_X2_read_l19 {S : Nat → Prop} {u0 : gM}   : ∀ (n : Nat)  (hs0 : S 1) (hs1 : S 132) (hs2 : S 133) (hs3 : S 134) (hs4 : S 135) {u : gM} {w : (Int32 × gM)} (h0 : off S u0 u) (hM : X2_read_l19  n u = some w), off S u0 w.2 := by
  intro n
  induction n with
  | zero => intro hs0 hs1 hs2 hs3 hs4 u w h0 hM; exact nomatch (show (none : Option (Int32 × gM)) = some w from hM)
  | succ n ihn => intro hs0 hs1 hs2 hs3 hs4 u w h0 hM; exact fr_X2_read_b19 hs0 hs1 hs2 hs3 hs4  (fun _ _ hs0 hs1 hs2 hs3 hs4 h0 h => ihn hs0 hs1 hs2 hs3 hs4 h0 h) hM h0
theorem fr_X2_read {S : Nat → Prop} {u0 u : gM}  (hs0 : S 1) (hs1 : S 132) (hs2 : S 133) (hs3 : S 134) (hs4 : S 135)   {w : (Int32 × gM)} (hM : X2_read u = some w) (h0 : off S u0 u) : off S u0 w.2 := by
  unfold X2_read at hM
  obtain ⟨w4, e4, hM⟩ := bind_of hM
  have h0 := fr_X9_forgetFault hs0 e4 h0
  obtain ⟨w11, e11, hM⟩ := bind_of hM
  have h0 := fr_X9_begin hs0 e11 h0
  have h0 := off_upI (u := w11) (k := 132) (j := 0) (x := 0) hs1 h0
  exact fr_X2_read_l19  fz hs0 hs1 hs2 hs3 hs4 h0 hM

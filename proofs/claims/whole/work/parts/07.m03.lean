/-! CoverDesk$Failing.copy(LCoverDesk$Failing;)V -/
theorem dX5_copy_0 : decode cX5_copy 0 = .ok (.aload_n 0, 1) := by decide +kernel
theorem dX5_copy_1 : decode cX5_copy 1 = .ok (.aload_n 1, 1) := by decide +kernel
theorem dX5_copy_2 : decode cX5_copy 2 = .ok (.getfield 9, 3) := by decide +kernel
theorem dX5_copy_5 : decode cX5_copy 5 = .ok (.putfield 9, 3) := by decide +kernel
theorem dX5_copy_8 : decode cX5_copy 8 = .ok (.aload_n 0, 1) := by decide +kernel
theorem dX5_copy_9 : decode cX5_copy 9 = .ok (.aload_n 1, 1) := by decide +kernel
theorem dX5_copy_10 : decode cX5_copy 10 = .ok (.getfield 35, 3) := by decide +kernel
theorem dX5_copy_13 : decode cX5_copy 13 = .ok (.putfield 35, 3) := by decide +kernel
theorem dX5_copy_16 : decode cX5_copy 16 = .ok (.aload_n 1, 1) := by decide +kernel
theorem dX5_copy_17 : decode cX5_copy 17 = .ok (.getfield 15, 3) := by decide +kernel
theorem dX5_copy_20 : decode cX5_copy 20 = .ok (.iconst 0, 1) := by decide +kernel
theorem dX5_copy_21 : decode cX5_copy 21 = .ok (.aload_n 0, 1) := by decide +kernel
theorem dX5_copy_22 : decode cX5_copy 22 = .ok (.getfield 15, 3) := by decide +kernel
theorem dX5_copy_25 : decode cX5_copy 25 = .ok (.iconst 0, 1) := by decide +kernel
theorem dX5_copy_26 : decode cX5_copy 26 = .ok (.bipush 96, 2) := by decide +kernel
theorem dX5_copy_28 : decode cX5_copy 28 = .ok (.invokestatic 45, 3) := by decide +kernel
theorem dX5_copy_31 : decode cX5_copy 31 = .ok (.aload_n 1, 1) := by decide +kernel
theorem dX5_copy_32 : decode cX5_copy 32 = .ok (.getfield 19, 3) := by decide +kernel
theorem dX5_copy_35 : decode cX5_copy 35 = .ok (.iconst 0, 1) := by decide +kernel
theorem dX5_copy_36 : decode cX5_copy 36 = .ok (.aload_n 0, 1) := by decide +kernel
theorem dX5_copy_37 : decode cX5_copy 37 = .ok (.getfield 19, 3) := by decide +kernel
theorem dX5_copy_40 : decode cX5_copy 40 = .ok (.iconst 0, 1) := by decide +kernel
theorem dX5_copy_41 : decode cX5_copy 41 = .ok (.bipush 96, 2) := by decide +kernel
theorem dX5_copy_43 : decode cX5_copy 43 = .ok (.invokestatic 45, 3) := by decide +kernel
theorem dX5_copy_46 : decode cX5_copy 46 = .ok (.aload_n 1, 1) := by decide +kernel
theorem dX5_copy_47 : decode cX5_copy 47 = .ok (.getfield 22, 3) := by decide +kernel
theorem dX5_copy_50 : decode cX5_copy 50 = .ok (.iconst 0, 1) := by decide +kernel
theorem dX5_copy_51 : decode cX5_copy 51 = .ok (.aload_n 0, 1) := by decide +kernel
theorem dX5_copy_52 : decode cX5_copy 52 = .ok (.getfield 22, 3) := by decide +kernel
theorem dX5_copy_55 : decode cX5_copy 55 = .ok (.iconst 0, 1) := by decide +kernel
theorem dX5_copy_56 : decode cX5_copy 56 = .ok (.bipush 96, 2) := by decide +kernel
theorem dX5_copy_58 : decode cX5_copy 58 = .ok (.invokestatic 45, 3) := by decide +kernel
theorem dX5_copy_61 : decode cX5_copy 61 = .ok (.aload_n 1, 1) := by decide +kernel
theorem dX5_copy_62 : decode cX5_copy 62 = .ok (.getfield 25, 3) := by decide +kernel
theorem dX5_copy_65 : decode cX5_copy 65 = .ok (.iconst 0, 1) := by decide +kernel
theorem dX5_copy_66 : decode cX5_copy 66 = .ok (.aload_n 0, 1) := by decide +kernel
theorem dX5_copy_67 : decode cX5_copy 67 = .ok (.getfield 25, 3) := by decide +kernel
theorem dX5_copy_70 : decode cX5_copy 70 = .ok (.iconst 0, 1) := by decide +kernel
theorem dX5_copy_71 : decode cX5_copy 71 = .ok (.bipush 96, 2) := by decide +kernel
theorem dX5_copy_73 : decode cX5_copy 73 = .ok (.invokestatic 45, 3) := by decide +kernel
theorem dX5_copy_76 : decode cX5_copy 76 = .ok (.aload_n 1, 1) := by decide +kernel
theorem dX5_copy_77 : decode cX5_copy 77 = .ok (.getfield 28, 3) := by decide +kernel
theorem dX5_copy_80 : decode cX5_copy 80 = .ok (.iconst 0, 1) := by decide +kernel
theorem dX5_copy_81 : decode cX5_copy 81 = .ok (.aload_n 0, 1) := by decide +kernel
theorem dX5_copy_82 : decode cX5_copy 82 = .ok (.getfield 28, 3) := by decide +kernel
theorem dX5_copy_85 : decode cX5_copy 85 = .ok (.iconst 0, 1) := by decide +kernel
theorem dX5_copy_86 : decode cX5_copy 86 = .ok (.bipush 10, 2) := by decide +kernel
theorem dX5_copy_88 : decode cX5_copy 88 = .ok (.invokestatic 45, 3) := by decide +kernel
theorem dX5_copy_91 : decode cX5_copy 91 = .ok (.return_, 1) := by decide +kernel
def X5_copy_b16  (x0 : Nat) (x1 : Nat) (u : gM) : Option gM :=
(if isO skC x1 5 = true then (if isO skC x0 5 = true then ((cpI skC u (rf skC x1 2) 0 (rf skC x0 2) 0 96).bind fun u28 => ((cpI skC u28 (rf skC x1 3) 0 (rf skC x0 3) 0 96).bind fun u43 => ((cpI skC u43 (rf skC x1 4) 0 (rf skC x0 4) 0 96).bind fun u58 => ((cpI skC u58 (rf skC x1 5) 0 (rf skC x0 5) 0 96).bind fun u73 => ((cpI skC u73 (rf skC x1 6) 0 (rf skC x0 6) 0 10).bind fun u88 => some u88)))))
 else none)
 else none)
def X5_copy  (x0 : Nat) (x1 : Nat) (u : gM) : Option gM :=
(if isO skC x1 5 = true then (if isO skC x0 5 = true then (X5_copy_b16 x0 x1 (upJ (upI u x0 0 (u.1 x1 0)) x0 1 ((upI u x0 0 (u.1 x1 0)).2 x1 1)))
 else none)
 else none)
set_option maxRecDepth 20000 in
theorem v_X5_copy_b16 {κ : gK} {B : Nat} {u : gM} (X : gX κ B skC cX5_copy 2 RX5 none 1 26)   {x0 : Nat} {x1 : Nat} {w : gM} (hM : X5_copy_b16 x0 x1 u = some w) : gV κ B skC 2 ((none), w) 16 [some (.ref (B + x0)), some (.ref (B + x1))] [] u := by
  unfold X5_copy_b16 at hM
  refine g_aload_n X dX5_copy_16 rfl ?_
  obtain ⟨o0, hM⟩ := ite_of hM
  refine g_getR X fX5_15 (sh_X5 o0) rfl dX5_copy_17 ?_
  refine g_iconst X (v := 0) dX5_copy_20 (by decide) ?_
  refine g_aload_n X dX5_copy_21 rfl ?_
  obtain ⟨o1, hM⟩ := ite_of hM
  refine g_getR X fX5_15 (sh_X5 o1) rfl dX5_copy_22 ?_
  refine g_iconst X (v := 0) dX5_copy_25 (by decide) ?_
  refine g_bipush X (v := 96) dX5_copy_26 (by decide) ?_
  obtain ⟨u28, e28, hM⟩ := bind_of hM
  refine g_copyI X m_29_14 e28 ⟨by decide, by decide⟩ dX5_copy_28 ?_
  refine g_aload_n X dX5_copy_31 rfl ?_
  refine g_getR X fX5_19 (sh_X5 o0) rfl dX5_copy_32 ?_
  refine g_iconst X (v := 0) dX5_copy_35 (by decide) ?_
  refine g_aload_n X dX5_copy_36 rfl ?_
  refine g_getR X fX5_19 (sh_X5 o1) rfl dX5_copy_37 ?_
  refine g_iconst X (v := 0) dX5_copy_40 (by decide) ?_
  refine g_bipush X (v := 96) dX5_copy_41 (by decide) ?_
  obtain ⟨u43, e43, hM⟩ := bind_of hM
  refine g_copyI X m_29_14 e43 ⟨by decide, by decide⟩ dX5_copy_43 ?_
  refine g_aload_n X dX5_copy_46 rfl ?_
  refine g_getR X fX5_22 (sh_X5 o0) rfl dX5_copy_47 ?_
  refine g_iconst X (v := 0) dX5_copy_50 (by decide) ?_
  refine g_aload_n X dX5_copy_51 rfl ?_
  refine g_getR X fX5_22 (sh_X5 o1) rfl dX5_copy_52 ?_
  refine g_iconst X (v := 0) dX5_copy_55 (by decide) ?_
  refine g_bipush X (v := 96) dX5_copy_56 (by decide) ?_
  obtain ⟨u58, e58, hM⟩ := bind_of hM
  refine g_copyI X m_29_14 e58 ⟨by decide, by decide⟩ dX5_copy_58 ?_
  refine g_aload_n X dX5_copy_61 rfl ?_
  refine g_getR X fX5_25 (sh_X5 o0) rfl dX5_copy_62 ?_
  refine g_iconst X (v := 0) dX5_copy_65 (by decide) ?_
  refine g_aload_n X dX5_copy_66 rfl ?_
  refine g_getR X fX5_25 (sh_X5 o1) rfl dX5_copy_67 ?_
  refine g_iconst X (v := 0) dX5_copy_70 (by decide) ?_
  refine g_bipush X (v := 96) dX5_copy_71 (by decide) ?_
  obtain ⟨u73, e73, hM⟩ := bind_of hM
  refine g_copyI X m_29_14 e73 ⟨by decide, by decide⟩ dX5_copy_73 ?_
  refine g_aload_n X dX5_copy_76 rfl ?_
  refine g_getR X fX5_28 (sh_X5 o0) rfl dX5_copy_77 ?_
  refine g_iconst X (v := 0) dX5_copy_80 (by decide) ?_
  refine g_aload_n X dX5_copy_81 rfl ?_
  refine g_getR X fX5_28 (sh_X5 o1) rfl dX5_copy_82 ?_
  refine g_iconst X (v := 0) dX5_copy_85 (by decide) ?_
  refine g_bipush X (v := 10) dX5_copy_86 (by decide) ?_
  obtain ⟨u88, e88, hM⟩ := bind_of hM
  refine g_copyI X m_29_14 e88 ⟨by decide, by decide⟩ dX5_copy_88 ?_
  cases hM
  exact g_vret X dX5_copy_91
set_option maxRecDepth 20000 in
theorem v_X5_copy {κ : gK} {B : Nat} {u : gM} (X : gX κ B skC cX5_copy 2 RX5 none 1 26)   {x0 : Nat} {x1 : Nat} {w : gM} (hM : X5_copy x0 x1 u = some w) : gV κ B skC 2 ((none), w) 0 [some (.ref (B + x0)), some (.ref (B + x1))] [] u := by
  unfold X5_copy at hM
  refine g_aload_n X dX5_copy_0 rfl ?_
  refine g_aload_n X dX5_copy_1 rfl ?_
  obtain ⟨o0, hM⟩ := ite_of hM
  refine g_getI X fX5_9 (sh_X5 o0) rfl dX5_copy_2 ?_
  obtain ⟨o1, hM⟩ := ite_of hM
  refine g_putI X fX5_9 gc_X5 gp_X5_0 (sh_X5 o1) rfl dX5_copy_5 ?_
  refine g_aload_n X dX5_copy_8 rfl ?_
  refine g_aload_n X dX5_copy_9 rfl ?_
  refine g_getJ X fX5_35 (sh_X5 o0) rfl dX5_copy_10 ?_
  refine g_putJ X fX5_35 gc_X5 gp_X5_1 (sh_X5 o1) rfl dX5_copy_13 ?_
  refine g_mk [true, true] [some (.ref (B + x0)), some (.ref (B + x1))] rfl ?_
  exact v_X5_copy_b16 X  hM
theorem s_X5_copy {x0 : Nat} {x1 : Nat} {u : gM} {w : gM} (hM : X5_copy x0 x1 u = some w) : gMet skC yX5_copy cX5_copy 2 none 1 26 (fun B adK => [.ref (B + x0), .ref (B + x1)]) u ((fun _ => none), w) := by
  refine gMet.of (by decide) (fun _ _ => Nat.le_of_ble_eq_true rfl) (fun κ B X => ?_)
  have X : gX κ B skC cX5_copy 2 RX5 none 1 26 := X
  refine g_mk [true, true] [some (.ref (B + x0)), some (.ref (B + x1))] rfl ?_
  exact v_X5_copy X  hM
theorem fr_X5_copy_b16 {S : Nat → Prop} {u0 u : gM} {x0 : Nat} {x1 : Nat} (hs0 : S (rf skC x0 2)) (hs1 : S (rf skC x0 3)) (hs2 : S (rf skC x0 4)) (hs3 : S (rf skC x0 5)) (hs4 : S (rf skC x0 6))   {w : gM} (hM : X5_copy_b16 x0 x1 u = some w) (h0 : off S u0 u) : off S u0 w := by
  unfold X5_copy_b16 at hM
  obtain ⟨o0, hM⟩ := ite_of hM
  obtain ⟨o1, hM⟩ := ite_of hM
  obtain ⟨u28, e28, hM⟩ := bind_of hM
  have h0 := off_cpI hs0 e28 h0
  obtain ⟨u43, e43, hM⟩ := bind_of hM
  have h0 := off_cpI hs1 e43 h0
  obtain ⟨u58, e58, hM⟩ := bind_of hM
  have h0 := off_cpI hs2 e58 h0
  obtain ⟨u73, e73, hM⟩ := bind_of hM
  have h0 := off_cpI hs3 e73 h0
  obtain ⟨u88, e88, hM⟩ := bind_of hM
  have h0 := off_cpI hs4 e88 h0
  cases hM
  exact h0
theorem fr_X5_copy {S : Nat → Prop} {u0 u : gM} {x0 : Nat} {x1 : Nat} (hs0 : S (rf skC x0 2)) (hs1 : S (rf skC x0 3)) (hs2 : S (rf skC x0 4)) (hs3 : S (rf skC x0 5)) (hs4 : S (rf skC x0 6)) (hs5 : S x0)   {w : gM} (hM : X5_copy x0 x1 u = some w) (h0 : off S u0 u) : off S u0 w := by
  unfold X5_copy at hM
  obtain ⟨o0, hM⟩ := ite_of hM
  obtain ⟨o1, hM⟩ := ite_of hM
  have h0 := off_upI (u := u) (k := x0) (j := 0) (x := (u.1 x1 0)) hs5 h0
  have h0 := off_upJ (u := (upI u x0 0 (u.1 x1 0))) (k := x0) (j := 1) (x := ((upI u x0 0 (u.1 x1 0)).2 x1 1)) hs5 h0
  exact fr_X5_copy_b16 hs0 hs1 hs2 hs3 hs4  hM h0
/-! CoverDesk$State.copy(LCoverDesk$State;)V -/
theorem dX8_copy_0 : decode cX8_copy 0 = .ok (.aload_n 0, 1) := by decide +kernel
theorem dX8_copy_1 : decode cX8_copy 1 = .ok (.aload_n 1, 1) := by decide +kernel
theorem dX8_copy_2 : decode cX8_copy 2 = .ok (.getfield 34, 3) := by decide +kernel
theorem dX8_copy_5 : decode cX8_copy 5 = .ok (.putfield 34, 3) := by decide +kernel
theorem dX8_copy_8 : decode cX8_copy 8 = .ok (.aload_n 1, 1) := by decide +kernel
theorem dX8_copy_9 : decode cX8_copy 9 = .ok (.getfield 9, 3) := by decide +kernel
theorem dX8_copy_12 : decode cX8_copy 12 = .ok (.iconst 0, 1) := by decide +kernel
theorem dX8_copy_13 : decode cX8_copy 13 = .ok (.aload_n 0, 1) := by decide +kernel
theorem dX8_copy_14 : decode cX8_copy 14 = .ok (.getfield 9, 3) := by decide +kernel
theorem dX8_copy_17 : decode cX8_copy 17 = .ok (.iconst 0, 1) := by decide +kernel
theorem dX8_copy_18 : decode cX8_copy 18 = .ok (.bipush 24, 2) := by decide +kernel
theorem dX8_copy_20 : decode cX8_copy 20 = .ok (.invokestatic 41, 3) := by decide +kernel
theorem dX8_copy_23 : decode cX8_copy 23 = .ok (.aload_n 1, 1) := by decide +kernel
theorem dX8_copy_24 : decode cX8_copy 24 = .ok (.getfield 15, 3) := by decide +kernel
theorem dX8_copy_27 : decode cX8_copy 27 = .ok (.iconst 0, 1) := by decide +kernel
theorem dX8_copy_28 : decode cX8_copy 28 = .ok (.aload_n 0, 1) := by decide +kernel
theorem dX8_copy_29 : decode cX8_copy 29 = .ok (.getfield 15, 3) := by decide +kernel
theorem dX8_copy_32 : decode cX8_copy 32 = .ok (.iconst 0, 1) := by decide +kernel
theorem dX8_copy_33 : decode cX8_copy 33 = .ok (.bipush 10, 2) := by decide +kernel
theorem dX8_copy_35 : decode cX8_copy 35 = .ok (.invokestatic 41, 3) := by decide +kernel
theorem dX8_copy_38 : decode cX8_copy 38 = .ok (.aload_n 1, 1) := by decide +kernel
theorem dX8_copy_39 : decode cX8_copy 39 = .ok (.getfield 18, 3) := by decide +kernel
theorem dX8_copy_42 : decode cX8_copy 42 = .ok (.iconst 0, 1) := by decide +kernel
theorem dX8_copy_43 : decode cX8_copy 43 = .ok (.aload_n 0, 1) := by decide +kernel
theorem dX8_copy_44 : decode cX8_copy 44 = .ok (.getfield 18, 3) := by decide +kernel
theorem dX8_copy_47 : decode cX8_copy 47 = .ok (.iconst 0, 1) := by decide +kernel
theorem dX8_copy_48 : decode cX8_copy 48 = .ok (.bipush 6, 2) := by decide +kernel
theorem dX8_copy_50 : decode cX8_copy 50 = .ok (.invokestatic 41, 3) := by decide +kernel
theorem dX8_copy_53 : decode cX8_copy 53 = .ok (.aload_n 1, 1) := by decide +kernel
theorem dX8_copy_54 : decode cX8_copy 54 = .ok (.getfield 21, 3) := by decide +kernel
theorem dX8_copy_57 : decode cX8_copy 57 = .ok (.iconst 0, 1) := by decide +kernel
theorem dX8_copy_58 : decode cX8_copy 58 = .ok (.aload_n 0, 1) := by decide +kernel
theorem dX8_copy_59 : decode cX8_copy 59 = .ok (.getfield 21, 3) := by decide +kernel
theorem dX8_copy_62 : decode cX8_copy 62 = .ok (.iconst 0, 1) := by decide +kernel
theorem dX8_copy_63 : decode cX8_copy 63 = .ok (.bipush 6, 2) := by decide +kernel
theorem dX8_copy_65 : decode cX8_copy 65 = .ok (.invokestatic 41, 3) := by decide +kernel
theorem dX8_copy_68 : decode cX8_copy 68 = .ok (.aload_n 1, 1) := by decide +kernel
theorem dX8_copy_69 : decode cX8_copy 69 = .ok (.getfield 24, 3) := by decide +kernel
theorem dX8_copy_72 : decode cX8_copy 72 = .ok (.iconst 0, 1) := by decide +kernel
theorem dX8_copy_73 : decode cX8_copy 73 = .ok (.aload_n 0, 1) := by decide +kernel
theorem dX8_copy_74 : decode cX8_copy 74 = .ok (.getfield 24, 3) := by decide +kernel
theorem dX8_copy_77 : decode cX8_copy 77 = .ok (.iconst 0, 1) := by decide +kernel
theorem dX8_copy_78 : decode cX8_copy 78 = .ok (.bipush 6, 2) := by decide +kernel
theorem dX8_copy_80 : decode cX8_copy 80 = .ok (.invokestatic 41, 3) := by decide +kernel
theorem dX8_copy_83 : decode cX8_copy 83 = .ok (.aload_n 0, 1) := by decide +kernel
theorem dX8_copy_84 : decode cX8_copy 84 = .ok (.getfield 30, 3) := by decide +kernel
theorem dX8_copy_87 : decode cX8_copy 87 = .ok (.aload_n 1, 1) := by decide +kernel
theorem dX8_copy_88 : decode cX8_copy 88 = .ok (.getfield 30, 3) := by decide +kernel
theorem dX8_copy_91 : decode cX8_copy 91 = .ok (.invokevirtual 60, 3) := by decide +kernel
theorem dX8_copy_94 : decode cX8_copy 94 = .ok (.return_, 1) := by decide +kernel
def X8_copy  (x0 : Nat) (x1 : Nat) (u : gM) : Option gM :=
(if isO skC x1 8 = true then (if isO skC x0 8 = true then ((cpI skC (upI u x0 0 (u.1 x1 0)) (rf skC x1 1) 0 (rf skC x0 1) 0 24).bind fun u20 => ((cpI skC u20 (rf skC x1 2) 0 (rf skC x0 2) 0 10).bind fun u35 => ((cpI skC u35 (rf skC x1 3) 0 (rf skC x0 3) 0 6).bind fun u50 => ((cpI skC u50 (rf skC x1 4) 0 (rf skC x0 4) 0 6).bind fun u65 => ((cpI skC u65 (rf skC x1 5) 0 (rf skC x0 5) 0 6).bind fun u80 => (if isO skC (rf skC x0 6) 5 = true then ((X5_copy (rf skC x0 6) (rf skC x1 6) u80).bind fun w91 => some w91)
 else none))))))
 else none)
 else none)
set_option maxRecDepth 20000 in
theorem v_X8_copy {κ : gK} {B : Nat} {u : gM} (X : gX κ B skC cX8_copy 2 RX8 none 2 47)   {x0 : Nat} {x1 : Nat} {w : gM} (hM : X8_copy x0 x1 u = some w) : gV κ B skC 2 ((none), w) 0 [some (.ref (B + x0)), some (.ref (B + x1))] [] u := by
  unfold X8_copy at hM
  refine g_aload_n X dX8_copy_0 rfl ?_
  refine g_aload_n X dX8_copy_1 rfl ?_
  obtain ⟨o0, hM⟩ := ite_of hM
  refine g_getI X fX8_34 (sh_X8 o0) rfl dX8_copy_2 ?_
  obtain ⟨o1, hM⟩ := ite_of hM
  refine g_putI X fX8_34 gc_X8 gp_X8_0 (sh_X8 o1) rfl dX8_copy_5 ?_
  refine g_aload_n X dX8_copy_8 rfl ?_
  refine g_getR X fX8_9 (sh_X8 o0) rfl dX8_copy_9 ?_
  refine g_iconst X (v := 0) dX8_copy_12 (by decide) ?_
  refine g_aload_n X dX8_copy_13 rfl ?_
  refine g_getR X fX8_9 (sh_X8 o1) rfl dX8_copy_14 ?_
  refine g_iconst X (v := 0) dX8_copy_17 (by decide) ?_
  refine g_bipush X (v := 24) dX8_copy_18 (by decide) ?_
  obtain ⟨u20, e20, hM⟩ := bind_of hM
  refine g_copyI X m_8_11 e20 ⟨by decide, by decide⟩ dX8_copy_20 ?_
  refine g_aload_n X dX8_copy_23 rfl ?_
  refine g_getR X fX8_15 (sh_X8 o0) rfl dX8_copy_24 ?_
  refine g_iconst X (v := 0) dX8_copy_27 (by decide) ?_
  refine g_aload_n X dX8_copy_28 rfl ?_
  refine g_getR X fX8_15 (sh_X8 o1) rfl dX8_copy_29 ?_
  refine g_iconst X (v := 0) dX8_copy_32 (by decide) ?_
  refine g_bipush X (v := 10) dX8_copy_33 (by decide) ?_
  obtain ⟨u35, e35, hM⟩ := bind_of hM
  refine g_copyI X m_8_11 e35 ⟨by decide, by decide⟩ dX8_copy_35 ?_
  refine g_aload_n X dX8_copy_38 rfl ?_
  refine g_getR X fX8_18 (sh_X8 o0) rfl dX8_copy_39 ?_
  refine g_iconst X (v := 0) dX8_copy_42 (by decide) ?_
  refine g_aload_n X dX8_copy_43 rfl ?_
  refine g_getR X fX8_18 (sh_X8 o1) rfl dX8_copy_44 ?_
  refine g_iconst X (v := 0) dX8_copy_47 (by decide) ?_
  refine g_bipush X (v := 6) dX8_copy_48 (by decide) ?_
  obtain ⟨u50, e50, hM⟩ := bind_of hM
  refine g_copyI X m_8_11 e50 ⟨by decide, by decide⟩ dX8_copy_50 ?_
  refine g_aload_n X dX8_copy_53 rfl ?_
  refine g_getR X fX8_21 (sh_X8 o0) rfl dX8_copy_54 ?_
  refine g_iconst X (v := 0) dX8_copy_57 (by decide) ?_
  refine g_aload_n X dX8_copy_58 rfl ?_
  refine g_getR X fX8_21 (sh_X8 o1) rfl dX8_copy_59 ?_
  refine g_iconst X (v := 0) dX8_copy_62 (by decide) ?_
  refine g_bipush X (v := 6) dX8_copy_63 (by decide) ?_
  obtain ⟨u65, e65, hM⟩ := bind_of hM
  refine g_copyI X m_8_11 e65 ⟨by decide, by decide⟩ dX8_copy_65 ?_
  refine g_aload_n X dX8_copy_68 rfl ?_
  refine g_getR X fX8_24 (sh_X8 o0) rfl dX8_copy_69 ?_
  refine g_iconst X (v := 0) dX8_copy_72 (by decide) ?_
  refine g_aload_n X dX8_copy_73 rfl ?_
  refine g_getR X fX8_24 (sh_X8 o1) rfl dX8_copy_74 ?_
  refine g_iconst X (v := 0) dX8_copy_77 (by decide) ?_
  refine g_bipush X (v := 6) dX8_copy_78 (by decide) ?_
  obtain ⟨u80, e80, hM⟩ := bind_of hM
  refine g_copyI X m_8_11 e80 ⟨by decide, by decide⟩ dX8_copy_80 ?_
  refine g_aload_n X dX8_copy_83 rfl ?_
  refine g_getR X fX8_30 (sh_X8 o1) rfl dX8_copy_84 ?_
  refine g_aload_n X dX8_copy_87 rfl ?_
  refine g_getR X fX8_30 (sh_X8 o0) rfl dX8_copy_88 ?_
  obtain ⟨o2, hM⟩ := ite_of hM
  obtain ⟨w91, e91, hM⟩ := bind_of hM
  refine g_callVv X (fun B adK => [.ref (B + (rf skC x1 6))]) (s_X5_copy e91) cvX8_60 (sh_X5 o2) rfl rfl (Nat.le_of_ble_eq_true rfl) ⟨by decide, by decide⟩ dX8_copy_91 ?_
  cases hM
  exact g_vret X dX8_copy_94
theorem s_X8_copy {x0 : Nat} {x1 : Nat} {u : gM} {w : gM} (hM : X8_copy x0 x1 u = some w) : gMet skC yX8_copy cX8_copy 2 none 2 47 (fun B adK => [.ref (B + x0), .ref (B + x1)]) u ((fun _ => none), w) := by
  refine gMet.of (by decide) (fun _ _ => Nat.le_of_ble_eq_true rfl) (fun κ B X => ?_)
  have X : gX κ B skC cX8_copy 2 RX8 none 2 47 := X
  refine g_mk [true, true] [some (.ref (B + x0)), some (.ref (B + x1))] rfl ?_
  exact v_X8_copy X  hM
theorem fr_X8_copy {S : Nat → Prop} {u0 u : gM} {x0 : Nat} {x1 : Nat} (hs0 : S (rf skC (rf skC x0 6) 2)) (hs1 : S (rf skC (rf skC x0 6) 3)) (hs2 : S (rf skC (rf skC x0 6) 4)) (hs3 : S (rf skC (rf skC x0 6) 5)) (hs4 : S (rf skC (rf skC x0 6) 6)) (hs5 : S (rf skC x0 1)) (hs6 : S (rf skC x0 2)) (hs7 : S (rf skC x0 3)) (hs8 : S (rf skC x0 4)) (hs9 : S (rf skC x0 5)) (hs10 : S (rf skC x0 6)) (hs11 : S x0)   {w : gM} (hM : X8_copy x0 x1 u = some w) (h0 : off S u0 u) : off S u0 w := by
  unfold X8_copy at hM
  obtain ⟨o0, hM⟩ := ite_of hM
  obtain ⟨o1, hM⟩ := ite_of hM
  have h0 := off_upI (u := u) (k := x0) (j := 0) (x := (u.1 x1 0)) hs11 h0
  obtain ⟨u20, e20, hM⟩ := bind_of hM
  have h0 := off_cpI hs5 e20 h0
  obtain ⟨u35, e35, hM⟩ := bind_of hM
  have h0 := off_cpI hs6 e35 h0
  obtain ⟨u50, e50, hM⟩ := bind_of hM
  have h0 := off_cpI hs7 e50 h0
  obtain ⟨u65, e65, hM⟩ := bind_of hM
  have h0 := off_cpI hs8 e65 h0
  obtain ⟨u80, e80, hM⟩ := bind_of hM
  have h0 := off_cpI hs9 e80 h0
  obtain ⟨o2, hM⟩ := ite_of hM
  obtain ⟨w91, e91, hM⟩ := bind_of hM
  have h0 := fr_X5_copy hs0 hs1 hs2 hs3 hs4 hs10 e91 h0
  cases hM
  exact h0
/-! CoverDesk$Past.keep(LCoverDesk$State;)V -/
theorem dX7_keep_0 : decode cX7_keep 0 = .ok (.aload_n 0, 1) := by decide +kernel
theorem dX7_keep_1 : decode cX7_keep 1 = .ok (.getfield 11, 3) := by decide +kernel
theorem dX7_keep_4 : decode cX7_keep 4 = .ok (.aload_n 0, 1) := by decide +kernel
theorem dX7_keep_5 : decode cX7_keep 5 = .ok (.getfield 22, 3) := by decide +kernel
theorem dX7_keep_8 : decode cX7_keep 8 = .ok (.aaload, 1) := by decide +kernel
theorem dX7_keep_9 : decode cX7_keep 9 = .ok (.aload_n 1, 1) := by decide +kernel
theorem dX7_keep_10 : decode cX7_keep 10 = .ok (.invokevirtual 25, 3) := by decide +kernel
theorem dX7_keep_13 : decode cX7_keep 13 = .ok (.return_, 1) := by decide +kernel
def X7_keep  (x1 : Nat) (u : gM) : Option gM :=
((aR skC 31 (u.1 30 1)).bind fun v8 => (if isO skC v8 8 = true then ((X8_copy v8 x1 u).bind fun w10 => some w10)
 else none))
set_option maxRecDepth 20000 in
theorem v_X7_keep {κ : gK} {B : Nat} {u : gM} (X : gX κ B skC cX7_keep 2 RX7 none 3 68)   {x1 : Nat} {w : gM} (hM : X7_keep x1 u = some w) : gV κ B skC 2 ((none), w) 0 [some (.ref (B + 30)), some (.ref (B + x1))] [] u := by
  unfold X7_keep at hM
  refine g_aload_n X dX7_keep_0 rfl ?_
  refine g_getR X fX7_11 cC_30 rfl dX7_keep_1 ?_
  refine g_aload_n X dX7_keep_4 rfl ?_
  refine g_getI X fX7_22 cC_30 rfl dX7_keep_5 ?_
  obtain ⟨v8, e8, hM⟩ := bind_of hM
  refine g_aaload X e8 dX7_keep_8 ?_
  refine g_aload_n X dX7_keep_9 rfl ?_
  obtain ⟨o0, hM⟩ := ite_of hM
  obtain ⟨w10, e10, hM⟩ := bind_of hM
  refine g_callVv X (fun B adK => [.ref (B + x1)]) (s_X8_copy e10) cvX7_25 (sh_X8 o0) rfl rfl (Nat.le_of_ble_eq_true rfl) ⟨by decide, by decide⟩ dX7_keep_10 ?_
  cases hM
  exact g_vret X dX7_keep_13
theorem s_X7_keep {x1 : Nat} {u : gM} {w : gM} (hM : X7_keep x1 u = some w) : gMet skC yX7_keep cX7_keep 2 none 3 68 (fun B adK => [.ref (B + 30), .ref (B + x1)]) u ((fun _ => none), w) := by
  refine gMet.of (by decide) (fun _ _ => Nat.le_of_ble_eq_true rfl) (fun κ B X => ?_)
  have X : gX κ B skC cX7_keep 2 RX7 none 3 68 := X
  refine g_mk [true, true] [some (.ref (B + 30)), some (.ref (B + x1))] rfl ?_
  exact v_X7_keep X  hM

/-! CoverDesk$Deeds.isAmount(I)Z -/
theorem dX3_isAmount_0 : decode cX3_isAmount 0 = .ok (.iload_n 0, 1) := by decide +kernel
theorem dX3_isAmount_1 : decode cX3_isAmount 1 = .ok (.ifCond .le 13, 3) := by decide +kernel
theorem dX3_isAmount_4 : decode cX3_isAmount 4 = .ok (.iload_n 0, 1) := by decide +kernel
theorem dX3_isAmount_5 : decode cX3_isAmount 5 = .ok (.ldc 50, 2) := by decide +kernel
theorem dX3_isAmount_7 : decode cX3_isAmount 7 = .ok (.if_icmp .gt 7, 3) := by decide +kernel
theorem dX3_isAmount_10 : decode cX3_isAmount 10 = .ok (.iconst 1, 1) := by decide +kernel
theorem dX3_isAmount_11 : decode cX3_isAmount 11 = .ok (.goto 4, 3) := by decide +kernel
theorem dX3_isAmount_14 : decode cX3_isAmount 14 = .ok (.iconst 0, 1) := by decide +kernel
theorem dX3_isAmount_15 : decode cX3_isAmount 15 = .ok (.ireturn, 1) := by decide +kernel
def X3_isAmount_b15 (u : gM)  (s0 : Int32) : Option Int32 :=
bI s0
def X3_isAmount_b14 (u : gM)   : Option Int32 :=
(X3_isAmount_b15 u 0)
def X3_isAmount (u : gM)  (x0 : Int32) : Option Int32 :=
(if x0 ≤ 0 then (X3_isAmount_b14 u)
  else (if 100000000 < x0 then (X3_isAmount_b14 u)
    else (X3_isAmount_b15 u 1)))
set_option maxRecDepth 20000 in
theorem v_X3_isAmount_b15 {κ : gK} {B : Nat} {u : gM} (X : gX κ B skC cX3_isAmount 1 RX3 (some .boolean) 0 0)   {s0 : Int32} {w : Int32} (hM : X3_isAmount_b15 u s0 = some w) : gV κ B skC 1 ((some (.int w)), u) 15 [none] [.int s0] u := by
  unfold X3_isAmount_b15 at hM
  obtain ⟨hv, rfl⟩ := bI_of hM
  exact g_zret X hv dX3_isAmount_15
set_option maxRecDepth 20000 in
theorem v_X3_isAmount_b14 {κ : gK} {B : Nat} {u : gM} (X : gX κ B skC cX3_isAmount 1 RX3 (some .boolean) 0 0)    {w : Int32} (hM : X3_isAmount_b14 u = some w) : gV κ B skC 1 ((some (.int w)), u) 14 [none] [] u := by
  unfold X3_isAmount_b14 at hM
  refine g_iconst X (v := 0) dX3_isAmount_14 (by decide) ?_
  refine g_mk [false] [none] rfl ?_
  exact v_X3_isAmount_b15 X  hM
set_option maxRecDepth 20000 in
theorem v_X3_isAmount {κ : gK} {B : Nat} {u : gM} (X : gX κ B skC cX3_isAmount 1 RX3 (some .boolean) 0 0)   {x0 : Int32} {w : Int32} (hM : X3_isAmount u x0 = some w) : gV κ B skC 1 ((some (.int w)), u) 0 [some (.int x0)] [] u := by
  unfold X3_isAmount at hM
  refine g_iload_n X dX3_isAmount_0 rfl ?_
  refine g_if_le (tgt := 14) X dX3_isAmount_1 (by decide) (fun c1 => ?_) (fun c1 => ?_)
  · rw [if_pos c1] at hM
    refine g_mk [false] [none] rfl ?_
    exact v_X3_isAmount_b14 X  hM
  · rw [if_neg c1] at hM
    refine g_iload_n X dX3_isAmount_4 rfl ?_
    refine g_ldc (v := 100000000) X m_30_0 dX3_isAmount_5 ?_
    refine g_icmp_gt (tgt := 14) X dX3_isAmount_7 (by decide) (fun c7 => ?_) (fun c7 => ?_)
    · rw [if_pos c7] at hM
      refine g_mk [false] [none] rfl ?_
      exact v_X3_isAmount_b14 X  hM
    · rw [if_neg c7] at hM
      refine g_iconst X (v := 1) dX3_isAmount_10 (by decide) ?_
      refine g_goto (tgt := 15) X dX3_isAmount_11 (by decide) ?_
      refine g_mk [false] [none] rfl ?_
      exact v_X3_isAmount_b15 X  hM
theorem s_X3_isAmount {x0 : Int32} {u : gM} {w : Int32} (hM : X3_isAmount u x0 = some w) : gMet skC yX3_isAmount cX3_isAmount 1 (some .boolean) 0 0 (fun B adK => [.int x0]) u ((fun _ => some (.int w)), u) := by
  refine gMet.of (by decide) (fun _ _ => Nat.le_of_ble_eq_true rfl) (fun κ B X => ?_)
  have X : gX κ B skC cX3_isAmount 1 RX3 (some .boolean) 0 0 := X
  refine g_mk [true] [some (.int x0)] rfl ?_
  exact v_X3_isAmount X  hM

/-! CoverDesk$State.isOpen(I)Z -/
theorem dX8_isOpen_0 : decode cX8_isOpen 0 = .ok (.iload_n 1, 1) := by decide +kernel
theorem dX8_isOpen_1 : decode cX8_isOpen 1 = .ok (.ifCond .lt 32, 3) := by decide +kernel
theorem dX8_isOpen_4 : decode cX8_isOpen 4 = .ok (.iload_n 1, 1) := by decide +kernel
theorem dX8_isOpen_5 : decode cX8_isOpen 5 = .ok (.bipush 6, 2) := by decide +kernel
theorem dX8_isOpen_7 : decode cX8_isOpen 7 = .ok (.if_icmp .ge 26, 3) := by decide +kernel
theorem dX8_isOpen_10 : decode cX8_isOpen 10 = .ok (.aload_n 0, 1) := by decide +kernel
theorem dX8_isOpen_11 : decode cX8_isOpen 11 = .ok (.getfield 18, 3) := by decide +kernel
theorem dX8_isOpen_14 : decode cX8_isOpen 14 = .ok (.iload_n 1, 1) := by decide +kernel
theorem dX8_isOpen_15 : decode cX8_isOpen 15 = .ok (.iaload, 1) := by decide +kernel
theorem dX8_isOpen_16 : decode cX8_isOpen 16 = .ok (.iconst (-1), 1) := by decide +kernel
theorem dX8_isOpen_17 : decode cX8_isOpen 17 = .ok (.if_icmp .ne 16, 3) := by decide +kernel
theorem dX8_isOpen_20 : decode cX8_isOpen 20 = .ok (.aload_n 0, 1) := by decide +kernel
theorem dX8_isOpen_21 : decode cX8_isOpen 21 = .ok (.getfield 24, 3) := by decide +kernel
theorem dX8_isOpen_24 : decode cX8_isOpen 24 = .ok (.iload_n 1, 1) := by decide +kernel
theorem dX8_isOpen_25 : decode cX8_isOpen 25 = .ok (.iaload, 1) := by decide +kernel
theorem dX8_isOpen_26 : decode cX8_isOpen 26 = .ok (.ifCond .ne 7, 3) := by decide +kernel
theorem dX8_isOpen_29 : decode cX8_isOpen 29 = .ok (.iconst 1, 1) := by decide +kernel
theorem dX8_isOpen_30 : decode cX8_isOpen 30 = .ok (.goto 4, 3) := by decide +kernel
theorem dX8_isOpen_33 : decode cX8_isOpen 33 = .ok (.iconst 0, 1) := by decide +kernel
theorem dX8_isOpen_34 : decode cX8_isOpen 34 = .ok (.ireturn, 1) := by decide +kernel
def X8_isOpen_b34 (u : gM)  (s0 : Int32) : Option Int32 :=
bI s0
def X8_isOpen_b33 (u : gM)   : Option Int32 :=
(X8_isOpen_b34 u 0)
def X8_isOpen (u : gM)  (x0 : Nat) (x1 : Int32) : Option Int32 :=
(if x1 < 0 then (X8_isOpen_b33 u)
  else (if 6 ≤ x1 then (X8_isOpen_b33 u)
    else (if isO skC x0 8 = true then ((aI skC u (rf skC x0 3) x1).bind fun v15 => (if v15 = (-1) then ((aI skC u (rf skC x0 5) x1).bind fun v25 => (if v25 = 0 then (X8_isOpen_b34 u 1)
        else (X8_isOpen_b33 u)))
      else (X8_isOpen_b33 u)))
 else none)))
set_option maxRecDepth 20000 in
theorem v_X8_isOpen_b34 {κ : gK} {B : Nat} {u : gM} (X : gX κ B skC cX8_isOpen 2 RX8 (some .boolean) 0 0)   {s0 : Int32} {w : Int32} (hM : X8_isOpen_b34 u s0 = some w) : gV κ B skC 2 ((some (.int w)), u) 34 [none, none] [.int s0] u := by
  unfold X8_isOpen_b34 at hM
  obtain ⟨hv, rfl⟩ := bI_of hM
  exact g_zret X hv dX8_isOpen_34
set_option maxRecDepth 20000 in
theorem v_X8_isOpen_b33 {κ : gK} {B : Nat} {u : gM} (X : gX κ B skC cX8_isOpen 2 RX8 (some .boolean) 0 0)    {w : Int32} (hM : X8_isOpen_b33 u = some w) : gV κ B skC 2 ((some (.int w)), u) 33 [none, none] [] u := by
  unfold X8_isOpen_b33 at hM
  refine g_iconst X (v := 0) dX8_isOpen_33 (by decide) ?_
  refine g_mk [false, false] [none, none] rfl ?_
  exact v_X8_isOpen_b34 X  hM
set_option maxRecDepth 20000 in
theorem v_X8_isOpen {κ : gK} {B : Nat} {u : gM} (X : gX κ B skC cX8_isOpen 2 RX8 (some .boolean) 0 0)   {x0 : Nat} {x1 : Int32} {w : Int32} (hM : X8_isOpen u x0 x1 = some w) : gV κ B skC 2 ((some (.int w)), u) 0 [some (.ref (B + x0)), some (.int x1)] [] u := by
  unfold X8_isOpen at hM
  refine g_iload_n X dX8_isOpen_0 rfl ?_
  refine g_if_lt (tgt := 33) X dX8_isOpen_1 (by decide) (fun c1 => ?_) (fun c1 => ?_)
  · rw [if_pos c1] at hM
    refine g_mk [false, false] [none, none] rfl ?_
    exact v_X8_isOpen_b33 X  hM
  · rw [if_neg c1] at hM
    refine g_iload_n X dX8_isOpen_4 rfl ?_
    refine g_bipush X (v := 6) dX8_isOpen_5 (by decide) ?_
    refine g_icmp_ge (tgt := 33) X dX8_isOpen_7 (by decide) (fun c7 => ?_) (fun c7 => ?_)
    · rw [if_pos c7] at hM
      refine g_mk [false, false] [none, none] rfl ?_
      exact v_X8_isOpen_b33 X  hM
    · rw [if_neg c7] at hM
      refine g_aload_n X dX8_isOpen_10 rfl ?_
      obtain ⟨o0, hM⟩ := ite_of hM
      refine g_getR X fX8_18 (sh_X8 o0) rfl dX8_isOpen_11 ?_
      refine g_iload_n X dX8_isOpen_14 rfl ?_
      obtain ⟨v15, e15, hM⟩ := bind_of hM
      refine g_iaload X e15 dX8_isOpen_15 ?_
      refine g_iconst X (v := (-1)) dX8_isOpen_16 (by decide) ?_
      refine g_icmp_ne (tgt := 33) X dX8_isOpen_17 (by decide) (fun c17 => ?_) (fun c17 => ?_)
      · rw [if_neg c17] at hM
        refine g_mk [false, false] [none, none] rfl ?_
        exact v_X8_isOpen_b33 X  hM
      · rw [if_pos c17] at hM
        refine g_aload_n X dX8_isOpen_20 rfl ?_
        refine g_getR X fX8_24 (sh_X8 o0) rfl dX8_isOpen_21 ?_
        refine g_iload_n X dX8_isOpen_24 rfl ?_
        obtain ⟨v25, e25, hM⟩ := bind_of hM
        refine g_iaload X e25 dX8_isOpen_25 ?_
        refine g_if_ne (tgt := 33) X dX8_isOpen_26 (by decide) (fun c26 => ?_) (fun c26 => ?_)
        · rw [if_neg c26] at hM
          refine g_mk [false, false] [none, none] rfl ?_
          exact v_X8_isOpen_b33 X  hM
        · rw [if_pos c26] at hM
          refine g_iconst X (v := 1) dX8_isOpen_29 (by decide) ?_
          refine g_goto (tgt := 34) X dX8_isOpen_30 (by decide) ?_
          refine g_mk [false, false] [none, none] rfl ?_
          exact v_X8_isOpen_b34 X  hM
theorem s_X8_isOpen {x0 : Nat} {x1 : Int32} {u : gM} {w : Int32} (hM : X8_isOpen u x0 x1 = some w) : gMet skC yX8_isOpen cX8_isOpen 2 (some .boolean) 0 0 (fun B adK => [.ref (B + x0), .int x1]) u ((fun _ => some (.int w)), u) := by
  refine gMet.of (by decide) (fun _ _ => Nat.le_of_ble_eq_true rfl) (fun κ B X => ?_)
  have X : gX κ B skC cX8_isOpen 2 RX8 (some .boolean) 0 0 := X
  refine g_mk [true, true] [some (.ref (B + x0)), some (.int x1)] rfl ?_
  exact v_X8_isOpen X  hM

/-! CoverDesk$Deeds.putCoins(II)Z -/
theorem dX3_putCoins_0 : decode cX3_putCoins 0 = .ok (.aload_n 0, 1) := by decide +kernel
theorem dX3_putCoins_1 : decode cX3_putCoins 1 = .ok (.getfield 18, 3) := by decide +kernel
theorem dX3_putCoins_4 : decode cX3_putCoins 4 = .ok (.iload_n 1, 1) := by decide +kernel
theorem dX3_putCoins_5 : decode cX3_putCoins 5 = .ok (.invokevirtual 51, 3) := by decide +kernel
theorem dX3_putCoins_8 : decode cX3_putCoins 8 = .ok (.ifCond .eq 52, 3) := by decide +kernel
theorem dX3_putCoins_11 : decode cX3_putCoins 11 = .ok (.iload_n 2, 1) := by decide +kernel
theorem dX3_putCoins_12 : decode cX3_putCoins 12 = .ok (.invokestatic 56, 3) := by decide +kernel
theorem dX3_putCoins_15 : decode cX3_putCoins 15 = .ok (.ifCond .eq 45, 3) := by decide +kernel
theorem dX3_putCoins_18 : decode cX3_putCoins 18 = .ok (.aload_n 0, 1) := by decide +kernel
theorem dX3_putCoins_19 : decode cX3_putCoins 19 = .ok (.getfield 22, 3) := by decide +kernel
theorem dX3_putCoins_22 : decode cX3_putCoins 22 = .ok (.getfield 59, 3) := by decide +kernel
theorem dX3_putCoins_25 : decode cX3_putCoins 25 = .ok (.iload_n 1, 1) := by decide +kernel
theorem dX3_putCoins_26 : decode cX3_putCoins 26 = .ok (.iaload, 1) := by decide +kernel
theorem dX3_putCoins_27 : decode cX3_putCoins 27 = .ok (.ldc 50, 2) := by decide +kernel
theorem dX3_putCoins_29 : decode cX3_putCoins 29 = .ok (.iload_n 2, 1) := by decide +kernel
theorem dX3_putCoins_30 : decode cX3_putCoins 30 = .ok (.isub, 1) := by decide +kernel
theorem dX3_putCoins_31 : decode cX3_putCoins 31 = .ok (.if_icmp .gt 29, 3) := by decide +kernel
theorem dX3_putCoins_34 : decode cX3_putCoins 34 = .ok (.aload_n 0, 1) := by decide +kernel
theorem dX3_putCoins_35 : decode cX3_putCoins 35 = .ok (.getfield 22, 3) := by decide +kernel
theorem dX3_putCoins_38 : decode cX3_putCoins 38 = .ok (.aload_n 0, 1) := by decide +kernel
theorem dX3_putCoins_39 : decode cX3_putCoins 39 = .ok (.getfield 22, 3) := by decide +kernel
theorem dX3_putCoins_42 : decode cX3_putCoins 42 = .ok (.aload_n 0, 1) := by decide +kernel
theorem dX3_putCoins_43 : decode cX3_putCoins 43 = .ok (.getfield 18, 3) := by decide +kernel
theorem dX3_putCoins_46 : decode cX3_putCoins 46 = .ok (.getfield 65, 3) := by decide +kernel
theorem dX3_putCoins_49 : decode cX3_putCoins 49 = .ok (.iload_n 1, 1) := by decide +kernel
theorem dX3_putCoins_50 : decode cX3_putCoins 50 = .ok (.iaload, 1) := by decide +kernel
theorem dX3_putCoins_51 : decode cX3_putCoins 51 = .ok (.invokevirtual 68, 3) := by decide +kernel
theorem dX3_putCoins_54 : decode cX3_putCoins 54 = .ok (.invokevirtual 72, 3) := by decide +kernel
theorem dX3_putCoins_57 : decode cX3_putCoins 57 = .ok (.ifCond .ne 5, 3) := by decide +kernel
theorem dX3_putCoins_60 : decode cX3_putCoins 60 = .ok (.iconst 0, 1) := by decide +kernel
theorem dX3_putCoins_61 : decode cX3_putCoins 61 = .ok (.ireturn, 1) := by decide +kernel
theorem dX3_putCoins_62 : decode cX3_putCoins 62 = .ok (.aload_n 0, 1) := by decide +kernel
theorem dX3_putCoins_63 : decode cX3_putCoins 63 = .ok (.getfield 22, 3) := by decide +kernel
theorem dX3_putCoins_66 : decode cX3_putCoins 66 = .ok (.getfield 59, 3) := by decide +kernel
theorem dX3_putCoins_69 : decode cX3_putCoins 69 = .ok (.iload_n 1, 1) := by decide +kernel
theorem dX3_putCoins_70 : decode cX3_putCoins 70 = .ok (.dup2, 1) := by decide +kernel
theorem dX3_putCoins_71 : decode cX3_putCoins 71 = .ok (.iaload, 1) := by decide +kernel
theorem dX3_putCoins_72 : decode cX3_putCoins 72 = .ok (.iload_n 2, 1) := by decide +kernel
theorem dX3_putCoins_73 : decode cX3_putCoins 73 = .ok (.iadd, 1) := by decide +kernel
theorem dX3_putCoins_74 : decode cX3_putCoins 74 = .ok (.iastore, 1) := by decide +kernel
theorem dX3_putCoins_75 : decode cX3_putCoins 75 = .ok (.iconst 1, 1) := by decide +kernel
theorem dX3_putCoins_76 : decode cX3_putCoins 76 = .ok (.ireturn, 1) := by decide +kernel
def X3_putCoins_b60   (u : gM) : Option (Int32 × gM) :=
some (0, u)
def X3_putCoins  (x1 : Int32) (x2 : Int32) (u : gM) : Option (Int32 × gM) :=
((X10_isAccount u 3 x1).bind fun w5 => (if w5 = 0 then (X3_putCoins_b60 u)
  else ((X3_isAmount u x2).bind fun w12 => (if w12 = 0 then (X3_putCoins_b60 u)
    else ((aI skC u 19 x1).bind fun v26 => (if (100000000 - x2) < v26 then (X3_putCoins_b60 u)
      else ((aI skC u 8 x1).bind fun v50 => ((X8_nowAt u 18 v50).bind fun w51 => ((X8_isOpen u 18 w51).bind fun w54 => (if w54 = 0 then (X3_putCoins_b60 u)
        else ((aI skC u 19 x1).bind fun v71 => ((sI skC u 19 x1 (v71 + x2)).bind fun u74 => some (1, u74)))))))))))))
set_option maxRecDepth 20000 in
theorem v_X3_putCoins_b60 {κ : gK} {B : Nat} {u : gM} (X : gX κ B skC cX3_putCoins 3 RX3 (some .boolean) 2 44)    {w : (Int32 × gM)} (hM : X3_putCoins_b60 u = some w) : gV κ B skC 3 ((some (.int w.1)), w.2) 60 [none, none, none] [] u := by
  unfold X3_putCoins_b60 at hM
  refine g_iconst X (v := 0) dX3_putCoins_60 (by decide) ?_
  cases hM
  exact g_zret X (Or.inl rfl) dX3_putCoins_61
set_option maxRecDepth 20000 in
theorem v_X3_putCoins {κ : gK} {B : Nat} {u : gM} (X : gX κ B skC cX3_putCoins 3 RX3 (some .boolean) 2 44)   {x1 : Int32} {x2 : Int32} {w : (Int32 × gM)} (hM : X3_putCoins x1 x2 u = some w) : gV κ B skC 3 ((some (.int w.1)), w.2) 0 [some (.ref (B + 145)), some (.int x1), some (.int x2)] [] u := by
  unfold X3_putCoins at hM
  refine g_aload_n X dX3_putCoins_0 rfl ?_
  refine g_getR X fX3_18 cC_145 rfl dX3_putCoins_1 ?_
  refine g_iload_n X dX3_putCoins_4 rfl ?_
  obtain ⟨w5, e5, hM⟩ := bind_of hM
  refine g_callVi X (fun B adK => [.int x1]) (s_X10_isAccount e5) cvX3_51 cC_3 rfl rfl (Nat.le_of_ble_eq_true rfl) ⟨by decide, by decide⟩ dX3_putCoins_5 ?_
  refine g_if_eq (tgt := 60) X dX3_putCoins_8 (by decide) (fun c8 => ?_) (fun c8 => ?_)
  · rw [if_pos c8] at hM
    refine g_mk [false, false, false] [none, none, none] rfl ?_
    exact v_X3_putCoins_b60 X  hM
  · rw [if_neg c8] at hM
    refine g_iload_n X dX3_putCoins_11 rfl ?_
    obtain ⟨w12, e12, hM⟩ := bind_of hM
    refine g_callSi X (fun B adK => [.int x2]) (s_X3_isAmount e12) cvX3_56 rfl rfl (Nat.le_of_ble_eq_true rfl) ⟨by decide, by decide⟩ dX3_putCoins_12 ?_
    refine g_if_eq (tgt := 60) X dX3_putCoins_15 (by decide) (fun c15 => ?_) (fun c15 => ?_)
    · rw [if_pos c15] at hM
      refine g_mk [false, false, false] [none, none, none] rfl ?_
      exact v_X3_putCoins_b60 X  hM
    · rw [if_neg c15] at hM
      refine g_aload_n X dX3_putCoins_18 rfl ?_
      refine g_getR X fX3_22 cC_145 rfl dX3_putCoins_19 ?_
      refine g_getR X fX3_59 cC_18 rfl dX3_putCoins_22 ?_
      refine g_iload_n X dX3_putCoins_25 rfl ?_
      obtain ⟨v26, e26, hM⟩ := bind_of hM
      refine g_iaload X e26 dX3_putCoins_26 ?_
      refine g_ldc (v := 100000000) X m_30_0 dX3_putCoins_27 ?_
      refine g_iload_n X dX3_putCoins_29 rfl ?_
      refine g_isub X dX3_putCoins_30 ?_
      refine g_icmp_gt (tgt := 60) X dX3_putCoins_31 (by decide) (fun c31 => ?_) (fun c31 => ?_)
      · rw [if_pos c31] at hM
        refine g_mk [false, false, false] [none, none, none] rfl ?_
        exact v_X3_putCoins_b60 X  hM
      · rw [if_neg c31] at hM
        refine g_aload_n X dX3_putCoins_34 rfl ?_
        refine g_getR X fX3_22 cC_145 rfl dX3_putCoins_35 ?_
        refine g_aload_n X dX3_putCoins_38 rfl ?_
        refine g_getR X fX3_22 cC_145 rfl dX3_putCoins_39 ?_
        refine g_aload_n X dX3_putCoins_42 rfl ?_
        refine g_getR X fX3_18 cC_145 rfl dX3_putCoins_43 ?_
        refine g_getR X fX3_65 cC_3 rfl dX3_putCoins_46 ?_
        refine g_iload_n X dX3_putCoins_49 rfl ?_
        obtain ⟨v50, e50, hM⟩ := bind_of hM
        refine g_iaload X e50 dX3_putCoins_50 ?_
        obtain ⟨w51, e51, hM⟩ := bind_of hM
        refine g_callVi X (fun B adK => [.int v50]) (s_X8_nowAt e51) cvX3_68 cC_18 rfl rfl (Nat.le_of_ble_eq_true rfl) ⟨by decide, by decide⟩ dX3_putCoins_51 ?_
        obtain ⟨w54, e54, hM⟩ := bind_of hM
        refine g_callVi X (fun B adK => [.int w51]) (s_X8_isOpen e54) cvX3_72 cC_18 rfl rfl (Nat.le_of_ble_eq_true rfl) ⟨by decide, by decide⟩ dX3_putCoins_54 ?_
        refine g_if_ne (tgt := 62) X dX3_putCoins_57 (by decide) (fun c57 => ?_) (fun c57 => ?_)
        · rw [if_neg c57] at hM
          refine g_aload_n X dX3_putCoins_62 rfl ?_
          refine g_getR X fX3_22 cC_145 rfl dX3_putCoins_63 ?_
          refine g_getR X fX3_59 cC_18 rfl dX3_putCoins_66 ?_
          refine g_iload_n X dX3_putCoins_69 rfl ?_
          refine g_dup2_11 X rfl rfl dX3_putCoins_70 ?_
          obtain ⟨v71, e71, hM⟩ := bind_of hM
          refine g_iaload X e71 dX3_putCoins_71 ?_
          refine g_iload_n X dX3_putCoins_72 rfl ?_
          refine g_iadd X dX3_putCoins_73 ?_
          obtain ⟨u74, e74, hM⟩ := bind_of hM
          refine g_iastore X e74 dX3_putCoins_74 ?_
          refine g_iconst X (v := 1) dX3_putCoins_75 (by decide) ?_
          cases hM
          exact g_zret X (Or.inr rfl) dX3_putCoins_76
        · rw [if_pos c57] at hM
          refine g_mk [false, false, false] [none, none, none] rfl ?_
          exact v_X3_putCoins_b60 X  hM
theorem s_X3_putCoins {x1 : Int32} {x2 : Int32} {u : gM} {w : (Int32 × gM)} (hM : X3_putCoins x1 x2 u = some w) : gMet skC yX3_putCoins cX3_putCoins 3 (some .boolean) 2 44 (fun B adK => [.ref (B + 145), .int x1, .int x2]) u ((fun _ => some (.int w.1)), w.2) := by
  refine gMet.of (by decide) (fun _ _ => Nat.le_of_ble_eq_true rfl) (fun κ B X => ?_)
  have X : gX κ B skC cX3_putCoins 3 RX3 (some .boolean) 2 44 := X
  refine g_mk [true, true, true] [some (.ref (B + 145)), some (.int x1), some (.int x2)] rfl ?_
  exact v_X3_putCoins X  hM
theorem fr_X3_putCoins_b60 {S : Nat → Prop} {u0 u : gM}     {w : (Int32 × gM)} (hM : X3_putCoins_b60 u = some w) (h0 : off S u0 u) : off S u0 w.2 := by
  unfold X3_putCoins_b60 at hM
  cases hM
  exact h0
theorem fr_X3_putCoins {S : Nat → Prop} {u0 u : gM} {x1 : Int32} {x2 : Int32} (hs0 : S 19)   {w : (Int32 × gM)} (hM : X3_putCoins x1 x2 u = some w) (h0 : off S u0 u) : off S u0 w.2 := by
  unfold X3_putCoins at hM
  obtain ⟨w5, e5, hM⟩ := bind_of hM
  by_cases c8 : w5 = 0
  · rw [if_pos c8] at hM
    exact fr_X3_putCoins_b60   hM h0
  · rw [if_neg c8] at hM
    obtain ⟨w12, e12, hM⟩ := bind_of hM
    by_cases c15 : w12 = 0
    · rw [if_pos c15] at hM
      exact fr_X3_putCoins_b60   hM h0
    · rw [if_neg c15] at hM
      obtain ⟨v26, e26, hM⟩ := bind_of hM
      by_cases c31 : (100000000 - x2) < v26
      · rw [if_pos c31] at hM
        exact fr_X3_putCoins_b60   hM h0
      · rw [if_neg c31] at hM
        obtain ⟨v50, e50, hM⟩ := bind_of hM
        obtain ⟨w51, e51, hM⟩ := bind_of hM
        obtain ⟨w54, e54, hM⟩ := bind_of hM
        by_cases c57 : w54 = 0
        · rw [if_pos c57] at hM
          exact fr_X3_putCoins_b60   hM h0
        · rw [if_neg c57] at hM
          obtain ⟨v71, e71, hM⟩ := bind_of hM
          obtain ⟨u74, e74, hM⟩ := bind_of hM
          have h0 := off_sI hs0 e74 h0
          cases hM
          exact h0
/-! CoverDesk$Deeds.takeCoins(II)Z -/
theorem dX3_takeCoins_0 : decode cX3_takeCoins 0 = .ok (.aload_n 0, 1) := by decide +kernel
theorem dX3_takeCoins_1 : decode cX3_takeCoins 1 = .ok (.getfield 18, 3) := by decide +kernel
theorem dX3_takeCoins_4 : decode cX3_takeCoins 4 = .ok (.iload_n 1, 1) := by decide +kernel
theorem dX3_takeCoins_5 : decode cX3_takeCoins 5 = .ok (.invokevirtual 51, 3) := by decide +kernel
theorem dX3_takeCoins_8 : decode cX3_takeCoins 8 = .ok (.ifCond .eq 23, 3) := by decide +kernel
theorem dX3_takeCoins_11 : decode cX3_takeCoins 11 = .ok (.iload_n 2, 1) := by decide +kernel
theorem dX3_takeCoins_12 : decode cX3_takeCoins 12 = .ok (.invokestatic 56, 3) := by decide +kernel
theorem dX3_takeCoins_15 : decode cX3_takeCoins 15 = .ok (.ifCond .eq 16, 3) := by decide +kernel
theorem dX3_takeCoins_18 : decode cX3_takeCoins 18 = .ok (.iload_n 2, 1) := by decide +kernel
theorem dX3_takeCoins_19 : decode cX3_takeCoins 19 = .ok (.aload_n 0, 1) := by decide +kernel
theorem dX3_takeCoins_20 : decode cX3_takeCoins 20 = .ok (.getfield 22, 3) := by decide +kernel
theorem dX3_takeCoins_23 : decode cX3_takeCoins 23 = .ok (.getfield 59, 3) := by decide +kernel
theorem dX3_takeCoins_26 : decode cX3_takeCoins 26 = .ok (.iload_n 1, 1) := by decide +kernel
theorem dX3_takeCoins_27 : decode cX3_takeCoins 27 = .ok (.iaload, 1) := by decide +kernel
theorem dX3_takeCoins_28 : decode cX3_takeCoins 28 = .ok (.if_icmp .le 5, 3) := by decide +kernel
theorem dX3_takeCoins_31 : decode cX3_takeCoins 31 = .ok (.iconst 0, 1) := by decide +kernel
theorem dX3_takeCoins_32 : decode cX3_takeCoins 32 = .ok (.ireturn, 1) := by decide +kernel
theorem dX3_takeCoins_33 : decode cX3_takeCoins 33 = .ok (.aload_n 0, 1) := by decide +kernel
theorem dX3_takeCoins_34 : decode cX3_takeCoins 34 = .ok (.getfield 22, 3) := by decide +kernel
theorem dX3_takeCoins_37 : decode cX3_takeCoins 37 = .ok (.getfield 59, 3) := by decide +kernel
theorem dX3_takeCoins_40 : decode cX3_takeCoins 40 = .ok (.iload_n 1, 1) := by decide +kernel
theorem dX3_takeCoins_41 : decode cX3_takeCoins 41 = .ok (.dup2, 1) := by decide +kernel
theorem dX3_takeCoins_42 : decode cX3_takeCoins 42 = .ok (.iaload, 1) := by decide +kernel
theorem dX3_takeCoins_43 : decode cX3_takeCoins 43 = .ok (.iload_n 2, 1) := by decide +kernel
theorem dX3_takeCoins_44 : decode cX3_takeCoins 44 = .ok (.isub, 1) := by decide +kernel
theorem dX3_takeCoins_45 : decode cX3_takeCoins 45 = .ok (.iastore, 1) := by decide +kernel
theorem dX3_takeCoins_46 : decode cX3_takeCoins 46 = .ok (.iconst 1, 1) := by decide +kernel
theorem dX3_takeCoins_47 : decode cX3_takeCoins 47 = .ok (.ireturn, 1) := by decide +kernel
def X3_takeCoins_b31   (u : gM) : Option (Int32 × gM) :=
some (0, u)
def X3_takeCoins  (x1 : Int32) (x2 : Int32) (u : gM) : Option (Int32 × gM) :=
((X10_isAccount u 3 x1).bind fun w5 => (if w5 = 0 then (X3_takeCoins_b31 u)
  else ((X3_isAmount u x2).bind fun w12 => (if w12 = 0 then (X3_takeCoins_b31 u)
    else ((aI skC u 19 x1).bind fun v27 => (if x2 ≤ v27 then ((aI skC u 19 x1).bind fun v42 => ((sI skC u 19 x1 (v42 - x2)).bind fun u45 => some (1, u45)))
      else (X3_takeCoins_b31 u)))))))
set_option maxRecDepth 20000 in
theorem v_X3_takeCoins_b31 {κ : gK} {B : Nat} {u : gM} (X : gX κ B skC cX3_takeCoins 3 RX3 (some .boolean) 1 21)    {w : (Int32 × gM)} (hM : X3_takeCoins_b31 u = some w) : gV κ B skC 3 ((some (.int w.1)), w.2) 31 [none, none, none] [] u := by
  unfold X3_takeCoins_b31 at hM
  refine g_iconst X (v := 0) dX3_takeCoins_31 (by decide) ?_
  cases hM
  exact g_zret X (Or.inl rfl) dX3_takeCoins_32
set_option maxRecDepth 20000 in
theorem v_X3_takeCoins {κ : gK} {B : Nat} {u : gM} (X : gX κ B skC cX3_takeCoins 3 RX3 (some .boolean) 1 21)   {x1 : Int32} {x2 : Int32} {w : (Int32 × gM)} (hM : X3_takeCoins x1 x2 u = some w) : gV κ B skC 3 ((some (.int w.1)), w.2) 0 [some (.ref (B + 145)), some (.int x1), some (.int x2)] [] u := by
  unfold X3_takeCoins at hM
  refine g_aload_n X dX3_takeCoins_0 rfl ?_
  refine g_getR X fX3_18 cC_145 rfl dX3_takeCoins_1 ?_
  refine g_iload_n X dX3_takeCoins_4 rfl ?_
  obtain ⟨w5, e5, hM⟩ := bind_of hM
  refine g_callVi X (fun B adK => [.int x1]) (s_X10_isAccount e5) cvX3_51 cC_3 rfl rfl (Nat.le_of_ble_eq_true rfl) ⟨by decide, by decide⟩ dX3_takeCoins_5 ?_
  refine g_if_eq (tgt := 31) X dX3_takeCoins_8 (by decide) (fun c8 => ?_) (fun c8 => ?_)
  · rw [if_pos c8] at hM
    refine g_mk [false, false, false] [none, none, none] rfl ?_
    exact v_X3_takeCoins_b31 X  hM
  · rw [if_neg c8] at hM
    refine g_iload_n X dX3_takeCoins_11 rfl ?_
    obtain ⟨w12, e12, hM⟩ := bind_of hM
    refine g_callSi X (fun B adK => [.int x2]) (s_X3_isAmount e12) cvX3_56 rfl rfl (Nat.le_of_ble_eq_true rfl) ⟨by decide, by decide⟩ dX3_takeCoins_12 ?_
    refine g_if_eq (tgt := 31) X dX3_takeCoins_15 (by decide) (fun c15 => ?_) (fun c15 => ?_)
    · rw [if_pos c15] at hM
      refine g_mk [false, false, false] [none, none, none] rfl ?_
      exact v_X3_takeCoins_b31 X  hM
    · rw [if_neg c15] at hM
      refine g_iload_n X dX3_takeCoins_18 rfl ?_
      refine g_aload_n X dX3_takeCoins_19 rfl ?_
      refine g_getR X fX3_22 cC_145 rfl dX3_takeCoins_20 ?_
      refine g_getR X fX3_59 cC_18 rfl dX3_takeCoins_23 ?_
      refine g_iload_n X dX3_takeCoins_26 rfl ?_
      obtain ⟨v27, e27, hM⟩ := bind_of hM
      refine g_iaload X e27 dX3_takeCoins_27 ?_
      refine g_icmp_le (tgt := 33) X dX3_takeCoins_28 (by decide) (fun c28 => ?_) (fun c28 => ?_)
      · rw [if_pos c28] at hM
        refine g_aload_n X dX3_takeCoins_33 rfl ?_
        refine g_getR X fX3_22 cC_145 rfl dX3_takeCoins_34 ?_
        refine g_getR X fX3_59 cC_18 rfl dX3_takeCoins_37 ?_
        refine g_iload_n X dX3_takeCoins_40 rfl ?_
        refine g_dup2_11 X rfl rfl dX3_takeCoins_41 ?_
        obtain ⟨v42, e42, hM⟩ := bind_of hM
        refine g_iaload X e42 dX3_takeCoins_42 ?_
        refine g_iload_n X dX3_takeCoins_43 rfl ?_
        refine g_isub X dX3_takeCoins_44 ?_
        obtain ⟨u45, e45, hM⟩ := bind_of hM
        refine g_iastore X e45 dX3_takeCoins_45 ?_
        refine g_iconst X (v := 1) dX3_takeCoins_46 (by decide) ?_
        cases hM
        exact g_zret X (Or.inr rfl) dX3_takeCoins_47
      · rw [if_neg c28] at hM
        refine g_mk [false, false, false] [none, none, none] rfl ?_
        exact v_X3_takeCoins_b31 X  hM
theorem s_X3_takeCoins {x1 : Int32} {x2 : Int32} {u : gM} {w : (Int32 × gM)} (hM : X3_takeCoins x1 x2 u = some w) : gMet skC yX3_takeCoins cX3_takeCoins 3 (some .boolean) 1 21 (fun B adK => [.ref (B + 145), .int x1, .int x2]) u ((fun _ => some (.int w.1)), w.2) := by
  refine gMet.of (by decide) (fun _ _ => Nat.le_of_ble_eq_true rfl) (fun κ B X => ?_)
  have X : gX κ B skC cX3_takeCoins 3 RX3 (some .boolean) 1 21 := X
  refine g_mk [true, true, true] [some (.ref (B + 145)), some (.int x1), some (.int x2)] rfl ?_
  exact v_X3_takeCoins X  hM
theorem fr_X3_takeCoins_b31 {S : Nat → Prop} {u0 u : gM}     {w : (Int32 × gM)} (hM : X3_takeCoins_b31 u = some w) (h0 : off S u0 u) : off S u0 w.2 := by
  unfold X3_takeCoins_b31 at hM
  cases hM
  exact h0
theorem fr_X3_takeCoins {S : Nat → Prop} {u0 u : gM} {x1 : Int32} {x2 : Int32} (hs0 : S 19)   {w : (Int32 × gM)} (hM : X3_takeCoins x1 x2 u = some w) (h0 : off S u0 u) : off S u0 w.2 := by
  unfold X3_takeCoins at hM
  obtain ⟨w5, e5, hM⟩ := bind_of hM
  by_cases c8 : w5 = 0
  · rw [if_pos c8] at hM
    exact fr_X3_takeCoins_b31   hM h0
  · rw [if_neg c8] at hM
    obtain ⟨w12, e12, hM⟩ := bind_of hM
    by_cases c15 : w12 = 0
    · rw [if_pos c15] at hM
      exact fr_X3_takeCoins_b31   hM h0
    · rw [if_neg c15] at hM
      obtain ⟨v27, e27, hM⟩ := bind_of hM
      by_cases c28 : x2 ≤ v27
      · rw [if_pos c28] at hM
        obtain ⟨v42, e42, hM⟩ := bind_of hM
        obtain ⟨u45, e45, hM⟩ := bind_of hM
        have h0 := off_sI hs0 e45 h0
        cases hM
        exact h0
      · rw [if_neg c28] at hM
        exact fr_X3_takeCoins_b31   hM h0
/-! CoverDesk$Deeds.mergeBanks(II)Z -/
theorem dX3_mergeBanks_0 : decode cX3_mergeBanks 0 = .ok (.aload_n 0, 1) := by decide +kernel
theorem dX3_mergeBanks_1 : decode cX3_mergeBanks 1 = .ok (.getfield 18, 3) := by decide +kernel
theorem dX3_mergeBanks_4 : decode cX3_mergeBanks 4 = .ok (.iload_n 1, 1) := by decide +kernel
theorem dX3_mergeBanks_5 : decode cX3_mergeBanks 5 = .ok (.invokevirtual 75, 3) := by decide +kernel
theorem dX3_mergeBanks_8 : decode cX3_mergeBanks 8 = .ok (.ifCond .eq 41, 3) := by decide +kernel
theorem dX3_mergeBanks_11 : decode cX3_mergeBanks 11 = .ok (.aload_n 0, 1) := by decide +kernel
theorem dX3_mergeBanks_12 : decode cX3_mergeBanks 12 = .ok (.getfield 18, 3) := by decide +kernel
theorem dX3_mergeBanks_15 : decode cX3_mergeBanks 15 = .ok (.iload_n 2, 1) := by decide +kernel
theorem dX3_mergeBanks_16 : decode cX3_mergeBanks 16 = .ok (.invokevirtual 75, 3) := by decide +kernel
theorem dX3_mergeBanks_19 : decode cX3_mergeBanks 19 = .ok (.ifCond .eq 30, 3) := by decide +kernel
theorem dX3_mergeBanks_22 : decode cX3_mergeBanks 22 = .ok (.iload_n 1, 1) := by decide +kernel
theorem dX3_mergeBanks_23 : decode cX3_mergeBanks 23 = .ok (.iload_n 2, 1) := by decide +kernel
theorem dX3_mergeBanks_24 : decode cX3_mergeBanks 24 = .ok (.if_icmp .eq 25, 3) := by decide +kernel
theorem dX3_mergeBanks_27 : decode cX3_mergeBanks 27 = .ok (.aload_n 0, 1) := by decide +kernel
theorem dX3_mergeBanks_28 : decode cX3_mergeBanks 28 = .ok (.getfield 22, 3) := by decide +kernel
theorem dX3_mergeBanks_31 : decode cX3_mergeBanks 31 = .ok (.iload_n 1, 1) := by decide +kernel
theorem dX3_mergeBanks_32 : decode cX3_mergeBanks 32 = .ok (.invokevirtual 72, 3) := by decide +kernel
theorem dX3_mergeBanks_35 : decode cX3_mergeBanks 35 = .ok (.ifCond .eq 14, 3) := by decide +kernel
theorem dX3_mergeBanks_38 : decode cX3_mergeBanks 38 = .ok (.aload_n 0, 1) := by decide +kernel
theorem dX3_mergeBanks_39 : decode cX3_mergeBanks 39 = .ok (.getfield 22, 3) := by decide +kernel
theorem dX3_mergeBanks_42 : decode cX3_mergeBanks 42 = .ok (.iload_n 2, 1) := by decide +kernel
theorem dX3_mergeBanks_43 : decode cX3_mergeBanks 43 = .ok (.invokevirtual 72, 3) := by decide +kernel
theorem dX3_mergeBanks_46 : decode cX3_mergeBanks 46 = .ok (.ifCond .ne 5, 3) := by decide +kernel
theorem dX3_mergeBanks_49 : decode cX3_mergeBanks 49 = .ok (.iconst 0, 1) := by decide +kernel
theorem dX3_mergeBanks_50 : decode cX3_mergeBanks 50 = .ok (.ireturn, 1) := by decide +kernel
theorem dX3_mergeBanks_51 : decode cX3_mergeBanks 51 = .ok (.aload_n 0, 1) := by decide +kernel
theorem dX3_mergeBanks_52 : decode cX3_mergeBanks 52 = .ok (.getfield 22, 3) := by decide +kernel
theorem dX3_mergeBanks_55 : decode cX3_mergeBanks 55 = .ok (.getfield 78, 3) := by decide +kernel
theorem dX3_mergeBanks_58 : decode cX3_mergeBanks 58 = .ok (.iload_n 1, 1) := by decide +kernel
theorem dX3_mergeBanks_59 : decode cX3_mergeBanks 59 = .ok (.iload_n 2, 1) := by decide +kernel
theorem dX3_mergeBanks_60 : decode cX3_mergeBanks 60 = .ok (.iastore, 1) := by decide +kernel
theorem dX3_mergeBanks_61 : decode cX3_mergeBanks 61 = .ok (.aload_n 0, 1) := by decide +kernel
theorem dX3_mergeBanks_62 : decode cX3_mergeBanks 62 = .ok (.getfield 22, 3) := by decide +kernel
theorem dX3_mergeBanks_65 : decode cX3_mergeBanks 65 = .ok (.getfield 81, 3) := by decide +kernel
theorem dX3_mergeBanks_68 : decode cX3_mergeBanks 68 = .ok (.iload_n 1, 1) := by decide +kernel
theorem dX3_mergeBanks_69 : decode cX3_mergeBanks 69 = .ok (.aload_n 0, 1) := by decide +kernel
theorem dX3_mergeBanks_70 : decode cX3_mergeBanks 70 = .ok (.getfield 22, 3) := by decide +kernel
theorem dX3_mergeBanks_73 : decode cX3_mergeBanks 73 = .ok (.getfield 84, 3) := by decide +kernel
theorem dX3_mergeBanks_76 : decode cX3_mergeBanks 76 = .ok (.iastore, 1) := by decide +kernel
theorem dX3_mergeBanks_77 : decode cX3_mergeBanks 77 = .ok (.iconst 1, 1) := by decide +kernel
theorem dX3_mergeBanks_78 : decode cX3_mergeBanks 78 = .ok (.ireturn, 1) := by decide +kernel
def X3_mergeBanks_b49   (u : gM) : Option (Int32 × gM) :=
some (0, u)
def X3_mergeBanks  (x1 : Int32) (x2 : Int32) (u : gM) : Option (Int32 × gM) :=
((X10_isBank u 3 x1).bind fun w5 => (if w5 = 0 then (X3_mergeBanks_b49 u)
  else ((X10_isBank u 3 x2).bind fun w16 => (if w16 = 0 then (X3_mergeBanks_b49 u)
    else (if x1 = x2 then (X3_mergeBanks_b49 u)
      else ((X8_isOpen u 18 x1).bind fun w32 => (if w32 = 0 then (X3_mergeBanks_b49 u)
        else ((X8_isOpen u 18 x2).bind fun w43 => (if w43 = 0 then (X3_mergeBanks_b49 u)
          else ((sI skC u 21 x1 x2).bind fun u60 => ((sI skC u60 22 x1 (u60.1 18 0)).bind fun u76 => some (1, u76))))))))))))
set_option maxRecDepth 20000 in
theorem v_X3_mergeBanks_b49 {κ : gK} {B : Nat} {u : gM} (X : gX κ B skC cX3_mergeBanks 3 RX3 (some .boolean) 1 21)    {w : (Int32 × gM)} (hM : X3_mergeBanks_b49 u = some w) : gV κ B skC 3 ((some (.int w.1)), w.2) 49 [none, none, none] [] u := by
  unfold X3_mergeBanks_b49 at hM
  refine g_iconst X (v := 0) dX3_mergeBanks_49 (by decide) ?_
  cases hM
  exact g_zret X (Or.inl rfl) dX3_mergeBanks_50
set_option maxRecDepth 20000 in
theorem v_X3_mergeBanks {κ : gK} {B : Nat} {u : gM} (X : gX κ B skC cX3_mergeBanks 3 RX3 (some .boolean) 1 21)   {x1 : Int32} {x2 : Int32} {w : (Int32 × gM)} (hM : X3_mergeBanks x1 x2 u = some w) : gV κ B skC 3 ((some (.int w.1)), w.2) 0 [some (.ref (B + 145)), some (.int x1), some (.int x2)] [] u := by
  unfold X3_mergeBanks at hM
  refine g_aload_n X dX3_mergeBanks_0 rfl ?_
  refine g_getR X fX3_18 cC_145 rfl dX3_mergeBanks_1 ?_
  refine g_iload_n X dX3_mergeBanks_4 rfl ?_
  obtain ⟨w5, e5, hM⟩ := bind_of hM
  refine g_callVi X (fun B adK => [.int x1]) (s_X10_isBank e5) cvX3_75 cC_3 rfl rfl (Nat.le_of_ble_eq_true rfl) ⟨by decide, by decide⟩ dX3_mergeBanks_5 ?_
  refine g_if_eq (tgt := 49) X dX3_mergeBanks_8 (by decide) (fun c8 => ?_) (fun c8 => ?_)
  · rw [if_pos c8] at hM
    refine g_mk [false, false, false] [none, none, none] rfl ?_
    exact v_X3_mergeBanks_b49 X  hM
  · rw [if_neg c8] at hM
    refine g_aload_n X dX3_mergeBanks_11 rfl ?_
    refine g_getR X fX3_18 cC_145 rfl dX3_mergeBanks_12 ?_
    refine g_iload_n X dX3_mergeBanks_15 rfl ?_
    obtain ⟨w16, e16, hM⟩ := bind_of hM
    refine g_callVi X (fun B adK => [.int x2]) (s_X10_isBank e16) cvX3_75 cC_3 rfl rfl (Nat.le_of_ble_eq_true rfl) ⟨by decide, by decide⟩ dX3_mergeBanks_16 ?_
    refine g_if_eq (tgt := 49) X dX3_mergeBanks_19 (by decide) (fun c19 => ?_) (fun c19 => ?_)
    · rw [if_pos c19] at hM
      refine g_mk [false, false, false] [none, none, none] rfl ?_
      exact v_X3_mergeBanks_b49 X  hM
    · rw [if_neg c19] at hM
      refine g_iload_n X dX3_mergeBanks_22 rfl ?_
      refine g_iload_n X dX3_mergeBanks_23 rfl ?_
      refine g_icmp_eq (tgt := 49) X dX3_mergeBanks_24 (by decide) (fun c24 => ?_) (fun c24 => ?_)
      · rw [if_pos c24] at hM
        refine g_mk [false, false, false] [none, none, none] rfl ?_
        exact v_X3_mergeBanks_b49 X  hM
      · rw [if_neg c24] at hM
        refine g_aload_n X dX3_mergeBanks_27 rfl ?_
        refine g_getR X fX3_22 cC_145 rfl dX3_mergeBanks_28 ?_
        refine g_iload_n X dX3_mergeBanks_31 rfl ?_
        obtain ⟨w32, e32, hM⟩ := bind_of hM
        refine g_callVi X (fun B adK => [.int x1]) (s_X8_isOpen e32) cvX3_72 cC_18 rfl rfl (Nat.le_of_ble_eq_true rfl) ⟨by decide, by decide⟩ dX3_mergeBanks_32 ?_
        refine g_if_eq (tgt := 49) X dX3_mergeBanks_35 (by decide) (fun c35 => ?_) (fun c35 => ?_)
        · rw [if_pos c35] at hM
          refine g_mk [false, false, false] [none, none, none] rfl ?_
          exact v_X3_mergeBanks_b49 X  hM
        · rw [if_neg c35] at hM
          refine g_aload_n X dX3_mergeBanks_38 rfl ?_
          refine g_getR X fX3_22 cC_145 rfl dX3_mergeBanks_39 ?_
          refine g_iload_n X dX3_mergeBanks_42 rfl ?_
          obtain ⟨w43, e43, hM⟩ := bind_of hM
          refine g_callVi X (fun B adK => [.int x2]) (s_X8_isOpen e43) cvX3_72 cC_18 rfl rfl (Nat.le_of_ble_eq_true rfl) ⟨by decide, by decide⟩ dX3_mergeBanks_43 ?_
          refine g_if_ne (tgt := 51) X dX3_mergeBanks_46 (by decide) (fun c46 => ?_) (fun c46 => ?_)
          · rw [if_neg c46] at hM
            refine g_aload_n X dX3_mergeBanks_51 rfl ?_
            refine g_getR X fX3_22 cC_145 rfl dX3_mergeBanks_52 ?_
            refine g_getR X fX3_78 cC_18 rfl dX3_mergeBanks_55 ?_
            refine g_iload_n X dX3_mergeBanks_58 rfl ?_
            refine g_iload_n X dX3_mergeBanks_59 rfl ?_
            obtain ⟨u60, e60, hM⟩ := bind_of hM
            refine g_iastore X e60 dX3_mergeBanks_60 ?_
            refine g_aload_n X dX3_mergeBanks_61 rfl ?_
            refine g_getR X fX3_22 cC_145 rfl dX3_mergeBanks_62 ?_
            refine g_getR X fX3_81 cC_18 rfl dX3_mergeBanks_65 ?_
            refine g_iload_n X dX3_mergeBanks_68 rfl ?_
            refine g_aload_n X dX3_mergeBanks_69 rfl ?_
            refine g_getR X fX3_22 cC_145 rfl dX3_mergeBanks_70 ?_
            refine g_getI X fX3_84 cC_18 rfl dX3_mergeBanks_73 ?_
            obtain ⟨u76, e76, hM⟩ := bind_of hM
            refine g_iastore X e76 dX3_mergeBanks_76 ?_
            refine g_iconst X (v := 1) dX3_mergeBanks_77 (by decide) ?_
            cases hM
            exact g_zret X (Or.inr rfl) dX3_mergeBanks_78
          · rw [if_pos c46] at hM
            refine g_mk [false, false, false] [none, none, none] rfl ?_
            exact v_X3_mergeBanks_b49 X  hM
theorem s_X3_mergeBanks {x1 : Int32} {x2 : Int32} {u : gM} {w : (Int32 × gM)} (hM : X3_mergeBanks x1 x2 u = some w) : gMet skC yX3_mergeBanks cX3_mergeBanks 3 (some .boolean) 1 21 (fun B adK => [.ref (B + 145), .int x1, .int x2]) u ((fun _ => some (.int w.1)), w.2) := by
  refine gMet.of (by decide) (fun _ _ => Nat.le_of_ble_eq_true rfl) (fun κ B X => ?_)
  have X : gX κ B skC cX3_mergeBanks 3 RX3 (some .boolean) 1 21 := X
  refine g_mk [true, true, true] [some (.ref (B + 145)), some (.int x1), some (.int x2)] rfl ?_
  exact v_X3_mergeBanks X  hM
theorem fr_X3_mergeBanks_b49 {S : Nat → Prop} {u0 u : gM}     {w : (Int32 × gM)} (hM : X3_mergeBanks_b49 u = some w) (h0 : off S u0 u) : off S u0 w.2 := by
  unfold X3_mergeBanks_b49 at hM
  cases hM
  exact h0
theorem fr_X3_mergeBanks {S : Nat → Prop} {u0 u : gM} {x1 : Int32} {x2 : Int32} (hs0 : S 21) (hs1 : S 22)   {w : (Int32 × gM)} (hM : X3_mergeBanks x1 x2 u = some w) (h0 : off S u0 u) : off S u0 w.2 := by
  unfold X3_mergeBanks at hM
  obtain ⟨w5, e5, hM⟩ := bind_of hM
  by_cases c8 : w5 = 0
  · rw [if_pos c8] at hM
    exact fr_X3_mergeBanks_b49   hM h0
  · rw [if_neg c8] at hM
    obtain ⟨w16, e16, hM⟩ := bind_of hM
    by_cases c19 : w16 = 0
    · rw [if_pos c19] at hM
      exact fr_X3_mergeBanks_b49   hM h0
    · rw [if_neg c19] at hM
      by_cases c24 : x1 = x2
      · rw [if_pos c24] at hM
        exact fr_X3_mergeBanks_b49   hM h0
      · rw [if_neg c24] at hM
        obtain ⟨w32, e32, hM⟩ := bind_of hM
        by_cases c35 : w32 = 0
        · rw [if_pos c35] at hM
          exact fr_X3_mergeBanks_b49   hM h0
        · rw [if_neg c35] at hM
          obtain ⟨w43, e43, hM⟩ := bind_of hM
          by_cases c46 : w43 = 0
          · rw [if_pos c46] at hM
            exact fr_X3_mergeBanks_b49   hM h0
          · rw [if_neg c46] at hM
            obtain ⟨u60, e60, hM⟩ := bind_of hM
            have h0 := off_sI hs0 e60 h0
            obtain ⟨u76, e76, hM⟩ := bind_of hM
            have h0 := off_sI hs1 e76 h0
            cases hM
            exact h0
/-! CoverDesk$Deeds.passMonths(I)Z -/
theorem dX3_passMonths_0 : decode cX3_passMonths 0 = .ok (.iload_n 1, 1) := by decide +kernel
theorem dX3_passMonths_1 : decode cX3_passMonths 1 = .ok (.iconst 1, 1) := by decide +kernel
theorem dX3_passMonths_2 : decode cX3_passMonths 2 = .ok (.if_icmp .lt 24, 3) := by decide +kernel
theorem dX3_passMonths_5 : decode cX3_passMonths 5 = .ok (.iload_n 1, 1) := by decide +kernel
theorem dX3_passMonths_6 : decode cX3_passMonths 6 = .ok (.bipush 99, 2) := by decide +kernel
theorem dX3_passMonths_8 : decode cX3_passMonths 8 = .ok (.if_icmp .gt 18, 3) := by decide +kernel
theorem dX3_passMonths_11 : decode cX3_passMonths 11 = .ok (.aload_n 0, 1) := by decide +kernel
theorem dX3_passMonths_12 : decode cX3_passMonths 12 = .ok (.getfield 22, 3) := by decide +kernel
theorem dX3_passMonths_15 : decode cX3_passMonths 15 = .ok (.getfield 84, 3) := by decide +kernel
theorem dX3_passMonths_18 : decode cX3_passMonths 18 = .ok (.sipush 999, 3) := by decide +kernel
theorem dX3_passMonths_21 : decode cX3_passMonths 21 = .ok (.iload_n 1, 1) := by decide +kernel
theorem dX3_passMonths_22 : decode cX3_passMonths 22 = .ok (.isub, 1) := by decide +kernel
theorem dX3_passMonths_23 : decode cX3_passMonths 23 = .ok (.if_icmp .le 5, 3) := by decide +kernel
theorem dX3_passMonths_26 : decode cX3_passMonths 26 = .ok (.iconst 0, 1) := by decide +kernel
theorem dX3_passMonths_27 : decode cX3_passMonths 27 = .ok (.ireturn, 1) := by decide +kernel
theorem dX3_passMonths_28 : decode cX3_passMonths 28 = .ok (.aload_n 0, 1) := by decide +kernel
theorem dX3_passMonths_29 : decode cX3_passMonths 29 = .ok (.getfield 22, 3) := by decide +kernel
theorem dX3_passMonths_32 : decode cX3_passMonths 32 = .ok (.dup, 1) := by decide +kernel
theorem dX3_passMonths_33 : decode cX3_passMonths 33 = .ok (.getfield 84, 3) := by decide +kernel
theorem dX3_passMonths_36 : decode cX3_passMonths 36 = .ok (.iload_n 1, 1) := by decide +kernel
theorem dX3_passMonths_37 : decode cX3_passMonths 37 = .ok (.iadd, 1) := by decide +kernel
theorem dX3_passMonths_38 : decode cX3_passMonths 38 = .ok (.putfield 84, 3) := by decide +kernel
theorem dX3_passMonths_41 : decode cX3_passMonths 41 = .ok (.iconst 1, 1) := by decide +kernel
theorem dX3_passMonths_42 : decode cX3_passMonths 42 = .ok (.ireturn, 1) := by decide +kernel
def X3_passMonths_b26   (u : gM) : Option (Int32 × gM) :=
some (0, u)
def X3_passMonths  (x1 : Int32) (u : gM) : Option (Int32 × gM) :=
(if x1 < 1 then (X3_passMonths_b26 u)
  else (if 99 < x1 then (X3_passMonths_b26 u)
    else (if (u.1 18 0) ≤ (999 - x1) then some (1, upI u 18 0 ((u.1 18 0) + x1))
      else (X3_passMonths_b26 u))))
set_option maxRecDepth 20000 in
theorem v_X3_passMonths_b26 {κ : gK} {B : Nat} {u : gM} (X : gX κ B skC cX3_passMonths 2 RX3 (some .boolean) 0 0)    {w : (Int32 × gM)} (hM : X3_passMonths_b26 u = some w) : gV κ B skC 2 ((some (.int w.1)), w.2) 26 [none, none] [] u := by
  unfold X3_passMonths_b26 at hM
  refine g_iconst X (v := 0) dX3_passMonths_26 (by decide) ?_
  cases hM
  exact g_zret X (Or.inl rfl) dX3_passMonths_27
set_option maxRecDepth 20000 in
theorem v_X3_passMonths {κ : gK} {B : Nat} {u : gM} (X : gX κ B skC cX3_passMonths 2 RX3 (some .boolean) 0 0)   {x1 : Int32} {w : (Int32 × gM)} (hM : X3_passMonths x1 u = some w) : gV κ B skC 2 ((some (.int w.1)), w.2) 0 [some (.ref (B + 145)), some (.int x1)] [] u := by
  unfold X3_passMonths at hM
  refine g_iload_n X dX3_passMonths_0 rfl ?_
  refine g_iconst X (v := 1) dX3_passMonths_1 (by decide) ?_
  refine g_icmp_lt (tgt := 26) X dX3_passMonths_2 (by decide) (fun c2 => ?_) (fun c2 => ?_)
  · rw [if_pos c2] at hM
    refine g_mk [false, false] [none, none] rfl ?_
    exact v_X3_passMonths_b26 X  hM
  · rw [if_neg c2] at hM
    refine g_iload_n X dX3_passMonths_5 rfl ?_
    refine g_bipush X (v := 99) dX3_passMonths_6 (by decide) ?_
    refine g_icmp_gt (tgt := 26) X dX3_passMonths_8 (by decide) (fun c8 => ?_) (fun c8 => ?_)
    · rw [if_pos c8] at hM
      refine g_mk [false, false] [none, none] rfl ?_
      exact v_X3_passMonths_b26 X  hM
    · rw [if_neg c8] at hM
      refine g_aload_n X dX3_passMonths_11 rfl ?_
      refine g_getR X fX3_22 cC_145 rfl dX3_passMonths_12 ?_
      refine g_getI X fX3_84 cC_18 rfl dX3_passMonths_15 ?_
      refine g_sipush X (v := 999) dX3_passMonths_18 (by decide) ?_
      refine g_iload_n X dX3_passMonths_21 rfl ?_
      refine g_isub X dX3_passMonths_22 ?_
      refine g_icmp_le (tgt := 28) X dX3_passMonths_23 (by decide) (fun c23 => ?_) (fun c23 => ?_)
      · rw [if_pos c23] at hM
        refine g_aload_n X dX3_passMonths_28 rfl ?_
        refine g_getR X fX3_22 cC_145 rfl dX3_passMonths_29 ?_
        refine g_dup X rfl dX3_passMonths_32 ?_
        refine g_getI X fX3_84 cC_18 rfl dX3_passMonths_33 ?_
        refine g_iload_n X dX3_passMonths_36 rfl ?_
        refine g_iadd X dX3_passMonths_37 ?_
        refine g_putI X fX3_84 gc_X8 gp_X8_0 cC_18 rfl dX3_passMonths_38 ?_
        refine g_iconst X (v := 1) dX3_passMonths_41 (by decide) ?_
        cases hM
        exact g_zret X (Or.inr rfl) dX3_passMonths_42
      · rw [if_neg c23] at hM
        refine g_mk [false, false] [none, none] rfl ?_
        exact v_X3_passMonths_b26 X  hM
theorem s_X3_passMonths {x1 : Int32} {u : gM} {w : (Int32 × gM)} (hM : X3_passMonths x1 u = some w) : gMet skC yX3_passMonths cX3_passMonths 2 (some .boolean) 0 0 (fun B adK => [.ref (B + 145), .int x1]) u ((fun _ => some (.int w.1)), w.2) := by
  refine gMet.of (by decide) (fun _ _ => Nat.le_of_ble_eq_true rfl) (fun κ B X => ?_)
  have X : gX κ B skC cX3_passMonths 2 RX3 (some .boolean) 0 0 := X
  refine g_mk [true, true] [some (.ref (B + 145)), some (.int x1)] rfl ?_
  exact v_X3_passMonths X  hM
theorem fr_X3_passMonths_b26 {S : Nat → Prop} {u0 u : gM}     {w : (Int32 × gM)} (hM : X3_passMonths_b26 u = some w) (h0 : off S u0 u) : off S u0 w.2 := by
  unfold X3_passMonths_b26 at hM
  cases hM
  exact h0
theorem fr_X3_passMonths {S : Nat → Prop} {u0 u : gM} {x1 : Int32} (hs0 : S 18)   {w : (Int32 × gM)} (hM : X3_passMonths x1 u = some w) (h0 : off S u0 u) : off S u0 w.2 := by
  unfold X3_passMonths at hM
  by_cases c2 : x1 < 1
  · rw [if_pos c2] at hM
    exact fr_X3_passMonths_b26   hM h0
  · rw [if_neg c2] at hM
    by_cases c8 : 99 < x1
    · rw [if_pos c8] at hM
      exact fr_X3_passMonths_b26   hM h0
    · rw [if_neg c8] at hM
      by_cases c23 : (u.1 18 0) ≤ (999 - x1)
      · rw [if_pos c23] at hM
        have h0 := off_upI (u := u) (k := 18) (j := 0) (x := ((u.1 18 0) + x1)) hs0 h0
        cases hM
        exact h0
      · rw [if_neg c23] at hM
        exact fr_X3_passMonths_b26   hM h0
/-! CoverDesk$Told.isLoan(I)Z -/
theorem dX10_isLoan_0 : decode cX10_isLoan 0 = .ok (.iload_n 1, 1) := by decide +kernel
theorem dX10_isLoan_1 : decode cX10_isLoan 1 = .ok (.ifCond .lt 15, 3) := by decide +kernel
theorem dX10_isLoan_4 : decode cX10_isLoan 4 = .ok (.iload_n 1, 1) := by decide +kernel
theorem dX10_isLoan_5 : decode cX10_isLoan 5 = .ok (.aload_n 0, 1) := by decide +kernel
theorem dX10_isLoan_6 : decode cX10_isLoan 6 = .ok (.getfield 72, 3) := by decide +kernel
theorem dX10_isLoan_9 : decode cX10_isLoan 9 = .ok (.if_icmp .ge 7, 3) := by decide +kernel
theorem dX10_isLoan_12 : decode cX10_isLoan 12 = .ok (.iconst 1, 1) := by decide +kernel
theorem dX10_isLoan_13 : decode cX10_isLoan 13 = .ok (.goto 4, 3) := by decide +kernel
theorem dX10_isLoan_16 : decode cX10_isLoan 16 = .ok (.iconst 0, 1) := by decide +kernel
theorem dX10_isLoan_17 : decode cX10_isLoan 17 = .ok (.ireturn, 1) := by decide +kernel
def X10_isLoan_b17 (u : gM)  (s0 : Int32) : Option Int32 :=
bI s0
def X10_isLoan_b16 (u : gM)   : Option Int32 :=
(X10_isLoan_b17 u 0)
def X10_isLoan (u : gM)  (x0 : Nat) (x1 : Int32) : Option Int32 :=
(if x1 < 0 then (X10_isLoan_b16 u)
  else (if isO skC x0 10 = true then (if (u.1 x0 3) ≤ x1 then (X10_isLoan_b16 u)
    else (X10_isLoan_b17 u 1))
 else none))
set_option maxRecDepth 20000 in
theorem v_X10_isLoan_b17 {κ : gK} {B : Nat} {u : gM} (X : gX κ B skC cX10_isLoan 2 RX10 (some .boolean) 0 0)   {s0 : Int32} {w : Int32} (hM : X10_isLoan_b17 u s0 = some w) : gV κ B skC 2 ((some (.int w)), u) 17 [none, none] [.int s0] u := by
  unfold X10_isLoan_b17 at hM
  obtain ⟨hv, rfl⟩ := bI_of hM
  exact g_zret X hv dX10_isLoan_17
set_option maxRecDepth 20000 in
theorem v_X10_isLoan_b16 {κ : gK} {B : Nat} {u : gM} (X : gX κ B skC cX10_isLoan 2 RX10 (some .boolean) 0 0)    {w : Int32} (hM : X10_isLoan_b16 u = some w) : gV κ B skC 2 ((some (.int w)), u) 16 [none, none] [] u := by
  unfold X10_isLoan_b16 at hM
  refine g_iconst X (v := 0) dX10_isLoan_16 (by decide) ?_
  refine g_mk [false, false] [none, none] rfl ?_
  exact v_X10_isLoan_b17 X  hM
set_option maxRecDepth 20000 in
theorem v_X10_isLoan {κ : gK} {B : Nat} {u : gM} (X : gX κ B skC cX10_isLoan 2 RX10 (some .boolean) 0 0)   {x0 : Nat} {x1 : Int32} {w : Int32} (hM : X10_isLoan u x0 x1 = some w) : gV κ B skC 2 ((some (.int w)), u) 0 [some (.ref (B + x0)), some (.int x1)] [] u := by
  unfold X10_isLoan at hM
  refine g_iload_n X dX10_isLoan_0 rfl ?_
  refine g_if_lt (tgt := 16) X dX10_isLoan_1 (by decide) (fun c1 => ?_) (fun c1 => ?_)
  · rw [if_pos c1] at hM
    refine g_mk [false, false] [none, none] rfl ?_
    exact v_X10_isLoan_b16 X  hM
  · rw [if_neg c1] at hM
    refine g_iload_n X dX10_isLoan_4 rfl ?_
    refine g_aload_n X dX10_isLoan_5 rfl ?_
    obtain ⟨o0, hM⟩ := ite_of hM
    refine g_getI X fX10_72 (sh_X10 o0) rfl dX10_isLoan_6 ?_
    refine g_icmp_ge (tgt := 16) X dX10_isLoan_9 (by decide) (fun c9 => ?_) (fun c9 => ?_)
    · rw [if_pos c9] at hM
      refine g_mk [false, false] [none, none] rfl ?_
      exact v_X10_isLoan_b16 X  hM
    · rw [if_neg c9] at hM
      refine g_iconst X (v := 1) dX10_isLoan_12 (by decide) ?_
      refine g_goto (tgt := 17) X dX10_isLoan_13 (by decide) ?_
      refine g_mk [false, false] [none, none] rfl ?_
      exact v_X10_isLoan_b17 X  hM
theorem s_X10_isLoan {x0 : Nat} {x1 : Int32} {u : gM} {w : Int32} (hM : X10_isLoan u x0 x1 = some w) : gMet skC yX10_isLoan cX10_isLoan 2 (some .boolean) 0 0 (fun B adK => [.ref (B + x0), .int x1]) u ((fun _ => some (.int w)), u) := by
  refine gMet.of (by decide) (fun _ _ => Nat.le_of_ble_eq_true rfl) (fun κ B X => ?_)
  have X : gX κ B skC cX10_isLoan 2 RX10 (some .boolean) 0 0 := X
  refine g_mk [true, true] [some (.ref (B + x0)), some (.int x1)] rfl ?_
  exact v_X10_isLoan X  hM

/-! CoverDesk$Deeds.payLoan(II)Z -/
theorem dX3_payLoan_0 : decode cX3_payLoan 0 = .ok (.aload_n 0, 1) := by decide +kernel
theorem dX3_payLoan_1 : decode cX3_payLoan 1 = .ok (.getfield 18, 3) := by decide +kernel
theorem dX3_payLoan_4 : decode cX3_payLoan 4 = .ok (.iload_n 1, 1) := by decide +kernel
theorem dX3_payLoan_5 : decode cX3_payLoan 5 = .ok (.invokevirtual 88, 3) := by decide +kernel
theorem dX3_payLoan_8 : decode cX3_payLoan 8 = .ok (.ifCond .eq 23, 3) := by decide +kernel
theorem dX3_payLoan_11 : decode cX3_payLoan 11 = .ok (.iload_n 2, 1) := by decide +kernel
theorem dX3_payLoan_12 : decode cX3_payLoan 12 = .ok (.invokestatic 56, 3) := by decide +kernel
theorem dX3_payLoan_15 : decode cX3_payLoan 15 = .ok (.ifCond .eq 16, 3) := by decide +kernel
theorem dX3_payLoan_18 : decode cX3_payLoan 18 = .ok (.iload_n 2, 1) := by decide +kernel
theorem dX3_payLoan_19 : decode cX3_payLoan 19 = .ok (.aload_n 0, 1) := by decide +kernel
theorem dX3_payLoan_20 : decode cX3_payLoan 20 = .ok (.getfield 22, 3) := by decide +kernel
theorem dX3_payLoan_23 : decode cX3_payLoan 23 = .ok (.getfield 91, 3) := by decide +kernel
theorem dX3_payLoan_26 : decode cX3_payLoan 26 = .ok (.iload_n 1, 1) := by decide +kernel
theorem dX3_payLoan_27 : decode cX3_payLoan 27 = .ok (.iaload, 1) := by decide +kernel
theorem dX3_payLoan_28 : decode cX3_payLoan 28 = .ok (.if_icmp .le 5, 3) := by decide +kernel
theorem dX3_payLoan_31 : decode cX3_payLoan 31 = .ok (.iconst 0, 1) := by decide +kernel
theorem dX3_payLoan_32 : decode cX3_payLoan 32 = .ok (.ireturn, 1) := by decide +kernel
theorem dX3_payLoan_33 : decode cX3_payLoan 33 = .ok (.aload_n 0, 1) := by decide +kernel
theorem dX3_payLoan_34 : decode cX3_payLoan 34 = .ok (.getfield 22, 3) := by decide +kernel
theorem dX3_payLoan_37 : decode cX3_payLoan 37 = .ok (.getfield 91, 3) := by decide +kernel
theorem dX3_payLoan_40 : decode cX3_payLoan 40 = .ok (.iload_n 1, 1) := by decide +kernel
theorem dX3_payLoan_41 : decode cX3_payLoan 41 = .ok (.dup2, 1) := by decide +kernel
theorem dX3_payLoan_42 : decode cX3_payLoan 42 = .ok (.iaload, 1) := by decide +kernel
theorem dX3_payLoan_43 : decode cX3_payLoan 43 = .ok (.iload_n 2, 1) := by decide +kernel
theorem dX3_payLoan_44 : decode cX3_payLoan 44 = .ok (.isub, 1) := by decide +kernel
theorem dX3_payLoan_45 : decode cX3_payLoan 45 = .ok (.iastore, 1) := by decide +kernel
theorem dX3_payLoan_46 : decode cX3_payLoan 46 = .ok (.iconst 1, 1) := by decide +kernel
theorem dX3_payLoan_47 : decode cX3_payLoan 47 = .ok (.ireturn, 1) := by decide +kernel
def X3_payLoan_b31   (u : gM) : Option (Int32 × gM) :=
some (0, u)
def X3_payLoan  (x1 : Int32) (x2 : Int32) (u : gM) : Option (Int32 × gM) :=
((X10_isLoan u 3 x1).bind fun w5 => (if w5 = 0 then (X3_payLoan_b31 u)
  else ((X3_isAmount u x2).bind fun w12 => (if w12 = 0 then (X3_payLoan_b31 u)
    else ((aI skC u 20 x1).bind fun v27 => (if x2 ≤ v27 then ((aI skC u 20 x1).bind fun v42 => ((sI skC u 20 x1 (v42 - x2)).bind fun u45 => some (1, u45)))
      else (X3_payLoan_b31 u)))))))
set_option maxRecDepth 20000 in
theorem v_X3_payLoan_b31 {κ : gK} {B : Nat} {u : gM} (X : gX κ B skC cX3_payLoan 3 RX3 (some .boolean) 1 21)    {w : (Int32 × gM)} (hM : X3_payLoan_b31 u = some w) : gV κ B skC 3 ((some (.int w.1)), w.2) 31 [none, none, none] [] u := by
  unfold X3_payLoan_b31 at hM
  refine g_iconst X (v := 0) dX3_payLoan_31 (by decide) ?_
  cases hM
  exact g_zret X (Or.inl rfl) dX3_payLoan_32
set_option maxRecDepth 20000 in
theorem v_X3_payLoan {κ : gK} {B : Nat} {u : gM} (X : gX κ B skC cX3_payLoan 3 RX3 (some .boolean) 1 21)   {x1 : Int32} {x2 : Int32} {w : (Int32 × gM)} (hM : X3_payLoan x1 x2 u = some w) : gV κ B skC 3 ((some (.int w.1)), w.2) 0 [some (.ref (B + 145)), some (.int x1), some (.int x2)] [] u := by
  unfold X3_payLoan at hM
  refine g_aload_n X dX3_payLoan_0 rfl ?_
  refine g_getR X fX3_18 cC_145 rfl dX3_payLoan_1 ?_
  refine g_iload_n X dX3_payLoan_4 rfl ?_
  obtain ⟨w5, e5, hM⟩ := bind_of hM
  refine g_callVi X (fun B adK => [.int x1]) (s_X10_isLoan e5) cvX3_88 cC_3 rfl rfl (Nat.le_of_ble_eq_true rfl) ⟨by decide, by decide⟩ dX3_payLoan_5 ?_
  refine g_if_eq (tgt := 31) X dX3_payLoan_8 (by decide) (fun c8 => ?_) (fun c8 => ?_)
  · rw [if_pos c8] at hM
    refine g_mk [false, false, false] [none, none, none] rfl ?_
    exact v_X3_payLoan_b31 X  hM
  · rw [if_neg c8] at hM
    refine g_iload_n X dX3_payLoan_11 rfl ?_
    obtain ⟨w12, e12, hM⟩ := bind_of hM
    refine g_callSi X (fun B adK => [.int x2]) (s_X3_isAmount e12) cvX3_56 rfl rfl (Nat.le_of_ble_eq_true rfl) ⟨by decide, by decide⟩ dX3_payLoan_12 ?_
    refine g_if_eq (tgt := 31) X dX3_payLoan_15 (by decide) (fun c15 => ?_) (fun c15 => ?_)
    · rw [if_pos c15] at hM
      refine g_mk [false, false, false] [none, none, none] rfl ?_
      exact v_X3_payLoan_b31 X  hM
    · rw [if_neg c15] at hM
      refine g_iload_n X dX3_payLoan_18 rfl ?_
      refine g_aload_n X dX3_payLoan_19 rfl ?_
      refine g_getR X fX3_22 cC_145 rfl dX3_payLoan_20 ?_
      refine g_getR X fX3_91 cC_18 rfl dX3_payLoan_23 ?_
      refine g_iload_n X dX3_payLoan_26 rfl ?_
      obtain ⟨v27, e27, hM⟩ := bind_of hM
      refine g_iaload X e27 dX3_payLoan_27 ?_
      refine g_icmp_le (tgt := 33) X dX3_payLoan_28 (by decide) (fun c28 => ?_) (fun c28 => ?_)
      · rw [if_pos c28] at hM
        refine g_aload_n X dX3_payLoan_33 rfl ?_
        refine g_getR X fX3_22 cC_145 rfl dX3_payLoan_34 ?_
        refine g_getR X fX3_91 cC_18 rfl dX3_payLoan_37 ?_
        refine g_iload_n X dX3_payLoan_40 rfl ?_
        refine g_dup2_11 X rfl rfl dX3_payLoan_41 ?_
        obtain ⟨v42, e42, hM⟩ := bind_of hM
        refine g_iaload X e42 dX3_payLoan_42 ?_
        refine g_iload_n X dX3_payLoan_43 rfl ?_
        refine g_isub X dX3_payLoan_44 ?_
        obtain ⟨u45, e45, hM⟩ := bind_of hM
        refine g_iastore X e45 dX3_payLoan_45 ?_
        refine g_iconst X (v := 1) dX3_payLoan_46 (by decide) ?_
        cases hM
        exact g_zret X (Or.inr rfl) dX3_payLoan_47
      · rw [if_neg c28] at hM
        refine g_mk [false, false, false] [none, none, none] rfl ?_
        exact v_X3_payLoan_b31 X  hM
theorem s_X3_payLoan {x1 : Int32} {x2 : Int32} {u : gM} {w : (Int32 × gM)} (hM : X3_payLoan x1 x2 u = some w) : gMet skC yX3_payLoan cX3_payLoan 3 (some .boolean) 1 21 (fun B adK => [.ref (B + 145), .int x1, .int x2]) u ((fun _ => some (.int w.1)), w.2) := by
  refine gMet.of (by decide) (fun _ _ => Nat.le_of_ble_eq_true rfl) (fun κ B X => ?_)
  have X : gX κ B skC cX3_payLoan 3 RX3 (some .boolean) 1 21 := X
  refine g_mk [true, true, true] [some (.ref (B + 145)), some (.int x1), some (.int x2)] rfl ?_
  exact v_X3_payLoan X  hM
theorem fr_X3_payLoan_b31 {S : Nat → Prop} {u0 u : gM}     {w : (Int32 × gM)} (hM : X3_payLoan_b31 u = some w) (h0 : off S u0 u) : off S u0 w.2 := by
  unfold X3_payLoan_b31 at hM
  cases hM
  exact h0
theorem fr_X3_payLoan {S : Nat → Prop} {u0 u : gM} {x1 : Int32} {x2 : Int32} (hs0 : S 20)   {w : (Int32 × gM)} (hM : X3_payLoan x1 x2 u = some w) (h0 : off S u0 u) : off S u0 w.2 := by
  unfold X3_payLoan at hM
  obtain ⟨w5, e5, hM⟩ := bind_of hM
  by_cases c8 : w5 = 0
  · rw [if_pos c8] at hM
    exact fr_X3_payLoan_b31   hM h0
  · rw [if_neg c8] at hM
    obtain ⟨w12, e12, hM⟩ := bind_of hM
    by_cases c15 : w12 = 0
    · rw [if_pos c15] at hM
      exact fr_X3_payLoan_b31   hM h0
    · rw [if_neg c15] at hM
      obtain ⟨v27, e27, hM⟩ := bind_of hM
      by_cases c28 : x2 ≤ v27
      · rw [if_pos c28] at hM
        obtain ⟨v42, e42, hM⟩ := bind_of hM
        obtain ⟨u45, e45, hM⟩ := bind_of hM
        have h0 := off_sI hs0 e45 h0
        cases hM
        exact h0
      · rw [if_neg c28] at hM
        exact fr_X3_payLoan_b31   hM h0
/-! CoverDesk$Deeds.split(LCoverDesk$Failing;)V -/
theorem dX3_split_0 : decode cX3_split 0 = .ok (.iconst 0, 1) := by decide +kernel
theorem dX3_split_1 : decode cX3_split 1 = .ok (.istore_n 2, 1) := by decide +kernel
theorem dX3_split_2 : decode cX3_split 2 = .ok (.iload_n 2, 1) := by decide +kernel
theorem dX3_split_3 : decode cX3_split 3 = .ok (.aload_n 0, 1) := by decide +kernel
theorem dX3_split_4 : decode cX3_split 4 = .ok (.getfield 18, 3) := by decide +kernel
theorem dX3_split_7 : decode cX3_split 7 = .ok (.getfield 117, 3) := by decide +kernel
theorem dX3_split_10 : decode cX3_split 10 = .ok (.if_icmp .ge 120, 3) := by decide +kernel
theorem dX3_split_13 : decode cX3_split 13 = .ok (.aload_n 0, 1) := by decide +kernel
theorem dX3_split_14 : decode cX3_split 14 = .ok (.getfield 22, 3) := by decide +kernel
theorem dX3_split_17 : decode cX3_split 17 = .ok (.aload_n 0, 1) := by decide +kernel
theorem dX3_split_18 : decode cX3_split 18 = .ok (.getfield 18, 3) := by decide +kernel
theorem dX3_split_21 : decode cX3_split 21 = .ok (.getfield 65, 3) := by decide +kernel
theorem dX3_split_24 : decode cX3_split 24 = .ok (.iload_n 2, 1) := by decide +kernel
theorem dX3_split_25 : decode cX3_split 25 = .ok (.iaload, 1) := by decide +kernel
theorem dX3_split_26 : decode cX3_split 26 = .ok (.invokevirtual 68, 3) := by decide +kernel
theorem dX3_split_29 : decode cX3_split 29 = .ok (.aload_n 1, 1) := by decide +kernel
theorem dX3_split_30 : decode cX3_split 30 = .ok (.getfield 153, 3) := by decide +kernel
theorem dX3_split_33 : decode cX3_split 33 = .ok (.if_icmp .ne 91, 3) := by decide +kernel
theorem dX3_split_36 : decode cX3_split 36 = .ok (.iconst 0, 1) := by decide +kernel
theorem dX3_split_37 : decode cX3_split 37 = .ok (.istore_n 3, 1) := by decide +kernel
theorem dX3_split_38 : decode cX3_split 38 = .ok (.iload_n 3, 1) := by decide +kernel
theorem dX3_split_39 : decode cX3_split 39 = .ok (.aload_n 0, 1) := by decide +kernel
theorem dX3_split_40 : decode cX3_split 40 = .ok (.getfield 18, 3) := by decide +kernel
theorem dX3_split_43 : decode cX3_split 43 = .ok (.getfield 156, 3) := by decide +kernel
theorem dX3_split_46 : decode cX3_split 46 = .ok (.iload_n 2, 1) := by decide +kernel
theorem dX3_split_47 : decode cX3_split 47 = .ok (.iaload, 1) := by decide +kernel
theorem dX3_split_48 : decode cX3_split 48 = .ok (.if_icmp .ge 76, 3) := by decide +kernel
theorem dX3_split_51 : decode cX3_split 51 = .ok (.iload_n 2, 1) := by decide +kernel
theorem dX3_split_52 : decode cX3_split 52 = .ok (.iconst 4, 1) := by decide +kernel
theorem dX3_split_53 : decode cX3_split 53 = .ok (.imul, 1) := by decide +kernel
theorem dX3_split_54 : decode cX3_split 54 = .ok (.iload_n 3, 1) := by decide +kernel
theorem dX3_split_55 : decode cX3_split 55 = .ok (.iadd, 1) := by decide +kernel
theorem dX3_split_56 : decode cX3_split 56 = .ok (.istore 4, 2) := by decide +kernel
theorem dX3_split_58 : decode cX3_split 58 = .ok (.aload_n 1, 1) := by decide +kernel
theorem dX3_split_59 : decode cX3_split 59 = .ok (.getfield 159, 3) := by decide +kernel
theorem dX3_split_62 : decode cX3_split 62 = .ok (.iload 4, 2) := by decide +kernel
theorem dX3_split_64 : decode cX3_split 64 = .ok (.iconst 0, 1) := by decide +kernel
theorem dX3_split_65 : decode cX3_split 65 = .ok (.iastore, 1) := by decide +kernel
theorem dX3_split_66 : decode cX3_split 66 = .ok (.aload_n 1, 1) := by decide +kernel
theorem dX3_split_67 : decode cX3_split 67 = .ok (.getfield 146, 3) := by decide +kernel
theorem dX3_split_70 : decode cX3_split 70 = .ok (.iload 4, 2) := by decide +kernel
theorem dX3_split_72 : decode cX3_split 72 = .ok (.aload_n 0, 1) := by decide +kernel
theorem dX3_split_73 : decode cX3_split 73 = .ok (.getfield 26, 3) := by decide +kernel
theorem dX3_split_76 : decode cX3_split 76 = .ok (.getfield 161, 3) := by decide +kernel
theorem dX3_split_79 : decode cX3_split 79 = .ok (.iload 4, 2) := by decide +kernel
theorem dX3_split_81 : decode cX3_split 81 = .ok (.iaload, 1) := by decide +kernel
theorem dX3_split_82 : decode cX3_split 82 = .ok (.iastore, 1) := by decide +kernel
theorem dX3_split_83 : decode cX3_split 83 = .ok (.aload_n 1, 1) := by decide +kernel
theorem dX3_split_84 : decode cX3_split 84 = .ok (.getfield 164, 3) := by decide +kernel
theorem dX3_split_87 : decode cX3_split 87 = .ok (.iload 4, 2) := by decide +kernel
theorem dX3_split_89 : decode cX3_split 89 = .ok (.iconst 0, 1) := by decide +kernel
theorem dX3_split_90 : decode cX3_split 90 = .ok (.iastore, 1) := by decide +kernel
theorem dX3_split_91 : decode cX3_split 91 = .ok (.aload_n 1, 1) := by decide +kernel
theorem dX3_split_92 : decode cX3_split 92 = .ok (.getfield 136, 3) := by decide +kernel
theorem dX3_split_95 : decode cX3_split 95 = .ok (.iload 4, 2) := by decide +kernel
theorem dX3_split_97 : decode cX3_split 97 = .ok (.aload_n 0, 1) := by decide +kernel
theorem dX3_split_98 : decode cX3_split 98 = .ok (.getfield 26, 3) := by decide +kernel
theorem dX3_split_101 : decode cX3_split 101 = .ok (.iload_n 2, 1) := by decide +kernel
theorem dX3_split_102 : decode cX3_split 102 = .ok (.iload_n 3, 1) := by decide +kernel
theorem dX3_split_103 : decode cX3_split 103 = .ok (.invokevirtual 167, 3) := by decide +kernel
theorem dX3_split_106 : decode cX3_split 106 = .ok (.aload_n 0, 1) := by decide +kernel
theorem dX3_split_107 : decode cX3_split 107 = .ok (.getfield 26, 3) := by decide +kernel
theorem dX3_split_110 : decode cX3_split 110 = .ok (.getfield 161, 3) := by decide +kernel
theorem dX3_split_113 : decode cX3_split 113 = .ok (.iload 4, 2) := by decide +kernel
theorem dX3_split_115 : decode cX3_split 115 = .ok (.iaload, 1) := by decide +kernel
theorem dX3_split_116 : decode cX3_split 116 = .ok (.isub, 1) := by decide +kernel
theorem dX3_split_117 : decode cX3_split 117 = .ok (.iastore, 1) := by decide +kernel
theorem dX3_split_118 : decode cX3_split 118 = .ok (.iinc 3 1, 3) := by decide +kernel
theorem dX3_split_121 : decode cX3_split 121 = .ok (.goto (-83), 3) := by decide +kernel
theorem dX3_split_124 : decode cX3_split 124 = .ok (.iinc 2 1, 3) := by decide +kernel
theorem dX3_split_127 : decode cX3_split 127 = .ok (.goto (-125), 3) := by decide +kernel
theorem dX3_split_130 : decode cX3_split 130 = .ok (.return_, 1) := by decide +kernel
def X3_split_b124 (k2 : Nat → Int32 → gM → Option gM) (x1 : Nat) (x2 : Int32) (u : gM) : Option gM :=
(k2 x1 (x2 + 1) u)
def X3_split_b38 (k2 : Nat → Int32 → gM → Option gM) (k38 : Nat → Int32 → Int32 → gM → Option gM) (x1 : Nat) (x2 : Int32) (x3 : Int32) (u : gM) : Option gM :=
((aI skC u 11 x2).bind fun v47 => (if v47 ≤ x3 then (X3_split_b124 k2 x1 x2 u)
  else (if isO skC x1 5 = true then ((sI skC u (rf skC x1 2) ((x2 * 4) + x3) 0).bind fun u65 => ((aI skC u65 137 ((x2 * 4) + x3)).bind fun v81 => ((sI skC u65 (rf skC x1 3) ((x2 * 4) + x3) v81).bind fun u82 => ((sI skC u82 (rf skC x1 4) ((x2 * 4) + x3) 0).bind fun u90 => ((X1_share u90 x2 x3).bind fun w103 => ((aI skC u90 137 ((x2 * 4) + x3)).bind fun v115 => ((sI skC u90 (rf skC x1 5) ((x2 * 4) + x3) (w103 - v115)).bind fun u117 => (k38 x1 x2 (x3 + 1) u117))))))))
 else none)))
def X3_split_l38 (k2 : Nat → Int32 → gM → Option gM) : Nat → Nat → Int32 → Int32 → gM → Option gM
  | 0, _, _, _, _ => none
  | n + 1, x1, x2, x3, u => X3_split_b38 k2 (X3_split_l38 k2 n) x1 x2 x3 u
def X3_split_b2 (k2 : Nat → Int32 → gM → Option gM) (x1 : Nat) (x2 : Int32) (u : gM) : Option gM :=
(if (u.1 3 2) ≤ x2 then some u
  else ((aI skC u 8 x2).bind fun v25 => ((X8_nowAt u 18 v25).bind fun w26 => (if isO skC x1 5 = true then (if w26 = (u.1 x1 0) then (X3_split_l38 k2 fz x1 x2 0 u)
    else (X3_split_b124 k2 x1 x2 u))
 else none))))
def X3_split_l2  : Nat → Nat → Int32 → gM → Option gM
  | 0, _, _, _ => none
  | n + 1, x1, x2, u => X3_split_b2  (X3_split_l2  n) x1 x2 u
def X3_split  (x1 : Nat) (u : gM) : Option gM :=
(X3_split_l2 fz x1 0 u)
set_option maxRecDepth 20000 in
theorem v_X3_split_b124 {κ : gK} {B : Nat} {u : gM} (X : gX κ B skC cX3_split 5 RX3 none 2 44) {k2 : Nat → Int32 → gM → Option gM} (ih2 : ∀ (x1 : Nat) (x2 : Int32) (u : gM) (w : gM), k2 x1 x2 u = some w → gV κ B skC 5 ((none), w) 2 [some (.ref (B + 145)), some (.ref (B + x1)), some (.int x2), none, none] [] u) {x1 : Nat} {x2 : Int32} {w : gM} (hM : X3_split_b124 k2 x1 x2 u = some w) : gV κ B skC 5 ((none), w) 124 [some (.ref (B + 145)), some (.ref (B + x1)), some (.int x2), none, none] [] u := by
  unfold X3_split_b124 at hM
  refine g_iinc (d := 1) X [some (.ref (B + 145)), some (.ref (B + x1)), some (.int (x2 + 1)), none, none] dX3_split_124 (by decide) rfl (by decide) rfl ?_
  refine g_goto (tgt := 2) X dX3_split_127 (by decide) ?_
  refine g_mk [true, true, true, false, false] [some (.ref (B + 145)), some (.ref (B + x1)), some (.int (x2 + 1)), none, none] rfl ?_
  exact ih2 x1 (x2 + 1) u _ hM
set_option maxRecDepth 20000 in
theorem v_X3_split_b38 {κ : gK} {B : Nat} {u : gM} (X : gX κ B skC cX3_split 5 RX3 none 2 44) {k2 : Nat → Int32 → gM → Option gM} {k38 : Nat → Int32 → Int32 → gM → Option gM} (ih2 : ∀ (x1 : Nat) (x2 : Int32) (u : gM) (w : gM), k2 x1 x2 u = some w → gV κ B skC 5 ((none), w) 2 [some (.ref (B + 145)), some (.ref (B + x1)), some (.int x2), none, none] [] u) (ih38 : ∀ (x1 : Nat) (x2 : Int32) (x3 : Int32) (u : gM) (w : gM), k38 x1 x2 x3 u = some w → gV κ B skC 5 ((none), w) 38 [some (.ref (B + 145)), some (.ref (B + x1)), some (.int x2), some (.int x3), none] [] u) {x1 : Nat} {x2 : Int32} {x3 : Int32} {w : gM} (hM : X3_split_b38 k2 k38 x1 x2 x3 u = some w) : gV κ B skC 5 ((none), w) 38 [some (.ref (B + 145)), some (.ref (B + x1)), some (.int x2), some (.int x3), none] [] u := by
  unfold X3_split_b38 at hM
  refine g_iload_n X dX3_split_38 rfl ?_
  refine g_aload_n X dX3_split_39 rfl ?_
  refine g_getR X fX3_18 cC_145 rfl dX3_split_40 ?_
  refine g_getR X fX3_156 cC_3 rfl dX3_split_43 ?_
  refine g_iload_n X dX3_split_46 rfl ?_
  obtain ⟨v47, e47, hM⟩ := bind_of hM
  refine g_iaload X e47 dX3_split_47 ?_
  refine g_icmp_ge (tgt := 124) X dX3_split_48 (by decide) (fun c48 => ?_) (fun c48 => ?_)
  · rw [if_pos c48] at hM
    refine g_mk [true, true, true, false, false] [some (.ref (B + 145)), some (.ref (B + x1)), some (.int x2), none, none] rfl ?_
    exact v_X3_split_b124 X ih2 hM
  · rw [if_neg c48] at hM
    refine g_iload_n X dX3_split_51 rfl ?_
    refine g_iconst X (v := 4) dX3_split_52 (by decide) ?_
    refine g_imul X dX3_split_53 ?_
    refine g_iload_n X dX3_split_54 rfl ?_
    refine g_iadd X dX3_split_55 ?_
    refine g_istore X [some (.ref (B + 145)), some (.ref (B + x1)), some (.int x2), some (.int x3), some (.int ((x2 * 4) + x3))] dX3_split_56 (by decide) rfl ?_
    refine g_aload_n X dX3_split_58 rfl ?_
    obtain ⟨o0, hM⟩ := ite_of hM
    refine g_getR X fX3_159 (sh_X5 o0) rfl dX3_split_59 ?_
    refine g_iload X dX3_split_62 rfl ?_
    refine g_iconst X (v := 0) dX3_split_64 (by decide) ?_
    obtain ⟨u65, e65, hM⟩ := bind_of hM
    refine g_iastore X e65 dX3_split_65 ?_
    refine g_aload_n X dX3_split_66 rfl ?_
    refine g_getR X fX3_146 (sh_X5 o0) rfl dX3_split_67 ?_
    refine g_iload X dX3_split_70 rfl ?_
    refine g_aload_n X dX3_split_72 rfl ?_
    refine g_getR X fX3_26 cC_145 rfl dX3_split_73 ?_
    refine g_getR X fX3_161 cC_136 rfl dX3_split_76 ?_
    refine g_iload X dX3_split_79 rfl ?_
    obtain ⟨v81, e81, hM⟩ := bind_of hM
    refine g_iaload X e81 dX3_split_81 ?_
    obtain ⟨u82, e82, hM⟩ := bind_of hM
    refine g_iastore X e82 dX3_split_82 ?_
    refine g_aload_n X dX3_split_83 rfl ?_
    refine g_getR X fX3_164 (sh_X5 o0) rfl dX3_split_84 ?_
    refine g_iload X dX3_split_87 rfl ?_
    refine g_iconst X (v := 0) dX3_split_89 (by decide) ?_
    obtain ⟨u90, e90, hM⟩ := bind_of hM
    refine g_iastore X e90 dX3_split_90 ?_
    refine g_aload_n X dX3_split_91 rfl ?_
    refine g_getR X fX3_136 (sh_X5 o0) rfl dX3_split_92 ?_
    refine g_iload X dX3_split_95 rfl ?_
    refine g_aload_n X dX3_split_97 rfl ?_
    refine g_getR X fX3_26 cC_145 rfl dX3_split_98 ?_
    refine g_iload_n X dX3_split_101 rfl ?_
    refine g_iload_n X dX3_split_102 rfl ?_
    obtain ⟨w103, e103, hM⟩ := bind_of hM
    refine g_callVi X (fun B adK => [.int x2, .int x3]) (s_X1_share e103) cvX3_167 cC_136 rfl rfl (Nat.le_of_ble_eq_true rfl) ⟨by decide, by decide⟩ dX3_split_103 ?_
    refine g_aload_n X dX3_split_106 rfl ?_
    refine g_getR X fX3_26 cC_145 rfl dX3_split_107 ?_
    refine g_getR X fX3_161 cC_136 rfl dX3_split_110 ?_
    refine g_iload X dX3_split_113 rfl ?_
    obtain ⟨v115, e115, hM⟩ := bind_of hM
    refine g_iaload X e115 dX3_split_115 ?_
    refine g_isub X dX3_split_116 ?_
    obtain ⟨u117, e117, hM⟩ := bind_of hM
    refine g_iastore X e117 dX3_split_117 ?_
    refine g_iinc (d := 1) X [some (.ref (B + 145)), some (.ref (B + x1)), some (.int x2), some (.int (x3 + 1)), some (.int ((x2 * 4) + x3))] dX3_split_118 (by decide) rfl (by decide) rfl ?_
    refine g_goto (tgt := 38) X dX3_split_121 (by decide) ?_
    refine g_mk [true, true, true, true, false] [some (.ref (B + 145)), some (.ref (B + x1)), some (.int x2), some (.int (x3 + 1)), none] rfl ?_
    exact ih38 x1 x2 (x3 + 1) u117 _ hM
theorem v_X3_split_l38 {κ : gK} {B : Nat} (X : gX κ B skC cX3_split 5 RX3 none 2 44) {k2 : Nat → Int32 → gM → Option gM} (ih2 : ∀ (x1 : Nat) (x2 : Int32) (u : gM) (w : gM), k2 x1 x2 u = some w → gV κ B skC 5 ((none), w) 2 [some (.ref (B + 145)), some (.ref (B + x1)), some (.int x2), none, none] [] u) : ∀ (n : Nat) {x1 : Nat} {x2 : Int32} {x3 : Int32} {u : gM} {w : gM} (hM : X3_split_l38 k2 n x1 x2 x3 u = some w), gV κ B skC 5 ((none), w) 38 [some (.ref (B + 145)), some (.ref (B + x1)), some (.int x2), some (.int x3), none] [] u := by
  intro n
  induction n with
  | zero => intro x1 x2 x3 u w hM; exact nomatch (show (none : Option gM) = some w from hM)
  | succ n ihn => intro x1 x2 x3 u w hM; exact v_X3_split_b38 X ih2 (fun x1 x2 x3 u w h => ihn h) hM
set_option maxRecDepth 20000 in
theorem v_X3_split_b2 {κ : gK} {B : Nat} {u : gM} (X : gX κ B skC cX3_split 5 RX3 none 2 44) {k2 : Nat → Int32 → gM → Option gM} (ih2 : ∀ (x1 : Nat) (x2 : Int32) (u : gM) (w : gM), k2 x1 x2 u = some w → gV κ B skC 5 ((none), w) 2 [some (.ref (B + 145)), some (.ref (B + x1)), some (.int x2), none, none] [] u) {x1 : Nat} {x2 : Int32} {w : gM} (hM : X3_split_b2 k2 x1 x2 u = some w) : gV κ B skC 5 ((none), w) 2 [some (.ref (B + 145)), some (.ref (B + x1)), some (.int x2), none, none] [] u := by
  unfold X3_split_b2 at hM
  refine g_iload_n X dX3_split_2 rfl ?_
  refine g_aload_n X dX3_split_3 rfl ?_
  refine g_getR X fX3_18 cC_145 rfl dX3_split_4 ?_
  refine g_getI X fX3_117 cC_3 rfl dX3_split_7 ?_
  refine g_icmp_ge (tgt := 130) X dX3_split_10 (by decide) (fun c10 => ?_) (fun c10 => ?_)
  · rw [if_pos c10] at hM
    cases hM
    exact g_vret X dX3_split_130
  · rw [if_neg c10] at hM
    refine g_aload_n X dX3_split_13 rfl ?_
    refine g_getR X fX3_22 cC_145 rfl dX3_split_14 ?_
    refine g_aload_n X dX3_split_17 rfl ?_
    refine g_getR X fX3_18 cC_145 rfl dX3_split_18 ?_
    refine g_getR X fX3_65 cC_3 rfl dX3_split_21 ?_
    refine g_iload_n X dX3_split_24 rfl ?_
    obtain ⟨v25, e25, hM⟩ := bind_of hM
    refine g_iaload X e25 dX3_split_25 ?_
    obtain ⟨w26, e26, hM⟩ := bind_of hM
    refine g_callVi X (fun B adK => [.int v25]) (s_X8_nowAt e26) cvX3_68 cC_18 rfl rfl (Nat.le_of_ble_eq_true rfl) ⟨by decide, by decide⟩ dX3_split_26 ?_
    refine g_aload_n X dX3_split_29 rfl ?_
    obtain ⟨o0, hM⟩ := ite_of hM
    refine g_getI X fX3_153 (sh_X5 o0) rfl dX3_split_30 ?_
    refine g_icmp_ne (tgt := 124) X dX3_split_33 (by decide) (fun c33 => ?_) (fun c33 => ?_)
    · rw [if_neg c33] at hM
      refine g_mk [true, true, true, false, false] [some (.ref (B + 145)), some (.ref (B + x1)), some (.int x2), none, none] rfl ?_
      exact v_X3_split_b124 X ih2 hM
    · rw [if_pos c33] at hM
      refine g_iconst X (v := 0) dX3_split_36 (by decide) ?_
      refine g_istore_n X [some (.ref (B + 145)), some (.ref (B + x1)), some (.int x2), some (.int 0), none] dX3_split_37 (by decide) rfl ?_
      refine g_mk [true, true, true, true, false] [some (.ref (B + 145)), some (.ref (B + x1)), some (.int x2), some (.int 0), none] rfl ?_
      exact v_X3_split_l38 X ih2 fz hM
theorem v_X3_split_l2 {κ : gK} {B : Nat} (X : gX κ B skC cX3_split 5 RX3 none 2 44)   : ∀ (n : Nat) {x1 : Nat} {x2 : Int32} {u : gM} {w : gM} (hM : X3_split_l2  n x1 x2 u = some w), gV κ B skC 5 ((none), w) 2 [some (.ref (B + 145)), some (.ref (B + x1)), some (.int x2), none, none] [] u := by
  intro n
  induction n with
  | zero => intro x1 x2 u w hM; exact nomatch (show (none : Option gM) = some w from hM)
  | succ n ihn => intro x1 x2 u w hM; exact v_X3_split_b2 X  (fun x1 x2 u w h => ihn h) hM
set_option maxRecDepth 20000 in
theorem v_X3_split {κ : gK} {B : Nat} {u : gM} (X : gX κ B skC cX3_split 5 RX3 none 2 44)   {x1 : Nat} {w : gM} (hM : X3_split x1 u = some w) : gV κ B skC 5 ((none), w) 0 [some (.ref (B + 145)), some (.ref (B + x1)), none, none, none] [] u := by
  unfold X3_split at hM
  refine g_iconst X (v := 0) dX3_split_0 (by decide) ?_
  refine g_istore_n X [some (.ref (B + 145)), some (.ref (B + x1)), some (.int 0), none, none] dX3_split_1 (by decide) rfl ?_
  refine g_mk [true, true, true, false, false] [some (.ref (B + 145)), some (.ref (B + x1)), some (.int 0), none, none] rfl ?_
  exact v_X3_split_l2 X  fz hM
theorem s_X3_split {x1 : Nat} {u : gM} {w : gM} (hM : X3_split x1 u = some w) : gMet skC yX3_split cX3_split 5 none 2 44 (fun B adK => [.ref (B + 145), .ref (B + x1)]) u ((fun _ => none), w) := by
  refine gMet.of (by decide) (fun _ _ => Nat.le_of_ble_eq_true rfl) (fun κ B X => ?_)
  have X : gX κ B skC cX3_split 5 RX3 none 2 44 := X
  refine g_mk [true, true, false, false, false] [some (.ref (B + 145)), some (.ref (B + x1)), none, none, none] rfl ?_
  exact v_X3_split X  hM
theorem fr_X3_split_b124 {S : Nat → Prop} {u0 u : gM} {x1 : Nat} {x2 : Int32} (hs0 : S (rf skC x1 2)) (hs1 : S (rf skC x1 3)) (hs2 : S (rf skC x1 4)) (hs3 : S (rf skC x1 5)) {k2 : Nat → Int32 → gM → Option gM} (ik2 : ∀ (x1 : Nat) (x2 : Int32) (u : gM) (w : gM), S (rf skC x1 2) → S (rf skC x1 3) → S (rf skC x1 4) → S (rf skC x1 5) → off S u0 u → k2 x1 x2 u = some w → off S u0 w) {w : gM} (hM : X3_split_b124 k2 x1 x2 u = some w) (h0 : off S u0 u) : off S u0 w := by
  unfold X3_split_b124 at hM
  exact ik2 _ _ _ _ hs0 hs1 hs2 hs3 h0 hM
theorem fr_X3_split_b38 {S : Nat → Prop} {u0 u : gM} {x1 : Nat} {x2 : Int32} {x3 : Int32} (hs0 : S (rf skC x1 2)) (hs1 : S (rf skC x1 3)) (hs2 : S (rf skC x1 4)) (hs3 : S (rf skC x1 5)) {k2 : Nat → Int32 → gM → Option gM} {k38 : Nat → Int32 → Int32 → gM → Option gM} (ik2 : ∀ (x1 : Nat) (x2 : Int32) (u : gM) (w : gM), S (rf skC x1 2) → S (rf skC x1 3) → S (rf skC x1 4) → S (rf skC x1 5) → off S u0 u → k2 x1 x2 u = some w → off S u0 w) (ik38 : ∀ (x1 : Nat) (x2 : Int32) (x3 : Int32) (u : gM) (w : gM), S (rf skC x1 2) → S (rf skC x1 3) → S (rf skC x1 4) → S (rf skC x1 5) → off S u0 u → k38 x1 x2 x3 u = some w → off S u0 w) {w : gM} (hM : X3_split_b38 k2 k38 x1 x2 x3 u = some w) (h0 : off S u0 u) : off S u0 w := by
  unfold X3_split_b38 at hM
  obtain ⟨v47, e47, hM⟩ := bind_of hM
  by_cases c48 : v47 ≤ x3
  · rw [if_pos c48] at hM
    exact fr_X3_split_b124 hs0 hs1 hs2 hs3 ik2 hM h0
  · rw [if_neg c48] at hM
    obtain ⟨o0, hM⟩ := ite_of hM
    obtain ⟨u65, e65, hM⟩ := bind_of hM
    have h0 := off_sI hs0 e65 h0
    obtain ⟨v81, e81, hM⟩ := bind_of hM
    obtain ⟨u82, e82, hM⟩ := bind_of hM
    have h0 := off_sI hs1 e82 h0
    obtain ⟨u90, e90, hM⟩ := bind_of hM
    have h0 := off_sI hs2 e90 h0
    obtain ⟨w103, e103, hM⟩ := bind_of hM
    obtain ⟨v115, e115, hM⟩ := bind_of hM
    obtain ⟨u117, e117, hM⟩ := bind_of hM
    have h0 := off_sI hs3 e117 h0
    exact ik38 _ _ _ _ _ hs0 hs1 hs2 hs3 h0 hM
theorem fr_X3_split_l38 {S : Nat → Prop} {u0 : gM} {k2 : Nat → Int32 → gM → Option gM} (ik2 : ∀ (x1 : Nat) (x2 : Int32) (u : gM) (w : gM), S (rf skC x1 2) → S (rf skC x1 3) → S (rf skC x1 4) → S (rf skC x1 5) → off S u0 u → k2 x1 x2 u = some w → off S u0 w) : ∀ (n : Nat) {x1 : Nat} {x2 : Int32} {x3 : Int32} (hs0 : S (rf skC x1 2)) (hs1 : S (rf skC x1 3)) (hs2 : S (rf skC x1 4)) (hs3 : S (rf skC x1 5)) {u : gM} {w : gM} (h0 : off S u0 u) (hM : X3_split_l38 k2 n x1 x2 x3 u = some w), off S u0 w := by
  intro n
  induction n with
  | zero => intro x1 x2 x3 hs0 hs1 hs2 hs3 u w h0 hM; exact nomatch (show (none : Option gM) = some w from hM)
  | succ n ihn => intro x1 x2 x3 hs0 hs1 hs2 hs3 u w h0 hM; exact fr_X3_split_b38 hs0 hs1 hs2 hs3 ik2 (fun x1 x2 x3 _ _ hs0 hs1 hs2 hs3 h0 h => ihn hs0 hs1 hs2 hs3 h0 h) hM h0
theorem fr_X3_split_b2 {S : Nat → Prop} {u0 u : gM} {x1 : Nat} {x2 : Int32} (hs0 : S (rf skC x1 2)) (hs1 : S (rf skC x1 3)) (hs2 : S (rf skC x1 4)) (hs3 : S (rf skC x1 5)) {k2 : Nat → Int32 → gM → Option gM} (ik2 : ∀ (x1 : Nat) (x2 : Int32) (u : gM) (w : gM), S (rf skC x1 2) → S (rf skC x1 3) → S (rf skC x1 4) → S (rf skC x1 5) → off S u0 u → k2 x1 x2 u = some w → off S u0 w) {w : gM} (hM : X3_split_b2 k2 x1 x2 u = some w) (h0 : off S u0 u) : off S u0 w := by
  unfold X3_split_b2 at hM
  by_cases c10 : (u.1 3 2) ≤ x2
  · rw [if_pos c10] at hM
    cases hM
    exact h0
  · rw [if_neg c10] at hM
    obtain ⟨v25, e25, hM⟩ := bind_of hM
    obtain ⟨w26, e26, hM⟩ := bind_of hM
    obtain ⟨o0, hM⟩ := ite_of hM
    by_cases c33 : w26 = (u.1 x1 0)
    · rw [if_pos c33] at hM
      exact fr_X3_split_l38 ik2 fz hs0 hs1 hs2 hs3 h0 hM
    · rw [if_neg c33] at hM
      exact fr_X3_split_b124 hs0 hs1 hs2 hs3 ik2 hM h0
theorem fr_X3_split_l2 {S : Nat → Prop} {u0 : gM}   : ∀ (n : Nat) {x1 : Nat} {x2 : Int32} (hs0 : S (rf skC x1 2)) (hs1 : S (rf skC x1 3)) (hs2 : S (rf skC x1 4)) (hs3 : S (rf skC x1 5)) {u : gM} {w : gM} (h0 : off S u0 u) (hM : X3_split_l2  n x1 x2 u = some w), off S u0 w := by
  intro n
  induction n with
  | zero => intro x1 x2 hs0 hs1 hs2 hs3 u w h0 hM; exact nomatch (show (none : Option gM) = some w from hM)
  | succ n ihn => intro x1 x2 hs0 hs1 hs2 hs3 u w h0 hM; exact fr_X3_split_b2 hs0 hs1 hs2 hs3  (fun x1 x2 _ _ hs0 hs1 hs2 hs3 h0 h => ihn hs0 hs1 hs2 hs3 h0 h) hM h0
theorem fr_X3_split {S : Nat → Prop} {u0 u : gM} {x1 : Nat} (hs0 : S (rf skC x1 2)) (hs1 : S (rf skC x1 3)) (hs2 : S (rf skC x1 4)) (hs3 : S (rf skC x1 5))   {w : gM} (hM : X3_split x1 u = some w) (h0 : off S u0 u) : off S u0 w := by
  unfold X3_split at hM
  exact fr_X3_split_l2  fz hs0 hs1 hs2 hs3 h0 hM
/-! CoverDesk$Deeds.setOff(LCoverDesk$Failing;[III)I -/
theorem dX3_setOff_0 : decode cX3_setOff 0 = .ok (.iload 4, 2) := by decide +kernel
theorem dX3_setOff_2 : decode cX3_setOff 2 = .ok (.istore 5, 2) := by decide +kernel
theorem dX3_setOff_4 : decode cX3_setOff 4 = .ok (.iconst 0, 1) := by decide +kernel
theorem dX3_setOff_5 : decode cX3_setOff 5 = .ok (.istore 6, 2) := by decide +kernel
theorem dX3_setOff_7 : decode cX3_setOff 7 = .ok (.iload 6, 2) := by decide +kernel
theorem dX3_setOff_9 : decode cX3_setOff 9 = .ok (.aload_n 0, 1) := by decide +kernel
theorem dX3_setOff_10 : decode cX3_setOff 10 = .ok (.getfield 18, 3) := by decide +kernel
theorem dX3_setOff_13 : decode cX3_setOff 13 = .ok (.getfield 117, 3) := by decide +kernel
theorem dX3_setOff_16 : decode cX3_setOff 16 = .ok (.if_icmp .ge 86, 3) := by decide +kernel
theorem dX3_setOff_19 : decode cX3_setOff 19 = .ok (.aload_n 0, 1) := by decide +kernel
theorem dX3_setOff_20 : decode cX3_setOff 20 = .ok (.getfield 18, 3) := by decide +kernel
theorem dX3_setOff_23 : decode cX3_setOff 23 = .ok (.iload 6, 2) := by decide +kernel
theorem dX3_setOff_25 : decode cX3_setOff 25 = .ok (.iload_n 3, 1) := by decide +kernel
theorem dX3_setOff_26 : decode cX3_setOff 26 = .ok (.invokevirtual 171, 3) := by decide +kernel
theorem dX3_setOff_29 : decode cX3_setOff 29 = .ok (.istore 7, 2) := by decide +kernel
theorem dX3_setOff_31 : decode cX3_setOff 31 = .ok (.iload 6, 2) := by decide +kernel
theorem dX3_setOff_33 : decode cX3_setOff 33 = .ok (.iconst 4, 1) := by decide +kernel
theorem dX3_setOff_34 : decode cX3_setOff 34 = .ok (.imul, 1) := by decide +kernel
theorem dX3_setOff_35 : decode cX3_setOff 35 = .ok (.iload 7, 2) := by decide +kernel
theorem dX3_setOff_37 : decode cX3_setOff 37 = .ok (.iadd, 1) := by decide +kernel
theorem dX3_setOff_38 : decode cX3_setOff 38 = .ok (.istore 8, 2) := by decide +kernel
theorem dX3_setOff_40 : decode cX3_setOff 40 = .ok (.iload 7, 2) := by decide +kernel
theorem dX3_setOff_42 : decode cX3_setOff 42 = .ok (.iconst (-1), 1) := by decide +kernel
theorem dX3_setOff_43 : decode cX3_setOff 43 = .ok (.if_icmp .eq 53, 3) := by decide +kernel
theorem dX3_setOff_46 : decode cX3_setOff 46 = .ok (.aload_n 1, 1) := by decide +kernel
theorem dX3_setOff_47 : decode cX3_setOff 47 = .ok (.getfield 159, 3) := by decide +kernel
theorem dX3_setOff_50 : decode cX3_setOff 50 = .ok (.iload 8, 2) := by decide +kernel
theorem dX3_setOff_52 : decode cX3_setOff 52 = .ok (.iaload, 1) := by decide +kernel
theorem dX3_setOff_53 : decode cX3_setOff 53 = .ok (.iconst (-1), 1) := by decide +kernel
theorem dX3_setOff_54 : decode cX3_setOff 54 = .ok (.if_icmp .eq 42, 3) := by decide +kernel
theorem dX3_setOff_57 : decode cX3_setOff 57 = .ok (.iload 5, 2) := by decide +kernel
theorem dX3_setOff_59 : decode cX3_setOff 59 = .ok (.aload_n 2, 1) := by decide +kernel
theorem dX3_setOff_60 : decode cX3_setOff 60 = .ok (.iload 8, 2) := by decide +kernel
theorem dX3_setOff_62 : decode cX3_setOff 62 = .ok (.iaload, 1) := by decide +kernel
theorem dX3_setOff_63 : decode cX3_setOff 63 = .ok (.invokestatic 174, 3) := by decide +kernel
theorem dX3_setOff_66 : decode cX3_setOff 66 = .ok (.istore 9, 2) := by decide +kernel
theorem dX3_setOff_68 : decode cX3_setOff 68 = .ok (.aload_n 2, 1) := by decide +kernel
theorem dX3_setOff_69 : decode cX3_setOff 69 = .ok (.iload 8, 2) := by decide +kernel
theorem dX3_setOff_71 : decode cX3_setOff 71 = .ok (.dup2, 1) := by decide +kernel
theorem dX3_setOff_72 : decode cX3_setOff 72 = .ok (.iaload, 1) := by decide +kernel
theorem dX3_setOff_73 : decode cX3_setOff 73 = .ok (.iload 9, 2) := by decide +kernel
theorem dX3_setOff_75 : decode cX3_setOff 75 = .ok (.isub, 1) := by decide +kernel
theorem dX3_setOff_76 : decode cX3_setOff 76 = .ok (.iastore, 1) := by decide +kernel
theorem dX3_setOff_77 : decode cX3_setOff 77 = .ok (.aload_n 1, 1) := by decide +kernel
theorem dX3_setOff_78 : decode cX3_setOff 78 = .ok (.getfield 159, 3) := by decide +kernel
theorem dX3_setOff_81 : decode cX3_setOff 81 = .ok (.iload 8, 2) := by decide +kernel
theorem dX3_setOff_83 : decode cX3_setOff 83 = .ok (.dup2, 1) := by decide +kernel
theorem dX3_setOff_84 : decode cX3_setOff 84 = .ok (.iaload, 1) := by decide +kernel
theorem dX3_setOff_85 : decode cX3_setOff 85 = .ok (.iload 9, 2) := by decide +kernel
theorem dX3_setOff_87 : decode cX3_setOff 87 = .ok (.iadd, 1) := by decide +kernel
theorem dX3_setOff_88 : decode cX3_setOff 88 = .ok (.iastore, 1) := by decide +kernel
theorem dX3_setOff_89 : decode cX3_setOff 89 = .ok (.iload 5, 2) := by decide +kernel
theorem dX3_setOff_91 : decode cX3_setOff 91 = .ok (.iload 9, 2) := by decide +kernel
theorem dX3_setOff_93 : decode cX3_setOff 93 = .ok (.isub, 1) := by decide +kernel
theorem dX3_setOff_94 : decode cX3_setOff 94 = .ok (.istore 5, 2) := by decide +kernel
theorem dX3_setOff_96 : decode cX3_setOff 96 = .ok (.iinc 6 1, 3) := by decide +kernel
theorem dX3_setOff_99 : decode cX3_setOff 99 = .ok (.goto (-92), 3) := by decide +kernel
theorem dX3_setOff_102 : decode cX3_setOff 102 = .ok (.iload 5, 2) := by decide +kernel
theorem dX3_setOff_104 : decode cX3_setOff 104 = .ok (.ireturn, 1) := by decide +kernel
def X3_setOff_b96 (k7 : Nat → Nat → Int32 → Int32 → Int32 → gM → Option (Int32 × gM)) (x1 : Nat) (x2 : Nat) (x3 : Int32) (x5 : Int32) (x6 : Int32) (u : gM) : Option (Int32 × gM) :=
(k7 x1 x2 x3 x5 (x6 + 1) u)
def X3_setOff_b7 (k7 : Nat → Nat → Int32 → Int32 → Int32 → gM → Option (Int32 × gM)) (x1 : Nat) (x2 : Nat) (x3 : Int32) (x5 : Int32) (x6 : Int32) (u : gM) : Option (Int32 × gM) :=
(if (u.1 3 2) ≤ x6 then some (x5, u)
  else ((X10_ownerOf u 3 x6 x3).bind fun w26 => (if w26 = (-1) then (X3_setOff_b96 k7 x1 x2 x3 x5 x6 u)
    else (if isO skC x1 5 = true then ((aI skC u (rf skC x1 2) ((x6 * 4) + w26)).bind fun v52 => (if v52 = (-1) then (X3_setOff_b96 k7 x1 x2 x3 x5 x6 u)
      else ((aI skC u x2 ((x6 * 4) + w26)).bind fun v62 => ((aI skC u x2 ((x6 * 4) + w26)).bind fun v72 => ((sI skC u x2 ((x6 * 4) + w26) (v72 - (mnI x5 v62))).bind fun u76 => ((aI skC u76 (rf skC x1 2) ((x6 * 4) + w26)).bind fun v84 => ((sI skC u76 (rf skC x1 2) ((x6 * 4) + w26) (v84 + (mnI x5 v62))).bind fun u88 => (X3_setOff_b96 k7 x1 x2 x3 (x5 - (mnI x5 v62)) x6 u88))))))))
 else none))))
def X3_setOff_l7  : Nat → Nat → Nat → Int32 → Int32 → Int32 → gM → Option (Int32 × gM)
  | 0, _, _, _, _, _, _ => none
  | n + 1, x1, x2, x3, x5, x6, u => X3_setOff_b7  (X3_setOff_l7  n) x1 x2 x3 x5 x6 u
def X3_setOff  (x1 : Nat) (x2 : Nat) (x3 : Int32) (x4 : Int32) (u : gM) : Option (Int32 × gM) :=
(X3_setOff_l7 fz x1 x2 x3 x4 0 u)
set_option maxRecDepth 20000 in
theorem v_X3_setOff_b96 {κ : gK} {B : Nat} {u : gM} (X : gX κ B skC cX3_setOff 10 RX3 (some .int) 1 26) {k7 : Nat → Nat → Int32 → Int32 → Int32 → gM → Option (Int32 × gM)} (ih7 : ∀ (x1 : Nat) (x2 : Nat) (x3 : Int32) (x5 : Int32) (x6 : Int32) (u : gM) (w : (Int32 × gM)), k7 x1 x2 x3 x5 x6 u = some w → gV κ B skC 10 ((some (.int w.1)), w.2) 7 [some (.ref (B + 145)), some (.ref (B + x1)), some (.ref (B + x2)), some (.int x3), none, some (.int x5), some (.int x6), none, none, none] [] u) {x1 : Nat} {x2 : Nat} {x3 : Int32} {x5 : Int32} {x6 : Int32} {w : (Int32 × gM)} (hM : X3_setOff_b96 k7 x1 x2 x3 x5 x6 u = some w) : gV κ B skC 10 ((some (.int w.1)), w.2) 96 [some (.ref (B + 145)), some (.ref (B + x1)), some (.ref (B + x2)), some (.int x3), none, some (.int x5), some (.int x6), none, none, none] [] u := by
  unfold X3_setOff_b96 at hM
  refine g_iinc (d := 1) X [some (.ref (B + 145)), some (.ref (B + x1)), some (.ref (B + x2)), some (.int x3), none, some (.int x5), some (.int (x6 + 1)), none, none, none] dX3_setOff_96 (by decide) rfl (by decide) rfl ?_
  refine g_goto (tgt := 7) X dX3_setOff_99 (by decide) ?_
  refine g_mk [true, true, true, true, false, true, true, false, false, false] [some (.ref (B + 145)), some (.ref (B + x1)), some (.ref (B + x2)), some (.int x3), none, some (.int x5), some (.int (x6 + 1)), none, none, none] rfl ?_
  exact ih7 x1 x2 x3 x5 (x6 + 1) u _ hM
set_option maxRecDepth 20000 in
theorem v_X3_setOff_b7 {κ : gK} {B : Nat} {u : gM} (X : gX κ B skC cX3_setOff 10 RX3 (some .int) 1 26) {k7 : Nat → Nat → Int32 → Int32 → Int32 → gM → Option (Int32 × gM)} (ih7 : ∀ (x1 : Nat) (x2 : Nat) (x3 : Int32) (x5 : Int32) (x6 : Int32) (u : gM) (w : (Int32 × gM)), k7 x1 x2 x3 x5 x6 u = some w → gV κ B skC 10 ((some (.int w.1)), w.2) 7 [some (.ref (B + 145)), some (.ref (B + x1)), some (.ref (B + x2)), some (.int x3), none, some (.int x5), some (.int x6), none, none, none] [] u) {x1 : Nat} {x2 : Nat} {x3 : Int32} {x5 : Int32} {x6 : Int32} {w : (Int32 × gM)} (hM : X3_setOff_b7 k7 x1 x2 x3 x5 x6 u = some w) : gV κ B skC 10 ((some (.int w.1)), w.2) 7 [some (.ref (B + 145)), some (.ref (B + x1)), some (.ref (B + x2)), some (.int x3), none, some (.int x5), some (.int x6), none, none, none] [] u := by
  unfold X3_setOff_b7 at hM
  refine g_iload X dX3_setOff_7 rfl ?_
  refine g_aload_n X dX3_setOff_9 rfl ?_
  refine g_getR X fX3_18 cC_145 rfl dX3_setOff_10 ?_
  refine g_getI X fX3_117 cC_3 rfl dX3_setOff_13 ?_
  refine g_icmp_ge (tgt := 102) X dX3_setOff_16 (by decide) (fun c16 => ?_) (fun c16 => ?_)
  · rw [if_pos c16] at hM
    refine g_iload X dX3_setOff_102 rfl ?_
    cases hM
    exact g_iret X dX3_setOff_104
  · rw [if_neg c16] at hM
    refine g_aload_n X dX3_setOff_19 rfl ?_
    refine g_getR X fX3_18 cC_145 rfl dX3_setOff_20 ?_
    refine g_iload X dX3_setOff_23 rfl ?_
    refine g_iload_n X dX3_setOff_25 rfl ?_
    obtain ⟨w26, e26, hM⟩ := bind_of hM
    refine g_callVi X (fun B adK => [.int x6, .int x3]) (s_X10_ownerOf e26) cvX3_171 cC_3 rfl rfl (Nat.le_of_ble_eq_true rfl) ⟨by decide, by decide⟩ dX3_setOff_26 ?_
    refine g_istore X [some (.ref (B + 145)), some (.ref (B + x1)), some (.ref (B + x2)), some (.int x3), none, some (.int x5), some (.int x6), some (.int w26), none, none] dX3_setOff_29 (by decide) rfl ?_
    refine g_iload X dX3_setOff_31 rfl ?_
    refine g_iconst X (v := 4) dX3_setOff_33 (by decide) ?_
    refine g_imul X dX3_setOff_34 ?_
    refine g_iload X dX3_setOff_35 rfl ?_
    refine g_iadd X dX3_setOff_37 ?_
    refine g_istore X [some (.ref (B + 145)), some (.ref (B + x1)), some (.ref (B + x2)), some (.int x3), none, some (.int x5), some (.int x6), some (.int w26), some (.int ((x6 * 4) + w26)), none] dX3_setOff_38 (by decide) rfl ?_
    refine g_iload X dX3_setOff_40 rfl ?_
    refine g_iconst X (v := (-1)) dX3_setOff_42 (by decide) ?_
    refine g_icmp_eq (tgt := 96) X dX3_setOff_43 (by decide) (fun c43 => ?_) (fun c43 => ?_)
    · rw [if_pos c43] at hM
      refine g_mk [true, true, true, true, false, true, true, false, false, false] [some (.ref (B + 145)), some (.ref (B + x1)), some (.ref (B + x2)), some (.int x3), none, some (.int x5), some (.int x6), none, none, none] rfl ?_
      exact v_X3_setOff_b96 X ih7 hM
    · rw [if_neg c43] at hM
      refine g_aload_n X dX3_setOff_46 rfl ?_
      obtain ⟨o0, hM⟩ := ite_of hM
      refine g_getR X fX3_159 (sh_X5 o0) rfl dX3_setOff_47 ?_
      refine g_iload X dX3_setOff_50 rfl ?_
      obtain ⟨v52, e52, hM⟩ := bind_of hM
      refine g_iaload X e52 dX3_setOff_52 ?_
      refine g_iconst X (v := (-1)) dX3_setOff_53 (by decide) ?_
      refine g_icmp_eq (tgt := 96) X dX3_setOff_54 (by decide) (fun c54 => ?_) (fun c54 => ?_)
      · rw [if_pos c54] at hM
        refine g_mk [true, true, true, true, false, true, true, false, false, false] [some (.ref (B + 145)), some (.ref (B + x1)), some (.ref (B + x2)), some (.int x3), none, some (.int x5), some (.int x6), none, none, none] rfl ?_
        exact v_X3_setOff_b96 X ih7 hM
      · rw [if_neg c54] at hM
        refine g_iload X dX3_setOff_57 rfl ?_
        refine g_aload_n X dX3_setOff_59 rfl ?_
        refine g_iload X dX3_setOff_60 rfl ?_
        obtain ⟨v62, e62, hM⟩ := bind_of hM
        refine g_iaload X e62 dX3_setOff_62 ?_
        refine g_minI X m_37_1 ⟨by decide, Nat.le_of_ble_eq_true rfl⟩ dX3_setOff_63 ?_
        refine g_istore X [some (.ref (B + 145)), some (.ref (B + x1)), some (.ref (B + x2)), some (.int x3), none, some (.int x5), some (.int x6), some (.int w26), some (.int ((x6 * 4) + w26)), some (.int (mnI x5 v62))] dX3_setOff_66 (by decide) rfl ?_
        refine g_aload_n X dX3_setOff_68 rfl ?_
        refine g_iload X dX3_setOff_69 rfl ?_
        refine g_dup2_11 X rfl rfl dX3_setOff_71 ?_
        obtain ⟨v72, e72, hM⟩ := bind_of hM
        refine g_iaload X e72 dX3_setOff_72 ?_
        refine g_iload X dX3_setOff_73 rfl ?_
        refine g_isub X dX3_setOff_75 ?_
        obtain ⟨u76, e76, hM⟩ := bind_of hM
        refine g_iastore X e76 dX3_setOff_76 ?_
        refine g_aload_n X dX3_setOff_77 rfl ?_
        refine g_getR X fX3_159 (sh_X5 o0) rfl dX3_setOff_78 ?_
        refine g_iload X dX3_setOff_81 rfl ?_
        refine g_dup2_11 X rfl rfl dX3_setOff_83 ?_
        obtain ⟨v84, e84, hM⟩ := bind_of hM
        refine g_iaload X e84 dX3_setOff_84 ?_
        refine g_iload X dX3_setOff_85 rfl ?_
        refine g_iadd X dX3_setOff_87 ?_
        obtain ⟨u88, e88, hM⟩ := bind_of hM
        refine g_iastore X e88 dX3_setOff_88 ?_
        refine g_iload X dX3_setOff_89 rfl ?_
        refine g_iload X dX3_setOff_91 rfl ?_
        refine g_isub X dX3_setOff_93 ?_
        refine g_istore X [some (.ref (B + 145)), some (.ref (B + x1)), some (.ref (B + x2)), some (.int x3), none, some (.int (x5 - (mnI x5 v62))), some (.int x6), some (.int w26), some (.int ((x6 * 4) + w26)), some (.int (mnI x5 v62))] dX3_setOff_94 (by decide) rfl ?_
        refine g_mk [true, true, true, true, false, true, true, false, false, false] [some (.ref (B + 145)), some (.ref (B + x1)), some (.ref (B + x2)), some (.int x3), none, some (.int (x5 - (mnI x5 v62))), some (.int x6), none, none, none] rfl ?_
        exact v_X3_setOff_b96 X ih7 hM
theorem v_X3_setOff_l7 {κ : gK} {B : Nat} (X : gX κ B skC cX3_setOff 10 RX3 (some .int) 1 26)   : ∀ (n : Nat) {x1 : Nat} {x2 : Nat} {x3 : Int32} {x5 : Int32} {x6 : Int32} {u : gM} {w : (Int32 × gM)} (hM : X3_setOff_l7  n x1 x2 x3 x5 x6 u = some w), gV κ B skC 10 ((some (.int w.1)), w.2) 7 [some (.ref (B + 145)), some (.ref (B + x1)), some (.ref (B + x2)), some (.int x3), none, some (.int x5), some (.int x6), none, none, none] [] u := by
  intro n
  induction n with
  | zero => intro x1 x2 x3 x5 x6 u w hM; exact nomatch (show (none : Option (Int32 × gM)) = some w from hM)
  | succ n ihn => intro x1 x2 x3 x5 x6 u w hM; exact v_X3_setOff_b7 X  (fun x1 x2 x3 x5 x6 u w h => ihn h) hM
set_option maxRecDepth 20000 in
theorem v_X3_setOff {κ : gK} {B : Nat} {u : gM} (X : gX κ B skC cX3_setOff 10 RX3 (some .int) 1 26)   {x1 : Nat} {x2 : Nat} {x3 : Int32} {x4 : Int32} {w : (Int32 × gM)} (hM : X3_setOff x1 x2 x3 x4 u = some w) : gV κ B skC 10 ((some (.int w.1)), w.2) 0 [some (.ref (B + 145)), some (.ref (B + x1)), some (.ref (B + x2)), some (.int x3), some (.int x4), none, none, none, none, none] [] u := by
  unfold X3_setOff at hM
  refine g_iload X dX3_setOff_0 rfl ?_
  refine g_istore X [some (.ref (B + 145)), some (.ref (B + x1)), some (.ref (B + x2)), some (.int x3), some (.int x4), some (.int x4), none, none, none, none] dX3_setOff_2 (by decide) rfl ?_
  refine g_iconst X (v := 0) dX3_setOff_4 (by decide) ?_
  refine g_istore X [some (.ref (B + 145)), some (.ref (B + x1)), some (.ref (B + x2)), some (.int x3), some (.int x4), some (.int x4), some (.int 0), none, none, none] dX3_setOff_5 (by decide) rfl ?_
  refine g_mk [true, true, true, true, false, true, true, false, false, false] [some (.ref (B + 145)), some (.ref (B + x1)), some (.ref (B + x2)), some (.int x3), none, some (.int x4), some (.int 0), none, none, none] rfl ?_
  exact v_X3_setOff_l7 X  fz hM
theorem s_X3_setOff {x1 : Nat} {x2 : Nat} {x3 : Int32} {x4 : Int32} {u : gM} {w : (Int32 × gM)} (hM : X3_setOff x1 x2 x3 x4 u = some w) : gMet skC yX3_setOff cX3_setOff 10 (some .int) 1 26 (fun B adK => [.ref (B + 145), .ref (B + x1), .ref (B + x2), .int x3, .int x4]) u ((fun _ => some (.int w.1)), w.2) := by
  refine gMet.of (by decide) (fun _ _ => Nat.le_of_ble_eq_true rfl) (fun κ B X => ?_)
  have X : gX κ B skC cX3_setOff 10 RX3 (some .int) 1 26 := X
  refine g_mk [true, true, true, true, true, false, false, false, false, false] [some (.ref (B + 145)), some (.ref (B + x1)), some (.ref (B + x2)), some (.int x3), some (.int x4), none, none, none, none, none] rfl ?_
  exact v_X3_setOff X  hM
theorem fr_X3_setOff_b96 {S : Nat → Prop} {u0 u : gM} {x1 : Nat} {x2 : Nat} {x3 : Int32} {x5 : Int32} {x6 : Int32} (hs0 : S (rf skC x1 2)) (hs1 : S x2) {k7 : Nat → Nat → Int32 → Int32 → Int32 → gM → Option (Int32 × gM)} (ik7 : ∀ (x1 : Nat) (x2 : Nat) (x3 : Int32) (x5 : Int32) (x6 : Int32) (u : gM) (w : (Int32 × gM)), S (rf skC x1 2) → S x2 → off S u0 u → k7 x1 x2 x3 x5 x6 u = some w → off S u0 w.2) {w : (Int32 × gM)} (hM : X3_setOff_b96 k7 x1 x2 x3 x5 x6 u = some w) (h0 : off S u0 u) : off S u0 w.2 := by
  unfold X3_setOff_b96 at hM
  exact ik7 _ _ _ _ _ _ _ hs0 hs1 h0 hM
theorem fr_X3_setOff_b7 {S : Nat → Prop} {u0 u : gM} {x1 : Nat} {x2 : Nat} {x3 : Int32} {x5 : Int32} {x6 : Int32} (hs0 : S (rf skC x1 2)) (hs1 : S x2) {k7 : Nat → Nat → Int32 → Int32 → Int32 → gM → Option (Int32 × gM)} (ik7 : ∀ (x1 : Nat) (x2 : Nat) (x3 : Int32) (x5 : Int32) (x6 : Int32) (u : gM) (w : (Int32 × gM)), S (rf skC x1 2) → S x2 → off S u0 u → k7 x1 x2 x3 x5 x6 u = some w → off S u0 w.2) {w : (Int32 × gM)} (hM : X3_setOff_b7 k7 x1 x2 x3 x5 x6 u = some w) (h0 : off S u0 u) : off S u0 w.2 := by
  unfold X3_setOff_b7 at hM
  by_cases c16 : (u.1 3 2) ≤ x6
  · rw [if_pos c16] at hM
    cases hM
    exact h0
  · rw [if_neg c16] at hM
    obtain ⟨w26, e26, hM⟩ := bind_of hM
    by_cases c43 : w26 = (-1)
    · rw [if_pos c43] at hM
      exact fr_X3_setOff_b96 hs0 hs1 ik7 hM h0
    · rw [if_neg c43] at hM
      obtain ⟨o0, hM⟩ := ite_of hM
      obtain ⟨v52, e52, hM⟩ := bind_of hM
      by_cases c54 : v52 = (-1)
      · rw [if_pos c54] at hM
        exact fr_X3_setOff_b96 hs0 hs1 ik7 hM h0
      · rw [if_neg c54] at hM
        obtain ⟨v62, e62, hM⟩ := bind_of hM
        obtain ⟨v72, e72, hM⟩ := bind_of hM
        obtain ⟨u76, e76, hM⟩ := bind_of hM
        have h0 := off_sI hs1 e76 h0
        obtain ⟨v84, e84, hM⟩ := bind_of hM
        obtain ⟨u88, e88, hM⟩ := bind_of hM
        have h0 := off_sI hs0 e88 h0
        exact fr_X3_setOff_b96 hs0 hs1 ik7 hM h0
theorem fr_X3_setOff_l7 {S : Nat → Prop} {u0 : gM}   : ∀ (n : Nat) {x1 : Nat} {x2 : Nat} {x3 : Int32} {x5 : Int32} {x6 : Int32} (hs0 : S (rf skC x1 2)) (hs1 : S x2) {u : gM} {w : (Int32 × gM)} (h0 : off S u0 u) (hM : X3_setOff_l7  n x1 x2 x3 x5 x6 u = some w), off S u0 w.2 := by
  intro n
  induction n with
  | zero => intro x1 x2 x3 x5 x6 hs0 hs1 u w h0 hM; exact nomatch (show (none : Option (Int32 × gM)) = some w from hM)
  | succ n ihn => intro x1 x2 x3 x5 x6 hs0 hs1 u w h0 hM; exact fr_X3_setOff_b7 hs0 hs1  (fun x1 x2 x3 x5 x6 _ _ hs0 hs1 h0 h => ihn hs0 hs1 h0 h) hM h0
theorem fr_X3_setOff {S : Nat → Prop} {u0 u : gM} {x1 : Nat} {x2 : Nat} {x3 : Int32} {x4 : Int32} (hs0 : S (rf skC x1 2)) (hs1 : S x2)   {w : (Int32 × gM)} (hM : X3_setOff x1 x2 x3 x4 u = some w) (h0 : off S u0 u) : off S u0 w.2 := by
  unfold X3_setOff at hM
  exact fr_X3_setOff_l7  fz hs0 hs1 h0 hM
/-! CoverDesk$Failing.all(I)J -/
theorem dX5_all_0 : decode cX5_all 0 = .ok (.aload_n 0, 1) := by decide +kernel
theorem dX5_all_1 : decode cX5_all 1 = .ok (.iload_n 1, 1) := by decide +kernel
theorem dX5_all_2 : decode cX5_all 2 = .ok (.invokevirtual 51, 3) := by decide +kernel
theorem dX5_all_5 : decode cX5_all 5 = .ok (.astore_n 2, 1) := by decide +kernel
theorem dX5_all_6 : decode cX5_all 6 = .ok (.lconst 0, 1) := by decide +kernel
theorem dX5_all_7 : decode cX5_all 7 = .ok (.lstore_n 3, 1) := by decide +kernel
theorem dX5_all_8 : decode cX5_all 8 = .ok (.iconst 0, 1) := by decide +kernel
theorem dX5_all_9 : decode cX5_all 9 = .ok (.istore 5, 2) := by decide +kernel
theorem dX5_all_11 : decode cX5_all 11 = .ok (.iload 5, 2) := by decide +kernel
theorem dX5_all_13 : decode cX5_all 13 = .ok (.aload_n 2, 1) := by decide +kernel
theorem dX5_all_14 : decode cX5_all 14 = .ok (.arraylength, 1) := by decide +kernel
theorem dX5_all_15 : decode cX5_all 15 = .ok (.if_icmp .ge 25, 3) := by decide +kernel
theorem dX5_all_18 : decode cX5_all 18 = .ok (.aload_n 2, 1) := by decide +kernel
theorem dX5_all_19 : decode cX5_all 19 = .ok (.iload 5, 2) := by decide +kernel
theorem dX5_all_21 : decode cX5_all 21 = .ok (.iaload, 1) := by decide +kernel
theorem dX5_all_22 : decode cX5_all 22 = .ok (.iconst (-1), 1) := by decide +kernel
theorem dX5_all_23 : decode cX5_all 23 = .ok (.if_icmp .eq 11, 3) := by decide +kernel
theorem dX5_all_26 : decode cX5_all 26 = .ok (.lload_n 3, 1) := by decide +kernel
theorem dX5_all_27 : decode cX5_all 27 = .ok (.aload_n 2, 1) := by decide +kernel
theorem dX5_all_28 : decode cX5_all 28 = .ok (.iload 5, 2) := by decide +kernel
theorem dX5_all_30 : decode cX5_all 30 = .ok (.iaload, 1) := by decide +kernel
theorem dX5_all_31 : decode cX5_all 31 = .ok (.i2l, 1) := by decide +kernel
theorem dX5_all_32 : decode cX5_all 32 = .ok (.ladd, 1) := by decide +kernel
theorem dX5_all_33 : decode cX5_all 33 = .ok (.lstore_n 3, 1) := by decide +kernel
theorem dX5_all_34 : decode cX5_all 34 = .ok (.iinc 5 1, 3) := by decide +kernel
theorem dX5_all_37 : decode cX5_all 37 = .ok (.goto (-26), 3) := by decide +kernel
theorem dX5_all_40 : decode cX5_all 40 = .ok (.lload_n 3, 1) := by decide +kernel
theorem dX5_all_41 : decode cX5_all 41 = .ok (.lreturn, 1) := by decide +kernel
def X5_all_b34 (u : gM) (k11 : Nat → Int64 → Int32 → Option Int64) (x2 : Nat) (x3 : Int64) (x5 : Int32) : Option Int64 :=
(k11 x2 x3 (x5 + 1))
def X5_all_b11 (u : gM) (k11 : Nat → Int64 → Int32 → Option Int64) (x2 : Nat) (x3 : Int64) (x5 : Int32) : Option Int64 :=
((aL skC x2).bind fun v14 => (if v14 ≤ x5 then some x3
  else ((aI skC u x2 x5).bind fun v21 => (if v21 = (-1) then (X5_all_b34 u k11 x2 x3 x5)
    else ((aI skC u x2 x5).bind fun v30 => (X5_all_b34 u k11 x2 (x3 + v30.toInt64) x5))))))
def X5_all_l11 (u : gM)  : Nat → Nat → Int64 → Int32 → Option Int64
  | 0, _, _, _ => none
  | n + 1, x2, x3, x5 => X5_all_b11 u  (X5_all_l11 u  n) x2 x3 x5
def X5_all (u : gM)  (x0 : Nat) (x1 : Int32) : Option Int64 :=
(if isO skC x0 5 = true then ((X5_row u x0 x1).bind fun w2 => (X5_all_l11 u fz w2 0 0))
 else none)
set_option maxRecDepth 20000 in
theorem v_X5_all_b34 {κ : gK} {B : Nat} {u : gM} (X : gX κ B skC cX5_all 6 RX5 (some .long) 1 21) {k11 : Nat → Int64 → Int32 → Option Int64} (ih11 : ∀ (x2 : Nat) (x3 : Int64) (x5 : Int32) (w : Int64), k11 x2 x3 x5 = some w → gV κ B skC 6 ((some (.long w)), u) 11 [none, none, some (.ref (B + x2)), some (.long x3), none, some (.int x5)] [] u) {x2 : Nat} {x3 : Int64} {x5 : Int32} {w : Int64} (hM : X5_all_b34 u k11 x2 x3 x5 = some w) : gV κ B skC 6 ((some (.long w)), u) 34 [none, none, some (.ref (B + x2)), some (.long x3), none, some (.int x5)] [] u := by
  unfold X5_all_b34 at hM
  refine g_iinc (d := 1) X [none, none, some (.ref (B + x2)), some (.long x3), none, some (.int (x5 + 1))] dX5_all_34 (by decide) rfl (by decide) rfl ?_
  refine g_goto (tgt := 11) X dX5_all_37 (by decide) ?_
  refine g_mk [false, false, true, true, false, true] [none, none, some (.ref (B + x2)), some (.long x3), none, some (.int (x5 + 1))] rfl ?_
  exact ih11 x2 x3 (x5 + 1) _ hM
set_option maxRecDepth 20000 in
theorem v_X5_all_b11 {κ : gK} {B : Nat} {u : gM} (X : gX κ B skC cX5_all 6 RX5 (some .long) 1 21) {k11 : Nat → Int64 → Int32 → Option Int64} (ih11 : ∀ (x2 : Nat) (x3 : Int64) (x5 : Int32) (w : Int64), k11 x2 x3 x5 = some w → gV κ B skC 6 ((some (.long w)), u) 11 [none, none, some (.ref (B + x2)), some (.long x3), none, some (.int x5)] [] u) {x2 : Nat} {x3 : Int64} {x5 : Int32} {w : Int64} (hM : X5_all_b11 u k11 x2 x3 x5 = some w) : gV κ B skC 6 ((some (.long w)), u) 11 [none, none, some (.ref (B + x2)), some (.long x3), none, some (.int x5)] [] u := by
  unfold X5_all_b11 at hM
  refine g_iload X dX5_all_11 rfl ?_
  refine g_aload_n X dX5_all_13 rfl ?_
  obtain ⟨v14, e14, hM⟩ := bind_of hM
  refine g_alen X e14 dX5_all_14 skC_t ?_
  refine g_icmp_ge (tgt := 40) X dX5_all_15 (by decide) (fun c15 => ?_) (fun c15 => ?_)
  · rw [if_pos c15] at hM
    refine g_lload_n X dX5_all_40 rfl ?_
    cases hM
    exact g_lret X dX5_all_41
  · rw [if_neg c15] at hM
    refine g_aload_n X dX5_all_18 rfl ?_
    refine g_iload X dX5_all_19 rfl ?_
    obtain ⟨v21, e21, hM⟩ := bind_of hM
    refine g_iaload X e21 dX5_all_21 ?_
    refine g_iconst X (v := (-1)) dX5_all_22 (by decide) ?_
    refine g_icmp_eq (tgt := 34) X dX5_all_23 (by decide) (fun c23 => ?_) (fun c23 => ?_)
    · rw [if_pos c23] at hM
      refine g_mk [false, false, true, true, false, true] [none, none, some (.ref (B + x2)), some (.long x3), none, some (.int x5)] rfl ?_
      exact v_X5_all_b34 X ih11 hM
    · rw [if_neg c23] at hM
      refine g_lload_n X dX5_all_26 rfl ?_
      refine g_aload_n X dX5_all_27 rfl ?_
      refine g_iload X dX5_all_28 rfl ?_
      obtain ⟨v30, e30, hM⟩ := bind_of hM
      refine g_iaload X e30 dX5_all_30 ?_
      refine g_i2l X dX5_all_31 ?_
      refine g_ladd X dX5_all_32 ?_
      refine g_lstore_n X [none, none, some (.ref (B + x2)), some (.long (x3 + v30.toInt64)), none, some (.int x5)] dX5_all_33 (by decide) rfl ?_
      refine g_mk [false, false, true, true, false, true] [none, none, some (.ref (B + x2)), some (.long (x3 + v30.toInt64)), none, some (.int x5)] rfl ?_
      exact v_X5_all_b34 X ih11 hM
theorem v_X5_all_l11 {κ : gK} {B : Nat} {u : gM} (X : gX κ B skC cX5_all 6 RX5 (some .long) 1 21)   : ∀ (n : Nat) {x2 : Nat} {x3 : Int64} {x5 : Int32} {w : Int64} (hM : X5_all_l11 u  n x2 x3 x5 = some w), gV κ B skC 6 ((some (.long w)), u) 11 [none, none, some (.ref (B + x2)), some (.long x3), none, some (.int x5)] [] u := by
  intro n
  induction n with
  | zero => intro x2 x3 x5 w hM; exact nomatch (show (none : Option Int64) = some w from hM)
  | succ n ihn => intro x2 x3 x5 w hM; exact v_X5_all_b11 X  (fun x2 x3 x5 w h => ihn h) hM
set_option maxRecDepth 20000 in
theorem v_X5_all {κ : gK} {B : Nat} {u : gM} (X : gX κ B skC cX5_all 6 RX5 (some .long) 1 21)   {x0 : Nat} {x1 : Int32} {w : Int64} (hM : X5_all u x0 x1 = some w) : gV κ B skC 6 ((some (.long w)), u) 0 [some (.ref (B + x0)), some (.int x1), none, none, none, none] [] u := by
  unfold X5_all at hM
  refine g_aload_n X dX5_all_0 rfl ?_
  refine g_iload_n X dX5_all_1 rfl ?_
  obtain ⟨o0, hM⟩ := ite_of hM
  obtain ⟨w2, e2, hM⟩ := bind_of hM
  refine g_callVa X (fun B adK => [.int x1]) (s_X5_row e2) cvX5_51 (sh_X5 o0) rfl rfl (Nat.le_of_ble_eq_true rfl) ⟨by decide, by decide⟩ dX5_all_2 ?_
  refine g_astore_n X [some (.ref (B + x0)), some (.int x1), some (.ref (B + w2)), none, none, none] dX5_all_5 (by decide) rfl ?_
  refine g_lconst (v := 0) X dX5_all_6 (by decide) ?_
  refine g_lstore_n X [some (.ref (B + x0)), some (.int x1), some (.ref (B + w2)), some (.long 0), none, none] dX5_all_7 (by decide) rfl ?_
  refine g_iconst X (v := 0) dX5_all_8 (by decide) ?_
  refine g_istore X [some (.ref (B + x0)), some (.int x1), some (.ref (B + w2)), some (.long 0), none, some (.int 0)] dX5_all_9 (by decide) rfl ?_
  refine g_mk [false, false, true, true, false, true] [none, none, some (.ref (B + w2)), some (.long 0), none, some (.int 0)] rfl ?_
  exact v_X5_all_l11 X  fz hM
theorem s_X5_all {x0 : Nat} {x1 : Int32} {u : gM} {w : Int64} (hM : X5_all u x0 x1 = some w) : gMet skC yX5_all cX5_all 6 (some .long) 1 21 (fun B adK => [.ref (B + x0), .int x1]) u ((fun _ => some (.long w)), u) := by
  refine gMet.of (by decide) (fun _ _ => Nat.le_of_ble_eq_true rfl) (fun κ B X => ?_)
  have X : gX κ B skC cX5_all 6 RX5 (some .long) 1 21 := X
  refine g_mk [true, true, false, false, false, false] [some (.ref (B + x0)), some (.int x1), none, none, none, none] rfl ?_
  exact v_X5_all X  hM

/-! CoverDesk$Deeds.divide(LCoverDesk$Failing;I)V -/
theorem dX3_divide_0 : decode cX3_divide 0 = .ok (.aload_n 0, 1) := by decide +kernel
theorem dX3_divide_1 : decode cX3_divide 1 = .ok (.getfield 12, 3) := by decide +kernel
theorem dX3_divide_4 : decode cX3_divide 4 = .ok (.invokevirtual 179, 3) := by decide +kernel
theorem dX3_divide_7 : decode cX3_divide 7 = .ok (.iconst 0, 1) := by decide +kernel
theorem dX3_divide_8 : decode cX3_divide 8 = .ok (.istore_n 3, 1) := by decide +kernel
theorem dX3_divide_9 : decode cX3_divide 9 = .ok (.iload_n 3, 1) := by decide +kernel
theorem dX3_divide_10 : decode cX3_divide 10 = .ok (.bipush 96, 2) := by decide +kernel
theorem dX3_divide_12 : decode cX3_divide 12 = .ok (.if_icmp .ge 33, 3) := by decide +kernel
theorem dX3_divide_15 : decode cX3_divide 15 = .ok (.aload_n 1, 1) := by decide +kernel
theorem dX3_divide_16 : decode cX3_divide 16 = .ok (.getfield 136, 3) := by decide +kernel
theorem dX3_divide_19 : decode cX3_divide 19 = .ok (.iload_n 3, 1) := by decide +kernel
theorem dX3_divide_20 : decode cX3_divide 20 = .ok (.iaload, 1) := by decide +kernel
theorem dX3_divide_21 : decode cX3_divide 21 = .ok (.iconst (-1), 1) := by decide +kernel
theorem dX3_divide_22 : decode cX3_divide 22 = .ok (.if_icmp .eq 17, 3) := by decide +kernel
theorem dX3_divide_25 : decode cX3_divide 25 = .ok (.aload_n 0, 1) := by decide +kernel
theorem dX3_divide_26 : decode cX3_divide 26 = .ok (.getfield 12, 3) := by decide +kernel
theorem dX3_divide_29 : decode cX3_divide 29 = .ok (.aload_n 1, 1) := by decide +kernel
theorem dX3_divide_30 : decode cX3_divide 30 = .ok (.getfield 136, 3) := by decide +kernel
theorem dX3_divide_33 : decode cX3_divide 33 = .ok (.iload_n 3, 1) := by decide +kernel
theorem dX3_divide_34 : decode cX3_divide 34 = .ok (.iaload, 1) := by decide +kernel
theorem dX3_divide_35 : decode cX3_divide 35 = .ok (.i2l, 1) := by decide +kernel
theorem dX3_divide_36 : decode cX3_divide 36 = .ok (.invokevirtual 181, 3) := by decide +kernel
theorem dX3_divide_39 : decode cX3_divide 39 = .ok (.iinc 3 1, 3) := by decide +kernel
theorem dX3_divide_42 : decode cX3_divide 42 = .ok (.goto (-33), 3) := by decide +kernel
theorem dX3_divide_45 : decode cX3_divide 45 = .ok (.aload_n 0, 1) := by decide +kernel
theorem dX3_divide_46 : decode cX3_divide 46 = .ok (.getfield 12, 3) := by decide +kernel
theorem dX3_divide_49 : decode cX3_divide 49 = .ok (.aload_n 1, 1) := by decide +kernel
theorem dX3_divide_50 : decode cX3_divide 50 = .ok (.iconst 1, 1) := by decide +kernel
theorem dX3_divide_51 : decode cX3_divide 51 = .ok (.invokevirtual 185, 3) := by decide +kernel
theorem dX3_divide_54 : decode cX3_divide 54 = .ok (.invokevirtual 181, 3) := by decide +kernel
theorem dX3_divide_57 : decode cX3_divide 57 = .ok (.aload_n 0, 1) := by decide +kernel
theorem dX3_divide_58 : decode cX3_divide 58 = .ok (.getfield 12, 3) := by decide +kernel
theorem dX3_divide_61 : decode cX3_divide 61 = .ok (.iload_n 2, 1) := by decide +kernel
theorem dX3_divide_62 : decode cX3_divide 62 = .ok (.i2l, 1) := by decide +kernel
theorem dX3_divide_63 : decode cX3_divide 63 = .ok (.invokevirtual 189, 3) := by decide +kernel
theorem dX3_divide_66 : decode cX3_divide 66 = .ok (.iconst 0, 1) := by decide +kernel
theorem dX3_divide_67 : decode cX3_divide 67 = .ok (.istore_n 3, 1) := by decide +kernel
theorem dX3_divide_68 : decode cX3_divide 68 = .ok (.iconst 0, 1) := by decide +kernel
theorem dX3_divide_69 : decode cX3_divide 69 = .ok (.istore 4, 2) := by decide +kernel
theorem dX3_divide_71 : decode cX3_divide 71 = .ok (.iload 4, 2) := by decide +kernel
theorem dX3_divide_73 : decode cX3_divide 73 = .ok (.bipush 96, 2) := by decide +kernel
theorem dX3_divide_75 : decode cX3_divide 75 = .ok (.if_icmp .ge 57, 3) := by decide +kernel
theorem dX3_divide_78 : decode cX3_divide 78 = .ok (.aload_n 1, 1) := by decide +kernel
theorem dX3_divide_79 : decode cX3_divide 79 = .ok (.getfield 136, 3) := by decide +kernel
theorem dX3_divide_82 : decode cX3_divide 82 = .ok (.iload 4, 2) := by decide +kernel
theorem dX3_divide_84 : decode cX3_divide 84 = .ok (.iaload, 1) := by decide +kernel
theorem dX3_divide_85 : decode cX3_divide 85 = .ok (.iconst (-1), 1) := by decide +kernel
theorem dX3_divide_86 : decode cX3_divide 86 = .ok (.if_icmp .eq 40, 3) := by decide +kernel
theorem dX3_divide_89 : decode cX3_divide 89 = .ok (.aload_n 1, 1) := by decide +kernel
theorem dX3_divide_90 : decode cX3_divide 90 = .ok (.getfield 164, 3) := by decide +kernel
theorem dX3_divide_93 : decode cX3_divide 93 = .ok (.iload 4, 2) := by decide +kernel
theorem dX3_divide_95 : decode cX3_divide 95 = .ok (.aload_n 0, 1) := by decide +kernel
theorem dX3_divide_96 : decode cX3_divide 96 = .ok (.getfield 12, 3) := by decide +kernel
theorem dX3_divide_99 : decode cX3_divide 99 = .ok (.getfield 191, 3) := by decide +kernel
theorem dX3_divide_102 : decode cX3_divide 102 = .ok (.iload_n 3, 1) := by decide +kernel
theorem dX3_divide_103 : decode cX3_divide 103 = .ok (.laload, 1) := by decide +kernel
theorem dX3_divide_104 : decode cX3_divide 104 = .ok (.l2i, 1) := by decide +kernel
theorem dX3_divide_105 : decode cX3_divide 105 = .ok (.iastore, 1) := by decide +kernel
theorem dX3_divide_106 : decode cX3_divide 106 = .ok (.aload_n 1, 1) := by decide +kernel
theorem dX3_divide_107 : decode cX3_divide 107 = .ok (.getfield 136, 3) := by decide +kernel
theorem dX3_divide_110 : decode cX3_divide 110 = .ok (.iload 4, 2) := by decide +kernel
theorem dX3_divide_112 : decode cX3_divide 112 = .ok (.dup2, 1) := by decide +kernel
theorem dX3_divide_113 : decode cX3_divide 113 = .ok (.iaload, 1) := by decide +kernel
theorem dX3_divide_114 : decode cX3_divide 114 = .ok (.aload_n 1, 1) := by decide +kernel
theorem dX3_divide_115 : decode cX3_divide 115 = .ok (.getfield 164, 3) := by decide +kernel
theorem dX3_divide_118 : decode cX3_divide 118 = .ok (.iload 4, 2) := by decide +kernel
theorem dX3_divide_120 : decode cX3_divide 120 = .ok (.iaload, 1) := by decide +kernel
theorem dX3_divide_121 : decode cX3_divide 121 = .ok (.isub, 1) := by decide +kernel
theorem dX3_divide_122 : decode cX3_divide 122 = .ok (.iastore, 1) := by decide +kernel
theorem dX3_divide_123 : decode cX3_divide 123 = .ok (.iinc 3 1, 3) := by decide +kernel
theorem dX3_divide_126 : decode cX3_divide 126 = .ok (.iinc 4 1, 3) := by decide +kernel
theorem dX3_divide_129 : decode cX3_divide 129 = .ok (.goto (-58), 3) := by decide +kernel
theorem dX3_divide_132 : decode cX3_divide 132 = .ok (.aload_n 1, 1) := by decide +kernel
theorem dX3_divide_133 : decode cX3_divide 133 = .ok (.aload_n 0, 1) := by decide +kernel
theorem dX3_divide_134 : decode cX3_divide 134 = .ok (.getfield 12, 3) := by decide +kernel
theorem dX3_divide_137 : decode cX3_divide 137 = .ok (.getfield 191, 3) := by decide +kernel
theorem dX3_divide_140 : decode cX3_divide 140 = .ok (.iload_n 3, 1) := by decide +kernel
theorem dX3_divide_141 : decode cX3_divide 141 = .ok (.laload, 1) := by decide +kernel
theorem dX3_divide_142 : decode cX3_divide 142 = .ok (.putfield 195, 3) := by decide +kernel
theorem dX3_divide_145 : decode cX3_divide 145 = .ok (.return_, 1) := by decide +kernel
def X3_divide_b126 (k71 : Nat → Int32 → Int32 → gM → Option gM) (x1 : Nat) (x3 : Int32) (x4 : Int32) (u : gM) : Option gM :=
(k71 x1 x3 (x4 + 1) u)
def X3_divide_b71 (k71 : Nat → Int32 → Int32 → gM → Option gM) (x1 : Nat) (x3 : Int32) (x4 : Int32) (u : gM) : Option gM :=
(if 96 ≤ x4 then ((aJ skC u 148 x3).bind fun v141 => (if isO skC x1 5 = true then some (upJ u x1 1 v141)
 else none))
  else (if isO skC x1 5 = true then ((aI skC u (rf skC x1 5) x4).bind fun v84 => (if v84 = (-1) then (X3_divide_b126 k71 x1 x3 x4 u)
    else ((aJ skC u 148 x3).bind fun v103 => ((sI skC u (rf skC x1 4) x4 v103.toInt32).bind fun u105 => ((aI skC u105 (rf skC x1 5) x4).bind fun v113 => ((aI skC u105 (rf skC x1 4) x4).bind fun v120 => ((sI skC u105 (rf skC x1 5) x4 (v113 - v120)).bind fun u122 => (X3_divide_b126 k71 x1 (x3 + 1) x4 u122))))))))
 else none))
def X3_divide_l71  : Nat → Nat → Int32 → Int32 → gM → Option gM
  | 0, _, _, _, _ => none
  | n + 1, x1, x3, x4, u => X3_divide_b71  (X3_divide_l71  n) x1 x3 x4 u
def X3_divide_b39 (k9 : Nat → Int32 → Int32 → gM → Option gM) (x1 : Nat) (x2 : Int32) (x3 : Int32) (u : gM) : Option gM :=
(k9 x1 x2 (x3 + 1) u)
def X3_divide_b9 (k9 : Nat → Int32 → Int32 → gM → Option gM) (x1 : Nat) (x2 : Int32) (x3 : Int32) (u : gM) : Option gM :=
(if 96 ≤ x3 then (if isO skC x1 5 = true then ((X5_all u x1 1).bind fun w51 => ((X4_add 146 w51 u).bind fun w54 => ((X4_divide 146 x2.toInt64 w54).bind fun w63 => (X3_divide_l71 fz x1 0 0 w63))))
 else none)
  else (if isO skC x1 5 = true then ((aI skC u (rf skC x1 5) x3).bind fun v20 => (if v20 = (-1) then (X3_divide_b39 k9 x1 x2 x3 u)
    else ((aI skC u (rf skC x1 5) x3).bind fun v34 => ((X4_add 146 v34.toInt64 u).bind fun w36 => (X3_divide_b39 k9 x1 x2 x3 w36)))))
 else none))
def X3_divide_l9  : Nat → Nat → Int32 → Int32 → gM → Option gM
  | 0, _, _, _, _ => none
  | n + 1, x1, x2, x3, u => X3_divide_b9  (X3_divide_l9  n) x1 x2 x3 u
def X3_divide  (x1 : Nat) (x2 : Int32) (u : gM) : Option gM :=
((X4_clear 146 u).bind fun w4 => (X3_divide_l9 fz x1 x2 0 w4))
set_option maxRecDepth 20000 in
theorem v_X3_divide_b126 {κ : gK} {B : Nat} {u : gM} (X : gX κ B skC cX3_divide 5 RX3 none 2 53) {k71 : Nat → Int32 → Int32 → gM → Option gM} (ih71 : ∀ (x1 : Nat) (x3 : Int32) (x4 : Int32) (u : gM) (w : gM), k71 x1 x3 x4 u = some w → gV κ B skC 5 ((none), w) 71 [some (.ref (B + 145)), some (.ref (B + x1)), none, some (.int x3), some (.int x4)] [] u) {x1 : Nat} {x3 : Int32} {x4 : Int32} {w : gM} (hM : X3_divide_b126 k71 x1 x3 x4 u = some w) : gV κ B skC 5 ((none), w) 126 [some (.ref (B + 145)), some (.ref (B + x1)), none, some (.int x3), some (.int x4)] [] u := by
  unfold X3_divide_b126 at hM
  refine g_iinc (d := 1) X [some (.ref (B + 145)), some (.ref (B + x1)), none, some (.int x3), some (.int (x4 + 1))] dX3_divide_126 (by decide) rfl (by decide) rfl ?_
  refine g_goto (tgt := 71) X dX3_divide_129 (by decide) ?_
  refine g_mk [true, true, false, true, true] [some (.ref (B + 145)), some (.ref (B + x1)), none, some (.int x3), some (.int (x4 + 1))] rfl ?_
  exact ih71 x1 x3 (x4 + 1) u _ hM
set_option maxRecDepth 20000 in
theorem v_X3_divide_b71 {κ : gK} {B : Nat} {u : gM} (X : gX κ B skC cX3_divide 5 RX3 none 2 53) {k71 : Nat → Int32 → Int32 → gM → Option gM} (ih71 : ∀ (x1 : Nat) (x3 : Int32) (x4 : Int32) (u : gM) (w : gM), k71 x1 x3 x4 u = some w → gV κ B skC 5 ((none), w) 71 [some (.ref (B + 145)), some (.ref (B + x1)), none, some (.int x3), some (.int x4)] [] u) {x1 : Nat} {x3 : Int32} {x4 : Int32} {w : gM} (hM : X3_divide_b71 k71 x1 x3 x4 u = some w) : gV κ B skC 5 ((none), w) 71 [some (.ref (B + 145)), some (.ref (B + x1)), none, some (.int x3), some (.int x4)] [] u := by
  unfold X3_divide_b71 at hM
  refine g_iload X dX3_divide_71 rfl ?_
  refine g_bipush X (v := 96) dX3_divide_73 (by decide) ?_
  refine g_icmp_ge (tgt := 132) X dX3_divide_75 (by decide) (fun c75 => ?_) (fun c75 => ?_)
  · rw [if_pos c75] at hM
    refine g_aload_n X dX3_divide_132 rfl ?_
    refine g_aload_n X dX3_divide_133 rfl ?_
    refine g_getR X fX3_12 cC_145 rfl dX3_divide_134 ?_
    refine g_getR X fX3_191 cC_146 rfl dX3_divide_137 ?_
    refine g_iload_n X dX3_divide_140 rfl ?_
    obtain ⟨v141, e141, hM⟩ := bind_of hM
    refine g_laload X e141 dX3_divide_141 ?_
    obtain ⟨o0, hM⟩ := ite_of hM
    refine g_putJ X fX3_195 gc_X5 gp_X5_1 (sh_X5 o0) rfl dX3_divide_142 ?_
    cases hM
    exact g_vret X dX3_divide_145
  · rw [if_neg c75] at hM
    refine g_aload_n X dX3_divide_78 rfl ?_
    obtain ⟨o0, hM⟩ := ite_of hM
    refine g_getR X fX3_136 (sh_X5 o0) rfl dX3_divide_79 ?_
    refine g_iload X dX3_divide_82 rfl ?_
    obtain ⟨v84, e84, hM⟩ := bind_of hM
    refine g_iaload X e84 dX3_divide_84 ?_
    refine g_iconst X (v := (-1)) dX3_divide_85 (by decide) ?_
    refine g_icmp_eq (tgt := 126) X dX3_divide_86 (by decide) (fun c86 => ?_) (fun c86 => ?_)
    · rw [if_pos c86] at hM
      refine g_mk [true, true, false, true, true] [some (.ref (B + 145)), some (.ref (B + x1)), none, some (.int x3), some (.int x4)] rfl ?_
      exact v_X3_divide_b126 X ih71 hM
    · rw [if_neg c86] at hM
      refine g_aload_n X dX3_divide_89 rfl ?_
      refine g_getR X fX3_164 (sh_X5 o0) rfl dX3_divide_90 ?_
      refine g_iload X dX3_divide_93 rfl ?_
      refine g_aload_n X dX3_divide_95 rfl ?_
      refine g_getR X fX3_12 cC_145 rfl dX3_divide_96 ?_
      refine g_getR X fX3_191 cC_146 rfl dX3_divide_99 ?_
      refine g_iload_n X dX3_divide_102 rfl ?_
      obtain ⟨v103, e103, hM⟩ := bind_of hM
      refine g_laload X e103 dX3_divide_103 ?_
      refine g_l2i X dX3_divide_104 ?_
      obtain ⟨u105, e105, hM⟩ := bind_of hM
      refine g_iastore X e105 dX3_divide_105 ?_
      refine g_aload_n X dX3_divide_106 rfl ?_
      refine g_getR X fX3_136 (sh_X5 o0) rfl dX3_divide_107 ?_
      refine g_iload X dX3_divide_110 rfl ?_
      refine g_dup2_11 X rfl rfl dX3_divide_112 ?_
      obtain ⟨v113, e113, hM⟩ := bind_of hM
      refine g_iaload X e113 dX3_divide_113 ?_
      refine g_aload_n X dX3_divide_114 rfl ?_
      refine g_getR X fX3_164 (sh_X5 o0) rfl dX3_divide_115 ?_
      refine g_iload X dX3_divide_118 rfl ?_
      obtain ⟨v120, e120, hM⟩ := bind_of hM
      refine g_iaload X e120 dX3_divide_120 ?_
      refine g_isub X dX3_divide_121 ?_
      obtain ⟨u122, e122, hM⟩ := bind_of hM
      refine g_iastore X e122 dX3_divide_122 ?_
      refine g_iinc (d := 1) X [some (.ref (B + 145)), some (.ref (B + x1)), none, some (.int (x3 + 1)), some (.int x4)] dX3_divide_123 (by decide) rfl (by decide) rfl ?_
      refine g_mk [true, true, false, true, true] [some (.ref (B + 145)), some (.ref (B + x1)), none, some (.int (x3 + 1)), some (.int x4)] rfl ?_
      exact v_X3_divide_b126 X ih71 hM
theorem v_X3_divide_l71 {κ : gK} {B : Nat} (X : gX κ B skC cX3_divide 5 RX3 none 2 53)   : ∀ (n : Nat) {x1 : Nat} {x3 : Int32} {x4 : Int32} {u : gM} {w : gM} (hM : X3_divide_l71  n x1 x3 x4 u = some w), gV κ B skC 5 ((none), w) 71 [some (.ref (B + 145)), some (.ref (B + x1)), none, some (.int x3), some (.int x4)] [] u := by
  intro n
  induction n with
  | zero => intro x1 x3 x4 u w hM; exact nomatch (show (none : Option gM) = some w from hM)
  | succ n ihn => intro x1 x3 x4 u w hM; exact v_X3_divide_b71 X  (fun x1 x3 x4 u w h => ihn h) hM
set_option maxRecDepth 20000 in
theorem v_X3_divide_b39 {κ : gK} {B : Nat} {u : gM} (X : gX κ B skC cX3_divide 5 RX3 none 2 53) {k9 : Nat → Int32 → Int32 → gM → Option gM} (ih9 : ∀ (x1 : Nat) (x2 : Int32) (x3 : Int32) (u : gM) (w : gM), k9 x1 x2 x3 u = some w → gV κ B skC 5 ((none), w) 9 [some (.ref (B + 145)), some (.ref (B + x1)), some (.int x2), some (.int x3), none] [] u) {x1 : Nat} {x2 : Int32} {x3 : Int32} {w : gM} (hM : X3_divide_b39 k9 x1 x2 x3 u = some w) : gV κ B skC 5 ((none), w) 39 [some (.ref (B + 145)), some (.ref (B + x1)), some (.int x2), some (.int x3), none] [] u := by
  unfold X3_divide_b39 at hM
  refine g_iinc (d := 1) X [some (.ref (B + 145)), some (.ref (B + x1)), some (.int x2), some (.int (x3 + 1)), none] dX3_divide_39 (by decide) rfl (by decide) rfl ?_
  refine g_goto (tgt := 9) X dX3_divide_42 (by decide) ?_
  refine g_mk [true, true, true, true, false] [some (.ref (B + 145)), some (.ref (B + x1)), some (.int x2), some (.int (x3 + 1)), none] rfl ?_
  exact ih9 x1 x2 (x3 + 1) u _ hM
set_option maxRecDepth 20000 in
theorem v_X3_divide_b9 {κ : gK} {B : Nat} {u : gM} (X : gX κ B skC cX3_divide 5 RX3 none 2 53) {k9 : Nat → Int32 → Int32 → gM → Option gM} (ih9 : ∀ (x1 : Nat) (x2 : Int32) (x3 : Int32) (u : gM) (w : gM), k9 x1 x2 x3 u = some w → gV κ B skC 5 ((none), w) 9 [some (.ref (B + 145)), some (.ref (B + x1)), some (.int x2), some (.int x3), none] [] u) {x1 : Nat} {x2 : Int32} {x3 : Int32} {w : gM} (hM : X3_divide_b9 k9 x1 x2 x3 u = some w) : gV κ B skC 5 ((none), w) 9 [some (.ref (B + 145)), some (.ref (B + x1)), some (.int x2), some (.int x3), none] [] u := by
  unfold X3_divide_b9 at hM
  refine g_iload_n X dX3_divide_9 rfl ?_
  refine g_bipush X (v := 96) dX3_divide_10 (by decide) ?_
  refine g_icmp_ge (tgt := 45) X dX3_divide_12 (by decide) (fun c12 => ?_) (fun c12 => ?_)
  · rw [if_pos c12] at hM
    refine g_aload_n X dX3_divide_45 rfl ?_
    refine g_getR X fX3_12 cC_145 rfl dX3_divide_46 ?_
    refine g_aload_n X dX3_divide_49 rfl ?_
    refine g_iconst X (v := 1) dX3_divide_50 (by decide) ?_
    obtain ⟨o0, hM⟩ := ite_of hM
    obtain ⟨w51, e51, hM⟩ := bind_of hM
    refine g_callVl X (fun B adK => [.int 1]) (s_X5_all e51) cvX3_185 (sh_X5 o0) rfl rfl (Nat.le_of_ble_eq_true rfl) ⟨by decide, by decide⟩ dX3_divide_51 ?_
    obtain ⟨w54, e54, hM⟩ := bind_of hM
    refine g_callVv X (fun B adK => [.long w51]) (s_X4_add e54) cvX3_181 cC_146 rfl rfl (Nat.le_of_ble_eq_true rfl) ⟨by decide, by decide⟩ dX3_divide_54 ?_
    refine g_aload_n X dX3_divide_57 rfl ?_
    refine g_getR X fX3_12 cC_145 rfl dX3_divide_58 ?_
    refine g_iload_n X dX3_divide_61 rfl ?_
    refine g_i2l X dX3_divide_62 ?_
    obtain ⟨w63, e63, hM⟩ := bind_of hM
    refine g_callVv X (fun B adK => [.long x2.toInt64]) (s_X4_divide e63) cvX3_189 cC_146 rfl rfl (Nat.le_of_ble_eq_true rfl) ⟨by decide, by decide⟩ dX3_divide_63 ?_
    refine g_iconst X (v := 0) dX3_divide_66 (by decide) ?_
    refine g_istore_n X [some (.ref (B + 145)), some (.ref (B + x1)), some (.int x2), some (.int 0), none] dX3_divide_67 (by decide) rfl ?_
    refine g_iconst X (v := 0) dX3_divide_68 (by decide) ?_
    refine g_istore X [some (.ref (B + 145)), some (.ref (B + x1)), some (.int x2), some (.int 0), some (.int 0)] dX3_divide_69 (by decide) rfl ?_
    refine g_mk [true, true, false, true, true] [some (.ref (B + 145)), some (.ref (B + x1)), none, some (.int 0), some (.int 0)] rfl ?_
    exact v_X3_divide_l71 X  fz hM
  · rw [if_neg c12] at hM
    refine g_aload_n X dX3_divide_15 rfl ?_
    obtain ⟨o0, hM⟩ := ite_of hM
    refine g_getR X fX3_136 (sh_X5 o0) rfl dX3_divide_16 ?_
    refine g_iload_n X dX3_divide_19 rfl ?_
    obtain ⟨v20, e20, hM⟩ := bind_of hM
    refine g_iaload X e20 dX3_divide_20 ?_
    refine g_iconst X (v := (-1)) dX3_divide_21 (by decide) ?_
    refine g_icmp_eq (tgt := 39) X dX3_divide_22 (by decide) (fun c22 => ?_) (fun c22 => ?_)
    · rw [if_pos c22] at hM
      refine g_mk [true, true, true, true, false] [some (.ref (B + 145)), some (.ref (B + x1)), some (.int x2), some (.int x3), none] rfl ?_
      exact v_X3_divide_b39 X ih9 hM
    · rw [if_neg c22] at hM
      refine g_aload_n X dX3_divide_25 rfl ?_
      refine g_getR X fX3_12 cC_145 rfl dX3_divide_26 ?_
      refine g_aload_n X dX3_divide_29 rfl ?_
      refine g_getR X fX3_136 (sh_X5 o0) rfl dX3_divide_30 ?_
      refine g_iload_n X dX3_divide_33 rfl ?_
      obtain ⟨v34, e34, hM⟩ := bind_of hM
      refine g_iaload X e34 dX3_divide_34 ?_
      refine g_i2l X dX3_divide_35 ?_
      obtain ⟨w36, e36, hM⟩ := bind_of hM
      refine g_callVv X (fun B adK => [.long v34.toInt64]) (s_X4_add e36) cvX3_181 cC_146 rfl rfl (Nat.le_of_ble_eq_true rfl) ⟨by decide, by decide⟩ dX3_divide_36 ?_
      refine g_mk [true, true, true, true, false] [some (.ref (B + 145)), some (.ref (B + x1)), some (.int x2), some (.int x3), none] rfl ?_
      exact v_X3_divide_b39 X ih9 hM
theorem v_X3_divide_l9 {κ : gK} {B : Nat} (X : gX κ B skC cX3_divide 5 RX3 none 2 53)   : ∀ (n : Nat) {x1 : Nat} {x2 : Int32} {x3 : Int32} {u : gM} {w : gM} (hM : X3_divide_l9  n x1 x2 x3 u = some w), gV κ B skC 5 ((none), w) 9 [some (.ref (B + 145)), some (.ref (B + x1)), some (.int x2), some (.int x3), none] [] u := by
  intro n
  induction n with
  | zero => intro x1 x2 x3 u w hM; exact nomatch (show (none : Option gM) = some w from hM)
  | succ n ihn => intro x1 x2 x3 u w hM; exact v_X3_divide_b9 X  (fun x1 x2 x3 u w h => ihn h) hM
set_option maxRecDepth 20000 in
theorem v_X3_divide {κ : gK} {B : Nat} {u : gM} (X : gX κ B skC cX3_divide 5 RX3 none 2 53)   {x1 : Nat} {x2 : Int32} {w : gM} (hM : X3_divide x1 x2 u = some w) : gV κ B skC 5 ((none), w) 0 [some (.ref (B + 145)), some (.ref (B + x1)), some (.int x2), none, none] [] u := by
  unfold X3_divide at hM
  refine g_aload_n X dX3_divide_0 rfl ?_
  refine g_getR X fX3_12 cC_145 rfl dX3_divide_1 ?_
  obtain ⟨w4, e4, hM⟩ := bind_of hM
  refine g_callVv X (fun B adK => []) (s_X4_clear e4) cvX3_179 cC_146 rfl rfl (Nat.le_of_ble_eq_true rfl) ⟨by decide, by decide⟩ dX3_divide_4 ?_
  refine g_iconst X (v := 0) dX3_divide_7 (by decide) ?_
  refine g_istore_n X [some (.ref (B + 145)), some (.ref (B + x1)), some (.int x2), some (.int 0), none] dX3_divide_8 (by decide) rfl ?_
  refine g_mk [true, true, true, true, false] [some (.ref (B + 145)), some (.ref (B + x1)), some (.int x2), some (.int 0), none] rfl ?_
  exact v_X3_divide_l9 X  fz hM
theorem s_X3_divide {x1 : Nat} {x2 : Int32} {u : gM} {w : gM} (hM : X3_divide x1 x2 u = some w) : gMet skC yX3_divide cX3_divide 5 none 2 53 (fun B adK => [.ref (B + 145), .ref (B + x1), .int x2]) u ((fun _ => none), w) := by
  refine gMet.of (by decide) (fun _ _ => Nat.le_of_ble_eq_true rfl) (fun κ B X => ?_)
  have X : gX κ B skC cX3_divide 5 RX3 none 2 53 := X
  refine g_mk [true, true, true, false, false] [some (.ref (B + 145)), some (.ref (B + x1)), some (.int x2), none, none] rfl ?_
  exact v_X3_divide X  hM
theorem fr_X3_divide_b126 {S : Nat → Prop} {u0 u : gM} {x1 : Nat} {x3 : Int32} {x4 : Int32} (hs0 : S (rf skC x1 4)) (hs1 : S (rf skC x1 5)) (hs2 : S x1) {k71 : Nat → Int32 → Int32 → gM → Option gM} (ik71 : ∀ (x1 : Nat) (x3 : Int32) (x4 : Int32) (u : gM) (w : gM), S (rf skC x1 4) → S (rf skC x1 5) → S x1 → off S u0 u → k71 x1 x3 x4 u = some w → off S u0 w) {w : gM} (hM : X3_divide_b126 k71 x1 x3 x4 u = some w) (h0 : off S u0 u) : off S u0 w := by
  unfold X3_divide_b126 at hM
  exact ik71 _ _ _ _ _ hs0 hs1 hs2 h0 hM
theorem fr_X3_divide_b71 {S : Nat → Prop} {u0 u : gM} {x1 : Nat} {x3 : Int32} {x4 : Int32} (hs0 : S (rf skC x1 4)) (hs1 : S (rf skC x1 5)) (hs2 : S x1) {k71 : Nat → Int32 → Int32 → gM → Option gM} (ik71 : ∀ (x1 : Nat) (x3 : Int32) (x4 : Int32) (u : gM) (w : gM), S (rf skC x1 4) → S (rf skC x1 5) → S x1 → off S u0 u → k71 x1 x3 x4 u = some w → off S u0 w) {w : gM} (hM : X3_divide_b71 k71 x1 x3 x4 u = some w) (h0 : off S u0 u) : off S u0 w := by
  unfold X3_divide_b71 at hM
  by_cases c75 : 96 ≤ x4
  · rw [if_pos c75] at hM
    obtain ⟨v141, e141, hM⟩ := bind_of hM
    obtain ⟨o0, hM⟩ := ite_of hM
    have h0 := off_upJ (u := u) (k := x1) (j := 1) (x := v141) hs2 h0
    cases hM
    exact h0
  · rw [if_neg c75] at hM
    obtain ⟨o0, hM⟩ := ite_of hM
    obtain ⟨v84, e84, hM⟩ := bind_of hM
    by_cases c86 : v84 = (-1)
    · rw [if_pos c86] at hM
      exact fr_X3_divide_b126 hs0 hs1 hs2 ik71 hM h0
    · rw [if_neg c86] at hM
      obtain ⟨v103, e103, hM⟩ := bind_of hM
      obtain ⟨u105, e105, hM⟩ := bind_of hM
      have h0 := off_sI hs0 e105 h0
      obtain ⟨v113, e113, hM⟩ := bind_of hM
      obtain ⟨v120, e120, hM⟩ := bind_of hM
      obtain ⟨u122, e122, hM⟩ := bind_of hM
      have h0 := off_sI hs1 e122 h0
      exact fr_X3_divide_b126 hs0 hs1 hs2 ik71 hM h0
theorem fr_X3_divide_l71 {S : Nat → Prop} {u0 : gM}   : ∀ (n : Nat) {x1 : Nat} {x3 : Int32} {x4 : Int32} (hs0 : S (rf skC x1 4)) (hs1 : S (rf skC x1 5)) (hs2 : S x1) {u : gM} {w : gM} (h0 : off S u0 u) (hM : X3_divide_l71  n x1 x3 x4 u = some w), off S u0 w := by
  intro n
  induction n with
  | zero => intro x1 x3 x4 hs0 hs1 hs2 u w h0 hM; exact nomatch (show (none : Option gM) = some w from hM)
  | succ n ihn => intro x1 x3 x4 hs0 hs1 hs2 u w h0 hM; exact fr_X3_divide_b71 hs0 hs1 hs2  (fun x1 x3 x4 _ _ hs0 hs1 hs2 h0 h => ihn hs0 hs1 hs2 h0 h) hM h0
theorem fr_X3_divide_b39 {S : Nat → Prop} {u0 u : gM} {x1 : Nat} {x2 : Int32} {x3 : Int32} (hs0 : S (rf skC 146 2)) (hs1 : S (rf skC 146 3)) (hs2 : S (rf skC 146 4)) (hs3 : S (rf skC x1 4)) (hs4 : S (rf skC x1 5)) (hs5 : S 146) (hs6 : S x1) {k9 : Nat → Int32 → Int32 → gM → Option gM} (ik9 : ∀ (x1 : Nat) (x2 : Int32) (x3 : Int32) (u : gM) (w : gM), S (rf skC 146 2) → S (rf skC 146 3) → S (rf skC 146 4) → S (rf skC x1 4) → S (rf skC x1 5) → S 146 → S x1 → off S u0 u → k9 x1 x2 x3 u = some w → off S u0 w) {w : gM} (hM : X3_divide_b39 k9 x1 x2 x3 u = some w) (h0 : off S u0 u) : off S u0 w := by
  unfold X3_divide_b39 at hM
  exact ik9 _ _ _ _ _ hs0 hs1 hs2 hs3 hs4 hs5 hs6 h0 hM
theorem fr_X3_divide_b9 {S : Nat → Prop} {u0 u : gM} {x1 : Nat} {x2 : Int32} {x3 : Int32} (hs0 : S (rf skC 146 2)) (hs1 : S (rf skC 146 3)) (hs2 : S (rf skC 146 4)) (hs3 : S (rf skC x1 4)) (hs4 : S (rf skC x1 5)) (hs5 : S 146) (hs6 : S x1) {k9 : Nat → Int32 → Int32 → gM → Option gM} (ik9 : ∀ (x1 : Nat) (x2 : Int32) (x3 : Int32) (u : gM) (w : gM), S (rf skC 146 2) → S (rf skC 146 3) → S (rf skC 146 4) → S (rf skC x1 4) → S (rf skC x1 5) → S 146 → S x1 → off S u0 u → k9 x1 x2 x3 u = some w → off S u0 w) {w : gM} (hM : X3_divide_b9 k9 x1 x2 x3 u = some w) (h0 : off S u0 u) : off S u0 w := by
  unfold X3_divide_b9 at hM
  by_cases c12 : 96 ≤ x3
  · rw [if_pos c12] at hM
    obtain ⟨o0, hM⟩ := ite_of hM
    obtain ⟨w51, e51, hM⟩ := bind_of hM
    obtain ⟨w54, e54, hM⟩ := bind_of hM
    have h0 := fr_X4_add hs0 hs5 e54 h0
    obtain ⟨w63, e63, hM⟩ := bind_of hM
    have h0 := fr_X4_divide hs1 hs2 e63 h0
    exact fr_X3_divide_l71  fz hs3 hs4 hs6 h0 hM
  · rw [if_neg c12] at hM
    obtain ⟨o0, hM⟩ := ite_of hM
    obtain ⟨v20, e20, hM⟩ := bind_of hM
    by_cases c22 : v20 = (-1)
    · rw [if_pos c22] at hM
      exact fr_X3_divide_b39 hs0 hs1 hs2 hs3 hs4 hs5 hs6 ik9 hM h0
    · rw [if_neg c22] at hM
      obtain ⟨v34, e34, hM⟩ := bind_of hM
      obtain ⟨w36, e36, hM⟩ := bind_of hM
      have h0 := fr_X4_add hs0 hs5 e36 h0
      exact fr_X3_divide_b39 hs0 hs1 hs2 hs3 hs4 hs5 hs6 ik9 hM h0
theorem fr_X3_divide_l9 {S : Nat → Prop} {u0 : gM}   : ∀ (n : Nat) {x1 : Nat} {x2 : Int32} {x3 : Int32} (hs0 : S (rf skC 146 2)) (hs1 : S (rf skC 146 3)) (hs2 : S (rf skC 146 4)) (hs3 : S (rf skC x1 4)) (hs4 : S (rf skC x1 5)) (hs5 : S 146) (hs6 : S x1) {u : gM} {w : gM} (h0 : off S u0 u) (hM : X3_divide_l9  n x1 x2 x3 u = some w), off S u0 w := by
  intro n
  induction n with
  | zero => intro x1 x2 x3 hs0 hs1 hs2 hs3 hs4 hs5 hs6 u w h0 hM; exact nomatch (show (none : Option gM) = some w from hM)
  | succ n ihn => intro x1 x2 x3 hs0 hs1 hs2 hs3 hs4 hs5 hs6 u w h0 hM; exact fr_X3_divide_b9 hs0 hs1 hs2 hs3 hs4 hs5 hs6  (fun x1 x2 x3 _ _ hs0 hs1 hs2 hs3 hs4 hs5 hs6 h0 h => ihn hs0 hs1 hs2 hs3 hs4 hs5 hs6 h0 h) hM h0
theorem fr_X3_divide {S : Nat → Prop} {u0 u : gM} {x1 : Nat} {x2 : Int32} (hs0 : S (rf skC 146 2)) (hs1 : S (rf skC 146 3)) (hs2 : S (rf skC 146 4)) (hs3 : S (rf skC x1 4)) (hs4 : S (rf skC x1 5)) (hs5 : S 146) (hs6 : S x1)   {w : gM} (hM : X3_divide x1 x2 u = some w) (h0 : off S u0 u) : off S u0 w := by
  unfold X3_divide at hM
  obtain ⟨w4, e4, hM⟩ := bind_of hM
  have h0 := fr_X4_clear hs5 e4 h0
  exact fr_X3_divide_l9  fz hs0 hs1 hs2 hs3 hs4 hs5 hs6 h0 hM
/-! CoverDesk$Deeds.windUp(LCoverDesk$Failing;II)V -/
theorem dX3_windUp_0 : decode cX3_windUp 0 = .ok (.aload_n 1, 1) := by decide +kernel
theorem dX3_windUp_1 : decode cX3_windUp 1 = .ok (.iload_n 2, 1) := by decide +kernel
theorem dX3_windUp_2 : decode cX3_windUp 2 = .ok (.invokevirtual 123, 3) := by decide +kernel
theorem dX3_windUp_5 : decode cX3_windUp 5 = .ok (.aload_n 0, 1) := by decide +kernel
theorem dX3_windUp_6 : decode cX3_windUp 6 = .ok (.aload_n 1, 1) := by decide +kernel
theorem dX3_windUp_7 : decode cX3_windUp 7 = .ok (.invokevirtual 126, 3) := by decide +kernel
theorem dX3_windUp_10 : decode cX3_windUp 10 = .ok (.iconst 0, 1) := by decide +kernel
theorem dX3_windUp_11 : decode cX3_windUp 11 = .ok (.istore 4, 2) := by decide +kernel
theorem dX3_windUp_13 : decode cX3_windUp 13 = .ok (.iload 4, 2) := by decide +kernel
theorem dX3_windUp_15 : decode cX3_windUp 15 = .ok (.aload_n 0, 1) := by decide +kernel
theorem dX3_windUp_16 : decode cX3_windUp 16 = .ok (.getfield 18, 3) := by decide +kernel
theorem dX3_windUp_19 : decode cX3_windUp 19 = .ok (.getfield 130, 3) := by decide +kernel
theorem dX3_windUp_22 : decode cX3_windUp 22 = .ok (.if_icmp .ge 97, 3) := by decide +kernel
theorem dX3_windUp_25 : decode cX3_windUp 25 = .ok (.aload_n 0, 1) := by decide +kernel
theorem dX3_windUp_26 : decode cX3_windUp 26 = .ok (.getfield 22, 3) := by decide +kernel
theorem dX3_windUp_29 : decode cX3_windUp 29 = .ok (.getfield 91, 3) := by decide +kernel
theorem dX3_windUp_32 : decode cX3_windUp 32 = .ok (.iload 4, 2) := by decide +kernel
theorem dX3_windUp_34 : decode cX3_windUp 34 = .ok (.iaload, 1) := by decide +kernel
theorem dX3_windUp_35 : decode cX3_windUp 35 = .ok (.istore 5, 2) := by decide +kernel
theorem dX3_windUp_37 : decode cX3_windUp 37 = .ok (.aload_n 0, 1) := by decide +kernel
theorem dX3_windUp_38 : decode cX3_windUp 38 = .ok (.getfield 22, 3) := by decide +kernel
theorem dX3_windUp_41 : decode cX3_windUp 41 = .ok (.aload_n 0, 1) := by decide +kernel
theorem dX3_windUp_42 : decode cX3_windUp 42 = .ok (.getfield 18, 3) := by decide +kernel
theorem dX3_windUp_45 : decode cX3_windUp 45 = .ok (.getfield 133, 3) := by decide +kernel
theorem dX3_windUp_48 : decode cX3_windUp 48 = .ok (.iload 4, 2) := by decide +kernel
theorem dX3_windUp_50 : decode cX3_windUp 50 = .ok (.iaload, 1) := by decide +kernel
theorem dX3_windUp_51 : decode cX3_windUp 51 = .ok (.invokevirtual 68, 3) := by decide +kernel
theorem dX3_windUp_54 : decode cX3_windUp 54 = .ok (.iload_n 2, 1) := by decide +kernel
theorem dX3_windUp_55 : decode cX3_windUp 55 = .ok (.if_icmp .ne 49, 3) := by decide +kernel
theorem dX3_windUp_58 : decode cX3_windUp 58 = .ok (.aload_n 0, 1) := by decide +kernel
theorem dX3_windUp_59 : decode cX3_windUp 59 = .ok (.aload_n 1, 1) := by decide +kernel
theorem dX3_windUp_60 : decode cX3_windUp 60 = .ok (.aload_n 1, 1) := by decide +kernel
theorem dX3_windUp_61 : decode cX3_windUp 61 = .ok (.getfield 136, 3) := by decide +kernel
theorem dX3_windUp_64 : decode cX3_windUp 64 = .ok (.aload_n 0, 1) := by decide +kernel
theorem dX3_windUp_65 : decode cX3_windUp 65 = .ok (.getfield 18, 3) := by decide +kernel
theorem dX3_windUp_68 : decode cX3_windUp 68 = .ok (.getfield 139, 3) := by decide +kernel
theorem dX3_windUp_71 : decode cX3_windUp 71 = .ok (.iload 4, 2) := by decide +kernel
theorem dX3_windUp_73 : decode cX3_windUp 73 = .ok (.iaload, 1) := by decide +kernel
theorem dX3_windUp_74 : decode cX3_windUp 74 = .ok (.iload 5, 2) := by decide +kernel
theorem dX3_windUp_76 : decode cX3_windUp 76 = .ok (.invokevirtual 142, 3) := by decide +kernel
theorem dX3_windUp_79 : decode cX3_windUp 79 = .ok (.istore 5, 2) := by decide +kernel
theorem dX3_windUp_81 : decode cX3_windUp 81 = .ok (.aload_n 0, 1) := by decide +kernel
theorem dX3_windUp_82 : decode cX3_windUp 82 = .ok (.aload_n 1, 1) := by decide +kernel
theorem dX3_windUp_83 : decode cX3_windUp 83 = .ok (.aload_n 1, 1) := by decide +kernel
theorem dX3_windUp_84 : decode cX3_windUp 84 = .ok (.getfield 146, 3) := by decide +kernel
theorem dX3_windUp_87 : decode cX3_windUp 87 = .ok (.aload_n 0, 1) := by decide +kernel
theorem dX3_windUp_88 : decode cX3_windUp 88 = .ok (.getfield 18, 3) := by decide +kernel
theorem dX3_windUp_91 : decode cX3_windUp 91 = .ok (.getfield 139, 3) := by decide +kernel
theorem dX3_windUp_94 : decode cX3_windUp 94 = .ok (.iload 4, 2) := by decide +kernel
theorem dX3_windUp_96 : decode cX3_windUp 96 = .ok (.iaload, 1) := by decide +kernel
theorem dX3_windUp_97 : decode cX3_windUp 97 = .ok (.iload 5, 2) := by decide +kernel
theorem dX3_windUp_99 : decode cX3_windUp 99 = .ok (.invokevirtual 142, 3) := by decide +kernel
theorem dX3_windUp_102 : decode cX3_windUp 102 = .ok (.istore 5, 2) := by decide +kernel
theorem dX3_windUp_104 : decode cX3_windUp 104 = .ok (.aload_n 1, 1) := by decide +kernel
theorem dX3_windUp_105 : decode cX3_windUp 105 = .ok (.getfield 108, 3) := by decide +kernel
theorem dX3_windUp_108 : decode cX3_windUp 108 = .ok (.iload 4, 2) := by decide +kernel
theorem dX3_windUp_110 : decode cX3_windUp 110 = .ok (.iload 5, 2) := by decide +kernel
theorem dX3_windUp_112 : decode cX3_windUp 112 = .ok (.iastore, 1) := by decide +kernel
theorem dX3_windUp_113 : decode cX3_windUp 113 = .ok (.iinc 4 1, 3) := by decide +kernel
theorem dX3_windUp_116 : decode cX3_windUp 116 = .ok (.goto (-103), 3) := by decide +kernel
theorem dX3_windUp_119 : decode cX3_windUp 119 = .ok (.aload_n 0, 1) := by decide +kernel
theorem dX3_windUp_120 : decode cX3_windUp 120 = .ok (.aload_n 1, 1) := by decide +kernel
theorem dX3_windUp_121 : decode cX3_windUp 121 = .ok (.iload_n 3, 1) := by decide +kernel
theorem dX3_windUp_122 : decode cX3_windUp 122 = .ok (.invokevirtual 149, 3) := by decide +kernel
theorem dX3_windUp_125 : decode cX3_windUp 125 = .ok (.return_, 1) := by decide +kernel
def X3_windUp_b104 (k13 : Nat → Int32 → Int32 → Int32 → gM → Option gM) (x1 : Nat) (x2 : Int32) (x3 : Int32) (x4 : Int32) (x5 : Int32) (u : gM) : Option gM :=
(if isO skC x1 5 = true then ((sI skC u (rf skC x1 6) x4 x5).bind fun u112 => (k13 x1 x2 x3 (x4 + 1) u112))
 else none)
def X3_windUp_b13 (k13 : Nat → Int32 → Int32 → Int32 → gM → Option gM) (x1 : Nat) (x2 : Int32) (x3 : Int32) (x4 : Int32) (u : gM) : Option gM :=
(if (u.1 3 3) ≤ x4 then ((X3_divide x1 x3 u).bind fun w122 => some w122)
  else ((aI skC u 20 x4).bind fun v34 => ((aI skC u 16 x4).bind fun v50 => ((X8_nowAt u 18 v50).bind fun w51 => (if w51 = x2 then (if isO skC x1 5 = true then ((aI skC u 15 x4).bind fun v73 => ((X3_setOff x1 (rf skC x1 5) v73 v34 u).bind fun w76 => ((aI skC w76.2 15 x4).bind fun v96 => ((X3_setOff x1 (rf skC x1 3) v96 w76.1 w76.2).bind fun w99 => (X3_windUp_b104 k13 x1 x2 x3 x4 w99.1 w99.2)))))
 else none)
    else (X3_windUp_b104 k13 x1 x2 x3 x4 v34 u))))))
def X3_windUp_l13  : Nat → Nat → Int32 → Int32 → Int32 → gM → Option gM
  | 0, _, _, _, _, _ => none
  | n + 1, x1, x2, x3, x4, u => X3_windUp_b13  (X3_windUp_l13  n) x1 x2 x3 x4 u
def X3_windUp  (x1 : Nat) (x2 : Int32) (x3 : Int32) (u : gM) : Option gM :=
(if isO skC x1 5 = true then ((X5_clear x1 x2 u).bind fun w2 => ((X3_split x1 w2).bind fun w7 => (X3_windUp_l13 fz x1 x2 x3 0 w7)))
 else none)
set_option maxRecDepth 20000 in
theorem v_X3_windUp_b104 {κ : gK} {B : Nat} {u : gM} (X : gX κ B skC cX3_windUp 6 RX3 none 3 77) {k13 : Nat → Int32 → Int32 → Int32 → gM → Option gM} (ih13 : ∀ (x1 : Nat) (x2 : Int32) (x3 : Int32) (x4 : Int32) (u : gM) (w : gM), k13 x1 x2 x3 x4 u = some w → gV κ B skC 6 ((none), w) 13 [some (.ref (B + 145)), some (.ref (B + x1)), some (.int x2), some (.int x3), some (.int x4), none] [] u) {x1 : Nat} {x2 : Int32} {x3 : Int32} {x4 : Int32} {x5 : Int32} {w : gM} (hM : X3_windUp_b104 k13 x1 x2 x3 x4 x5 u = some w) : gV κ B skC 6 ((none), w) 104 [some (.ref (B + 145)), some (.ref (B + x1)), some (.int x2), some (.int x3), some (.int x4), some (.int x5)] [] u := by
  unfold X3_windUp_b104 at hM
  refine g_aload_n X dX3_windUp_104 rfl ?_
  obtain ⟨o0, hM⟩ := ite_of hM
  refine g_getR X fX3_108 (sh_X5 o0) rfl dX3_windUp_105 ?_
  refine g_iload X dX3_windUp_108 rfl ?_
  refine g_iload X dX3_windUp_110 rfl ?_
  obtain ⟨u112, e112, hM⟩ := bind_of hM
  refine g_iastore X e112 dX3_windUp_112 ?_
  refine g_iinc (d := 1) X [some (.ref (B + 145)), some (.ref (B + x1)), some (.int x2), some (.int x3), some (.int (x4 + 1)), some (.int x5)] dX3_windUp_113 (by decide) rfl (by decide) rfl ?_
  refine g_goto (tgt := 13) X dX3_windUp_116 (by decide) ?_
  refine g_mk [true, true, true, true, true, false] [some (.ref (B + 145)), some (.ref (B + x1)), some (.int x2), some (.int x3), some (.int (x4 + 1)), none] rfl ?_
  exact ih13 x1 x2 x3 (x4 + 1) u112 _ hM
set_option maxRecDepth 20000 in
theorem v_X3_windUp_b13 {κ : gK} {B : Nat} {u : gM} (X : gX κ B skC cX3_windUp 6 RX3 none 3 77) {k13 : Nat → Int32 → Int32 → Int32 → gM → Option gM} (ih13 : ∀ (x1 : Nat) (x2 : Int32) (x3 : Int32) (x4 : Int32) (u : gM) (w : gM), k13 x1 x2 x3 x4 u = some w → gV κ B skC 6 ((none), w) 13 [some (.ref (B + 145)), some (.ref (B + x1)), some (.int x2), some (.int x3), some (.int x4), none] [] u) {x1 : Nat} {x2 : Int32} {x3 : Int32} {x4 : Int32} {w : gM} (hM : X3_windUp_b13 k13 x1 x2 x3 x4 u = some w) : gV κ B skC 6 ((none), w) 13 [some (.ref (B + 145)), some (.ref (B + x1)), some (.int x2), some (.int x3), some (.int x4), none] [] u := by
  unfold X3_windUp_b13 at hM
  refine g_iload X dX3_windUp_13 rfl ?_
  refine g_aload_n X dX3_windUp_15 rfl ?_
  refine g_getR X fX3_18 cC_145 rfl dX3_windUp_16 ?_
  refine g_getI X fX3_130 cC_3 rfl dX3_windUp_19 ?_
  refine g_icmp_ge (tgt := 119) X dX3_windUp_22 (by decide) (fun c22 => ?_) (fun c22 => ?_)
  · rw [if_pos c22] at hM
    refine g_aload_n X dX3_windUp_119 rfl ?_
    refine g_aload_n X dX3_windUp_120 rfl ?_
    refine g_iload_n X dX3_windUp_121 rfl ?_
    obtain ⟨w122, e122, hM⟩ := bind_of hM
    refine g_callVv X (fun B adK => [.ref (B + x1), .int x3]) (s_X3_divide e122) cvX3_149 cC_145 rfl rfl (Nat.le_of_ble_eq_true rfl) ⟨by decide, by decide⟩ dX3_windUp_122 ?_
    cases hM
    exact g_vret X dX3_windUp_125
  · rw [if_neg c22] at hM
    refine g_aload_n X dX3_windUp_25 rfl ?_
    refine g_getR X fX3_22 cC_145 rfl dX3_windUp_26 ?_
    refine g_getR X fX3_91 cC_18 rfl dX3_windUp_29 ?_
    refine g_iload X dX3_windUp_32 rfl ?_
    obtain ⟨v34, e34, hM⟩ := bind_of hM
    refine g_iaload X e34 dX3_windUp_34 ?_
    refine g_istore X [some (.ref (B + 145)), some (.ref (B + x1)), some (.int x2), some (.int x3), some (.int x4), some (.int v34)] dX3_windUp_35 (by decide) rfl ?_
    refine g_aload_n X dX3_windUp_37 rfl ?_
    refine g_getR X fX3_22 cC_145 rfl dX3_windUp_38 ?_
    refine g_aload_n X dX3_windUp_41 rfl ?_
    refine g_getR X fX3_18 cC_145 rfl dX3_windUp_42 ?_
    refine g_getR X fX3_133 cC_3 rfl dX3_windUp_45 ?_
    refine g_iload X dX3_windUp_48 rfl ?_
    obtain ⟨v50, e50, hM⟩ := bind_of hM
    refine g_iaload X e50 dX3_windUp_50 ?_
    obtain ⟨w51, e51, hM⟩ := bind_of hM
    refine g_callVi X (fun B adK => [.int v50]) (s_X8_nowAt e51) cvX3_68 cC_18 rfl rfl (Nat.le_of_ble_eq_true rfl) ⟨by decide, by decide⟩ dX3_windUp_51 ?_
    refine g_iload_n X dX3_windUp_54 rfl ?_
    refine g_icmp_ne (tgt := 104) X dX3_windUp_55 (by decide) (fun c55 => ?_) (fun c55 => ?_)
    · rw [if_neg c55] at hM
      refine g_mk [true, true, true, true, true, true] [some (.ref (B + 145)), some (.ref (B + x1)), some (.int x2), some (.int x3), some (.int x4), some (.int v34)] rfl ?_
      exact v_X3_windUp_b104 X ih13 hM
    · rw [if_pos c55] at hM
      refine g_aload_n X dX3_windUp_58 rfl ?_
      refine g_aload_n X dX3_windUp_59 rfl ?_
      refine g_aload_n X dX3_windUp_60 rfl ?_
      obtain ⟨o0, hM⟩ := ite_of hM
      refine g_getR X fX3_136 (sh_X5 o0) rfl dX3_windUp_61 ?_
      refine g_aload_n X dX3_windUp_64 rfl ?_
      refine g_getR X fX3_18 cC_145 rfl dX3_windUp_65 ?_
      refine g_getR X fX3_139 cC_3 rfl dX3_windUp_68 ?_
      refine g_iload X dX3_windUp_71 rfl ?_
      obtain ⟨v73, e73, hM⟩ := bind_of hM
      refine g_iaload X e73 dX3_windUp_73 ?_
      refine g_iload X dX3_windUp_74 rfl ?_
      obtain ⟨w76, e76, hM⟩ := bind_of hM
      refine g_callVi X (fun B adK => [.ref (B + x1), .ref (B + (rf skC x1 5)), .int v73, .int v34]) (s_X3_setOff e76) cvX3_142 cC_145 rfl rfl (Nat.le_of_ble_eq_true rfl) ⟨by decide, by decide⟩ dX3_windUp_76 ?_
      refine g_istore X [some (.ref (B + 145)), some (.ref (B + x1)), some (.int x2), some (.int x3), some (.int x4), some (.int w76.1)] dX3_windUp_79 (by decide) rfl ?_
      refine g_aload_n X dX3_windUp_81 rfl ?_
      refine g_aload_n X dX3_windUp_82 rfl ?_
      refine g_aload_n X dX3_windUp_83 rfl ?_
      refine g_getR X fX3_146 (sh_X5 o0) rfl dX3_windUp_84 ?_
      refine g_aload_n X dX3_windUp_87 rfl ?_
      refine g_getR X fX3_18 cC_145 rfl dX3_windUp_88 ?_
      refine g_getR X fX3_139 cC_3 rfl dX3_windUp_91 ?_
      refine g_iload X dX3_windUp_94 rfl ?_
      obtain ⟨v96, e96, hM⟩ := bind_of hM
      refine g_iaload X e96 dX3_windUp_96 ?_
      refine g_iload X dX3_windUp_97 rfl ?_
      obtain ⟨w99, e99, hM⟩ := bind_of hM
      refine g_callVi X (fun B adK => [.ref (B + x1), .ref (B + (rf skC x1 3)), .int v96, .int w76.1]) (s_X3_setOff e99) cvX3_142 cC_145 rfl rfl (Nat.le_of_ble_eq_true rfl) ⟨by decide, by decide⟩ dX3_windUp_99 ?_
      refine g_istore X [some (.ref (B + 145)), some (.ref (B + x1)), some (.int x2), some (.int x3), some (.int x4), some (.int w99.1)] dX3_windUp_102 (by decide) rfl ?_
      refine g_mk [true, true, true, true, true, true] [some (.ref (B + 145)), some (.ref (B + x1)), some (.int x2), some (.int x3), some (.int x4), some (.int w99.1)] rfl ?_
      exact v_X3_windUp_b104 X ih13 hM
theorem v_X3_windUp_l13 {κ : gK} {B : Nat} (X : gX κ B skC cX3_windUp 6 RX3 none 3 77)   : ∀ (n : Nat) {x1 : Nat} {x2 : Int32} {x3 : Int32} {x4 : Int32} {u : gM} {w : gM} (hM : X3_windUp_l13  n x1 x2 x3 x4 u = some w), gV κ B skC 6 ((none), w) 13 [some (.ref (B + 145)), some (.ref (B + x1)), some (.int x2), some (.int x3), some (.int x4), none] [] u := by
  intro n
  induction n with
  | zero => intro x1 x2 x3 x4 u w hM; exact nomatch (show (none : Option gM) = some w from hM)
  | succ n ihn => intro x1 x2 x3 x4 u w hM; exact v_X3_windUp_b13 X  (fun x1 x2 x3 x4 u w h => ihn h) hM
set_option maxRecDepth 20000 in
theorem v_X3_windUp {κ : gK} {B : Nat} {u : gM} (X : gX κ B skC cX3_windUp 6 RX3 none 3 77)   {x1 : Nat} {x2 : Int32} {x3 : Int32} {w : gM} (hM : X3_windUp x1 x2 x3 u = some w) : gV κ B skC 6 ((none), w) 0 [some (.ref (B + 145)), some (.ref (B + x1)), some (.int x2), some (.int x3), none, none] [] u := by
  unfold X3_windUp at hM
  refine g_aload_n X dX3_windUp_0 rfl ?_
  refine g_iload_n X dX3_windUp_1 rfl ?_
  obtain ⟨o0, hM⟩ := ite_of hM
  obtain ⟨w2, e2, hM⟩ := bind_of hM
  refine g_callVv X (fun B adK => [.int x2]) (s_X5_clear e2) cvX3_123 (sh_X5 o0) rfl rfl (Nat.le_of_ble_eq_true rfl) ⟨by decide, by decide⟩ dX3_windUp_2 ?_
  refine g_aload_n X dX3_windUp_5 rfl ?_
  refine g_aload_n X dX3_windUp_6 rfl ?_
  obtain ⟨w7, e7, hM⟩ := bind_of hM
  refine g_callVv X (fun B adK => [.ref (B + x1)]) (s_X3_split e7) cvX3_126 cC_145 rfl rfl (Nat.le_of_ble_eq_true rfl) ⟨by decide, by decide⟩ dX3_windUp_7 ?_
  refine g_iconst X (v := 0) dX3_windUp_10 (by decide) ?_
  refine g_istore X [some (.ref (B + 145)), some (.ref (B + x1)), some (.int x2), some (.int x3), some (.int 0), none] dX3_windUp_11 (by decide) rfl ?_
  refine g_mk [true, true, true, true, true, false] [some (.ref (B + 145)), some (.ref (B + x1)), some (.int x2), some (.int x3), some (.int 0), none] rfl ?_
  exact v_X3_windUp_l13 X  fz hM
theorem s_X3_windUp {x1 : Nat} {x2 : Int32} {x3 : Int32} {u : gM} {w : gM} (hM : X3_windUp x1 x2 x3 u = some w) : gMet skC yX3_windUp cX3_windUp 6 none 3 77 (fun B adK => [.ref (B + 145), .ref (B + x1), .int x2, .int x3]) u ((fun _ => none), w) := by
  refine gMet.of (by decide) (fun _ _ => Nat.le_of_ble_eq_true rfl) (fun κ B X => ?_)
  have X : gX κ B skC cX3_windUp 6 RX3 none 3 77 := X
  refine g_mk [true, true, true, true, false, false] [some (.ref (B + 145)), some (.ref (B + x1)), some (.int x2), some (.int x3), none, none] rfl ?_
  exact v_X3_windUp X  hM
theorem fr_X3_windUp_b104 {S : Nat → Prop} {u0 u : gM} {x1 : Nat} {x2 : Int32} {x3 : Int32} {x4 : Int32} {x5 : Int32} (hs0 : S (rf skC 146 2)) (hs1 : S (rf skC 146 3)) (hs2 : S (rf skC 146 4)) (hs3 : S (rf skC x1 2)) (hs4 : S (rf skC x1 3)) (hs5 : S (rf skC x1 4)) (hs6 : S (rf skC x1 5)) (hs7 : S (rf skC x1 6)) (hs8 : S 146) (hs9 : S x1) {k13 : Nat → Int32 → Int32 → Int32 → gM → Option gM} (ik13 : ∀ (x1 : Nat) (x2 : Int32) (x3 : Int32) (x4 : Int32) (u : gM) (w : gM), S (rf skC 146 2) → S (rf skC 146 3) → S (rf skC 146 4) → S (rf skC x1 2) → S (rf skC x1 3) → S (rf skC x1 4) → S (rf skC x1 5) → S (rf skC x1 6) → S 146 → S x1 → off S u0 u → k13 x1 x2 x3 x4 u = some w → off S u0 w) {w : gM} (hM : X3_windUp_b104 k13 x1 x2 x3 x4 x5 u = some w) (h0 : off S u0 u) : off S u0 w := by
  unfold X3_windUp_b104 at hM
  obtain ⟨o0, hM⟩ := ite_of hM
  obtain ⟨u112, e112, hM⟩ := bind_of hM
  have h0 := off_sI hs7 e112 h0
  exact ik13 _ _ _ _ _ _ hs0 hs1 hs2 hs3 hs4 hs5 hs6 hs7 hs8 hs9 h0 hM
theorem fr_X3_windUp_b13 {S : Nat → Prop} {u0 u : gM} {x1 : Nat} {x2 : Int32} {x3 : Int32} {x4 : Int32} (hs0 : S (rf skC 146 2)) (hs1 : S (rf skC 146 3)) (hs2 : S (rf skC 146 4)) (hs3 : S (rf skC x1 2)) (hs4 : S (rf skC x1 3)) (hs5 : S (rf skC x1 4)) (hs6 : S (rf skC x1 5)) (hs7 : S (rf skC x1 6)) (hs8 : S 146) (hs9 : S x1) {k13 : Nat → Int32 → Int32 → Int32 → gM → Option gM} (ik13 : ∀ (x1 : Nat) (x2 : Int32) (x3 : Int32) (x4 : Int32) (u : gM) (w : gM), S (rf skC 146 2) → S (rf skC 146 3) → S (rf skC 146 4) → S (rf skC x1 2) → S (rf skC x1 3) → S (rf skC x1 4) → S (rf skC x1 5) → S (rf skC x1 6) → S 146 → S x1 → off S u0 u → k13 x1 x2 x3 x4 u = some w → off S u0 w) {w : gM} (hM : X3_windUp_b13 k13 x1 x2 x3 x4 u = some w) (h0 : off S u0 u) : off S u0 w := by
  unfold X3_windUp_b13 at hM
  by_cases c22 : (u.1 3 3) ≤ x4
  · rw [if_pos c22] at hM
    obtain ⟨w122, e122, hM⟩ := bind_of hM
    have h0 := fr_X3_divide hs0 hs1 hs2 hs5 hs6 hs8 hs9 e122 h0
    cases hM
    exact h0
  · rw [if_neg c22] at hM
    obtain ⟨v34, e34, hM⟩ := bind_of hM
    obtain ⟨v50, e50, hM⟩ := bind_of hM
    obtain ⟨w51, e51, hM⟩ := bind_of hM
    by_cases c55 : w51 = x2
    · rw [if_pos c55] at hM
      obtain ⟨o0, hM⟩ := ite_of hM
      obtain ⟨v73, e73, hM⟩ := bind_of hM
      obtain ⟨w76, e76, hM⟩ := bind_of hM
      have h0 := fr_X3_setOff hs3 hs6 e76 h0
      obtain ⟨v96, e96, hM⟩ := bind_of hM
      obtain ⟨w99, e99, hM⟩ := bind_of hM
      have h0 := fr_X3_setOff hs3 hs4 e99 h0
      exact fr_X3_windUp_b104 hs0 hs1 hs2 hs3 hs4 hs5 hs6 hs7 hs8 hs9 ik13 hM h0
    · rw [if_neg c55] at hM
      exact fr_X3_windUp_b104 hs0 hs1 hs2 hs3 hs4 hs5 hs6 hs7 hs8 hs9 ik13 hM h0
theorem fr_X3_windUp_l13 {S : Nat → Prop} {u0 : gM}   : ∀ (n : Nat) {x1 : Nat} {x2 : Int32} {x3 : Int32} {x4 : Int32} (hs0 : S (rf skC 146 2)) (hs1 : S (rf skC 146 3)) (hs2 : S (rf skC 146 4)) (hs3 : S (rf skC x1 2)) (hs4 : S (rf skC x1 3)) (hs5 : S (rf skC x1 4)) (hs6 : S (rf skC x1 5)) (hs7 : S (rf skC x1 6)) (hs8 : S 146) (hs9 : S x1) {u : gM} {w : gM} (h0 : off S u0 u) (hM : X3_windUp_l13  n x1 x2 x3 x4 u = some w), off S u0 w := by
  intro n
  induction n with
  | zero => intro x1 x2 x3 x4 hs0 hs1 hs2 hs3 hs4 hs5 hs6 hs7 hs8 hs9 u w h0 hM; exact nomatch (show (none : Option gM) = some w from hM)
  | succ n ihn => intro x1 x2 x3 x4 hs0 hs1 hs2 hs3 hs4 hs5 hs6 hs7 hs8 hs9 u w h0 hM; exact fr_X3_windUp_b13 hs0 hs1 hs2 hs3 hs4 hs5 hs6 hs7 hs8 hs9  (fun x1 x2 x3 x4 _ _ hs0 hs1 hs2 hs3 hs4 hs5 hs6 hs7 hs8 hs9 h0 h => ihn hs0 hs1 hs2 hs3 hs4 hs5 hs6 hs7 hs8 hs9 h0 h) hM h0
theorem fr_X3_windUp {S : Nat → Prop} {u0 u : gM} {x1 : Nat} {x2 : Int32} {x3 : Int32} (hs0 : S (rf skC 146 2)) (hs1 : S (rf skC 146 3)) (hs2 : S (rf skC 146 4)) (hs3 : S (rf skC x1 2)) (hs4 : S (rf skC x1 3)) (hs5 : S (rf skC x1 4)) (hs6 : S (rf skC x1 5)) (hs7 : S (rf skC x1 6)) (hs8 : S 146) (hs9 : S x1)   {w : gM} (hM : X3_windUp x1 x2 x3 u = some w) (h0 : off S u0 u) : off S u0 w := by
  unfold X3_windUp at hM
  obtain ⟨o0, hM⟩ := ite_of hM
  obtain ⟨w2, e2, hM⟩ := bind_of hM
  have h0 := fr_X5_clear hs3 hs4 hs5 hs6 hs9 e2 h0
  obtain ⟨w7, e7, hM⟩ := bind_of hM
  have h0 := fr_X3_split hs3 hs4 hs5 hs6 e7 h0
  exact fr_X3_windUp_l13  fz hs0 hs1 hs2 hs3 hs4 hs5 hs6 hs7 hs8 hs9 h0 hM
/-! CoverDesk$Deeds.failBank(II)Z -/
theorem dX3_failBank_0 : decode cX3_failBank 0 = .ok (.aload_n 0, 1) := by decide +kernel
theorem dX3_failBank_1 : decode cX3_failBank 1 = .ok (.getfield 18, 3) := by decide +kernel
theorem dX3_failBank_4 : decode cX3_failBank 4 = .ok (.iload_n 1, 1) := by decide +kernel
theorem dX3_failBank_5 : decode cX3_failBank 5 = .ok (.invokevirtual 75, 3) := by decide +kernel
theorem dX3_failBank_8 : decode cX3_failBank 8 = .ok (.ifCond .eq 24, 3) := by decide +kernel
theorem dX3_failBank_11 : decode cX3_failBank 11 = .ok (.aload_n 0, 1) := by decide +kernel
theorem dX3_failBank_12 : decode cX3_failBank 12 = .ok (.getfield 22, 3) := by decide +kernel
theorem dX3_failBank_15 : decode cX3_failBank 15 = .ok (.iload_n 1, 1) := by decide +kernel
theorem dX3_failBank_16 : decode cX3_failBank 16 = .ok (.invokevirtual 72, 3) := by decide +kernel
theorem dX3_failBank_19 : decode cX3_failBank 19 = .ok (.ifCond .eq 13, 3) := by decide +kernel
theorem dX3_failBank_22 : decode cX3_failBank 22 = .ok (.iload_n 2, 1) := by decide +kernel
theorem dX3_failBank_23 : decode cX3_failBank 23 = .ok (.ifCond .lt 9, 3) := by decide +kernel
theorem dX3_failBank_26 : decode cX3_failBank 26 = .ok (.iload_n 2, 1) := by decide +kernel
theorem dX3_failBank_27 : decode cX3_failBank 27 = .ok (.ldc 50, 2) := by decide +kernel
theorem dX3_failBank_29 : decode cX3_failBank 29 = .ok (.if_icmp .le 5, 3) := by decide +kernel
theorem dX3_failBank_32 : decode cX3_failBank 32 = .ok (.iconst 0, 1) := by decide +kernel
theorem dX3_failBank_33 : decode cX3_failBank 33 = .ok (.ireturn, 1) := by decide +kernel
theorem dX3_failBank_34 : decode cX3_failBank 34 = .ok (.aload_n 0, 1) := by decide +kernel
theorem dX3_failBank_35 : decode cX3_failBank 35 = .ok (.getfield 26, 3) := by decide +kernel
theorem dX3_failBank_38 : decode cX3_failBank 38 = .ok (.aload_n 0, 1) := by decide +kernel
theorem dX3_failBank_39 : decode cX3_failBank 39 = .ok (.getfield 22, 3) := by decide +kernel
theorem dX3_failBank_42 : decode cX3_failBank 42 = .ok (.getfield 84, 3) := by decide +kernel
theorem dX3_failBank_45 : decode cX3_failBank 45 = .ok (.invokevirtual 94, 3) := by decide +kernel
theorem dX3_failBank_48 : decode cX3_failBank 48 = .ok (.aload_n 0, 1) := by decide +kernel
theorem dX3_failBank_49 : decode cX3_failBank 49 = .ok (.aload_n 0, 1) := by decide +kernel
theorem dX3_failBank_50 : decode cX3_failBank 50 = .ok (.getfield 22, 3) := by decide +kernel
theorem dX3_failBank_53 : decode cX3_failBank 53 = .ok (.getfield 100, 3) := by decide +kernel
theorem dX3_failBank_56 : decode cX3_failBank 56 = .ok (.iload_n 1, 1) := by decide +kernel
theorem dX3_failBank_57 : decode cX3_failBank 57 = .ok (.iload_n 2, 1) := by decide +kernel
theorem dX3_failBank_58 : decode cX3_failBank 58 = .ok (.invokevirtual 104, 3) := by decide +kernel
theorem dX3_failBank_61 : decode cX3_failBank 61 = .ok (.aload_n 0, 1) := by decide +kernel
theorem dX3_failBank_62 : decode cX3_failBank 62 = .ok (.getfield 22, 3) := by decide +kernel
theorem dX3_failBank_65 : decode cX3_failBank 65 = .ok (.getfield 100, 3) := by decide +kernel
theorem dX3_failBank_68 : decode cX3_failBank 68 = .ok (.getfield 108, 3) := by decide +kernel
theorem dX3_failBank_71 : decode cX3_failBank 71 = .ok (.iconst 0, 1) := by decide +kernel
theorem dX3_failBank_72 : decode cX3_failBank 72 = .ok (.aload_n 0, 1) := by decide +kernel
theorem dX3_failBank_73 : decode cX3_failBank 73 = .ok (.getfield 22, 3) := by decide +kernel
theorem dX3_failBank_76 : decode cX3_failBank 76 = .ok (.getfield 91, 3) := by decide +kernel
theorem dX3_failBank_79 : decode cX3_failBank 79 = .ok (.iconst 0, 1) := by decide +kernel
theorem dX3_failBank_80 : decode cX3_failBank 80 = .ok (.bipush 10, 2) := by decide +kernel
theorem dX3_failBank_82 : decode cX3_failBank 82 = .ok (.invokestatic 111, 3) := by decide +kernel
theorem dX3_failBank_85 : decode cX3_failBank 85 = .ok (.iconst 0, 1) := by decide +kernel
theorem dX3_failBank_86 : decode cX3_failBank 86 = .ok (.istore_n 3, 1) := by decide +kernel
theorem dX3_failBank_87 : decode cX3_failBank 87 = .ok (.iload_n 3, 1) := by decide +kernel
theorem dX3_failBank_88 : decode cX3_failBank 88 = .ok (.aload_n 0, 1) := by decide +kernel
theorem dX3_failBank_89 : decode cX3_failBank 89 = .ok (.getfield 18, 3) := by decide +kernel
theorem dX3_failBank_92 : decode cX3_failBank 92 = .ok (.getfield 117, 3) := by decide +kernel
theorem dX3_failBank_95 : decode cX3_failBank 95 = .ok (.if_icmp .ge 39, 3) := by decide +kernel
theorem dX3_failBank_98 : decode cX3_failBank 98 = .ok (.aload_n 0, 1) := by decide +kernel
theorem dX3_failBank_99 : decode cX3_failBank 99 = .ok (.getfield 22, 3) := by decide +kernel
theorem dX3_failBank_102 : decode cX3_failBank 102 = .ok (.aload_n 0, 1) := by decide +kernel
theorem dX3_failBank_103 : decode cX3_failBank 103 = .ok (.getfield 18, 3) := by decide +kernel
theorem dX3_failBank_106 : decode cX3_failBank 106 = .ok (.getfield 65, 3) := by decide +kernel
theorem dX3_failBank_109 : decode cX3_failBank 109 = .ok (.iload_n 3, 1) := by decide +kernel
theorem dX3_failBank_110 : decode cX3_failBank 110 = .ok (.iaload, 1) := by decide +kernel
theorem dX3_failBank_111 : decode cX3_failBank 111 = .ok (.invokevirtual 68, 3) := by decide +kernel
theorem dX3_failBank_114 : decode cX3_failBank 114 = .ok (.iload_n 1, 1) := by decide +kernel
theorem dX3_failBank_115 : decode cX3_failBank 115 = .ok (.if_icmp .ne 13, 3) := by decide +kernel
theorem dX3_failBank_118 : decode cX3_failBank 118 = .ok (.aload_n 0, 1) := by decide +kernel
theorem dX3_failBank_119 : decode cX3_failBank 119 = .ok (.getfield 22, 3) := by decide +kernel
theorem dX3_failBank_122 : decode cX3_failBank 122 = .ok (.getfield 59, 3) := by decide +kernel
theorem dX3_failBank_125 : decode cX3_failBank 125 = .ok (.iload_n 3, 1) := by decide +kernel
theorem dX3_failBank_126 : decode cX3_failBank 126 = .ok (.iconst 0, 1) := by decide +kernel
theorem dX3_failBank_127 : decode cX3_failBank 127 = .ok (.iastore, 1) := by decide +kernel
theorem dX3_failBank_128 : decode cX3_failBank 128 = .ok (.iinc 3 1, 3) := by decide +kernel
theorem dX3_failBank_131 : decode cX3_failBank 131 = .ok (.goto (-44), 3) := by decide +kernel
theorem dX3_failBank_134 : decode cX3_failBank 134 = .ok (.aload_n 0, 1) := by decide +kernel
theorem dX3_failBank_135 : decode cX3_failBank 135 = .ok (.getfield 22, 3) := by decide +kernel
theorem dX3_failBank_138 : decode cX3_failBank 138 = .ok (.getfield 120, 3) := by decide +kernel
theorem dX3_failBank_141 : decode cX3_failBank 141 = .ok (.iload_n 1, 1) := by decide +kernel
theorem dX3_failBank_142 : decode cX3_failBank 142 = .ok (.iconst 1, 1) := by decide +kernel
theorem dX3_failBank_143 : decode cX3_failBank 143 = .ok (.iastore, 1) := by decide +kernel
theorem dX3_failBank_144 : decode cX3_failBank 144 = .ok (.iconst 1, 1) := by decide +kernel
theorem dX3_failBank_145 : decode cX3_failBank 145 = .ok (.ireturn, 1) := by decide +kernel
def X3_failBank_b32   (u : gM) : Option (Int32 × gM) :=
some (0, u)
def X3_failBank_b128 (k87 : Int32 → Int32 → gM → Option (Int32 × gM)) (x1 : Int32) (x3 : Int32) (u : gM) : Option (Int32 × gM) :=
(k87 x1 (x3 + 1) u)
def X3_failBank_b87 (k87 : Int32 → Int32 → gM → Option (Int32 × gM)) (x1 : Int32) (x3 : Int32) (u : gM) : Option (Int32 × gM) :=
(if (u.1 3 2) ≤ x3 then ((sI skC u 23 x1 1).bind fun u143 => some (1, u143))
  else ((aI skC u 8 x3).bind fun v110 => ((X8_nowAt u 18 v110).bind fun w111 => (if w111 = x1 then ((sI skC u 19 x3 0).bind fun u127 => (X3_failBank_b128 k87 x1 x3 u127))
    else (X3_failBank_b128 k87 x1 x3 u)))))
def X3_failBank_l87  : Nat → Int32 → Int32 → gM → Option (Int32 × gM)
  | 0, _, _, _ => none
  | n + 1, x1, x3, u => X3_failBank_b87  (X3_failBank_l87  n) x1 x3 u
def X3_failBank  (x1 : Int32) (x2 : Int32) (u : gM) : Option (Int32 × gM) :=
((X10_isBank u 3 x1).bind fun w5 => (if w5 = 0 then (X3_failBank_b32 u)
  else ((X8_isOpen u 18 x1).bind fun w16 => (if w16 = 0 then (X3_failBank_b32 u)
    else (if x2 < 0 then (X3_failBank_b32 u)
      else (if x2 ≤ 100000000 then ((X1_insure (u.1 18 0) u).bind fun w45 => ((X3_windUp 24 x1 x2 w45).bind fun w58 => ((cpI skC w58 29 0 20 0 10).bind fun u82 => (X3_failBank_l87 fz x1 0 u82))))
        else (X3_failBank_b32 u)))))))
set_option maxRecDepth 20000 in
theorem v_X3_failBank_b32 {κ : gK} {B : Nat} {u : gM} (X : gX κ B skC cX3_failBank 4 RX3 (some .boolean) 5 122)    {w : (Int32 × gM)} (hM : X3_failBank_b32 u = some w) : gV κ B skC 4 ((some (.int w.1)), w.2) 32 [none, none, none, none] [] u := by
  unfold X3_failBank_b32 at hM
  refine g_iconst X (v := 0) dX3_failBank_32 (by decide) ?_
  cases hM
  exact g_zret X (Or.inl rfl) dX3_failBank_33
set_option maxRecDepth 20000 in
theorem v_X3_failBank_b128 {κ : gK} {B : Nat} {u : gM} (X : gX κ B skC cX3_failBank 4 RX3 (some .boolean) 5 122) {k87 : Int32 → Int32 → gM → Option (Int32 × gM)} (ih87 : ∀ (x1 : Int32) (x3 : Int32) (u : gM) (w : (Int32 × gM)), k87 x1 x3 u = some w → gV κ B skC 4 ((some (.int w.1)), w.2) 87 [some (.ref (B + 145)), some (.int x1), none, some (.int x3)] [] u) {x1 : Int32} {x3 : Int32} {w : (Int32 × gM)} (hM : X3_failBank_b128 k87 x1 x3 u = some w) : gV κ B skC 4 ((some (.int w.1)), w.2) 128 [some (.ref (B + 145)), some (.int x1), none, some (.int x3)] [] u := by
  unfold X3_failBank_b128 at hM
  refine g_iinc (d := 1) X [some (.ref (B + 145)), some (.int x1), none, some (.int (x3 + 1))] dX3_failBank_128 (by decide) rfl (by decide) rfl ?_
  refine g_goto (tgt := 87) X dX3_failBank_131 (by decide) ?_
  refine g_mk [true, true, false, true] [some (.ref (B + 145)), some (.int x1), none, some (.int (x3 + 1))] rfl ?_
  exact ih87 x1 (x3 + 1) u _ hM
set_option maxRecDepth 20000 in
theorem v_X3_failBank_b87 {κ : gK} {B : Nat} {u : gM} (X : gX κ B skC cX3_failBank 4 RX3 (some .boolean) 5 122) {k87 : Int32 → Int32 → gM → Option (Int32 × gM)} (ih87 : ∀ (x1 : Int32) (x3 : Int32) (u : gM) (w : (Int32 × gM)), k87 x1 x3 u = some w → gV κ B skC 4 ((some (.int w.1)), w.2) 87 [some (.ref (B + 145)), some (.int x1), none, some (.int x3)] [] u) {x1 : Int32} {x3 : Int32} {w : (Int32 × gM)} (hM : X3_failBank_b87 k87 x1 x3 u = some w) : gV κ B skC 4 ((some (.int w.1)), w.2) 87 [some (.ref (B + 145)), some (.int x1), none, some (.int x3)] [] u := by
  unfold X3_failBank_b87 at hM
  refine g_iload_n X dX3_failBank_87 rfl ?_
  refine g_aload_n X dX3_failBank_88 rfl ?_
  refine g_getR X fX3_18 cC_145 rfl dX3_failBank_89 ?_
  refine g_getI X fX3_117 cC_3 rfl dX3_failBank_92 ?_
  refine g_icmp_ge (tgt := 134) X dX3_failBank_95 (by decide) (fun c95 => ?_) (fun c95 => ?_)
  · rw [if_pos c95] at hM
    refine g_aload_n X dX3_failBank_134 rfl ?_
    refine g_getR X fX3_22 cC_145 rfl dX3_failBank_135 ?_
    refine g_getR X fX3_120 cC_18 rfl dX3_failBank_138 ?_
    refine g_iload_n X dX3_failBank_141 rfl ?_
    refine g_iconst X (v := 1) dX3_failBank_142 (by decide) ?_
    obtain ⟨u143, e143, hM⟩ := bind_of hM
    refine g_iastore X e143 dX3_failBank_143 ?_
    refine g_iconst X (v := 1) dX3_failBank_144 (by decide) ?_
    cases hM
    exact g_zret X (Or.inr rfl) dX3_failBank_145
  · rw [if_neg c95] at hM
    refine g_aload_n X dX3_failBank_98 rfl ?_
    refine g_getR X fX3_22 cC_145 rfl dX3_failBank_99 ?_
    refine g_aload_n X dX3_failBank_102 rfl ?_
    refine g_getR X fX3_18 cC_145 rfl dX3_failBank_103 ?_
    refine g_getR X fX3_65 cC_3 rfl dX3_failBank_106 ?_
    refine g_iload_n X dX3_failBank_109 rfl ?_
    obtain ⟨v110, e110, hM⟩ := bind_of hM
    refine g_iaload X e110 dX3_failBank_110 ?_
    obtain ⟨w111, e111, hM⟩ := bind_of hM
    refine g_callVi X (fun B adK => [.int v110]) (s_X8_nowAt e111) cvX3_68 cC_18 rfl rfl (Nat.le_of_ble_eq_true rfl) ⟨by decide, by decide⟩ dX3_failBank_111 ?_
    refine g_iload_n X dX3_failBank_114 rfl ?_
    refine g_icmp_ne (tgt := 128) X dX3_failBank_115 (by decide) (fun c115 => ?_) (fun c115 => ?_)
    · rw [if_neg c115] at hM
      refine g_mk [true, true, false, true] [some (.ref (B + 145)), some (.int x1), none, some (.int x3)] rfl ?_
      exact v_X3_failBank_b128 X ih87 hM
    · rw [if_pos c115] at hM
      refine g_aload_n X dX3_failBank_118 rfl ?_
      refine g_getR X fX3_22 cC_145 rfl dX3_failBank_119 ?_
      refine g_getR X fX3_59 cC_18 rfl dX3_failBank_122 ?_
      refine g_iload_n X dX3_failBank_125 rfl ?_
      refine g_iconst X (v := 0) dX3_failBank_126 (by decide) ?_
      obtain ⟨u127, e127, hM⟩ := bind_of hM
      refine g_iastore X e127 dX3_failBank_127 ?_
      refine g_mk [true, true, false, true] [some (.ref (B + 145)), some (.int x1), none, some (.int x3)] rfl ?_
      exact v_X3_failBank_b128 X ih87 hM
theorem v_X3_failBank_l87 {κ : gK} {B : Nat} (X : gX κ B skC cX3_failBank 4 RX3 (some .boolean) 5 122)   : ∀ (n : Nat) {x1 : Int32} {x3 : Int32} {u : gM} {w : (Int32 × gM)} (hM : X3_failBank_l87  n x1 x3 u = some w), gV κ B skC 4 ((some (.int w.1)), w.2) 87 [some (.ref (B + 145)), some (.int x1), none, some (.int x3)] [] u := by
  intro n
  induction n with
  | zero => intro x1 x3 u w hM; exact nomatch (show (none : Option (Int32 × gM)) = some w from hM)
  | succ n ihn => intro x1 x3 u w hM; exact v_X3_failBank_b87 X  (fun x1 x3 u w h => ihn h) hM
set_option maxRecDepth 20000 in
theorem v_X3_failBank {κ : gK} {B : Nat} {u : gM} (X : gX κ B skC cX3_failBank 4 RX3 (some .boolean) 5 122)   {x1 : Int32} {x2 : Int32} {w : (Int32 × gM)} (hM : X3_failBank x1 x2 u = some w) : gV κ B skC 4 ((some (.int w.1)), w.2) 0 [some (.ref (B + 145)), some (.int x1), some (.int x2), none] [] u := by
  unfold X3_failBank at hM
  refine g_aload_n X dX3_failBank_0 rfl ?_
  refine g_getR X fX3_18 cC_145 rfl dX3_failBank_1 ?_
  refine g_iload_n X dX3_failBank_4 rfl ?_
  obtain ⟨w5, e5, hM⟩ := bind_of hM
  refine g_callVi X (fun B adK => [.int x1]) (s_X10_isBank e5) cvX3_75 cC_3 rfl rfl (Nat.le_of_ble_eq_true rfl) ⟨by decide, by decide⟩ dX3_failBank_5 ?_
  refine g_if_eq (tgt := 32) X dX3_failBank_8 (by decide) (fun c8 => ?_) (fun c8 => ?_)
  · rw [if_pos c8] at hM
    refine g_mk [false, false, false, false] [none, none, none, none] rfl ?_
    exact v_X3_failBank_b32 X  hM
  · rw [if_neg c8] at hM
    refine g_aload_n X dX3_failBank_11 rfl ?_
    refine g_getR X fX3_22 cC_145 rfl dX3_failBank_12 ?_
    refine g_iload_n X dX3_failBank_15 rfl ?_
    obtain ⟨w16, e16, hM⟩ := bind_of hM
    refine g_callVi X (fun B adK => [.int x1]) (s_X8_isOpen e16) cvX3_72 cC_18 rfl rfl (Nat.le_of_ble_eq_true rfl) ⟨by decide, by decide⟩ dX3_failBank_16 ?_
    refine g_if_eq (tgt := 32) X dX3_failBank_19 (by decide) (fun c19 => ?_) (fun c19 => ?_)
    · rw [if_pos c19] at hM
      refine g_mk [false, false, false, false] [none, none, none, none] rfl ?_
      exact v_X3_failBank_b32 X  hM
    · rw [if_neg c19] at hM
      refine g_iload_n X dX3_failBank_22 rfl ?_
      refine g_if_lt (tgt := 32) X dX3_failBank_23 (by decide) (fun c23 => ?_) (fun c23 => ?_)
      · rw [if_pos c23] at hM
        refine g_mk [false, false, false, false] [none, none, none, none] rfl ?_
        exact v_X3_failBank_b32 X  hM
      · rw [if_neg c23] at hM
        refine g_iload_n X dX3_failBank_26 rfl ?_
        refine g_ldc (v := 100000000) X m_30_0 dX3_failBank_27 ?_
        refine g_icmp_le (tgt := 34) X dX3_failBank_29 (by decide) (fun c29 => ?_) (fun c29 => ?_)
        · rw [if_pos c29] at hM
          refine g_aload_n X dX3_failBank_34 rfl ?_
          refine g_getR X fX3_26 cC_145 rfl dX3_failBank_35 ?_
          refine g_aload_n X dX3_failBank_38 rfl ?_
          refine g_getR X fX3_22 cC_145 rfl dX3_failBank_39 ?_
          refine g_getI X fX3_84 cC_18 rfl dX3_failBank_42 ?_
          obtain ⟨w45, e45, hM⟩ := bind_of hM
          refine g_callVv X (fun B adK => [.int (u.1 18 0)]) (s_X1_insure e45) cvX3_94 cC_136 rfl rfl (Nat.le_of_ble_eq_true rfl) ⟨by decide, by decide⟩ dX3_failBank_45 ?_
          refine g_aload_n X dX3_failBank_48 rfl ?_
          refine g_aload_n X dX3_failBank_49 rfl ?_
          refine g_getR X fX3_22 cC_145 rfl dX3_failBank_50 ?_
          refine g_getR X fX3_100 cC_18 rfl dX3_failBank_53 ?_
          refine g_iload_n X dX3_failBank_56 rfl ?_
          refine g_iload_n X dX3_failBank_57 rfl ?_
          obtain ⟨w58, e58, hM⟩ := bind_of hM
          refine g_callVv X (fun B adK => [.ref (B + 24), .int x1, .int x2]) (s_X3_windUp e58) cvX3_104 cC_145 rfl rfl (Nat.le_of_ble_eq_true rfl) ⟨by decide, by decide⟩ dX3_failBank_58 ?_
          refine g_aload_n X dX3_failBank_61 rfl ?_
          refine g_getR X fX3_22 cC_145 rfl dX3_failBank_62 ?_
          refine g_getR X fX3_100 cC_18 rfl dX3_failBank_65 ?_
          refine g_getR X fX3_108 cC_24 rfl dX3_failBank_68 ?_
          refine g_iconst X (v := 0) dX3_failBank_71 (by decide) ?_
          refine g_aload_n X dX3_failBank_72 rfl ?_
          refine g_getR X fX3_22 cC_145 rfl dX3_failBank_73 ?_
          refine g_getR X fX3_91 cC_18 rfl dX3_failBank_76 ?_
          refine g_iconst X (v := 0) dX3_failBank_79 (by decide) ?_
          refine g_bipush X (v := 10) dX3_failBank_80 (by decide) ?_
          obtain ⟨u82, e82, hM⟩ := bind_of hM
          refine g_copyI X m_32_7 e82 ⟨by decide, by decide⟩ dX3_failBank_82 ?_
          refine g_iconst X (v := 0) dX3_failBank_85 (by decide) ?_
          refine g_istore_n X [some (.ref (B + 145)), some (.int x1), some (.int x2), some (.int 0)] dX3_failBank_86 (by decide) rfl ?_
          refine g_mk [true, true, false, true] [some (.ref (B + 145)), some (.int x1), none, some (.int 0)] rfl ?_
          exact v_X3_failBank_l87 X  fz hM
        · rw [if_neg c29] at hM
          refine g_mk [false, false, false, false] [none, none, none, none] rfl ?_
          exact v_X3_failBank_b32 X  hM
theorem s_X3_failBank {x1 : Int32} {x2 : Int32} {u : gM} {w : (Int32 × gM)} (hM : X3_failBank x1 x2 u = some w) : gMet skC yX3_failBank cX3_failBank 4 (some .boolean) 5 122 (fun B adK => [.ref (B + 145), .int x1, .int x2]) u ((fun _ => some (.int w.1)), w.2) := by
  refine gMet.of (by decide) (fun _ _ => Nat.le_of_ble_eq_true rfl) (fun κ B X => ?_)
  have X : gX κ B skC cX3_failBank 4 RX3 (some .boolean) 5 122 := X
  refine g_mk [true, true, true, false] [some (.ref (B + 145)), some (.int x1), some (.int x2), none] rfl ?_
  exact v_X3_failBank X  hM
theorem fr_X3_failBank_b32 {S : Nat → Prop} {u0 u : gM}     {w : (Int32 × gM)} (hM : X3_failBank_b32 u = some w) (h0 : off S u0 u) : off S u0 w.2 := by
  unfold X3_failBank_b32 at hM
  cases hM
  exact h0
theorem fr_X3_failBank_b128 {S : Nat → Prop} {u0 u : gM} {x1 : Int32} {x3 : Int32} (hs0 : S 19) (hs1 : S 23) {k87 : Int32 → Int32 → gM → Option (Int32 × gM)} (ik87 : ∀ (x1 : Int32) (x3 : Int32) (u : gM) (w : (Int32 × gM)), S 19 → S 23 → off S u0 u → k87 x1 x3 u = some w → off S u0 w.2) {w : (Int32 × gM)} (hM : X3_failBank_b128 k87 x1 x3 u = some w) (h0 : off S u0 u) : off S u0 w.2 := by
  unfold X3_failBank_b128 at hM
  exact ik87 _ _ _ _ hs0 hs1 h0 hM
theorem fr_X3_failBank_b87 {S : Nat → Prop} {u0 u : gM} {x1 : Int32} {x3 : Int32} (hs0 : S 19) (hs1 : S 23) {k87 : Int32 → Int32 → gM → Option (Int32 × gM)} (ik87 : ∀ (x1 : Int32) (x3 : Int32) (u : gM) (w : (Int32 × gM)), S 19 → S 23 → off S u0 u → k87 x1 x3 u = some w → off S u0 w.2) {w : (Int32 × gM)} (hM : X3_failBank_b87 k87 x1 x3 u = some w) (h0 : off S u0 u) : off S u0 w.2 := by
  unfold X3_failBank_b87 at hM
  by_cases c95 : (u.1 3 2) ≤ x3
  · rw [if_pos c95] at hM
    obtain ⟨u143, e143, hM⟩ := bind_of hM
    have h0 := off_sI hs1 e143 h0
    cases hM
    exact h0
  · rw [if_neg c95] at hM
    obtain ⟨v110, e110, hM⟩ := bind_of hM
    obtain ⟨w111, e111, hM⟩ := bind_of hM
    by_cases c115 : w111 = x1
    · rw [if_pos c115] at hM
      obtain ⟨u127, e127, hM⟩ := bind_of hM
      have h0 := off_sI hs0 e127 h0
      exact fr_X3_failBank_b128 hs0 hs1 ik87 hM h0
    · rw [if_neg c115] at hM
      exact fr_X3_failBank_b128 hs0 hs1 ik87 hM h0
theorem fr_X3_failBank_l87 {S : Nat → Prop} {u0 : gM}   : ∀ (n : Nat) {x1 : Int32} {x3 : Int32} (hs0 : S 19) (hs1 : S 23) {u : gM} {w : (Int32 × gM)} (h0 : off S u0 u) (hM : X3_failBank_l87  n x1 x3 u = some w), off S u0 w.2 := by
  intro n
  induction n with
  | zero => intro x1 x3 hs0 hs1 u w h0 hM; exact nomatch (show (none : Option (Int32 × gM)) = some w from hM)
  | succ n ihn => intro x1 x3 hs0 hs1 u w h0 hM; exact fr_X3_failBank_b87 hs0 hs1  (fun x1 x3 _ _ hs0 hs1 h0 h => ihn hs0 hs1 h0 h) hM h0
theorem fr_X3_failBank {S : Nat → Prop} {u0 u : gM} {x1 : Int32} {x2 : Int32} (hs0 : S (rf skC 138 2)) (hs1 : S (rf skC 138 3)) (hs2 : S (rf skC 138 4)) (hs3 : S (rf skC 146 2)) (hs4 : S (rf skC 146 3)) (hs5 : S (rf skC 146 4)) (hs6 : S (rf skC 24 2)) (hs7 : S (rf skC 24 3)) (hs8 : S (rf skC 24 4)) (hs9 : S (rf skC 24 5)) (hs10 : S (rf skC 24 6)) (hs11 : S 137) (hs12 : S 138) (hs13 : S 142) (hs14 : S 143) (hs15 : S 144) (hs16 : S 146) (hs17 : S 19) (hs18 : S 20) (hs19 : S 23) (hs20 : S 24)   {w : (Int32 × gM)} (hM : X3_failBank x1 x2 u = some w) (h0 : off S u0 u) : off S u0 w.2 := by
  unfold X3_failBank at hM
  obtain ⟨w5, e5, hM⟩ := bind_of hM
  by_cases c8 : w5 = 0
  · rw [if_pos c8] at hM
    exact fr_X3_failBank_b32   hM h0
  · rw [if_neg c8] at hM
    obtain ⟨w16, e16, hM⟩ := bind_of hM
    by_cases c19 : w16 = 0
    · rw [if_pos c19] at hM
      exact fr_X3_failBank_b32   hM h0
    · rw [if_neg c19] at hM
      by_cases c23 : x2 < 0
      · rw [if_pos c23] at hM
        exact fr_X3_failBank_b32   hM h0
      · rw [if_neg c23] at hM
        by_cases c29 : x2 ≤ 100000000
        · rw [if_pos c29] at hM
          obtain ⟨w45, e45, hM⟩ := bind_of hM
          have h0 := fr_X1_insure hs0 hs1 hs2 hs11 hs12 hs13 hs14 hs15 e45 h0
          obtain ⟨w58, e58, hM⟩ := bind_of hM
          have h0 := fr_X3_windUp hs3 hs4 hs5 hs6 hs7 hs8 hs9 hs10 hs16 hs20 e58 h0
          obtain ⟨u82, e82, hM⟩ := bind_of hM
          have h0 := off_cpI hs18 e82 h0
          exact fr_X3_failBank_l87  fz hs17 hs19 h0 hM
        · rw [if_neg c29] at hM
          exact fr_X3_failBank_b32   hM h0
/-! CoverDesk$Deeds.act(III)Z -/
theorem dX3_act_0 : decode cX3_act 0 = .ok (.iload_n 1, 1) := by decide +kernel
theorem dX3_act_1 : decode cX3_act 1 = .ok (.tableswitch 84 14 20 #[43, 50, 57, 84, 64, 70, 77], 43) := by decide +kernel
theorem dX3_act_44 : decode cX3_act 44 = .ok (.aload_n 0, 1) := by decide +kernel
theorem dX3_act_45 : decode cX3_act 45 = .ok (.iload_n 2, 1) := by decide +kernel
theorem dX3_act_46 : decode cX3_act 46 = .ok (.iload_n 3, 1) := by decide +kernel
theorem dX3_act_47 : decode cX3_act 47 = .ok (.invokevirtual 30, 3) := by decide +kernel
theorem dX3_act_50 : decode cX3_act 50 = .ok (.ireturn, 1) := by decide +kernel
theorem dX3_act_51 : decode cX3_act 51 = .ok (.aload_n 0, 1) := by decide +kernel
theorem dX3_act_52 : decode cX3_act 52 = .ok (.iload_n 2, 1) := by decide +kernel
theorem dX3_act_53 : decode cX3_act 53 = .ok (.iload_n 3, 1) := by decide +kernel
theorem dX3_act_54 : decode cX3_act 54 = .ok (.invokevirtual 34, 3) := by decide +kernel
theorem dX3_act_57 : decode cX3_act 57 = .ok (.ireturn, 1) := by decide +kernel
theorem dX3_act_58 : decode cX3_act 58 = .ok (.aload_n 0, 1) := by decide +kernel
theorem dX3_act_59 : decode cX3_act 59 = .ok (.iload_n 2, 1) := by decide +kernel
theorem dX3_act_60 : decode cX3_act 60 = .ok (.iload_n 3, 1) := by decide +kernel
theorem dX3_act_61 : decode cX3_act 61 = .ok (.invokevirtual 37, 3) := by decide +kernel
theorem dX3_act_64 : decode cX3_act 64 = .ok (.ireturn, 1) := by decide +kernel
theorem dX3_act_65 : decode cX3_act 65 = .ok (.aload_n 0, 1) := by decide +kernel
theorem dX3_act_66 : decode cX3_act 66 = .ok (.iload_n 2, 1) := by decide +kernel
theorem dX3_act_67 : decode cX3_act 67 = .ok (.invokevirtual 40, 3) := by decide +kernel
theorem dX3_act_70 : decode cX3_act 70 = .ok (.ireturn, 1) := by decide +kernel
theorem dX3_act_71 : decode cX3_act 71 = .ok (.aload_n 0, 1) := by decide +kernel
theorem dX3_act_72 : decode cX3_act 72 = .ok (.iload_n 2, 1) := by decide +kernel
theorem dX3_act_73 : decode cX3_act 73 = .ok (.iload_n 3, 1) := by decide +kernel
theorem dX3_act_74 : decode cX3_act 74 = .ok (.invokevirtual 44, 3) := by decide +kernel
theorem dX3_act_77 : decode cX3_act 77 = .ok (.ireturn, 1) := by decide +kernel
theorem dX3_act_78 : decode cX3_act 78 = .ok (.aload_n 0, 1) := by decide +kernel
theorem dX3_act_79 : decode cX3_act 79 = .ok (.iload_n 2, 1) := by decide +kernel
theorem dX3_act_80 : decode cX3_act 80 = .ok (.iload_n 3, 1) := by decide +kernel
theorem dX3_act_81 : decode cX3_act 81 = .ok (.invokevirtual 47, 3) := by decide +kernel
theorem dX3_act_84 : decode cX3_act 84 = .ok (.ireturn, 1) := by decide +kernel
theorem dX3_act_85 : decode cX3_act 85 = .ok (.iconst 0, 1) := by decide +kernel
theorem dX3_act_86 : decode cX3_act 86 = .ok (.ireturn, 1) := by decide +kernel
def X3_act_b85   (u : gM) : Option (Int32 × gM) :=
some (0, u)
def X3_act  (x1 : Int32) (x2 : Int32) (x3 : Int32) (u : gM) : Option (Int32 × gM) :=
(if x1 = 14 then ((X3_putCoins x2 x3 u).bind fun w47 => ((bI w47.1).bind fun v50 => some (v50, w47.2)))
  else (if x1 = 15 then ((X3_takeCoins x2 x3 u).bind fun w54 => ((bI w54.1).bind fun v57 => some (v57, w54.2)))
  else (if x1 = 16 then ((X3_mergeBanks x2 x3 u).bind fun w61 => ((bI w61.1).bind fun v64 => some (v64, w61.2)))
  else (if x1 = 17 then (X3_act_b85 u)
  else (if x1 = 18 then ((X3_passMonths x2 u).bind fun w67 => ((bI w67.1).bind fun v70 => some (v70, w67.2)))
  else (if x1 = 19 then ((X3_payLoan x2 x3 u).bind fun w74 => ((bI w74.1).bind fun v77 => some (v77, w74.2)))
  else (if x1 = 20 then ((X3_failBank x2 x3 u).bind fun w81 => ((bI w81.1).bind fun v84 => some (v84, w81.2)))
  else (X3_act_b85 u))))))))
set_option maxRecDepth 20000 in
theorem v_X3_act_b85 {κ : gK} {B : Nat} {u : gM} (X : gX κ B skC cX3_act 4 RX3 (some .boolean) 6 145)    {w : (Int32 × gM)} (hM : X3_act_b85 u = some w) : gV κ B skC 4 ((some (.int w.1)), w.2) 85 [none, none, none, none] [] u := by
  unfold X3_act_b85 at hM
  refine g_iconst X (v := 0) dX3_act_85 (by decide) ?_
  cases hM
  exact g_zret X (Or.inl rfl) dX3_act_86
set_option maxRecDepth 20000 in
theorem v_X3_act {κ : gK} {B : Nat} {u : gM} (X : gX κ B skC cX3_act 4 RX3 (some .boolean) 6 145)   {x1 : Int32} {x2 : Int32} {x3 : Int32} {w : (Int32 × gM)} (hM : X3_act x1 x2 x3 u = some w) : gV κ B skC 4 ((some (.int w.1)), w.2) 0 [some (.ref (B + 145)), some (.int x1), some (.int x2), some (.int x3)] [] u := by
  unfold X3_act at hM
  refine g_iload_n X dX3_act_0 rfl ?_
  by_cases h1_14 : x1 = 14
  · rw [if_pos h1_14] at hM
    refine g_tabIn (tgt := 44) (off := 43) X 14 h1_14 dX3_act_1 (by decide) (by decide) (by decide) (by decide) ?_
    refine g_aload_n X dX3_act_44 rfl ?_
    refine g_iload_n X dX3_act_45 rfl ?_
    refine g_iload_n X dX3_act_46 rfl ?_
    obtain ⟨w47, e47, hM⟩ := bind_of hM
    refine g_callVi X (fun B adK => [.int x2, .int x3]) (s_X3_putCoins e47) cvX3_30 cC_145 rfl rfl (Nat.le_of_ble_eq_true rfl) ⟨by decide, by decide⟩ dX3_act_47 ?_
    obtain ⟨v50, e50, hM⟩ := bind_of hM
    obtain ⟨hv, rfl⟩ := bI_of e50
    cases hM
    exact g_zret X hv dX3_act_50
  rw [if_neg h1_14] at hM
  by_cases h1_15 : x1 = 15
  · rw [if_pos h1_15] at hM
    refine g_tabIn (tgt := 51) (off := 50) X 15 h1_15 dX3_act_1 (by decide) (by decide) (by decide) (by decide) ?_
    refine g_aload_n X dX3_act_51 rfl ?_
    refine g_iload_n X dX3_act_52 rfl ?_
    refine g_iload_n X dX3_act_53 rfl ?_
    obtain ⟨w54, e54, hM⟩ := bind_of hM
    refine g_callVi X (fun B adK => [.int x2, .int x3]) (s_X3_takeCoins e54) cvX3_34 cC_145 rfl rfl (Nat.le_of_ble_eq_true rfl) ⟨by decide, by decide⟩ dX3_act_54 ?_
    obtain ⟨v57, e57, hM⟩ := bind_of hM
    obtain ⟨hv, rfl⟩ := bI_of e57
    cases hM
    exact g_zret X hv dX3_act_57
  rw [if_neg h1_15] at hM
  by_cases h1_16 : x1 = 16
  · rw [if_pos h1_16] at hM
    refine g_tabIn (tgt := 58) (off := 57) X 16 h1_16 dX3_act_1 (by decide) (by decide) (by decide) (by decide) ?_
    refine g_aload_n X dX3_act_58 rfl ?_
    refine g_iload_n X dX3_act_59 rfl ?_
    refine g_iload_n X dX3_act_60 rfl ?_
    obtain ⟨w61, e61, hM⟩ := bind_of hM
    refine g_callVi X (fun B adK => [.int x2, .int x3]) (s_X3_mergeBanks e61) cvX3_37 cC_145 rfl rfl (Nat.le_of_ble_eq_true rfl) ⟨by decide, by decide⟩ dX3_act_61 ?_
    obtain ⟨v64, e64, hM⟩ := bind_of hM
    obtain ⟨hv, rfl⟩ := bI_of e64
    cases hM
    exact g_zret X hv dX3_act_64
  rw [if_neg h1_16] at hM
  by_cases h1_17 : x1 = 17
  · rw [if_pos h1_17] at hM
    refine g_tabIn (tgt := 85) (off := 84) X 17 h1_17 dX3_act_1 (by decide) (by decide) (by decide) (by decide) ?_
    refine g_mk [false, false, false, false] [none, none, none, none] rfl ?_
    exact v_X3_act_b85 X  hM
  rw [if_neg h1_17] at hM
  by_cases h1_18 : x1 = 18
  · rw [if_pos h1_18] at hM
    refine g_tabIn (tgt := 65) (off := 64) X 18 h1_18 dX3_act_1 (by decide) (by decide) (by decide) (by decide) ?_
    refine g_aload_n X dX3_act_65 rfl ?_
    refine g_iload_n X dX3_act_66 rfl ?_
    obtain ⟨w67, e67, hM⟩ := bind_of hM
    refine g_callVi X (fun B adK => [.int x2]) (s_X3_passMonths e67) cvX3_40 cC_145 rfl rfl (Nat.le_of_ble_eq_true rfl) ⟨by decide, by decide⟩ dX3_act_67 ?_
    obtain ⟨v70, e70, hM⟩ := bind_of hM
    obtain ⟨hv, rfl⟩ := bI_of e70
    cases hM
    exact g_zret X hv dX3_act_70
  rw [if_neg h1_18] at hM
  by_cases h1_19 : x1 = 19
  · rw [if_pos h1_19] at hM
    refine g_tabIn (tgt := 71) (off := 70) X 19 h1_19 dX3_act_1 (by decide) (by decide) (by decide) (by decide) ?_
    refine g_aload_n X dX3_act_71 rfl ?_
    refine g_iload_n X dX3_act_72 rfl ?_
    refine g_iload_n X dX3_act_73 rfl ?_
    obtain ⟨w74, e74, hM⟩ := bind_of hM
    refine g_callVi X (fun B adK => [.int x2, .int x3]) (s_X3_payLoan e74) cvX3_44 cC_145 rfl rfl (Nat.le_of_ble_eq_true rfl) ⟨by decide, by decide⟩ dX3_act_74 ?_
    obtain ⟨v77, e77, hM⟩ := bind_of hM
    obtain ⟨hv, rfl⟩ := bI_of e77
    cases hM
    exact g_zret X hv dX3_act_77
  rw [if_neg h1_19] at hM
  by_cases h1_20 : x1 = 20
  · rw [if_pos h1_20] at hM
    refine g_tabIn (tgt := 78) (off := 77) X 20 h1_20 dX3_act_1 (by decide) (by decide) (by decide) (by decide) ?_
    refine g_aload_n X dX3_act_78 rfl ?_
    refine g_iload_n X dX3_act_79 rfl ?_
    refine g_iload_n X dX3_act_80 rfl ?_
    obtain ⟨w81, e81, hM⟩ := bind_of hM
    refine g_callVi X (fun B adK => [.int x2, .int x3]) (s_X3_failBank e81) cvX3_47 cC_145 rfl rfl (Nat.le_of_ble_eq_true rfl) ⟨by decide, by decide⟩ dX3_act_81 ?_
    obtain ⟨v84, e84, hM⟩ := bind_of hM
    obtain ⟨hv, rfl⟩ := bI_of e84
    cases hM
    exact g_zret X hv dX3_act_84
  rw [if_neg h1_20] at hM
  refine g_tabOut (tgt := 85) X dX3_act_1 (by have q0 := lv_neT (a := 14) h1_14 (by decide); have q1 := lv_neT (a := 15) h1_15 (by decide); have q2 := lv_neT (a := 16) h1_16 (by decide); have q3 := lv_neT (a := 17) h1_17 (by decide); have q4 := lv_neT (a := 18) h1_18 (by decide); have q5 := lv_neT (a := 19) h1_19 (by decide); have q6 := lv_neT (a := 20) h1_20 (by decide); omega) (by decide) ?_
  refine g_mk [false, false, false, false] [none, none, none, none] rfl ?_
  exact v_X3_act_b85 X  hM
theorem s_X3_act {x1 : Int32} {x2 : Int32} {x3 : Int32} {u : gM} {w : (Int32 × gM)} (hM : X3_act x1 x2 x3 u = some w) : gMet skC yX3_act cX3_act 4 (some .boolean) 6 145 (fun B adK => [.ref (B + 145), .int x1, .int x2, .int x3]) u ((fun _ => some (.int w.1)), w.2) := by
  refine gMet.of (by decide) (fun _ _ => Nat.le_of_ble_eq_true rfl) (fun κ B X => ?_)
  have X : gX κ B skC cX3_act 4 RX3 (some .boolean) 6 145 := X
  refine g_mk [true, true, true, true] [some (.ref (B + 145)), some (.int x1), some (.int x2), some (.int x3)] rfl ?_
  exact v_X3_act X  hM
theorem fr_X3_act_b85 {S : Nat → Prop} {u0 u : gM}     {w : (Int32 × gM)} (hM : X3_act_b85 u = some w) (h0 : off S u0 u) : off S u0 w.2 := by
  unfold X3_act_b85 at hM
  cases hM
  exact h0
theorem fr_X3_act {S : Nat → Prop} {u0 u : gM} {x1 : Int32} {x2 : Int32} {x3 : Int32} (hs0 : S (rf skC 138 2)) (hs1 : S (rf skC 138 3)) (hs2 : S (rf skC 138 4)) (hs3 : S (rf skC 146 2)) (hs4 : S (rf skC 146 3)) (hs5 : S (rf skC 146 4)) (hs6 : S (rf skC 24 2)) (hs7 : S (rf skC 24 3)) (hs8 : S (rf skC 24 4)) (hs9 : S (rf skC 24 5)) (hs10 : S (rf skC 24 6)) (hs11 : S 137) (hs12 : S 138) (hs13 : S 142) (hs14 : S 143) (hs15 : S 144) (hs16 : S 146) (hs17 : S 18) (hs18 : S 19) (hs19 : S 20) (hs20 : S 21) (hs21 : S 22) (hs22 : S 23) (hs23 : S 24)   {w : (Int32 × gM)} (hM : X3_act x1 x2 x3 u = some w) (h0 : off S u0 u) : off S u0 w.2 := by
  unfold X3_act at hM
  by_cases h1_14 : x1 = 14
  · rw [if_pos h1_14] at hM
    obtain ⟨w47, e47, hM⟩ := bind_of hM
    have h0 := fr_X3_putCoins hs18 e47 h0
    obtain ⟨v50, e50, hM⟩ := bind_of hM
    cases hM
    exact h0
  rw [if_neg h1_14] at hM
  by_cases h1_15 : x1 = 15
  · rw [if_pos h1_15] at hM
    obtain ⟨w54, e54, hM⟩ := bind_of hM
    have h0 := fr_X3_takeCoins hs18 e54 h0
    obtain ⟨v57, e57, hM⟩ := bind_of hM
    cases hM
    exact h0
  rw [if_neg h1_15] at hM
  by_cases h1_16 : x1 = 16
  · rw [if_pos h1_16] at hM
    obtain ⟨w61, e61, hM⟩ := bind_of hM
    have h0 := fr_X3_mergeBanks hs20 hs21 e61 h0
    obtain ⟨v64, e64, hM⟩ := bind_of hM
    cases hM
    exact h0
  rw [if_neg h1_16] at hM
  by_cases h1_17 : x1 = 17
  · rw [if_pos h1_17] at hM
    exact fr_X3_act_b85   hM h0
  rw [if_neg h1_17] at hM
  by_cases h1_18 : x1 = 18
  · rw [if_pos h1_18] at hM
    obtain ⟨w67, e67, hM⟩ := bind_of hM
    have h0 := fr_X3_passMonths hs17 e67 h0
    obtain ⟨v70, e70, hM⟩ := bind_of hM
    cases hM
    exact h0
  rw [if_neg h1_18] at hM
  by_cases h1_19 : x1 = 19
  · rw [if_pos h1_19] at hM
    obtain ⟨w74, e74, hM⟩ := bind_of hM
    have h0 := fr_X3_payLoan hs19 e74 h0
    obtain ⟨v77, e77, hM⟩ := bind_of hM
    cases hM
    exact h0
  rw [if_neg h1_19] at hM
  by_cases h1_20 : x1 = 20
  · rw [if_pos h1_20] at hM
    obtain ⟨w81, e81, hM⟩ := bind_of hM
    have h0 := fr_X3_failBank hs0 hs1 hs2 hs3 hs4 hs5 hs6 hs7 hs8 hs9 hs10 hs11 hs12 hs13 hs14 hs15 hs16 hs18 hs19 hs22 hs23 e81 h0
    obtain ⟨v84, e84, hM⟩ := bind_of hM
    cases hM
    exact h0
  rw [if_neg h1_20] at hM
  exact fr_X3_act_b85   hM h0
/-! CoverDesk$Past.confirm(Z)Z -/
theorem dX7_confirm_0 : decode cX7_confirm 0 = .ok (.iload_n 1, 1) := by decide +kernel
theorem dX7_confirm_1 : decode cX7_confirm 1 = .ok (.ifCond .eq 31, 3) := by decide +kernel
theorem dX7_confirm_4 : decode cX7_confirm 4 = .ok (.aload_n 0, 1) := by decide +kernel
theorem dX7_confirm_5 : decode cX7_confirm 5 = .ok (.aload_n 0, 1) := by decide +kernel
theorem dX7_confirm_6 : decode cX7_confirm 6 = .ok (.getfield 22, 3) := by decide +kernel
theorem dX7_confirm_9 : decode cX7_confirm 9 = .ok (.iconst 1, 1) := by decide +kernel
theorem dX7_confirm_10 : decode cX7_confirm 10 = .ok (.iadd, 1) := by decide +kernel
theorem dX7_confirm_11 : decode cX7_confirm 11 = .ok (.bipush 7, 2) := by decide +kernel
theorem dX7_confirm_13 : decode cX7_confirm 13 = .ok (.irem, 1) := by decide +kernel
theorem dX7_confirm_14 : decode cX7_confirm 14 = .ok (.putfield 22, 3) := by decide +kernel
theorem dX7_confirm_17 : decode cX7_confirm 17 = .ok (.aload_n 0, 1) := by decide +kernel
theorem dX7_confirm_18 : decode cX7_confirm 18 = .ok (.aload_n 0, 1) := by decide +kernel
theorem dX7_confirm_19 : decode cX7_confirm 19 = .ok (.getfield 18, 3) := by decide +kernel
theorem dX7_confirm_22 : decode cX7_confirm 22 = .ok (.iconst 1, 1) := by decide +kernel
theorem dX7_confirm_23 : decode cX7_confirm 23 = .ok (.iadd, 1) := by decide +kernel
theorem dX7_confirm_24 : decode cX7_confirm 24 = .ok (.bipush 6, 2) := by decide +kernel
theorem dX7_confirm_26 : decode cX7_confirm 26 = .ok (.invokestatic 29, 3) := by decide +kernel
theorem dX7_confirm_29 : decode cX7_confirm 29 = .ok (.putfield 18, 3) := by decide +kernel
theorem dX7_confirm_32 : decode cX7_confirm 32 = .ok (.iload_n 1, 1) := by decide +kernel
theorem dX7_confirm_33 : decode cX7_confirm 33 = .ok (.ireturn, 1) := by decide +kernel
def X7_confirm_b32  (x1 : Int32) (u : gM) : Option (Int32 × gM) :=
((bI x1).bind fun v33 => some (v33, u))
def X7_confirm_b17  (x1 : Int32) (u : gM) : Option (Int32 × gM) :=
(X7_confirm_b32 x1 (upI u 30 0 (mnI ((u.1 30 0) + 1) 6)))
def X7_confirm  (x1 : Int32) (u : gM) : Option (Int32 × gM) :=
(if x1 = 0 then (X7_confirm_b32 x1 u)
  else (X7_confirm_b17 x1 (upI u 30 1 (((u.1 30 1) + 1) - ((u.1 30 1) + 1) / 7 * 7))))
set_option maxRecDepth 20000 in
theorem v_X7_confirm_b32 {κ : gK} {B : Nat} {u : gM} (X : gX κ B skC cX7_confirm 2 RX7 (some .boolean) 1 26)   {x1 : Int32} {w : (Int32 × gM)} (hM : X7_confirm_b32 x1 u = some w) : gV κ B skC 2 ((some (.int w.1)), w.2) 32 [none, some (.int x1)] [] u := by
  unfold X7_confirm_b32 at hM
  refine g_iload_n X dX7_confirm_32 rfl ?_
  obtain ⟨v33, e33, hM⟩ := bind_of hM
  obtain ⟨hv, rfl⟩ := bI_of e33
  cases hM
  exact g_zret X hv dX7_confirm_33
set_option maxRecDepth 20000 in
theorem v_X7_confirm_b17 {κ : gK} {B : Nat} {u : gM} (X : gX κ B skC cX7_confirm 2 RX7 (some .boolean) 1 26)   {x1 : Int32} {w : (Int32 × gM)} (hM : X7_confirm_b17 x1 u = some w) : gV κ B skC 2 ((some (.int w.1)), w.2) 17 [some (.ref (B + 30)), some (.int x1)] [] u := by
  unfold X7_confirm_b17 at hM
  refine g_aload_n X dX7_confirm_17 rfl ?_
  refine g_aload_n X dX7_confirm_18 rfl ?_
  refine g_getI X fX7_18 cC_30 rfl dX7_confirm_19 ?_
  refine g_iconst X (v := 1) dX7_confirm_22 (by decide) ?_
  refine g_iadd X dX7_confirm_23 ?_
  refine g_bipush X (v := 6) dX7_confirm_24 (by decide) ?_
  refine g_minI X m_38_2 ⟨by decide, Nat.le_of_ble_eq_true rfl⟩ dX7_confirm_26 ?_
  refine g_putI X fX7_18 gc_X7 gp_X7_0 cC_30 rfl dX7_confirm_29 ?_
  refine g_mk [false, true] [none, some (.int x1)] rfl ?_
  exact v_X7_confirm_b32 X  hM
set_option maxRecDepth 20000 in
theorem v_X7_confirm {κ : gK} {B : Nat} {u : gM} (X : gX κ B skC cX7_confirm 2 RX7 (some .boolean) 1 26)   {x1 : Int32} {w : (Int32 × gM)} (hM : X7_confirm x1 u = some w) : gV κ B skC 2 ((some (.int w.1)), w.2) 0 [some (.ref (B + 30)), some (.int x1)] [] u := by
  unfold X7_confirm at hM
  refine g_iload_n X dX7_confirm_0 rfl ?_
  refine g_if_eq (tgt := 32) X dX7_confirm_1 (by decide) (fun c1 => ?_) (fun c1 => ?_)
  · rw [if_pos c1] at hM
    refine g_mk [false, true] [none, some (.int x1)] rfl ?_
    exact v_X7_confirm_b32 X  hM
  · rw [if_neg c1] at hM
    refine g_aload_n X dX7_confirm_4 rfl ?_
    refine g_aload_n X dX7_confirm_5 rfl ?_
    refine g_getI X fX7_22 cC_30 rfl dX7_confirm_6 ?_
    refine g_iconst X (v := 1) dX7_confirm_9 (by decide) ?_
    refine g_iadd X dX7_confirm_10 ?_
    refine g_bipush X (v := 7) dX7_confirm_11 (by decide) ?_
    refine g_irem X (by decide) dX7_confirm_13 ?_
    refine g_putI X fX7_22 gc_X7 gp_X7_1 cC_30 rfl dX7_confirm_14 ?_
    refine g_mk [true, true] [some (.ref (B + 30)), some (.int x1)] rfl ?_
    exact v_X7_confirm_b17 X  hM
theorem s_X7_confirm {x1 : Int32} {u : gM} {w : (Int32 × gM)} (hM : X7_confirm x1 u = some w) : gMet skC yX7_confirm cX7_confirm 2 (some .boolean) 1 26 (fun B adK => [.ref (B + 30), .int x1]) u ((fun _ => some (.int w.1)), w.2) := by
  refine gMet.of (by decide) (fun _ _ => Nat.le_of_ble_eq_true rfl) (fun κ B X => ?_)
  have X : gX κ B skC cX7_confirm 2 RX7 (some .boolean) 1 26 := X
  refine g_mk [true, true] [some (.ref (B + 30)), some (.int x1)] rfl ?_
  exact v_X7_confirm X  hM
theorem fr_X7_confirm_b32 {S : Nat → Prop} {u0 u : gM} {x1 : Int32}    {w : (Int32 × gM)} (hM : X7_confirm_b32 x1 u = some w) (h0 : off S u0 u) : off S u0 w.2 := by
  unfold X7_confirm_b32 at hM
  obtain ⟨v33, e33, hM⟩ := bind_of hM
  cases hM
  exact h0
theorem fr_X7_confirm_b17 {S : Nat → Prop} {u0 u : gM} {x1 : Int32} (hs0 : S 30)   {w : (Int32 × gM)} (hM : X7_confirm_b17 x1 u = some w) (h0 : off S u0 u) : off S u0 w.2 := by
  unfold X7_confirm_b17 at hM
  have h0 := off_upI (u := u) (k := 30) (j := 0) (x := (mnI ((u.1 30 0) + 1) 6)) hs0 h0
  exact fr_X7_confirm_b32   hM h0
theorem fr_X7_confirm {S : Nat → Prop} {u0 u : gM} {x1 : Int32} (hs0 : S 30)   {w : (Int32 × gM)} (hM : X7_confirm x1 u = some w) (h0 : off S u0 u) : off S u0 w.2 := by
  unfold X7_confirm at hM
  by_cases c1 : x1 = 0
  · rw [if_pos c1] at hM
    exact fr_X7_confirm_b32   hM h0
  · rw [if_neg c1] at hM
    have h0 := off_upI (u := u) (k := 30) (j := 1) (x := (((u.1 30 1) + 1) - ((u.1 30 1) + 1) / 7 * 7)) hs0 h0
    exact fr_X7_confirm_b17 hs0  hM h0
/-! CoverDesk.day()I -/
theorem dX11_day_0 : decode cX11_day 0 = .ok (.aload_n 0, 1) := by decide +kernel
theorem dX11_day_1 : decode cX11_day 1 = .ok (.getfield 51, 3) := by decide +kernel
theorem dX11_day_4 : decode cX11_day 4 = .ok (.invokevirtual 115, 3) := by decide +kernel
theorem dX11_day_7 : decode cX11_day 7 = .ok (.istore_n 1, 1) := by decide +kernel
theorem dX11_day_8 : decode cX11_day 8 = .ok (.aload_n 0, 1) := by decide +kernel
theorem dX11_day_9 : decode cX11_day 9 = .ok (.getfield 12, 3) := by decide +kernel
theorem dX11_day_12 : decode cX11_day 12 = .ok (.iconst 0, 1) := by decide +kernel
theorem dX11_day_13 : decode cX11_day 13 = .ok (.putfield 91, 3) := by decide +kernel
theorem dX11_day_16 : decode cX11_day 16 = .ok (.iload_n 1, 1) := by decide +kernel
theorem dX11_day_17 : decode cX11_day 17 = .ok (.ifCond .ne 5, 3) := by decide +kernel
theorem dX11_day_20 : decode cX11_day 20 = .ok (.iconst (-1), 1) := by decide +kernel
theorem dX11_day_21 : decode cX11_day 21 = .ok (.ireturn, 1) := by decide +kernel
theorem dX11_day_22 : decode cX11_day 22 = .ok (.aload_n 0, 1) := by decide +kernel
theorem dX11_day_23 : decode cX11_day 23 = .ok (.aload_n 0, 1) := by decide +kernel
theorem dX11_day_24 : decode cX11_day 24 = .ok (.getfield 51, 3) := by decide +kernel
theorem dX11_day_27 : decode cX11_day 27 = .ok (.getfield 116, 3) := by decide +kernel
theorem dX11_day_30 : decode cX11_day 30 = .ok (.putfield 119, 3) := by decide +kernel
theorem dX11_day_33 : decode cX11_day 33 = .ok (.aload_n 0, 1) := by decide +kernel
theorem dX11_day_34 : decode cX11_day 34 = .ok (.getfield 33, 3) := by decide +kernel
theorem dX11_day_37 : decode cX11_day 37 = .ok (.aload_n 0, 1) := by decide +kernel
theorem dX11_day_38 : decode cX11_day 38 = .ok (.getfield 26, 3) := by decide +kernel
theorem dX11_day_41 : decode cX11_day 41 = .ok (.invokevirtual 122, 3) := by decide +kernel
theorem dX11_day_44 : decode cX11_day 44 = .ok (.iconst 0, 1) := by decide +kernel
theorem dX11_day_45 : decode cX11_day 45 = .ok (.istore_n 2, 1) := by decide +kernel
theorem dX11_day_46 : decode cX11_day 46 = .ok (.iload_n 2, 1) := by decide +kernel
theorem dX11_day_47 : decode cX11_day 47 = .ok (.aload_n 0, 1) := by decide +kernel
theorem dX11_day_48 : decode cX11_day 48 = .ok (.getfield 51, 3) := by decide +kernel
theorem dX11_day_51 : decode cX11_day 51 = .ok (.getfield 116, 3) := by decide +kernel
theorem dX11_day_54 : decode cX11_day 54 = .ok (.if_icmp .ge 46, 3) := by decide +kernel
theorem dX11_day_57 : decode cX11_day 57 = .ok (.aload_n 0, 1) := by decide +kernel
theorem dX11_day_58 : decode cX11_day 58 = .ok (.getfield 69, 3) := by decide +kernel
theorem dX11_day_61 : decode cX11_day 61 = .ok (.aload_n 0, 1) := by decide +kernel
theorem dX11_day_62 : decode cX11_day 62 = .ok (.getfield 51, 3) := by decide +kernel
theorem dX11_day_65 : decode cX11_day 65 = .ok (.getfield 126, 3) := by decide +kernel
theorem dX11_day_68 : decode cX11_day 68 = .ok (.iload_n 2, 1) := by decide +kernel
theorem dX11_day_69 : decode cX11_day 69 = .ok (.iaload, 1) := by decide +kernel
theorem dX11_day_70 : decode cX11_day 70 = .ok (.aload_n 0, 1) := by decide +kernel
theorem dX11_day_71 : decode cX11_day 71 = .ok (.getfield 51, 3) := by decide +kernel
theorem dX11_day_74 : decode cX11_day 74 = .ok (.getfield 130, 3) := by decide +kernel
theorem dX11_day_77 : decode cX11_day 77 = .ok (.iload_n 2, 1) := by decide +kernel
theorem dX11_day_78 : decode cX11_day 78 = .ok (.iaload, 1) := by decide +kernel
theorem dX11_day_79 : decode cX11_day 79 = .ok (.aload_n 0, 1) := by decide +kernel
theorem dX11_day_80 : decode cX11_day 80 = .ok (.getfield 51, 3) := by decide +kernel
theorem dX11_day_83 : decode cX11_day 83 = .ok (.getfield 133, 3) := by decide +kernel
theorem dX11_day_86 : decode cX11_day 86 = .ok (.iload_n 2, 1) := by decide +kernel
theorem dX11_day_87 : decode cX11_day 87 = .ok (.iaload, 1) := by decide +kernel
theorem dX11_day_88 : decode cX11_day 88 = .ok (.invokevirtual 136, 3) := by decide +kernel
theorem dX11_day_91 : decode cX11_day 91 = .ok (.ifCond .eq 9, 3) := by decide +kernel
theorem dX11_day_94 : decode cX11_day 94 = .ok (.iinc 2 1, 3) := by decide +kernel
theorem dX11_day_97 : decode cX11_day 97 = .ok (.goto (-51), 3) := by decide +kernel
theorem dX11_day_100 : decode cX11_day 100 = .ok (.aload_n 0, 1) := by decide +kernel
theorem dX11_day_101 : decode cX11_day 101 = .ok (.getfield 33, 3) := by decide +kernel
theorem dX11_day_104 : decode cX11_day 104 = .ok (.iload_n 2, 1) := by decide +kernel
theorem dX11_day_105 : decode cX11_day 105 = .ok (.ifCond .le 7, 3) := by decide +kernel
theorem dX11_day_108 : decode cX11_day 108 = .ok (.iconst 1, 1) := by decide +kernel
theorem dX11_day_109 : decode cX11_day 109 = .ok (.goto 4, 3) := by decide +kernel
theorem dX11_day_112 : decode cX11_day 112 = .ok (.iconst 0, 1) := by decide +kernel
theorem dX11_day_113 : decode cX11_day 113 = .ok (.invokevirtual 140, 3) := by decide +kernel
theorem dX11_day_116 : decode cX11_day 116 = .ok (.pop, 1) := by decide +kernel
theorem dX11_day_117 : decode cX11_day 117 = .ok (.iload_n 2, 1) := by decide +kernel
theorem dX11_day_118 : decode cX11_day 118 = .ok (.ireturn, 1) := by decide +kernel
def X11_day_b113  (x2 : Int32) (s1 : Int32) (u : gM) : Option (Int32 × gM) :=
((X7_confirm s1 u).bind fun w113 => some (x2, w113.2))
def X11_day_b100  (x2 : Int32) (u : gM) : Option (Int32 × gM) :=
(if x2 ≤ 0 then (X11_day_b113 x2 0 u)
  else (X11_day_b113 x2 1 u))
def X11_day_b46 (k46 : Int32 → gM → Option (Int32 × gM)) (x2 : Int32) (u : gM) : Option (Int32 × gM) :=
(if (u.1 132 0) ≤ x2 then (X11_day_b100 x2 u)
  else ((aI skC u 133 x2).bind fun v69 => ((aI skC u 134 x2).bind fun v78 => ((aI skC u 135 x2).bind fun v87 => ((X3_act v69 v78 v87 u).bind fun w88 => (if w88.1 = 0 then (X11_day_b100 x2 w88.2)
    else (k46 (x2 + 1) w88.2)))))))
def X11_day_l46  : Nat → Int32 → gM → Option (Int32 × gM)
  | 0, _, _ => none
  | n + 1, x2, u => X11_day_b46  (X11_day_l46  n) x2 u
def X11_day_b33   (u : gM) : Option (Int32 × gM) :=
((X7_keep 18 u).bind fun w41 => (X11_day_l46 fz 0 w41))
def X11_day   (u : gM) : Option (Int32 × gM) :=
((X2_read u).bind fun w4 => (if w4.1 = 0 then some ((-1), upI w4.2 1 0 0)
  else (X11_day_b33 (upI (upI w4.2 1 0 0) 0 10 ((upI w4.2 1 0 0).1 132 0)))))
set_option maxRecDepth 20000 in
theorem v_X11_day_b113 {κ : gK} {B : Nat} {u : gM} (X : gX κ B skC cX11_day 3 RX11 (some .int) 10 229)   {x2 : Int32} {s1 : Int32} {w : (Int32 × gM)} (hM : X11_day_b113 x2 s1 u = some w) : gV κ B skC 3 ((some (.int w.1)), w.2) 113 [none, none, some (.int x2)] [.int s1, .ref (B + 30)] u := by
  unfold X11_day_b113 at hM
  obtain ⟨w113, e113, hM⟩ := bind_of hM
  refine g_callVi X (fun B adK => [.int s1]) (s_X7_confirm e113) cvX11_140 cC_30 rfl rfl (Nat.le_of_ble_eq_true rfl) ⟨by decide, by decide⟩ dX11_day_113 ?_
  refine g_pop X rfl dX11_day_116 ?_
  refine g_iload_n X dX11_day_117 rfl ?_
  cases hM
  exact g_iret X dX11_day_118
set_option maxRecDepth 20000 in
theorem v_X11_day_b100 {κ : gK} {B : Nat} {u : gM} (X : gX κ B skC cX11_day 3 RX11 (some .int) 10 229)   {x2 : Int32} {w : (Int32 × gM)} (hM : X11_day_b100 x2 u = some w) : gV κ B skC 3 ((some (.int w.1)), w.2) 100 [some (.ref (B + 0)), none, some (.int x2)] [] u := by
  unfold X11_day_b100 at hM
  refine g_aload_n X dX11_day_100 rfl ?_
  refine g_getR X fX11_33 cC_0 rfl dX11_day_101 ?_
  refine g_iload_n X dX11_day_104 rfl ?_
  refine g_if_le (tgt := 112) X dX11_day_105 (by decide) (fun c105 => ?_) (fun c105 => ?_)
  · rw [if_pos c105] at hM
    refine g_iconst X (v := 0) dX11_day_112 (by decide) ?_
    refine g_mk [false, false, true] [none, none, some (.int x2)] rfl ?_
    exact v_X11_day_b113 X  hM
  · rw [if_neg c105] at hM
    refine g_iconst X (v := 1) dX11_day_108 (by decide) ?_
    refine g_goto (tgt := 113) X dX11_day_109 (by decide) ?_
    refine g_mk [false, false, true] [none, none, some (.int x2)] rfl ?_
    exact v_X11_day_b113 X  hM
set_option maxRecDepth 20000 in
theorem v_X11_day_b46 {κ : gK} {B : Nat} {u : gM} (X : gX κ B skC cX11_day 3 RX11 (some .int) 10 229) {k46 : Int32 → gM → Option (Int32 × gM)} (ih46 : ∀ (x2 : Int32) (u : gM) (w : (Int32 × gM)), k46 x2 u = some w → gV κ B skC 3 ((some (.int w.1)), w.2) 46 [some (.ref (B + 0)), none, some (.int x2)] [] u) {x2 : Int32} {w : (Int32 × gM)} (hM : X11_day_b46 k46 x2 u = some w) : gV κ B skC 3 ((some (.int w.1)), w.2) 46 [some (.ref (B + 0)), none, some (.int x2)] [] u := by
  unfold X11_day_b46 at hM
  refine g_iload_n X dX11_day_46 rfl ?_
  refine g_aload_n X dX11_day_47 rfl ?_
  refine g_getR X fX11_51 cC_0 rfl dX11_day_48 ?_
  refine g_getI X fX11_116 cC_132 rfl dX11_day_51 ?_
  refine g_icmp_ge (tgt := 100) X dX11_day_54 (by decide) (fun c54 => ?_) (fun c54 => ?_)
  · rw [if_pos c54] at hM
    refine g_mk [true, false, true] [some (.ref (B + 0)), none, some (.int x2)] rfl ?_
    exact v_X11_day_b100 X  hM
  · rw [if_neg c54] at hM
    refine g_aload_n X dX11_day_57 rfl ?_
    refine g_getR X fX11_69 cC_0 rfl dX11_day_58 ?_
    refine g_aload_n X dX11_day_61 rfl ?_
    refine g_getR X fX11_51 cC_0 rfl dX11_day_62 ?_
    refine g_getR X fX11_126 cC_132 rfl dX11_day_65 ?_
    refine g_iload_n X dX11_day_68 rfl ?_
    obtain ⟨v69, e69, hM⟩ := bind_of hM
    refine g_iaload X e69 dX11_day_69 ?_
    refine g_aload_n X dX11_day_70 rfl ?_
    refine g_getR X fX11_51 cC_0 rfl dX11_day_71 ?_
    refine g_getR X fX11_130 cC_132 rfl dX11_day_74 ?_
    refine g_iload_n X dX11_day_77 rfl ?_
    obtain ⟨v78, e78, hM⟩ := bind_of hM
    refine g_iaload X e78 dX11_day_78 ?_
    refine g_aload_n X dX11_day_79 rfl ?_
    refine g_getR X fX11_51 cC_0 rfl dX11_day_80 ?_
    refine g_getR X fX11_133 cC_132 rfl dX11_day_83 ?_
    refine g_iload_n X dX11_day_86 rfl ?_
    obtain ⟨v87, e87, hM⟩ := bind_of hM
    refine g_iaload X e87 dX11_day_87 ?_
    obtain ⟨w88, e88, hM⟩ := bind_of hM
    refine g_callVi X (fun B adK => [.int v69, .int v78, .int v87]) (s_X3_act e88) cvX11_136 cC_145 rfl rfl (Nat.le_of_ble_eq_true rfl) ⟨by decide, by decide⟩ dX11_day_88 ?_
    refine g_if_eq (tgt := 100) X dX11_day_91 (by decide) (fun c91 => ?_) (fun c91 => ?_)
    · rw [if_pos c91] at hM
      refine g_mk [true, false, true] [some (.ref (B + 0)), none, some (.int x2)] rfl ?_
      exact v_X11_day_b100 X  hM
    · rw [if_neg c91] at hM
      refine g_iinc (d := 1) X [some (.ref (B + 0)), none, some (.int (x2 + 1))] dX11_day_94 (by decide) rfl (by decide) rfl ?_
      refine g_goto (tgt := 46) X dX11_day_97 (by decide) ?_
      refine g_mk [true, false, true] [some (.ref (B + 0)), none, some (.int (x2 + 1))] rfl ?_
      exact ih46 (x2 + 1) w88.2 _ hM
theorem v_X11_day_l46 {κ : gK} {B : Nat} (X : gX κ B skC cX11_day 3 RX11 (some .int) 10 229)   : ∀ (n : Nat) {x2 : Int32} {u : gM} {w : (Int32 × gM)} (hM : X11_day_l46  n x2 u = some w), gV κ B skC 3 ((some (.int w.1)), w.2) 46 [some (.ref (B + 0)), none, some (.int x2)] [] u := by
  intro n
  induction n with
  | zero => intro x2 u w hM; exact nomatch (show (none : Option (Int32 × gM)) = some w from hM)
  | succ n ihn => intro x2 u w hM; exact v_X11_day_b46 X  (fun x2 u w h => ihn h) hM
set_option maxRecDepth 20000 in
theorem v_X11_day_b33 {κ : gK} {B : Nat} {u : gM} (X : gX κ B skC cX11_day 3 RX11 (some .int) 10 229)    {w : (Int32 × gM)} (hM : X11_day_b33 u = some w) : gV κ B skC 3 ((some (.int w.1)), w.2) 33 [some (.ref (B + 0)), none, none] [] u := by
  unfold X11_day_b33 at hM
  refine g_aload_n X dX11_day_33 rfl ?_
  refine g_getR X fX11_33 cC_0 rfl dX11_day_34 ?_
  refine g_aload_n X dX11_day_37 rfl ?_
  refine g_getR X fX11_26 cC_0 rfl dX11_day_38 ?_
  obtain ⟨w41, e41, hM⟩ := bind_of hM
  refine g_callVv X (fun B adK => [.ref (B + 18)]) (s_X7_keep e41) cvX11_122 cC_30 rfl rfl (Nat.le_of_ble_eq_true rfl) ⟨by decide, by decide⟩ dX11_day_41 ?_
  refine g_iconst X (v := 0) dX11_day_44 (by decide) ?_
  refine g_istore_n X [some (.ref (B + 0)), none, some (.int 0)] dX11_day_45 (by decide) rfl ?_
  refine g_mk [true, false, true] [some (.ref (B + 0)), none, some (.int 0)] rfl ?_
  exact v_X11_day_l46 X  fz hM
set_option maxRecDepth 20000 in
theorem v_X11_day {κ : gK} {B : Nat} {u : gM} (X : gX κ B skC cX11_day 3 RX11 (some .int) 10 229)    {w : (Int32 × gM)} (hM : X11_day u = some w) : gV κ B skC 3 ((some (.int w.1)), w.2) 0 [some (.ref (B + 0)), none, none] [] u := by
  unfold X11_day at hM
  refine g_aload_n X dX11_day_0 rfl ?_
  refine g_getR X fX11_51 cC_0 rfl dX11_day_1 ?_
  obtain ⟨w4, e4, hM⟩ := bind_of hM
  refine g_callVi X (fun B adK => []) (s_X2_read e4) cvX11_115 cC_132 rfl rfl (Nat.le_of_ble_eq_true rfl) ⟨by decide, by decide⟩ dX11_day_4 ?_
  refine g_istore_n X [some (.ref (B + 0)), some (.int w4.1), none] dX11_day_7 (by decide) rfl ?_
  refine g_aload_n X dX11_day_8 rfl ?_
  refine g_getR X fX11_12 cC_0 rfl dX11_day_9 ?_
  refine g_iconst X (v := 0) dX11_day_12 (by decide) ?_
  refine g_putI X fX11_91 gc_X9 gp_X9_0 cC_1 rfl dX11_day_13 ?_
  refine g_iload_n X dX11_day_16 rfl ?_
  refine g_if_ne (tgt := 22) X dX11_day_17 (by decide) (fun c17 => ?_) (fun c17 => ?_)
  · rw [if_neg c17] at hM
    refine g_aload_n X dX11_day_22 rfl ?_
    refine g_aload_n X dX11_day_23 rfl ?_
    refine g_getR X fX11_51 cC_0 rfl dX11_day_24 ?_
    refine g_getI X fX11_116 cC_132 rfl dX11_day_27 ?_
    refine g_putI X fX11_119 gc_X11 gp_X11_10 cC_0 rfl dX11_day_30 ?_
    refine g_mk [true, false, false] [some (.ref (B + 0)), none, none] rfl ?_
    exact v_X11_day_b33 X  hM
  · rw [if_pos c17] at hM
    refine g_iconst X (v := (-1)) dX11_day_20 (by decide) ?_
    cases hM
    exact g_iret X dX11_day_21
theorem s_X11_day  {u : gM} {w : (Int32 × gM)} (hM : X11_day u = some w) : gMet skC yX11_day cX11_day 3 (some .int) 10 229 (fun B adK => [.ref (B + 0)]) u ((fun _ => some (.int w.1)), w.2) := by
  refine gMet.of (by decide) (fun _ _ => Nat.le_of_ble_eq_true rfl) (fun κ B X => ?_)
  have X : gX κ B skC cX11_day 3 RX11 (some .int) 10 229 := X
  refine g_mk [true, false, false] [some (.ref (B + 0)), none, none] rfl ?_
  exact v_X11_day X  hM

/-! CoverDesk.end(I)Z -/
theorem dX11_end_0 : decode cX11_end 0 = .ok (.iload_n 1, 1) := by decide +kernel
theorem dX11_end_1 : decode cX11_end 1 = .ok (.ifCond .lt 14, 3) := by decide +kernel
theorem dX11_end_4 : decode cX11_end 4 = .ok (.iload_n 1, 1) := by decide +kernel
theorem dX11_end_5 : decode cX11_end 5 = .ok (.aload_n 0, 1) := by decide +kernel
theorem dX11_end_6 : decode cX11_end 6 = .ok (.getfield 12, 3) := by decide +kernel
theorem dX11_end_9 : decode cX11_end 9 = .ok (.getfield 91, 3) := by decide +kernel
theorem dX11_end_12 : decode cX11_end 12 = .ok (.if_icmp .le 5, 3) := by decide +kernel
theorem dX11_end_15 : decode cX11_end 15 = .ok (.iconst 0, 1) := by decide +kernel
theorem dX11_end_16 : decode cX11_end 16 = .ok (.ireturn, 1) := by decide +kernel
theorem dX11_end_17 : decode cX11_end 17 = .ok (.aload_n 0, 1) := by decide +kernel
theorem dX11_end_18 : decode cX11_end 18 = .ok (.getfield 12, 3) := by decide +kernel
theorem dX11_end_21 : decode cX11_end 21 = .ok (.iload_n 1, 1) := by decide +kernel
theorem dX11_end_22 : decode cX11_end 22 = .ok (.putfield 91, 3) := by decide +kernel
theorem dX11_end_25 : decode cX11_end 25 = .ok (.iconst 1, 1) := by decide +kernel
theorem dX11_end_26 : decode cX11_end 26 = .ok (.ireturn, 1) := by decide +kernel
def X11_end_b15   (u : gM) : Option (Int32 × gM) :=
some (0, u)
def X11_end  (x1 : Int32) (u : gM) : Option (Int32 × gM) :=
(if x1 < 0 then (X11_end_b15 u)
  else (if x1 ≤ (u.1 1 0) then some (1, upI u 1 0 x1)
    else (X11_end_b15 u)))
set_option maxRecDepth 20000 in
theorem v_X11_end_b15 {κ : gK} {B : Nat} {u : gM} (X : gX κ B skC cX11_end 2 RX11 (some .boolean) 0 0)    {w : (Int32 × gM)} (hM : X11_end_b15 u = some w) : gV κ B skC 2 ((some (.int w.1)), w.2) 15 [none, none] [] u := by
  unfold X11_end_b15 at hM
  refine g_iconst X (v := 0) dX11_end_15 (by decide) ?_
  cases hM
  exact g_zret X (Or.inl rfl) dX11_end_16
set_option maxRecDepth 20000 in
theorem v_X11_end {κ : gK} {B : Nat} {u : gM} (X : gX κ B skC cX11_end 2 RX11 (some .boolean) 0 0)   {x1 : Int32} {w : (Int32 × gM)} (hM : X11_end x1 u = some w) : gV κ B skC 2 ((some (.int w.1)), w.2) 0 [some (.ref (B + 0)), some (.int x1)] [] u := by
  unfold X11_end at hM
  refine g_iload_n X dX11_end_0 rfl ?_
  refine g_if_lt (tgt := 15) X dX11_end_1 (by decide) (fun c1 => ?_) (fun c1 => ?_)
  · rw [if_pos c1] at hM
    refine g_mk [false, false] [none, none] rfl ?_
    exact v_X11_end_b15 X  hM
  · rw [if_neg c1] at hM
    refine g_iload_n X dX11_end_4 rfl ?_
    refine g_aload_n X dX11_end_5 rfl ?_
    refine g_getR X fX11_12 cC_0 rfl dX11_end_6 ?_
    refine g_getI X fX11_91 cC_1 rfl dX11_end_9 ?_
    refine g_icmp_le (tgt := 17) X dX11_end_12 (by decide) (fun c12 => ?_) (fun c12 => ?_)
    · rw [if_pos c12] at hM
      refine g_aload_n X dX11_end_17 rfl ?_
      refine g_getR X fX11_12 cC_0 rfl dX11_end_18 ?_
      refine g_iload_n X dX11_end_21 rfl ?_
      refine g_putI X fX11_91 gc_X9 gp_X9_0 cC_1 rfl dX11_end_22 ?_
      refine g_iconst X (v := 1) dX11_end_25 (by decide) ?_
      cases hM
      exact g_zret X (Or.inr rfl) dX11_end_26
    · rw [if_neg c12] at hM
      refine g_mk [false, false] [none, none] rfl ?_
      exact v_X11_end_b15 X  hM
theorem s_X11_end {x1 : Int32} {u : gM} {w : (Int32 × gM)} (hM : X11_end x1 u = some w) : gMet skC yX11_end cX11_end 2 (some .boolean) 0 0 (fun B adK => [.ref (B + 0), .int x1]) u ((fun _ => some (.int w.1)), w.2) := by
  refine gMet.of (by decide) (fun _ _ => Nat.le_of_ble_eq_true rfl) (fun κ B X => ?_)
  have X : gX κ B skC cX11_end 2 RX11 (some .boolean) 0 0 := X
  refine g_mk [true, true] [some (.ref (B + 0)), some (.int x1)] rfl ?_
  exact v_X11_end X  hM
theorem fr_X11_end_b15 {S : Nat → Prop} {u0 u : gM}     {w : (Int32 × gM)} (hM : X11_end_b15 u = some w) (h0 : off S u0 u) : off S u0 w.2 := by
  unfold X11_end_b15 at hM
  cases hM
  exact h0
theorem fr_X11_end {S : Nat → Prop} {u0 u : gM} {x1 : Int32} (hs0 : S 1)   {w : (Int32 × gM)} (hM : X11_end x1 u = some w) (h0 : off S u0 u) : off S u0 w.2 := by
  unfold X11_end at hM
  by_cases c1 : x1 < 0
  · rw [if_pos c1] at hM
    exact fr_X11_end_b15   hM h0
  · rw [if_neg c1] at hM
    by_cases c12 : x1 ≤ (u.1 1 0)
    · rw [if_pos c12] at hM
      have h0 := off_upI (u := u) (k := 1) (j := 0) (x := x1) hs0 h0
      cases hM
      exact h0
    · rw [if_neg c12] at hM
      exact fr_X11_end_b15   hM h0
/-! CoverDesk.fail(II)Z -/
theorem dX11_fail_0 : decode cX11_fail 0 = .ok (.aload_n 0, 1) := by decide +kernel
theorem dX11_fail_1 : decode cX11_fail 1 = .ok (.getfield 33, 3) := by decide +kernel
theorem dX11_fail_4 : decode cX11_fail 4 = .ok (.aload_n 0, 1) := by decide +kernel
theorem dX11_fail_5 : decode cX11_fail 5 = .ok (.getfield 26, 3) := by decide +kernel
theorem dX11_fail_8 : decode cX11_fail 8 = .ok (.invokevirtual 122, 3) := by decide +kernel
theorem dX11_fail_11 : decode cX11_fail 11 = .ok (.aload_n 0, 1) := by decide +kernel
theorem dX11_fail_12 : decode cX11_fail 12 = .ok (.getfield 33, 3) := by decide +kernel
theorem dX11_fail_15 : decode cX11_fail 15 = .ok (.aload_n 0, 1) := by decide +kernel
theorem dX11_fail_16 : decode cX11_fail 16 = .ok (.getfield 69, 3) := by decide +kernel
theorem dX11_fail_19 : decode cX11_fail 19 = .ok (.bipush 20, 2) := by decide +kernel
theorem dX11_fail_21 : decode cX11_fail 21 = .ok (.iload_n 1, 1) := by decide +kernel
theorem dX11_fail_22 : decode cX11_fail 22 = .ok (.iload_n 2, 1) := by decide +kernel
theorem dX11_fail_23 : decode cX11_fail 23 = .ok (.invokevirtual 136, 3) := by decide +kernel
theorem dX11_fail_26 : decode cX11_fail 26 = .ok (.invokevirtual 140, 3) := by decide +kernel
theorem dX11_fail_29 : decode cX11_fail 29 = .ok (.ireturn, 1) := by decide +kernel
def X11_fail  (x1 : Int32) (x2 : Int32) (u : gM) : Option (Int32 × gM) :=
((X7_keep 18 u).bind fun w8 => ((X3_act 20 x1 x2 w8).bind fun w23 => ((X7_confirm w23.1 w23.2).bind fun w26 => ((bI w26.1).bind fun v29 => some (v29, w26.2)))))
set_option maxRecDepth 20000 in
theorem v_X11_fail {κ : gK} {B : Nat} {u : gM} (X : gX κ B skC cX11_fail 3 RX11 (some .boolean) 7 168)   {x1 : Int32} {x2 : Int32} {w : (Int32 × gM)} (hM : X11_fail x1 x2 u = some w) : gV κ B skC 3 ((some (.int w.1)), w.2) 0 [some (.ref (B + 0)), some (.int x1), some (.int x2)] [] u := by
  unfold X11_fail at hM
  refine g_aload_n X dX11_fail_0 rfl ?_
  refine g_getR X fX11_33 cC_0 rfl dX11_fail_1 ?_
  refine g_aload_n X dX11_fail_4 rfl ?_
  refine g_getR X fX11_26 cC_0 rfl dX11_fail_5 ?_
  obtain ⟨w8, e8, hM⟩ := bind_of hM
  refine g_callVv X (fun B adK => [.ref (B + 18)]) (s_X7_keep e8) cvX11_122 cC_30 rfl rfl (Nat.le_of_ble_eq_true rfl) ⟨by decide, by decide⟩ dX11_fail_8 ?_
  refine g_aload_n X dX11_fail_11 rfl ?_
  refine g_getR X fX11_33 cC_0 rfl dX11_fail_12 ?_
  refine g_aload_n X dX11_fail_15 rfl ?_
  refine g_getR X fX11_69 cC_0 rfl dX11_fail_16 ?_
  refine g_bipush X (v := 20) dX11_fail_19 (by decide) ?_
  refine g_iload_n X dX11_fail_21 rfl ?_
  refine g_iload_n X dX11_fail_22 rfl ?_
  obtain ⟨w23, e23, hM⟩ := bind_of hM
  refine g_callVi X (fun B adK => [.int 20, .int x1, .int x2]) (s_X3_act e23) cvX11_136 cC_145 rfl rfl (Nat.le_of_ble_eq_true rfl) ⟨by decide, by decide⟩ dX11_fail_23 ?_
  obtain ⟨w26, e26, hM⟩ := bind_of hM
  refine g_callVi X (fun B adK => [.int w23.1]) (s_X7_confirm e26) cvX11_140 cC_30 rfl rfl (Nat.le_of_ble_eq_true rfl) ⟨by decide, by decide⟩ dX11_fail_26 ?_
  obtain ⟨v29, e29, hM⟩ := bind_of hM
  obtain ⟨hv, rfl⟩ := bI_of e29
  cases hM
  exact g_zret X hv dX11_fail_29
theorem s_X11_fail {x1 : Int32} {x2 : Int32} {u : gM} {w : (Int32 × gM)} (hM : X11_fail x1 x2 u = some w) : gMet skC yX11_fail cX11_fail 3 (some .boolean) 7 168 (fun B adK => [.ref (B + 0), .int x1, .int x2]) u ((fun _ => some (.int w.1)), w.2) := by
  refine gMet.of (by decide) (fun _ _ => Nat.le_of_ble_eq_true rfl) (fun κ B X => ?_)
  have X : gX κ B skC cX11_fail 3 RX11 (some .boolean) 7 168 := X
  refine g_mk [true, true, true] [some (.ref (B + 0)), some (.int x1), some (.int x2)] rfl ?_
  exact v_X11_fail X  hM

/-! CoverDesk.fault(I)I -/
theorem dX11_fault_0 : decode cX11_fault 0 = .ok (.iload_n 1, 1) := by decide +kernel
theorem dX11_fault_1 : decode cX11_fault 1 = .ok (.lookupswitch 43 #[(0, 27), (1, 35)], 27) := by decide +kernel
theorem dX11_fault_28 : decode cX11_fault 28 = .ok (.aload_n 0, 1) := by decide +kernel
theorem dX11_fault_29 : decode cX11_fault 29 = .ok (.getfield 12, 3) := by decide +kernel
theorem dX11_fault_32 : decode cX11_fault 32 = .ok (.getfield 144, 3) := by decide +kernel
theorem dX11_fault_35 : decode cX11_fault 35 = .ok (.ireturn, 1) := by decide +kernel
theorem dX11_fault_36 : decode cX11_fault 36 = .ok (.aload_n 0, 1) := by decide +kernel
theorem dX11_fault_37 : decode cX11_fault 37 = .ok (.getfield 12, 3) := by decide +kernel
theorem dX11_fault_40 : decode cX11_fault 40 = .ok (.getfield 147, 3) := by decide +kernel
theorem dX11_fault_43 : decode cX11_fault 43 = .ok (.ireturn, 1) := by decide +kernel
theorem dX11_fault_44 : decode cX11_fault 44 = .ok (.iconst (-1), 1) := by decide +kernel
theorem dX11_fault_45 : decode cX11_fault 45 = .ok (.ireturn, 1) := by decide +kernel
def X11_fault (u : gM)  (x1 : Int32) : Option Int32 :=
(if x1 = 0 then some (u.1 1 1)
  else (if x1 = 1 then some (u.1 1 2)
  else some (-1)))
set_option maxRecDepth 20000 in
theorem v_X11_fault {κ : gK} {B : Nat} {u : gM} (X : gX κ B skC cX11_fault 2 RX11 (some .int) 0 0)   {x1 : Int32} {w : Int32} (hM : X11_fault u x1 = some w) : gV κ B skC 2 ((some (.int w)), u) 0 [some (.ref (B + 0)), some (.int x1)] [] u := by
  unfold X11_fault at hM
  refine g_iload_n X dX11_fault_0 rfl ?_
  by_cases h1_0 : x1 = 0
  · rw [if_pos h1_0] at hM
    refine g_look (tgt := 28) (off := 27) X dX11_fault_1 (by decide) (by rw [h1_0]; decide) (by decide) ?_
    refine g_aload_n X dX11_fault_28 rfl ?_
    refine g_getR X fX11_12 cC_0 rfl dX11_fault_29 ?_
    refine g_getI X fX11_144 cC_1 rfl dX11_fault_32 ?_
    cases hM
    exact g_iret X dX11_fault_35
  rw [if_neg h1_0] at hM
  by_cases h1_1 : x1 = 1
  · rw [if_pos h1_1] at hM
    refine g_look (tgt := 36) (off := 35) X dX11_fault_1 (by decide) (by rw [h1_1]; decide) (by decide) ?_
    refine g_aload_n X dX11_fault_36 rfl ?_
    refine g_getR X fX11_12 cC_0 rfl dX11_fault_37 ?_
    refine g_getI X fX11_147 cC_1 rfl dX11_fault_40 ?_
    cases hM
    exact g_iret X dX11_fault_43
  rw [if_neg h1_1] at hM
  refine g_look (tgt := 44) (off := 43) X dX11_fault_1 (by decide) (by rw [lv_osw h1_0 (by decide)]; rw [lv_osw h1_1 (by decide)]; rfl) (by decide) ?_
  refine g_iconst X (v := (-1)) dX11_fault_44 (by decide) ?_
  cases hM
  exact g_iret X dX11_fault_45
theorem s_X11_fault {x1 : Int32} {u : gM} {w : Int32} (hM : X11_fault u x1 = some w) : gMet skC yX11_fault cX11_fault 2 (some .int) 0 0 (fun B adK => [.ref (B + 0), .int x1]) u ((fun _ => some (.int w)), u) := by
  refine gMet.of (by decide) (fun _ _ => Nat.le_of_ble_eq_true rfl) (fun κ B X => ?_)
  have X : gX κ B skC cX11_fault 2 RX11 (some .int) 0 0 := X
  refine g_mk [true, true] [some (.ref (B + 0)), some (.int x1)] rfl ?_
  exact v_X11_fault X  hM

/-! CoverDesk$Tape.append(I)V -/
theorem dX9_append_0 : decode cX9_append 0 = .ok (.bipush 24, 2) := by decide +kernel
theorem dX9_append_2 : decode cX9_append 2 = .ok (.istore_n 2, 1) := by decide +kernel
theorem dX9_append_3 : decode cX9_append 3 = .ok (.iload_n 2, 1) := by decide +kernel
theorem dX9_append_4 : decode cX9_append 4 = .ok (.ifCond .lt 44, 3) := by decide +kernel
theorem dX9_append_7 : decode cX9_append 7 = .ok (.aload_n 0, 1) := by decide +kernel
theorem dX9_append_8 : decode cX9_append 8 = .ok (.getfield 19, 3) := by decide +kernel
theorem dX9_append_11 : decode cX9_append 11 = .ok (.aload_n 0, 1) := by decide +kernel
theorem dX9_append_12 : decode cX9_append 12 = .ok (.getfield 15, 3) := by decide +kernel
theorem dX9_append_15 : decode cX9_append 15 = .ok (.arraylength, 1) := by decide +kernel
theorem dX9_append_16 : decode cX9_append 16 = .ok (.if_icmp .ge 32, 3) := by decide +kernel
theorem dX9_append_19 : decode cX9_append 19 = .ok (.aload_n 0, 1) := by decide +kernel
theorem dX9_append_20 : decode cX9_append 20 = .ok (.getfield 15, 3) := by decide +kernel
theorem dX9_append_23 : decode cX9_append 23 = .ok (.aload_n 0, 1) := by decide +kernel
theorem dX9_append_24 : decode cX9_append 24 = .ok (.getfield 19, 3) := by decide +kernel
theorem dX9_append_27 : decode cX9_append 27 = .ok (.iload_n 1, 1) := by decide +kernel
theorem dX9_append_28 : decode cX9_append 28 = .ok (.iload_n 2, 1) := by decide +kernel
theorem dX9_append_29 : decode cX9_append 29 = .ok (.ishr, 1) := by decide +kernel
theorem dX9_append_30 : decode cX9_append 30 = .ok (.i2b, 1) := by decide +kernel
theorem dX9_append_31 : decode cX9_append 31 = .ok (.bastore, 1) := by decide +kernel
theorem dX9_append_32 : decode cX9_append 32 = .ok (.aload_n 0, 1) := by decide +kernel
theorem dX9_append_33 : decode cX9_append 33 = .ok (.dup, 1) := by decide +kernel
theorem dX9_append_34 : decode cX9_append 34 = .ok (.getfield 19, 3) := by decide +kernel
theorem dX9_append_37 : decode cX9_append 37 = .ok (.iconst 1, 1) := by decide +kernel
theorem dX9_append_38 : decode cX9_append 38 = .ok (.iadd, 1) := by decide +kernel
theorem dX9_append_39 : decode cX9_append 39 = .ok (.putfield 19, 3) := by decide +kernel
theorem dX9_append_42 : decode cX9_append 42 = .ok (.iinc 2 (-8), 3) := by decide +kernel
theorem dX9_append_45 : decode cX9_append 45 = .ok (.goto (-42), 3) := by decide +kernel
theorem dX9_append_48 : decode cX9_append 48 = .ok (.return_, 1) := by decide +kernel
def X9_append_b48   (u : gM) : Option gM :=
some u
def X9_append_b3 (k3 : Int32 → Int32 → gM → Option gM) (x1 : Int32) (x2 : Int32) (u : gM) : Option gM :=
(if x2 < 0 then (X9_append_b48 u)
  else ((aL skC 2).bind fun v15 => (if v15 ≤ (u.1 1 0) then (X9_append_b48 u)
    else ((sB skC u 2 (u.1 1 0) (x1 >>> (x2 &&& 31)).toInt8.toInt32).bind fun u31 => (k3 x1 (x2 + (-8)) (upI u31 1 0 ((u31.1 1 0) + 1)))))))
def X9_append_l3  : Nat → Int32 → Int32 → gM → Option gM
  | 0, _, _, _ => none
  | n + 1, x1, x2, u => X9_append_b3  (X9_append_l3  n) x1 x2 u
def X9_append  (x1 : Int32) (u : gM) : Option gM :=
(X9_append_l3 fz x1 24 u)
set_option maxRecDepth 20000 in
theorem v_X9_append_b48 {κ : gK} {B : Nat} {u : gM} (X : gX κ B skC cX9_append 3 RX9 none 0 0)    {w : gM} (hM : X9_append_b48 u = some w) : gV κ B skC 3 ((none), w) 48 [none, none, none] [] u := by
  unfold X9_append_b48 at hM
  cases hM
  exact g_vret X dX9_append_48
set_option maxRecDepth 20000 in
theorem v_X9_append_b3 {κ : gK} {B : Nat} {u : gM} (X : gX κ B skC cX9_append 3 RX9 none 0 0) {k3 : Int32 → Int32 → gM → Option gM} (ih3 : ∀ (x1 : Int32) (x2 : Int32) (u : gM) (w : gM), k3 x1 x2 u = some w → gV κ B skC 3 ((none), w) 3 [some (.ref (B + 1)), some (.int x1), some (.int x2)] [] u) {x1 : Int32} {x2 : Int32} {w : gM} (hM : X9_append_b3 k3 x1 x2 u = some w) : gV κ B skC 3 ((none), w) 3 [some (.ref (B + 1)), some (.int x1), some (.int x2)] [] u := by
  unfold X9_append_b3 at hM
  refine g_iload_n X dX9_append_3 rfl ?_
  refine g_if_lt (tgt := 48) X dX9_append_4 (by decide) (fun c4 => ?_) (fun c4 => ?_)
  · rw [if_pos c4] at hM
    refine g_mk [false, false, false] [none, none, none] rfl ?_
    exact v_X9_append_b48 X  hM
  · rw [if_neg c4] at hM
    refine g_aload_n X dX9_append_7 rfl ?_
    refine g_getI X fX9_19 cC_1 rfl dX9_append_8 ?_
    refine g_aload_n X dX9_append_11 rfl ?_
    refine g_getR X fX9_15 cC_1 rfl dX9_append_12 ?_
    obtain ⟨v15, e15, hM⟩ := bind_of hM
    refine g_alen X e15 dX9_append_15 skC_t ?_
    refine g_icmp_ge (tgt := 48) X dX9_append_16 (by decide) (fun c16 => ?_) (fun c16 => ?_)
    · rw [if_pos c16] at hM
      refine g_mk [false, false, false] [none, none, none] rfl ?_
      exact v_X9_append_b48 X  hM
    · rw [if_neg c16] at hM
      refine g_aload_n X dX9_append_19 rfl ?_
      refine g_getR X fX9_15 cC_1 rfl dX9_append_20 ?_
      refine g_aload_n X dX9_append_23 rfl ?_
      refine g_getI X fX9_19 cC_1 rfl dX9_append_24 ?_
      refine g_iload_n X dX9_append_27 rfl ?_
      refine g_iload_n X dX9_append_28 rfl ?_
      refine g_ishr X dX9_append_29 ?_
      refine g_i2b X dX9_append_30 ?_
      obtain ⟨u31, e31, hM⟩ := bind_of hM
      refine g_bastore X e31 dX9_append_31 ?_
      refine g_aload_n X dX9_append_32 rfl ?_
      refine g_dup X rfl dX9_append_33 ?_
      refine g_getI X fX9_19 cC_1 rfl dX9_append_34 ?_
      refine g_iconst X (v := 1) dX9_append_37 (by decide) ?_
      refine g_iadd X dX9_append_38 ?_
      refine g_putI X fX9_19 gc_X9 gp_X9_0 cC_1 rfl dX9_append_39 ?_
      refine g_iinc (d := (-8)) X [some (.ref (B + 1)), some (.int x1), some (.int (x2 + (-8)))] dX9_append_42 (by decide) rfl (by decide) rfl ?_
      refine g_goto (tgt := 3) X dX9_append_45 (by decide) ?_
      refine g_mk [true, true, true] [some (.ref (B + 1)), some (.int x1), some (.int (x2 + (-8)))] rfl ?_
      exact ih3 x1 (x2 + (-8)) (upI u31 1 0 ((u31.1 1 0) + 1)) _ hM
theorem v_X9_append_l3 {κ : gK} {B : Nat} (X : gX κ B skC cX9_append 3 RX9 none 0 0)   : ∀ (n : Nat) {x1 : Int32} {x2 : Int32} {u : gM} {w : gM} (hM : X9_append_l3  n x1 x2 u = some w), gV κ B skC 3 ((none), w) 3 [some (.ref (B + 1)), some (.int x1), some (.int x2)] [] u := by
  intro n
  induction n with
  | zero => intro x1 x2 u w hM; exact nomatch (show (none : Option gM) = some w from hM)
  | succ n ihn => intro x1 x2 u w hM; exact v_X9_append_b3 X  (fun x1 x2 u w h => ihn h) hM
set_option maxRecDepth 20000 in
theorem v_X9_append {κ : gK} {B : Nat} {u : gM} (X : gX κ B skC cX9_append 3 RX9 none 0 0)   {x1 : Int32} {w : gM} (hM : X9_append x1 u = some w) : gV κ B skC 3 ((none), w) 0 [some (.ref (B + 1)), some (.int x1), none] [] u := by
  unfold X9_append at hM
  refine g_bipush X (v := 24) dX9_append_0 (by decide) ?_
  refine g_istore_n X [some (.ref (B + 1)), some (.int x1), some (.int 24)] dX9_append_2 (by decide) rfl ?_
  refine g_mk [true, true, true] [some (.ref (B + 1)), some (.int x1), some (.int 24)] rfl ?_
  exact v_X9_append_l3 X  fz hM
theorem s_X9_append {x1 : Int32} {u : gM} {w : gM} (hM : X9_append x1 u = some w) : gMet skC yX9_append cX9_append 3 none 0 0 (fun B adK => [.ref (B + 1), .int x1]) u ((fun _ => none), w) := by
  refine gMet.of (by decide) (fun _ _ => Nat.le_of_ble_eq_true rfl) (fun κ B X => ?_)
  have X : gX κ B skC cX9_append 3 RX9 none 0 0 := X
  refine g_mk [true, true, false] [some (.ref (B + 1)), some (.int x1), none] rfl ?_
  exact v_X9_append X  hM
theorem fr_X9_append_b48 {S : Nat → Prop} {u0 u : gM}     {w : gM} (hM : X9_append_b48 u = some w) (h0 : off S u0 u) : off S u0 w := by
  unfold X9_append_b48 at hM
  cases hM
  exact h0
theorem fr_X9_append_b3 {S : Nat → Prop} {u0 u : gM} {x1 : Int32} {x2 : Int32} (hs0 : S 1) (hs1 : S 2) {k3 : Int32 → Int32 → gM → Option gM} (ik3 : ∀ (x1 : Int32) (x2 : Int32) (u : gM) (w : gM), S 1 → S 2 → off S u0 u → k3 x1 x2 u = some w → off S u0 w) {w : gM} (hM : X9_append_b3 k3 x1 x2 u = some w) (h0 : off S u0 u) : off S u0 w := by
  unfold X9_append_b3 at hM
  by_cases c4 : x2 < 0
  · rw [if_pos c4] at hM
    exact fr_X9_append_b48   hM h0
  · rw [if_neg c4] at hM
    obtain ⟨v15, e15, hM⟩ := bind_of hM
    by_cases c16 : v15 ≤ (u.1 1 0)
    · rw [if_pos c16] at hM
      exact fr_X9_append_b48   hM h0
    · rw [if_neg c16] at hM
      obtain ⟨u31, e31, hM⟩ := bind_of hM
      have h0 := off_sB hs1 e31 h0
      have h0 := off_upI (u := u31) (k := 1) (j := 0) (x := ((u31.1 1 0) + 1)) hs0 h0
      exact ik3 _ _ _ _ hs0 hs1 h0 hM
theorem fr_X9_append_l3 {S : Nat → Prop} {u0 : gM}   : ∀ (n : Nat) {x1 : Int32} {x2 : Int32} (hs0 : S 1) (hs1 : S 2) {u : gM} {w : gM} (h0 : off S u0 u) (hM : X9_append_l3  n x1 x2 u = some w), off S u0 w := by
  intro n
  induction n with
  | zero => intro x1 x2 hs0 hs1 u w h0 hM; exact nomatch (show (none : Option gM) = some w from hM)
  | succ n ihn => intro x1 x2 hs0 hs1 u w h0 hM; exact fr_X9_append_b3 hs0 hs1  (fun x1 x2 _ _ hs0 hs1 h0 h => ihn hs0 hs1 h0 h) hM h0
theorem fr_X9_append {S : Nat → Prop} {u0 u : gM} {x1 : Int32} (hs0 : S 1) (hs1 : S 2)   {w : gM} (hM : X9_append x1 u = some w) (h0 : off S u0 u) : off S u0 w := by
  unfold X9_append at hM
  exact fr_X9_append_l3  fz hs0 hs1 h0 hM
/-! CoverDesk.feed(IIIII)I -/
theorem dX11_feed_0 : decode cX11_feed 0 = .ok (.aload_n 0, 1) := by decide +kernel
theorem dX11_feed_1 : decode cX11_feed 1 = .ok (.getfield 12, 3) := by decide +kernel
theorem dX11_feed_4 : decode cX11_feed 4 = .ok (.getfield 91, 3) := by decide +kernel
theorem dX11_feed_7 : decode cX11_feed 7 = .ok (.sipush 680, 3) := by decide +kernel
theorem dX11_feed_10 : decode cX11_feed 10 = .ok (.if_icmp .le 5, 3) := by decide +kernel
theorem dX11_feed_13 : decode cX11_feed 13 = .ok (.iconst (-1), 1) := by decide +kernel
theorem dX11_feed_14 : decode cX11_feed 14 = .ok (.ireturn, 1) := by decide +kernel
theorem dX11_feed_15 : decode cX11_feed 15 = .ok (.aload_n 0, 1) := by decide +kernel
theorem dX11_feed_16 : decode cX11_feed 16 = .ok (.getfield 12, 3) := by decide +kernel
theorem dX11_feed_19 : decode cX11_feed 19 = .ok (.iload_n 1, 1) := by decide +kernel
theorem dX11_feed_20 : decode cX11_feed 20 = .ok (.invokevirtual 95, 3) := by decide +kernel
theorem dX11_feed_23 : decode cX11_feed 23 = .ok (.aload_n 0, 1) := by decide +kernel
theorem dX11_feed_24 : decode cX11_feed 24 = .ok (.getfield 12, 3) := by decide +kernel
theorem dX11_feed_27 : decode cX11_feed 27 = .ok (.iload_n 2, 1) := by decide +kernel
theorem dX11_feed_28 : decode cX11_feed 28 = .ok (.invokevirtual 95, 3) := by decide +kernel
theorem dX11_feed_31 : decode cX11_feed 31 = .ok (.aload_n 0, 1) := by decide +kernel
theorem dX11_feed_32 : decode cX11_feed 32 = .ok (.getfield 12, 3) := by decide +kernel
theorem dX11_feed_35 : decode cX11_feed 35 = .ok (.iload_n 3, 1) := by decide +kernel
theorem dX11_feed_36 : decode cX11_feed 36 = .ok (.invokevirtual 95, 3) := by decide +kernel
theorem dX11_feed_39 : decode cX11_feed 39 = .ok (.aload_n 0, 1) := by decide +kernel
theorem dX11_feed_40 : decode cX11_feed 40 = .ok (.getfield 12, 3) := by decide +kernel
theorem dX11_feed_43 : decode cX11_feed 43 = .ok (.iload 4, 2) := by decide +kernel
theorem dX11_feed_45 : decode cX11_feed 45 = .ok (.invokevirtual 95, 3) := by decide +kernel
theorem dX11_feed_48 : decode cX11_feed 48 = .ok (.aload_n 0, 1) := by decide +kernel
theorem dX11_feed_49 : decode cX11_feed 49 = .ok (.getfield 12, 3) := by decide +kernel
theorem dX11_feed_52 : decode cX11_feed 52 = .ok (.iload 5, 2) := by decide +kernel
theorem dX11_feed_54 : decode cX11_feed 54 = .ok (.invokevirtual 95, 3) := by decide +kernel
theorem dX11_feed_57 : decode cX11_feed 57 = .ok (.aload_n 0, 1) := by decide +kernel
theorem dX11_feed_58 : decode cX11_feed 58 = .ok (.getfield 12, 3) := by decide +kernel
theorem dX11_feed_61 : decode cX11_feed 61 = .ok (.getfield 91, 3) := by decide +kernel
theorem dX11_feed_64 : decode cX11_feed 64 = .ok (.ireturn, 1) := by decide +kernel
def X11_feed  (x1 : Int32) (x2 : Int32) (x3 : Int32) (x4 : Int32) (x5 : Int32) (u : gM) : Option (Int32 × gM) :=
(if (u.1 1 0) ≤ 680 then ((X9_append x1 u).bind fun w20 => ((X9_append x2 w20).bind fun w28 => ((X9_append x3 w28).bind fun w36 => ((X9_append x4 w36).bind fun w45 => ((X9_append x5 w45).bind fun w54 => some ((w54.1 1 0), w54))))))
  else some ((-1), u))
set_option maxRecDepth 20000 in
theorem v_X11_feed {κ : gK} {B : Nat} {u : gM} (X : gX κ B skC cX11_feed 6 RX11 (some .int) 1 22)   {x1 : Int32} {x2 : Int32} {x3 : Int32} {x4 : Int32} {x5 : Int32} {w : (Int32 × gM)} (hM : X11_feed x1 x2 x3 x4 x5 u = some w) : gV κ B skC 6 ((some (.int w.1)), w.2) 0 [some (.ref (B + 0)), some (.int x1), some (.int x2), some (.int x3), some (.int x4), some (.int x5)] [] u := by
  unfold X11_feed at hM
  refine g_aload_n X dX11_feed_0 rfl ?_
  refine g_getR X fX11_12 cC_0 rfl dX11_feed_1 ?_
  refine g_getI X fX11_91 cC_1 rfl dX11_feed_4 ?_
  refine g_sipush X (v := 680) dX11_feed_7 (by decide) ?_
  refine g_icmp_le (tgt := 15) X dX11_feed_10 (by decide) (fun c10 => ?_) (fun c10 => ?_)
  · rw [if_pos c10] at hM
    refine g_aload_n X dX11_feed_15 rfl ?_
    refine g_getR X fX11_12 cC_0 rfl dX11_feed_16 ?_
    refine g_iload_n X dX11_feed_19 rfl ?_
    obtain ⟨w20, e20, hM⟩ := bind_of hM
    refine g_callVv X (fun B adK => [.int x1]) (s_X9_append e20) cvX11_95 cC_1 rfl rfl (Nat.le_of_ble_eq_true rfl) ⟨by decide, by decide⟩ dX11_feed_20 ?_
    refine g_aload_n X dX11_feed_23 rfl ?_
    refine g_getR X fX11_12 cC_0 rfl dX11_feed_24 ?_
    refine g_iload_n X dX11_feed_27 rfl ?_
    obtain ⟨w28, e28, hM⟩ := bind_of hM
    refine g_callVv X (fun B adK => [.int x2]) (s_X9_append e28) cvX11_95 cC_1 rfl rfl (Nat.le_of_ble_eq_true rfl) ⟨by decide, by decide⟩ dX11_feed_28 ?_
    refine g_aload_n X dX11_feed_31 rfl ?_
    refine g_getR X fX11_12 cC_0 rfl dX11_feed_32 ?_
    refine g_iload_n X dX11_feed_35 rfl ?_
    obtain ⟨w36, e36, hM⟩ := bind_of hM
    refine g_callVv X (fun B adK => [.int x3]) (s_X9_append e36) cvX11_95 cC_1 rfl rfl (Nat.le_of_ble_eq_true rfl) ⟨by decide, by decide⟩ dX11_feed_36 ?_
    refine g_aload_n X dX11_feed_39 rfl ?_
    refine g_getR X fX11_12 cC_0 rfl dX11_feed_40 ?_
    refine g_iload X dX11_feed_43 rfl ?_
    obtain ⟨w45, e45, hM⟩ := bind_of hM
    refine g_callVv X (fun B adK => [.int x4]) (s_X9_append e45) cvX11_95 cC_1 rfl rfl (Nat.le_of_ble_eq_true rfl) ⟨by decide, by decide⟩ dX11_feed_45 ?_
    refine g_aload_n X dX11_feed_48 rfl ?_
    refine g_getR X fX11_12 cC_0 rfl dX11_feed_49 ?_
    refine g_iload X dX11_feed_52 rfl ?_
    obtain ⟨w54, e54, hM⟩ := bind_of hM
    refine g_callVv X (fun B adK => [.int x5]) (s_X9_append e54) cvX11_95 cC_1 rfl rfl (Nat.le_of_ble_eq_true rfl) ⟨by decide, by decide⟩ dX11_feed_54 ?_
    refine g_aload_n X dX11_feed_57 rfl ?_
    refine g_getR X fX11_12 cC_0 rfl dX11_feed_58 ?_
    refine g_getI X fX11_91 cC_1 rfl dX11_feed_61 ?_
    cases hM
    exact g_iret X dX11_feed_64
  · rw [if_neg c10] at hM
    refine g_iconst X (v := (-1)) dX11_feed_13 (by decide) ?_
    cases hM
    exact g_iret X dX11_feed_14
theorem s_X11_feed {x1 : Int32} {x2 : Int32} {x3 : Int32} {x4 : Int32} {x5 : Int32} {u : gM} {w : (Int32 × gM)} (hM : X11_feed x1 x2 x3 x4 x5 u = some w) : gMet skC yX11_feed cX11_feed 6 (some .int) 1 22 (fun B adK => [.ref (B + 0), .int x1, .int x2, .int x3, .int x4, .int x5]) u ((fun _ => some (.int w.1)), w.2) := by
  refine gMet.of (by decide) (fun _ _ => Nat.le_of_ble_eq_true rfl) (fun κ B X => ?_)
  have X : gX κ B skC cX11_feed 6 RX11 (some .int) 1 22 := X
  refine g_mk [true, true, true, true, true, true] [some (.ref (B + 0)), some (.int x1), some (.int x2), some (.int x3), some (.int x4), some (.int x5)] rfl ?_
  exact v_X11_feed X  hM
theorem fr_X11_feed {S : Nat → Prop} {u0 u : gM} {x1 : Int32} {x2 : Int32} {x3 : Int32} {x4 : Int32} {x5 : Int32} (hs0 : S 1) (hs1 : S 2)   {w : (Int32 × gM)} (hM : X11_feed x1 x2 x3 x4 x5 u = some w) (h0 : off S u0 u) : off S u0 w.2 := by
  unfold X11_feed at hM
  by_cases c10 : (u.1 1 0) ≤ 680
  · rw [if_pos c10] at hM
    obtain ⟨w20, e20, hM⟩ := bind_of hM
    have h0 := fr_X9_append hs0 hs1 e20 h0
    obtain ⟨w28, e28, hM⟩ := bind_of hM
    have h0 := fr_X9_append hs0 hs1 e28 h0
    obtain ⟨w36, e36, hM⟩ := bind_of hM
    have h0 := fr_X9_append hs0 hs1 e36 h0
    obtain ⟨w45, e45, hM⟩ := bind_of hM
    have h0 := fr_X9_append hs0 hs1 e45 h0
    obtain ⟨w54, e54, hM⟩ := bind_of hM
    have h0 := fr_X9_append hs0 hs1 e54 h0
    cases hM
    exact h0
  · rw [if_neg c10] at hM
    cases hM
    exact h0

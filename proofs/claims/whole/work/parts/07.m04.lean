/-! CoverDesk.group(IIIII)J -/
theorem dX11_group_0 : decode cX11_group 0 = .ok (.aload_n 0, 1) := by decide +kernel
theorem dX11_group_1 : decode cX11_group 1 = .ok (.getfield 19, 3) := by decide +kernel
theorem dX11_group_4 : decode cX11_group 4 = .ok (.iload_n 1, 1) := by decide +kernel
theorem dX11_group_5 : decode cX11_group 5 = .ok (.invokevirtual 262, 3) := by decide +kernel
theorem dX11_group_8 : decode cX11_group 8 = .ok (.ifCond .eq 31, 3) := by decide +kernel
theorem dX11_group_11 : decode cX11_group 11 = .ok (.iload_n 2, 1) := by decide +kernel
theorem dX11_group_12 : decode cX11_group 12 = .ok (.ifCond .lt 27, 3) := by decide +kernel
theorem dX11_group_15 : decode cX11_group 15 = .ok (.iload_n 2, 1) := by decide +kernel
theorem dX11_group_16 : decode cX11_group 16 = .ok (.iconst 4, 1) := by decide +kernel
theorem dX11_group_17 : decode cX11_group 17 = .ok (.if_icmp .gt 22, 3) := by decide +kernel
theorem dX11_group_20 : decode cX11_group 20 = .ok (.aload_n 0, 1) := by decide +kernel
theorem dX11_group_21 : decode cX11_group 21 = .ok (.getfield 19, 3) := by decide +kernel
theorem dX11_group_24 : decode cX11_group 24 = .ok (.iload_n 3, 1) := by decide +kernel
theorem dX11_group_25 : decode cX11_group 25 = .ok (.invokevirtual 232, 3) := by decide +kernel
theorem dX11_group_28 : decode cX11_group 28 = .ok (.ifCond .eq 11, 3) := by decide +kernel
theorem dX11_group_31 : decode cX11_group 31 = .ok (.iload 4, 2) := by decide +kernel
theorem dX11_group_33 : decode cX11_group 33 = .ok (.invokestatic 265, 3) := by decide +kernel
theorem dX11_group_36 : decode cX11_group 36 = .ok (.ifCond .ne 7, 3) := by decide +kernel
theorem dX11_group_39 : decode cX11_group 39 = .ok (.ldc2_w 250, 3) := by decide +kernel
theorem dX11_group_42 : decode cX11_group 42 = .ok (.lreturn, 1) := by decide +kernel
theorem dX11_group_43 : decode cX11_group 43 = .ok (.aload_n 0, 1) := by decide +kernel
theorem dX11_group_44 : decode cX11_group 44 = .ok (.getfield 60, 3) := by decide +kernel
theorem dX11_group_47 : decode cX11_group 47 = .ok (.iload 4, 2) := by decide +kernel
theorem dX11_group_49 : decode cX11_group 49 = .ok (.invokevirtual 268, 3) := by decide +kernel
theorem dX11_group_52 : decode cX11_group 52 = .ok (.aload_n 0, 1) := by decide +kernel
theorem dX11_group_53 : decode cX11_group 53 = .ok (.getfield 60, 3) := by decide +kernel
theorem dX11_group_56 : decode cX11_group 56 = .ok (.iload_n 1, 1) := by decide +kernel
theorem dX11_group_57 : decode cX11_group 57 = .ok (.iload_n 2, 1) := by decide +kernel
theorem dX11_group_58 : decode cX11_group 58 = .ok (.iload_n 3, 1) := by decide +kernel
theorem dX11_group_59 : decode cX11_group 59 = .ok (.invokevirtual 271, 3) := by decide +kernel
theorem dX11_group_62 : decode cX11_group 62 = .ok (.aload_n 0, 1) := by decide +kernel
theorem dX11_group_63 : decode cX11_group 63 = .ok (.getfield 60, 3) := by decide +kernel
theorem dX11_group_66 : decode cX11_group 66 = .ok (.getfield 275, 3) := by decide +kernel
theorem dX11_group_69 : decode cX11_group 69 = .ok (.getfield 279, 3) := by decide +kernel
theorem dX11_group_72 : decode cX11_group 72 = .ok (.lstore 6, 2) := by decide +kernel
theorem dX11_group_74 : decode cX11_group 74 = .ok (.aload_n 0, 1) := by decide +kernel
theorem dX11_group_75 : decode cX11_group 75 = .ok (.getfield 60, 3) := by decide +kernel
theorem dX11_group_78 : decode cX11_group 78 = .ok (.iload_n 1, 1) := by decide +kernel
theorem dX11_group_79 : decode cX11_group 79 = .ok (.iload_n 2, 1) := by decide +kernel
theorem dX11_group_80 : decode cX11_group 80 = .ok (.invokevirtual 284, 3) := by decide +kernel
theorem dX11_group_83 : decode cX11_group 83 = .ok (.lstore 8, 2) := by decide +kernel
theorem dX11_group_85 : decode cX11_group 85 = .ok (.iload 5, 2) := by decide +kernel
theorem dX11_group_87 : decode cX11_group 87 = .ok (.tableswitch 55 0 3 #[29, 32, 35, 43], 29) := by decide +kernel
theorem dX11_group_116 : decode cX11_group 116 = .ok (.lload 6, 2) := by decide +kernel
theorem dX11_group_118 : decode cX11_group 118 = .ok (.lreturn, 1) := by decide +kernel
theorem dX11_group_119 : decode cX11_group 119 = .ok (.lload 8, 2) := by decide +kernel
theorem dX11_group_121 : decode cX11_group 121 = .ok (.lreturn, 1) := by decide +kernel
theorem dX11_group_122 : decode cX11_group 122 = .ok (.lload 6, 2) := by decide +kernel
theorem dX11_group_124 : decode cX11_group 124 = .ok (.lload 8, 2) := by decide +kernel
theorem dX11_group_126 : decode cX11_group 126 = .ok (.invokestatic 288, 3) := by decide +kernel
theorem dX11_group_129 : decode cX11_group 129 = .ok (.lreturn, 1) := by decide +kernel
theorem dX11_group_130 : decode cX11_group 130 = .ok (.aload_n 0, 1) := by decide +kernel
theorem dX11_group_131 : decode cX11_group 131 = .ok (.getfield 60, 3) := by decide +kernel
theorem dX11_group_134 : decode cX11_group 134 = .ok (.getfield 275, 3) := by decide +kernel
theorem dX11_group_137 : decode cX11_group 137 = .ok (.getfield 294, 3) := by decide +kernel
theorem dX11_group_140 : decode cX11_group 140 = .ok (.i2l, 1) := by decide +kernel
theorem dX11_group_141 : decode cX11_group 141 = .ok (.lreturn, 1) := by decide +kernel
theorem dX11_group_142 : decode cX11_group 142 = .ok (.ldc2_w 250, 3) := by decide +kernel
theorem dX11_group_145 : decode cX11_group 145 = .ok (.lreturn, 1) := by decide +kernel
def X11_group_b39   (u : gM) : Option (Int64 × gM) :=
some ((-1), u)
def X11_group  (x1 : Int32) (x2 : Int32) (x3 : Int32) (x4 : Int32) (x5 : Int32) (u : gM) : Option (Int64 × gM) :=
((X10_isPerson u 3 x1).bind fun w5 => (if w5 = 0 then (X11_group_b39 u)
  else (if x2 < 0 then (X11_group_b39 u)
    else (if 4 < x2 then (X11_group_b39 u)
      else ((X10_isBank u 3 x3).bind fun w25 => (if w25 = 0 then (X11_group_b39 u)
        else ((X11_isMonth u x4).bind fun w33 => (if w33 = 0 then (X11_group_b39 u)
          else ((X1_setMonth x4 u).bind fun w49 => ((X1_gather x1 x2 x3 w49).bind fun w59 => ((X1_most x1 x2 w59).bind fun w80 => (if x5 = 0 then some ((w59.2 138 1), w80.2)
            else (if x5 = 1 then some (w80.1, w80.2)
            else (if x5 = 2 then some ((mnJ (w59.2 138 1) w80.1), w80.2)
            else (if x5 = 3 then some ((w80.2.1 138 0).toInt64, w80.2)
            else some ((-1), w80.2))))))))))))))))
set_option maxRecDepth 20000 in
theorem v_X11_group_b39 {κ : gK} {B : Nat} {u : gM} (X : gX κ B skC cX11_group 10 RX11 (some .long) 4 96)    {w : (Int64 × gM)} (hM : X11_group_b39 u = some w) : gV κ B skC 10 ((some (.long w.1)), w.2) 39 [none, none, none, none, none, none, none, none, none, none] [] u := by
  unfold X11_group_b39 at hM
  refine g_ldc2 (v := (-1)) X m_50_11 dX11_group_39 ?_
  cases hM
  exact g_lret X dX11_group_42
set_option maxRecDepth 20000 in
theorem v_X11_group {κ : gK} {B : Nat} {u : gM} (X : gX κ B skC cX11_group 10 RX11 (some .long) 4 96)   {x1 : Int32} {x2 : Int32} {x3 : Int32} {x4 : Int32} {x5 : Int32} {w : (Int64 × gM)} (hM : X11_group x1 x2 x3 x4 x5 u = some w) : gV κ B skC 10 ((some (.long w.1)), w.2) 0 [some (.ref (B + 0)), some (.int x1), some (.int x2), some (.int x3), some (.int x4), some (.int x5), none, none, none, none] [] u := by
  unfold X11_group at hM
  refine g_aload_n X dX11_group_0 rfl ?_
  refine g_getR X fX11_19 cC_0 rfl dX11_group_1 ?_
  refine g_iload_n X dX11_group_4 rfl ?_
  obtain ⟨w5, e5, hM⟩ := bind_of hM
  refine g_callVi X (fun B adK => [.int x1]) (s_X10_isPerson e5) cvX11_262 cC_3 rfl rfl (Nat.le_of_ble_eq_true rfl) ⟨by decide, by decide⟩ dX11_group_5 ?_
  refine g_if_eq (tgt := 39) X dX11_group_8 (by decide) (fun c8 => ?_) (fun c8 => ?_)
  · rw [if_pos c8] at hM
    refine g_mk [false, false, false, false, false, false, false, false, false, false] [none, none, none, none, none, none, none, none, none, none] rfl ?_
    exact v_X11_group_b39 X  hM
  · rw [if_neg c8] at hM
    refine g_iload_n X dX11_group_11 rfl ?_
    refine g_if_lt (tgt := 39) X dX11_group_12 (by decide) (fun c12 => ?_) (fun c12 => ?_)
    · rw [if_pos c12] at hM
      refine g_mk [false, false, false, false, false, false, false, false, false, false] [none, none, none, none, none, none, none, none, none, none] rfl ?_
      exact v_X11_group_b39 X  hM
    · rw [if_neg c12] at hM
      refine g_iload_n X dX11_group_15 rfl ?_
      refine g_iconst X (v := 4) dX11_group_16 (by decide) ?_
      refine g_icmp_gt (tgt := 39) X dX11_group_17 (by decide) (fun c17 => ?_) (fun c17 => ?_)
      · rw [if_pos c17] at hM
        refine g_mk [false, false, false, false, false, false, false, false, false, false] [none, none, none, none, none, none, none, none, none, none] rfl ?_
        exact v_X11_group_b39 X  hM
      · rw [if_neg c17] at hM
        refine g_aload_n X dX11_group_20 rfl ?_
        refine g_getR X fX11_19 cC_0 rfl dX11_group_21 ?_
        refine g_iload_n X dX11_group_24 rfl ?_
        obtain ⟨w25, e25, hM⟩ := bind_of hM
        refine g_callVi X (fun B adK => [.int x3]) (s_X10_isBank e25) cvX11_232 cC_3 rfl rfl (Nat.le_of_ble_eq_true rfl) ⟨by decide, by decide⟩ dX11_group_25 ?_
        refine g_if_eq (tgt := 39) X dX11_group_28 (by decide) (fun c28 => ?_) (fun c28 => ?_)
        · rw [if_pos c28] at hM
          refine g_mk [false, false, false, false, false, false, false, false, false, false] [none, none, none, none, none, none, none, none, none, none] rfl ?_
          exact v_X11_group_b39 X  hM
        · rw [if_neg c28] at hM
          refine g_iload X dX11_group_31 rfl ?_
          obtain ⟨w33, e33, hM⟩ := bind_of hM
          refine g_callSi X (fun B adK => [.int x4]) (s_X11_isMonth e33) cvX11_265 rfl rfl (Nat.le_of_ble_eq_true rfl) ⟨by decide, by decide⟩ dX11_group_33 ?_
          refine g_if_ne (tgt := 43) X dX11_group_36 (by decide) (fun c36 => ?_) (fun c36 => ?_)
          · rw [if_neg c36] at hM
            refine g_aload_n X dX11_group_43 rfl ?_
            refine g_getR X fX11_60 cC_0 rfl dX11_group_44 ?_
            refine g_iload X dX11_group_47 rfl ?_
            obtain ⟨w49, e49, hM⟩ := bind_of hM
            refine g_callVv X (fun B adK => [.int x4]) (s_X1_setMonth e49) cvX11_268 cC_136 rfl rfl (Nat.le_of_ble_eq_true rfl) ⟨by decide, by decide⟩ dX11_group_49 ?_
            refine g_aload_n X dX11_group_52 rfl ?_
            refine g_getR X fX11_60 cC_0 rfl dX11_group_53 ?_
            refine g_iload_n X dX11_group_56 rfl ?_
            refine g_iload_n X dX11_group_57 rfl ?_
            refine g_iload_n X dX11_group_58 rfl ?_
            obtain ⟨w59, e59, hM⟩ := bind_of hM
            refine g_callVv X (fun B adK => [.int x1, .int x2, .int x3]) (s_X1_gather e59) cvX11_271 cC_136 rfl rfl (Nat.le_of_ble_eq_true rfl) ⟨by decide, by decide⟩ dX11_group_59 ?_
            refine g_aload_n X dX11_group_62 rfl ?_
            refine g_getR X fX11_60 cC_0 rfl dX11_group_63 ?_
            refine g_getR X fX11_275 cC_136 rfl dX11_group_66 ?_
            refine g_getJ X fX11_279 cC_138 rfl dX11_group_69 ?_
            refine g_lstore X [some (.ref (B + 0)), some (.int x1), some (.int x2), some (.int x3), some (.int x4), some (.int x5), some (.long (w59.2 138 1)), none, none, none] dX11_group_72 (by decide) rfl ?_
            refine g_aload_n X dX11_group_74 rfl ?_
            refine g_getR X fX11_60 cC_0 rfl dX11_group_75 ?_
            refine g_iload_n X dX11_group_78 rfl ?_
            refine g_iload_n X dX11_group_79 rfl ?_
            obtain ⟨w80, e80, hM⟩ := bind_of hM
            refine g_callVl X (fun B adK => [.int x1, .int x2]) (s_X1_most e80) cvX11_284 cC_136 rfl rfl (Nat.le_of_ble_eq_true rfl) ⟨by decide, by decide⟩ dX11_group_80 ?_
            refine g_lstore X [some (.ref (B + 0)), some (.int x1), some (.int x2), some (.int x3), some (.int x4), some (.int x5), some (.long (w59.2 138 1)), none, some (.long w80.1), none] dX11_group_83 (by decide) rfl ?_
            refine g_iload X dX11_group_85 rfl ?_
            by_cases h87_0 : x5 = 0
            · rw [if_pos h87_0] at hM
              refine g_tabIn (tgt := 116) (off := 29) X 0 h87_0 dX11_group_87 (by decide) (by decide) (by decide) (by decide) ?_
              refine g_lload X dX11_group_116 rfl ?_
              cases hM
              exact g_lret X dX11_group_118
            rw [if_neg h87_0] at hM
            by_cases h87_1 : x5 = 1
            · rw [if_pos h87_1] at hM
              refine g_tabIn (tgt := 119) (off := 32) X 1 h87_1 dX11_group_87 (by decide) (by decide) (by decide) (by decide) ?_
              refine g_lload X dX11_group_119 rfl ?_
              cases hM
              exact g_lret X dX11_group_121
            rw [if_neg h87_1] at hM
            by_cases h87_2 : x5 = 2
            · rw [if_pos h87_2] at hM
              refine g_tabIn (tgt := 122) (off := 35) X 2 h87_2 dX11_group_87 (by decide) (by decide) (by decide) (by decide) ?_
              refine g_lload X dX11_group_122 rfl ?_
              refine g_lload X dX11_group_124 rfl ?_
              refine g_minJ X m_51_13 ⟨by decide, Nat.le_of_ble_eq_true rfl⟩ dX11_group_126 ?_
              cases hM
              exact g_lret X dX11_group_129
            rw [if_neg h87_2] at hM
            by_cases h87_3 : x5 = 3
            · rw [if_pos h87_3] at hM
              refine g_tabIn (tgt := 130) (off := 43) X 3 h87_3 dX11_group_87 (by decide) (by decide) (by decide) (by decide) ?_
              refine g_aload_n X dX11_group_130 rfl ?_
              refine g_getR X fX11_60 cC_0 rfl dX11_group_131 ?_
              refine g_getR X fX11_275 cC_136 rfl dX11_group_134 ?_
              refine g_getI X fX11_294 cC_138 rfl dX11_group_137 ?_
              refine g_i2l X dX11_group_140 ?_
              cases hM
              exact g_lret X dX11_group_141
            rw [if_neg h87_3] at hM
            refine g_tabOut (tgt := 142) X dX11_group_87 (by have q0 := lv_neT (a := 0) h87_0 (by decide); have q1 := lv_neT (a := 1) h87_1 (by decide); have q2 := lv_neT (a := 2) h87_2 (by decide); have q3 := lv_neT (a := 3) h87_3 (by decide); omega) (by decide) ?_
            refine g_ldc2 (v := (-1)) X m_50_11 dX11_group_142 ?_
            cases hM
            exact g_lret X dX11_group_145
          · rw [if_pos c36] at hM
            refine g_mk [false, false, false, false, false, false, false, false, false, false] [none, none, none, none, none, none, none, none, none, none] rfl ?_
            exact v_X11_group_b39 X  hM
theorem s_X11_group {x1 : Int32} {x2 : Int32} {x3 : Int32} {x4 : Int32} {x5 : Int32} {u : gM} {w : (Int64 × gM)} (hM : X11_group x1 x2 x3 x4 x5 u = some w) : gMet skC yX11_group cX11_group 10 (some .long) 4 96 (fun B adK => [.ref (B + 0), .int x1, .int x2, .int x3, .int x4, .int x5]) u ((fun _ => some (.long w.1)), w.2) := by
  refine gMet.of (by decide) (fun _ _ => Nat.le_of_ble_eq_true rfl) (fun κ B X => ?_)
  have X : gX κ B skC cX11_group 10 RX11 (some .long) 4 96 := X
  refine g_mk [true, true, true, true, true, true, false, false, false, false] [some (.ref (B + 0)), some (.int x1), some (.int x2), some (.int x3), some (.int x4), some (.int x5), none, none, none, none] rfl ?_
  exact v_X11_group X  hM
theorem fr_X11_group_b39 {S : Nat → Prop} {u0 u : gM}     {w : (Int64 × gM)} (hM : X11_group_b39 u = some w) (h0 : off S u0 u) : off S u0 w.2 := by
  unfold X11_group_b39 at hM
  cases hM
  exact h0
theorem fr_X11_group {S : Nat → Prop} {u0 u : gM} {x1 : Int32} {x2 : Int32} {x3 : Int32} {x4 : Int32} {x5 : Int32} (hs0 : S (rf skC 138 2)) (hs1 : S 138) (hs2 : S 142) (hs3 : S 143) (hs4 : S 144)   {w : (Int64 × gM)} (hM : X11_group x1 x2 x3 x4 x5 u = some w) (h0 : off S u0 u) : off S u0 w.2 := by
  unfold X11_group at hM
  obtain ⟨w5, e5, hM⟩ := bind_of hM
  by_cases c8 : w5 = 0
  · rw [if_pos c8] at hM
    exact fr_X11_group_b39   hM h0
  · rw [if_neg c8] at hM
    by_cases c12 : x2 < 0
    · rw [if_pos c12] at hM
      exact fr_X11_group_b39   hM h0
    · rw [if_neg c12] at hM
      by_cases c17 : 4 < x2
      · rw [if_pos c17] at hM
        exact fr_X11_group_b39   hM h0
      · rw [if_neg c17] at hM
        obtain ⟨w25, e25, hM⟩ := bind_of hM
        by_cases c28 : w25 = 0
        · rw [if_pos c28] at hM
          exact fr_X11_group_b39   hM h0
        · rw [if_neg c28] at hM
          obtain ⟨w33, e33, hM⟩ := bind_of hM
          by_cases c36 : w33 = 0
          · rw [if_pos c36] at hM
            exact fr_X11_group_b39   hM h0
          · rw [if_neg c36] at hM
            obtain ⟨w49, e49, hM⟩ := bind_of hM
            have h0 := fr_X1_setMonth hs2 e49 h0
            obtain ⟨w59, e59, hM⟩ := bind_of hM
            have h0 := fr_X1_gather hs0 hs1 hs3 e59 h0
            obtain ⟨w80, e80, hM⟩ := bind_of hM
            have h0 := fr_X1_most hs4 e80 h0
            by_cases h87_0 : x5 = 0
            · rw [if_pos h87_0] at hM
              cases hM
              exact h0
            rw [if_neg h87_0] at hM
            by_cases h87_1 : x5 = 1
            · rw [if_pos h87_1] at hM
              cases hM
              exact h0
            rw [if_neg h87_1] at hM
            by_cases h87_2 : x5 = 2
            · rw [if_pos h87_2] at hM
              cases hM
              exact h0
            rw [if_neg h87_2] at hM
            by_cases h87_3 : x5 = 3
            · rw [if_pos h87_3] at hM
              cases hM
              exact h0
            rw [if_neg h87_3] at hM
            cases hM
            exact h0
/-! CoverDesk.heirMore(I)J -/
theorem dX11_heirMore_0 : decode cX11_heirMore 0 = .ok (.aload_n 0, 1) := by decide +kernel
theorem dX11_heirMore_1 : decode cX11_heirMore 1 = .ok (.getfield 19, 3) := by decide +kernel
theorem dX11_heirMore_4 : decode cX11_heirMore 4 = .ok (.iload_n 1, 1) := by decide +kernel
theorem dX11_heirMore_5 : decode cX11_heirMore 5 = .ok (.invokevirtual 177, 3) := by decide +kernel
theorem dX11_heirMore_8 : decode cX11_heirMore 8 = .ok (.ifCond .eq 30, 3) := by decide +kernel
theorem dX11_heirMore_11 : decode cX11_heirMore 11 = .ok (.aload_n 0, 1) := by decide +kernel
theorem dX11_heirMore_12 : decode cX11_heirMore 12 = .ok (.getfield 19, 3) := by decide +kernel
theorem dX11_heirMore_15 : decode cX11_heirMore 15 = .ok (.getfield 181, 3) := by decide +kernel
theorem dX11_heirMore_18 : decode cX11_heirMore 18 = .ok (.iload_n 1, 1) := by decide +kernel
theorem dX11_heirMore_19 : decode cX11_heirMore 19 = .ok (.iaload, 1) := by decide +kernel
theorem dX11_heirMore_20 : decode cX11_heirMore 20 = .ok (.iconst 2, 1) := by decide +kernel
theorem dX11_heirMore_21 : decode cX11_heirMore 21 = .ok (.if_icmp .ne 17, 3) := by decide +kernel
theorem dX11_heirMore_24 : decode cX11_heirMore 24 = .ok (.aload_n 0, 1) := by decide +kernel
theorem dX11_heirMore_25 : decode cX11_heirMore 25 = .ok (.getfield 19, 3) := by decide +kernel
theorem dX11_heirMore_28 : decode cX11_heirMore 28 = .ok (.getfield 204, 3) := by decide +kernel
theorem dX11_heirMore_31 : decode cX11_heirMore 31 = .ok (.iload_n 1, 1) := by decide +kernel
theorem dX11_heirMore_32 : decode cX11_heirMore 32 = .ok (.iaload, 1) := by decide +kernel
theorem dX11_heirMore_33 : decode cX11_heirMore 33 = .ok (.bipush 6, 2) := by decide +kernel
theorem dX11_heirMore_35 : decode cX11_heirMore 35 = .ok (.if_icmp .lt 7, 3) := by decide +kernel
theorem dX11_heirMore_38 : decode cX11_heirMore 38 = .ok (.ldc2_w 250, 3) := by decide +kernel
theorem dX11_heirMore_41 : decode cX11_heirMore 41 = .ok (.lreturn, 1) := by decide +kernel
theorem dX11_heirMore_42 : decode cX11_heirMore 42 = .ok (.aload_n 0, 1) := by decide +kernel
theorem dX11_heirMore_43 : decode cX11_heirMore 43 = .ok (.getfield 60, 3) := by decide +kernel
theorem dX11_heirMore_46 : decode cX11_heirMore 46 = .ok (.aload_n 0, 1) := by decide +kernel
theorem dX11_heirMore_47 : decode cX11_heirMore 47 = .ok (.getfield 26, 3) := by decide +kernel
theorem dX11_heirMore_50 : decode cX11_heirMore 50 = .ok (.getfield 191, 3) := by decide +kernel
theorem dX11_heirMore_53 : decode cX11_heirMore 53 = .ok (.invokevirtual 210, 3) := by decide +kernel
theorem dX11_heirMore_56 : decode cX11_heirMore 56 = .ok (.aload_n 0, 1) := by decide +kernel
theorem dX11_heirMore_57 : decode cX11_heirMore 57 = .ok (.getfield 60, 3) := by decide +kernel
theorem dX11_heirMore_60 : decode cX11_heirMore 60 = .ok (.invokevirtual 384, 3) := by decide +kernel
theorem dX11_heirMore_63 : decode cX11_heirMore 63 = .ok (.lstore_n 2, 1) := by decide +kernel
theorem dX11_heirMore_64 : decode cX11_heirMore 64 = .ok (.aload_n 0, 1) := by decide +kernel
theorem dX11_heirMore_65 : decode cX11_heirMore 65 = .ok (.getfield 19, 3) := by decide +kernel
theorem dX11_heirMore_68 : decode cX11_heirMore 68 = .ok (.iload_n 1, 1) := by decide +kernel
theorem dX11_heirMore_69 : decode cX11_heirMore 69 = .ok (.lconst 0, 1) := by decide +kernel
theorem dX11_heirMore_70 : decode cX11_heirMore 70 = .ok (.invokevirtual 388, 3) := by decide +kernel
theorem dX11_heirMore_73 : decode cX11_heirMore 73 = .ok (.aload_n 0, 1) := by decide +kernel
theorem dX11_heirMore_74 : decode cX11_heirMore 74 = .ok (.getfield 60, 3) := by decide +kernel
theorem dX11_heirMore_77 : decode cX11_heirMore 77 = .ok (.aload_n 0, 1) := by decide +kernel
theorem dX11_heirMore_78 : decode cX11_heirMore 78 = .ok (.getfield 26, 3) := by decide +kernel
theorem dX11_heirMore_81 : decode cX11_heirMore 81 = .ok (.getfield 191, 3) := by decide +kernel
theorem dX11_heirMore_84 : decode cX11_heirMore 84 = .ok (.invokevirtual 210, 3) := by decide +kernel
theorem dX11_heirMore_87 : decode cX11_heirMore 87 = .ok (.aload_n 0, 1) := by decide +kernel
theorem dX11_heirMore_88 : decode cX11_heirMore 88 = .ok (.getfield 19, 3) := by decide +kernel
theorem dX11_heirMore_91 : decode cX11_heirMore 91 = .ok (.getfield 204, 3) := by decide +kernel
theorem dX11_heirMore_94 : decode cX11_heirMore 94 = .ok (.iload_n 1, 1) := by decide +kernel
theorem dX11_heirMore_95 : decode cX11_heirMore 95 = .ok (.dup2, 1) := by decide +kernel
theorem dX11_heirMore_96 : decode cX11_heirMore 96 = .ok (.iaload, 1) := by decide +kernel
theorem dX11_heirMore_97 : decode cX11_heirMore 97 = .ok (.iconst 1, 1) := by decide +kernel
theorem dX11_heirMore_98 : decode cX11_heirMore 98 = .ok (.isub, 1) := by decide +kernel
theorem dX11_heirMore_99 : decode cX11_heirMore 99 = .ok (.iastore, 1) := by decide +kernel
theorem dX11_heirMore_100 : decode cX11_heirMore 100 = .ok (.aload_n 0, 1) := by decide +kernel
theorem dX11_heirMore_101 : decode cX11_heirMore 101 = .ok (.getfield 60, 3) := by decide +kernel
theorem dX11_heirMore_104 : decode cX11_heirMore 104 = .ok (.invokevirtual 384, 3) := by decide +kernel
theorem dX11_heirMore_107 : decode cX11_heirMore 107 = .ok (.lload_n 2, 1) := by decide +kernel
theorem dX11_heirMore_108 : decode cX11_heirMore 108 = .ok (.lsub, 1) := by decide +kernel
theorem dX11_heirMore_109 : decode cX11_heirMore 109 = .ok (.lreturn, 1) := by decide +kernel
def X11_heirMore_b38   (u : gM) : Option (Int64 × gM) :=
some ((-1), u)
def X11_heirMore  (x1 : Int32) (u : gM) : Option (Int64 × gM) :=
((X10_isAccount u 3 x1).bind fun w5 => (if w5 = 0 then (X11_heirMore_b38 u)
  else ((aI skC u 7 x1).bind fun v19 => (if v19 = 2 then ((aI skC u 12 x1).bind fun v32 => (if v32 < 6 then ((X1_insure (u.1 18 0) u).bind fun w53 => ((X1_insuredOfAll w53).bind fun w60 => ((X10_addHeir 3 x1 0 w53).bind fun w70 => ((X1_insure (w70.1 18 0) w70).bind fun w84 => ((aI skC w84 12 x1).bind fun v96 => ((sI skC w84 12 x1 (v96 - 1)).bind fun u99 => ((X1_insuredOfAll u99).bind fun w104 => some ((w104 - w60), u99))))))))
      else (X11_heirMore_b38 u)))
    else (X11_heirMore_b38 u)))))
set_option maxRecDepth 20000 in
theorem v_X11_heirMore_b38 {κ : gK} {B : Nat} {u : gM} (X : gX κ B skC cX11_heirMore 4 RX11 (some .long) 5 122)    {w : (Int64 × gM)} (hM : X11_heirMore_b38 u = some w) : gV κ B skC 4 ((some (.long w.1)), w.2) 38 [none, none, none, none] [] u := by
  unfold X11_heirMore_b38 at hM
  refine g_ldc2 (v := (-1)) X m_50_11 dX11_heirMore_38 ?_
  cases hM
  exact g_lret X dX11_heirMore_41
set_option maxRecDepth 20000 in
theorem v_X11_heirMore {κ : gK} {B : Nat} {u : gM} (X : gX κ B skC cX11_heirMore 4 RX11 (some .long) 5 122)   {x1 : Int32} {w : (Int64 × gM)} (hM : X11_heirMore x1 u = some w) : gV κ B skC 4 ((some (.long w.1)), w.2) 0 [some (.ref (B + 0)), some (.int x1), none, none] [] u := by
  unfold X11_heirMore at hM
  refine g_aload_n X dX11_heirMore_0 rfl ?_
  refine g_getR X fX11_19 cC_0 rfl dX11_heirMore_1 ?_
  refine g_iload_n X dX11_heirMore_4 rfl ?_
  obtain ⟨w5, e5, hM⟩ := bind_of hM
  refine g_callVi X (fun B adK => [.int x1]) (s_X10_isAccount e5) cvX11_177 cC_3 rfl rfl (Nat.le_of_ble_eq_true rfl) ⟨by decide, by decide⟩ dX11_heirMore_5 ?_
  refine g_if_eq (tgt := 38) X dX11_heirMore_8 (by decide) (fun c8 => ?_) (fun c8 => ?_)
  · rw [if_pos c8] at hM
    refine g_mk [false, false, false, false] [none, none, none, none] rfl ?_
    exact v_X11_heirMore_b38 X  hM
  · rw [if_neg c8] at hM
    refine g_aload_n X dX11_heirMore_11 rfl ?_
    refine g_getR X fX11_19 cC_0 rfl dX11_heirMore_12 ?_
    refine g_getR X fX11_181 cC_3 rfl dX11_heirMore_15 ?_
    refine g_iload_n X dX11_heirMore_18 rfl ?_
    obtain ⟨v19, e19, hM⟩ := bind_of hM
    refine g_iaload X e19 dX11_heirMore_19 ?_
    refine g_iconst X (v := 2) dX11_heirMore_20 (by decide) ?_
    refine g_icmp_ne (tgt := 38) X dX11_heirMore_21 (by decide) (fun c21 => ?_) (fun c21 => ?_)
    · rw [if_neg c21] at hM
      refine g_mk [false, false, false, false] [none, none, none, none] rfl ?_
      exact v_X11_heirMore_b38 X  hM
    · rw [if_pos c21] at hM
      refine g_aload_n X dX11_heirMore_24 rfl ?_
      refine g_getR X fX11_19 cC_0 rfl dX11_heirMore_25 ?_
      refine g_getR X fX11_204 cC_3 rfl dX11_heirMore_28 ?_
      refine g_iload_n X dX11_heirMore_31 rfl ?_
      obtain ⟨v32, e32, hM⟩ := bind_of hM
      refine g_iaload X e32 dX11_heirMore_32 ?_
      refine g_bipush X (v := 6) dX11_heirMore_33 (by decide) ?_
      refine g_icmp_lt (tgt := 42) X dX11_heirMore_35 (by decide) (fun c35 => ?_) (fun c35 => ?_)
      · rw [if_pos c35] at hM
        refine g_aload_n X dX11_heirMore_42 rfl ?_
        refine g_getR X fX11_60 cC_0 rfl dX11_heirMore_43 ?_
        refine g_aload_n X dX11_heirMore_46 rfl ?_
        refine g_getR X fX11_26 cC_0 rfl dX11_heirMore_47 ?_
        refine g_getI X fX11_191 cC_18 rfl dX11_heirMore_50 ?_
        obtain ⟨w53, e53, hM⟩ := bind_of hM
        refine g_callVv X (fun B adK => [.int (u.1 18 0)]) (s_X1_insure e53) cvX11_210 cC_136 rfl rfl (Nat.le_of_ble_eq_true rfl) ⟨by decide, by decide⟩ dX11_heirMore_53 ?_
        refine g_aload_n X dX11_heirMore_56 rfl ?_
        refine g_getR X fX11_60 cC_0 rfl dX11_heirMore_57 ?_
        obtain ⟨w60, e60, hM⟩ := bind_of hM
        refine g_callVl X (fun B adK => []) (s_X1_insuredOfAll e60) cvX11_384 cC_136 rfl rfl (Nat.le_of_ble_eq_true rfl) ⟨by decide, by decide⟩ dX11_heirMore_60 ?_
        refine g_lstore_n X [some (.ref (B + 0)), some (.int x1), some (.long w60), none] dX11_heirMore_63 (by decide) rfl ?_
        refine g_aload_n X dX11_heirMore_64 rfl ?_
        refine g_getR X fX11_19 cC_0 rfl dX11_heirMore_65 ?_
        refine g_iload_n X dX11_heirMore_68 rfl ?_
        refine g_lconst (v := 0) X dX11_heirMore_69 (by decide) ?_
        obtain ⟨w70, e70, hM⟩ := bind_of hM
        refine g_callVv X (fun B adK => [.int x1, .long 0]) (s_X10_addHeir e70) cvX11_388 cC_3 rfl rfl (Nat.le_of_ble_eq_true rfl) ⟨by decide, by decide⟩ dX11_heirMore_70 ?_
        refine g_aload_n X dX11_heirMore_73 rfl ?_
        refine g_getR X fX11_60 cC_0 rfl dX11_heirMore_74 ?_
        refine g_aload_n X dX11_heirMore_77 rfl ?_
        refine g_getR X fX11_26 cC_0 rfl dX11_heirMore_78 ?_
        refine g_getI X fX11_191 cC_18 rfl dX11_heirMore_81 ?_
        obtain ⟨w84, e84, hM⟩ := bind_of hM
        refine g_callVv X (fun B adK => [.int (w70.1 18 0)]) (s_X1_insure e84) cvX11_210 cC_136 rfl rfl (Nat.le_of_ble_eq_true rfl) ⟨by decide, by decide⟩ dX11_heirMore_84 ?_
        refine g_aload_n X dX11_heirMore_87 rfl ?_
        refine g_getR X fX11_19 cC_0 rfl dX11_heirMore_88 ?_
        refine g_getR X fX11_204 cC_3 rfl dX11_heirMore_91 ?_
        refine g_iload_n X dX11_heirMore_94 rfl ?_
        refine g_dup2_11 X rfl rfl dX11_heirMore_95 ?_
        obtain ⟨v96, e96, hM⟩ := bind_of hM
        refine g_iaload X e96 dX11_heirMore_96 ?_
        refine g_iconst X (v := 1) dX11_heirMore_97 (by decide) ?_
        refine g_isub X dX11_heirMore_98 ?_
        obtain ⟨u99, e99, hM⟩ := bind_of hM
        refine g_iastore X e99 dX11_heirMore_99 ?_
        refine g_aload_n X dX11_heirMore_100 rfl ?_
        refine g_getR X fX11_60 cC_0 rfl dX11_heirMore_101 ?_
        obtain ⟨w104, e104, hM⟩ := bind_of hM
        refine g_callVl X (fun B adK => []) (s_X1_insuredOfAll e104) cvX11_384 cC_136 rfl rfl (Nat.le_of_ble_eq_true rfl) ⟨by decide, by decide⟩ dX11_heirMore_104 ?_
        refine g_lload_n X dX11_heirMore_107 rfl ?_
        refine g_lsub X dX11_heirMore_108 ?_
        cases hM
        exact g_lret X dX11_heirMore_109
      · rw [if_neg c35] at hM
        refine g_mk [false, false, false, false] [none, none, none, none] rfl ?_
        exact v_X11_heirMore_b38 X  hM
theorem s_X11_heirMore {x1 : Int32} {u : gM} {w : (Int64 × gM)} (hM : X11_heirMore x1 u = some w) : gMet skC yX11_heirMore cX11_heirMore 4 (some .long) 5 122 (fun B adK => [.ref (B + 0), .int x1]) u ((fun _ => some (.long w.1)), w.2) := by
  refine gMet.of (by decide) (fun _ _ => Nat.le_of_ble_eq_true rfl) (fun κ B X => ?_)
  have X : gX κ B skC cX11_heirMore 4 RX11 (some .long) 5 122 := X
  refine g_mk [true, true, false, false] [some (.ref (B + 0)), some (.int x1), none, none] rfl ?_
  exact v_X11_heirMore X  hM
theorem fr_X11_heirMore_b38 {S : Nat → Prop} {u0 u : gM}     {w : (Int64 × gM)} (hM : X11_heirMore_b38 u = some w) (h0 : off S u0 u) : off S u0 w.2 := by
  unfold X11_heirMore_b38 at hM
  cases hM
  exact h0
theorem fr_X11_heirMore {S : Nat → Prop} {u0 u : gM} {x1 : Int32} (hs0 : S (rf skC 138 2)) (hs1 : S (rf skC 138 3)) (hs2 : S (rf skC 138 4)) (hs3 : S (rf skC 3 14)) (hs4 : S (rf skC 3 16)) (hs5 : S 12) (hs6 : S 137) (hs7 : S 138) (hs8 : S 142) (hs9 : S 143) (hs10 : S 144)   {w : (Int64 × gM)} (hM : X11_heirMore x1 u = some w) (h0 : off S u0 u) : off S u0 w.2 := by
  unfold X11_heirMore at hM
  obtain ⟨w5, e5, hM⟩ := bind_of hM
  by_cases c8 : w5 = 0
  · rw [if_pos c8] at hM
    exact fr_X11_heirMore_b38   hM h0
  · rw [if_neg c8] at hM
    obtain ⟨v19, e19, hM⟩ := bind_of hM
    by_cases c21 : v19 = 2
    · rw [if_pos c21] at hM
      obtain ⟨v32, e32, hM⟩ := bind_of hM
      by_cases c35 : v32 < 6
      · rw [if_pos c35] at hM
        obtain ⟨w53, e53, hM⟩ := bind_of hM
        have h0 := fr_X1_insure hs0 hs1 hs2 hs6 hs7 hs8 hs9 hs10 e53 h0
        obtain ⟨w60, e60, hM⟩ := bind_of hM
        obtain ⟨w70, e70, hM⟩ := bind_of hM
        have h0 := fr_X10_addHeir hs3 hs4 e70 h0
        obtain ⟨w84, e84, hM⟩ := bind_of hM
        have h0 := fr_X1_insure hs0 hs1 hs2 hs6 hs7 hs8 hs9 hs10 e84 h0
        obtain ⟨v96, e96, hM⟩ := bind_of hM
        obtain ⟨u99, e99, hM⟩ := bind_of hM
        have h0 := off_sI hs5 e99 h0
        obtain ⟨w104, e104, hM⟩ := bind_of hM
        cases hM
        exact h0
      · rw [if_neg c35] at hM
        exact fr_X11_heirMore_b38   hM h0
    · rw [if_neg c21] at hM
      exact fr_X11_heirMore_b38   hM h0
/-! CoverDesk.insuredNowAt(I)J -/
theorem dX11_insuredNowAt_0 : decode cX11_insuredNowAt 0 = .ok (.aload_n 0, 1) := by decide +kernel
theorem dX11_insuredNowAt_1 : decode cX11_insuredNowAt 1 = .ok (.getfield 60, 3) := by decide +kernel
theorem dX11_insuredNowAt_4 : decode cX11_insuredNowAt 4 = .ok (.aload_n 0, 1) := by decide +kernel
theorem dX11_insuredNowAt_5 : decode cX11_insuredNowAt 5 = .ok (.getfield 26, 3) := by decide +kernel
theorem dX11_insuredNowAt_8 : decode cX11_insuredNowAt 8 = .ok (.getfield 191, 3) := by decide +kernel
theorem dX11_insuredNowAt_11 : decode cX11_insuredNowAt 11 = .ok (.invokevirtual 210, 3) := by decide +kernel
theorem dX11_insuredNowAt_14 : decode cX11_insuredNowAt 14 = .ok (.lconst 0, 1) := by decide +kernel
theorem dX11_insuredNowAt_15 : decode cX11_insuredNowAt 15 = .ok (.lstore_n 2, 1) := by decide +kernel
theorem dX11_insuredNowAt_16 : decode cX11_insuredNowAt 16 = .ok (.iconst 0, 1) := by decide +kernel
theorem dX11_insuredNowAt_17 : decode cX11_insuredNowAt 17 = .ok (.istore 4, 2) := by decide +kernel
theorem dX11_insuredNowAt_19 : decode cX11_insuredNowAt 19 = .ok (.iload 4, 2) := by decide +kernel
theorem dX11_insuredNowAt_21 : decode cX11_insuredNowAt 21 = .ok (.aload_n 0, 1) := by decide +kernel
theorem dX11_insuredNowAt_22 : decode cX11_insuredNowAt 22 = .ok (.getfield 19, 3) := by decide +kernel
theorem dX11_insuredNowAt_25 : decode cX11_insuredNowAt 25 = .ok (.getfield 112, 3) := by decide +kernel
theorem dX11_insuredNowAt_28 : decode cX11_insuredNowAt 28 = .ok (.if_icmp .ge 43, 3) := by decide +kernel
theorem dX11_insuredNowAt_31 : decode cX11_insuredNowAt 31 = .ok (.aload_n 0, 1) := by decide +kernel
theorem dX11_insuredNowAt_32 : decode cX11_insuredNowAt 32 = .ok (.getfield 26, 3) := by decide +kernel
theorem dX11_insuredNowAt_35 : decode cX11_insuredNowAt 35 = .ok (.aload_n 0, 1) := by decide +kernel
theorem dX11_insuredNowAt_36 : decode cX11_insuredNowAt 36 = .ok (.getfield 19, 3) := by decide +kernel
theorem dX11_insuredNowAt_39 : decode cX11_insuredNowAt 39 = .ok (.getfield 184, 3) := by decide +kernel
theorem dX11_insuredNowAt_42 : decode cX11_insuredNowAt 42 = .ok (.iload 4, 2) := by decide +kernel
theorem dX11_insuredNowAt_44 : decode cX11_insuredNowAt 44 = .ok (.iaload, 1) := by decide +kernel
theorem dX11_insuredNowAt_45 : decode cX11_insuredNowAt 45 = .ok (.invokevirtual 187, 3) := by decide +kernel
theorem dX11_insuredNowAt_48 : decode cX11_insuredNowAt 48 = .ok (.iload_n 1, 1) := by decide +kernel
theorem dX11_insuredNowAt_49 : decode cX11_insuredNowAt 49 = .ok (.if_icmp .ne 16, 3) := by decide +kernel
theorem dX11_insuredNowAt_52 : decode cX11_insuredNowAt 52 = .ok (.lload_n 2, 1) := by decide +kernel
theorem dX11_insuredNowAt_53 : decode cX11_insuredNowAt 53 = .ok (.aload_n 0, 1) := by decide +kernel
theorem dX11_insuredNowAt_54 : decode cX11_insuredNowAt 54 = .ok (.getfield 60, 3) := by decide +kernel
theorem dX11_insuredNowAt_57 : decode cX11_insuredNowAt 57 = .ok (.iload 4, 2) := by decide +kernel
theorem dX11_insuredNowAt_59 : decode cX11_insuredNowAt 59 = .ok (.invokevirtual 213, 3) := by decide +kernel
theorem dX11_insuredNowAt_62 : decode cX11_insuredNowAt 62 = .ok (.i2l, 1) := by decide +kernel
theorem dX11_insuredNowAt_63 : decode cX11_insuredNowAt 63 = .ok (.ladd, 1) := by decide +kernel
theorem dX11_insuredNowAt_64 : decode cX11_insuredNowAt 64 = .ok (.lstore_n 2, 1) := by decide +kernel
theorem dX11_insuredNowAt_65 : decode cX11_insuredNowAt 65 = .ok (.iinc 4 1, 3) := by decide +kernel
theorem dX11_insuredNowAt_68 : decode cX11_insuredNowAt 68 = .ok (.goto (-49), 3) := by decide +kernel
theorem dX11_insuredNowAt_71 : decode cX11_insuredNowAt 71 = .ok (.lload_n 2, 1) := by decide +kernel
theorem dX11_insuredNowAt_72 : decode cX11_insuredNowAt 72 = .ok (.lreturn, 1) := by decide +kernel
def X11_insuredNowAt_b65 (k19 : Int32 → Int64 → Int32 → gM → Option (Int64 × gM)) (x1 : Int32) (x2 : Int64) (x4 : Int32) (u : gM) : Option (Int64 × gM) :=
(k19 x1 x2 (x4 + 1) u)
def X11_insuredNowAt_b19 (k19 : Int32 → Int64 → Int32 → gM → Option (Int64 × gM)) (x1 : Int32) (x2 : Int64) (x4 : Int32) (u : gM) : Option (Int64 × gM) :=
(if (u.1 3 2) ≤ x4 then some (x2, u)
  else ((aI skC u 8 x4).bind fun v44 => ((X8_nowAt u 18 v44).bind fun w45 => (if w45 = x1 then ((X1_insuredOfAccount u x4).bind fun w59 => (X11_insuredNowAt_b65 k19 x1 (x2 + w59.toInt64) x4 u))
    else (X11_insuredNowAt_b65 k19 x1 x2 x4 u)))))
def X11_insuredNowAt_l19  : Nat → Int32 → Int64 → Int32 → gM → Option (Int64 × gM)
  | 0, _, _, _, _ => none
  | n + 1, x1, x2, x4, u => X11_insuredNowAt_b19  (X11_insuredNowAt_l19  n) x1 x2 x4 u
def X11_insuredNowAt  (x1 : Int32) (u : gM) : Option (Int64 × gM) :=
((X1_insure (u.1 18 0) u).bind fun w11 => (X11_insuredNowAt_l19 fz x1 0 0 w11))
set_option maxRecDepth 20000 in
theorem v_X11_insuredNowAt_b65 {κ : gK} {B : Nat} {u : gM} (X : gX κ B skC cX11_insuredNowAt 5 RX11 (some .long) 5 122) {k19 : Int32 → Int64 → Int32 → gM → Option (Int64 × gM)} (ih19 : ∀ (x1 : Int32) (x2 : Int64) (x4 : Int32) (u : gM) (w : (Int64 × gM)), k19 x1 x2 x4 u = some w → gV κ B skC 5 ((some (.long w.1)), w.2) 19 [some (.ref (B + 0)), some (.int x1), some (.long x2), none, some (.int x4)] [] u) {x1 : Int32} {x2 : Int64} {x4 : Int32} {w : (Int64 × gM)} (hM : X11_insuredNowAt_b65 k19 x1 x2 x4 u = some w) : gV κ B skC 5 ((some (.long w.1)), w.2) 65 [some (.ref (B + 0)), some (.int x1), some (.long x2), none, some (.int x4)] [] u := by
  unfold X11_insuredNowAt_b65 at hM
  refine g_iinc (d := 1) X [some (.ref (B + 0)), some (.int x1), some (.long x2), none, some (.int (x4 + 1))] dX11_insuredNowAt_65 (by decide) rfl (by decide) rfl ?_
  refine g_goto (tgt := 19) X dX11_insuredNowAt_68 (by decide) ?_
  refine g_mk [true, true, true, false, true] [some (.ref (B + 0)), some (.int x1), some (.long x2), none, some (.int (x4 + 1))] rfl ?_
  exact ih19 x1 x2 (x4 + 1) u _ hM
set_option maxRecDepth 20000 in
theorem v_X11_insuredNowAt_b19 {κ : gK} {B : Nat} {u : gM} (X : gX κ B skC cX11_insuredNowAt 5 RX11 (some .long) 5 122) {k19 : Int32 → Int64 → Int32 → gM → Option (Int64 × gM)} (ih19 : ∀ (x1 : Int32) (x2 : Int64) (x4 : Int32) (u : gM) (w : (Int64 × gM)), k19 x1 x2 x4 u = some w → gV κ B skC 5 ((some (.long w.1)), w.2) 19 [some (.ref (B + 0)), some (.int x1), some (.long x2), none, some (.int x4)] [] u) {x1 : Int32} {x2 : Int64} {x4 : Int32} {w : (Int64 × gM)} (hM : X11_insuredNowAt_b19 k19 x1 x2 x4 u = some w) : gV κ B skC 5 ((some (.long w.1)), w.2) 19 [some (.ref (B + 0)), some (.int x1), some (.long x2), none, some (.int x4)] [] u := by
  unfold X11_insuredNowAt_b19 at hM
  refine g_iload X dX11_insuredNowAt_19 rfl ?_
  refine g_aload_n X dX11_insuredNowAt_21 rfl ?_
  refine g_getR X fX11_19 cC_0 rfl dX11_insuredNowAt_22 ?_
  refine g_getI X fX11_112 cC_3 rfl dX11_insuredNowAt_25 ?_
  refine g_icmp_ge (tgt := 71) X dX11_insuredNowAt_28 (by decide) (fun c28 => ?_) (fun c28 => ?_)
  · rw [if_pos c28] at hM
    refine g_lload_n X dX11_insuredNowAt_71 rfl ?_
    cases hM
    exact g_lret X dX11_insuredNowAt_72
  · rw [if_neg c28] at hM
    refine g_aload_n X dX11_insuredNowAt_31 rfl ?_
    refine g_getR X fX11_26 cC_0 rfl dX11_insuredNowAt_32 ?_
    refine g_aload_n X dX11_insuredNowAt_35 rfl ?_
    refine g_getR X fX11_19 cC_0 rfl dX11_insuredNowAt_36 ?_
    refine g_getR X fX11_184 cC_3 rfl dX11_insuredNowAt_39 ?_
    refine g_iload X dX11_insuredNowAt_42 rfl ?_
    obtain ⟨v44, e44, hM⟩ := bind_of hM
    refine g_iaload X e44 dX11_insuredNowAt_44 ?_
    obtain ⟨w45, e45, hM⟩ := bind_of hM
    refine g_callVi X (fun B adK => [.int v44]) (s_X8_nowAt e45) cvX11_187 cC_18 rfl rfl (Nat.le_of_ble_eq_true rfl) ⟨by decide, by decide⟩ dX11_insuredNowAt_45 ?_
    refine g_iload_n X dX11_insuredNowAt_48 rfl ?_
    refine g_icmp_ne (tgt := 65) X dX11_insuredNowAt_49 (by decide) (fun c49 => ?_) (fun c49 => ?_)
    · rw [if_neg c49] at hM
      refine g_mk [true, true, true, false, true] [some (.ref (B + 0)), some (.int x1), some (.long x2), none, some (.int x4)] rfl ?_
      exact v_X11_insuredNowAt_b65 X ih19 hM
    · rw [if_pos c49] at hM
      refine g_lload_n X dX11_insuredNowAt_52 rfl ?_
      refine g_aload_n X dX11_insuredNowAt_53 rfl ?_
      refine g_getR X fX11_60 cC_0 rfl dX11_insuredNowAt_54 ?_
      refine g_iload X dX11_insuredNowAt_57 rfl ?_
      obtain ⟨w59, e59, hM⟩ := bind_of hM
      refine g_callVi X (fun B adK => [.int x4]) (s_X1_insuredOfAccount e59) cvX11_213 cC_136 rfl rfl (Nat.le_of_ble_eq_true rfl) ⟨by decide, by decide⟩ dX11_insuredNowAt_59 ?_
      refine g_i2l X dX11_insuredNowAt_62 ?_
      refine g_ladd X dX11_insuredNowAt_63 ?_
      refine g_lstore_n X [some (.ref (B + 0)), some (.int x1), some (.long (x2 + w59.toInt64)), none, some (.int x4)] dX11_insuredNowAt_64 (by decide) rfl ?_
      refine g_mk [true, true, true, false, true] [some (.ref (B + 0)), some (.int x1), some (.long (x2 + w59.toInt64)), none, some (.int x4)] rfl ?_
      exact v_X11_insuredNowAt_b65 X ih19 hM
theorem v_X11_insuredNowAt_l19 {κ : gK} {B : Nat} (X : gX κ B skC cX11_insuredNowAt 5 RX11 (some .long) 5 122)   : ∀ (n : Nat) {x1 : Int32} {x2 : Int64} {x4 : Int32} {u : gM} {w : (Int64 × gM)} (hM : X11_insuredNowAt_l19  n x1 x2 x4 u = some w), gV κ B skC 5 ((some (.long w.1)), w.2) 19 [some (.ref (B + 0)), some (.int x1), some (.long x2), none, some (.int x4)] [] u := by
  intro n
  induction n with
  | zero => intro x1 x2 x4 u w hM; exact nomatch (show (none : Option (Int64 × gM)) = some w from hM)
  | succ n ihn => intro x1 x2 x4 u w hM; exact v_X11_insuredNowAt_b19 X  (fun x1 x2 x4 u w h => ihn h) hM
set_option maxRecDepth 20000 in
theorem v_X11_insuredNowAt {κ : gK} {B : Nat} {u : gM} (X : gX κ B skC cX11_insuredNowAt 5 RX11 (some .long) 5 122)   {x1 : Int32} {w : (Int64 × gM)} (hM : X11_insuredNowAt x1 u = some w) : gV κ B skC 5 ((some (.long w.1)), w.2) 0 [some (.ref (B + 0)), some (.int x1), none, none, none] [] u := by
  unfold X11_insuredNowAt at hM
  refine g_aload_n X dX11_insuredNowAt_0 rfl ?_
  refine g_getR X fX11_60 cC_0 rfl dX11_insuredNowAt_1 ?_
  refine g_aload_n X dX11_insuredNowAt_4 rfl ?_
  refine g_getR X fX11_26 cC_0 rfl dX11_insuredNowAt_5 ?_
  refine g_getI X fX11_191 cC_18 rfl dX11_insuredNowAt_8 ?_
  obtain ⟨w11, e11, hM⟩ := bind_of hM
  refine g_callVv X (fun B adK => [.int (u.1 18 0)]) (s_X1_insure e11) cvX11_210 cC_136 rfl rfl (Nat.le_of_ble_eq_true rfl) ⟨by decide, by decide⟩ dX11_insuredNowAt_11 ?_
  refine g_lconst (v := 0) X dX11_insuredNowAt_14 (by decide) ?_
  refine g_lstore_n X [some (.ref (B + 0)), some (.int x1), some (.long 0), none, none] dX11_insuredNowAt_15 (by decide) rfl ?_
  refine g_iconst X (v := 0) dX11_insuredNowAt_16 (by decide) ?_
  refine g_istore X [some (.ref (B + 0)), some (.int x1), some (.long 0), none, some (.int 0)] dX11_insuredNowAt_17 (by decide) rfl ?_
  refine g_mk [true, true, true, false, true] [some (.ref (B + 0)), some (.int x1), some (.long 0), none, some (.int 0)] rfl ?_
  exact v_X11_insuredNowAt_l19 X  fz hM
theorem s_X11_insuredNowAt {x1 : Int32} {u : gM} {w : (Int64 × gM)} (hM : X11_insuredNowAt x1 u = some w) : gMet skC yX11_insuredNowAt cX11_insuredNowAt 5 (some .long) 5 122 (fun B adK => [.ref (B + 0), .int x1]) u ((fun _ => some (.long w.1)), w.2) := by
  refine gMet.of (by decide) (fun _ _ => Nat.le_of_ble_eq_true rfl) (fun κ B X => ?_)
  have X : gX κ B skC cX11_insuredNowAt 5 RX11 (some .long) 5 122 := X
  refine g_mk [true, true, false, false, false] [some (.ref (B + 0)), some (.int x1), none, none, none] rfl ?_
  exact v_X11_insuredNowAt X  hM
theorem fr_X11_insuredNowAt_b65 {S : Nat → Prop} {u0 u : gM} {x1 : Int32} {x2 : Int64} {x4 : Int32}  {k19 : Int32 → Int64 → Int32 → gM → Option (Int64 × gM)} (ik19 : ∀ (x1 : Int32) (x2 : Int64) (x4 : Int32) (u : gM) (w : (Int64 × gM)), off S u0 u → k19 x1 x2 x4 u = some w → off S u0 w.2) {w : (Int64 × gM)} (hM : X11_insuredNowAt_b65 k19 x1 x2 x4 u = some w) (h0 : off S u0 u) : off S u0 w.2 := by
  unfold X11_insuredNowAt_b65 at hM
  exact ik19 _ _ _ _ _  h0 hM
theorem fr_X11_insuredNowAt_b19 {S : Nat → Prop} {u0 u : gM} {x1 : Int32} {x2 : Int64} {x4 : Int32}  {k19 : Int32 → Int64 → Int32 → gM → Option (Int64 × gM)} (ik19 : ∀ (x1 : Int32) (x2 : Int64) (x4 : Int32) (u : gM) (w : (Int64 × gM)), off S u0 u → k19 x1 x2 x4 u = some w → off S u0 w.2) {w : (Int64 × gM)} (hM : X11_insuredNowAt_b19 k19 x1 x2 x4 u = some w) (h0 : off S u0 u) : off S u0 w.2 := by
  unfold X11_insuredNowAt_b19 at hM
  by_cases c28 : (u.1 3 2) ≤ x4
  · rw [if_pos c28] at hM
    cases hM
    exact h0
  · rw [if_neg c28] at hM
    obtain ⟨v44, e44, hM⟩ := bind_of hM
    obtain ⟨w45, e45, hM⟩ := bind_of hM
    by_cases c49 : w45 = x1
    · rw [if_pos c49] at hM
      obtain ⟨w59, e59, hM⟩ := bind_of hM
      exact fr_X11_insuredNowAt_b65  ik19 hM h0
    · rw [if_neg c49] at hM
      exact fr_X11_insuredNowAt_b65  ik19 hM h0
theorem fr_X11_insuredNowAt_l19 {S : Nat → Prop} {u0 : gM}   : ∀ (n : Nat) {x1 : Int32} {x2 : Int64} {x4 : Int32}  {u : gM} {w : (Int64 × gM)} (h0 : off S u0 u) (hM : X11_insuredNowAt_l19  n x1 x2 x4 u = some w), off S u0 w.2 := by
  intro n
  induction n with
  | zero => intro x1 x2 x4 u w h0 hM; exact nomatch (show (none : Option (Int64 × gM)) = some w from hM)
  | succ n ihn => intro x1 x2 x4 u w h0 hM; exact fr_X11_insuredNowAt_b19   (fun x1 x2 x4 _ _ h0 h => ihn  h0 h) hM h0
theorem fr_X11_insuredNowAt {S : Nat → Prop} {u0 u : gM} {x1 : Int32} (hs0 : S (rf skC 138 2)) (hs1 : S (rf skC 138 3)) (hs2 : S (rf skC 138 4)) (hs3 : S 137) (hs4 : S 138) (hs5 : S 142) (hs6 : S 143) (hs7 : S 144)   {w : (Int64 × gM)} (hM : X11_insuredNowAt x1 u = some w) (h0 : off S u0 u) : off S u0 w.2 := by
  unfold X11_insuredNowAt at hM
  obtain ⟨w11, e11, hM⟩ := bind_of hM
  have h0 := fr_X1_insure hs0 hs1 hs2 hs3 hs4 hs5 hs6 hs7 e11 h0
  exact fr_X11_insuredNowAt_l19  fz  h0 hM
/-! CoverDesk.loansNowAt(I)J -/
theorem dX11_loansNowAt_0 : decode cX11_loansNowAt 0 = .ok (.lconst 0, 1) := by decide +kernel
theorem dX11_loansNowAt_1 : decode cX11_loansNowAt 1 = .ok (.lstore_n 2, 1) := by decide +kernel
theorem dX11_loansNowAt_2 : decode cX11_loansNowAt 2 = .ok (.iconst 0, 1) := by decide +kernel
theorem dX11_loansNowAt_3 : decode cX11_loansNowAt 3 = .ok (.istore 4, 2) := by decide +kernel
theorem dX11_loansNowAt_5 : decode cX11_loansNowAt 5 = .ok (.iload 4, 2) := by decide +kernel
theorem dX11_loansNowAt_7 : decode cX11_loansNowAt 7 = .ok (.aload_n 0, 1) := by decide +kernel
theorem dX11_loansNowAt_8 : decode cX11_loansNowAt 8 = .ok (.getfield 19, 3) := by decide +kernel
theorem dX11_loansNowAt_11 : decode cX11_loansNowAt 11 = .ok (.getfield 402, 3) := by decide +kernel
theorem dX11_loansNowAt_14 : decode cX11_loansNowAt 14 = .ok (.if_icmp .ge 44, 3) := by decide +kernel
theorem dX11_loansNowAt_17 : decode cX11_loansNowAt 17 = .ok (.aload_n 0, 1) := by decide +kernel
theorem dX11_loansNowAt_18 : decode cX11_loansNowAt 18 = .ok (.getfield 26, 3) := by decide +kernel
theorem dX11_loansNowAt_21 : decode cX11_loansNowAt 21 = .ok (.aload_n 0, 1) := by decide +kernel
theorem dX11_loansNowAt_22 : decode cX11_loansNowAt 22 = .ok (.getfield 19, 3) := by decide +kernel
theorem dX11_loansNowAt_25 : decode cX11_loansNowAt 25 = .ok (.getfield 329, 3) := by decide +kernel
theorem dX11_loansNowAt_28 : decode cX11_loansNowAt 28 = .ok (.iload 4, 2) := by decide +kernel
theorem dX11_loansNowAt_30 : decode cX11_loansNowAt 30 = .ok (.iaload, 1) := by decide +kernel
theorem dX11_loansNowAt_31 : decode cX11_loansNowAt 31 = .ok (.invokevirtual 187, 3) := by decide +kernel
theorem dX11_loansNowAt_34 : decode cX11_loansNowAt 34 = .ok (.iload_n 1, 1) := by decide +kernel
theorem dX11_loansNowAt_35 : decode cX11_loansNowAt 35 = .ok (.if_icmp .ne 17, 3) := by decide +kernel
theorem dX11_loansNowAt_38 : decode cX11_loansNowAt 38 = .ok (.lload_n 2, 1) := by decide +kernel
theorem dX11_loansNowAt_39 : decode cX11_loansNowAt 39 = .ok (.aload_n 0, 1) := by decide +kernel
theorem dX11_loansNowAt_40 : decode cX11_loansNowAt 40 = .ok (.getfield 26, 3) := by decide +kernel
theorem dX11_loansNowAt_43 : decode cX11_loansNowAt 43 = .ok (.getfield 332, 3) := by decide +kernel
theorem dX11_loansNowAt_46 : decode cX11_loansNowAt 46 = .ok (.iload 4, 2) := by decide +kernel
theorem dX11_loansNowAt_48 : decode cX11_loansNowAt 48 = .ok (.iaload, 1) := by decide +kernel
theorem dX11_loansNowAt_49 : decode cX11_loansNowAt 49 = .ok (.i2l, 1) := by decide +kernel
theorem dX11_loansNowAt_50 : decode cX11_loansNowAt 50 = .ok (.ladd, 1) := by decide +kernel
theorem dX11_loansNowAt_51 : decode cX11_loansNowAt 51 = .ok (.lstore_n 2, 1) := by decide +kernel
theorem dX11_loansNowAt_52 : decode cX11_loansNowAt 52 = .ok (.iinc 4 1, 3) := by decide +kernel
theorem dX11_loansNowAt_55 : decode cX11_loansNowAt 55 = .ok (.goto (-50), 3) := by decide +kernel
theorem dX11_loansNowAt_58 : decode cX11_loansNowAt 58 = .ok (.lload_n 2, 1) := by decide +kernel
theorem dX11_loansNowAt_59 : decode cX11_loansNowAt 59 = .ok (.lreturn, 1) := by decide +kernel
def X11_loansNowAt_b52 (u : gM) (k5 : Int32 → Int64 → Int32 → Option Int64) (x1 : Int32) (x2 : Int64) (x4 : Int32) : Option Int64 :=
(k5 x1 x2 (x4 + 1))
def X11_loansNowAt_b5 (u : gM) (k5 : Int32 → Int64 → Int32 → Option Int64) (x1 : Int32) (x2 : Int64) (x4 : Int32) : Option Int64 :=
(if (u.1 3 3) ≤ x4 then some x2
  else ((aI skC u 16 x4).bind fun v30 => ((X8_nowAt u 18 v30).bind fun w31 => (if w31 = x1 then ((aI skC u 20 x4).bind fun v48 => (X11_loansNowAt_b52 u k5 x1 (x2 + v48.toInt64) x4))
    else (X11_loansNowAt_b52 u k5 x1 x2 x4)))))
def X11_loansNowAt_l5 (u : gM)  : Nat → Int32 → Int64 → Int32 → Option Int64
  | 0, _, _, _ => none
  | n + 1, x1, x2, x4 => X11_loansNowAt_b5 u  (X11_loansNowAt_l5 u  n) x1 x2 x4
def X11_loansNowAt (u : gM)  (x1 : Int32) : Option Int64 :=
(X11_loansNowAt_l5 u fz x1 0 0)
set_option maxRecDepth 20000 in
theorem v_X11_loansNowAt_b52 {κ : gK} {B : Nat} {u : gM} (X : gX κ B skC cX11_loansNowAt 5 RX11 (some .long) 2 44) {k5 : Int32 → Int64 → Int32 → Option Int64} (ih5 : ∀ (x1 : Int32) (x2 : Int64) (x4 : Int32) (w : Int64), k5 x1 x2 x4 = some w → gV κ B skC 5 ((some (.long w)), u) 5 [some (.ref (B + 0)), some (.int x1), some (.long x2), none, some (.int x4)] [] u) {x1 : Int32} {x2 : Int64} {x4 : Int32} {w : Int64} (hM : X11_loansNowAt_b52 u k5 x1 x2 x4 = some w) : gV κ B skC 5 ((some (.long w)), u) 52 [some (.ref (B + 0)), some (.int x1), some (.long x2), none, some (.int x4)] [] u := by
  unfold X11_loansNowAt_b52 at hM
  refine g_iinc (d := 1) X [some (.ref (B + 0)), some (.int x1), some (.long x2), none, some (.int (x4 + 1))] dX11_loansNowAt_52 (by decide) rfl (by decide) rfl ?_
  refine g_goto (tgt := 5) X dX11_loansNowAt_55 (by decide) ?_
  refine g_mk [true, true, true, false, true] [some (.ref (B + 0)), some (.int x1), some (.long x2), none, some (.int (x4 + 1))] rfl ?_
  exact ih5 x1 x2 (x4 + 1) _ hM
set_option maxRecDepth 20000 in
theorem v_X11_loansNowAt_b5 {κ : gK} {B : Nat} {u : gM} (X : gX κ B skC cX11_loansNowAt 5 RX11 (some .long) 2 44) {k5 : Int32 → Int64 → Int32 → Option Int64} (ih5 : ∀ (x1 : Int32) (x2 : Int64) (x4 : Int32) (w : Int64), k5 x1 x2 x4 = some w → gV κ B skC 5 ((some (.long w)), u) 5 [some (.ref (B + 0)), some (.int x1), some (.long x2), none, some (.int x4)] [] u) {x1 : Int32} {x2 : Int64} {x4 : Int32} {w : Int64} (hM : X11_loansNowAt_b5 u k5 x1 x2 x4 = some w) : gV κ B skC 5 ((some (.long w)), u) 5 [some (.ref (B + 0)), some (.int x1), some (.long x2), none, some (.int x4)] [] u := by
  unfold X11_loansNowAt_b5 at hM
  refine g_iload X dX11_loansNowAt_5 rfl ?_
  refine g_aload_n X dX11_loansNowAt_7 rfl ?_
  refine g_getR X fX11_19 cC_0 rfl dX11_loansNowAt_8 ?_
  refine g_getI X fX11_402 cC_3 rfl dX11_loansNowAt_11 ?_
  refine g_icmp_ge (tgt := 58) X dX11_loansNowAt_14 (by decide) (fun c14 => ?_) (fun c14 => ?_)
  · rw [if_pos c14] at hM
    refine g_lload_n X dX11_loansNowAt_58 rfl ?_
    cases hM
    exact g_lret X dX11_loansNowAt_59
  · rw [if_neg c14] at hM
    refine g_aload_n X dX11_loansNowAt_17 rfl ?_
    refine g_getR X fX11_26 cC_0 rfl dX11_loansNowAt_18 ?_
    refine g_aload_n X dX11_loansNowAt_21 rfl ?_
    refine g_getR X fX11_19 cC_0 rfl dX11_loansNowAt_22 ?_
    refine g_getR X fX11_329 cC_3 rfl dX11_loansNowAt_25 ?_
    refine g_iload X dX11_loansNowAt_28 rfl ?_
    obtain ⟨v30, e30, hM⟩ := bind_of hM
    refine g_iaload X e30 dX11_loansNowAt_30 ?_
    obtain ⟨w31, e31, hM⟩ := bind_of hM
    refine g_callVi X (fun B adK => [.int v30]) (s_X8_nowAt e31) cvX11_187 cC_18 rfl rfl (Nat.le_of_ble_eq_true rfl) ⟨by decide, by decide⟩ dX11_loansNowAt_31 ?_
    refine g_iload_n X dX11_loansNowAt_34 rfl ?_
    refine g_icmp_ne (tgt := 52) X dX11_loansNowAt_35 (by decide) (fun c35 => ?_) (fun c35 => ?_)
    · rw [if_neg c35] at hM
      refine g_mk [true, true, true, false, true] [some (.ref (B + 0)), some (.int x1), some (.long x2), none, some (.int x4)] rfl ?_
      exact v_X11_loansNowAt_b52 X ih5 hM
    · rw [if_pos c35] at hM
      refine g_lload_n X dX11_loansNowAt_38 rfl ?_
      refine g_aload_n X dX11_loansNowAt_39 rfl ?_
      refine g_getR X fX11_26 cC_0 rfl dX11_loansNowAt_40 ?_
      refine g_getR X fX11_332 cC_18 rfl dX11_loansNowAt_43 ?_
      refine g_iload X dX11_loansNowAt_46 rfl ?_
      obtain ⟨v48, e48, hM⟩ := bind_of hM
      refine g_iaload X e48 dX11_loansNowAt_48 ?_
      refine g_i2l X dX11_loansNowAt_49 ?_
      refine g_ladd X dX11_loansNowAt_50 ?_
      refine g_lstore_n X [some (.ref (B + 0)), some (.int x1), some (.long (x2 + v48.toInt64)), none, some (.int x4)] dX11_loansNowAt_51 (by decide) rfl ?_
      refine g_mk [true, true, true, false, true] [some (.ref (B + 0)), some (.int x1), some (.long (x2 + v48.toInt64)), none, some (.int x4)] rfl ?_
      exact v_X11_loansNowAt_b52 X ih5 hM
theorem v_X11_loansNowAt_l5 {κ : gK} {B : Nat} {u : gM} (X : gX κ B skC cX11_loansNowAt 5 RX11 (some .long) 2 44)   : ∀ (n : Nat) {x1 : Int32} {x2 : Int64} {x4 : Int32} {w : Int64} (hM : X11_loansNowAt_l5 u  n x1 x2 x4 = some w), gV κ B skC 5 ((some (.long w)), u) 5 [some (.ref (B + 0)), some (.int x1), some (.long x2), none, some (.int x4)] [] u := by
  intro n
  induction n with
  | zero => intro x1 x2 x4 w hM; exact nomatch (show (none : Option Int64) = some w from hM)
  | succ n ihn => intro x1 x2 x4 w hM; exact v_X11_loansNowAt_b5 X  (fun x1 x2 x4 w h => ihn h) hM
set_option maxRecDepth 20000 in
theorem v_X11_loansNowAt {κ : gK} {B : Nat} {u : gM} (X : gX κ B skC cX11_loansNowAt 5 RX11 (some .long) 2 44)   {x1 : Int32} {w : Int64} (hM : X11_loansNowAt u x1 = some w) : gV κ B skC 5 ((some (.long w)), u) 0 [some (.ref (B + 0)), some (.int x1), none, none, none] [] u := by
  unfold X11_loansNowAt at hM
  refine g_lconst (v := 0) X dX11_loansNowAt_0 (by decide) ?_
  refine g_lstore_n X [some (.ref (B + 0)), some (.int x1), some (.long 0), none, none] dX11_loansNowAt_1 (by decide) rfl ?_
  refine g_iconst X (v := 0) dX11_loansNowAt_2 (by decide) ?_
  refine g_istore X [some (.ref (B + 0)), some (.int x1), some (.long 0), none, some (.int 0)] dX11_loansNowAt_3 (by decide) rfl ?_
  refine g_mk [true, true, true, false, true] [some (.ref (B + 0)), some (.int x1), some (.long 0), none, some (.int 0)] rfl ?_
  exact v_X11_loansNowAt_l5 X  fz hM
theorem s_X11_loansNowAt {x1 : Int32} {u : gM} {w : Int64} (hM : X11_loansNowAt u x1 = some w) : gMet skC yX11_loansNowAt cX11_loansNowAt 5 (some .long) 2 44 (fun B adK => [.ref (B + 0), .int x1]) u ((fun _ => some (.long w)), u) := by
  refine gMet.of (by decide) (fun _ _ => Nat.le_of_ble_eq_true rfl) (fun κ B X => ?_)
  have X : gX κ B skC cX11_loansNowAt 5 RX11 (some .long) 2 44 := X
  refine g_mk [true, true, false, false, false] [some (.ref (B + 0)), some (.int x1), none, none, none] rfl ?_
  exact v_X11_loansNowAt X  hM

/-! CoverDesk.held(II)J -/
theorem dX11_held_0 : decode cX11_held 0 = .ok (.aload_n 0, 1) := by decide +kernel
theorem dX11_held_1 : decode cX11_held 1 = .ok (.getfield 19, 3) := by decide +kernel
theorem dX11_held_4 : decode cX11_held 4 = .ok (.iload_n 1, 1) := by decide +kernel
theorem dX11_held_5 : decode cX11_held 5 = .ok (.invokevirtual 232, 3) := by decide +kernel
theorem dX11_held_8 : decode cX11_held 8 = .ok (.ifCond .ne 7, 3) := by decide +kernel
theorem dX11_held_11 : decode cX11_held 11 = .ok (.ldc2_w 250, 3) := by decide +kernel
theorem dX11_held_14 : decode cX11_held 14 = .ok (.lreturn, 1) := by decide +kernel
theorem dX11_held_15 : decode cX11_held 15 = .ok (.iload_n 2, 1) := by decide +kernel
theorem dX11_held_16 : decode cX11_held 16 = .ok (.tableswitch 46 0 2 #[28, 34, 40], 28) := by decide +kernel
theorem dX11_held_44 : decode cX11_held 44 = .ok (.aload_n 0, 1) := by decide +kernel
theorem dX11_held_45 : decode cX11_held 45 = .ok (.iload_n 1, 1) := by decide +kernel
theorem dX11_held_46 : decode cX11_held 46 = .ok (.invokevirtual 252, 3) := by decide +kernel
theorem dX11_held_49 : decode cX11_held 49 = .ok (.lreturn, 1) := by decide +kernel
theorem dX11_held_50 : decode cX11_held 50 = .ok (.aload_n 0, 1) := by decide +kernel
theorem dX11_held_51 : decode cX11_held 51 = .ok (.iload_n 1, 1) := by decide +kernel
theorem dX11_held_52 : decode cX11_held 52 = .ok (.invokevirtual 256, 3) := by decide +kernel
theorem dX11_held_55 : decode cX11_held 55 = .ok (.lreturn, 1) := by decide +kernel
theorem dX11_held_56 : decode cX11_held 56 = .ok (.aload_n 0, 1) := by decide +kernel
theorem dX11_held_57 : decode cX11_held 57 = .ok (.iload_n 1, 1) := by decide +kernel
theorem dX11_held_58 : decode cX11_held 58 = .ok (.invokevirtual 259, 3) := by decide +kernel
theorem dX11_held_61 : decode cX11_held 61 = .ok (.lreturn, 1) := by decide +kernel
theorem dX11_held_62 : decode cX11_held 62 = .ok (.ldc2_w 250, 3) := by decide +kernel
theorem dX11_held_65 : decode cX11_held 65 = .ok (.lreturn, 1) := by decide +kernel
def X11_held  (x1 : Int32) (x2 : Int32) (u : gM) : Option (Int64 × gM) :=
((X10_isBank u 3 x1).bind fun w5 => (if w5 = 0 then some ((-1), u)
  else (if x2 = 0 then ((X11_coinsNowAt u x1).bind fun w46 => some (w46, u))
    else (if x2 = 1 then ((X11_insuredNowAt x1 u).bind fun w52 => some (w52.1, w52.2))
    else (if x2 = 2 then ((X11_loansNowAt u x1).bind fun w58 => some (w58, u))
    else some ((-1), u))))))
set_option maxRecDepth 20000 in
theorem v_X11_held {κ : gK} {B : Nat} {u : gM} (X : gX κ B skC cX11_held 3 RX11 (some .long) 6 146)   {x1 : Int32} {x2 : Int32} {w : (Int64 × gM)} (hM : X11_held x1 x2 u = some w) : gV κ B skC 3 ((some (.long w.1)), w.2) 0 [some (.ref (B + 0)), some (.int x1), some (.int x2)] [] u := by
  unfold X11_held at hM
  refine g_aload_n X dX11_held_0 rfl ?_
  refine g_getR X fX11_19 cC_0 rfl dX11_held_1 ?_
  refine g_iload_n X dX11_held_4 rfl ?_
  obtain ⟨w5, e5, hM⟩ := bind_of hM
  refine g_callVi X (fun B adK => [.int x1]) (s_X10_isBank e5) cvX11_232 cC_3 rfl rfl (Nat.le_of_ble_eq_true rfl) ⟨by decide, by decide⟩ dX11_held_5 ?_
  refine g_if_ne (tgt := 15) X dX11_held_8 (by decide) (fun c8 => ?_) (fun c8 => ?_)
  · rw [if_neg c8] at hM
    refine g_iload_n X dX11_held_15 rfl ?_
    by_cases h16_0 : x2 = 0
    · rw [if_pos h16_0] at hM
      refine g_tabIn (tgt := 44) (off := 28) X 0 h16_0 dX11_held_16 (by decide) (by decide) (by decide) (by decide) ?_
      refine g_aload_n X dX11_held_44 rfl ?_
      refine g_iload_n X dX11_held_45 rfl ?_
      obtain ⟨w46, e46, hM⟩ := bind_of hM
      refine g_callVl X (fun B adK => [.int x1]) (s_X11_coinsNowAt e46) cvX11_252 cC_0 rfl rfl (Nat.le_of_ble_eq_true rfl) ⟨by decide, by decide⟩ dX11_held_46 ?_
      cases hM
      exact g_lret X dX11_held_49
    rw [if_neg h16_0] at hM
    by_cases h16_1 : x2 = 1
    · rw [if_pos h16_1] at hM
      refine g_tabIn (tgt := 50) (off := 34) X 1 h16_1 dX11_held_16 (by decide) (by decide) (by decide) (by decide) ?_
      refine g_aload_n X dX11_held_50 rfl ?_
      refine g_iload_n X dX11_held_51 rfl ?_
      obtain ⟨w52, e52, hM⟩ := bind_of hM
      refine g_callVl X (fun B adK => [.int x1]) (s_X11_insuredNowAt e52) cvX11_256 cC_0 rfl rfl (Nat.le_of_ble_eq_true rfl) ⟨by decide, by decide⟩ dX11_held_52 ?_
      cases hM
      exact g_lret X dX11_held_55
    rw [if_neg h16_1] at hM
    by_cases h16_2 : x2 = 2
    · rw [if_pos h16_2] at hM
      refine g_tabIn (tgt := 56) (off := 40) X 2 h16_2 dX11_held_16 (by decide) (by decide) (by decide) (by decide) ?_
      refine g_aload_n X dX11_held_56 rfl ?_
      refine g_iload_n X dX11_held_57 rfl ?_
      obtain ⟨w58, e58, hM⟩ := bind_of hM
      refine g_callVl X (fun B adK => [.int x1]) (s_X11_loansNowAt e58) cvX11_259 cC_0 rfl rfl (Nat.le_of_ble_eq_true rfl) ⟨by decide, by decide⟩ dX11_held_58 ?_
      cases hM
      exact g_lret X dX11_held_61
    rw [if_neg h16_2] at hM
    refine g_tabOut (tgt := 62) X dX11_held_16 (by have q0 := lv_neT (a := 0) h16_0 (by decide); have q1 := lv_neT (a := 1) h16_1 (by decide); have q2 := lv_neT (a := 2) h16_2 (by decide); omega) (by decide) ?_
    refine g_ldc2 (v := (-1)) X m_50_11 dX11_held_62 ?_
    cases hM
    exact g_lret X dX11_held_65
  · rw [if_pos c8] at hM
    refine g_ldc2 (v := (-1)) X m_50_11 dX11_held_11 ?_
    cases hM
    exact g_lret X dX11_held_14
theorem s_X11_held {x1 : Int32} {x2 : Int32} {u : gM} {w : (Int64 × gM)} (hM : X11_held x1 x2 u = some w) : gMet skC yX11_held cX11_held 3 (some .long) 6 146 (fun B adK => [.ref (B + 0), .int x1, .int x2]) u ((fun _ => some (.long w.1)), w.2) := by
  refine gMet.of (by decide) (fun _ _ => Nat.le_of_ble_eq_true rfl) (fun κ B X => ?_)
  have X : gX κ B skC cX11_held 3 RX11 (some .long) 6 146 := X
  refine g_mk [true, true, true] [some (.ref (B + 0)), some (.int x1), some (.int x2)] rfl ?_
  exact v_X11_held X  hM
theorem fr_X11_held {S : Nat → Prop} {u0 u : gM} {x1 : Int32} {x2 : Int32} (hs0 : S (rf skC 138 2)) (hs1 : S (rf skC 138 3)) (hs2 : S (rf skC 138 4)) (hs3 : S 137) (hs4 : S 138) (hs5 : S 142) (hs6 : S 143) (hs7 : S 144)   {w : (Int64 × gM)} (hM : X11_held x1 x2 u = some w) (h0 : off S u0 u) : off S u0 w.2 := by
  unfold X11_held at hM
  obtain ⟨w5, e5, hM⟩ := bind_of hM
  by_cases c8 : w5 = 0
  · rw [if_pos c8] at hM
    cases hM
    exact h0
  · rw [if_neg c8] at hM
    by_cases h16_0 : x2 = 0
    · rw [if_pos h16_0] at hM
      obtain ⟨w46, e46, hM⟩ := bind_of hM
      cases hM
      exact h0
    rw [if_neg h16_0] at hM
    by_cases h16_1 : x2 = 1
    · rw [if_pos h16_1] at hM
      obtain ⟨w52, e52, hM⟩ := bind_of hM
      have h0 := fr_X11_insuredNowAt hs0 hs1 hs2 hs3 hs4 hs5 hs6 hs7 e52 h0
      cases hM
      exact h0
    rw [if_neg h16_1] at hM
    by_cases h16_2 : x2 = 2
    · rw [if_pos h16_2] at hM
      obtain ⟨w58, e58, hM⟩ := bind_of hM
      cases hM
      exact h0
    rw [if_neg h16_2] at hM
    cases hM
    exact h0
/-! CoverDesk.loan(II)I -/
theorem dX11_loan_0 : decode cX11_loan 0 = .ok (.aload_n 0, 1) := by decide +kernel
theorem dX11_loan_1 : decode cX11_loan 1 = .ok (.getfield 19, 3) := by decide +kernel
theorem dX11_loan_4 : decode cX11_loan 4 = .ok (.iload_n 1, 1) := by decide +kernel
theorem dX11_loan_5 : decode cX11_loan 5 = .ok (.invokevirtual 323, 3) := by decide +kernel
theorem dX11_loan_8 : decode cX11_loan 8 = .ok (.ifCond .ne 5, 3) := by decide +kernel
theorem dX11_loan_11 : decode cX11_loan 11 = .ok (.iconst (-1), 1) := by decide +kernel
theorem dX11_loan_12 : decode cX11_loan 12 = .ok (.ireturn, 1) := by decide +kernel
theorem dX11_loan_13 : decode cX11_loan 13 = .ok (.iload_n 2, 1) := by decide +kernel
theorem dX11_loan_14 : decode cX11_loan 14 = .ok (.tableswitch 63 0 2 #[26, 36, 53], 26) := by decide +kernel
theorem dX11_loan_40 : decode cX11_loan 40 = .ok (.aload_n 0, 1) := by decide +kernel
theorem dX11_loan_41 : decode cX11_loan 41 = .ok (.getfield 19, 3) := by decide +kernel
theorem dX11_loan_44 : decode cX11_loan 44 = .ok (.getfield 326, 3) := by decide +kernel
theorem dX11_loan_47 : decode cX11_loan 47 = .ok (.iload_n 1, 1) := by decide +kernel
theorem dX11_loan_48 : decode cX11_loan 48 = .ok (.iaload, 1) := by decide +kernel
theorem dX11_loan_49 : decode cX11_loan 49 = .ok (.ireturn, 1) := by decide +kernel
theorem dX11_loan_50 : decode cX11_loan 50 = .ok (.aload_n 0, 1) := by decide +kernel
theorem dX11_loan_51 : decode cX11_loan 51 = .ok (.getfield 26, 3) := by decide +kernel
theorem dX11_loan_54 : decode cX11_loan 54 = .ok (.aload_n 0, 1) := by decide +kernel
theorem dX11_loan_55 : decode cX11_loan 55 = .ok (.getfield 19, 3) := by decide +kernel
theorem dX11_loan_58 : decode cX11_loan 58 = .ok (.getfield 329, 3) := by decide +kernel
theorem dX11_loan_61 : decode cX11_loan 61 = .ok (.iload_n 1, 1) := by decide +kernel
theorem dX11_loan_62 : decode cX11_loan 62 = .ok (.iaload, 1) := by decide +kernel
theorem dX11_loan_63 : decode cX11_loan 63 = .ok (.invokevirtual 187, 3) := by decide +kernel
theorem dX11_loan_66 : decode cX11_loan 66 = .ok (.ireturn, 1) := by decide +kernel
theorem dX11_loan_67 : decode cX11_loan 67 = .ok (.aload_n 0, 1) := by decide +kernel
theorem dX11_loan_68 : decode cX11_loan 68 = .ok (.getfield 26, 3) := by decide +kernel
theorem dX11_loan_71 : decode cX11_loan 71 = .ok (.getfield 332, 3) := by decide +kernel
theorem dX11_loan_74 : decode cX11_loan 74 = .ok (.iload_n 1, 1) := by decide +kernel
theorem dX11_loan_75 : decode cX11_loan 75 = .ok (.iaload, 1) := by decide +kernel
theorem dX11_loan_76 : decode cX11_loan 76 = .ok (.ireturn, 1) := by decide +kernel
theorem dX11_loan_77 : decode cX11_loan 77 = .ok (.iconst (-1), 1) := by decide +kernel
theorem dX11_loan_78 : decode cX11_loan 78 = .ok (.ireturn, 1) := by decide +kernel
def X11_loan (u : gM)  (x1 : Int32) (x2 : Int32) : Option Int32 :=
((X10_isLoan u 3 x1).bind fun w5 => (if w5 = 0 then some (-1)
  else (if x2 = 0 then ((aI skC u 15 x1).bind fun v48 => some v48)
    else (if x2 = 1 then ((aI skC u 16 x1).bind fun v62 => ((X8_nowAt u 18 v62).bind fun w63 => some w63))
    else (if x2 = 2 then ((aI skC u 20 x1).bind fun v75 => some v75)
    else some (-1))))))
set_option maxRecDepth 20000 in
theorem v_X11_loan {κ : gK} {B : Nat} {u : gM} (X : gX κ B skC cX11_loan 3 RX11 (some .int) 2 44)   {x1 : Int32} {x2 : Int32} {w : Int32} (hM : X11_loan u x1 x2 = some w) : gV κ B skC 3 ((some (.int w)), u) 0 [some (.ref (B + 0)), some (.int x1), some (.int x2)] [] u := by
  unfold X11_loan at hM
  refine g_aload_n X dX11_loan_0 rfl ?_
  refine g_getR X fX11_19 cC_0 rfl dX11_loan_1 ?_
  refine g_iload_n X dX11_loan_4 rfl ?_
  obtain ⟨w5, e5, hM⟩ := bind_of hM
  refine g_callVi X (fun B adK => [.int x1]) (s_X10_isLoan e5) cvX11_323 cC_3 rfl rfl (Nat.le_of_ble_eq_true rfl) ⟨by decide, by decide⟩ dX11_loan_5 ?_
  refine g_if_ne (tgt := 13) X dX11_loan_8 (by decide) (fun c8 => ?_) (fun c8 => ?_)
  · rw [if_neg c8] at hM
    refine g_iload_n X dX11_loan_13 rfl ?_
    by_cases h14_0 : x2 = 0
    · rw [if_pos h14_0] at hM
      refine g_tabIn (tgt := 40) (off := 26) X 0 h14_0 dX11_loan_14 (by decide) (by decide) (by decide) (by decide) ?_
      refine g_aload_n X dX11_loan_40 rfl ?_
      refine g_getR X fX11_19 cC_0 rfl dX11_loan_41 ?_
      refine g_getR X fX11_326 cC_3 rfl dX11_loan_44 ?_
      refine g_iload_n X dX11_loan_47 rfl ?_
      obtain ⟨v48, e48, hM⟩ := bind_of hM
      refine g_iaload X e48 dX11_loan_48 ?_
      cases hM
      exact g_iret X dX11_loan_49
    rw [if_neg h14_0] at hM
    by_cases h14_1 : x2 = 1
    · rw [if_pos h14_1] at hM
      refine g_tabIn (tgt := 50) (off := 36) X 1 h14_1 dX11_loan_14 (by decide) (by decide) (by decide) (by decide) ?_
      refine g_aload_n X dX11_loan_50 rfl ?_
      refine g_getR X fX11_26 cC_0 rfl dX11_loan_51 ?_
      refine g_aload_n X dX11_loan_54 rfl ?_
      refine g_getR X fX11_19 cC_0 rfl dX11_loan_55 ?_
      refine g_getR X fX11_329 cC_3 rfl dX11_loan_58 ?_
      refine g_iload_n X dX11_loan_61 rfl ?_
      obtain ⟨v62, e62, hM⟩ := bind_of hM
      refine g_iaload X e62 dX11_loan_62 ?_
      obtain ⟨w63, e63, hM⟩ := bind_of hM
      refine g_callVi X (fun B adK => [.int v62]) (s_X8_nowAt e63) cvX11_187 cC_18 rfl rfl (Nat.le_of_ble_eq_true rfl) ⟨by decide, by decide⟩ dX11_loan_63 ?_
      cases hM
      exact g_iret X dX11_loan_66
    rw [if_neg h14_1] at hM
    by_cases h14_2 : x2 = 2
    · rw [if_pos h14_2] at hM
      refine g_tabIn (tgt := 67) (off := 53) X 2 h14_2 dX11_loan_14 (by decide) (by decide) (by decide) (by decide) ?_
      refine g_aload_n X dX11_loan_67 rfl ?_
      refine g_getR X fX11_26 cC_0 rfl dX11_loan_68 ?_
      refine g_getR X fX11_332 cC_18 rfl dX11_loan_71 ?_
      refine g_iload_n X dX11_loan_74 rfl ?_
      obtain ⟨v75, e75, hM⟩ := bind_of hM
      refine g_iaload X e75 dX11_loan_75 ?_
      cases hM
      exact g_iret X dX11_loan_76
    rw [if_neg h14_2] at hM
    refine g_tabOut (tgt := 77) X dX11_loan_14 (by have q0 := lv_neT (a := 0) h14_0 (by decide); have q1 := lv_neT (a := 1) h14_1 (by decide); have q2 := lv_neT (a := 2) h14_2 (by decide); omega) (by decide) ?_
    refine g_iconst X (v := (-1)) dX11_loan_77 (by decide) ?_
    cases hM
    exact g_iret X dX11_loan_78
  · rw [if_pos c8] at hM
    refine g_iconst X (v := (-1)) dX11_loan_11 (by decide) ?_
    cases hM
    exact g_iret X dX11_loan_12
theorem s_X11_loan {x1 : Int32} {x2 : Int32} {u : gM} {w : Int32} (hM : X11_loan u x1 x2 = some w) : gMet skC yX11_loan cX11_loan 3 (some .int) 2 44 (fun B adK => [.ref (B + 0), .int x1, .int x2]) u ((fun _ => some (.int w)), u) := by
  refine gMet.of (by decide) (fun _ _ => Nat.le_of_ble_eq_true rfl) (fun κ B X => ?_)
  have X : gX κ B skC cX11_loan 3 RX11 (some .int) 2 44 := X
  refine g_mk [true, true, true] [some (.ref (B + 0)), some (.int x1), some (.int x2)] rfl ?_
  exact v_X11_loan X  hM

/-! CoverDesk.look(I)I -/
theorem dX11_look_0 : decode cX11_look 0 = .ok (.iload_n 1, 1) := by decide +kernel
theorem dX11_look_1 : decode cX11_look 1 = .ok (.tableswitch 132 0 9 #[55, 63, 71, 79, 87, 95, 103, 111, 119, 127], 55) := by decide +kernel
theorem dX11_look_56 : decode cX11_look 56 = .ok (.aload_n 0, 1) := by decide +kernel
theorem dX11_look_57 : decode cX11_look 57 = .ok (.getfield 19, 3) := by decide +kernel
theorem dX11_look_60 : decode cX11_look 60 = .ok (.getfield 374, 3) := by decide +kernel
theorem dX11_look_63 : decode cX11_look 63 = .ok (.ireturn, 1) := by decide +kernel
theorem dX11_look_64 : decode cX11_look 64 = .ok (.aload_n 0, 1) := by decide +kernel
theorem dX11_look_65 : decode cX11_look 65 = .ok (.getfield 19, 3) := by decide +kernel
theorem dX11_look_68 : decode cX11_look 68 = .ok (.getfield 392, 3) := by decide +kernel
theorem dX11_look_71 : decode cX11_look 71 = .ok (.ireturn, 1) := by decide +kernel
theorem dX11_look_72 : decode cX11_look 72 = .ok (.aload_n 0, 1) := by decide +kernel
theorem dX11_look_73 : decode cX11_look 73 = .ok (.getfield 19, 3) := by decide +kernel
theorem dX11_look_76 : decode cX11_look 76 = .ok (.getfield 112, 3) := by decide +kernel
theorem dX11_look_79 : decode cX11_look 79 = .ok (.ireturn, 1) := by decide +kernel
theorem dX11_look_80 : decode cX11_look 80 = .ok (.aload_n 0, 1) := by decide +kernel
theorem dX11_look_81 : decode cX11_look 81 = .ok (.getfield 19, 3) := by decide +kernel
theorem dX11_look_84 : decode cX11_look 84 = .ok (.getfield 402, 3) := by decide +kernel
theorem dX11_look_87 : decode cX11_look 87 = .ok (.ireturn, 1) := by decide +kernel
theorem dX11_look_88 : decode cX11_look 88 = .ok (.aload_n 0, 1) := by decide +kernel
theorem dX11_look_89 : decode cX11_look 89 = .ok (.getfield 26, 3) := by decide +kernel
theorem dX11_look_92 : decode cX11_look 92 = .ok (.getfield 191, 3) := by decide +kernel
theorem dX11_look_95 : decode cX11_look 95 = .ok (.ireturn, 1) := by decide +kernel
theorem dX11_look_96 : decode cX11_look 96 = .ok (.aload_n 0, 1) := by decide +kernel
theorem dX11_look_97 : decode cX11_look 97 = .ok (.getfield 19, 3) := by decide +kernel
theorem dX11_look_100 : decode cX11_look 100 = .ok (.getfield 405, 3) := by decide +kernel
theorem dX11_look_103 : decode cX11_look 103 = .ok (.ireturn, 1) := by decide +kernel
theorem dX11_look_104 : decode cX11_look 104 = .ok (.aload_n 0, 1) := by decide +kernel
theorem dX11_look_105 : decode cX11_look 105 = .ok (.getfield 19, 3) := by decide +kernel
theorem dX11_look_108 : decode cX11_look 108 = .ok (.getfield 408, 3) := by decide +kernel
theorem dX11_look_111 : decode cX11_look 111 = .ok (.ireturn, 1) := by decide +kernel
theorem dX11_look_112 : decode cX11_look 112 = .ok (.aload_n 0, 1) := by decide +kernel
theorem dX11_look_113 : decode cX11_look 113 = .ok (.getfield 33, 3) := by decide +kernel
theorem dX11_look_116 : decode cX11_look 116 = .ok (.getfield 411, 3) := by decide +kernel
theorem dX11_look_119 : decode cX11_look 119 = .ok (.ireturn, 1) := by decide +kernel
theorem dX11_look_120 : decode cX11_look 120 = .ok (.aload_n 0, 1) := by decide +kernel
theorem dX11_look_121 : decode cX11_look 121 = .ok (.getfield 12, 3) := by decide +kernel
theorem dX11_look_124 : decode cX11_look 124 = .ok (.getfield 91, 3) := by decide +kernel
theorem dX11_look_127 : decode cX11_look 127 = .ok (.ireturn, 1) := by decide +kernel
theorem dX11_look_128 : decode cX11_look 128 = .ok (.aload_n 0, 1) := by decide +kernel
theorem dX11_look_129 : decode cX11_look 129 = .ok (.getfield 119, 3) := by decide +kernel
theorem dX11_look_132 : decode cX11_look 132 = .ok (.ireturn, 1) := by decide +kernel
theorem dX11_look_133 : decode cX11_look 133 = .ok (.iconst (-1), 1) := by decide +kernel
theorem dX11_look_134 : decode cX11_look 134 = .ok (.ireturn, 1) := by decide +kernel
def X11_look (u : gM)  (x1 : Int32) : Option Int32 :=
(if x1 = 0 then some (u.1 3 0)
  else (if x1 = 1 then some (u.1 3 1)
  else (if x1 = 2 then some (u.1 3 2)
  else (if x1 = 3 then some (u.1 3 3)
  else (if x1 = 4 then some (u.1 18 0)
  else (if x1 = 5 then some (u.1 3 4)
  else (if x1 = 6 then some (u.1 3 5)
  else (if x1 = 7 then some (u.1 30 0)
  else (if x1 = 8 then some (u.1 1 0)
  else (if x1 = 9 then some (u.1 0 10)
  else some (-1)))))))))))
set_option maxRecDepth 20000 in
theorem v_X11_look {κ : gK} {B : Nat} {u : gM} (X : gX κ B skC cX11_look 2 RX11 (some .int) 0 0)   {x1 : Int32} {w : Int32} (hM : X11_look u x1 = some w) : gV κ B skC 2 ((some (.int w)), u) 0 [some (.ref (B + 0)), some (.int x1)] [] u := by
  unfold X11_look at hM
  refine g_iload_n X dX11_look_0 rfl ?_
  by_cases h1_0 : x1 = 0
  · rw [if_pos h1_0] at hM
    refine g_tabIn (tgt := 56) (off := 55) X 0 h1_0 dX11_look_1 (by decide) (by decide) (by decide) (by decide) ?_
    refine g_aload_n X dX11_look_56 rfl ?_
    refine g_getR X fX11_19 cC_0 rfl dX11_look_57 ?_
    refine g_getI X fX11_374 cC_3 rfl dX11_look_60 ?_
    cases hM
    exact g_iret X dX11_look_63
  rw [if_neg h1_0] at hM
  by_cases h1_1 : x1 = 1
  · rw [if_pos h1_1] at hM
    refine g_tabIn (tgt := 64) (off := 63) X 1 h1_1 dX11_look_1 (by decide) (by decide) (by decide) (by decide) ?_
    refine g_aload_n X dX11_look_64 rfl ?_
    refine g_getR X fX11_19 cC_0 rfl dX11_look_65 ?_
    refine g_getI X fX11_392 cC_3 rfl dX11_look_68 ?_
    cases hM
    exact g_iret X dX11_look_71
  rw [if_neg h1_1] at hM
  by_cases h1_2 : x1 = 2
  · rw [if_pos h1_2] at hM
    refine g_tabIn (tgt := 72) (off := 71) X 2 h1_2 dX11_look_1 (by decide) (by decide) (by decide) (by decide) ?_
    refine g_aload_n X dX11_look_72 rfl ?_
    refine g_getR X fX11_19 cC_0 rfl dX11_look_73 ?_
    refine g_getI X fX11_112 cC_3 rfl dX11_look_76 ?_
    cases hM
    exact g_iret X dX11_look_79
  rw [if_neg h1_2] at hM
  by_cases h1_3 : x1 = 3
  · rw [if_pos h1_3] at hM
    refine g_tabIn (tgt := 80) (off := 79) X 3 h1_3 dX11_look_1 (by decide) (by decide) (by decide) (by decide) ?_
    refine g_aload_n X dX11_look_80 rfl ?_
    refine g_getR X fX11_19 cC_0 rfl dX11_look_81 ?_
    refine g_getI X fX11_402 cC_3 rfl dX11_look_84 ?_
    cases hM
    exact g_iret X dX11_look_87
  rw [if_neg h1_3] at hM
  by_cases h1_4 : x1 = 4
  · rw [if_pos h1_4] at hM
    refine g_tabIn (tgt := 88) (off := 87) X 4 h1_4 dX11_look_1 (by decide) (by decide) (by decide) (by decide) ?_
    refine g_aload_n X dX11_look_88 rfl ?_
    refine g_getR X fX11_26 cC_0 rfl dX11_look_89 ?_
    refine g_getI X fX11_191 cC_18 rfl dX11_look_92 ?_
    cases hM
    exact g_iret X dX11_look_95
  rw [if_neg h1_4] at hM
  by_cases h1_5 : x1 = 5
  · rw [if_pos h1_5] at hM
    refine g_tabIn (tgt := 96) (off := 95) X 5 h1_5 dX11_look_1 (by decide) (by decide) (by decide) (by decide) ?_
    refine g_aload_n X dX11_look_96 rfl ?_
    refine g_getR X fX11_19 cC_0 rfl dX11_look_97 ?_
    refine g_getI X fX11_405 cC_3 rfl dX11_look_100 ?_
    cases hM
    exact g_iret X dX11_look_103
  rw [if_neg h1_5] at hM
  by_cases h1_6 : x1 = 6
  · rw [if_pos h1_6] at hM
    refine g_tabIn (tgt := 104) (off := 103) X 6 h1_6 dX11_look_1 (by decide) (by decide) (by decide) (by decide) ?_
    refine g_aload_n X dX11_look_104 rfl ?_
    refine g_getR X fX11_19 cC_0 rfl dX11_look_105 ?_
    refine g_getI X fX11_408 cC_3 rfl dX11_look_108 ?_
    cases hM
    exact g_iret X dX11_look_111
  rw [if_neg h1_6] at hM
  by_cases h1_7 : x1 = 7
  · rw [if_pos h1_7] at hM
    refine g_tabIn (tgt := 112) (off := 111) X 7 h1_7 dX11_look_1 (by decide) (by decide) (by decide) (by decide) ?_
    refine g_aload_n X dX11_look_112 rfl ?_
    refine g_getR X fX11_33 cC_0 rfl dX11_look_113 ?_
    refine g_getI X fX11_411 cC_30 rfl dX11_look_116 ?_
    cases hM
    exact g_iret X dX11_look_119
  rw [if_neg h1_7] at hM
  by_cases h1_8 : x1 = 8
  · rw [if_pos h1_8] at hM
    refine g_tabIn (tgt := 120) (off := 119) X 8 h1_8 dX11_look_1 (by decide) (by decide) (by decide) (by decide) ?_
    refine g_aload_n X dX11_look_120 rfl ?_
    refine g_getR X fX11_12 cC_0 rfl dX11_look_121 ?_
    refine g_getI X fX11_91 cC_1 rfl dX11_look_124 ?_
    cases hM
    exact g_iret X dX11_look_127
  rw [if_neg h1_8] at hM
  by_cases h1_9 : x1 = 9
  · rw [if_pos h1_9] at hM
    refine g_tabIn (tgt := 128) (off := 127) X 9 h1_9 dX11_look_1 (by decide) (by decide) (by decide) (by decide) ?_
    refine g_aload_n X dX11_look_128 rfl ?_
    refine g_getI X fX11_119 cC_0 rfl dX11_look_129 ?_
    cases hM
    exact g_iret X dX11_look_132
  rw [if_neg h1_9] at hM
  refine g_tabOut (tgt := 133) X dX11_look_1 (by have q0 := lv_neT (a := 0) h1_0 (by decide); have q1 := lv_neT (a := 1) h1_1 (by decide); have q2 := lv_neT (a := 2) h1_2 (by decide); have q3 := lv_neT (a := 3) h1_3 (by decide); have q4 := lv_neT (a := 4) h1_4 (by decide); have q5 := lv_neT (a := 5) h1_5 (by decide); have q6 := lv_neT (a := 6) h1_6 (by decide); have q7 := lv_neT (a := 7) h1_7 (by decide); have q8 := lv_neT (a := 8) h1_8 (by decide); have q9 := lv_neT (a := 9) h1_9 (by decide); omega) (by decide) ?_
  refine g_iconst X (v := (-1)) dX11_look_133 (by decide) ?_
  cases hM
  exact g_iret X dX11_look_134
theorem s_X11_look {x1 : Int32} {u : gM} {w : Int32} (hM : X11_look u x1 = some w) : gMet skC yX11_look cX11_look 2 (some .int) 0 0 (fun B adK => [.ref (B + 0), .int x1]) u ((fun _ => some (.int w)), u) := by
  refine gMet.of (by decide) (fun _ _ => Nat.le_of_ble_eq_true rfl) (fun κ B X => ?_)
  have X : gX κ B skC cX11_look 2 RX11 (some .int) 0 0 := X
  refine g_mk [true, true] [some (.ref (B + 0)), some (.int x1)] rfl ?_
  exact v_X11_look X  hM

/-! CoverDesk.merge(II)Z -/
theorem dX11_merge_0 : decode cX11_merge 0 = .ok (.aload_n 0, 1) := by decide +kernel
theorem dX11_merge_1 : decode cX11_merge 1 = .ok (.getfield 33, 3) := by decide +kernel
theorem dX11_merge_4 : decode cX11_merge 4 = .ok (.aload_n 0, 1) := by decide +kernel
theorem dX11_merge_5 : decode cX11_merge 5 = .ok (.getfield 26, 3) := by decide +kernel
theorem dX11_merge_8 : decode cX11_merge 8 = .ok (.invokevirtual 122, 3) := by decide +kernel
theorem dX11_merge_11 : decode cX11_merge 11 = .ok (.aload_n 0, 1) := by decide +kernel
theorem dX11_merge_12 : decode cX11_merge 12 = .ok (.getfield 33, 3) := by decide +kernel
theorem dX11_merge_15 : decode cX11_merge 15 = .ok (.aload_n 0, 1) := by decide +kernel
theorem dX11_merge_16 : decode cX11_merge 16 = .ok (.getfield 69, 3) := by decide +kernel
theorem dX11_merge_19 : decode cX11_merge 19 = .ok (.bipush 16, 2) := by decide +kernel
theorem dX11_merge_21 : decode cX11_merge 21 = .ok (.iload_n 1, 1) := by decide +kernel
theorem dX11_merge_22 : decode cX11_merge 22 = .ok (.iload_n 2, 1) := by decide +kernel
theorem dX11_merge_23 : decode cX11_merge 23 = .ok (.invokevirtual 136, 3) := by decide +kernel
theorem dX11_merge_26 : decode cX11_merge 26 = .ok (.invokevirtual 140, 3) := by decide +kernel
theorem dX11_merge_29 : decode cX11_merge 29 = .ok (.ireturn, 1) := by decide +kernel
def X11_merge  (x1 : Int32) (x2 : Int32) (u : gM) : Option (Int32 × gM) :=
((X7_keep 18 u).bind fun w8 => ((X3_act 16 x1 x2 w8).bind fun w23 => ((X7_confirm w23.1 w23.2).bind fun w26 => ((bI w26.1).bind fun v29 => some (v29, w26.2)))))
set_option maxRecDepth 20000 in
theorem v_X11_merge {κ : gK} {B : Nat} {u : gM} (X : gX κ B skC cX11_merge 3 RX11 (some .boolean) 7 168)   {x1 : Int32} {x2 : Int32} {w : (Int32 × gM)} (hM : X11_merge x1 x2 u = some w) : gV κ B skC 3 ((some (.int w.1)), w.2) 0 [some (.ref (B + 0)), some (.int x1), some (.int x2)] [] u := by
  unfold X11_merge at hM
  refine g_aload_n X dX11_merge_0 rfl ?_
  refine g_getR X fX11_33 cC_0 rfl dX11_merge_1 ?_
  refine g_aload_n X dX11_merge_4 rfl ?_
  refine g_getR X fX11_26 cC_0 rfl dX11_merge_5 ?_
  obtain ⟨w8, e8, hM⟩ := bind_of hM
  refine g_callVv X (fun B adK => [.ref (B + 18)]) (s_X7_keep e8) cvX11_122 cC_30 rfl rfl (Nat.le_of_ble_eq_true rfl) ⟨by decide, by decide⟩ dX11_merge_8 ?_
  refine g_aload_n X dX11_merge_11 rfl ?_
  refine g_getR X fX11_33 cC_0 rfl dX11_merge_12 ?_
  refine g_aload_n X dX11_merge_15 rfl ?_
  refine g_getR X fX11_69 cC_0 rfl dX11_merge_16 ?_
  refine g_bipush X (v := 16) dX11_merge_19 (by decide) ?_
  refine g_iload_n X dX11_merge_21 rfl ?_
  refine g_iload_n X dX11_merge_22 rfl ?_
  obtain ⟨w23, e23, hM⟩ := bind_of hM
  refine g_callVi X (fun B adK => [.int 16, .int x1, .int x2]) (s_X3_act e23) cvX11_136 cC_145 rfl rfl (Nat.le_of_ble_eq_true rfl) ⟨by decide, by decide⟩ dX11_merge_23 ?_
  obtain ⟨w26, e26, hM⟩ := bind_of hM
  refine g_callVi X (fun B adK => [.int w23.1]) (s_X7_confirm e26) cvX11_140 cC_30 rfl rfl (Nat.le_of_ble_eq_true rfl) ⟨by decide, by decide⟩ dX11_merge_26 ?_
  obtain ⟨v29, e29, hM⟩ := bind_of hM
  obtain ⟨hv, rfl⟩ := bI_of e29
  cases hM
  exact g_zret X hv dX11_merge_29
theorem s_X11_merge {x1 : Int32} {x2 : Int32} {u : gM} {w : (Int32 × gM)} (hM : X11_merge x1 x2 u = some w) : gMet skC yX11_merge cX11_merge 3 (some .boolean) 7 168 (fun B adK => [.ref (B + 0), .int x1, .int x2]) u ((fun _ => some (.int w.1)), w.2) := by
  refine gMet.of (by decide) (fun _ _ => Nat.le_of_ble_eq_true rfl) (fun κ B X => ?_)
  have X : gX κ B skC cX11_merge 3 RX11 (some .boolean) 7 168 := X
  refine g_mk [true, true, true] [some (.ref (B + 0)), some (.int x1), some (.int x2)] rfl ?_
  exact v_X11_merge X  hM

/-! CoverDesk.months(I)Z -/
theorem dX11_months_0 : decode cX11_months 0 = .ok (.aload_n 0, 1) := by decide +kernel
theorem dX11_months_1 : decode cX11_months 1 = .ok (.getfield 33, 3) := by decide +kernel
theorem dX11_months_4 : decode cX11_months 4 = .ok (.aload_n 0, 1) := by decide +kernel
theorem dX11_months_5 : decode cX11_months 5 = .ok (.getfield 26, 3) := by decide +kernel
theorem dX11_months_8 : decode cX11_months 8 = .ok (.invokevirtual 122, 3) := by decide +kernel
theorem dX11_months_11 : decode cX11_months 11 = .ok (.aload_n 0, 1) := by decide +kernel
theorem dX11_months_12 : decode cX11_months 12 = .ok (.getfield 33, 3) := by decide +kernel
theorem dX11_months_15 : decode cX11_months 15 = .ok (.aload_n 0, 1) := by decide +kernel
theorem dX11_months_16 : decode cX11_months 16 = .ok (.getfield 69, 3) := by decide +kernel
theorem dX11_months_19 : decode cX11_months 19 = .ok (.bipush 18, 2) := by decide +kernel
theorem dX11_months_21 : decode cX11_months 21 = .ok (.iload_n 1, 1) := by decide +kernel
theorem dX11_months_22 : decode cX11_months 22 = .ok (.iconst 0, 1) := by decide +kernel
theorem dX11_months_23 : decode cX11_months 23 = .ok (.invokevirtual 136, 3) := by decide +kernel
theorem dX11_months_26 : decode cX11_months 26 = .ok (.invokevirtual 140, 3) := by decide +kernel
theorem dX11_months_29 : decode cX11_months 29 = .ok (.ireturn, 1) := by decide +kernel
def X11_months  (x1 : Int32) (u : gM) : Option (Int32 × gM) :=
((X7_keep 18 u).bind fun w8 => ((X3_act 18 x1 0 w8).bind fun w23 => ((X7_confirm w23.1 w23.2).bind fun w26 => ((bI w26.1).bind fun v29 => some (v29, w26.2)))))
set_option maxRecDepth 20000 in
theorem v_X11_months {κ : gK} {B : Nat} {u : gM} (X : gX κ B skC cX11_months 2 RX11 (some .boolean) 7 168)   {x1 : Int32} {w : (Int32 × gM)} (hM : X11_months x1 u = some w) : gV κ B skC 2 ((some (.int w.1)), w.2) 0 [some (.ref (B + 0)), some (.int x1)] [] u := by
  unfold X11_months at hM
  refine g_aload_n X dX11_months_0 rfl ?_
  refine g_getR X fX11_33 cC_0 rfl dX11_months_1 ?_
  refine g_aload_n X dX11_months_4 rfl ?_
  refine g_getR X fX11_26 cC_0 rfl dX11_months_5 ?_
  obtain ⟨w8, e8, hM⟩ := bind_of hM
  refine g_callVv X (fun B adK => [.ref (B + 18)]) (s_X7_keep e8) cvX11_122 cC_30 rfl rfl (Nat.le_of_ble_eq_true rfl) ⟨by decide, by decide⟩ dX11_months_8 ?_
  refine g_aload_n X dX11_months_11 rfl ?_
  refine g_getR X fX11_33 cC_0 rfl dX11_months_12 ?_
  refine g_aload_n X dX11_months_15 rfl ?_
  refine g_getR X fX11_69 cC_0 rfl dX11_months_16 ?_
  refine g_bipush X (v := 18) dX11_months_19 (by decide) ?_
  refine g_iload_n X dX11_months_21 rfl ?_
  refine g_iconst X (v := 0) dX11_months_22 (by decide) ?_
  obtain ⟨w23, e23, hM⟩ := bind_of hM
  refine g_callVi X (fun B adK => [.int 18, .int x1, .int 0]) (s_X3_act e23) cvX11_136 cC_145 rfl rfl (Nat.le_of_ble_eq_true rfl) ⟨by decide, by decide⟩ dX11_months_23 ?_
  obtain ⟨w26, e26, hM⟩ := bind_of hM
  refine g_callVi X (fun B adK => [.int w23.1]) (s_X7_confirm e26) cvX11_140 cC_30 rfl rfl (Nat.le_of_ble_eq_true rfl) ⟨by decide, by decide⟩ dX11_months_26 ?_
  obtain ⟨v29, e29, hM⟩ := bind_of hM
  obtain ⟨hv, rfl⟩ := bI_of e29
  cases hM
  exact g_zret X hv dX11_months_29
theorem s_X11_months {x1 : Int32} {u : gM} {w : (Int32 × gM)} (hM : X11_months x1 u = some w) : gMet skC yX11_months cX11_months 2 (some .boolean) 7 168 (fun B adK => [.ref (B + 0), .int x1]) u ((fun _ => some (.int w.1)), w.2) := by
  refine gMet.of (by decide) (fun _ _ => Nat.le_of_ble_eq_true rfl) (fun κ B X => ?_)
  have X : gX κ B skC cX11_months 2 RX11 (some .boolean) 7 168 := X
  refine g_mk [true, true] [some (.ref (B + 0)), some (.int x1)] rfl ?_
  exact v_X11_months X  hM

/-! CoverDesk$Moves.weigh(I)V -/
theorem dX6_weigh_0 : decode cX6_weigh 0 = .ok (.aload_n 0, 1) := by decide +kernel
theorem dX6_weigh_1 : decode cX6_weigh 1 = .ok (.getfield 36, 3) := by decide +kernel
theorem dX6_weigh_4 : decode cX6_weigh 4 = .ok (.aload_n 0, 1) := by decide +kernel
theorem dX6_weigh_5 : decode cX6_weigh 5 = .ok (.getfield 32, 3) := by decide +kernel
theorem dX6_weigh_8 : decode cX6_weigh 8 = .ok (.getfield 40, 3) := by decide +kernel
theorem dX6_weigh_11 : decode cX6_weigh 11 = .ok (.invokevirtual 46, 3) := by decide +kernel
theorem dX6_weigh_14 : decode cX6_weigh 14 = .ok (.iconst 0, 1) := by decide +kernel
theorem dX6_weigh_15 : decode cX6_weigh 15 = .ok (.istore_n 2, 1) := by decide +kernel
theorem dX6_weigh_16 : decode cX6_weigh 16 = .ok (.iload_n 2, 1) := by decide +kernel
theorem dX6_weigh_17 : decode cX6_weigh 17 = .ok (.aload_n 0, 1) := by decide +kernel
theorem dX6_weigh_18 : decode cX6_weigh 18 = .ok (.getfield 28, 3) := by decide +kernel
theorem dX6_weigh_21 : decode cX6_weigh 21 = .ok (.getfield 52, 3) := by decide +kernel
theorem dX6_weigh_24 : decode cX6_weigh 24 = .ok (.if_icmp .ge 85, 3) := by decide +kernel
theorem dX6_weigh_27 : decode cX6_weigh 27 = .ok (.aload_n 0, 1) := by decide +kernel
theorem dX6_weigh_28 : decode cX6_weigh 28 = .ok (.getfield 36, 3) := by decide +kernel
theorem dX6_weigh_31 : decode cX6_weigh 31 = .ok (.iload_n 1, 1) := by decide +kernel
theorem dX6_weigh_32 : decode cX6_weigh 32 = .ok (.iconst 0, 1) := by decide +kernel
theorem dX6_weigh_33 : decode cX6_weigh 33 = .ok (.iload_n 2, 1) := by decide +kernel
theorem dX6_weigh_34 : decode cX6_weigh 34 = .ok (.invokevirtual 57, 3) := by decide +kernel
theorem dX6_weigh_37 : decode cX6_weigh 37 = .ok (.aload_n 0, 1) := by decide +kernel
theorem dX6_weigh_38 : decode cX6_weigh 38 = .ok (.getfield 36, 3) := by decide +kernel
theorem dX6_weigh_41 : decode cX6_weigh 41 = .ok (.getfield 61, 3) := by decide +kernel
theorem dX6_weigh_44 : decode cX6_weigh 44 = .ok (.getfield 65, 3) := by decide +kernel
theorem dX6_weigh_47 : decode cX6_weigh 47 = .ok (.lstore_n 3, 1) := by decide +kernel
theorem dX6_weigh_48 : decode cX6_weigh 48 = .ok (.aload_n 0, 1) := by decide +kernel
theorem dX6_weigh_49 : decode cX6_weigh 49 = .ok (.getfield 9, 3) := by decide +kernel
theorem dX6_weigh_52 : decode cX6_weigh 52 = .ok (.iload_n 2, 1) := by decide +kernel
theorem dX6_weigh_53 : decode cX6_weigh 53 = .ok (.lconst 0, 1) := by decide +kernel
theorem dX6_weigh_54 : decode cX6_weigh 54 = .ok (.lload_n 3, 1) := by decide +kernel
theorem dX6_weigh_55 : decode cX6_weigh 55 = .ok (.aload_n 0, 1) := by decide +kernel
theorem dX6_weigh_56 : decode cX6_weigh 56 = .ok (.getfield 28, 3) := by decide +kernel
theorem dX6_weigh_59 : decode cX6_weigh 59 = .ok (.getfield 71, 3) := by decide +kernel
theorem dX6_weigh_62 : decode cX6_weigh 62 = .ok (.i2l, 1) := by decide +kernel
theorem dX6_weigh_63 : decode cX6_weigh 63 = .ok (.lsub, 1) := by decide +kernel
theorem dX6_weigh_64 : decode cX6_weigh 64 = .ok (.invokestatic 74, 3) := by decide +kernel
theorem dX6_weigh_67 : decode cX6_weigh 67 = .ok (.lastore, 1) := by decide +kernel
theorem dX6_weigh_68 : decode cX6_weigh 68 = .ok (.aload_n 0, 1) := by decide +kernel
theorem dX6_weigh_69 : decode cX6_weigh 69 = .ok (.getfield 15, 3) := by decide +kernel
theorem dX6_weigh_72 : decode cX6_weigh 72 = .ok (.iload_n 2, 1) := by decide +kernel
theorem dX6_weigh_73 : decode cX6_weigh 73 = .ok (.aload_n 0, 1) := by decide +kernel
theorem dX6_weigh_74 : decode cX6_weigh 74 = .ok (.getfield 32, 3) := by decide +kernel
theorem dX6_weigh_77 : decode cX6_weigh 77 = .ok (.iload_n 2, 1) := by decide +kernel
theorem dX6_weigh_78 : decode cX6_weigh 78 = .ok (.invokevirtual 80, 3) := by decide +kernel
theorem dX6_weigh_81 : decode cX6_weigh 81 = .ok (.ifCond .eq 20, 3) := by decide +kernel
theorem dX6_weigh_84 : decode cX6_weigh 84 = .ok (.lconst 0, 1) := by decide +kernel
theorem dX6_weigh_85 : decode cX6_weigh 85 = .ok (.aload_n 0, 1) := by decide +kernel
theorem dX6_weigh_86 : decode cX6_weigh 86 = .ok (.getfield 28, 3) := by decide +kernel
theorem dX6_weigh_89 : decode cX6_weigh 89 = .ok (.getfield 71, 3) := by decide +kernel
theorem dX6_weigh_92 : decode cX6_weigh 92 = .ok (.i2l, 1) := by decide +kernel
theorem dX6_weigh_93 : decode cX6_weigh 93 = .ok (.lload_n 3, 1) := by decide +kernel
theorem dX6_weigh_94 : decode cX6_weigh 94 = .ok (.lsub, 1) := by decide +kernel
theorem dX6_weigh_95 : decode cX6_weigh 95 = .ok (.invokestatic 74, 3) := by decide +kernel
theorem dX6_weigh_98 : decode cX6_weigh 98 = .ok (.goto 4, 3) := by decide +kernel
theorem dX6_weigh_101 : decode cX6_weigh 101 = .ok (.lconst 0, 1) := by decide +kernel
theorem dX6_weigh_102 : decode cX6_weigh 102 = .ok (.lastore, 1) := by decide +kernel
theorem dX6_weigh_103 : decode cX6_weigh 103 = .ok (.iinc 2 1, 3) := by decide +kernel
theorem dX6_weigh_106 : decode cX6_weigh 106 = .ok (.goto (-90), 3) := by decide +kernel
theorem dX6_weigh_109 : decode cX6_weigh 109 = .ok (.return_, 1) := by decide +kernel
def X6_weigh_b102 (k16 : Int32 → Int32 → gM → Option gM) (x1 : Int32) (x2 : Int32) (s1 : Int32) (s2 : Int64) (u : gM) : Option gM :=
((sJ skC u 152 s1 s2).bind fun u102 => (k16 x1 (x2 + 1) u102))
def X6_weigh_b16 (k16 : Int32 → Int32 → gM → Option gM) (x1 : Int32) (x2 : Int32) (u : gM) : Option gM :=
(if (u.1 3 1) ≤ x2 then some u
  else ((X1_gather x1 0 x2 u).bind fun w34 => ((sJ skC w34 151 x2 (mxJ 0 ((w34.2 138 1) - (w34.1 3 4).toInt64))).bind fun u67 => ((X8_isOpen u67 18 x2).bind fun w78 => (if w78 = 0 then (X6_weigh_b102 k16 x1 x2 x2 0 u67)
    else (X6_weigh_b102 k16 x1 x2 x2 (mxJ 0 ((u67.1 3 4).toInt64 - (w34.2 138 1))) u67))))))
def X6_weigh_l16  : Nat → Int32 → Int32 → gM → Option gM
  | 0, _, _, _ => none
  | n + 1, x1, x2, u => X6_weigh_b16  (X6_weigh_l16  n) x1 x2 u
def X6_weigh  (x1 : Int32) (u : gM) : Option gM :=
((X1_setMonth (u.1 18 0) u).bind fun w11 => (X6_weigh_l16 fz x1 0 w11))
set_option maxRecDepth 20000 in
theorem v_X6_weigh_b102 {κ : gK} {B : Nat} {u : gM} (X : gX κ B skC cX6_weigh 5 RX6 none 4 96) {k16 : Int32 → Int32 → gM → Option gM} (ih16 : ∀ (x1 : Int32) (x2 : Int32) (u : gM) (w : gM), k16 x1 x2 u = some w → gV κ B skC 5 ((none), w) 16 [some (.ref (B + 150)), some (.int x1), some (.int x2), none, none] [] u) {x1 : Int32} {x2 : Int32} {s1 : Int32} {s2 : Int64} {w : gM} (hM : X6_weigh_b102 k16 x1 x2 s1 s2 u = some w) : gV κ B skC 5 ((none), w) 102 [some (.ref (B + 150)), some (.int x1), some (.int x2), none, none] [.long s2, .int s1, .ref (B + 152)] u := by
  unfold X6_weigh_b102 at hM
  obtain ⟨u102, e102, hM⟩ := bind_of hM
  refine g_lastore X e102 dX6_weigh_102 ?_
  refine g_iinc (d := 1) X [some (.ref (B + 150)), some (.int x1), some (.int (x2 + 1)), none, none] dX6_weigh_103 (by decide) rfl (by decide) rfl ?_
  refine g_goto (tgt := 16) X dX6_weigh_106 (by decide) ?_
  refine g_mk [true, true, true, false, false] [some (.ref (B + 150)), some (.int x1), some (.int (x2 + 1)), none, none] rfl ?_
  exact ih16 x1 (x2 + 1) u102 _ hM
set_option maxRecDepth 20000 in
theorem v_X6_weigh_b16 {κ : gK} {B : Nat} {u : gM} (X : gX κ B skC cX6_weigh 5 RX6 none 4 96) {k16 : Int32 → Int32 → gM → Option gM} (ih16 : ∀ (x1 : Int32) (x2 : Int32) (u : gM) (w : gM), k16 x1 x2 u = some w → gV κ B skC 5 ((none), w) 16 [some (.ref (B + 150)), some (.int x1), some (.int x2), none, none] [] u) {x1 : Int32} {x2 : Int32} {w : gM} (hM : X6_weigh_b16 k16 x1 x2 u = some w) : gV κ B skC 5 ((none), w) 16 [some (.ref (B + 150)), some (.int x1), some (.int x2), none, none] [] u := by
  unfold X6_weigh_b16 at hM
  refine g_iload_n X dX6_weigh_16 rfl ?_
  refine g_aload_n X dX6_weigh_17 rfl ?_
  refine g_getR X fX6_28 cC_150 rfl dX6_weigh_18 ?_
  refine g_getI X fX6_52 cC_3 rfl dX6_weigh_21 ?_
  refine g_icmp_ge (tgt := 109) X dX6_weigh_24 (by decide) (fun c24 => ?_) (fun c24 => ?_)
  · rw [if_pos c24] at hM
    cases hM
    exact g_vret X dX6_weigh_109
  · rw [if_neg c24] at hM
    refine g_aload_n X dX6_weigh_27 rfl ?_
    refine g_getR X fX6_36 cC_150 rfl dX6_weigh_28 ?_
    refine g_iload_n X dX6_weigh_31 rfl ?_
    refine g_iconst X (v := 0) dX6_weigh_32 (by decide) ?_
    refine g_iload_n X dX6_weigh_33 rfl ?_
    obtain ⟨w34, e34, hM⟩ := bind_of hM
    refine g_callVv X (fun B adK => [.int x1, .int 0, .int x2]) (s_X1_gather e34) cvX6_57 cC_136 rfl rfl (Nat.le_of_ble_eq_true rfl) ⟨by decide, by decide⟩ dX6_weigh_34 ?_
    refine g_aload_n X dX6_weigh_37 rfl ?_
    refine g_getR X fX6_36 cC_150 rfl dX6_weigh_38 ?_
    refine g_getR X fX6_61 cC_136 rfl dX6_weigh_41 ?_
    refine g_getJ X fX6_65 cC_138 rfl dX6_weigh_44 ?_
    refine g_lstore_n X [some (.ref (B + 150)), some (.int x1), some (.int x2), some (.long (w34.2 138 1)), none] dX6_weigh_47 (by decide) rfl ?_
    refine g_aload_n X dX6_weigh_48 rfl ?_
    refine g_getR X fX6_9 cC_150 rfl dX6_weigh_49 ?_
    refine g_iload_n X dX6_weigh_52 rfl ?_
    refine g_lconst (v := 0) X dX6_weigh_53 (by decide) ?_
    refine g_lload_n X dX6_weigh_54 rfl ?_
    refine g_aload_n X dX6_weigh_55 rfl ?_
    refine g_getR X fX6_28 cC_150 rfl dX6_weigh_56 ?_
    refine g_getI X fX6_71 cC_3 rfl dX6_weigh_59 ?_
    refine g_i2l X dX6_weigh_62 ?_
    refine g_lsub X dX6_weigh_63 ?_
    refine g_maxJ X m_56_16 ⟨by decide, Nat.le_of_ble_eq_true rfl⟩ dX6_weigh_64 ?_
    obtain ⟨u67, e67, hM⟩ := bind_of hM
    refine g_lastore X e67 dX6_weigh_67 ?_
    refine g_aload_n X dX6_weigh_68 rfl ?_
    refine g_getR X fX6_15 cC_150 rfl dX6_weigh_69 ?_
    refine g_iload_n X dX6_weigh_72 rfl ?_
    refine g_aload_n X dX6_weigh_73 rfl ?_
    refine g_getR X fX6_32 cC_150 rfl dX6_weigh_74 ?_
    refine g_iload_n X dX6_weigh_77 rfl ?_
    obtain ⟨w78, e78, hM⟩ := bind_of hM
    refine g_callVi X (fun B adK => [.int x2]) (s_X8_isOpen e78) cvX6_80 cC_18 rfl rfl (Nat.le_of_ble_eq_true rfl) ⟨by decide, by decide⟩ dX6_weigh_78 ?_
    refine g_if_eq (tgt := 101) X dX6_weigh_81 (by decide) (fun c81 => ?_) (fun c81 => ?_)
    · rw [if_pos c81] at hM
      refine g_lconst (v := 0) X dX6_weigh_101 (by decide) ?_
      refine g_mk [true, true, true, false, false] [some (.ref (B + 150)), some (.int x1), some (.int x2), none, none] rfl ?_
      exact v_X6_weigh_b102 X ih16 hM
    · rw [if_neg c81] at hM
      refine g_lconst (v := 0) X dX6_weigh_84 (by decide) ?_
      refine g_aload_n X dX6_weigh_85 rfl ?_
      refine g_getR X fX6_28 cC_150 rfl dX6_weigh_86 ?_
      refine g_getI X fX6_71 cC_3 rfl dX6_weigh_89 ?_
      refine g_i2l X dX6_weigh_92 ?_
      refine g_lload_n X dX6_weigh_93 rfl ?_
      refine g_lsub X dX6_weigh_94 ?_
      refine g_maxJ X m_56_16 ⟨by decide, Nat.le_of_ble_eq_true rfl⟩ dX6_weigh_95 ?_
      refine g_goto (tgt := 102) X dX6_weigh_98 (by decide) ?_
      refine g_mk [true, true, true, false, false] [some (.ref (B + 150)), some (.int x1), some (.int x2), none, none] rfl ?_
      exact v_X6_weigh_b102 X ih16 hM
theorem v_X6_weigh_l16 {κ : gK} {B : Nat} (X : gX κ B skC cX6_weigh 5 RX6 none 4 96)   : ∀ (n : Nat) {x1 : Int32} {x2 : Int32} {u : gM} {w : gM} (hM : X6_weigh_l16  n x1 x2 u = some w), gV κ B skC 5 ((none), w) 16 [some (.ref (B + 150)), some (.int x1), some (.int x2), none, none] [] u := by
  intro n
  induction n with
  | zero => intro x1 x2 u w hM; exact nomatch (show (none : Option gM) = some w from hM)
  | succ n ihn => intro x1 x2 u w hM; exact v_X6_weigh_b16 X  (fun x1 x2 u w h => ihn h) hM
set_option maxRecDepth 20000 in
theorem v_X6_weigh {κ : gK} {B : Nat} {u : gM} (X : gX κ B skC cX6_weigh 5 RX6 none 4 96)   {x1 : Int32} {w : gM} (hM : X6_weigh x1 u = some w) : gV κ B skC 5 ((none), w) 0 [some (.ref (B + 150)), some (.int x1), none, none, none] [] u := by
  unfold X6_weigh at hM
  refine g_aload_n X dX6_weigh_0 rfl ?_
  refine g_getR X fX6_36 cC_150 rfl dX6_weigh_1 ?_
  refine g_aload_n X dX6_weigh_4 rfl ?_
  refine g_getR X fX6_32 cC_150 rfl dX6_weigh_5 ?_
  refine g_getI X fX6_40 cC_18 rfl dX6_weigh_8 ?_
  obtain ⟨w11, e11, hM⟩ := bind_of hM
  refine g_callVv X (fun B adK => [.int (u.1 18 0)]) (s_X1_setMonth e11) cvX6_46 cC_136 rfl rfl (Nat.le_of_ble_eq_true rfl) ⟨by decide, by decide⟩ dX6_weigh_11 ?_
  refine g_iconst X (v := 0) dX6_weigh_14 (by decide) ?_
  refine g_istore_n X [some (.ref (B + 150)), some (.int x1), some (.int 0), none, none] dX6_weigh_15 (by decide) rfl ?_
  refine g_mk [true, true, true, false, false] [some (.ref (B + 150)), some (.int x1), some (.int 0), none, none] rfl ?_
  exact v_X6_weigh_l16 X  fz hM
theorem s_X6_weigh {x1 : Int32} {u : gM} {w : gM} (hM : X6_weigh x1 u = some w) : gMet skC yX6_weigh cX6_weigh 5 none 4 96 (fun B adK => [.ref (B + 150), .int x1]) u ((fun _ => none), w) := by
  refine gMet.of (by decide) (fun _ _ => Nat.le_of_ble_eq_true rfl) (fun κ B X => ?_)
  have X : gX κ B skC cX6_weigh 5 RX6 none 4 96 := X
  refine g_mk [true, true, false, false, false] [some (.ref (B + 150)), some (.int x1), none, none, none] rfl ?_
  exact v_X6_weigh X  hM
theorem fr_X6_weigh_b102 {S : Nat → Prop} {u0 u : gM} {x1 : Int32} {x2 : Int32} {s1 : Int32} {s2 : Int64} (hs0 : S (rf skC 138 2)) (hs1 : S 138) (hs2 : S 143) (hs3 : S 151) (hs4 : S 152) {k16 : Int32 → Int32 → gM → Option gM} (ik16 : ∀ (x1 : Int32) (x2 : Int32) (u : gM) (w : gM), S (rf skC 138 2) → S 138 → S 143 → S 151 → S 152 → off S u0 u → k16 x1 x2 u = some w → off S u0 w) {w : gM} (hM : X6_weigh_b102 k16 x1 x2 s1 s2 u = some w) (h0 : off S u0 u) : off S u0 w := by
  unfold X6_weigh_b102 at hM
  obtain ⟨u102, e102, hM⟩ := bind_of hM
  have h0 := off_sJ hs4 e102 h0
  exact ik16 _ _ _ _ hs0 hs1 hs2 hs3 hs4 h0 hM
theorem fr_X6_weigh_b16 {S : Nat → Prop} {u0 u : gM} {x1 : Int32} {x2 : Int32} (hs0 : S (rf skC 138 2)) (hs1 : S 138) (hs2 : S 143) (hs3 : S 151) (hs4 : S 152) {k16 : Int32 → Int32 → gM → Option gM} (ik16 : ∀ (x1 : Int32) (x2 : Int32) (u : gM) (w : gM), S (rf skC 138 2) → S 138 → S 143 → S 151 → S 152 → off S u0 u → k16 x1 x2 u = some w → off S u0 w) {w : gM} (hM : X6_weigh_b16 k16 x1 x2 u = some w) (h0 : off S u0 u) : off S u0 w := by
  unfold X6_weigh_b16 at hM
  by_cases c24 : (u.1 3 1) ≤ x2
  · rw [if_pos c24] at hM
    cases hM
    exact h0
  · rw [if_neg c24] at hM
    obtain ⟨w34, e34, hM⟩ := bind_of hM
    have h0 := fr_X1_gather hs0 hs1 hs2 e34 h0
    obtain ⟨u67, e67, hM⟩ := bind_of hM
    have h0 := off_sJ hs3 e67 h0
    obtain ⟨w78, e78, hM⟩ := bind_of hM
    by_cases c81 : w78 = 0
    · rw [if_pos c81] at hM
      exact fr_X6_weigh_b102 hs0 hs1 hs2 hs3 hs4 ik16 hM h0
    · rw [if_neg c81] at hM
      exact fr_X6_weigh_b102 hs0 hs1 hs2 hs3 hs4 ik16 hM h0
theorem fr_X6_weigh_l16 {S : Nat → Prop} {u0 : gM}   : ∀ (n : Nat) {x1 : Int32} {x2 : Int32} (hs0 : S (rf skC 138 2)) (hs1 : S 138) (hs2 : S 143) (hs3 : S 151) (hs4 : S 152) {u : gM} {w : gM} (h0 : off S u0 u) (hM : X6_weigh_l16  n x1 x2 u = some w), off S u0 w := by
  intro n
  induction n with
  | zero => intro x1 x2 hs0 hs1 hs2 hs3 hs4 u w h0 hM; exact nomatch (show (none : Option gM) = some w from hM)
  | succ n ihn => intro x1 x2 hs0 hs1 hs2 hs3 hs4 u w h0 hM; exact fr_X6_weigh_b16 hs0 hs1 hs2 hs3 hs4  (fun x1 x2 _ _ hs0 hs1 hs2 hs3 hs4 h0 h => ihn hs0 hs1 hs2 hs3 hs4 h0 h) hM h0
theorem fr_X6_weigh {S : Nat → Prop} {u0 u : gM} {x1 : Int32} (hs0 : S (rf skC 138 2)) (hs1 : S 138) (hs2 : S 142) (hs3 : S 143) (hs4 : S 151) (hs5 : S 152)   {w : gM} (hM : X6_weigh x1 u = some w) (h0 : off S u0 u) : off S u0 w := by
  unfold X6_weigh at hM
  obtain ⟨w11, e11, hM⟩ := bind_of hM
  have h0 := fr_X1_setMonth hs2 e11 h0
  exact fr_X6_weigh_l16  fz hs0 hs1 hs3 hs4 hs5 h0 hM
/-! CoverDesk$Moves.find()V -/
theorem dX6_find_0 : decode cX6_find 0 = .ok (.aload_n 0, 1) := by decide +kernel
theorem dX6_find_1 : decode cX6_find 1 = .ok (.iconst 0, 1) := by decide +kernel
theorem dX6_find_2 : decode cX6_find 2 = .ok (.putfield 84, 3) := by decide +kernel
theorem dX6_find_5 : decode cX6_find 5 = .ok (.iconst 0, 1) := by decide +kernel
theorem dX6_find_6 : decode cX6_find 6 = .ok (.istore_n 1, 1) := by decide +kernel
theorem dX6_find_7 : decode cX6_find 7 = .ok (.iload_n 1, 1) := by decide +kernel
theorem dX6_find_8 : decode cX6_find 8 = .ok (.aload_n 0, 1) := by decide +kernel
theorem dX6_find_9 : decode cX6_find 9 = .ok (.getfield 28, 3) := by decide +kernel
theorem dX6_find_12 : decode cX6_find 12 = .ok (.getfield 52, 3) := by decide +kernel
theorem dX6_find_15 : decode cX6_find 15 = .ok (.if_icmp .ge 119, 3) := by decide +kernel
theorem dX6_find_18 : decode cX6_find 18 = .ok (.iconst 0, 1) := by decide +kernel
theorem dX6_find_19 : decode cX6_find 19 = .ok (.istore_n 2, 1) := by decide +kernel
theorem dX6_find_20 : decode cX6_find 20 = .ok (.iload_n 2, 1) := by decide +kernel
theorem dX6_find_21 : decode cX6_find 21 = .ok (.aload_n 0, 1) := by decide +kernel
theorem dX6_find_22 : decode cX6_find 22 = .ok (.getfield 28, 3) := by decide +kernel
theorem dX6_find_25 : decode cX6_find 25 = .ok (.getfield 52, 3) := by decide +kernel
theorem dX6_find_28 : decode cX6_find 28 = .ok (.if_icmp .ge 100, 3) := by decide +kernel
theorem dX6_find_31 : decode cX6_find 31 = .ok (.aload_n 0, 1) := by decide +kernel
theorem dX6_find_32 : decode cX6_find 32 = .ok (.getfield 84, 3) := by decide +kernel
theorem dX6_find_35 : decode cX6_find 35 = .ok (.bipush 12, 2) := by decide +kernel
theorem dX6_find_37 : decode cX6_find 37 = .ok (.if_icmp .ge 91, 3) := by decide +kernel
theorem dX6_find_40 : decode cX6_find 40 = .ok (.aload_n 0, 1) := by decide +kernel
theorem dX6_find_41 : decode cX6_find 41 = .ok (.getfield 9, 3) := by decide +kernel
theorem dX6_find_44 : decode cX6_find 44 = .ok (.iload_n 1, 1) := by decide +kernel
theorem dX6_find_45 : decode cX6_find 45 = .ok (.laload, 1) := by decide +kernel
theorem dX6_find_46 : decode cX6_find 46 = .ok (.aload_n 0, 1) := by decide +kernel
theorem dX6_find_47 : decode cX6_find 47 = .ok (.getfield 15, 3) := by decide +kernel
theorem dX6_find_50 : decode cX6_find 50 = .ok (.iload_n 2, 1) := by decide +kernel
theorem dX6_find_51 : decode cX6_find 51 = .ok (.laload, 1) := by decide +kernel
theorem dX6_find_52 : decode cX6_find 52 = .ok (.invokestatic 87, 3) := by decide +kernel
theorem dX6_find_55 : decode cX6_find 55 = .ok (.lstore_n 3, 1) := by decide +kernel
theorem dX6_find_56 : decode cX6_find 56 = .ok (.lload_n 3, 1) := by decide +kernel
theorem dX6_find_57 : decode cX6_find 57 = .ok (.lconst 0, 1) := by decide +kernel
theorem dX6_find_58 : decode cX6_find 58 = .ok (.lcmp, 1) := by decide +kernel
theorem dX6_find_59 : decode cX6_find 59 = .ok (.ifCond .le 63, 3) := by decide +kernel
theorem dX6_find_62 : decode cX6_find 62 = .ok (.aload_n 0, 1) := by decide +kernel
theorem dX6_find_63 : decode cX6_find 63 = .ok (.getfield 18, 3) := by decide +kernel
theorem dX6_find_66 : decode cX6_find 66 = .ok (.aload_n 0, 1) := by decide +kernel
theorem dX6_find_67 : decode cX6_find 67 = .ok (.getfield 84, 3) := by decide +kernel
theorem dX6_find_70 : decode cX6_find 70 = .ok (.iload_n 1, 1) := by decide +kernel
theorem dX6_find_71 : decode cX6_find 71 = .ok (.iastore, 1) := by decide +kernel
theorem dX6_find_72 : decode cX6_find 72 = .ok (.aload_n 0, 1) := by decide +kernel
theorem dX6_find_73 : decode cX6_find 73 = .ok (.getfield 22, 3) := by decide +kernel
theorem dX6_find_76 : decode cX6_find 76 = .ok (.aload_n 0, 1) := by decide +kernel
theorem dX6_find_77 : decode cX6_find 77 = .ok (.getfield 84, 3) := by decide +kernel
theorem dX6_find_80 : decode cX6_find 80 = .ok (.iload_n 2, 1) := by decide +kernel
theorem dX6_find_81 : decode cX6_find 81 = .ok (.iastore, 1) := by decide +kernel
theorem dX6_find_82 : decode cX6_find 82 = .ok (.aload_n 0, 1) := by decide +kernel
theorem dX6_find_83 : decode cX6_find 83 = .ok (.getfield 25, 3) := by decide +kernel
theorem dX6_find_86 : decode cX6_find 86 = .ok (.aload_n 0, 1) := by decide +kernel
theorem dX6_find_87 : decode cX6_find 87 = .ok (.getfield 84, 3) := by decide +kernel
theorem dX6_find_90 : decode cX6_find 90 = .ok (.lload_n 3, 1) := by decide +kernel
theorem dX6_find_91 : decode cX6_find 91 = .ok (.lastore, 1) := by decide +kernel
theorem dX6_find_92 : decode cX6_find 92 = .ok (.aload_n 0, 1) := by decide +kernel
theorem dX6_find_93 : decode cX6_find 93 = .ok (.dup, 1) := by decide +kernel
theorem dX6_find_94 : decode cX6_find 94 = .ok (.getfield 84, 3) := by decide +kernel
theorem dX6_find_97 : decode cX6_find 97 = .ok (.iconst 1, 1) := by decide +kernel
theorem dX6_find_98 : decode cX6_find 98 = .ok (.iadd, 1) := by decide +kernel
theorem dX6_find_99 : decode cX6_find 99 = .ok (.putfield 84, 3) := by decide +kernel
theorem dX6_find_102 : decode cX6_find 102 = .ok (.aload_n 0, 1) := by decide +kernel
theorem dX6_find_103 : decode cX6_find 103 = .ok (.getfield 9, 3) := by decide +kernel
theorem dX6_find_106 : decode cX6_find 106 = .ok (.iload_n 1, 1) := by decide +kernel
theorem dX6_find_107 : decode cX6_find 107 = .ok (.dup2, 1) := by decide +kernel
theorem dX6_find_108 : decode cX6_find 108 = .ok (.laload, 1) := by decide +kernel
theorem dX6_find_109 : decode cX6_find 109 = .ok (.lload_n 3, 1) := by decide +kernel
theorem dX6_find_110 : decode cX6_find 110 = .ok (.lsub, 1) := by decide +kernel
theorem dX6_find_111 : decode cX6_find 111 = .ok (.lastore, 1) := by decide +kernel
theorem dX6_find_112 : decode cX6_find 112 = .ok (.aload_n 0, 1) := by decide +kernel
theorem dX6_find_113 : decode cX6_find 113 = .ok (.getfield 15, 3) := by decide +kernel
theorem dX6_find_116 : decode cX6_find 116 = .ok (.iload_n 2, 1) := by decide +kernel
theorem dX6_find_117 : decode cX6_find 117 = .ok (.dup2, 1) := by decide +kernel
theorem dX6_find_118 : decode cX6_find 118 = .ok (.laload, 1) := by decide +kernel
theorem dX6_find_119 : decode cX6_find 119 = .ok (.lload_n 3, 1) := by decide +kernel
theorem dX6_find_120 : decode cX6_find 120 = .ok (.lsub, 1) := by decide +kernel
theorem dX6_find_121 : decode cX6_find 121 = .ok (.lastore, 1) := by decide +kernel
theorem dX6_find_122 : decode cX6_find 122 = .ok (.iinc 2 1, 3) := by decide +kernel
theorem dX6_find_125 : decode cX6_find 125 = .ok (.goto (-105), 3) := by decide +kernel
theorem dX6_find_128 : decode cX6_find 128 = .ok (.iinc 1 1, 3) := by decide +kernel
theorem dX6_find_131 : decode cX6_find 131 = .ok (.goto (-124), 3) := by decide +kernel
theorem dX6_find_134 : decode cX6_find 134 = .ok (.return_, 1) := by decide +kernel
def X6_find_b128 (k7 : Int32 → gM → Option gM) (x1 : Int32) (u : gM) : Option gM :=
(k7 (x1 + 1) u)
def X6_find_b122 (k7 : Int32 → gM → Option gM) (k20 : Int32 → Int32 → gM → Option gM) (x1 : Int32) (x2 : Int32) (u : gM) : Option gM :=
(k20 x1 (x2 + 1) u)
def X6_find_b20 (k7 : Int32 → gM → Option gM) (k20 : Int32 → Int32 → gM → Option gM) (x1 : Int32) (x2 : Int32) (u : gM) : Option gM :=
(if (u.1 3 1) ≤ x2 then (X6_find_b128 k7 x1 u)
  else (if 12 ≤ (u.1 150 0) then (X6_find_b128 k7 x1 u)
    else ((aJ skC u 151 x1).bind fun v45 => ((aJ skC u 152 x2).bind fun v51 => (if (lg_cmp (mnJ v45 v51) 0) ≤ 0 then (X6_find_b122 k7 k20 x1 x2 u)
      else ((sI skC u 153 (u.1 150 0) x1).bind fun u71 => ((sI skC u71 154 (u71.1 150 0) x2).bind fun u81 => ((sJ skC u81 155 (u81.1 150 0) (mnJ v45 v51)).bind fun u91 => ((aJ skC (upI u91 150 0 ((u91.1 150 0) + 1)) 151 x1).bind fun v108 => ((sJ skC (upI u91 150 0 ((u91.1 150 0) + 1)) 151 x1 (v108 - (mnJ v45 v51))).bind fun u111 => ((aJ skC u111 152 x2).bind fun v118 => ((sJ skC u111 152 x2 (v118 - (mnJ v45 v51))).bind fun u121 => (X6_find_b122 k7 k20 x1 x2 u121)))))))))))))
def X6_find_l20 (k7 : Int32 → gM → Option gM) : Nat → Int32 → Int32 → gM → Option gM
  | 0, _, _, _ => none
  | n + 1, x1, x2, u => X6_find_b20 k7 (X6_find_l20 k7 n) x1 x2 u
def X6_find_b7 (k7 : Int32 → gM → Option gM) (x1 : Int32) (u : gM) : Option gM :=
(if (u.1 3 1) ≤ x1 then some u
  else (X6_find_l20 k7 fz x1 0 u))
def X6_find_l7  : Nat → Int32 → gM → Option gM
  | 0, _, _ => none
  | n + 1, x1, u => X6_find_b7  (X6_find_l7  n) x1 u
def X6_find   (u : gM) : Option gM :=
(X6_find_l7 fz 0 (upI u 150 0 0))
set_option maxRecDepth 20000 in
theorem v_X6_find_b128 {κ : gK} {B : Nat} {u : gM} (X : gX κ B skC cX6_find 5 RX6 none 1 26) {k7 : Int32 → gM → Option gM} (ih7 : ∀ (x1 : Int32) (u : gM) (w : gM), k7 x1 u = some w → gV κ B skC 5 ((none), w) 7 [some (.ref (B + 150)), some (.int x1), none, none, none] [] u) {x1 : Int32} {w : gM} (hM : X6_find_b128 k7 x1 u = some w) : gV κ B skC 5 ((none), w) 128 [some (.ref (B + 150)), some (.int x1), none, none, none] [] u := by
  unfold X6_find_b128 at hM
  refine g_iinc (d := 1) X [some (.ref (B + 150)), some (.int (x1 + 1)), none, none, none] dX6_find_128 (by decide) rfl (by decide) rfl ?_
  refine g_goto (tgt := 7) X dX6_find_131 (by decide) ?_
  refine g_mk [true, true, false, false, false] [some (.ref (B + 150)), some (.int (x1 + 1)), none, none, none] rfl ?_
  exact ih7 (x1 + 1) u _ hM
set_option maxRecDepth 20000 in
theorem v_X6_find_b122 {κ : gK} {B : Nat} {u : gM} (X : gX κ B skC cX6_find 5 RX6 none 1 26) {k7 : Int32 → gM → Option gM} {k20 : Int32 → Int32 → gM → Option gM} (ih7 : ∀ (x1 : Int32) (u : gM) (w : gM), k7 x1 u = some w → gV κ B skC 5 ((none), w) 7 [some (.ref (B + 150)), some (.int x1), none, none, none] [] u) (ih20 : ∀ (x1 : Int32) (x2 : Int32) (u : gM) (w : gM), k20 x1 x2 u = some w → gV κ B skC 5 ((none), w) 20 [some (.ref (B + 150)), some (.int x1), some (.int x2), none, none] [] u) {x1 : Int32} {x2 : Int32} {w : gM} (hM : X6_find_b122 k7 k20 x1 x2 u = some w) : gV κ B skC 5 ((none), w) 122 [some (.ref (B + 150)), some (.int x1), some (.int x2), none, none] [] u := by
  unfold X6_find_b122 at hM
  refine g_iinc (d := 1) X [some (.ref (B + 150)), some (.int x1), some (.int (x2 + 1)), none, none] dX6_find_122 (by decide) rfl (by decide) rfl ?_
  refine g_goto (tgt := 20) X dX6_find_125 (by decide) ?_
  refine g_mk [true, true, true, false, false] [some (.ref (B + 150)), some (.int x1), some (.int (x2 + 1)), none, none] rfl ?_
  exact ih20 x1 (x2 + 1) u _ hM
set_option maxRecDepth 20000 in
theorem v_X6_find_b20 {κ : gK} {B : Nat} {u : gM} (X : gX κ B skC cX6_find 5 RX6 none 1 26) {k7 : Int32 → gM → Option gM} {k20 : Int32 → Int32 → gM → Option gM} (ih7 : ∀ (x1 : Int32) (u : gM) (w : gM), k7 x1 u = some w → gV κ B skC 5 ((none), w) 7 [some (.ref (B + 150)), some (.int x1), none, none, none] [] u) (ih20 : ∀ (x1 : Int32) (x2 : Int32) (u : gM) (w : gM), k20 x1 x2 u = some w → gV κ B skC 5 ((none), w) 20 [some (.ref (B + 150)), some (.int x1), some (.int x2), none, none] [] u) {x1 : Int32} {x2 : Int32} {w : gM} (hM : X6_find_b20 k7 k20 x1 x2 u = some w) : gV κ B skC 5 ((none), w) 20 [some (.ref (B + 150)), some (.int x1), some (.int x2), none, none] [] u := by
  unfold X6_find_b20 at hM
  refine g_iload_n X dX6_find_20 rfl ?_
  refine g_aload_n X dX6_find_21 rfl ?_
  refine g_getR X fX6_28 cC_150 rfl dX6_find_22 ?_
  refine g_getI X fX6_52 cC_3 rfl dX6_find_25 ?_
  refine g_icmp_ge (tgt := 128) X dX6_find_28 (by decide) (fun c28 => ?_) (fun c28 => ?_)
  · rw [if_pos c28] at hM
    refine g_mk [true, true, false, false, false] [some (.ref (B + 150)), some (.int x1), none, none, none] rfl ?_
    exact v_X6_find_b128 X ih7 hM
  · rw [if_neg c28] at hM
    refine g_aload_n X dX6_find_31 rfl ?_
    refine g_getI X fX6_84 cC_150 rfl dX6_find_32 ?_
    refine g_bipush X (v := 12) dX6_find_35 (by decide) ?_
    refine g_icmp_ge (tgt := 128) X dX6_find_37 (by decide) (fun c37 => ?_) (fun c37 => ?_)
    · rw [if_pos c37] at hM
      refine g_mk [true, true, false, false, false] [some (.ref (B + 150)), some (.int x1), none, none, none] rfl ?_
      exact v_X6_find_b128 X ih7 hM
    · rw [if_neg c37] at hM
      refine g_aload_n X dX6_find_40 rfl ?_
      refine g_getR X fX6_9 cC_150 rfl dX6_find_41 ?_
      refine g_iload_n X dX6_find_44 rfl ?_
      obtain ⟨v45, e45, hM⟩ := bind_of hM
      refine g_laload X e45 dX6_find_45 ?_
      refine g_aload_n X dX6_find_46 rfl ?_
      refine g_getR X fX6_15 cC_150 rfl dX6_find_47 ?_
      refine g_iload_n X dX6_find_50 rfl ?_
      obtain ⟨v51, e51, hM⟩ := bind_of hM
      refine g_laload X e51 dX6_find_51 ?_
      refine g_minJ X m_58_2 ⟨by decide, Nat.le_of_ble_eq_true rfl⟩ dX6_find_52 ?_
      refine g_lstore_n X [some (.ref (B + 150)), some (.int x1), some (.int x2), some (.long (mnJ v45 v51)), none] dX6_find_55 (by decide) rfl ?_
      refine g_lload_n X dX6_find_56 rfl ?_
      refine g_lconst (v := 0) X dX6_find_57 (by decide) ?_
      refine g_lcmp X dX6_find_58 ?_
      refine g_if_le (tgt := 122) X dX6_find_59 (by decide) (fun c59 => ?_) (fun c59 => ?_)
      · rw [if_pos c59] at hM
        refine g_mk [true, true, true, false, false] [some (.ref (B + 150)), some (.int x1), some (.int x2), none, none] rfl ?_
        exact v_X6_find_b122 X ih7 ih20 hM
      · rw [if_neg c59] at hM
        refine g_aload_n X dX6_find_62 rfl ?_
        refine g_getR X fX6_18 cC_150 rfl dX6_find_63 ?_
        refine g_aload_n X dX6_find_66 rfl ?_
        refine g_getI X fX6_84 cC_150 rfl dX6_find_67 ?_
        refine g_iload_n X dX6_find_70 rfl ?_
        obtain ⟨u71, e71, hM⟩ := bind_of hM
        refine g_iastore X e71 dX6_find_71 ?_
        refine g_aload_n X dX6_find_72 rfl ?_
        refine g_getR X fX6_22 cC_150 rfl dX6_find_73 ?_
        refine g_aload_n X dX6_find_76 rfl ?_
        refine g_getI X fX6_84 cC_150 rfl dX6_find_77 ?_
        refine g_iload_n X dX6_find_80 rfl ?_
        obtain ⟨u81, e81, hM⟩ := bind_of hM
        refine g_iastore X e81 dX6_find_81 ?_
        refine g_aload_n X dX6_find_82 rfl ?_
        refine g_getR X fX6_25 cC_150 rfl dX6_find_83 ?_
        refine g_aload_n X dX6_find_86 rfl ?_
        refine g_getI X fX6_84 cC_150 rfl dX6_find_87 ?_
        refine g_lload_n X dX6_find_90 rfl ?_
        obtain ⟨u91, e91, hM⟩ := bind_of hM
        refine g_lastore X e91 dX6_find_91 ?_
        refine g_aload_n X dX6_find_92 rfl ?_
        refine g_dup X rfl dX6_find_93 ?_
        refine g_getI X fX6_84 cC_150 rfl dX6_find_94 ?_
        refine g_iconst X (v := 1) dX6_find_97 (by decide) ?_
        refine g_iadd X dX6_find_98 ?_
        refine g_putI X fX6_84 gc_X6 gp_X6_0 cC_150 rfl dX6_find_99 ?_
        refine g_aload_n X dX6_find_102 rfl ?_
        refine g_getR X fX6_9 cC_150 rfl dX6_find_103 ?_
        refine g_iload_n X dX6_find_106 rfl ?_
        refine g_dup2_11 X rfl rfl dX6_find_107 ?_
        obtain ⟨v108, e108, hM⟩ := bind_of hM
        refine g_laload X e108 dX6_find_108 ?_
        refine g_lload_n X dX6_find_109 rfl ?_
        refine g_lsub X dX6_find_110 ?_
        obtain ⟨u111, e111, hM⟩ := bind_of hM
        refine g_lastore X e111 dX6_find_111 ?_
        refine g_aload_n X dX6_find_112 rfl ?_
        refine g_getR X fX6_15 cC_150 rfl dX6_find_113 ?_
        refine g_iload_n X dX6_find_116 rfl ?_
        refine g_dup2_11 X rfl rfl dX6_find_117 ?_
        obtain ⟨v118, e118, hM⟩ := bind_of hM
        refine g_laload X e118 dX6_find_118 ?_
        refine g_lload_n X dX6_find_119 rfl ?_
        refine g_lsub X dX6_find_120 ?_
        obtain ⟨u121, e121, hM⟩ := bind_of hM
        refine g_lastore X e121 dX6_find_121 ?_
        refine g_mk [true, true, true, false, false] [some (.ref (B + 150)), some (.int x1), some (.int x2), none, none] rfl ?_
        exact v_X6_find_b122 X ih7 ih20 hM
theorem v_X6_find_l20 {κ : gK} {B : Nat} (X : gX κ B skC cX6_find 5 RX6 none 1 26) {k7 : Int32 → gM → Option gM} (ih7 : ∀ (x1 : Int32) (u : gM) (w : gM), k7 x1 u = some w → gV κ B skC 5 ((none), w) 7 [some (.ref (B + 150)), some (.int x1), none, none, none] [] u) : ∀ (n : Nat) {x1 : Int32} {x2 : Int32} {u : gM} {w : gM} (hM : X6_find_l20 k7 n x1 x2 u = some w), gV κ B skC 5 ((none), w) 20 [some (.ref (B + 150)), some (.int x1), some (.int x2), none, none] [] u := by
  intro n
  induction n with
  | zero => intro x1 x2 u w hM; exact nomatch (show (none : Option gM) = some w from hM)
  | succ n ihn => intro x1 x2 u w hM; exact v_X6_find_b20 X ih7 (fun x1 x2 u w h => ihn h) hM
set_option maxRecDepth 20000 in
theorem v_X6_find_b7 {κ : gK} {B : Nat} {u : gM} (X : gX κ B skC cX6_find 5 RX6 none 1 26) {k7 : Int32 → gM → Option gM} (ih7 : ∀ (x1 : Int32) (u : gM) (w : gM), k7 x1 u = some w → gV κ B skC 5 ((none), w) 7 [some (.ref (B + 150)), some (.int x1), none, none, none] [] u) {x1 : Int32} {w : gM} (hM : X6_find_b7 k7 x1 u = some w) : gV κ B skC 5 ((none), w) 7 [some (.ref (B + 150)), some (.int x1), none, none, none] [] u := by
  unfold X6_find_b7 at hM
  refine g_iload_n X dX6_find_7 rfl ?_
  refine g_aload_n X dX6_find_8 rfl ?_
  refine g_getR X fX6_28 cC_150 rfl dX6_find_9 ?_
  refine g_getI X fX6_52 cC_3 rfl dX6_find_12 ?_
  refine g_icmp_ge (tgt := 134) X dX6_find_15 (by decide) (fun c15 => ?_) (fun c15 => ?_)
  · rw [if_pos c15] at hM
    cases hM
    exact g_vret X dX6_find_134
  · rw [if_neg c15] at hM
    refine g_iconst X (v := 0) dX6_find_18 (by decide) ?_
    refine g_istore_n X [some (.ref (B + 150)), some (.int x1), some (.int 0), none, none] dX6_find_19 (by decide) rfl ?_
    refine g_mk [true, true, true, false, false] [some (.ref (B + 150)), some (.int x1), some (.int 0), none, none] rfl ?_
    exact v_X6_find_l20 X ih7 fz hM
theorem v_X6_find_l7 {κ : gK} {B : Nat} (X : gX κ B skC cX6_find 5 RX6 none 1 26)   : ∀ (n : Nat) {x1 : Int32} {u : gM} {w : gM} (hM : X6_find_l7  n x1 u = some w), gV κ B skC 5 ((none), w) 7 [some (.ref (B + 150)), some (.int x1), none, none, none] [] u := by
  intro n
  induction n with
  | zero => intro x1 u w hM; exact nomatch (show (none : Option gM) = some w from hM)
  | succ n ihn => intro x1 u w hM; exact v_X6_find_b7 X  (fun x1 u w h => ihn h) hM
set_option maxRecDepth 20000 in
theorem v_X6_find {κ : gK} {B : Nat} {u : gM} (X : gX κ B skC cX6_find 5 RX6 none 1 26)    {w : gM} (hM : X6_find u = some w) : gV κ B skC 5 ((none), w) 0 [some (.ref (B + 150)), none, none, none, none] [] u := by
  unfold X6_find at hM
  refine g_aload_n X dX6_find_0 rfl ?_
  refine g_iconst X (v := 0) dX6_find_1 (by decide) ?_
  refine g_putI X fX6_84 gc_X6 gp_X6_0 cC_150 rfl dX6_find_2 ?_
  refine g_iconst X (v := 0) dX6_find_5 (by decide) ?_
  refine g_istore_n X [some (.ref (B + 150)), some (.int 0), none, none, none] dX6_find_6 (by decide) rfl ?_
  refine g_mk [true, true, false, false, false] [some (.ref (B + 150)), some (.int 0), none, none, none] rfl ?_
  exact v_X6_find_l7 X  fz hM
theorem s_X6_find  {u : gM} {w : gM} (hM : X6_find u = some w) : gMet skC yX6_find cX6_find 5 none 1 26 (fun B adK => [.ref (B + 150)]) u ((fun _ => none), w) := by
  refine gMet.of (by decide) (fun _ _ => Nat.le_of_ble_eq_true rfl) (fun κ B X => ?_)
  have X : gX κ B skC cX6_find 5 RX6 none 1 26 := X
  refine g_mk [true, false, false, false, false] [some (.ref (B + 150)), none, none, none, none] rfl ?_
  exact v_X6_find X  hM
theorem fr_X6_find_b128 {S : Nat → Prop} {u0 u : gM} {x1 : Int32} (hs0 : S 150) (hs1 : S 151) (hs2 : S 152) (hs3 : S 153) (hs4 : S 154) (hs5 : S 155) {k7 : Int32 → gM → Option gM} (ik7 : ∀ (x1 : Int32) (u : gM) (w : gM), S 150 → S 151 → S 152 → S 153 → S 154 → S 155 → off S u0 u → k7 x1 u = some w → off S u0 w) {w : gM} (hM : X6_find_b128 k7 x1 u = some w) (h0 : off S u0 u) : off S u0 w := by
  unfold X6_find_b128 at hM
  exact ik7 _ _ _ hs0 hs1 hs2 hs3 hs4 hs5 h0 hM
theorem fr_X6_find_b122 {S : Nat → Prop} {u0 u : gM} {x1 : Int32} {x2 : Int32} (hs0 : S 150) (hs1 : S 151) (hs2 : S 152) (hs3 : S 153) (hs4 : S 154) (hs5 : S 155) {k7 : Int32 → gM → Option gM} {k20 : Int32 → Int32 → gM → Option gM} (ik7 : ∀ (x1 : Int32) (u : gM) (w : gM), S 150 → S 151 → S 152 → S 153 → S 154 → S 155 → off S u0 u → k7 x1 u = some w → off S u0 w) (ik20 : ∀ (x1 : Int32) (x2 : Int32) (u : gM) (w : gM), S 150 → S 151 → S 152 → S 153 → S 154 → S 155 → off S u0 u → k20 x1 x2 u = some w → off S u0 w) {w : gM} (hM : X6_find_b122 k7 k20 x1 x2 u = some w) (h0 : off S u0 u) : off S u0 w := by
  unfold X6_find_b122 at hM
  exact ik20 _ _ _ _ hs0 hs1 hs2 hs3 hs4 hs5 h0 hM
theorem fr_X6_find_b20 {S : Nat → Prop} {u0 u : gM} {x1 : Int32} {x2 : Int32} (hs0 : S 150) (hs1 : S 151) (hs2 : S 152) (hs3 : S 153) (hs4 : S 154) (hs5 : S 155) {k7 : Int32 → gM → Option gM} {k20 : Int32 → Int32 → gM → Option gM} (ik7 : ∀ (x1 : Int32) (u : gM) (w : gM), S 150 → S 151 → S 152 → S 153 → S 154 → S 155 → off S u0 u → k7 x1 u = some w → off S u0 w) (ik20 : ∀ (x1 : Int32) (x2 : Int32) (u : gM) (w : gM), S 150 → S 151 → S 152 → S 153 → S 154 → S 155 → off S u0 u → k20 x1 x2 u = some w → off S u0 w) {w : gM} (hM : X6_find_b20 k7 k20 x1 x2 u = some w) (h0 : off S u0 u) : off S u0 w := by
  unfold X6_find_b20 at hM
  by_cases c28 : (u.1 3 1) ≤ x2
  · rw [if_pos c28] at hM
    exact fr_X6_find_b128 hs0 hs1 hs2 hs3 hs4 hs5 ik7 hM h0
  · rw [if_neg c28] at hM
    by_cases c37 : 12 ≤ (u.1 150 0)
    · rw [if_pos c37] at hM
      exact fr_X6_find_b128 hs0 hs1 hs2 hs3 hs4 hs5 ik7 hM h0
    · rw [if_neg c37] at hM
      obtain ⟨v45, e45, hM⟩ := bind_of hM
      obtain ⟨v51, e51, hM⟩ := bind_of hM
      by_cases c59 : (lg_cmp (mnJ v45 v51) 0) ≤ 0
      · rw [if_pos c59] at hM
        exact fr_X6_find_b122 hs0 hs1 hs2 hs3 hs4 hs5 ik7 ik20 hM h0
      · rw [if_neg c59] at hM
        obtain ⟨u71, e71, hM⟩ := bind_of hM
        have h0 := off_sI hs3 e71 h0
        obtain ⟨u81, e81, hM⟩ := bind_of hM
        have h0 := off_sI hs4 e81 h0
        obtain ⟨u91, e91, hM⟩ := bind_of hM
        have h0 := off_sJ hs5 e91 h0
        have h0 := off_upI (u := u91) (k := 150) (j := 0) (x := ((u91.1 150 0) + 1)) hs0 h0
        obtain ⟨v108, e108, hM⟩ := bind_of hM
        obtain ⟨u111, e111, hM⟩ := bind_of hM
        have h0 := off_sJ hs1 e111 h0
        obtain ⟨v118, e118, hM⟩ := bind_of hM
        obtain ⟨u121, e121, hM⟩ := bind_of hM
        have h0 := off_sJ hs2 e121 h0
        exact fr_X6_find_b122 hs0 hs1 hs2 hs3 hs4 hs5 ik7 ik20 hM h0
theorem fr_X6_find_l20 {S : Nat → Prop} {u0 : gM} {k7 : Int32 → gM → Option gM} (ik7 : ∀ (x1 : Int32) (u : gM) (w : gM), S 150 → S 151 → S 152 → S 153 → S 154 → S 155 → off S u0 u → k7 x1 u = some w → off S u0 w) : ∀ (n : Nat) {x1 : Int32} {x2 : Int32} (hs0 : S 150) (hs1 : S 151) (hs2 : S 152) (hs3 : S 153) (hs4 : S 154) (hs5 : S 155) {u : gM} {w : gM} (h0 : off S u0 u) (hM : X6_find_l20 k7 n x1 x2 u = some w), off S u0 w := by
  intro n
  induction n with
  | zero => intro x1 x2 hs0 hs1 hs2 hs3 hs4 hs5 u w h0 hM; exact nomatch (show (none : Option gM) = some w from hM)
  | succ n ihn => intro x1 x2 hs0 hs1 hs2 hs3 hs4 hs5 u w h0 hM; exact fr_X6_find_b20 hs0 hs1 hs2 hs3 hs4 hs5 ik7 (fun x1 x2 _ _ hs0 hs1 hs2 hs3 hs4 hs5 h0 h => ihn hs0 hs1 hs2 hs3 hs4 hs5 h0 h) hM h0
theorem fr_X6_find_b7 {S : Nat → Prop} {u0 u : gM} {x1 : Int32} (hs0 : S 150) (hs1 : S 151) (hs2 : S 152) (hs3 : S 153) (hs4 : S 154) (hs5 : S 155) {k7 : Int32 → gM → Option gM} (ik7 : ∀ (x1 : Int32) (u : gM) (w : gM), S 150 → S 151 → S 152 → S 153 → S 154 → S 155 → off S u0 u → k7 x1 u = some w → off S u0 w) {w : gM} (hM : X6_find_b7 k7 x1 u = some w) (h0 : off S u0 u) : off S u0 w := by
  unfold X6_find_b7 at hM
  by_cases c15 : (u.1 3 1) ≤ x1
  · rw [if_pos c15] at hM
    cases hM
    exact h0
  · rw [if_neg c15] at hM
    exact fr_X6_find_l20 ik7 fz hs0 hs1 hs2 hs3 hs4 hs5 h0 hM
theorem fr_X6_find_l7 {S : Nat → Prop} {u0 : gM}   : ∀ (n : Nat) {x1 : Int32} (hs0 : S 150) (hs1 : S 151) (hs2 : S 152) (hs3 : S 153) (hs4 : S 154) (hs5 : S 155) {u : gM} {w : gM} (h0 : off S u0 u) (hM : X6_find_l7  n x1 u = some w), off S u0 w := by
  intro n
  induction n with
  | zero => intro x1 hs0 hs1 hs2 hs3 hs4 hs5 u w h0 hM; exact nomatch (show (none : Option gM) = some w from hM)
  | succ n ihn => intro x1 hs0 hs1 hs2 hs3 hs4 hs5 u w h0 hM; exact fr_X6_find_b7 hs0 hs1 hs2 hs3 hs4 hs5  (fun x1 _ _ hs0 hs1 hs2 hs3 hs4 hs5 h0 h => ihn hs0 hs1 hs2 hs3 hs4 hs5 h0 h) hM h0
theorem fr_X6_find {S : Nat → Prop} {u0 u : gM}  (hs0 : S 150) (hs1 : S 151) (hs2 : S 152) (hs3 : S 153) (hs4 : S 154) (hs5 : S 155)   {w : gM} (hM : X6_find u = some w) (h0 : off S u0 u) : off S u0 w := by
  unfold X6_find at hM
  have h0 := off_upI (u := u) (k := 150) (j := 0) (x := 0) hs0 h0
  exact fr_X6_find_l7  fz hs0 hs1 hs2 hs3 hs4 hs5 h0 hM
/-! CoverDesk.move(III)J -/
theorem dX11_move_0 : decode cX11_move 0 = .ok (.aload_n 0, 1) := by decide +kernel
theorem dX11_move_1 : decode cX11_move 1 = .ok (.getfield 19, 3) := by decide +kernel
theorem dX11_move_4 : decode cX11_move 4 = .ok (.iload_n 1, 1) := by decide +kernel
theorem dX11_move_5 : decode cX11_move 5 = .ok (.invokevirtual 262, 3) := by decide +kernel
theorem dX11_move_8 : decode cX11_move 8 = .ok (.ifCond .ne 7, 3) := by decide +kernel
theorem dX11_move_11 : decode cX11_move 11 = .ok (.ldc2_w 250, 3) := by decide +kernel
theorem dX11_move_14 : decode cX11_move 14 = .ok (.lreturn, 1) := by decide +kernel
theorem dX11_move_15 : decode cX11_move 15 = .ok (.aload_n 0, 1) := by decide +kernel
theorem dX11_move_16 : decode cX11_move 16 = .ok (.getfield 76, 3) := by decide +kernel
theorem dX11_move_19 : decode cX11_move 19 = .ok (.iload_n 1, 1) := by decide +kernel
theorem dX11_move_20 : decode cX11_move 20 = .ok (.invokevirtual 335, 3) := by decide +kernel
theorem dX11_move_23 : decode cX11_move 23 = .ok (.aload_n 0, 1) := by decide +kernel
theorem dX11_move_24 : decode cX11_move 24 = .ok (.getfield 76, 3) := by decide +kernel
theorem dX11_move_27 : decode cX11_move 27 = .ok (.invokevirtual 356, 3) := by decide +kernel
theorem dX11_move_30 : decode cX11_move 30 = .ok (.iload_n 2, 1) := by decide +kernel
theorem dX11_move_31 : decode cX11_move 31 = .ok (.iconst (-1), 1) := by decide +kernel
theorem dX11_move_32 : decode cX11_move 32 = .ok (.if_icmp .ne 12, 3) := by decide +kernel
theorem dX11_move_35 : decode cX11_move 35 = .ok (.aload_n 0, 1) := by decide +kernel
theorem dX11_move_36 : decode cX11_move 36 = .ok (.getfield 76, 3) := by decide +kernel
theorem dX11_move_39 : decode cX11_move 39 = .ok (.getfield 359, 3) := by decide +kernel
theorem dX11_move_42 : decode cX11_move 42 = .ok (.i2l, 1) := by decide +kernel
theorem dX11_move_43 : decode cX11_move 43 = .ok (.lreturn, 1) := by decide +kernel
theorem dX11_move_44 : decode cX11_move 44 = .ok (.iload_n 2, 1) := by decide +kernel
theorem dX11_move_45 : decode cX11_move 45 = .ok (.ifCond .lt 14, 3) := by decide +kernel
theorem dX11_move_48 : decode cX11_move 48 = .ok (.iload_n 2, 1) := by decide +kernel
theorem dX11_move_49 : decode cX11_move 49 = .ok (.aload_n 0, 1) := by decide +kernel
theorem dX11_move_50 : decode cX11_move 50 = .ok (.getfield 76, 3) := by decide +kernel
theorem dX11_move_53 : decode cX11_move 53 = .ok (.getfield 359, 3) := by decide +kernel
theorem dX11_move_56 : decode cX11_move 56 = .ok (.if_icmp .lt 7, 3) := by decide +kernel
theorem dX11_move_59 : decode cX11_move 59 = .ok (.ldc2_w 250, 3) := by decide +kernel
theorem dX11_move_62 : decode cX11_move 62 = .ok (.lreturn, 1) := by decide +kernel
theorem dX11_move_63 : decode cX11_move 63 = .ok (.iload_n 3, 1) := by decide +kernel
theorem dX11_move_64 : decode cX11_move 64 = .ok (.tableswitch 60 0 2 #[28, 39, 50], 28) := by decide +kernel
theorem dX11_move_92 : decode cX11_move 92 = .ok (.aload_n 0, 1) := by decide +kernel
theorem dX11_move_93 : decode cX11_move 93 = .ok (.getfield 76, 3) := by decide +kernel
theorem dX11_move_96 : decode cX11_move 96 = .ok (.getfield 360, 3) := by decide +kernel
theorem dX11_move_99 : decode cX11_move 99 = .ok (.iload_n 2, 1) := by decide +kernel
theorem dX11_move_100 : decode cX11_move 100 = .ok (.iaload, 1) := by decide +kernel
theorem dX11_move_101 : decode cX11_move 101 = .ok (.i2l, 1) := by decide +kernel
theorem dX11_move_102 : decode cX11_move 102 = .ok (.lreturn, 1) := by decide +kernel
theorem dX11_move_103 : decode cX11_move 103 = .ok (.aload_n 0, 1) := by decide +kernel
theorem dX11_move_104 : decode cX11_move 104 = .ok (.getfield 76, 3) := by decide +kernel
theorem dX11_move_107 : decode cX11_move 107 = .ok (.getfield 363, 3) := by decide +kernel
theorem dX11_move_110 : decode cX11_move 110 = .ok (.iload_n 2, 1) := by decide +kernel
theorem dX11_move_111 : decode cX11_move 111 = .ok (.iaload, 1) := by decide +kernel
theorem dX11_move_112 : decode cX11_move 112 = .ok (.i2l, 1) := by decide +kernel
theorem dX11_move_113 : decode cX11_move 113 = .ok (.lreturn, 1) := by decide +kernel
theorem dX11_move_114 : decode cX11_move 114 = .ok (.aload_n 0, 1) := by decide +kernel
theorem dX11_move_115 : decode cX11_move 115 = .ok (.getfield 76, 3) := by decide +kernel
theorem dX11_move_118 : decode cX11_move 118 = .ok (.getfield 366, 3) := by decide +kernel
theorem dX11_move_121 : decode cX11_move 121 = .ok (.iload_n 2, 1) := by decide +kernel
theorem dX11_move_122 : decode cX11_move 122 = .ok (.laload, 1) := by decide +kernel
theorem dX11_move_123 : decode cX11_move 123 = .ok (.lreturn, 1) := by decide +kernel
theorem dX11_move_124 : decode cX11_move 124 = .ok (.ldc2_w 250, 3) := by decide +kernel
theorem dX11_move_127 : decode cX11_move 127 = .ok (.lreturn, 1) := by decide +kernel
def X11_move_b59   (u : gM) : Option (Int64 × gM) :=
some ((-1), u)
def X11_move  (x1 : Int32) (x2 : Int32) (x3 : Int32) (u : gM) : Option (Int64 × gM) :=
((X10_isPerson u 3 x1).bind fun w5 => (if w5 = 0 then some ((-1), u)
  else ((X6_weigh x1 u).bind fun w20 => ((X6_find w20).bind fun w27 => (if x2 = (-1) then some ((w27.1 150 0).toInt64, w27)
    else (if x2 < 0 then (X11_move_b59 w27)
      else (if x2 < (w27.1 150 0) then (if x3 = 0 then ((aI skC w27 153 x2).bind fun v100 => some (v100.toInt64, w27))
          else (if x3 = 1 then ((aI skC w27 154 x2).bind fun v111 => some (v111.toInt64, w27))
          else (if x3 = 2 then ((aJ skC w27 155 x2).bind fun v122 => some (v122, w27))
          else some ((-1), w27))))
        else (X11_move_b59 w27))))))))
set_option maxRecDepth 20000 in
theorem v_X11_move_b59 {κ : gK} {B : Nat} {u : gM} (X : gX κ B skC cX11_move 4 RX11 (some .long) 5 120)    {w : (Int64 × gM)} (hM : X11_move_b59 u = some w) : gV κ B skC 4 ((some (.long w.1)), w.2) 59 [none, none, none, none] [] u := by
  unfold X11_move_b59 at hM
  refine g_ldc2 (v := (-1)) X m_50_11 dX11_move_59 ?_
  cases hM
  exact g_lret X dX11_move_62
set_option maxRecDepth 20000 in
theorem v_X11_move {κ : gK} {B : Nat} {u : gM} (X : gX κ B skC cX11_move 4 RX11 (some .long) 5 120)   {x1 : Int32} {x2 : Int32} {x3 : Int32} {w : (Int64 × gM)} (hM : X11_move x1 x2 x3 u = some w) : gV κ B skC 4 ((some (.long w.1)), w.2) 0 [some (.ref (B + 0)), some (.int x1), some (.int x2), some (.int x3)] [] u := by
  unfold X11_move at hM
  refine g_aload_n X dX11_move_0 rfl ?_
  refine g_getR X fX11_19 cC_0 rfl dX11_move_1 ?_
  refine g_iload_n X dX11_move_4 rfl ?_
  obtain ⟨w5, e5, hM⟩ := bind_of hM
  refine g_callVi X (fun B adK => [.int x1]) (s_X10_isPerson e5) cvX11_262 cC_3 rfl rfl (Nat.le_of_ble_eq_true rfl) ⟨by decide, by decide⟩ dX11_move_5 ?_
  refine g_if_ne (tgt := 15) X dX11_move_8 (by decide) (fun c8 => ?_) (fun c8 => ?_)
  · rw [if_neg c8] at hM
    refine g_aload_n X dX11_move_15 rfl ?_
    refine g_getR X fX11_76 cC_0 rfl dX11_move_16 ?_
    refine g_iload_n X dX11_move_19 rfl ?_
    obtain ⟨w20, e20, hM⟩ := bind_of hM
    refine g_callVv X (fun B adK => [.int x1]) (s_X6_weigh e20) cvX11_335 cC_150 rfl rfl (Nat.le_of_ble_eq_true rfl) ⟨by decide, by decide⟩ dX11_move_20 ?_
    refine g_aload_n X dX11_move_23 rfl ?_
    refine g_getR X fX11_76 cC_0 rfl dX11_move_24 ?_
    obtain ⟨w27, e27, hM⟩ := bind_of hM
    refine g_callVv X (fun B adK => []) (s_X6_find e27) cvX11_356 cC_150 rfl rfl (Nat.le_of_ble_eq_true rfl) ⟨by decide, by decide⟩ dX11_move_27 ?_
    refine g_iload_n X dX11_move_30 rfl ?_
    refine g_iconst X (v := (-1)) dX11_move_31 (by decide) ?_
    refine g_icmp_ne (tgt := 44) X dX11_move_32 (by decide) (fun c32 => ?_) (fun c32 => ?_)
    · rw [if_neg c32] at hM
      refine g_iload_n X dX11_move_44 rfl ?_
      refine g_if_lt (tgt := 59) X dX11_move_45 (by decide) (fun c45 => ?_) (fun c45 => ?_)
      · rw [if_pos c45] at hM
        refine g_mk [false, false, false, false] [none, none, none, none] rfl ?_
        exact v_X11_move_b59 X  hM
      · rw [if_neg c45] at hM
        refine g_iload_n X dX11_move_48 rfl ?_
        refine g_aload_n X dX11_move_49 rfl ?_
        refine g_getR X fX11_76 cC_0 rfl dX11_move_50 ?_
        refine g_getI X fX11_359 cC_150 rfl dX11_move_53 ?_
        refine g_icmp_lt (tgt := 63) X dX11_move_56 (by decide) (fun c56 => ?_) (fun c56 => ?_)
        · rw [if_pos c56] at hM
          refine g_iload_n X dX11_move_63 rfl ?_
          by_cases h64_0 : x3 = 0
          · rw [if_pos h64_0] at hM
            refine g_tabIn (tgt := 92) (off := 28) X 0 h64_0 dX11_move_64 (by decide) (by decide) (by decide) (by decide) ?_
            refine g_aload_n X dX11_move_92 rfl ?_
            refine g_getR X fX11_76 cC_0 rfl dX11_move_93 ?_
            refine g_getR X fX11_360 cC_150 rfl dX11_move_96 ?_
            refine g_iload_n X dX11_move_99 rfl ?_
            obtain ⟨v100, e100, hM⟩ := bind_of hM
            refine g_iaload X e100 dX11_move_100 ?_
            refine g_i2l X dX11_move_101 ?_
            cases hM
            exact g_lret X dX11_move_102
          rw [if_neg h64_0] at hM
          by_cases h64_1 : x3 = 1
          · rw [if_pos h64_1] at hM
            refine g_tabIn (tgt := 103) (off := 39) X 1 h64_1 dX11_move_64 (by decide) (by decide) (by decide) (by decide) ?_
            refine g_aload_n X dX11_move_103 rfl ?_
            refine g_getR X fX11_76 cC_0 rfl dX11_move_104 ?_
            refine g_getR X fX11_363 cC_150 rfl dX11_move_107 ?_
            refine g_iload_n X dX11_move_110 rfl ?_
            obtain ⟨v111, e111, hM⟩ := bind_of hM
            refine g_iaload X e111 dX11_move_111 ?_
            refine g_i2l X dX11_move_112 ?_
            cases hM
            exact g_lret X dX11_move_113
          rw [if_neg h64_1] at hM
          by_cases h64_2 : x3 = 2
          · rw [if_pos h64_2] at hM
            refine g_tabIn (tgt := 114) (off := 50) X 2 h64_2 dX11_move_64 (by decide) (by decide) (by decide) (by decide) ?_
            refine g_aload_n X dX11_move_114 rfl ?_
            refine g_getR X fX11_76 cC_0 rfl dX11_move_115 ?_
            refine g_getR X fX11_366 cC_150 rfl dX11_move_118 ?_
            refine g_iload_n X dX11_move_121 rfl ?_
            obtain ⟨v122, e122, hM⟩ := bind_of hM
            refine g_laload X e122 dX11_move_122 ?_
            cases hM
            exact g_lret X dX11_move_123
          rw [if_neg h64_2] at hM
          refine g_tabOut (tgt := 124) X dX11_move_64 (by have q0 := lv_neT (a := 0) h64_0 (by decide); have q1 := lv_neT (a := 1) h64_1 (by decide); have q2 := lv_neT (a := 2) h64_2 (by decide); omega) (by decide) ?_
          refine g_ldc2 (v := (-1)) X m_50_11 dX11_move_124 ?_
          cases hM
          exact g_lret X dX11_move_127
        · rw [if_neg c56] at hM
          refine g_mk [false, false, false, false] [none, none, none, none] rfl ?_
          exact v_X11_move_b59 X  hM
    · rw [if_pos c32] at hM
      refine g_aload_n X dX11_move_35 rfl ?_
      refine g_getR X fX11_76 cC_0 rfl dX11_move_36 ?_
      refine g_getI X fX11_359 cC_150 rfl dX11_move_39 ?_
      refine g_i2l X dX11_move_42 ?_
      cases hM
      exact g_lret X dX11_move_43
  · rw [if_pos c8] at hM
    refine g_ldc2 (v := (-1)) X m_50_11 dX11_move_11 ?_
    cases hM
    exact g_lret X dX11_move_14
theorem s_X11_move {x1 : Int32} {x2 : Int32} {x3 : Int32} {u : gM} {w : (Int64 × gM)} (hM : X11_move x1 x2 x3 u = some w) : gMet skC yX11_move cX11_move 4 (some .long) 5 120 (fun B adK => [.ref (B + 0), .int x1, .int x2, .int x3]) u ((fun _ => some (.long w.1)), w.2) := by
  refine gMet.of (by decide) (fun _ _ => Nat.le_of_ble_eq_true rfl) (fun κ B X => ?_)
  have X : gX κ B skC cX11_move 4 RX11 (some .long) 5 120 := X
  refine g_mk [true, true, true, true] [some (.ref (B + 0)), some (.int x1), some (.int x2), some (.int x3)] rfl ?_
  exact v_X11_move X  hM
theorem fr_X11_move_b59 {S : Nat → Prop} {u0 u : gM}     {w : (Int64 × gM)} (hM : X11_move_b59 u = some w) (h0 : off S u0 u) : off S u0 w.2 := by
  unfold X11_move_b59 at hM
  cases hM
  exact h0
theorem fr_X11_move {S : Nat → Prop} {u0 u : gM} {x1 : Int32} {x2 : Int32} {x3 : Int32} (hs0 : S (rf skC 138 2)) (hs1 : S 138) (hs2 : S 142) (hs3 : S 143) (hs4 : S 150) (hs5 : S 151) (hs6 : S 152) (hs7 : S 153) (hs8 : S 154) (hs9 : S 155)   {w : (Int64 × gM)} (hM : X11_move x1 x2 x3 u = some w) (h0 : off S u0 u) : off S u0 w.2 := by
  unfold X11_move at hM
  obtain ⟨w5, e5, hM⟩ := bind_of hM
  by_cases c8 : w5 = 0
  · rw [if_pos c8] at hM
    cases hM
    exact h0
  · rw [if_neg c8] at hM
    obtain ⟨w20, e20, hM⟩ := bind_of hM
    have h0 := fr_X6_weigh hs0 hs1 hs2 hs3 hs5 hs6 e20 h0
    obtain ⟨w27, e27, hM⟩ := bind_of hM
    have h0 := fr_X6_find hs4 hs5 hs6 hs7 hs8 hs9 e27 h0
    by_cases c32 : x2 = (-1)
    · rw [if_pos c32] at hM
      cases hM
      exact h0
    · rw [if_neg c32] at hM
      by_cases c45 : x2 < 0
      · rw [if_pos c45] at hM
        exact fr_X11_move_b59   hM h0
      · rw [if_neg c45] at hM
        by_cases c56 : x2 < (w27.1 150 0)
        · rw [if_pos c56] at hM
          by_cases h64_0 : x3 = 0
          · rw [if_pos h64_0] at hM
            obtain ⟨v100, e100, hM⟩ := bind_of hM
            cases hM
            exact h0
          rw [if_neg h64_0] at hM
          by_cases h64_1 : x3 = 1
          · rw [if_pos h64_1] at hM
            obtain ⟨v111, e111, hM⟩ := bind_of hM
            cases hM
            exact h0
          rw [if_neg h64_1] at hM
          by_cases h64_2 : x3 = 2
          · rw [if_pos h64_2] at hM
            obtain ⟨v122, e122, hM⟩ := bind_of hM
            cases hM
            exact h0
          rw [if_neg h64_2] at hM
          cases hM
          exact h0
        · rw [if_neg c56] at hM
          exact fr_X11_move_b59   hM h0
/-! CoverDesk$Moves.allOf([J)J -/
theorem dX6_allOf_0 : decode cX6_allOf 0 = .ok (.lconst 0, 1) := by decide +kernel
theorem dX6_allOf_1 : decode cX6_allOf 1 = .ok (.lstore_n 2, 1) := by decide +kernel
theorem dX6_allOf_2 : decode cX6_allOf 2 = .ok (.iconst 0, 1) := by decide +kernel
theorem dX6_allOf_3 : decode cX6_allOf 3 = .ok (.istore 4, 2) := by decide +kernel
theorem dX6_allOf_5 : decode cX6_allOf 5 = .ok (.iload 4, 2) := by decide +kernel
theorem dX6_allOf_7 : decode cX6_allOf 7 = .ok (.aload_n 0, 1) := by decide +kernel
theorem dX6_allOf_8 : decode cX6_allOf 8 = .ok (.getfield 28, 3) := by decide +kernel
theorem dX6_allOf_11 : decode cX6_allOf 11 = .ok (.getfield 52, 3) := by decide +kernel
theorem dX6_allOf_14 : decode cX6_allOf 14 = .ok (.if_icmp .ge 16, 3) := by decide +kernel
theorem dX6_allOf_17 : decode cX6_allOf 17 = .ok (.lload_n 2, 1) := by decide +kernel
theorem dX6_allOf_18 : decode cX6_allOf 18 = .ok (.aload_n 1, 1) := by decide +kernel
theorem dX6_allOf_19 : decode cX6_allOf 19 = .ok (.iload 4, 2) := by decide +kernel
theorem dX6_allOf_21 : decode cX6_allOf 21 = .ok (.laload, 1) := by decide +kernel
theorem dX6_allOf_22 : decode cX6_allOf 22 = .ok (.ladd, 1) := by decide +kernel
theorem dX6_allOf_23 : decode cX6_allOf 23 = .ok (.lstore_n 2, 1) := by decide +kernel
theorem dX6_allOf_24 : decode cX6_allOf 24 = .ok (.iinc 4 1, 3) := by decide +kernel
theorem dX6_allOf_27 : decode cX6_allOf 27 = .ok (.goto (-22), 3) := by decide +kernel
theorem dX6_allOf_30 : decode cX6_allOf 30 = .ok (.lload_n 2, 1) := by decide +kernel
theorem dX6_allOf_31 : decode cX6_allOf 31 = .ok (.lreturn, 1) := by decide +kernel
def X6_allOf_b5 (u : gM) (k5 : Nat → Int64 → Int32 → Option Int64) (x1 : Nat) (x2 : Int64) (x4 : Int32) : Option Int64 :=
(if (u.1 3 1) ≤ x4 then some x2
  else ((aJ skC u x1 x4).bind fun v21 => (k5 x1 (x2 + v21) (x4 + 1))))
def X6_allOf_l5 (u : gM)  : Nat → Nat → Int64 → Int32 → Option Int64
  | 0, _, _, _ => none
  | n + 1, x1, x2, x4 => X6_allOf_b5 u  (X6_allOf_l5 u  n) x1 x2 x4
def X6_allOf (u : gM)  (x1 : Nat) : Option Int64 :=
(X6_allOf_l5 u fz x1 0 0)
set_option maxRecDepth 20000 in
theorem v_X6_allOf_b5 {κ : gK} {B : Nat} {u : gM} (X : gX κ B skC cX6_allOf 5 RX6 (some .long) 0 0) {k5 : Nat → Int64 → Int32 → Option Int64} (ih5 : ∀ (x1 : Nat) (x2 : Int64) (x4 : Int32) (w : Int64), k5 x1 x2 x4 = some w → gV κ B skC 5 ((some (.long w)), u) 5 [some (.ref (B + 150)), some (.ref (B + x1)), some (.long x2), none, some (.int x4)] [] u) {x1 : Nat} {x2 : Int64} {x4 : Int32} {w : Int64} (hM : X6_allOf_b5 u k5 x1 x2 x4 = some w) : gV κ B skC 5 ((some (.long w)), u) 5 [some (.ref (B + 150)), some (.ref (B + x1)), some (.long x2), none, some (.int x4)] [] u := by
  unfold X6_allOf_b5 at hM
  refine g_iload X dX6_allOf_5 rfl ?_
  refine g_aload_n X dX6_allOf_7 rfl ?_
  refine g_getR X fX6_28 cC_150 rfl dX6_allOf_8 ?_
  refine g_getI X fX6_52 cC_3 rfl dX6_allOf_11 ?_
  refine g_icmp_ge (tgt := 30) X dX6_allOf_14 (by decide) (fun c14 => ?_) (fun c14 => ?_)
  · rw [if_pos c14] at hM
    refine g_lload_n X dX6_allOf_30 rfl ?_
    cases hM
    exact g_lret X dX6_allOf_31
  · rw [if_neg c14] at hM
    refine g_lload_n X dX6_allOf_17 rfl ?_
    refine g_aload_n X dX6_allOf_18 rfl ?_
    refine g_iload X dX6_allOf_19 rfl ?_
    obtain ⟨v21, e21, hM⟩ := bind_of hM
    refine g_laload X e21 dX6_allOf_21 ?_
    refine g_ladd X dX6_allOf_22 ?_
    refine g_lstore_n X [some (.ref (B + 150)), some (.ref (B + x1)), some (.long (x2 + v21)), none, some (.int x4)] dX6_allOf_23 (by decide) rfl ?_
    refine g_iinc (d := 1) X [some (.ref (B + 150)), some (.ref (B + x1)), some (.long (x2 + v21)), none, some (.int (x4 + 1))] dX6_allOf_24 (by decide) rfl (by decide) rfl ?_
    refine g_goto (tgt := 5) X dX6_allOf_27 (by decide) ?_
    refine g_mk [true, true, true, false, true] [some (.ref (B + 150)), some (.ref (B + x1)), some (.long (x2 + v21)), none, some (.int (x4 + 1))] rfl ?_
    exact ih5 x1 (x2 + v21) (x4 + 1) _ hM
theorem v_X6_allOf_l5 {κ : gK} {B : Nat} {u : gM} (X : gX κ B skC cX6_allOf 5 RX6 (some .long) 0 0)   : ∀ (n : Nat) {x1 : Nat} {x2 : Int64} {x4 : Int32} {w : Int64} (hM : X6_allOf_l5 u  n x1 x2 x4 = some w), gV κ B skC 5 ((some (.long w)), u) 5 [some (.ref (B + 150)), some (.ref (B + x1)), some (.long x2), none, some (.int x4)] [] u := by
  intro n
  induction n with
  | zero => intro x1 x2 x4 w hM; exact nomatch (show (none : Option Int64) = some w from hM)
  | succ n ihn => intro x1 x2 x4 w hM; exact v_X6_allOf_b5 X  (fun x1 x2 x4 w h => ihn h) hM
set_option maxRecDepth 20000 in
theorem v_X6_allOf {κ : gK} {B : Nat} {u : gM} (X : gX κ B skC cX6_allOf 5 RX6 (some .long) 0 0)   {x1 : Nat} {w : Int64} (hM : X6_allOf u x1 = some w) : gV κ B skC 5 ((some (.long w)), u) 0 [some (.ref (B + 150)), some (.ref (B + x1)), none, none, none] [] u := by
  unfold X6_allOf at hM
  refine g_lconst (v := 0) X dX6_allOf_0 (by decide) ?_
  refine g_lstore_n X [some (.ref (B + 150)), some (.ref (B + x1)), some (.long 0), none, none] dX6_allOf_1 (by decide) rfl ?_
  refine g_iconst X (v := 0) dX6_allOf_2 (by decide) ?_
  refine g_istore X [some (.ref (B + 150)), some (.ref (B + x1)), some (.long 0), none, some (.int 0)] dX6_allOf_3 (by decide) rfl ?_
  refine g_mk [true, true, true, false, true] [some (.ref (B + 150)), some (.ref (B + x1)), some (.long 0), none, some (.int 0)] rfl ?_
  exact v_X6_allOf_l5 X  fz hM
theorem s_X6_allOf {x1 : Nat} {u : gM} {w : Int64} (hM : X6_allOf u x1 = some w) : gMet skC yX6_allOf cX6_allOf 5 (some .long) 0 0 (fun B adK => [.ref (B + 150), .ref (B + x1)]) u ((fun _ => some (.long w)), u) := by
  refine gMet.of (by decide) (fun _ _ => Nat.le_of_ble_eq_true rfl) (fun κ B X => ?_)
  have X : gX κ B skC cX6_allOf 5 RX6 (some .long) 0 0 := X
  refine g_mk [true, true, false, false, false] [some (.ref (B + 150)), some (.ref (B + x1)), none, none, none] rfl ?_
  exact v_X6_allOf X  hM

/-! CoverDesk$Moves.roomiest()I -/
theorem dX6_roomiest_0 : decode cX6_roomiest 0 = .ok (.iconst (-1), 1) := by decide +kernel
theorem dX6_roomiest_1 : decode cX6_roomiest 1 = .ok (.istore_n 1, 1) := by decide +kernel
theorem dX6_roomiest_2 : decode cX6_roomiest 2 = .ok (.lconst 0, 1) := by decide +kernel
theorem dX6_roomiest_3 : decode cX6_roomiest 3 = .ok (.lstore_n 2, 1) := by decide +kernel
theorem dX6_roomiest_4 : decode cX6_roomiest 4 = .ok (.iconst 0, 1) := by decide +kernel
theorem dX6_roomiest_5 : decode cX6_roomiest 5 = .ok (.istore 4, 2) := by decide +kernel
theorem dX6_roomiest_7 : decode cX6_roomiest 7 = .ok (.iload 4, 2) := by decide +kernel
theorem dX6_roomiest_9 : decode cX6_roomiest 9 = .ok (.aload_n 0, 1) := by decide +kernel
theorem dX6_roomiest_10 : decode cX6_roomiest 10 = .ok (.getfield 28, 3) := by decide +kernel
theorem dX6_roomiest_13 : decode cX6_roomiest 13 = .ok (.getfield 52, 3) := by decide +kernel
theorem dX6_roomiest_16 : decode cX6_roomiest 16 = .ok (.if_icmp .ge 32, 3) := by decide +kernel
theorem dX6_roomiest_19 : decode cX6_roomiest 19 = .ok (.aload_n 0, 1) := by decide +kernel
theorem dX6_roomiest_20 : decode cX6_roomiest 20 = .ok (.getfield 15, 3) := by decide +kernel
theorem dX6_roomiest_23 : decode cX6_roomiest 23 = .ok (.iload 4, 2) := by decide +kernel
theorem dX6_roomiest_25 : decode cX6_roomiest 25 = .ok (.laload, 1) := by decide +kernel
theorem dX6_roomiest_26 : decode cX6_roomiest 26 = .ok (.lload_n 2, 1) := by decide +kernel
theorem dX6_roomiest_27 : decode cX6_roomiest 27 = .ok (.lcmp, 1) := by decide +kernel
theorem dX6_roomiest_28 : decode cX6_roomiest 28 = .ok (.ifCond .le 14, 3) := by decide +kernel
theorem dX6_roomiest_31 : decode cX6_roomiest 31 = .ok (.aload_n 0, 1) := by decide +kernel
theorem dX6_roomiest_32 : decode cX6_roomiest 32 = .ok (.getfield 15, 3) := by decide +kernel
theorem dX6_roomiest_35 : decode cX6_roomiest 35 = .ok (.iload 4, 2) := by decide +kernel
theorem dX6_roomiest_37 : decode cX6_roomiest 37 = .ok (.laload, 1) := by decide +kernel
theorem dX6_roomiest_38 : decode cX6_roomiest 38 = .ok (.lstore_n 2, 1) := by decide +kernel
theorem dX6_roomiest_39 : decode cX6_roomiest 39 = .ok (.iload 4, 2) := by decide +kernel
theorem dX6_roomiest_41 : decode cX6_roomiest 41 = .ok (.istore_n 1, 1) := by decide +kernel
theorem dX6_roomiest_42 : decode cX6_roomiest 42 = .ok (.iinc 4 1, 3) := by decide +kernel
theorem dX6_roomiest_45 : decode cX6_roomiest 45 = .ok (.goto (-38), 3) := by decide +kernel
theorem dX6_roomiest_48 : decode cX6_roomiest 48 = .ok (.iload_n 1, 1) := by decide +kernel
theorem dX6_roomiest_49 : decode cX6_roomiest 49 = .ok (.ireturn, 1) := by decide +kernel
def X6_roomiest_b42 (u : gM) (k7 : Int32 → Int64 → Int32 → Option Int32) (x1 : Int32) (x2 : Int64) (x4 : Int32) : Option Int32 :=
(k7 x1 x2 (x4 + 1))
def X6_roomiest_b7 (u : gM) (k7 : Int32 → Int64 → Int32 → Option Int32) (x1 : Int32) (x2 : Int64) (x4 : Int32) : Option Int32 :=
(if (u.1 3 1) ≤ x4 then some x1
  else ((aJ skC u 152 x4).bind fun v25 => (if (lg_cmp v25 x2) ≤ 0 then (X6_roomiest_b42 u k7 x1 x2 x4)
    else ((aJ skC u 152 x4).bind fun v37 => (X6_roomiest_b42 u k7 x4 v37 x4)))))
def X6_roomiest_l7 (u : gM)  : Nat → Int32 → Int64 → Int32 → Option Int32
  | 0, _, _, _ => none
  | n + 1, x1, x2, x4 => X6_roomiest_b7 u  (X6_roomiest_l7 u  n) x1 x2 x4
def X6_roomiest (u : gM)   : Option Int32 :=
(X6_roomiest_l7 u fz (-1) 0 0)
set_option maxRecDepth 20000 in
theorem v_X6_roomiest_b42 {κ : gK} {B : Nat} {u : gM} (X : gX κ B skC cX6_roomiest 5 RX6 (some .int) 0 0) {k7 : Int32 → Int64 → Int32 → Option Int32} (ih7 : ∀ (x1 : Int32) (x2 : Int64) (x4 : Int32) (w : Int32), k7 x1 x2 x4 = some w → gV κ B skC 5 ((some (.int w)), u) 7 [some (.ref (B + 150)), some (.int x1), some (.long x2), none, some (.int x4)] [] u) {x1 : Int32} {x2 : Int64} {x4 : Int32} {w : Int32} (hM : X6_roomiest_b42 u k7 x1 x2 x4 = some w) : gV κ B skC 5 ((some (.int w)), u) 42 [some (.ref (B + 150)), some (.int x1), some (.long x2), none, some (.int x4)] [] u := by
  unfold X6_roomiest_b42 at hM
  refine g_iinc (d := 1) X [some (.ref (B + 150)), some (.int x1), some (.long x2), none, some (.int (x4 + 1))] dX6_roomiest_42 (by decide) rfl (by decide) rfl ?_
  refine g_goto (tgt := 7) X dX6_roomiest_45 (by decide) ?_
  refine g_mk [true, true, true, false, true] [some (.ref (B + 150)), some (.int x1), some (.long x2), none, some (.int (x4 + 1))] rfl ?_
  exact ih7 x1 x2 (x4 + 1) _ hM
set_option maxRecDepth 20000 in
theorem v_X6_roomiest_b7 {κ : gK} {B : Nat} {u : gM} (X : gX κ B skC cX6_roomiest 5 RX6 (some .int) 0 0) {k7 : Int32 → Int64 → Int32 → Option Int32} (ih7 : ∀ (x1 : Int32) (x2 : Int64) (x4 : Int32) (w : Int32), k7 x1 x2 x4 = some w → gV κ B skC 5 ((some (.int w)), u) 7 [some (.ref (B + 150)), some (.int x1), some (.long x2), none, some (.int x4)] [] u) {x1 : Int32} {x2 : Int64} {x4 : Int32} {w : Int32} (hM : X6_roomiest_b7 u k7 x1 x2 x4 = some w) : gV κ B skC 5 ((some (.int w)), u) 7 [some (.ref (B + 150)), some (.int x1), some (.long x2), none, some (.int x4)] [] u := by
  unfold X6_roomiest_b7 at hM
  refine g_iload X dX6_roomiest_7 rfl ?_
  refine g_aload_n X dX6_roomiest_9 rfl ?_
  refine g_getR X fX6_28 cC_150 rfl dX6_roomiest_10 ?_
  refine g_getI X fX6_52 cC_3 rfl dX6_roomiest_13 ?_
  refine g_icmp_ge (tgt := 48) X dX6_roomiest_16 (by decide) (fun c16 => ?_) (fun c16 => ?_)
  · rw [if_pos c16] at hM
    refine g_iload_n X dX6_roomiest_48 rfl ?_
    cases hM
    exact g_iret X dX6_roomiest_49
  · rw [if_neg c16] at hM
    refine g_aload_n X dX6_roomiest_19 rfl ?_
    refine g_getR X fX6_15 cC_150 rfl dX6_roomiest_20 ?_
    refine g_iload X dX6_roomiest_23 rfl ?_
    obtain ⟨v25, e25, hM⟩ := bind_of hM
    refine g_laload X e25 dX6_roomiest_25 ?_
    refine g_lload_n X dX6_roomiest_26 rfl ?_
    refine g_lcmp X dX6_roomiest_27 ?_
    refine g_if_le (tgt := 42) X dX6_roomiest_28 (by decide) (fun c28 => ?_) (fun c28 => ?_)
    · rw [if_pos c28] at hM
      refine g_mk [true, true, true, false, true] [some (.ref (B + 150)), some (.int x1), some (.long x2), none, some (.int x4)] rfl ?_
      exact v_X6_roomiest_b42 X ih7 hM
    · rw [if_neg c28] at hM
      refine g_aload_n X dX6_roomiest_31 rfl ?_
      refine g_getR X fX6_15 cC_150 rfl dX6_roomiest_32 ?_
      refine g_iload X dX6_roomiest_35 rfl ?_
      obtain ⟨v37, e37, hM⟩ := bind_of hM
      refine g_laload X e37 dX6_roomiest_37 ?_
      refine g_lstore_n X [some (.ref (B + 150)), some (.int x1), some (.long v37), none, some (.int x4)] dX6_roomiest_38 (by decide) rfl ?_
      refine g_iload X dX6_roomiest_39 rfl ?_
      refine g_istore_n X [some (.ref (B + 150)), some (.int x4), some (.long v37), none, some (.int x4)] dX6_roomiest_41 (by decide) rfl ?_
      refine g_mk [true, true, true, false, true] [some (.ref (B + 150)), some (.int x4), some (.long v37), none, some (.int x4)] rfl ?_
      exact v_X6_roomiest_b42 X ih7 hM
theorem v_X6_roomiest_l7 {κ : gK} {B : Nat} {u : gM} (X : gX κ B skC cX6_roomiest 5 RX6 (some .int) 0 0)   : ∀ (n : Nat) {x1 : Int32} {x2 : Int64} {x4 : Int32} {w : Int32} (hM : X6_roomiest_l7 u  n x1 x2 x4 = some w), gV κ B skC 5 ((some (.int w)), u) 7 [some (.ref (B + 150)), some (.int x1), some (.long x2), none, some (.int x4)] [] u := by
  intro n
  induction n with
  | zero => intro x1 x2 x4 w hM; exact nomatch (show (none : Option Int32) = some w from hM)
  | succ n ihn => intro x1 x2 x4 w hM; exact v_X6_roomiest_b7 X  (fun x1 x2 x4 w h => ihn h) hM
set_option maxRecDepth 20000 in
theorem v_X6_roomiest {κ : gK} {B : Nat} {u : gM} (X : gX κ B skC cX6_roomiest 5 RX6 (some .int) 0 0)    {w : Int32} (hM : X6_roomiest u = some w) : gV κ B skC 5 ((some (.int w)), u) 0 [some (.ref (B + 150)), none, none, none, none] [] u := by
  unfold X6_roomiest at hM
  refine g_iconst X (v := (-1)) dX6_roomiest_0 (by decide) ?_
  refine g_istore_n X [some (.ref (B + 150)), some (.int (-1)), none, none, none] dX6_roomiest_1 (by decide) rfl ?_
  refine g_lconst (v := 0) X dX6_roomiest_2 (by decide) ?_
  refine g_lstore_n X [some (.ref (B + 150)), some (.int (-1)), some (.long 0), none, none] dX6_roomiest_3 (by decide) rfl ?_
  refine g_iconst X (v := 0) dX6_roomiest_4 (by decide) ?_
  refine g_istore X [some (.ref (B + 150)), some (.int (-1)), some (.long 0), none, some (.int 0)] dX6_roomiest_5 (by decide) rfl ?_
  refine g_mk [true, true, true, false, true] [some (.ref (B + 150)), some (.int (-1)), some (.long 0), none, some (.int 0)] rfl ?_
  exact v_X6_roomiest_l7 X  fz hM
theorem s_X6_roomiest  {u : gM} {w : Int32} (hM : X6_roomiest u = some w) : gMet skC yX6_roomiest cX6_roomiest 5 (some .int) 0 0 (fun B adK => [.ref (B + 150)]) u ((fun _ => some (.int w)), u) := by
  refine gMet.of (by decide) (fun _ _ => Nat.le_of_ble_eq_true rfl) (fun κ B X => ?_)
  have X : gX κ B skC cX6_roomiest 5 RX6 (some .int) 0 0 := X
  refine g_mk [true, false, false, false, false] [some (.ref (B + 150)), none, none, none, none] rfl ?_
  exact v_X6_roomiest X  hM

/-! CoverDesk.moves(II)J -/
theorem dX11_moves_0 : decode cX11_moves 0 = .ok (.aload_n 0, 1) := by decide +kernel
theorem dX11_moves_1 : decode cX11_moves 1 = .ok (.getfield 19, 3) := by decide +kernel
theorem dX11_moves_4 : decode cX11_moves 4 = .ok (.iload_n 1, 1) := by decide +kernel
theorem dX11_moves_5 : decode cX11_moves 5 = .ok (.invokevirtual 262, 3) := by decide +kernel
theorem dX11_moves_8 : decode cX11_moves 8 = .ok (.ifCond .ne 7, 3) := by decide +kernel
theorem dX11_moves_11 : decode cX11_moves 11 = .ok (.ldc2_w 250, 3) := by decide +kernel
theorem dX11_moves_14 : decode cX11_moves 14 = .ok (.lreturn, 1) := by decide +kernel
theorem dX11_moves_15 : decode cX11_moves 15 = .ok (.aload_n 0, 1) := by decide +kernel
theorem dX11_moves_16 : decode cX11_moves 16 = .ok (.getfield 76, 3) := by decide +kernel
theorem dX11_moves_19 : decode cX11_moves 19 = .ok (.iload_n 1, 1) := by decide +kernel
theorem dX11_moves_20 : decode cX11_moves 20 = .ok (.invokevirtual 335, 3) := by decide +kernel
theorem dX11_moves_23 : decode cX11_moves 23 = .ok (.aload_n 0, 1) := by decide +kernel
theorem dX11_moves_24 : decode cX11_moves 24 = .ok (.getfield 76, 3) := by decide +kernel
theorem dX11_moves_27 : decode cX11_moves 27 = .ok (.aload_n 0, 1) := by decide +kernel
theorem dX11_moves_28 : decode cX11_moves 28 = .ok (.getfield 76, 3) := by decide +kernel
theorem dX11_moves_31 : decode cX11_moves 31 = .ok (.getfield 338, 3) := by decide +kernel
theorem dX11_moves_34 : decode cX11_moves 34 = .ok (.invokevirtual 342, 3) := by decide +kernel
theorem dX11_moves_37 : decode cX11_moves 37 = .ok (.lstore_n 3, 1) := by decide +kernel
theorem dX11_moves_38 : decode cX11_moves 38 = .ok (.aload_n 0, 1) := by decide +kernel
theorem dX11_moves_39 : decode cX11_moves 39 = .ok (.getfield 76, 3) := by decide +kernel
theorem dX11_moves_42 : decode cX11_moves 42 = .ok (.aload_n 0, 1) := by decide +kernel
theorem dX11_moves_43 : decode cX11_moves 43 = .ok (.getfield 76, 3) := by decide +kernel
theorem dX11_moves_46 : decode cX11_moves 46 = .ok (.getfield 346, 3) := by decide +kernel
theorem dX11_moves_49 : decode cX11_moves 49 = .ok (.invokevirtual 342, 3) := by decide +kernel
theorem dX11_moves_52 : decode cX11_moves 52 = .ok (.lstore 5, 2) := by decide +kernel
theorem dX11_moves_54 : decode cX11_moves 54 = .ok (.iload_n 2, 1) := by decide +kernel
theorem dX11_moves_55 : decode cX11_moves 55 = .ok (.tableswitch 50 0 2 #[25, 34, 41], 25) := by decide +kernel
theorem dX11_moves_80 : decode cX11_moves 80 = .ok (.lconst 0, 1) := by decide +kernel
theorem dX11_moves_81 : decode cX11_moves 81 = .ok (.lload_n 3, 1) := by decide +kernel
theorem dX11_moves_82 : decode cX11_moves 82 = .ok (.lload 5, 2) := by decide +kernel
theorem dX11_moves_84 : decode cX11_moves 84 = .ok (.lsub, 1) := by decide +kernel
theorem dX11_moves_85 : decode cX11_moves 85 = .ok (.invokestatic 349, 3) := by decide +kernel
theorem dX11_moves_88 : decode cX11_moves 88 = .ok (.lreturn, 1) := by decide +kernel
theorem dX11_moves_89 : decode cX11_moves 89 = .ok (.lload_n 3, 1) := by decide +kernel
theorem dX11_moves_90 : decode cX11_moves 90 = .ok (.lload 5, 2) := by decide +kernel
theorem dX11_moves_92 : decode cX11_moves 92 = .ok (.invokestatic 288, 3) := by decide +kernel
theorem dX11_moves_95 : decode cX11_moves 95 = .ok (.lreturn, 1) := by decide +kernel
theorem dX11_moves_96 : decode cX11_moves 96 = .ok (.aload_n 0, 1) := by decide +kernel
theorem dX11_moves_97 : decode cX11_moves 97 = .ok (.getfield 76, 3) := by decide +kernel
theorem dX11_moves_100 : decode cX11_moves 100 = .ok (.invokevirtual 352, 3) := by decide +kernel
theorem dX11_moves_103 : decode cX11_moves 103 = .ok (.i2l, 1) := by decide +kernel
theorem dX11_moves_104 : decode cX11_moves 104 = .ok (.lreturn, 1) := by decide +kernel
theorem dX11_moves_105 : decode cX11_moves 105 = .ok (.ldc2_w 250, 3) := by decide +kernel
theorem dX11_moves_108 : decode cX11_moves 108 = .ok (.lreturn, 1) := by decide +kernel
def X11_moves  (x1 : Int32) (x2 : Int32) (u : gM) : Option (Int64 × gM) :=
((X10_isPerson u 3 x1).bind fun w5 => (if w5 = 0 then some ((-1), u)
  else ((X6_weigh x1 u).bind fun w20 => ((X6_allOf w20 151).bind fun w34 => ((X6_allOf w20 152).bind fun w49 => (if x2 = 0 then some ((mxJ 0 (w34 - w49)), w20)
    else (if x2 = 1 then some ((mnJ w34 w49), w20)
    else (if x2 = 2 then ((X6_roomiest w20).bind fun w100 => some (w100.toInt64, w20))
    else some ((-1), w20)))))))))
set_option maxRecDepth 20000 in
theorem v_X11_moves {κ : gK} {B : Nat} {u : gM} (X : gX κ B skC cX11_moves 7 RX11 (some .long) 5 120)   {x1 : Int32} {x2 : Int32} {w : (Int64 × gM)} (hM : X11_moves x1 x2 u = some w) : gV κ B skC 7 ((some (.long w.1)), w.2) 0 [some (.ref (B + 0)), some (.int x1), some (.int x2), none, none, none, none] [] u := by
  unfold X11_moves at hM
  refine g_aload_n X dX11_moves_0 rfl ?_
  refine g_getR X fX11_19 cC_0 rfl dX11_moves_1 ?_
  refine g_iload_n X dX11_moves_4 rfl ?_
  obtain ⟨w5, e5, hM⟩ := bind_of hM
  refine g_callVi X (fun B adK => [.int x1]) (s_X10_isPerson e5) cvX11_262 cC_3 rfl rfl (Nat.le_of_ble_eq_true rfl) ⟨by decide, by decide⟩ dX11_moves_5 ?_
  refine g_if_ne (tgt := 15) X dX11_moves_8 (by decide) (fun c8 => ?_) (fun c8 => ?_)
  · rw [if_neg c8] at hM
    refine g_aload_n X dX11_moves_15 rfl ?_
    refine g_getR X fX11_76 cC_0 rfl dX11_moves_16 ?_
    refine g_iload_n X dX11_moves_19 rfl ?_
    obtain ⟨w20, e20, hM⟩ := bind_of hM
    refine g_callVv X (fun B adK => [.int x1]) (s_X6_weigh e20) cvX11_335 cC_150 rfl rfl (Nat.le_of_ble_eq_true rfl) ⟨by decide, by decide⟩ dX11_moves_20 ?_
    refine g_aload_n X dX11_moves_23 rfl ?_
    refine g_getR X fX11_76 cC_0 rfl dX11_moves_24 ?_
    refine g_aload_n X dX11_moves_27 rfl ?_
    refine g_getR X fX11_76 cC_0 rfl dX11_moves_28 ?_
    refine g_getR X fX11_338 cC_150 rfl dX11_moves_31 ?_
    obtain ⟨w34, e34, hM⟩ := bind_of hM
    refine g_callVl X (fun B adK => [.ref (B + 151)]) (s_X6_allOf e34) cvX11_342 cC_150 rfl rfl (Nat.le_of_ble_eq_true rfl) ⟨by decide, by decide⟩ dX11_moves_34 ?_
    refine g_lstore_n X [some (.ref (B + 0)), some (.int x1), some (.int x2), some (.long w34), none, none, none] dX11_moves_37 (by decide) rfl ?_
    refine g_aload_n X dX11_moves_38 rfl ?_
    refine g_getR X fX11_76 cC_0 rfl dX11_moves_39 ?_
    refine g_aload_n X dX11_moves_42 rfl ?_
    refine g_getR X fX11_76 cC_0 rfl dX11_moves_43 ?_
    refine g_getR X fX11_346 cC_150 rfl dX11_moves_46 ?_
    obtain ⟨w49, e49, hM⟩ := bind_of hM
    refine g_callVl X (fun B adK => [.ref (B + 152)]) (s_X6_allOf e49) cvX11_342 cC_150 rfl rfl (Nat.le_of_ble_eq_true rfl) ⟨by decide, by decide⟩ dX11_moves_49 ?_
    refine g_lstore X [some (.ref (B + 0)), some (.int x1), some (.int x2), some (.long w34), none, some (.long w49), none] dX11_moves_52 (by decide) rfl ?_
    refine g_iload_n X dX11_moves_54 rfl ?_
    by_cases h55_0 : x2 = 0
    · rw [if_pos h55_0] at hM
      refine g_tabIn (tgt := 80) (off := 25) X 0 h55_0 dX11_moves_55 (by decide) (by decide) (by decide) (by decide) ?_
      refine g_lconst (v := 0) X dX11_moves_80 (by decide) ?_
      refine g_lload_n X dX11_moves_81 rfl ?_
      refine g_lload X dX11_moves_82 rfl ?_
      refine g_lsub X dX11_moves_84 ?_
      refine g_maxJ X m_56_4 ⟨by decide, Nat.le_of_ble_eq_true rfl⟩ dX11_moves_85 ?_
      cases hM
      exact g_lret X dX11_moves_88
    rw [if_neg h55_0] at hM
    by_cases h55_1 : x2 = 1
    · rw [if_pos h55_1] at hM
      refine g_tabIn (tgt := 89) (off := 34) X 1 h55_1 dX11_moves_55 (by decide) (by decide) (by decide) (by decide) ?_
      refine g_lload_n X dX11_moves_89 rfl ?_
      refine g_lload X dX11_moves_90 rfl ?_
      refine g_minJ X m_51_13 ⟨by decide, Nat.le_of_ble_eq_true rfl⟩ dX11_moves_92 ?_
      cases hM
      exact g_lret X dX11_moves_95
    rw [if_neg h55_1] at hM
    by_cases h55_2 : x2 = 2
    · rw [if_pos h55_2] at hM
      refine g_tabIn (tgt := 96) (off := 41) X 2 h55_2 dX11_moves_55 (by decide) (by decide) (by decide) (by decide) ?_
      refine g_aload_n X dX11_moves_96 rfl ?_
      refine g_getR X fX11_76 cC_0 rfl dX11_moves_97 ?_
      obtain ⟨w100, e100, hM⟩ := bind_of hM
      refine g_callVi X (fun B adK => []) (s_X6_roomiest e100) cvX11_352 cC_150 rfl rfl (Nat.le_of_ble_eq_true rfl) ⟨by decide, by decide⟩ dX11_moves_100 ?_
      refine g_i2l X dX11_moves_103 ?_
      cases hM
      exact g_lret X dX11_moves_104
    rw [if_neg h55_2] at hM
    refine g_tabOut (tgt := 105) X dX11_moves_55 (by have q0 := lv_neT (a := 0) h55_0 (by decide); have q1 := lv_neT (a := 1) h55_1 (by decide); have q2 := lv_neT (a := 2) h55_2 (by decide); omega) (by decide) ?_
    refine g_ldc2 (v := (-1)) X m_50_11 dX11_moves_105 ?_
    cases hM
    exact g_lret X dX11_moves_108
  · rw [if_pos c8] at hM
    refine g_ldc2 (v := (-1)) X m_50_11 dX11_moves_11 ?_
    cases hM
    exact g_lret X dX11_moves_14
theorem s_X11_moves {x1 : Int32} {x2 : Int32} {u : gM} {w : (Int64 × gM)} (hM : X11_moves x1 x2 u = some w) : gMet skC yX11_moves cX11_moves 7 (some .long) 5 120 (fun B adK => [.ref (B + 0), .int x1, .int x2]) u ((fun _ => some (.long w.1)), w.2) := by
  refine gMet.of (by decide) (fun _ _ => Nat.le_of_ble_eq_true rfl) (fun κ B X => ?_)
  have X : gX κ B skC cX11_moves 7 RX11 (some .long) 5 120 := X
  refine g_mk [true, true, true, false, false, false, false] [some (.ref (B + 0)), some (.int x1), some (.int x2), none, none, none, none] rfl ?_
  exact v_X11_moves X  hM
theorem fr_X11_moves {S : Nat → Prop} {u0 u : gM} {x1 : Int32} {x2 : Int32} (hs0 : S (rf skC 138 2)) (hs1 : S 138) (hs2 : S 142) (hs3 : S 143) (hs4 : S 151) (hs5 : S 152)   {w : (Int64 × gM)} (hM : X11_moves x1 x2 u = some w) (h0 : off S u0 u) : off S u0 w.2 := by
  unfold X11_moves at hM
  obtain ⟨w5, e5, hM⟩ := bind_of hM
  by_cases c8 : w5 = 0
  · rw [if_pos c8] at hM
    cases hM
    exact h0
  · rw [if_neg c8] at hM
    obtain ⟨w20, e20, hM⟩ := bind_of hM
    have h0 := fr_X6_weigh hs0 hs1 hs2 hs3 hs4 hs5 e20 h0
    obtain ⟨w34, e34, hM⟩ := bind_of hM
    obtain ⟨w49, e49, hM⟩ := bind_of hM
    by_cases h55_0 : x2 = 0
    · rw [if_pos h55_0] at hM
      cases hM
      exact h0
    rw [if_neg h55_0] at hM
    by_cases h55_1 : x2 = 1
    · rw [if_pos h55_1] at hM
      cases hM
      exact h0
    rw [if_neg h55_1] at hM
    by_cases h55_2 : x2 = 2
    · rw [if_pos h55_2] at hM
      obtain ⟨w100, e100, hM⟩ := bind_of hM
      cases hM
      exact h0
    rw [if_neg h55_2] at hM
    cases hM
    exact h0
/-! CoverDesk.named(I)I -/
theorem dX11_named_0 : decode cX11_named 0 = .ok (.aload_n 0, 1) := by decide +kernel
theorem dX11_named_1 : decode cX11_named 1 = .ok (.getfield 12, 3) := by decide +kernel
theorem dX11_named_4 : decode cX11_named 4 = .ok (.invokevirtual 150, 3) := by decide +kernel
theorem dX11_named_7 : decode cX11_named 7 = .ok (.aload_n 0, 1) := by decide +kernel
theorem dX11_named_8 : decode cX11_named 8 = .ok (.getfield 12, 3) := by decide +kernel
theorem dX11_named_11 : decode cX11_named 11 = .ok (.getfield 153, 3) := by decide +kernel
theorem dX11_named_14 : decode cX11_named 14 = .ok (.iconst 1, 1) := by decide +kernel
theorem dX11_named_15 : decode cX11_named 15 = .ok (.if_icmp .ne 7, 3) := by decide +kernel
theorem dX11_named_18 : decode cX11_named 18 = .ok (.iconst 1, 1) := by decide +kernel
theorem dX11_named_19 : decode cX11_named 19 = .ok (.goto 4, 3) := by decide +kernel
theorem dX11_named_22 : decode cX11_named 22 = .ok (.iconst 0, 1) := by decide +kernel
theorem dX11_named_23 : decode cX11_named 23 = .ok (.istore_n 2, 1) := by decide +kernel
theorem dX11_named_24 : decode cX11_named 24 = .ok (.aload_n 0, 1) := by decide +kernel
theorem dX11_named_25 : decode cX11_named 25 = .ok (.getfield 12, 3) := by decide +kernel
theorem dX11_named_28 : decode cX11_named 28 = .ok (.getfield 156, 3) := by decide +kernel
theorem dX11_named_31 : decode cX11_named 31 = .ok (.lstore_n 3, 1) := by decide +kernel
theorem dX11_named_32 : decode cX11_named 32 = .ok (.aload_n 0, 1) := by decide +kernel
theorem dX11_named_33 : decode cX11_named 33 = .ok (.getfield 12, 3) := by decide +kernel
theorem dX11_named_36 : decode cX11_named 36 = .ok (.invokevirtual 160, 3) := by decide +kernel
theorem dX11_named_39 : decode cX11_named 39 = .ok (.aload_n 0, 1) := by decide +kernel
theorem dX11_named_40 : decode cX11_named 40 = .ok (.getfield 12, 3) := by decide +kernel
theorem dX11_named_43 : decode cX11_named 43 = .ok (.getfield 153, 3) := by decide +kernel
theorem dX11_named_46 : decode cX11_named 46 = .ok (.ifCond .ne 7, 3) := by decide +kernel
theorem dX11_named_49 : decode cX11_named 49 = .ok (.iconst 1, 1) := by decide +kernel
theorem dX11_named_50 : decode cX11_named 50 = .ok (.goto 4, 3) := by decide +kernel
theorem dX11_named_53 : decode cX11_named 53 = .ok (.iconst 0, 1) := by decide +kernel
theorem dX11_named_54 : decode cX11_named 54 = .ok (.istore 5, 2) := by decide +kernel
theorem dX11_named_56 : decode cX11_named 56 = .ok (.aload_n 0, 1) := by decide +kernel
theorem dX11_named_57 : decode cX11_named 57 = .ok (.getfield 12, 3) := by decide +kernel
theorem dX11_named_60 : decode cX11_named 60 = .ok (.iconst 0, 1) := by decide +kernel
theorem dX11_named_61 : decode cX11_named 61 = .ok (.putfield 91, 3) := by decide +kernel
theorem dX11_named_64 : decode cX11_named 64 = .ok (.iload_n 2, 1) := by decide +kernel
theorem dX11_named_65 : decode cX11_named 65 = .ok (.ifCond .eq 8, 3) := by decide +kernel
theorem dX11_named_68 : decode cX11_named 68 = .ok (.iload 5, 2) := by decide +kernel
theorem dX11_named_70 : decode cX11_named 70 = .ok (.ifCond .ne 5, 3) := by decide +kernel
theorem dX11_named_73 : decode cX11_named 73 = .ok (.iconst (-1), 1) := by decide +kernel
theorem dX11_named_74 : decode cX11_named 74 = .ok (.ireturn, 1) := by decide +kernel
theorem dX11_named_75 : decode cX11_named 75 = .ok (.iload_n 1, 1) := by decide +kernel
theorem dX11_named_76 : decode cX11_named 76 = .ok (.tableswitch 55 0 2 #[28, 37, 46], 28) := by decide +kernel
theorem dX11_named_104 : decode cX11_named 104 = .ok (.aload_n 0, 1) := by decide +kernel
theorem dX11_named_105 : decode cX11_named 105 = .ok (.getfield 19, 3) := by decide +kernel
theorem dX11_named_108 : decode cX11_named 108 = .ok (.lload_n 3, 1) := by decide +kernel
theorem dX11_named_109 : decode cX11_named 109 = .ok (.invokevirtual 163, 3) := by decide +kernel
theorem dX11_named_112 : decode cX11_named 112 = .ok (.ireturn, 1) := by decide +kernel
theorem dX11_named_113 : decode cX11_named 113 = .ok (.aload_n 0, 1) := by decide +kernel
theorem dX11_named_114 : decode cX11_named 114 = .ok (.getfield 19, 3) := by decide +kernel
theorem dX11_named_117 : decode cX11_named 117 = .ok (.lload_n 3, 1) := by decide +kernel
theorem dX11_named_118 : decode cX11_named 118 = .ok (.invokevirtual 167, 3) := by decide +kernel
theorem dX11_named_121 : decode cX11_named 121 = .ok (.ireturn, 1) := by decide +kernel
theorem dX11_named_122 : decode cX11_named 122 = .ok (.aload_n 0, 1) := by decide +kernel
theorem dX11_named_123 : decode cX11_named 123 = .ok (.getfield 19, 3) := by decide +kernel
theorem dX11_named_126 : decode cX11_named 126 = .ok (.lload_n 3, 1) := by decide +kernel
theorem dX11_named_127 : decode cX11_named 127 = .ok (.invokevirtual 170, 3) := by decide +kernel
theorem dX11_named_130 : decode cX11_named 130 = .ok (.ireturn, 1) := by decide +kernel
theorem dX11_named_131 : decode cX11_named 131 = .ok (.iconst (-1), 1) := by decide +kernel
theorem dX11_named_132 : decode cX11_named 132 = .ok (.ireturn, 1) := by decide +kernel
def X11_named_b73   (u : gM) : Option (Int32 × gM) :=
some ((-1), u)
def X11_named_b54  (x1 : Int32) (x2 : Int32) (x3 : Int64) (s0 : Int32) (u : gM) : Option (Int32 × gM) :=
(if x2 = 0 then (X11_named_b73 (upI u 1 0 0))
  else (if s0 = 0 then (X11_named_b73 (upI u 1 0 0))
    else (if x1 = 0 then ((X10_personNamed (upI u 1 0 0) 3 x3).bind fun w109 => some (w109, upI u 1 0 0))
      else (if x1 = 1 then ((X10_bankNamed (upI u 1 0 0) 3 x3).bind fun w118 => some (w118, upI u 1 0 0))
      else (if x1 = 2 then ((X10_accountNamed (upI u 1 0 0) 3 x3).bind fun w127 => some (w127, upI u 1 0 0))
      else some ((-1), upI u 1 0 0))))))
def X11_named_b23  (x1 : Int32) (s0 : Int32) (u : gM) : Option (Int32 × gM) :=
((X9_step u).bind fun w36 => (if (w36.1 1 3) = 0 then (X11_named_b54 x1 s0 (u.2 1 7) 1 w36)
  else (X11_named_b54 x1 s0 (u.2 1 7) 0 w36)))
def X11_named  (x1 : Int32) (u : gM) : Option (Int32 × gM) :=
((X9_begin u).bind fun w4 => (if (w4.1 1 3) = 1 then (X11_named_b23 x1 1 w4)
  else (X11_named_b23 x1 0 w4)))
set_option maxRecDepth 20000 in
theorem v_X11_named_b73 {κ : gK} {B : Nat} {u : gM} (X : gX κ B skC cX11_named 6 RX11 (some .int) 7 165)    {w : (Int32 × gM)} (hM : X11_named_b73 u = some w) : gV κ B skC 6 ((some (.int w.1)), w.2) 73 [none, none, none, none, none, none] [] u := by
  unfold X11_named_b73 at hM
  refine g_iconst X (v := (-1)) dX11_named_73 (by decide) ?_
  cases hM
  exact g_iret X dX11_named_74
set_option maxRecDepth 20000 in
theorem v_X11_named_b54 {κ : gK} {B : Nat} {u : gM} (X : gX κ B skC cX11_named 6 RX11 (some .int) 7 165)   {x1 : Int32} {x2 : Int32} {x3 : Int64} {s0 : Int32} {w : (Int32 × gM)} (hM : X11_named_b54 x1 x2 x3 s0 u = some w) : gV κ B skC 6 ((some (.int w.1)), w.2) 54 [some (.ref (B + 0)), some (.int x1), some (.int x2), some (.long x3), none, none] [.int s0] u := by
  unfold X11_named_b54 at hM
  refine g_istore X [some (.ref (B + 0)), some (.int x1), some (.int x2), some (.long x3), none, some (.int s0)] dX11_named_54 (by decide) rfl ?_
  refine g_aload_n X dX11_named_56 rfl ?_
  refine g_getR X fX11_12 cC_0 rfl dX11_named_57 ?_
  refine g_iconst X (v := 0) dX11_named_60 (by decide) ?_
  refine g_putI X fX11_91 gc_X9 gp_X9_0 cC_1 rfl dX11_named_61 ?_
  refine g_iload_n X dX11_named_64 rfl ?_
  refine g_if_eq (tgt := 73) X dX11_named_65 (by decide) (fun c65 => ?_) (fun c65 => ?_)
  · rw [if_pos c65] at hM
    refine g_mk [false, false, false, false, false, false] [none, none, none, none, none, none] rfl ?_
    exact v_X11_named_b73 X  hM
  · rw [if_neg c65] at hM
    refine g_iload X dX11_named_68 rfl ?_
    refine g_if_ne (tgt := 75) X dX11_named_70 (by decide) (fun c70 => ?_) (fun c70 => ?_)
    · rw [if_neg c70] at hM
      refine g_iload_n X dX11_named_75 rfl ?_
      by_cases h76_0 : x1 = 0
      · rw [if_pos h76_0] at hM
        refine g_tabIn (tgt := 104) (off := 28) X 0 h76_0 dX11_named_76 (by decide) (by decide) (by decide) (by decide) ?_
        refine g_aload_n X dX11_named_104 rfl ?_
        refine g_getR X fX11_19 cC_0 rfl dX11_named_105 ?_
        refine g_lload_n X dX11_named_108 rfl ?_
        obtain ⟨w109, e109, hM⟩ := bind_of hM
        refine g_callVi X (fun B adK => [.long x3]) (s_X10_personNamed e109) cvX11_163 cC_3 rfl rfl (Nat.le_of_ble_eq_true rfl) ⟨by decide, by decide⟩ dX11_named_109 ?_
        cases hM
        exact g_iret X dX11_named_112
      rw [if_neg h76_0] at hM
      by_cases h76_1 : x1 = 1
      · rw [if_pos h76_1] at hM
        refine g_tabIn (tgt := 113) (off := 37) X 1 h76_1 dX11_named_76 (by decide) (by decide) (by decide) (by decide) ?_
        refine g_aload_n X dX11_named_113 rfl ?_
        refine g_getR X fX11_19 cC_0 rfl dX11_named_114 ?_
        refine g_lload_n X dX11_named_117 rfl ?_
        obtain ⟨w118, e118, hM⟩ := bind_of hM
        refine g_callVi X (fun B adK => [.long x3]) (s_X10_bankNamed e118) cvX11_167 cC_3 rfl rfl (Nat.le_of_ble_eq_true rfl) ⟨by decide, by decide⟩ dX11_named_118 ?_
        cases hM
        exact g_iret X dX11_named_121
      rw [if_neg h76_1] at hM
      by_cases h76_2 : x1 = 2
      · rw [if_pos h76_2] at hM
        refine g_tabIn (tgt := 122) (off := 46) X 2 h76_2 dX11_named_76 (by decide) (by decide) (by decide) (by decide) ?_
        refine g_aload_n X dX11_named_122 rfl ?_
        refine g_getR X fX11_19 cC_0 rfl dX11_named_123 ?_
        refine g_lload_n X dX11_named_126 rfl ?_
        obtain ⟨w127, e127, hM⟩ := bind_of hM
        refine g_callVi X (fun B adK => [.long x3]) (s_X10_accountNamed e127) cvX11_170 cC_3 rfl rfl (Nat.le_of_ble_eq_true rfl) ⟨by decide, by decide⟩ dX11_named_127 ?_
        cases hM
        exact g_iret X dX11_named_130
      rw [if_neg h76_2] at hM
      refine g_tabOut (tgt := 131) X dX11_named_76 (by have q0 := lv_neT (a := 0) h76_0 (by decide); have q1 := lv_neT (a := 1) h76_1 (by decide); have q2 := lv_neT (a := 2) h76_2 (by decide); omega) (by decide) ?_
      refine g_iconst X (v := (-1)) dX11_named_131 (by decide) ?_
      cases hM
      exact g_iret X dX11_named_132
    · rw [if_pos c70] at hM
      refine g_mk [false, false, false, false, false, false] [none, none, none, none, none, none] rfl ?_
      exact v_X11_named_b73 X  hM
set_option maxRecDepth 20000 in
theorem v_X11_named_b23 {κ : gK} {B : Nat} {u : gM} (X : gX κ B skC cX11_named 6 RX11 (some .int) 7 165)   {x1 : Int32} {s0 : Int32} {w : (Int32 × gM)} (hM : X11_named_b23 x1 s0 u = some w) : gV κ B skC 6 ((some (.int w.1)), w.2) 23 [some (.ref (B + 0)), some (.int x1), none, none, none, none] [.int s0] u := by
  unfold X11_named_b23 at hM
  refine g_istore_n X [some (.ref (B + 0)), some (.int x1), some (.int s0), none, none, none] dX11_named_23 (by decide) rfl ?_
  refine g_aload_n X dX11_named_24 rfl ?_
  refine g_getR X fX11_12 cC_0 rfl dX11_named_25 ?_
  refine g_getJ X fX11_156 cC_1 rfl dX11_named_28 ?_
  refine g_lstore_n X [some (.ref (B + 0)), some (.int x1), some (.int s0), some (.long (u.2 1 7)), none, none] dX11_named_31 (by decide) rfl ?_
  refine g_aload_n X dX11_named_32 rfl ?_
  refine g_getR X fX11_12 cC_0 rfl dX11_named_33 ?_
  obtain ⟨w36, e36, hM⟩ := bind_of hM
  refine g_callVv X (fun B adK => []) (s_X9_step e36) cvX11_160 cC_1 rfl rfl (Nat.le_of_ble_eq_true rfl) ⟨by decide, by decide⟩ dX11_named_36 ?_
  refine g_aload_n X dX11_named_39 rfl ?_
  refine g_getR X fX11_12 cC_0 rfl dX11_named_40 ?_
  refine g_getI X fX11_153 cC_1 rfl dX11_named_43 ?_
  refine g_if_ne (tgt := 53) X dX11_named_46 (by decide) (fun c46 => ?_) (fun c46 => ?_)
  · rw [if_neg c46] at hM
    refine g_iconst X (v := 0) dX11_named_53 (by decide) ?_
    refine g_mk [true, true, true, true, false, false] [some (.ref (B + 0)), some (.int x1), some (.int s0), some (.long (u.2 1 7)), none, none] rfl ?_
    exact v_X11_named_b54 X  hM
  · rw [if_pos c46] at hM
    refine g_iconst X (v := 1) dX11_named_49 (by decide) ?_
    refine g_goto (tgt := 54) X dX11_named_50 (by decide) ?_
    refine g_mk [true, true, true, true, false, false] [some (.ref (B + 0)), some (.int x1), some (.int s0), some (.long (u.2 1 7)), none, none] rfl ?_
    exact v_X11_named_b54 X  hM
set_option maxRecDepth 20000 in
theorem v_X11_named {κ : gK} {B : Nat} {u : gM} (X : gX κ B skC cX11_named 6 RX11 (some .int) 7 165)   {x1 : Int32} {w : (Int32 × gM)} (hM : X11_named x1 u = some w) : gV κ B skC 6 ((some (.int w.1)), w.2) 0 [some (.ref (B + 0)), some (.int x1), none, none, none, none] [] u := by
  unfold X11_named at hM
  refine g_aload_n X dX11_named_0 rfl ?_
  refine g_getR X fX11_12 cC_0 rfl dX11_named_1 ?_
  obtain ⟨w4, e4, hM⟩ := bind_of hM
  refine g_callVv X (fun B adK => []) (s_X9_begin e4) cvX11_150 cC_1 rfl rfl (Nat.le_of_ble_eq_true rfl) ⟨by decide, by decide⟩ dX11_named_4 ?_
  refine g_aload_n X dX11_named_7 rfl ?_
  refine g_getR X fX11_12 cC_0 rfl dX11_named_8 ?_
  refine g_getI X fX11_153 cC_1 rfl dX11_named_11 ?_
  refine g_iconst X (v := 1) dX11_named_14 (by decide) ?_
  refine g_icmp_ne (tgt := 22) X dX11_named_15 (by decide) (fun c15 => ?_) (fun c15 => ?_)
  · rw [if_neg c15] at hM
    refine g_iconst X (v := 0) dX11_named_22 (by decide) ?_
    refine g_mk [true, true, false, false, false, false] [some (.ref (B + 0)), some (.int x1), none, none, none, none] rfl ?_
    exact v_X11_named_b23 X  hM
  · rw [if_pos c15] at hM
    refine g_iconst X (v := 1) dX11_named_18 (by decide) ?_
    refine g_goto (tgt := 23) X dX11_named_19 (by decide) ?_
    refine g_mk [true, true, false, false, false, false] [some (.ref (B + 0)), some (.int x1), none, none, none, none] rfl ?_
    exact v_X11_named_b23 X  hM
theorem s_X11_named {x1 : Int32} {u : gM} {w : (Int32 × gM)} (hM : X11_named x1 u = some w) : gMet skC yX11_named cX11_named 6 (some .int) 7 165 (fun B adK => [.ref (B + 0), .int x1]) u ((fun _ => some (.int w.1)), w.2) := by
  refine gMet.of (by decide) (fun _ _ => Nat.le_of_ble_eq_true rfl) (fun κ B X => ?_)
  have X : gX κ B skC cX11_named 6 RX11 (some .int) 7 165 := X
  refine g_mk [true, true, false, false, false, false] [some (.ref (B + 0)), some (.int x1), none, none, none, none] rfl ?_
  exact v_X11_named X  hM
theorem fr_X11_named_b73 {S : Nat → Prop} {u0 u : gM}     {w : (Int32 × gM)} (hM : X11_named_b73 u = some w) (h0 : off S u0 u) : off S u0 w.2 := by
  unfold X11_named_b73 at hM
  cases hM
  exact h0
theorem fr_X11_named_b54 {S : Nat → Prop} {u0 u : gM} {x1 : Int32} {x2 : Int32} {x3 : Int64} {s0 : Int32} (hs0 : S 1)   {w : (Int32 × gM)} (hM : X11_named_b54 x1 x2 x3 s0 u = some w) (h0 : off S u0 u) : off S u0 w.2 := by
  unfold X11_named_b54 at hM
  have h0 := off_upI (u := u) (k := 1) (j := 0) (x := 0) hs0 h0
  by_cases c65 : x2 = 0
  · rw [if_pos c65] at hM
    exact fr_X11_named_b73   hM h0
  · rw [if_neg c65] at hM
    by_cases c70 : s0 = 0
    · rw [if_pos c70] at hM
      exact fr_X11_named_b73   hM h0
    · rw [if_neg c70] at hM
      by_cases h76_0 : x1 = 0
      · rw [if_pos h76_0] at hM
        obtain ⟨w109, e109, hM⟩ := bind_of hM
        cases hM
        exact h0
      rw [if_neg h76_0] at hM
      by_cases h76_1 : x1 = 1
      · rw [if_pos h76_1] at hM
        obtain ⟨w118, e118, hM⟩ := bind_of hM
        cases hM
        exact h0
      rw [if_neg h76_1] at hM
      by_cases h76_2 : x1 = 2
      · rw [if_pos h76_2] at hM
        obtain ⟨w127, e127, hM⟩ := bind_of hM
        cases hM
        exact h0
      rw [if_neg h76_2] at hM
      cases hM
      exact h0
theorem fr_X11_named_b23 {S : Nat → Prop} {u0 u : gM} {x1 : Int32} {s0 : Int32} (hs0 : S 1)   {w : (Int32 × gM)} (hM : X11_named_b23 x1 s0 u = some w) (h0 : off S u0 u) : off S u0 w.2 := by
  unfold X11_named_b23 at hM
  obtain ⟨w36, e36, hM⟩ := bind_of hM
  have h0 := fr_X9_step hs0 e36 h0
  by_cases c46 : (w36.1 1 3) = 0
  · rw [if_pos c46] at hM
    exact fr_X11_named_b54 hs0  hM h0
  · rw [if_neg c46] at hM
    exact fr_X11_named_b54 hs0  hM h0
theorem fr_X11_named {S : Nat → Prop} {u0 u : gM} {x1 : Int32} (hs0 : S 1)   {w : (Int32 × gM)} (hM : X11_named x1 u = some w) (h0 : off S u0 u) : off S u0 w.2 := by
  unfold X11_named at hM
  obtain ⟨w4, e4, hM⟩ := bind_of hM
  have h0 := fr_X9_begin hs0 e4 h0
  by_cases c15 : (w4.1 1 3) = 1
  · rw [if_pos c15] at hM
    exact fr_X11_named_b23 hs0  hM h0
  · rw [if_neg c15] at hM
    exact fr_X11_named_b23 hs0  hM h0
/-! CoverDesk$Cover.sharesOf(I)J -/
theorem dX1_sharesOf_0 : decode cX1_sharesOf 0 = .ok (.lconst 0, 1) := by decide +kernel
theorem dX1_sharesOf_1 : decode cX1_sharesOf 1 = .ok (.lstore_n 2, 1) := by decide +kernel
theorem dX1_sharesOf_2 : decode cX1_sharesOf 2 = .ok (.iconst 0, 1) := by decide +kernel
theorem dX1_sharesOf_3 : decode cX1_sharesOf 3 = .ok (.istore 4, 2) := by decide +kernel
theorem dX1_sharesOf_5 : decode cX1_sharesOf 5 = .ok (.iload 4, 2) := by decide +kernel
theorem dX1_sharesOf_7 : decode cX1_sharesOf 7 = .ok (.aload_n 0, 1) := by decide +kernel
theorem dX1_sharesOf_8 : decode cX1_sharesOf 8 = .ok (.getfield 32, 3) := by decide +kernel
theorem dX1_sharesOf_11 : decode cX1_sharesOf 11 = .ok (.getfield 82, 3) := by decide +kernel
theorem dX1_sharesOf_14 : decode cX1_sharesOf 14 = .ok (.if_icmp .ge 39, 3) := by decide +kernel
theorem dX1_sharesOf_17 : decode cX1_sharesOf 17 = .ok (.aload_n 0, 1) := by decide +kernel
theorem dX1_sharesOf_18 : decode cX1_sharesOf 18 = .ok (.getfield 32, 3) := by decide +kernel
theorem dX1_sharesOf_21 : decode cX1_sharesOf 21 = .ok (.iload 4, 2) := by decide +kernel
theorem dX1_sharesOf_23 : decode cX1_sharesOf 23 = .ok (.iload_n 1, 1) := by decide +kernel
theorem dX1_sharesOf_24 : decode cX1_sharesOf 24 = .ok (.invokevirtual 94, 3) := by decide +kernel
theorem dX1_sharesOf_27 : decode cX1_sharesOf 27 = .ok (.istore 5, 2) := by decide +kernel
theorem dX1_sharesOf_29 : decode cX1_sharesOf 29 = .ok (.iload 5, 2) := by decide +kernel
theorem dX1_sharesOf_31 : decode cX1_sharesOf 31 = .ok (.iconst (-1), 1) := by decide +kernel
theorem dX1_sharesOf_32 : decode cX1_sharesOf 32 = .ok (.if_icmp .eq 15, 3) := by decide +kernel
theorem dX1_sharesOf_35 : decode cX1_sharesOf 35 = .ok (.lload_n 2, 1) := by decide +kernel
theorem dX1_sharesOf_36 : decode cX1_sharesOf 36 = .ok (.aload_n 0, 1) := by decide +kernel
theorem dX1_sharesOf_37 : decode cX1_sharesOf 37 = .ok (.iload 4, 2) := by decide +kernel
theorem dX1_sharesOf_39 : decode cX1_sharesOf 39 = .ok (.iload 5, 2) := by decide +kernel
theorem dX1_sharesOf_41 : decode cX1_sharesOf 41 = .ok (.invokevirtual 100, 3) := by decide +kernel
theorem dX1_sharesOf_44 : decode cX1_sharesOf 44 = .ok (.i2l, 1) := by decide +kernel
theorem dX1_sharesOf_45 : decode cX1_sharesOf 45 = .ok (.ladd, 1) := by decide +kernel
theorem dX1_sharesOf_46 : decode cX1_sharesOf 46 = .ok (.lstore_n 2, 1) := by decide +kernel
theorem dX1_sharesOf_47 : decode cX1_sharesOf 47 = .ok (.iinc 4 1, 3) := by decide +kernel
theorem dX1_sharesOf_50 : decode cX1_sharesOf 50 = .ok (.goto (-45), 3) := by decide +kernel
theorem dX1_sharesOf_53 : decode cX1_sharesOf 53 = .ok (.lload_n 2, 1) := by decide +kernel
theorem dX1_sharesOf_54 : decode cX1_sharesOf 54 = .ok (.lreturn, 1) := by decide +kernel
def X1_sharesOf_b47 (u : gM) (k5 : Int32 → Int64 → Int32 → Option Int64) (x1 : Int32) (x2 : Int64) (x4 : Int32) : Option Int64 :=
(k5 x1 x2 (x4 + 1))
def X1_sharesOf_b5 (u : gM) (k5 : Int32 → Int64 → Int32 → Option Int64) (x1 : Int32) (x2 : Int64) (x4 : Int32) : Option Int64 :=
(if (u.1 3 2) ≤ x4 then some x2
  else ((X10_ownerOf u 3 x4 x1).bind fun w24 => (if w24 = (-1) then (X1_sharesOf_b47 u k5 x1 x2 x4)
    else ((X1_share u x4 w24).bind fun w41 => (X1_sharesOf_b47 u k5 x1 (x2 + w41.toInt64) x4)))))
def X1_sharesOf_l5 (u : gM)  : Nat → Int32 → Int64 → Int32 → Option Int64
  | 0, _, _, _ => none
  | n + 1, x1, x2, x4 => X1_sharesOf_b5 u  (X1_sharesOf_l5 u  n) x1 x2 x4
def X1_sharesOf (u : gM)  (x1 : Int32) : Option Int64 :=
(X1_sharesOf_l5 u fz x1 0 0)
set_option maxRecDepth 20000 in
theorem v_X1_sharesOf_b47 {κ : gK} {B : Nat} {u : gM} (X : gX κ B skC cX1_sharesOf 6 RX1 (some .long) 1 24) {k5 : Int32 → Int64 → Int32 → Option Int64} (ih5 : ∀ (x1 : Int32) (x2 : Int64) (x4 : Int32) (w : Int64), k5 x1 x2 x4 = some w → gV κ B skC 6 ((some (.long w)), u) 5 [some (.ref (B + 136)), some (.int x1), some (.long x2), none, some (.int x4), none] [] u) {x1 : Int32} {x2 : Int64} {x4 : Int32} {w : Int64} (hM : X1_sharesOf_b47 u k5 x1 x2 x4 = some w) : gV κ B skC 6 ((some (.long w)), u) 47 [some (.ref (B + 136)), some (.int x1), some (.long x2), none, some (.int x4), none] [] u := by
  unfold X1_sharesOf_b47 at hM
  refine g_iinc (d := 1) X [some (.ref (B + 136)), some (.int x1), some (.long x2), none, some (.int (x4 + 1)), none] dX1_sharesOf_47 (by decide) rfl (by decide) rfl ?_
  refine g_goto (tgt := 5) X dX1_sharesOf_50 (by decide) ?_
  refine g_mk [true, true, true, false, true, false] [some (.ref (B + 136)), some (.int x1), some (.long x2), none, some (.int (x4 + 1)), none] rfl ?_
  exact ih5 x1 x2 (x4 + 1) _ hM
set_option maxRecDepth 20000 in
theorem v_X1_sharesOf_b5 {κ : gK} {B : Nat} {u : gM} (X : gX κ B skC cX1_sharesOf 6 RX1 (some .long) 1 24) {k5 : Int32 → Int64 → Int32 → Option Int64} (ih5 : ∀ (x1 : Int32) (x2 : Int64) (x4 : Int32) (w : Int64), k5 x1 x2 x4 = some w → gV κ B skC 6 ((some (.long w)), u) 5 [some (.ref (B + 136)), some (.int x1), some (.long x2), none, some (.int x4), none] [] u) {x1 : Int32} {x2 : Int64} {x4 : Int32} {w : Int64} (hM : X1_sharesOf_b5 u k5 x1 x2 x4 = some w) : gV κ B skC 6 ((some (.long w)), u) 5 [some (.ref (B + 136)), some (.int x1), some (.long x2), none, some (.int x4), none] [] u := by
  unfold X1_sharesOf_b5 at hM
  refine g_iload X dX1_sharesOf_5 rfl ?_
  refine g_aload_n X dX1_sharesOf_7 rfl ?_
  refine g_getR X fX1_32 cC_136 rfl dX1_sharesOf_8 ?_
  refine g_getI X fX1_82 cC_3 rfl dX1_sharesOf_11 ?_
  refine g_icmp_ge (tgt := 53) X dX1_sharesOf_14 (by decide) (fun c14 => ?_) (fun c14 => ?_)
  · rw [if_pos c14] at hM
    refine g_lload_n X dX1_sharesOf_53 rfl ?_
    cases hM
    exact g_lret X dX1_sharesOf_54
  · rw [if_neg c14] at hM
    refine g_aload_n X dX1_sharesOf_17 rfl ?_
    refine g_getR X fX1_32 cC_136 rfl dX1_sharesOf_18 ?_
    refine g_iload X dX1_sharesOf_21 rfl ?_
    refine g_iload_n X dX1_sharesOf_23 rfl ?_
    obtain ⟨w24, e24, hM⟩ := bind_of hM
    refine g_callVi X (fun B adK => [.int x4, .int x1]) (s_X10_ownerOf e24) cvX1_94 cC_3 rfl rfl (Nat.le_of_ble_eq_true rfl) ⟨by decide, by decide⟩ dX1_sharesOf_24 ?_
    refine g_istore X [some (.ref (B + 136)), some (.int x1), some (.long x2), none, some (.int x4), some (.int w24)] dX1_sharesOf_27 (by decide) rfl ?_
    refine g_iload X dX1_sharesOf_29 rfl ?_
    refine g_iconst X (v := (-1)) dX1_sharesOf_31 (by decide) ?_
    refine g_icmp_eq (tgt := 47) X dX1_sharesOf_32 (by decide) (fun c32 => ?_) (fun c32 => ?_)
    · rw [if_pos c32] at hM
      refine g_mk [true, true, true, false, true, false] [some (.ref (B + 136)), some (.int x1), some (.long x2), none, some (.int x4), none] rfl ?_
      exact v_X1_sharesOf_b47 X ih5 hM
    · rw [if_neg c32] at hM
      refine g_lload_n X dX1_sharesOf_35 rfl ?_
      refine g_aload_n X dX1_sharesOf_36 rfl ?_
      refine g_iload X dX1_sharesOf_37 rfl ?_
      refine g_iload X dX1_sharesOf_39 rfl ?_
      obtain ⟨w41, e41, hM⟩ := bind_of hM
      refine g_callVi X (fun B adK => [.int x4, .int w24]) (s_X1_share e41) cvX1_100 cC_136 rfl rfl (Nat.le_of_ble_eq_true rfl) ⟨by decide, by decide⟩ dX1_sharesOf_41 ?_
      refine g_i2l X dX1_sharesOf_44 ?_
      refine g_ladd X dX1_sharesOf_45 ?_
      refine g_lstore_n X [some (.ref (B + 136)), some (.int x1), some (.long (x2 + w41.toInt64)), none, some (.int x4), some (.int w24)] dX1_sharesOf_46 (by decide) rfl ?_
      refine g_mk [true, true, true, false, true, false] [some (.ref (B + 136)), some (.int x1), some (.long (x2 + w41.toInt64)), none, some (.int x4), none] rfl ?_
      exact v_X1_sharesOf_b47 X ih5 hM
theorem v_X1_sharesOf_l5 {κ : gK} {B : Nat} {u : gM} (X : gX κ B skC cX1_sharesOf 6 RX1 (some .long) 1 24)   : ∀ (n : Nat) {x1 : Int32} {x2 : Int64} {x4 : Int32} {w : Int64} (hM : X1_sharesOf_l5 u  n x1 x2 x4 = some w), gV κ B skC 6 ((some (.long w)), u) 5 [some (.ref (B + 136)), some (.int x1), some (.long x2), none, some (.int x4), none] [] u := by
  intro n
  induction n with
  | zero => intro x1 x2 x4 w hM; exact nomatch (show (none : Option Int64) = some w from hM)
  | succ n ihn => intro x1 x2 x4 w hM; exact v_X1_sharesOf_b5 X  (fun x1 x2 x4 w h => ihn h) hM
set_option maxRecDepth 20000 in
theorem v_X1_sharesOf {κ : gK} {B : Nat} {u : gM} (X : gX κ B skC cX1_sharesOf 6 RX1 (some .long) 1 24)   {x1 : Int32} {w : Int64} (hM : X1_sharesOf u x1 = some w) : gV κ B skC 6 ((some (.long w)), u) 0 [some (.ref (B + 136)), some (.int x1), none, none, none, none] [] u := by
  unfold X1_sharesOf at hM
  refine g_lconst (v := 0) X dX1_sharesOf_0 (by decide) ?_
  refine g_lstore_n X [some (.ref (B + 136)), some (.int x1), some (.long 0), none, none, none] dX1_sharesOf_1 (by decide) rfl ?_
  refine g_iconst X (v := 0) dX1_sharesOf_2 (by decide) ?_
  refine g_istore X [some (.ref (B + 136)), some (.int x1), some (.long 0), none, some (.int 0), none] dX1_sharesOf_3 (by decide) rfl ?_
  refine g_mk [true, true, true, false, true, false] [some (.ref (B + 136)), some (.int x1), some (.long 0), none, some (.int 0), none] rfl ?_
  exact v_X1_sharesOf_l5 X  fz hM
theorem s_X1_sharesOf {x1 : Int32} {u : gM} {w : Int64} (hM : X1_sharesOf u x1 = some w) : gMet skC yX1_sharesOf cX1_sharesOf 6 (some .long) 1 24 (fun B adK => [.ref (B + 136), .int x1]) u ((fun _ => some (.long w)), u) := by
  refine gMet.of (by decide) (fun _ _ => Nat.le_of_ble_eq_true rfl) (fun κ B X => ?_)
  have X : gX κ B skC cX1_sharesOf 6 RX1 (some .long) 1 24 := X
  refine g_mk [true, true, false, false, false, false] [some (.ref (B + 136)), some (.int x1), none, none, none, none] rfl ?_
  exact v_X1_sharesOf X  hM

/-! CoverDesk$Cover.insuredOf(I)J -/
theorem dX1_insuredOf_0 : decode cX1_insuredOf 0 = .ok (.lconst 0, 1) := by decide +kernel
theorem dX1_insuredOf_1 : decode cX1_insuredOf 1 = .ok (.lstore_n 2, 1) := by decide +kernel
theorem dX1_insuredOf_2 : decode cX1_insuredOf 2 = .ok (.iconst 0, 1) := by decide +kernel
theorem dX1_insuredOf_3 : decode cX1_insuredOf 3 = .ok (.istore 4, 2) := by decide +kernel
theorem dX1_insuredOf_5 : decode cX1_insuredOf 5 = .ok (.iload 4, 2) := by decide +kernel
theorem dX1_insuredOf_7 : decode cX1_insuredOf 7 = .ok (.aload_n 0, 1) := by decide +kernel
theorem dX1_insuredOf_8 : decode cX1_insuredOf 8 = .ok (.getfield 32, 3) := by decide +kernel
theorem dX1_insuredOf_11 : decode cX1_insuredOf 11 = .ok (.getfield 82, 3) := by decide +kernel
theorem dX1_insuredOf_14 : decode cX1_insuredOf 14 = .ok (.if_icmp .ge 43, 3) := by decide +kernel
theorem dX1_insuredOf_17 : decode cX1_insuredOf 17 = .ok (.aload_n 0, 1) := by decide +kernel
theorem dX1_insuredOf_18 : decode cX1_insuredOf 18 = .ok (.getfield 32, 3) := by decide +kernel
theorem dX1_insuredOf_21 : decode cX1_insuredOf 21 = .ok (.iload 4, 2) := by decide +kernel
theorem dX1_insuredOf_23 : decode cX1_insuredOf 23 = .ok (.iload_n 1, 1) := by decide +kernel
theorem dX1_insuredOf_24 : decode cX1_insuredOf 24 = .ok (.invokevirtual 94, 3) := by decide +kernel
theorem dX1_insuredOf_27 : decode cX1_insuredOf 27 = .ok (.istore 5, 2) := by decide +kernel
theorem dX1_insuredOf_29 : decode cX1_insuredOf 29 = .ok (.iload 5, 2) := by decide +kernel
theorem dX1_insuredOf_31 : decode cX1_insuredOf 31 = .ok (.iconst (-1), 1) := by decide +kernel
theorem dX1_insuredOf_32 : decode cX1_insuredOf 32 = .ok (.if_icmp .eq 19, 3) := by decide +kernel
theorem dX1_insuredOf_35 : decode cX1_insuredOf 35 = .ok (.lload_n 2, 1) := by decide +kernel
theorem dX1_insuredOf_36 : decode cX1_insuredOf 36 = .ok (.aload_n 0, 1) := by decide +kernel
theorem dX1_insuredOf_37 : decode cX1_insuredOf 37 = .ok (.getfield 9, 3) := by decide +kernel
theorem dX1_insuredOf_40 : decode cX1_insuredOf 40 = .ok (.iload 4, 2) := by decide +kernel
theorem dX1_insuredOf_42 : decode cX1_insuredOf 42 = .ok (.iconst 4, 1) := by decide +kernel
theorem dX1_insuredOf_43 : decode cX1_insuredOf 43 = .ok (.imul, 1) := by decide +kernel
theorem dX1_insuredOf_44 : decode cX1_insuredOf 44 = .ok (.iload 5, 2) := by decide +kernel
theorem dX1_insuredOf_46 : decode cX1_insuredOf 46 = .ok (.iadd, 1) := by decide +kernel
theorem dX1_insuredOf_47 : decode cX1_insuredOf 47 = .ok (.iaload, 1) := by decide +kernel
theorem dX1_insuredOf_48 : decode cX1_insuredOf 48 = .ok (.i2l, 1) := by decide +kernel
theorem dX1_insuredOf_49 : decode cX1_insuredOf 49 = .ok (.ladd, 1) := by decide +kernel
theorem dX1_insuredOf_50 : decode cX1_insuredOf 50 = .ok (.lstore_n 2, 1) := by decide +kernel
theorem dX1_insuredOf_51 : decode cX1_insuredOf 51 = .ok (.iinc 4 1, 3) := by decide +kernel
theorem dX1_insuredOf_54 : decode cX1_insuredOf 54 = .ok (.goto (-49), 3) := by decide +kernel
theorem dX1_insuredOf_57 : decode cX1_insuredOf 57 = .ok (.lload_n 2, 1) := by decide +kernel
theorem dX1_insuredOf_58 : decode cX1_insuredOf 58 = .ok (.lreturn, 1) := by decide +kernel
def X1_insuredOf_b51 (u : gM) (k5 : Int32 → Int64 → Int32 → Option Int64) (x1 : Int32) (x2 : Int64) (x4 : Int32) : Option Int64 :=
(k5 x1 x2 (x4 + 1))
def X1_insuredOf_b5 (u : gM) (k5 : Int32 → Int64 → Int32 → Option Int64) (x1 : Int32) (x2 : Int64) (x4 : Int32) : Option Int64 :=
(if (u.1 3 2) ≤ x4 then some x2
  else ((X10_ownerOf u 3 x4 x1).bind fun w24 => (if w24 = (-1) then (X1_insuredOf_b51 u k5 x1 x2 x4)
    else ((aI skC u 137 ((x4 * 4) + w24)).bind fun v47 => (X1_insuredOf_b51 u k5 x1 (x2 + v47.toInt64) x4)))))
def X1_insuredOf_l5 (u : gM)  : Nat → Int32 → Int64 → Int32 → Option Int64
  | 0, _, _, _ => none
  | n + 1, x1, x2, x4 => X1_insuredOf_b5 u  (X1_insuredOf_l5 u  n) x1 x2 x4
def X1_insuredOf (u : gM)  (x1 : Int32) : Option Int64 :=
(X1_insuredOf_l5 u fz x1 0 0)
set_option maxRecDepth 20000 in
theorem v_X1_insuredOf_b51 {κ : gK} {B : Nat} {u : gM} (X : gX κ B skC cX1_insuredOf 6 RX1 (some .long) 1 24) {k5 : Int32 → Int64 → Int32 → Option Int64} (ih5 : ∀ (x1 : Int32) (x2 : Int64) (x4 : Int32) (w : Int64), k5 x1 x2 x4 = some w → gV κ B skC 6 ((some (.long w)), u) 5 [some (.ref (B + 136)), some (.int x1), some (.long x2), none, some (.int x4), none] [] u) {x1 : Int32} {x2 : Int64} {x4 : Int32} {w : Int64} (hM : X1_insuredOf_b51 u k5 x1 x2 x4 = some w) : gV κ B skC 6 ((some (.long w)), u) 51 [some (.ref (B + 136)), some (.int x1), some (.long x2), none, some (.int x4), none] [] u := by
  unfold X1_insuredOf_b51 at hM
  refine g_iinc (d := 1) X [some (.ref (B + 136)), some (.int x1), some (.long x2), none, some (.int (x4 + 1)), none] dX1_insuredOf_51 (by decide) rfl (by decide) rfl ?_
  refine g_goto (tgt := 5) X dX1_insuredOf_54 (by decide) ?_
  refine g_mk [true, true, true, false, true, false] [some (.ref (B + 136)), some (.int x1), some (.long x2), none, some (.int (x4 + 1)), none] rfl ?_
  exact ih5 x1 x2 (x4 + 1) _ hM
set_option maxRecDepth 20000 in
theorem v_X1_insuredOf_b5 {κ : gK} {B : Nat} {u : gM} (X : gX κ B skC cX1_insuredOf 6 RX1 (some .long) 1 24) {k5 : Int32 → Int64 → Int32 → Option Int64} (ih5 : ∀ (x1 : Int32) (x2 : Int64) (x4 : Int32) (w : Int64), k5 x1 x2 x4 = some w → gV κ B skC 6 ((some (.long w)), u) 5 [some (.ref (B + 136)), some (.int x1), some (.long x2), none, some (.int x4), none] [] u) {x1 : Int32} {x2 : Int64} {x4 : Int32} {w : Int64} (hM : X1_insuredOf_b5 u k5 x1 x2 x4 = some w) : gV κ B skC 6 ((some (.long w)), u) 5 [some (.ref (B + 136)), some (.int x1), some (.long x2), none, some (.int x4), none] [] u := by
  unfold X1_insuredOf_b5 at hM
  refine g_iload X dX1_insuredOf_5 rfl ?_
  refine g_aload_n X dX1_insuredOf_7 rfl ?_
  refine g_getR X fX1_32 cC_136 rfl dX1_insuredOf_8 ?_
  refine g_getI X fX1_82 cC_3 rfl dX1_insuredOf_11 ?_
  refine g_icmp_ge (tgt := 57) X dX1_insuredOf_14 (by decide) (fun c14 => ?_) (fun c14 => ?_)
  · rw [if_pos c14] at hM
    refine g_lload_n X dX1_insuredOf_57 rfl ?_
    cases hM
    exact g_lret X dX1_insuredOf_58
  · rw [if_neg c14] at hM
    refine g_aload_n X dX1_insuredOf_17 rfl ?_
    refine g_getR X fX1_32 cC_136 rfl dX1_insuredOf_18 ?_
    refine g_iload X dX1_insuredOf_21 rfl ?_
    refine g_iload_n X dX1_insuredOf_23 rfl ?_
    obtain ⟨w24, e24, hM⟩ := bind_of hM
    refine g_callVi X (fun B adK => [.int x4, .int x1]) (s_X10_ownerOf e24) cvX1_94 cC_3 rfl rfl (Nat.le_of_ble_eq_true rfl) ⟨by decide, by decide⟩ dX1_insuredOf_24 ?_
    refine g_istore X [some (.ref (B + 136)), some (.int x1), some (.long x2), none, some (.int x4), some (.int w24)] dX1_insuredOf_27 (by decide) rfl ?_
    refine g_iload X dX1_insuredOf_29 rfl ?_
    refine g_iconst X (v := (-1)) dX1_insuredOf_31 (by decide) ?_
    refine g_icmp_eq (tgt := 51) X dX1_insuredOf_32 (by decide) (fun c32 => ?_) (fun c32 => ?_)
    · rw [if_pos c32] at hM
      refine g_mk [true, true, true, false, true, false] [some (.ref (B + 136)), some (.int x1), some (.long x2), none, some (.int x4), none] rfl ?_
      exact v_X1_insuredOf_b51 X ih5 hM
    · rw [if_neg c32] at hM
      refine g_lload_n X dX1_insuredOf_35 rfl ?_
      refine g_aload_n X dX1_insuredOf_36 rfl ?_
      refine g_getR X fX1_9 cC_136 rfl dX1_insuredOf_37 ?_
      refine g_iload X dX1_insuredOf_40 rfl ?_
      refine g_iconst X (v := 4) dX1_insuredOf_42 (by decide) ?_
      refine g_imul X dX1_insuredOf_43 ?_
      refine g_iload X dX1_insuredOf_44 rfl ?_
      refine g_iadd X dX1_insuredOf_46 ?_
      obtain ⟨v47, e47, hM⟩ := bind_of hM
      refine g_iaload X e47 dX1_insuredOf_47 ?_
      refine g_i2l X dX1_insuredOf_48 ?_
      refine g_ladd X dX1_insuredOf_49 ?_
      refine g_lstore_n X [some (.ref (B + 136)), some (.int x1), some (.long (x2 + v47.toInt64)), none, some (.int x4), some (.int w24)] dX1_insuredOf_50 (by decide) rfl ?_
      refine g_mk [true, true, true, false, true, false] [some (.ref (B + 136)), some (.int x1), some (.long (x2 + v47.toInt64)), none, some (.int x4), none] rfl ?_
      exact v_X1_insuredOf_b51 X ih5 hM
theorem v_X1_insuredOf_l5 {κ : gK} {B : Nat} {u : gM} (X : gX κ B skC cX1_insuredOf 6 RX1 (some .long) 1 24)   : ∀ (n : Nat) {x1 : Int32} {x2 : Int64} {x4 : Int32} {w : Int64} (hM : X1_insuredOf_l5 u  n x1 x2 x4 = some w), gV κ B skC 6 ((some (.long w)), u) 5 [some (.ref (B + 136)), some (.int x1), some (.long x2), none, some (.int x4), none] [] u := by
  intro n
  induction n with
  | zero => intro x1 x2 x4 w hM; exact nomatch (show (none : Option Int64) = some w from hM)
  | succ n ihn => intro x1 x2 x4 w hM; exact v_X1_insuredOf_b5 X  (fun x1 x2 x4 w h => ihn h) hM
set_option maxRecDepth 20000 in
theorem v_X1_insuredOf {κ : gK} {B : Nat} {u : gM} (X : gX κ B skC cX1_insuredOf 6 RX1 (some .long) 1 24)   {x1 : Int32} {w : Int64} (hM : X1_insuredOf u x1 = some w) : gV κ B skC 6 ((some (.long w)), u) 0 [some (.ref (B + 136)), some (.int x1), none, none, none, none] [] u := by
  unfold X1_insuredOf at hM
  refine g_lconst (v := 0) X dX1_insuredOf_0 (by decide) ?_
  refine g_lstore_n X [some (.ref (B + 136)), some (.int x1), some (.long 0), none, none, none] dX1_insuredOf_1 (by decide) rfl ?_
  refine g_iconst X (v := 0) dX1_insuredOf_2 (by decide) ?_
  refine g_istore X [some (.ref (B + 136)), some (.int x1), some (.long 0), none, some (.int 0), none] dX1_insuredOf_3 (by decide) rfl ?_
  refine g_mk [true, true, true, false, true, false] [some (.ref (B + 136)), some (.int x1), some (.long 0), none, some (.int 0), none] rfl ?_
  exact v_X1_insuredOf_l5 X  fz hM
theorem s_X1_insuredOf {x1 : Int32} {u : gM} {w : Int64} (hM : X1_insuredOf u x1 = some w) : gMet skC yX1_insuredOf cX1_insuredOf 6 (some .long) 1 24 (fun B adK => [.ref (B + 136), .int x1]) u ((fun _ => some (.long w)), u) := by
  refine gMet.of (by decide) (fun _ _ => Nat.le_of_ble_eq_true rfl) (fun κ B X => ?_)
  have X : gX κ B skC cX1_insuredOf 6 RX1 (some .long) 1 24 := X
  refine g_mk [true, true, false, false, false, false] [some (.ref (B + 136)), some (.int x1), none, none, none, none] rfl ?_
  exact v_X1_insuredOf X  hM

/-! CoverDesk$Cover.openOf(I)J -/
theorem dX1_openOf_0 : decode cX1_openOf 0 = .ok (.aload_n 0, 1) := by decide +kernel
theorem dX1_openOf_1 : decode cX1_openOf 1 = .ok (.iload_n 1, 1) := by decide +kernel
theorem dX1_openOf_2 : decode cX1_openOf 2 = .ok (.invokevirtual 162, 3) := by decide +kernel
theorem dX1_openOf_5 : decode cX1_openOf 5 = .ok (.aload_n 0, 1) := by decide +kernel
theorem dX1_openOf_6 : decode cX1_openOf 6 = .ok (.iload_n 1, 1) := by decide +kernel
theorem dX1_openOf_7 : decode cX1_openOf 7 = .ok (.invokevirtual 166, 3) := by decide +kernel
theorem dX1_openOf_10 : decode cX1_openOf 10 = .ok (.lsub, 1) := by decide +kernel
theorem dX1_openOf_11 : decode cX1_openOf 11 = .ok (.lreturn, 1) := by decide +kernel
def X1_openOf (u : gM)  (x1 : Int32) : Option Int64 :=
((X1_sharesOf u x1).bind fun w2 => ((X1_insuredOf u x1).bind fun w7 => some (w2 - w7)))
set_option maxRecDepth 20000 in
theorem v_X1_openOf {κ : gK} {B : Nat} {u : gM} (X : gX κ B skC cX1_openOf 2 RX1 (some .long) 2 49)   {x1 : Int32} {w : Int64} (hM : X1_openOf u x1 = some w) : gV κ B skC 2 ((some (.long w)), u) 0 [some (.ref (B + 136)), some (.int x1)] [] u := by
  unfold X1_openOf at hM
  refine g_aload_n X dX1_openOf_0 rfl ?_
  refine g_iload_n X dX1_openOf_1 rfl ?_
  obtain ⟨w2, e2, hM⟩ := bind_of hM
  refine g_callVl X (fun B adK => [.int x1]) (s_X1_sharesOf e2) cvX1_162 cC_136 rfl rfl (Nat.le_of_ble_eq_true rfl) ⟨by decide, by decide⟩ dX1_openOf_2 ?_
  refine g_aload_n X dX1_openOf_5 rfl ?_
  refine g_iload_n X dX1_openOf_6 rfl ?_
  obtain ⟨w7, e7, hM⟩ := bind_of hM
  refine g_callVl X (fun B adK => [.int x1]) (s_X1_insuredOf e7) cvX1_166 cC_136 rfl rfl (Nat.le_of_ble_eq_true rfl) ⟨by decide, by decide⟩ dX1_openOf_7 ?_
  refine g_lsub X dX1_openOf_10 ?_
  cases hM
  exact g_lret X dX1_openOf_11
theorem s_X1_openOf {x1 : Int32} {u : gM} {w : Int64} (hM : X1_openOf u x1 = some w) : gMet skC yX1_openOf cX1_openOf 2 (some .long) 2 49 (fun B adK => [.ref (B + 136), .int x1]) u ((fun _ => some (.long w)), u) := by
  refine gMet.of (by decide) (fun _ _ => Nat.le_of_ble_eq_true rfl) (fun κ B X => ?_)
  have X : gX κ B skC cX1_openOf 2 RX1 (some .long) 2 49 := X
  refine g_mk [true, true] [some (.ref (B + 136)), some (.int x1)] rfl ?_
  exact v_X1_openOf X  hM

/-! CoverDesk.of(III)J -/
theorem dX11_of_0 : decode cX11_of 0 = .ok (.aload_n 0, 1) := by decide +kernel
theorem dX11_of_1 : decode cX11_of 1 = .ok (.getfield 19, 3) := by decide +kernel
theorem dX11_of_4 : decode cX11_of 4 = .ok (.iload_n 1, 1) := by decide +kernel
theorem dX11_of_5 : decode cX11_of 5 = .ok (.invokevirtual 262, 3) := by decide +kernel
theorem dX11_of_8 : decode cX11_of 8 = .ok (.ifCond .eq 10, 3) := by decide +kernel
theorem dX11_of_11 : decode cX11_of 11 = .ok (.iload_n 2, 1) := by decide +kernel
theorem dX11_of_12 : decode cX11_of 12 = .ok (.invokestatic 265, 3) := by decide +kernel
theorem dX11_of_15 : decode cX11_of 15 = .ok (.ifCond .ne 7, 3) := by decide +kernel
theorem dX11_of_18 : decode cX11_of 18 = .ok (.ldc2_w 250, 3) := by decide +kernel
theorem dX11_of_21 : decode cX11_of 21 = .ok (.lreturn, 1) := by decide +kernel
theorem dX11_of_22 : decode cX11_of 22 = .ok (.aload_n 0, 1) := by decide +kernel
theorem dX11_of_23 : decode cX11_of 23 = .ok (.getfield 60, 3) := by decide +kernel
theorem dX11_of_26 : decode cX11_of 26 = .ok (.iload_n 2, 1) := by decide +kernel
theorem dX11_of_27 : decode cX11_of 27 = .ok (.invokevirtual 210, 3) := by decide +kernel
theorem dX11_of_30 : decode cX11_of 30 = .ok (.iload_n 3, 1) := by decide +kernel
theorem dX11_of_31 : decode cX11_of 31 = .ok (.tableswitch 52 0 2 #[25, 34, 43], 25) := by decide +kernel
theorem dX11_of_56 : decode cX11_of 56 = .ok (.aload_n 0, 1) := by decide +kernel
theorem dX11_of_57 : decode cX11_of 57 = .ok (.getfield 60, 3) := by decide +kernel
theorem dX11_of_60 : decode cX11_of 60 = .ok (.iload_n 1, 1) := by decide +kernel
theorem dX11_of_61 : decode cX11_of 61 = .ok (.invokevirtual 295, 3) := by decide +kernel
theorem dX11_of_64 : decode cX11_of 64 = .ok (.lreturn, 1) := by decide +kernel
theorem dX11_of_65 : decode cX11_of 65 = .ok (.aload_n 0, 1) := by decide +kernel
theorem dX11_of_66 : decode cX11_of 66 = .ok (.getfield 60, 3) := by decide +kernel
theorem dX11_of_69 : decode cX11_of 69 = .ok (.iload_n 1, 1) := by decide +kernel
theorem dX11_of_70 : decode cX11_of 70 = .ok (.invokevirtual 298, 3) := by decide +kernel
theorem dX11_of_73 : decode cX11_of 73 = .ok (.lreturn, 1) := by decide +kernel
theorem dX11_of_74 : decode cX11_of 74 = .ok (.aload_n 0, 1) := by decide +kernel
theorem dX11_of_75 : decode cX11_of 75 = .ok (.getfield 60, 3) := by decide +kernel
theorem dX11_of_78 : decode cX11_of 78 = .ok (.iload_n 1, 1) := by decide +kernel
theorem dX11_of_79 : decode cX11_of 79 = .ok (.invokevirtual 301, 3) := by decide +kernel
theorem dX11_of_82 : decode cX11_of 82 = .ok (.lreturn, 1) := by decide +kernel
theorem dX11_of_83 : decode cX11_of 83 = .ok (.ldc2_w 250, 3) := by decide +kernel
theorem dX11_of_86 : decode cX11_of 86 = .ok (.lreturn, 1) := by decide +kernel
def X11_of_b18   (u : gM) : Option (Int64 × gM) :=
some ((-1), u)
def X11_of  (x1 : Int32) (x2 : Int32) (x3 : Int32) (u : gM) : Option (Int64 × gM) :=
((X10_isPerson u 3 x1).bind fun w5 => (if w5 = 0 then (X11_of_b18 u)
  else ((X11_isMonth u x2).bind fun w12 => (if w12 = 0 then (X11_of_b18 u)
    else ((X1_insure x2 u).bind fun w27 => (if x3 = 0 then ((X1_sharesOf w27 x1).bind fun w61 => some (w61, w27))
      else (if x3 = 1 then ((X1_insuredOf w27 x1).bind fun w70 => some (w70, w27))
      else (if x3 = 2 then ((X1_openOf w27 x1).bind fun w79 => some (w79, w27))
      else some ((-1), w27)))))))))
set_option maxRecDepth 20000 in
theorem v_X11_of_b18 {κ : gK} {B : Nat} {u : gM} (X : gX κ B skC cX11_of 4 RX11 (some .long) 5 122)    {w : (Int64 × gM)} (hM : X11_of_b18 u = some w) : gV κ B skC 4 ((some (.long w.1)), w.2) 18 [none, none, none, none] [] u := by
  unfold X11_of_b18 at hM
  refine g_ldc2 (v := (-1)) X m_50_11 dX11_of_18 ?_
  cases hM
  exact g_lret X dX11_of_21
set_option maxRecDepth 20000 in
theorem v_X11_of {κ : gK} {B : Nat} {u : gM} (X : gX κ B skC cX11_of 4 RX11 (some .long) 5 122)   {x1 : Int32} {x2 : Int32} {x3 : Int32} {w : (Int64 × gM)} (hM : X11_of x1 x2 x3 u = some w) : gV κ B skC 4 ((some (.long w.1)), w.2) 0 [some (.ref (B + 0)), some (.int x1), some (.int x2), some (.int x3)] [] u := by
  unfold X11_of at hM
  refine g_aload_n X dX11_of_0 rfl ?_
  refine g_getR X fX11_19 cC_0 rfl dX11_of_1 ?_
  refine g_iload_n X dX11_of_4 rfl ?_
  obtain ⟨w5, e5, hM⟩ := bind_of hM
  refine g_callVi X (fun B adK => [.int x1]) (s_X10_isPerson e5) cvX11_262 cC_3 rfl rfl (Nat.le_of_ble_eq_true rfl) ⟨by decide, by decide⟩ dX11_of_5 ?_
  refine g_if_eq (tgt := 18) X dX11_of_8 (by decide) (fun c8 => ?_) (fun c8 => ?_)
  · rw [if_pos c8] at hM
    refine g_mk [false, false, false, false] [none, none, none, none] rfl ?_
    exact v_X11_of_b18 X  hM
  · rw [if_neg c8] at hM
    refine g_iload_n X dX11_of_11 rfl ?_
    obtain ⟨w12, e12, hM⟩ := bind_of hM
    refine g_callSi X (fun B adK => [.int x2]) (s_X11_isMonth e12) cvX11_265 rfl rfl (Nat.le_of_ble_eq_true rfl) ⟨by decide, by decide⟩ dX11_of_12 ?_
    refine g_if_ne (tgt := 22) X dX11_of_15 (by decide) (fun c15 => ?_) (fun c15 => ?_)
    · rw [if_neg c15] at hM
      refine g_aload_n X dX11_of_22 rfl ?_
      refine g_getR X fX11_60 cC_0 rfl dX11_of_23 ?_
      refine g_iload_n X dX11_of_26 rfl ?_
      obtain ⟨w27, e27, hM⟩ := bind_of hM
      refine g_callVv X (fun B adK => [.int x2]) (s_X1_insure e27) cvX11_210 cC_136 rfl rfl (Nat.le_of_ble_eq_true rfl) ⟨by decide, by decide⟩ dX11_of_27 ?_
      refine g_iload_n X dX11_of_30 rfl ?_
      by_cases h31_0 : x3 = 0
      · rw [if_pos h31_0] at hM
        refine g_tabIn (tgt := 56) (off := 25) X 0 h31_0 dX11_of_31 (by decide) (by decide) (by decide) (by decide) ?_
        refine g_aload_n X dX11_of_56 rfl ?_
        refine g_getR X fX11_60 cC_0 rfl dX11_of_57 ?_
        refine g_iload_n X dX11_of_60 rfl ?_
        obtain ⟨w61, e61, hM⟩ := bind_of hM
        refine g_callVl X (fun B adK => [.int x1]) (s_X1_sharesOf e61) cvX11_295 cC_136 rfl rfl (Nat.le_of_ble_eq_true rfl) ⟨by decide, by decide⟩ dX11_of_61 ?_
        cases hM
        exact g_lret X dX11_of_64
      rw [if_neg h31_0] at hM
      by_cases h31_1 : x3 = 1
      · rw [if_pos h31_1] at hM
        refine g_tabIn (tgt := 65) (off := 34) X 1 h31_1 dX11_of_31 (by decide) (by decide) (by decide) (by decide) ?_
        refine g_aload_n X dX11_of_65 rfl ?_
        refine g_getR X fX11_60 cC_0 rfl dX11_of_66 ?_
        refine g_iload_n X dX11_of_69 rfl ?_
        obtain ⟨w70, e70, hM⟩ := bind_of hM
        refine g_callVl X (fun B adK => [.int x1]) (s_X1_insuredOf e70) cvX11_298 cC_136 rfl rfl (Nat.le_of_ble_eq_true rfl) ⟨by decide, by decide⟩ dX11_of_70 ?_
        cases hM
        exact g_lret X dX11_of_73
      rw [if_neg h31_1] at hM
      by_cases h31_2 : x3 = 2
      · rw [if_pos h31_2] at hM
        refine g_tabIn (tgt := 74) (off := 43) X 2 h31_2 dX11_of_31 (by decide) (by decide) (by decide) (by decide) ?_
        refine g_aload_n X dX11_of_74 rfl ?_
        refine g_getR X fX11_60 cC_0 rfl dX11_of_75 ?_
        refine g_iload_n X dX11_of_78 rfl ?_
        obtain ⟨w79, e79, hM⟩ := bind_of hM
        refine g_callVl X (fun B adK => [.int x1]) (s_X1_openOf e79) cvX11_301 cC_136 rfl rfl (Nat.le_of_ble_eq_true rfl) ⟨by decide, by decide⟩ dX11_of_79 ?_
        cases hM
        exact g_lret X dX11_of_82
      rw [if_neg h31_2] at hM
      refine g_tabOut (tgt := 83) X dX11_of_31 (by have q0 := lv_neT (a := 0) h31_0 (by decide); have q1 := lv_neT (a := 1) h31_1 (by decide); have q2 := lv_neT (a := 2) h31_2 (by decide); omega) (by decide) ?_
      refine g_ldc2 (v := (-1)) X m_50_11 dX11_of_83 ?_
      cases hM
      exact g_lret X dX11_of_86
    · rw [if_pos c15] at hM
      refine g_mk [false, false, false, false] [none, none, none, none] rfl ?_
      exact v_X11_of_b18 X  hM
theorem s_X11_of {x1 : Int32} {x2 : Int32} {x3 : Int32} {u : gM} {w : (Int64 × gM)} (hM : X11_of x1 x2 x3 u = some w) : gMet skC yX11_of cX11_of 4 (some .long) 5 122 (fun B adK => [.ref (B + 0), .int x1, .int x2, .int x3]) u ((fun _ => some (.long w.1)), w.2) := by
  refine gMet.of (by decide) (fun _ _ => Nat.le_of_ble_eq_true rfl) (fun κ B X => ?_)
  have X : gX κ B skC cX11_of 4 RX11 (some .long) 5 122 := X
  refine g_mk [true, true, true, true] [some (.ref (B + 0)), some (.int x1), some (.int x2), some (.int x3)] rfl ?_
  exact v_X11_of X  hM
theorem fr_X11_of_b18 {S : Nat → Prop} {u0 u : gM}     {w : (Int64 × gM)} (hM : X11_of_b18 u = some w) (h0 : off S u0 u) : off S u0 w.2 := by
  unfold X11_of_b18 at hM
  cases hM
  exact h0
theorem fr_X11_of {S : Nat → Prop} {u0 u : gM} {x1 : Int32} {x2 : Int32} {x3 : Int32} (hs0 : S (rf skC 138 2)) (hs1 : S (rf skC 138 3)) (hs2 : S (rf skC 138 4)) (hs3 : S 137) (hs4 : S 138) (hs5 : S 142) (hs6 : S 143) (hs7 : S 144)   {w : (Int64 × gM)} (hM : X11_of x1 x2 x3 u = some w) (h0 : off S u0 u) : off S u0 w.2 := by
  unfold X11_of at hM
  obtain ⟨w5, e5, hM⟩ := bind_of hM
  by_cases c8 : w5 = 0
  · rw [if_pos c8] at hM
    exact fr_X11_of_b18   hM h0
  · rw [if_neg c8] at hM
    obtain ⟨w12, e12, hM⟩ := bind_of hM
    by_cases c15 : w12 = 0
    · rw [if_pos c15] at hM
      exact fr_X11_of_b18   hM h0
    · rw [if_neg c15] at hM
      obtain ⟨w27, e27, hM⟩ := bind_of hM
      have h0 := fr_X1_insure hs0 hs1 hs2 hs3 hs4 hs5 hs6 hs7 e27 h0
      by_cases h31_0 : x3 = 0
      · rw [if_pos h31_0] at hM
        obtain ⟨w61, e61, hM⟩ := bind_of hM
        cases hM
        exact h0
      rw [if_neg h31_0] at hM
      by_cases h31_1 : x3 = 1
      · rw [if_pos h31_1] at hM
        obtain ⟨w70, e70, hM⟩ := bind_of hM
        cases hM
        exact h0
      rw [if_neg h31_1] at hM
      by_cases h31_2 : x3 = 2
      · rw [if_pos h31_2] at hM
        obtain ⟨w79, e79, hM⟩ := bind_of hM
        cases hM
        exact h0
      rw [if_neg h31_2] at hM
      cases hM
      exact h0
/-! CoverDesk.owner(III)I -/
theorem dX11_owner_0 : decode cX11_owner 0 = .ok (.aload_n 0, 1) := by decide +kernel
theorem dX11_owner_1 : decode cX11_owner 1 = .ok (.getfield 19, 3) := by decide +kernel
theorem dX11_owner_4 : decode cX11_owner 4 = .ok (.iload_n 1, 1) := by decide +kernel
theorem dX11_owner_5 : decode cX11_owner 5 = .ok (.iload_n 2, 1) := by decide +kernel
theorem dX11_owner_6 : decode cX11_owner 6 = .ok (.invokevirtual 219, 3) := by decide +kernel
theorem dX11_owner_9 : decode cX11_owner 9 = .ok (.ifCond .ne 5, 3) := by decide +kernel
theorem dX11_owner_12 : decode cX11_owner 12 = .ok (.iconst (-1), 1) := by decide +kernel
theorem dX11_owner_13 : decode cX11_owner 13 = .ok (.ireturn, 1) := by decide +kernel
theorem dX11_owner_14 : decode cX11_owner 14 = .ok (.iload_n 3, 1) := by decide +kernel
theorem dX11_owner_15 : decode cX11_owner 15 = .ok (.tableswitch 77 0 2 #[25, 39, 49], 25) := by decide +kernel
theorem dX11_owner_40 : decode cX11_owner 40 = .ok (.aload_n 0, 1) := by decide +kernel
theorem dX11_owner_41 : decode cX11_owner 41 = .ok (.getfield 19, 3) := by decide +kernel
theorem dX11_owner_44 : decode cX11_owner 44 = .ok (.getfield 223, 3) := by decide +kernel
theorem dX11_owner_47 : decode cX11_owner 47 = .ok (.iload_n 1, 1) := by decide +kernel
theorem dX11_owner_48 : decode cX11_owner 48 = .ok (.iconst 4, 1) := by decide +kernel
theorem dX11_owner_49 : decode cX11_owner 49 = .ok (.imul, 1) := by decide +kernel
theorem dX11_owner_50 : decode cX11_owner 50 = .ok (.iload_n 2, 1) := by decide +kernel
theorem dX11_owner_51 : decode cX11_owner 51 = .ok (.iadd, 1) := by decide +kernel
theorem dX11_owner_52 : decode cX11_owner 52 = .ok (.iaload, 1) := by decide +kernel
theorem dX11_owner_53 : decode cX11_owner 53 = .ok (.ireturn, 1) := by decide +kernel
theorem dX11_owner_54 : decode cX11_owner 54 = .ok (.aload_n 0, 1) := by decide +kernel
theorem dX11_owner_55 : decode cX11_owner 55 = .ok (.getfield 60, 3) := by decide +kernel
theorem dX11_owner_58 : decode cX11_owner 58 = .ok (.iload_n 1, 1) := by decide +kernel
theorem dX11_owner_59 : decode cX11_owner 59 = .ok (.iload_n 2, 1) := by decide +kernel
theorem dX11_owner_60 : decode cX11_owner 60 = .ok (.invokevirtual 226, 3) := by decide +kernel
theorem dX11_owner_63 : decode cX11_owner 63 = .ok (.ireturn, 1) := by decide +kernel
theorem dX11_owner_64 : decode cX11_owner 64 = .ok (.aload_n 0, 1) := by decide +kernel
theorem dX11_owner_65 : decode cX11_owner 65 = .ok (.getfield 60, 3) := by decide +kernel
theorem dX11_owner_68 : decode cX11_owner 68 = .ok (.aload_n 0, 1) := by decide +kernel
theorem dX11_owner_69 : decode cX11_owner 69 = .ok (.getfield 26, 3) := by decide +kernel
theorem dX11_owner_72 : decode cX11_owner 72 = .ok (.getfield 191, 3) := by decide +kernel
theorem dX11_owner_75 : decode cX11_owner 75 = .ok (.invokevirtual 210, 3) := by decide +kernel
theorem dX11_owner_78 : decode cX11_owner 78 = .ok (.aload_n 0, 1) := by decide +kernel
theorem dX11_owner_79 : decode cX11_owner 79 = .ok (.getfield 60, 3) := by decide +kernel
theorem dX11_owner_82 : decode cX11_owner 82 = .ok (.getfield 229, 3) := by decide +kernel
theorem dX11_owner_85 : decode cX11_owner 85 = .ok (.iload_n 1, 1) := by decide +kernel
theorem dX11_owner_86 : decode cX11_owner 86 = .ok (.iconst 4, 1) := by decide +kernel
theorem dX11_owner_87 : decode cX11_owner 87 = .ok (.imul, 1) := by decide +kernel
theorem dX11_owner_88 : decode cX11_owner 88 = .ok (.iload_n 2, 1) := by decide +kernel
theorem dX11_owner_89 : decode cX11_owner 89 = .ok (.iadd, 1) := by decide +kernel
theorem dX11_owner_90 : decode cX11_owner 90 = .ok (.iaload, 1) := by decide +kernel
theorem dX11_owner_91 : decode cX11_owner 91 = .ok (.ireturn, 1) := by decide +kernel
theorem dX11_owner_92 : decode cX11_owner 92 = .ok (.iconst (-1), 1) := by decide +kernel
theorem dX11_owner_93 : decode cX11_owner 93 = .ok (.ireturn, 1) := by decide +kernel
def X11_owner  (x1 : Int32) (x2 : Int32) (x3 : Int32) (u : gM) : Option (Int32 × gM) :=
((X10_isShare u 3 x1 x2).bind fun w6 => (if w6 = 0 then some ((-1), u)
  else (if x3 = 0 then ((aI skC u 13 ((x1 * 4) + x2)).bind fun v52 => some (v52, u))
    else (if x3 = 1 then ((X1_share u x1 x2).bind fun w60 => some (w60, u))
    else (if x3 = 2 then ((X1_insure (u.1 18 0) u).bind fun w75 => ((aI skC w75 137 ((x1 * 4) + x2)).bind fun v90 => some (v90, w75)))
    else some ((-1), u))))))
set_option maxRecDepth 20000 in
theorem v_X11_owner {κ : gK} {B : Nat} {u : gM} (X : gX κ B skC cX11_owner 4 RX11 (some .int) 5 122)   {x1 : Int32} {x2 : Int32} {x3 : Int32} {w : (Int32 × gM)} (hM : X11_owner x1 x2 x3 u = some w) : gV κ B skC 4 ((some (.int w.1)), w.2) 0 [some (.ref (B + 0)), some (.int x1), some (.int x2), some (.int x3)] [] u := by
  unfold X11_owner at hM
  refine g_aload_n X dX11_owner_0 rfl ?_
  refine g_getR X fX11_19 cC_0 rfl dX11_owner_1 ?_
  refine g_iload_n X dX11_owner_4 rfl ?_
  refine g_iload_n X dX11_owner_5 rfl ?_
  obtain ⟨w6, e6, hM⟩ := bind_of hM
  refine g_callVi X (fun B adK => [.int x1, .int x2]) (s_X10_isShare e6) cvX11_219 cC_3 rfl rfl (Nat.le_of_ble_eq_true rfl) ⟨by decide, by decide⟩ dX11_owner_6 ?_
  refine g_if_ne (tgt := 14) X dX11_owner_9 (by decide) (fun c9 => ?_) (fun c9 => ?_)
  · rw [if_neg c9] at hM
    refine g_iload_n X dX11_owner_14 rfl ?_
    by_cases h15_0 : x3 = 0
    · rw [if_pos h15_0] at hM
      refine g_tabIn (tgt := 40) (off := 25) X 0 h15_0 dX11_owner_15 (by decide) (by decide) (by decide) (by decide) ?_
      refine g_aload_n X dX11_owner_40 rfl ?_
      refine g_getR X fX11_19 cC_0 rfl dX11_owner_41 ?_
      refine g_getR X fX11_223 cC_3 rfl dX11_owner_44 ?_
      refine g_iload_n X dX11_owner_47 rfl ?_
      refine g_iconst X (v := 4) dX11_owner_48 (by decide) ?_
      refine g_imul X dX11_owner_49 ?_
      refine g_iload_n X dX11_owner_50 rfl ?_
      refine g_iadd X dX11_owner_51 ?_
      obtain ⟨v52, e52, hM⟩ := bind_of hM
      refine g_iaload X e52 dX11_owner_52 ?_
      cases hM
      exact g_iret X dX11_owner_53
    rw [if_neg h15_0] at hM
    by_cases h15_1 : x3 = 1
    · rw [if_pos h15_1] at hM
      refine g_tabIn (tgt := 54) (off := 39) X 1 h15_1 dX11_owner_15 (by decide) (by decide) (by decide) (by decide) ?_
      refine g_aload_n X dX11_owner_54 rfl ?_
      refine g_getR X fX11_60 cC_0 rfl dX11_owner_55 ?_
      refine g_iload_n X dX11_owner_58 rfl ?_
      refine g_iload_n X dX11_owner_59 rfl ?_
      obtain ⟨w60, e60, hM⟩ := bind_of hM
      refine g_callVi X (fun B adK => [.int x1, .int x2]) (s_X1_share e60) cvX11_226 cC_136 rfl rfl (Nat.le_of_ble_eq_true rfl) ⟨by decide, by decide⟩ dX11_owner_60 ?_
      cases hM
      exact g_iret X dX11_owner_63
    rw [if_neg h15_1] at hM
    by_cases h15_2 : x3 = 2
    · rw [if_pos h15_2] at hM
      refine g_tabIn (tgt := 64) (off := 49) X 2 h15_2 dX11_owner_15 (by decide) (by decide) (by decide) (by decide) ?_
      refine g_aload_n X dX11_owner_64 rfl ?_
      refine g_getR X fX11_60 cC_0 rfl dX11_owner_65 ?_
      refine g_aload_n X dX11_owner_68 rfl ?_
      refine g_getR X fX11_26 cC_0 rfl dX11_owner_69 ?_
      refine g_getI X fX11_191 cC_18 rfl dX11_owner_72 ?_
      obtain ⟨w75, e75, hM⟩ := bind_of hM
      refine g_callVv X (fun B adK => [.int (u.1 18 0)]) (s_X1_insure e75) cvX11_210 cC_136 rfl rfl (Nat.le_of_ble_eq_true rfl) ⟨by decide, by decide⟩ dX11_owner_75 ?_
      refine g_aload_n X dX11_owner_78 rfl ?_
      refine g_getR X fX11_60 cC_0 rfl dX11_owner_79 ?_
      refine g_getR X fX11_229 cC_136 rfl dX11_owner_82 ?_
      refine g_iload_n X dX11_owner_85 rfl ?_
      refine g_iconst X (v := 4) dX11_owner_86 (by decide) ?_
      refine g_imul X dX11_owner_87 ?_
      refine g_iload_n X dX11_owner_88 rfl ?_
      refine g_iadd X dX11_owner_89 ?_
      obtain ⟨v90, e90, hM⟩ := bind_of hM
      refine g_iaload X e90 dX11_owner_90 ?_
      cases hM
      exact g_iret X dX11_owner_91
    rw [if_neg h15_2] at hM
    refine g_tabOut (tgt := 92) X dX11_owner_15 (by have q0 := lv_neT (a := 0) h15_0 (by decide); have q1 := lv_neT (a := 1) h15_1 (by decide); have q2 := lv_neT (a := 2) h15_2 (by decide); omega) (by decide) ?_
    refine g_iconst X (v := (-1)) dX11_owner_92 (by decide) ?_
    cases hM
    exact g_iret X dX11_owner_93
  · rw [if_pos c9] at hM
    refine g_iconst X (v := (-1)) dX11_owner_12 (by decide) ?_
    cases hM
    exact g_iret X dX11_owner_13
theorem s_X11_owner {x1 : Int32} {x2 : Int32} {x3 : Int32} {u : gM} {w : (Int32 × gM)} (hM : X11_owner x1 x2 x3 u = some w) : gMet skC yX11_owner cX11_owner 4 (some .int) 5 122 (fun B adK => [.ref (B + 0), .int x1, .int x2, .int x3]) u ((fun _ => some (.int w.1)), w.2) := by
  refine gMet.of (by decide) (fun _ _ => Nat.le_of_ble_eq_true rfl) (fun κ B X => ?_)
  have X : gX κ B skC cX11_owner 4 RX11 (some .int) 5 122 := X
  refine g_mk [true, true, true, true] [some (.ref (B + 0)), some (.int x1), some (.int x2), some (.int x3)] rfl ?_
  exact v_X11_owner X  hM
theorem fr_X11_owner {S : Nat → Prop} {u0 u : gM} {x1 : Int32} {x2 : Int32} {x3 : Int32} (hs0 : S (rf skC 138 2)) (hs1 : S (rf skC 138 3)) (hs2 : S (rf skC 138 4)) (hs3 : S 137) (hs4 : S 138) (hs5 : S 142) (hs6 : S 143) (hs7 : S 144)   {w : (Int32 × gM)} (hM : X11_owner x1 x2 x3 u = some w) (h0 : off S u0 u) : off S u0 w.2 := by
  unfold X11_owner at hM
  obtain ⟨w6, e6, hM⟩ := bind_of hM
  by_cases c9 : w6 = 0
  · rw [if_pos c9] at hM
    cases hM
    exact h0
  · rw [if_neg c9] at hM
    by_cases h15_0 : x3 = 0
    · rw [if_pos h15_0] at hM
      obtain ⟨v52, e52, hM⟩ := bind_of hM
      cases hM
      exact h0
    rw [if_neg h15_0] at hM
    by_cases h15_1 : x3 = 1
    · rw [if_pos h15_1] at hM
      obtain ⟨w60, e60, hM⟩ := bind_of hM
      cases hM
      exact h0
    rw [if_neg h15_1] at hM
    by_cases h15_2 : x3 = 2
    · rw [if_pos h15_2] at hM
      obtain ⟨w75, e75, hM⟩ := bind_of hM
      have h0 := fr_X1_insure hs0 hs1 hs2 hs3 hs4 hs5 hs6 hs7 e75 h0
      obtain ⟨v90, e90, hM⟩ := bind_of hM
      cases hM
      exact h0
    rw [if_neg h15_2] at hM
    cases hM
    exact h0
/-! CoverDesk.pay(II)Z -/
theorem dX11_pay_0 : decode cX11_pay 0 = .ok (.aload_n 0, 1) := by decide +kernel
theorem dX11_pay_1 : decode cX11_pay 1 = .ok (.getfield 33, 3) := by decide +kernel
theorem dX11_pay_4 : decode cX11_pay 4 = .ok (.aload_n 0, 1) := by decide +kernel
theorem dX11_pay_5 : decode cX11_pay 5 = .ok (.getfield 26, 3) := by decide +kernel
theorem dX11_pay_8 : decode cX11_pay 8 = .ok (.invokevirtual 122, 3) := by decide +kernel
theorem dX11_pay_11 : decode cX11_pay 11 = .ok (.aload_n 0, 1) := by decide +kernel
theorem dX11_pay_12 : decode cX11_pay 12 = .ok (.getfield 33, 3) := by decide +kernel
theorem dX11_pay_15 : decode cX11_pay 15 = .ok (.aload_n 0, 1) := by decide +kernel
theorem dX11_pay_16 : decode cX11_pay 16 = .ok (.getfield 69, 3) := by decide +kernel
theorem dX11_pay_19 : decode cX11_pay 19 = .ok (.bipush 19, 2) := by decide +kernel
theorem dX11_pay_21 : decode cX11_pay 21 = .ok (.iload_n 1, 1) := by decide +kernel
theorem dX11_pay_22 : decode cX11_pay 22 = .ok (.iload_n 2, 1) := by decide +kernel
theorem dX11_pay_23 : decode cX11_pay 23 = .ok (.invokevirtual 136, 3) := by decide +kernel
theorem dX11_pay_26 : decode cX11_pay 26 = .ok (.invokevirtual 140, 3) := by decide +kernel
theorem dX11_pay_29 : decode cX11_pay 29 = .ok (.ireturn, 1) := by decide +kernel
def X11_pay  (x1 : Int32) (x2 : Int32) (u : gM) : Option (Int32 × gM) :=
((X7_keep 18 u).bind fun w8 => ((X3_act 19 x1 x2 w8).bind fun w23 => ((X7_confirm w23.1 w23.2).bind fun w26 => ((bI w26.1).bind fun v29 => some (v29, w26.2)))))
set_option maxRecDepth 20000 in
theorem v_X11_pay {κ : gK} {B : Nat} {u : gM} (X : gX κ B skC cX11_pay 3 RX11 (some .boolean) 7 168)   {x1 : Int32} {x2 : Int32} {w : (Int32 × gM)} (hM : X11_pay x1 x2 u = some w) : gV κ B skC 3 ((some (.int w.1)), w.2) 0 [some (.ref (B + 0)), some (.int x1), some (.int x2)] [] u := by
  unfold X11_pay at hM
  refine g_aload_n X dX11_pay_0 rfl ?_
  refine g_getR X fX11_33 cC_0 rfl dX11_pay_1 ?_
  refine g_aload_n X dX11_pay_4 rfl ?_
  refine g_getR X fX11_26 cC_0 rfl dX11_pay_5 ?_
  obtain ⟨w8, e8, hM⟩ := bind_of hM
  refine g_callVv X (fun B adK => [.ref (B + 18)]) (s_X7_keep e8) cvX11_122 cC_30 rfl rfl (Nat.le_of_ble_eq_true rfl) ⟨by decide, by decide⟩ dX11_pay_8 ?_
  refine g_aload_n X dX11_pay_11 rfl ?_
  refine g_getR X fX11_33 cC_0 rfl dX11_pay_12 ?_
  refine g_aload_n X dX11_pay_15 rfl ?_
  refine g_getR X fX11_69 cC_0 rfl dX11_pay_16 ?_
  refine g_bipush X (v := 19) dX11_pay_19 (by decide) ?_
  refine g_iload_n X dX11_pay_21 rfl ?_
  refine g_iload_n X dX11_pay_22 rfl ?_
  obtain ⟨w23, e23, hM⟩ := bind_of hM
  refine g_callVi X (fun B adK => [.int 19, .int x1, .int x2]) (s_X3_act e23) cvX11_136 cC_145 rfl rfl (Nat.le_of_ble_eq_true rfl) ⟨by decide, by decide⟩ dX11_pay_23 ?_
  obtain ⟨w26, e26, hM⟩ := bind_of hM
  refine g_callVi X (fun B adK => [.int w23.1]) (s_X7_confirm e26) cvX11_140 cC_30 rfl rfl (Nat.le_of_ble_eq_true rfl) ⟨by decide, by decide⟩ dX11_pay_26 ?_
  obtain ⟨v29, e29, hM⟩ := bind_of hM
  obtain ⟨hv, rfl⟩ := bI_of e29
  cases hM
  exact g_zret X hv dX11_pay_29
theorem s_X11_pay {x1 : Int32} {x2 : Int32} {u : gM} {w : (Int32 × gM)} (hM : X11_pay x1 x2 u = some w) : gMet skC yX11_pay cX11_pay 3 (some .boolean) 7 168 (fun B adK => [.ref (B + 0), .int x1, .int x2]) u ((fun _ => some (.int w.1)), w.2) := by
  refine gMet.of (by decide) (fun _ _ => Nat.le_of_ble_eq_true rfl) (fun κ B X => ?_)
  have X : gX κ B skC cX11_pay 3 RX11 (some .boolean) 7 168 := X
  refine g_mk [true, true, true] [some (.ref (B + 0)), some (.int x1), some (.int x2)] rfl ?_
  exact v_X11_pay X  hM

/-! CoverDesk.put(II)Z -/
theorem dX11_put_0 : decode cX11_put 0 = .ok (.aload_n 0, 1) := by decide +kernel
theorem dX11_put_1 : decode cX11_put 1 = .ok (.getfield 33, 3) := by decide +kernel
theorem dX11_put_4 : decode cX11_put 4 = .ok (.aload_n 0, 1) := by decide +kernel
theorem dX11_put_5 : decode cX11_put 5 = .ok (.getfield 26, 3) := by decide +kernel
theorem dX11_put_8 : decode cX11_put 8 = .ok (.invokevirtual 122, 3) := by decide +kernel
theorem dX11_put_11 : decode cX11_put 11 = .ok (.aload_n 0, 1) := by decide +kernel
theorem dX11_put_12 : decode cX11_put 12 = .ok (.getfield 33, 3) := by decide +kernel
theorem dX11_put_15 : decode cX11_put 15 = .ok (.aload_n 0, 1) := by decide +kernel
theorem dX11_put_16 : decode cX11_put 16 = .ok (.getfield 69, 3) := by decide +kernel
theorem dX11_put_19 : decode cX11_put 19 = .ok (.bipush 14, 2) := by decide +kernel
theorem dX11_put_21 : decode cX11_put 21 = .ok (.iload_n 1, 1) := by decide +kernel
theorem dX11_put_22 : decode cX11_put 22 = .ok (.iload_n 2, 1) := by decide +kernel
theorem dX11_put_23 : decode cX11_put 23 = .ok (.invokevirtual 136, 3) := by decide +kernel
theorem dX11_put_26 : decode cX11_put 26 = .ok (.invokevirtual 140, 3) := by decide +kernel
theorem dX11_put_29 : decode cX11_put 29 = .ok (.ireturn, 1) := by decide +kernel
def X11_put  (x1 : Int32) (x2 : Int32) (u : gM) : Option (Int32 × gM) :=
((X7_keep 18 u).bind fun w8 => ((X3_act 14 x1 x2 w8).bind fun w23 => ((X7_confirm w23.1 w23.2).bind fun w26 => ((bI w26.1).bind fun v29 => some (v29, w26.2)))))
set_option maxRecDepth 20000 in
theorem v_X11_put {κ : gK} {B : Nat} {u : gM} (X : gX κ B skC cX11_put 3 RX11 (some .boolean) 7 168)   {x1 : Int32} {x2 : Int32} {w : (Int32 × gM)} (hM : X11_put x1 x2 u = some w) : gV κ B skC 3 ((some (.int w.1)), w.2) 0 [some (.ref (B + 0)), some (.int x1), some (.int x2)] [] u := by
  unfold X11_put at hM
  refine g_aload_n X dX11_put_0 rfl ?_
  refine g_getR X fX11_33 cC_0 rfl dX11_put_1 ?_
  refine g_aload_n X dX11_put_4 rfl ?_
  refine g_getR X fX11_26 cC_0 rfl dX11_put_5 ?_
  obtain ⟨w8, e8, hM⟩ := bind_of hM
  refine g_callVv X (fun B adK => [.ref (B + 18)]) (s_X7_keep e8) cvX11_122 cC_30 rfl rfl (Nat.le_of_ble_eq_true rfl) ⟨by decide, by decide⟩ dX11_put_8 ?_
  refine g_aload_n X dX11_put_11 rfl ?_
  refine g_getR X fX11_33 cC_0 rfl dX11_put_12 ?_
  refine g_aload_n X dX11_put_15 rfl ?_
  refine g_getR X fX11_69 cC_0 rfl dX11_put_16 ?_
  refine g_bipush X (v := 14) dX11_put_19 (by decide) ?_
  refine g_iload_n X dX11_put_21 rfl ?_
  refine g_iload_n X dX11_put_22 rfl ?_
  obtain ⟨w23, e23, hM⟩ := bind_of hM
  refine g_callVi X (fun B adK => [.int 14, .int x1, .int x2]) (s_X3_act e23) cvX11_136 cC_145 rfl rfl (Nat.le_of_ble_eq_true rfl) ⟨by decide, by decide⟩ dX11_put_23 ?_
  obtain ⟨w26, e26, hM⟩ := bind_of hM
  refine g_callVi X (fun B adK => [.int w23.1]) (s_X7_confirm e26) cvX11_140 cC_30 rfl rfl (Nat.le_of_ble_eq_true rfl) ⟨by decide, by decide⟩ dX11_put_26 ?_
  obtain ⟨v29, e29, hM⟩ := bind_of hM
  obtain ⟨hv, rfl⟩ := bI_of e29
  cases hM
  exact g_zret X hv dX11_put_29
theorem s_X11_put {x1 : Int32} {x2 : Int32} {u : gM} {w : (Int32 × gM)} (hM : X11_put x1 x2 u = some w) : gMet skC yX11_put cX11_put 3 (some .boolean) 7 168 (fun B adK => [.ref (B + 0), .int x1, .int x2]) u ((fun _ => some (.int w.1)), w.2) := by
  refine gMet.of (by decide) (fun _ _ => Nat.le_of_ble_eq_true rfl) (fun κ B X => ?_)
  have X : gX κ B skC cX11_put 3 RX11 (some .boolean) 7 168 := X
  refine g_mk [true, true, true] [some (.ref (B + 0)), some (.int x1), some (.int x2)] rfl ?_
  exact v_X11_put X  hM

/-! CoverDesk.rankOf(I)I -/
theorem dX11_rankOf_0 : decode cX11_rankOf 0 = .ok (.aload_n 0, 1) := by decide +kernel
theorem dX11_rankOf_1 : decode cX11_rankOf 1 = .ok (.getfield 60, 3) := by decide +kernel
theorem dX11_rankOf_4 : decode cX11_rankOf 4 = .ok (.iload_n 1, 1) := by decide +kernel
theorem dX11_rankOf_5 : decode cX11_rankOf 5 = .ok (.invokevirtual 301, 3) := by decide +kernel
theorem dX11_rankOf_8 : decode cX11_rankOf 8 = .ok (.lstore_n 2, 1) := by decide +kernel
theorem dX11_rankOf_9 : decode cX11_rankOf 9 = .ok (.iconst 0, 1) := by decide +kernel
theorem dX11_rankOf_10 : decode cX11_rankOf 10 = .ok (.istore 4, 2) := by decide +kernel
theorem dX11_rankOf_12 : decode cX11_rankOf 12 = .ok (.iconst 0, 1) := by decide +kernel
theorem dX11_rankOf_13 : decode cX11_rankOf 13 = .ok (.istore 5, 2) := by decide +kernel
theorem dX11_rankOf_15 : decode cX11_rankOf 15 = .ok (.iload 5, 2) := by decide +kernel
theorem dX11_rankOf_17 : decode cX11_rankOf 17 = .ok (.aload_n 0, 1) := by decide +kernel
theorem dX11_rankOf_18 : decode cX11_rankOf 18 = .ok (.getfield 19, 3) := by decide +kernel
theorem dX11_rankOf_21 : decode cX11_rankOf 21 = .ok (.getfield 374, 3) := by decide +kernel
theorem dX11_rankOf_24 : decode cX11_rankOf 24 = .ok (.if_icmp .ge 43, 3) := by decide +kernel
theorem dX11_rankOf_27 : decode cX11_rankOf 27 = .ok (.aload_n 0, 1) := by decide +kernel
theorem dX11_rankOf_28 : decode cX11_rankOf 28 = .ok (.getfield 60, 3) := by decide +kernel
theorem dX11_rankOf_31 : decode cX11_rankOf 31 = .ok (.iload 5, 2) := by decide +kernel
theorem dX11_rankOf_33 : decode cX11_rankOf 33 = .ok (.invokevirtual 301, 3) := by decide +kernel
theorem dX11_rankOf_36 : decode cX11_rankOf 36 = .ok (.lstore 6, 2) := by decide +kernel
theorem dX11_rankOf_38 : decode cX11_rankOf 38 = .ok (.lload 6, 2) := by decide +kernel
theorem dX11_rankOf_40 : decode cX11_rankOf 40 = .ok (.lload_n 2, 1) := by decide +kernel
theorem dX11_rankOf_41 : decode cX11_rankOf 41 = .ok (.lcmp, 1) := by decide +kernel
theorem dX11_rankOf_42 : decode cX11_rankOf 42 = .ok (.ifCond .gt 16, 3) := by decide +kernel
theorem dX11_rankOf_45 : decode cX11_rankOf 45 = .ok (.lload 6, 2) := by decide +kernel
theorem dX11_rankOf_47 : decode cX11_rankOf 47 = .ok (.lload_n 2, 1) := by decide +kernel
theorem dX11_rankOf_48 : decode cX11_rankOf 48 = .ok (.lcmp, 1) := by decide +kernel
theorem dX11_rankOf_49 : decode cX11_rankOf 49 = .ok (.ifCond .ne 12, 3) := by decide +kernel
theorem dX11_rankOf_52 : decode cX11_rankOf 52 = .ok (.iload 5, 2) := by decide +kernel
theorem dX11_rankOf_54 : decode cX11_rankOf 54 = .ok (.iload_n 1, 1) := by decide +kernel
theorem dX11_rankOf_55 : decode cX11_rankOf 55 = .ok (.if_icmp .ge 6, 3) := by decide +kernel
theorem dX11_rankOf_58 : decode cX11_rankOf 58 = .ok (.iinc 4 1, 3) := by decide +kernel
theorem dX11_rankOf_61 : decode cX11_rankOf 61 = .ok (.iinc 5 1, 3) := by decide +kernel
theorem dX11_rankOf_64 : decode cX11_rankOf 64 = .ok (.goto (-49), 3) := by decide +kernel
theorem dX11_rankOf_67 : decode cX11_rankOf 67 = .ok (.iload 4, 2) := by decide +kernel
theorem dX11_rankOf_69 : decode cX11_rankOf 69 = .ok (.ireturn, 1) := by decide +kernel
def X11_rankOf_b61 (u : gM) (k15 : Int32 → Int64 → Int32 → Int32 → Option Int32) (x1 : Int32) (x2 : Int64) (x4 : Int32) (x5 : Int32) : Option Int32 :=
(k15 x1 x2 x4 (x5 + 1))
def X11_rankOf_b58 (u : gM) (k15 : Int32 → Int64 → Int32 → Int32 → Option Int32) (x1 : Int32) (x2 : Int64) (x4 : Int32) (x5 : Int32) : Option Int32 :=
(X11_rankOf_b61 u k15 x1 x2 (x4 + 1) x5)
def X11_rankOf_b15 (u : gM) (k15 : Int32 → Int64 → Int32 → Int32 → Option Int32) (x1 : Int32) (x2 : Int64) (x4 : Int32) (x5 : Int32) : Option Int32 :=
(if (u.1 3 0) ≤ x5 then some x4
  else ((X1_openOf u x5).bind fun w33 => (if 0 < (lg_cmp w33 x2) then (X11_rankOf_b58 u k15 x1 x2 x4 x5)
    else (if (lg_cmp w33 x2) = 0 then (if x1 ≤ x5 then (X11_rankOf_b61 u k15 x1 x2 x4 x5)
        else (X11_rankOf_b58 u k15 x1 x2 x4 x5))
      else (X11_rankOf_b61 u k15 x1 x2 x4 x5)))))
def X11_rankOf_l15 (u : gM)  : Nat → Int32 → Int64 → Int32 → Int32 → Option Int32
  | 0, _, _, _, _ => none
  | n + 1, x1, x2, x4, x5 => X11_rankOf_b15 u  (X11_rankOf_l15 u  n) x1 x2 x4 x5
def X11_rankOf (u : gM)  (x1 : Int32) : Option Int32 :=
((X1_openOf u x1).bind fun w5 => (X11_rankOf_l15 u fz x1 w5 0 0))
set_option maxRecDepth 20000 in
theorem v_X11_rankOf_b61 {κ : gK} {B : Nat} {u : gM} (X : gX κ B skC cX11_rankOf 8 RX11 (some .int) 3 70) {k15 : Int32 → Int64 → Int32 → Int32 → Option Int32} (ih15 : ∀ (x1 : Int32) (x2 : Int64) (x4 : Int32) (x5 : Int32) (w : Int32), k15 x1 x2 x4 x5 = some w → gV κ B skC 8 ((some (.int w)), u) 15 [some (.ref (B + 0)), some (.int x1), some (.long x2), none, some (.int x4), some (.int x5), none, none] [] u) {x1 : Int32} {x2 : Int64} {x4 : Int32} {x5 : Int32} {w : Int32} (hM : X11_rankOf_b61 u k15 x1 x2 x4 x5 = some w) : gV κ B skC 8 ((some (.int w)), u) 61 [some (.ref (B + 0)), some (.int x1), some (.long x2), none, some (.int x4), some (.int x5), none, none] [] u := by
  unfold X11_rankOf_b61 at hM
  refine g_iinc (d := 1) X [some (.ref (B + 0)), some (.int x1), some (.long x2), none, some (.int x4), some (.int (x5 + 1)), none, none] dX11_rankOf_61 (by decide) rfl (by decide) rfl ?_
  refine g_goto (tgt := 15) X dX11_rankOf_64 (by decide) ?_
  refine g_mk [true, true, true, false, true, true, false, false] [some (.ref (B + 0)), some (.int x1), some (.long x2), none, some (.int x4), some (.int (x5 + 1)), none, none] rfl ?_
  exact ih15 x1 x2 x4 (x5 + 1) _ hM
set_option maxRecDepth 20000 in
theorem v_X11_rankOf_b58 {κ : gK} {B : Nat} {u : gM} (X : gX κ B skC cX11_rankOf 8 RX11 (some .int) 3 70) {k15 : Int32 → Int64 → Int32 → Int32 → Option Int32} (ih15 : ∀ (x1 : Int32) (x2 : Int64) (x4 : Int32) (x5 : Int32) (w : Int32), k15 x1 x2 x4 x5 = some w → gV κ B skC 8 ((some (.int w)), u) 15 [some (.ref (B + 0)), some (.int x1), some (.long x2), none, some (.int x4), some (.int x5), none, none] [] u) {x1 : Int32} {x2 : Int64} {x4 : Int32} {x5 : Int32} {w : Int32} (hM : X11_rankOf_b58 u k15 x1 x2 x4 x5 = some w) : gV κ B skC 8 ((some (.int w)), u) 58 [some (.ref (B + 0)), some (.int x1), some (.long x2), none, some (.int x4), some (.int x5), none, none] [] u := by
  unfold X11_rankOf_b58 at hM
  refine g_iinc (d := 1) X [some (.ref (B + 0)), some (.int x1), some (.long x2), none, some (.int (x4 + 1)), some (.int x5), none, none] dX11_rankOf_58 (by decide) rfl (by decide) rfl ?_
  refine g_mk [true, true, true, false, true, true, false, false] [some (.ref (B + 0)), some (.int x1), some (.long x2), none, some (.int (x4 + 1)), some (.int x5), none, none] rfl ?_
  exact v_X11_rankOf_b61 X ih15 hM
set_option maxRecDepth 20000 in
theorem v_X11_rankOf_b15 {κ : gK} {B : Nat} {u : gM} (X : gX κ B skC cX11_rankOf 8 RX11 (some .int) 3 70) {k15 : Int32 → Int64 → Int32 → Int32 → Option Int32} (ih15 : ∀ (x1 : Int32) (x2 : Int64) (x4 : Int32) (x5 : Int32) (w : Int32), k15 x1 x2 x4 x5 = some w → gV κ B skC 8 ((some (.int w)), u) 15 [some (.ref (B + 0)), some (.int x1), some (.long x2), none, some (.int x4), some (.int x5), none, none] [] u) {x1 : Int32} {x2 : Int64} {x4 : Int32} {x5 : Int32} {w : Int32} (hM : X11_rankOf_b15 u k15 x1 x2 x4 x5 = some w) : gV κ B skC 8 ((some (.int w)), u) 15 [some (.ref (B + 0)), some (.int x1), some (.long x2), none, some (.int x4), some (.int x5), none, none] [] u := by
  unfold X11_rankOf_b15 at hM
  refine g_iload X dX11_rankOf_15 rfl ?_
  refine g_aload_n X dX11_rankOf_17 rfl ?_
  refine g_getR X fX11_19 cC_0 rfl dX11_rankOf_18 ?_
  refine g_getI X fX11_374 cC_3 rfl dX11_rankOf_21 ?_
  refine g_icmp_ge (tgt := 67) X dX11_rankOf_24 (by decide) (fun c24 => ?_) (fun c24 => ?_)
  · rw [if_pos c24] at hM
    refine g_iload X dX11_rankOf_67 rfl ?_
    cases hM
    exact g_iret X dX11_rankOf_69
  · rw [if_neg c24] at hM
    refine g_aload_n X dX11_rankOf_27 rfl ?_
    refine g_getR X fX11_60 cC_0 rfl dX11_rankOf_28 ?_
    refine g_iload X dX11_rankOf_31 rfl ?_
    obtain ⟨w33, e33, hM⟩ := bind_of hM
    refine g_callVl X (fun B adK => [.int x5]) (s_X1_openOf e33) cvX11_301 cC_136 rfl rfl (Nat.le_of_ble_eq_true rfl) ⟨by decide, by decide⟩ dX11_rankOf_33 ?_
    refine g_lstore X [some (.ref (B + 0)), some (.int x1), some (.long x2), none, some (.int x4), some (.int x5), some (.long w33), none] dX11_rankOf_36 (by decide) rfl ?_
    refine g_lload X dX11_rankOf_38 rfl ?_
    refine g_lload_n X dX11_rankOf_40 rfl ?_
    refine g_lcmp X dX11_rankOf_41 ?_
    refine g_if_gt (tgt := 58) X dX11_rankOf_42 (by decide) (fun c42 => ?_) (fun c42 => ?_)
    · rw [if_pos c42] at hM
      refine g_mk [true, true, true, false, true, true, false, false] [some (.ref (B + 0)), some (.int x1), some (.long x2), none, some (.int x4), some (.int x5), none, none] rfl ?_
      exact v_X11_rankOf_b58 X ih15 hM
    · rw [if_neg c42] at hM
      refine g_lload X dX11_rankOf_45 rfl ?_
      refine g_lload_n X dX11_rankOf_47 rfl ?_
      refine g_lcmp X dX11_rankOf_48 ?_
      refine g_if_ne (tgt := 61) X dX11_rankOf_49 (by decide) (fun c49 => ?_) (fun c49 => ?_)
      · rw [if_neg c49] at hM
        refine g_mk [true, true, true, false, true, true, false, false] [some (.ref (B + 0)), some (.int x1), some (.long x2), none, some (.int x4), some (.int x5), none, none] rfl ?_
        exact v_X11_rankOf_b61 X ih15 hM
      · rw [if_pos c49] at hM
        refine g_iload X dX11_rankOf_52 rfl ?_
        refine g_iload_n X dX11_rankOf_54 rfl ?_
        refine g_icmp_ge (tgt := 61) X dX11_rankOf_55 (by decide) (fun c55 => ?_) (fun c55 => ?_)
        · rw [if_pos c55] at hM
          refine g_mk [true, true, true, false, true, true, false, false] [some (.ref (B + 0)), some (.int x1), some (.long x2), none, some (.int x4), some (.int x5), none, none] rfl ?_
          exact v_X11_rankOf_b61 X ih15 hM
        · rw [if_neg c55] at hM
          refine g_mk [true, true, true, false, true, true, false, false] [some (.ref (B + 0)), some (.int x1), some (.long x2), none, some (.int x4), some (.int x5), none, none] rfl ?_
          exact v_X11_rankOf_b58 X ih15 hM
theorem v_X11_rankOf_l15 {κ : gK} {B : Nat} {u : gM} (X : gX κ B skC cX11_rankOf 8 RX11 (some .int) 3 70)   : ∀ (n : Nat) {x1 : Int32} {x2 : Int64} {x4 : Int32} {x5 : Int32} {w : Int32} (hM : X11_rankOf_l15 u  n x1 x2 x4 x5 = some w), gV κ B skC 8 ((some (.int w)), u) 15 [some (.ref (B + 0)), some (.int x1), some (.long x2), none, some (.int x4), some (.int x5), none, none] [] u := by
  intro n
  induction n with
  | zero => intro x1 x2 x4 x5 w hM; exact nomatch (show (none : Option Int32) = some w from hM)
  | succ n ihn => intro x1 x2 x4 x5 w hM; exact v_X11_rankOf_b15 X  (fun x1 x2 x4 x5 w h => ihn h) hM
set_option maxRecDepth 20000 in
theorem v_X11_rankOf {κ : gK} {B : Nat} {u : gM} (X : gX κ B skC cX11_rankOf 8 RX11 (some .int) 3 70)   {x1 : Int32} {w : Int32} (hM : X11_rankOf u x1 = some w) : gV κ B skC 8 ((some (.int w)), u) 0 [some (.ref (B + 0)), some (.int x1), none, none, none, none, none, none] [] u := by
  unfold X11_rankOf at hM
  refine g_aload_n X dX11_rankOf_0 rfl ?_
  refine g_getR X fX11_60 cC_0 rfl dX11_rankOf_1 ?_
  refine g_iload_n X dX11_rankOf_4 rfl ?_
  obtain ⟨w5, e5, hM⟩ := bind_of hM
  refine g_callVl X (fun B adK => [.int x1]) (s_X1_openOf e5) cvX11_301 cC_136 rfl rfl (Nat.le_of_ble_eq_true rfl) ⟨by decide, by decide⟩ dX11_rankOf_5 ?_
  refine g_lstore_n X [some (.ref (B + 0)), some (.int x1), some (.long w5), none, none, none, none, none] dX11_rankOf_8 (by decide) rfl ?_
  refine g_iconst X (v := 0) dX11_rankOf_9 (by decide) ?_
  refine g_istore X [some (.ref (B + 0)), some (.int x1), some (.long w5), none, some (.int 0), none, none, none] dX11_rankOf_10 (by decide) rfl ?_
  refine g_iconst X (v := 0) dX11_rankOf_12 (by decide) ?_
  refine g_istore X [some (.ref (B + 0)), some (.int x1), some (.long w5), none, some (.int 0), some (.int 0), none, none] dX11_rankOf_13 (by decide) rfl ?_
  refine g_mk [true, true, true, false, true, true, false, false] [some (.ref (B + 0)), some (.int x1), some (.long w5), none, some (.int 0), some (.int 0), none, none] rfl ?_
  exact v_X11_rankOf_l15 X  fz hM
theorem s_X11_rankOf {x1 : Int32} {u : gM} {w : Int32} (hM : X11_rankOf u x1 = some w) : gMet skC yX11_rankOf cX11_rankOf 8 (some .int) 3 70 (fun B adK => [.ref (B + 0), .int x1]) u ((fun _ => some (.int w)), u) := by
  refine gMet.of (by decide) (fun _ _ => Nat.le_of_ble_eq_true rfl) (fun κ B X => ?_)
  have X : gX κ B skC cX11_rankOf 8 RX11 (some .int) 3 70 := X
  refine g_mk [true, true, false, false, false, false, false, false] [some (.ref (B + 0)), some (.int x1), none, none, none, none, none, none] rfl ?_
  exact v_X11_rankOf X  hM

/-! CoverDesk.rank(I)I -/
theorem dX11_rank_0 : decode cX11_rank 0 = .ok (.aload_n 0, 1) := by decide +kernel
theorem dX11_rank_1 : decode cX11_rank 1 = .ok (.getfield 60, 3) := by decide +kernel
theorem dX11_rank_4 : decode cX11_rank 4 = .ok (.aload_n 0, 1) := by decide +kernel
theorem dX11_rank_5 : decode cX11_rank 5 = .ok (.getfield 26, 3) := by decide +kernel
theorem dX11_rank_8 : decode cX11_rank 8 = .ok (.getfield 191, 3) := by decide +kernel
theorem dX11_rank_11 : decode cX11_rank 11 = .ok (.invokevirtual 210, 3) := by decide +kernel
theorem dX11_rank_14 : decode cX11_rank 14 = .ok (.iconst 0, 1) := by decide +kernel
theorem dX11_rank_15 : decode cX11_rank 15 = .ok (.istore_n 2, 1) := by decide +kernel
theorem dX11_rank_16 : decode cX11_rank 16 = .ok (.iload_n 2, 1) := by decide +kernel
theorem dX11_rank_17 : decode cX11_rank 17 = .ok (.aload_n 0, 1) := by decide +kernel
theorem dX11_rank_18 : decode cX11_rank 18 = .ok (.getfield 19, 3) := by decide +kernel
theorem dX11_rank_21 : decode cX11_rank 21 = .ok (.getfield 374, 3) := by decide +kernel
theorem dX11_rank_24 : decode cX11_rank 24 = .ok (.if_icmp .ge 20, 3) := by decide +kernel
theorem dX11_rank_27 : decode cX11_rank 27 = .ok (.aload_n 0, 1) := by decide +kernel
theorem dX11_rank_28 : decode cX11_rank 28 = .ok (.iload_n 2, 1) := by decide +kernel
theorem dX11_rank_29 : decode cX11_rank 29 = .ok (.invokevirtual 377, 3) := by decide +kernel
theorem dX11_rank_32 : decode cX11_rank 32 = .ok (.iload_n 1, 1) := by decide +kernel
theorem dX11_rank_33 : decode cX11_rank 33 = .ok (.if_icmp .ne 5, 3) := by decide +kernel
theorem dX11_rank_36 : decode cX11_rank 36 = .ok (.iload_n 2, 1) := by decide +kernel
theorem dX11_rank_37 : decode cX11_rank 37 = .ok (.ireturn, 1) := by decide +kernel
theorem dX11_rank_38 : decode cX11_rank 38 = .ok (.iinc 2 1, 3) := by decide +kernel
theorem dX11_rank_41 : decode cX11_rank 41 = .ok (.goto (-25), 3) := by decide +kernel
theorem dX11_rank_44 : decode cX11_rank 44 = .ok (.iconst (-1), 1) := by decide +kernel
theorem dX11_rank_45 : decode cX11_rank 45 = .ok (.ireturn, 1) := by decide +kernel
def X11_rank_b16 (k16 : Int32 → Int32 → gM → Option (Int32 × gM)) (x1 : Int32) (x2 : Int32) (u : gM) : Option (Int32 × gM) :=
(if (u.1 3 0) ≤ x2 then some ((-1), u)
  else ((X11_rankOf u x2).bind fun w29 => (if w29 = x1 then some (x2, u)
    else (k16 x1 (x2 + 1) u))))
def X11_rank_l16  : Nat → Int32 → Int32 → gM → Option (Int32 × gM)
  | 0, _, _, _ => none
  | n + 1, x1, x2, u => X11_rank_b16  (X11_rank_l16  n) x1 x2 u
def X11_rank  (x1 : Int32) (u : gM) : Option (Int32 × gM) :=
((X1_insure (u.1 18 0) u).bind fun w11 => (X11_rank_l16 fz x1 0 w11))
set_option maxRecDepth 20000 in
theorem v_X11_rank_b16 {κ : gK} {B : Nat} {u : gM} (X : gX κ B skC cX11_rank 3 RX11 (some .int) 5 122) {k16 : Int32 → Int32 → gM → Option (Int32 × gM)} (ih16 : ∀ (x1 : Int32) (x2 : Int32) (u : gM) (w : (Int32 × gM)), k16 x1 x2 u = some w → gV κ B skC 3 ((some (.int w.1)), w.2) 16 [some (.ref (B + 0)), some (.int x1), some (.int x2)] [] u) {x1 : Int32} {x2 : Int32} {w : (Int32 × gM)} (hM : X11_rank_b16 k16 x1 x2 u = some w) : gV κ B skC 3 ((some (.int w.1)), w.2) 16 [some (.ref (B + 0)), some (.int x1), some (.int x2)] [] u := by
  unfold X11_rank_b16 at hM
  refine g_iload_n X dX11_rank_16 rfl ?_
  refine g_aload_n X dX11_rank_17 rfl ?_
  refine g_getR X fX11_19 cC_0 rfl dX11_rank_18 ?_
  refine g_getI X fX11_374 cC_3 rfl dX11_rank_21 ?_
  refine g_icmp_ge (tgt := 44) X dX11_rank_24 (by decide) (fun c24 => ?_) (fun c24 => ?_)
  · rw [if_pos c24] at hM
    refine g_iconst X (v := (-1)) dX11_rank_44 (by decide) ?_
    cases hM
    exact g_iret X dX11_rank_45
  · rw [if_neg c24] at hM
    refine g_aload_n X dX11_rank_27 rfl ?_
    refine g_iload_n X dX11_rank_28 rfl ?_
    obtain ⟨w29, e29, hM⟩ := bind_of hM
    refine g_callVi X (fun B adK => [.int x2]) (s_X11_rankOf e29) cvX11_377 cC_0 rfl rfl (Nat.le_of_ble_eq_true rfl) ⟨by decide, by decide⟩ dX11_rank_29 ?_
    refine g_iload_n X dX11_rank_32 rfl ?_
    refine g_icmp_ne (tgt := 38) X dX11_rank_33 (by decide) (fun c33 => ?_) (fun c33 => ?_)
    · rw [if_neg c33] at hM
      refine g_iinc (d := 1) X [some (.ref (B + 0)), some (.int x1), some (.int (x2 + 1))] dX11_rank_38 (by decide) rfl (by decide) rfl ?_
      refine g_goto (tgt := 16) X dX11_rank_41 (by decide) ?_
      refine g_mk [true, true, true] [some (.ref (B + 0)), some (.int x1), some (.int (x2 + 1))] rfl ?_
      exact ih16 x1 (x2 + 1) u _ hM
    · rw [if_pos c33] at hM
      refine g_iload_n X dX11_rank_36 rfl ?_
      cases hM
      exact g_iret X dX11_rank_37
theorem v_X11_rank_l16 {κ : gK} {B : Nat} (X : gX κ B skC cX11_rank 3 RX11 (some .int) 5 122)   : ∀ (n : Nat) {x1 : Int32} {x2 : Int32} {u : gM} {w : (Int32 × gM)} (hM : X11_rank_l16  n x1 x2 u = some w), gV κ B skC 3 ((some (.int w.1)), w.2) 16 [some (.ref (B + 0)), some (.int x1), some (.int x2)] [] u := by
  intro n
  induction n with
  | zero => intro x1 x2 u w hM; exact nomatch (show (none : Option (Int32 × gM)) = some w from hM)
  | succ n ihn => intro x1 x2 u w hM; exact v_X11_rank_b16 X  (fun x1 x2 u w h => ihn h) hM
set_option maxRecDepth 20000 in
theorem v_X11_rank {κ : gK} {B : Nat} {u : gM} (X : gX κ B skC cX11_rank 3 RX11 (some .int) 5 122)   {x1 : Int32} {w : (Int32 × gM)} (hM : X11_rank x1 u = some w) : gV κ B skC 3 ((some (.int w.1)), w.2) 0 [some (.ref (B + 0)), some (.int x1), none] [] u := by
  unfold X11_rank at hM
  refine g_aload_n X dX11_rank_0 rfl ?_
  refine g_getR X fX11_60 cC_0 rfl dX11_rank_1 ?_
  refine g_aload_n X dX11_rank_4 rfl ?_
  refine g_getR X fX11_26 cC_0 rfl dX11_rank_5 ?_
  refine g_getI X fX11_191 cC_18 rfl dX11_rank_8 ?_
  obtain ⟨w11, e11, hM⟩ := bind_of hM
  refine g_callVv X (fun B adK => [.int (u.1 18 0)]) (s_X1_insure e11) cvX11_210 cC_136 rfl rfl (Nat.le_of_ble_eq_true rfl) ⟨by decide, by decide⟩ dX11_rank_11 ?_
  refine g_iconst X (v := 0) dX11_rank_14 (by decide) ?_
  refine g_istore_n X [some (.ref (B + 0)), some (.int x1), some (.int 0)] dX11_rank_15 (by decide) rfl ?_
  refine g_mk [true, true, true] [some (.ref (B + 0)), some (.int x1), some (.int 0)] rfl ?_
  exact v_X11_rank_l16 X  fz hM
theorem s_X11_rank {x1 : Int32} {u : gM} {w : (Int32 × gM)} (hM : X11_rank x1 u = some w) : gMet skC yX11_rank cX11_rank 3 (some .int) 5 122 (fun B adK => [.ref (B + 0), .int x1]) u ((fun _ => some (.int w.1)), w.2) := by
  refine gMet.of (by decide) (fun _ _ => Nat.le_of_ble_eq_true rfl) (fun κ B X => ?_)
  have X : gX κ B skC cX11_rank 3 RX11 (some .int) 5 122 := X
  refine g_mk [true, true, false] [some (.ref (B + 0)), some (.int x1), none] rfl ?_
  exact v_X11_rank X  hM
theorem fr_X11_rank_b16 {S : Nat → Prop} {u0 u : gM} {x1 : Int32} {x2 : Int32}  {k16 : Int32 → Int32 → gM → Option (Int32 × gM)} (ik16 : ∀ (x1 : Int32) (x2 : Int32) (u : gM) (w : (Int32 × gM)), off S u0 u → k16 x1 x2 u = some w → off S u0 w.2) {w : (Int32 × gM)} (hM : X11_rank_b16 k16 x1 x2 u = some w) (h0 : off S u0 u) : off S u0 w.2 := by
  unfold X11_rank_b16 at hM
  by_cases c24 : (u.1 3 0) ≤ x2
  · rw [if_pos c24] at hM
    cases hM
    exact h0
  · rw [if_neg c24] at hM
    obtain ⟨w29, e29, hM⟩ := bind_of hM
    by_cases c33 : w29 = x1
    · rw [if_pos c33] at hM
      cases hM
      exact h0
    · rw [if_neg c33] at hM
      exact ik16 _ _ _ _  h0 hM
theorem fr_X11_rank_l16 {S : Nat → Prop} {u0 : gM}   : ∀ (n : Nat) {x1 : Int32} {x2 : Int32}  {u : gM} {w : (Int32 × gM)} (h0 : off S u0 u) (hM : X11_rank_l16  n x1 x2 u = some w), off S u0 w.2 := by
  intro n
  induction n with
  | zero => intro x1 x2 u w h0 hM; exact nomatch (show (none : Option (Int32 × gM)) = some w from hM)
  | succ n ihn => intro x1 x2 u w h0 hM; exact fr_X11_rank_b16   (fun x1 x2 _ _ h0 h => ihn  h0 h) hM h0
theorem fr_X11_rank {S : Nat → Prop} {u0 u : gM} {x1 : Int32} (hs0 : S (rf skC 138 2)) (hs1 : S (rf skC 138 3)) (hs2 : S (rf skC 138 4)) (hs3 : S 137) (hs4 : S 138) (hs5 : S 142) (hs6 : S 143) (hs7 : S 144)   {w : (Int32 × gM)} (hM : X11_rank x1 u = some w) (h0 : off S u0 u) : off S u0 w.2 := by
  unfold X11_rank at hM
  obtain ⟨w11, e11, hM⟩ := bind_of hM
  have h0 := fr_X1_insure hs0 hs1 hs2 hs3 hs4 hs5 hs6 hs7 e11 h0
  exact fr_X11_rank_l16  fz  h0 hM
/-! CoverDesk.take(II)Z -/
theorem dX11_take_0 : decode cX11_take 0 = .ok (.aload_n 0, 1) := by decide +kernel
theorem dX11_take_1 : decode cX11_take 1 = .ok (.getfield 33, 3) := by decide +kernel
theorem dX11_take_4 : decode cX11_take 4 = .ok (.aload_n 0, 1) := by decide +kernel
theorem dX11_take_5 : decode cX11_take 5 = .ok (.getfield 26, 3) := by decide +kernel
theorem dX11_take_8 : decode cX11_take 8 = .ok (.invokevirtual 122, 3) := by decide +kernel
theorem dX11_take_11 : decode cX11_take 11 = .ok (.aload_n 0, 1) := by decide +kernel
theorem dX11_take_12 : decode cX11_take 12 = .ok (.getfield 33, 3) := by decide +kernel
theorem dX11_take_15 : decode cX11_take 15 = .ok (.aload_n 0, 1) := by decide +kernel
theorem dX11_take_16 : decode cX11_take 16 = .ok (.getfield 69, 3) := by decide +kernel
theorem dX11_take_19 : decode cX11_take 19 = .ok (.bipush 15, 2) := by decide +kernel
theorem dX11_take_21 : decode cX11_take 21 = .ok (.iload_n 1, 1) := by decide +kernel
theorem dX11_take_22 : decode cX11_take 22 = .ok (.iload_n 2, 1) := by decide +kernel
theorem dX11_take_23 : decode cX11_take 23 = .ok (.invokevirtual 136, 3) := by decide +kernel
theorem dX11_take_26 : decode cX11_take 26 = .ok (.invokevirtual 140, 3) := by decide +kernel
theorem dX11_take_29 : decode cX11_take 29 = .ok (.ireturn, 1) := by decide +kernel
def X11_take  (x1 : Int32) (x2 : Int32) (u : gM) : Option (Int32 × gM) :=
((X7_keep 18 u).bind fun w8 => ((X3_act 15 x1 x2 w8).bind fun w23 => ((X7_confirm w23.1 w23.2).bind fun w26 => ((bI w26.1).bind fun v29 => some (v29, w26.2)))))
set_option maxRecDepth 20000 in
theorem v_X11_take {κ : gK} {B : Nat} {u : gM} (X : gX κ B skC cX11_take 3 RX11 (some .boolean) 7 168)   {x1 : Int32} {x2 : Int32} {w : (Int32 × gM)} (hM : X11_take x1 x2 u = some w) : gV κ B skC 3 ((some (.int w.1)), w.2) 0 [some (.ref (B + 0)), some (.int x1), some (.int x2)] [] u := by
  unfold X11_take at hM
  refine g_aload_n X dX11_take_0 rfl ?_
  refine g_getR X fX11_33 cC_0 rfl dX11_take_1 ?_
  refine g_aload_n X dX11_take_4 rfl ?_
  refine g_getR X fX11_26 cC_0 rfl dX11_take_5 ?_
  obtain ⟨w8, e8, hM⟩ := bind_of hM
  refine g_callVv X (fun B adK => [.ref (B + 18)]) (s_X7_keep e8) cvX11_122 cC_30 rfl rfl (Nat.le_of_ble_eq_true rfl) ⟨by decide, by decide⟩ dX11_take_8 ?_
  refine g_aload_n X dX11_take_11 rfl ?_
  refine g_getR X fX11_33 cC_0 rfl dX11_take_12 ?_
  refine g_aload_n X dX11_take_15 rfl ?_
  refine g_getR X fX11_69 cC_0 rfl dX11_take_16 ?_
  refine g_bipush X (v := 15) dX11_take_19 (by decide) ?_
  refine g_iload_n X dX11_take_21 rfl ?_
  refine g_iload_n X dX11_take_22 rfl ?_
  obtain ⟨w23, e23, hM⟩ := bind_of hM
  refine g_callVi X (fun B adK => [.int 15, .int x1, .int x2]) (s_X3_act e23) cvX11_136 cC_145 rfl rfl (Nat.le_of_ble_eq_true rfl) ⟨by decide, by decide⟩ dX11_take_23 ?_
  obtain ⟨w26, e26, hM⟩ := bind_of hM
  refine g_callVi X (fun B adK => [.int w23.1]) (s_X7_confirm e26) cvX11_140 cC_30 rfl rfl (Nat.le_of_ble_eq_true rfl) ⟨by decide, by decide⟩ dX11_take_26 ?_
  obtain ⟨v29, e29, hM⟩ := bind_of hM
  obtain ⟨hv, rfl⟩ := bI_of e29
  cases hM
  exact g_zret X hv dX11_take_29
theorem s_X11_take {x1 : Int32} {x2 : Int32} {u : gM} {w : (Int32 × gM)} (hM : X11_take x1 x2 u = some w) : gMet skC yX11_take cX11_take 3 (some .boolean) 7 168 (fun B adK => [.ref (B + 0), .int x1, .int x2]) u ((fun _ => some (.int w.1)), w.2) := by
  refine gMet.of (by decide) (fun _ _ => Nat.le_of_ble_eq_true rfl) (fun κ B X => ?_)
  have X : gX κ B skC cX11_take 3 RX11 (some .boolean) 7 168 := X
  refine g_mk [true, true, true] [some (.ref (B + 0)), some (.int x1), some (.int x2)] rfl ?_
  exact v_X11_take X  hM


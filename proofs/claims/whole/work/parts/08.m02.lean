/-! CoverDeskModel.ends()Z -/
theorem dX12_ends_0 : decode cX12_ends 0 = .ok (.aload_n 0, 1) := by decide +kernel
theorem dX12_ends_1 : decode cX12_ends 1 = .ok (.getfield 149, 3) := by decide +kernel
theorem dX12_ends_4 : decode cX12_ends 4 = .ok (.iconst 3, 1) := by decide +kernel
theorem dX12_ends_5 : decode cX12_ends 5 = .ok (.if_icmp .ne 12, 3) := by decide +kernel
theorem dX12_ends_8 : decode cX12_ends 8 = .ok (.aload_n 0, 1) := by decide +kernel
theorem dX12_ends_9 : decode cX12_ends 9 = .ok (.getfield 146, 3) := by decide +kernel
theorem dX12_ends_12 : decode cX12_ends 12 = .ok (.bipush 59, 2) := by decide +kernel
theorem dX12_ends_14 : decode cX12_ends 14 = .ok (.if_icmp .eq 9, 3) := by decide +kernel
theorem dX12_ends_17 : decode cX12_ends 17 = .ok (.aload_n 0, 1) := by decide +kernel
theorem dX12_ends_18 : decode cX12_ends 18 = .ok (.iconst 1, 1) := by decide +kernel
theorem dX12_ends_19 : decode cX12_ends 19 = .ok (.invokevirtual 234, 3) := by decide +kernel
theorem dX12_ends_22 : decode cX12_ends 22 = .ok (.ireturn, 1) := by decide +kernel
theorem dX12_ends_23 : decode cX12_ends 23 = .ok (.aload_n 0, 1) := by decide +kernel
theorem dX12_ends_24 : decode cX12_ends 24 = .ok (.invokevirtual 238, 3) := by decide +kernel
theorem dX12_ends_27 : decode cX12_ends 27 = .ok (.iconst 1, 1) := by decide +kernel
theorem dX12_ends_28 : decode cX12_ends 28 = .ok (.ireturn, 1) := by decide +kernel
def X12_ends_b17   (u : gM) : Option (Int32 × gM) :=
((X12_fails 1 u).bind fun w19 => ((bI w19.1).bind fun v22 => some (v22, w19.2)))
def X12_ends   (u : gM) : Option (Int32 × gM) :=
(if (u.1 0 25) = 3 then (if (u.1 0 30) = 59 then ((X12_next u).bind fun w24 => some (1, w24))
    else (X12_ends_b17 u))
  else (X12_ends_b17 u))
set_option maxRecDepth 20000 in
theorem v_X12_ends_b17 {κ : gK} {B : Nat} {u : gM} (X : gX κ B skM cX12_ends 1 RX12 (some .boolean) 2 46)    {w : (Int32 × gM)} (hM : X12_ends_b17 u = some w) : gV κ B skM 1 ((some (.int w.1)), w.2) 17 [some (.ref (B + 0))] [] u := by
  unfold X12_ends_b17 at hM
  refine g_aload_n X dX12_ends_17 rfl ?_
  refine g_iconst X (v := 1) dX12_ends_18 (by decide) ?_
  obtain ⟨w19, e19, hM⟩ := bind_of hM
  refine g_callVi X (fun B adK => [.int 1]) (s_X12_fails e19) cvX12_234 cM_0 rfl rfl (Nat.le_of_ble_eq_true rfl) ⟨by decide, by decide⟩ dX12_ends_19 ?_
  obtain ⟨v22, e22, hM⟩ := bind_of hM
  obtain ⟨hv, rfl⟩ := bI_of e22
  cases hM
  exact g_zret X hv dX12_ends_22
set_option maxRecDepth 20000 in
theorem v_X12_ends {κ : gK} {B : Nat} {u : gM} (X : gX κ B skM cX12_ends 1 RX12 (some .boolean) 2 46)    {w : (Int32 × gM)} (hM : X12_ends u = some w) : gV κ B skM 1 ((some (.int w.1)), w.2) 0 [some (.ref (B + 0))] [] u := by
  unfold X12_ends at hM
  refine g_aload_n X dX12_ends_0 rfl ?_
  refine g_getI X fX12_149 cM_0 rfl dX12_ends_1 ?_
  refine g_iconst X (v := 3) dX12_ends_4 (by decide) ?_
  refine g_icmp_ne (tgt := 17) X dX12_ends_5 (by decide) (fun c5 => ?_) (fun c5 => ?_)
  · rw [if_neg c5] at hM
    refine g_mk [true] [some (.ref (B + 0))] rfl ?_
    exact v_X12_ends_b17 X  hM
  · rw [if_pos c5] at hM
    refine g_aload_n X dX12_ends_8 rfl ?_
    refine g_getI X fX12_146 cM_0 rfl dX12_ends_9 ?_
    refine g_bipush X (v := 59) dX12_ends_12 (by decide) ?_
    refine g_icmp_eq (tgt := 23) X dX12_ends_14 (by decide) (fun c14 => ?_) (fun c14 => ?_)
    · rw [if_pos c14] at hM
      refine g_aload_n X dX12_ends_23 rfl ?_
      obtain ⟨w24, e24, hM⟩ := bind_of hM
      refine g_callVv X (fun B adK => []) (s_X12_next e24) cvX12_238 cM_0 rfl rfl (Nat.le_of_ble_eq_true rfl) ⟨by decide, by decide⟩ dX12_ends_24 ?_
      refine g_iconst X (v := 1) dX12_ends_27 (by decide) ?_
      cases hM
      exact g_zret X (Or.inr rfl) dX12_ends_28
    · rw [if_neg c14] at hM
      refine g_mk [true] [some (.ref (B + 0))] rfl ?_
      exact v_X12_ends_b17 X  hM
theorem s_X12_ends  {u : gM} {w : (Int32 × gM)} (hM : X12_ends u = some w) : gMet skM yX12_ends cX12_ends 1 (some .boolean) 2 46 (fun B adK => [.ref (B + 0)]) u ((fun _ => some (.int w.1)), w.2) := by
  refine gMet.of (by decide) (fun _ _ => Nat.le_of_ble_eq_true rfl) (fun κ B X => ?_)
  have X : gX κ B skM cX12_ends 1 RX12 (some .boolean) 2 46 := X
  refine g_mk [true] [some (.ref (B + 0))] rfl ?_
  exact v_X12_ends X  hM
theorem fr_X12_ends_b17 {S : Nat → Prop} {u0 u : gM}  (hs0 : S 0)   {w : (Int32 × gM)} (hM : X12_ends_b17 u = some w) (h0 : off S u0 u) : off S u0 w.2 := by
  unfold X12_ends_b17 at hM
  obtain ⟨w19, e19, hM⟩ := bind_of hM
  have h0 := fr_X12_fails hs0 e19 h0
  obtain ⟨v22, e22, hM⟩ := bind_of hM
  cases hM
  exact h0
theorem fr_X12_ends {S : Nat → Prop} {u0 u : gM}  (hs0 : S 0)   {w : (Int32 × gM)} (hM : X12_ends u = some w) (h0 : off S u0 u) : off S u0 w.2 := by
  unfold X12_ends at hM
  by_cases c5 : (u.1 0 25) = 3
  · rw [if_pos c5] at hM
    by_cases c14 : (u.1 0 30) = 59
    · rw [if_pos c14] at hM
      obtain ⟨w24, e24, hM⟩ := bind_of hM
      have h0 := fr_X12_next hs0 e24 h0
      cases hM
      exact h0
    · rw [if_neg c14] at hM
      exact fr_X12_ends_b17 hs0  hM h0
  · rw [if_neg c5] at hM
    exact fr_X12_ends_b17 hs0  hM h0
/-! CoverDeskModel.readLine()Z -/
theorem dX12_readLine_0 : decode cX12_readLine 0 = .ok (.aload_n 0, 1) := by decide +kernel
theorem dX12_readLine_1 : decode cX12_readLine 1 = .ok (.ldc 196, 2) := by decide +kernel
theorem dX12_readLine_3 : decode cX12_readLine 3 = .ok (.invokevirtual 184, 3) := by decide +kernel
theorem dX12_readLine_6 : decode cX12_readLine 6 = .ok (.ifCond .eq 37, 3) := by decide +kernel
theorem dX12_readLine_9 : decode cX12_readLine 9 = .ok (.aload_n 0, 1) := by decide +kernel
theorem dX12_readLine_10 : decode cX12_readLine 10 = .ok (.invokevirtual 238, 3) := by decide +kernel
theorem dX12_readLine_13 : decode cX12_readLine 13 = .ok (.aload_n 0, 1) := by decide +kernel
theorem dX12_readLine_14 : decode cX12_readLine 14 = .ok (.aload_n 0, 1) := by decide +kernel
theorem dX12_readLine_15 : decode cX12_readLine 15 = .ok (.getfield 13, 3) := by decide +kernel
theorem dX12_readLine_18 : decode cX12_readLine 18 = .ok (.iconst 0, 1) := by decide +kernel
theorem dX12_readLine_19 : decode cX12_readLine 19 = .ok (.bipush 10, 2) := by decide +kernel
theorem dX12_readLine_21 : decode cX12_readLine 21 = .ok (.invokevirtual 254, 3) := by decide +kernel
theorem dX12_readLine_24 : decode cX12_readLine 24 = .ok (.ifCond .ne 5, 3) := by decide +kernel
theorem dX12_readLine_27 : decode cX12_readLine 27 = .ok (.iconst 0, 1) := by decide +kernel
theorem dX12_readLine_28 : decode cX12_readLine 28 = .ok (.ireturn, 1) := by decide +kernel
theorem dX12_readLine_29 : decode cX12_readLine 29 = .ok (.aload_n 0, 1) := by decide +kernel
theorem dX12_readLine_30 : decode cX12_readLine 30 = .ok (.getfield 7, 3) := by decide +kernel
theorem dX12_readLine_33 : decode cX12_readLine 33 = .ok (.bipush 6, 2) := by decide +kernel
theorem dX12_readLine_35 : decode cX12_readLine 35 = .ok (.dup2, 1) := by decide +kernel
theorem dX12_readLine_36 : decode cX12_readLine 36 = .ok (.iaload, 1) := by decide +kernel
theorem dX12_readLine_37 : decode cX12_readLine 37 = .ok (.iconst 1, 1) := by decide +kernel
theorem dX12_readLine_38 : decode cX12_readLine 38 = .ok (.iadd, 1) := by decide +kernel
theorem dX12_readLine_39 : decode cX12_readLine 39 = .ok (.iastore, 1) := by decide +kernel
theorem dX12_readLine_40 : decode cX12_readLine 40 = .ok (.goto 167, 3) := by decide +kernel
theorem dX12_readLine_43 : decode cX12_readLine 43 = .ok (.aload_n 0, 1) := by decide +kernel
theorem dX12_readLine_44 : decode cX12_readLine 44 = .ok (.ldc 198, 2) := by decide +kernel
theorem dX12_readLine_46 : decode cX12_readLine 46 = .ok (.invokevirtual 184, 3) := by decide +kernel
theorem dX12_readLine_49 : decode cX12_readLine 49 = .ok (.ifCond .eq 37, 3) := by decide +kernel
theorem dX12_readLine_52 : decode cX12_readLine 52 = .ok (.aload_n 0, 1) := by decide +kernel
theorem dX12_readLine_53 : decode cX12_readLine 53 = .ok (.invokevirtual 238, 3) := by decide +kernel
theorem dX12_readLine_56 : decode cX12_readLine 56 = .ok (.aload_n 0, 1) := by decide +kernel
theorem dX12_readLine_57 : decode cX12_readLine 57 = .ok (.aload_n 0, 1) := by decide +kernel
theorem dX12_readLine_58 : decode cX12_readLine 58 = .ok (.getfield 17, 3) := by decide +kernel
theorem dX12_readLine_61 : decode cX12_readLine 61 = .ok (.iconst 1, 1) := by decide +kernel
theorem dX12_readLine_62 : decode cX12_readLine 62 = .ok (.bipush 6, 2) := by decide +kernel
theorem dX12_readLine_64 : decode cX12_readLine 64 = .ok (.invokevirtual 254, 3) := by decide +kernel
theorem dX12_readLine_67 : decode cX12_readLine 67 = .ok (.ifCond .ne 5, 3) := by decide +kernel
theorem dX12_readLine_70 : decode cX12_readLine 70 = .ok (.iconst 0, 1) := by decide +kernel
theorem dX12_readLine_71 : decode cX12_readLine 71 = .ok (.ireturn, 1) := by decide +kernel
theorem dX12_readLine_72 : decode cX12_readLine 72 = .ok (.aload_n 0, 1) := by decide +kernel
theorem dX12_readLine_73 : decode cX12_readLine 73 = .ok (.getfield 7, 3) := by decide +kernel
theorem dX12_readLine_76 : decode cX12_readLine 76 = .ok (.bipush 7, 2) := by decide +kernel
theorem dX12_readLine_78 : decode cX12_readLine 78 = .ok (.dup2, 1) := by decide +kernel
theorem dX12_readLine_79 : decode cX12_readLine 79 = .ok (.iaload, 1) := by decide +kernel
theorem dX12_readLine_80 : decode cX12_readLine 80 = .ok (.iconst 1, 1) := by decide +kernel
theorem dX12_readLine_81 : decode cX12_readLine 81 = .ok (.iadd, 1) := by decide +kernel
theorem dX12_readLine_82 : decode cX12_readLine 82 = .ok (.iastore, 1) := by decide +kernel
theorem dX12_readLine_83 : decode cX12_readLine 83 = .ok (.goto 124, 3) := by decide +kernel
theorem dX12_readLine_86 : decode cX12_readLine 86 = .ok (.aload_n 0, 1) := by decide +kernel
theorem dX12_readLine_87 : decode cX12_readLine 87 = .ok (.ldc 200, 2) := by decide +kernel
theorem dX12_readLine_89 : decode cX12_readLine 89 = .ok (.invokevirtual 184, 3) := by decide +kernel
theorem dX12_readLine_92 : decode cX12_readLine 92 = .ok (.ifCond .eq 34, 3) := by decide +kernel
theorem dX12_readLine_95 : decode cX12_readLine 95 = .ok (.aload_n 0, 1) := by decide +kernel
theorem dX12_readLine_96 : decode cX12_readLine 96 = .ok (.invokevirtual 238, 3) := by decide +kernel
theorem dX12_readLine_99 : decode cX12_readLine 99 = .ok (.aload_n 0, 1) := by decide +kernel
theorem dX12_readLine_100 : decode cX12_readLine 100 = .ok (.lconst 1, 1) := by decide +kernel
theorem dX12_readLine_101 : decode cX12_readLine 101 = .ok (.ldc2_w 258, 3) := by decide +kernel
theorem dX12_readLine_104 : decode cX12_readLine 104 = .ok (.invokevirtual 260, 3) := by decide +kernel
theorem dX12_readLine_107 : decode cX12_readLine 107 = .ok (.ifCond .ne 5, 3) := by decide +kernel
theorem dX12_readLine_110 : decode cX12_readLine 110 = .ok (.iconst 0, 1) := by decide +kernel
theorem dX12_readLine_111 : decode cX12_readLine 111 = .ok (.ireturn, 1) := by decide +kernel
theorem dX12_readLine_112 : decode cX12_readLine 112 = .ok (.aload_n 0, 1) := by decide +kernel
theorem dX12_readLine_113 : decode cX12_readLine 113 = .ok (.getfield 7, 3) := by decide +kernel
theorem dX12_readLine_116 : decode cX12_readLine 116 = .ok (.bipush 10, 2) := by decide +kernel
theorem dX12_readLine_118 : decode cX12_readLine 118 = .ok (.aload_n 0, 1) := by decide +kernel
theorem dX12_readLine_119 : decode cX12_readLine 119 = .ok (.getfield 241, 3) := by decide +kernel
theorem dX12_readLine_122 : decode cX12_readLine 122 = .ok (.iastore, 1) := by decide +kernel
theorem dX12_readLine_123 : decode cX12_readLine 123 = .ok (.goto 84, 3) := by decide +kernel
theorem dX12_readLine_126 : decode cX12_readLine 126 = .ok (.aload_n 0, 1) := by decide +kernel
theorem dX12_readLine_127 : decode cX12_readLine 127 = .ok (.ldc 202, 2) := by decide +kernel
theorem dX12_readLine_129 : decode cX12_readLine 129 = .ok (.invokevirtual 184, 3) := by decide +kernel
theorem dX12_readLine_132 : decode cX12_readLine 132 = .ok (.ifCond .eq 34, 3) := by decide +kernel
theorem dX12_readLine_135 : decode cX12_readLine 135 = .ok (.aload_n 0, 1) := by decide +kernel
theorem dX12_readLine_136 : decode cX12_readLine 136 = .ok (.invokevirtual 238, 3) := by decide +kernel
theorem dX12_readLine_139 : decode cX12_readLine 139 = .ok (.aload_n 0, 1) := by decide +kernel
theorem dX12_readLine_140 : decode cX12_readLine 140 = .ok (.lconst 0, 1) := by decide +kernel
theorem dX12_readLine_141 : decode cX12_readLine 141 = .ok (.ldc2_w 264, 3) := by decide +kernel
theorem dX12_readLine_144 : decode cX12_readLine 144 = .ok (.invokevirtual 260, 3) := by decide +kernel
theorem dX12_readLine_147 : decode cX12_readLine 147 = .ok (.ifCond .ne 5, 3) := by decide +kernel
theorem dX12_readLine_150 : decode cX12_readLine 150 = .ok (.iconst 0, 1) := by decide +kernel
theorem dX12_readLine_151 : decode cX12_readLine 151 = .ok (.ireturn, 1) := by decide +kernel
theorem dX12_readLine_152 : decode cX12_readLine 152 = .ok (.aload_n 0, 1) := by decide +kernel
theorem dX12_readLine_153 : decode cX12_readLine 153 = .ok (.getfield 7, 3) := by decide +kernel
theorem dX12_readLine_156 : decode cX12_readLine 156 = .ok (.bipush 11, 2) := by decide +kernel
theorem dX12_readLine_158 : decode cX12_readLine 158 = .ok (.aload_n 0, 1) := by decide +kernel
theorem dX12_readLine_159 : decode cX12_readLine 159 = .ok (.getfield 241, 3) := by decide +kernel
theorem dX12_readLine_162 : decode cX12_readLine 162 = .ok (.iastore, 1) := by decide +kernel
theorem dX12_readLine_163 : decode cX12_readLine 163 = .ok (.goto 44, 3) := by decide +kernel
theorem dX12_readLine_166 : decode cX12_readLine 166 = .ok (.aload_n 0, 1) := by decide +kernel
theorem dX12_readLine_167 : decode cX12_readLine 167 = .ok (.ldc 211, 2) := by decide +kernel
theorem dX12_readLine_169 : decode cX12_readLine 169 = .ok (.invokevirtual 184, 3) := by decide +kernel
theorem dX12_readLine_172 : decode cX12_readLine 172 = .ok (.ifCond .eq 12, 3) := by decide +kernel
theorem dX12_readLine_175 : decode cX12_readLine 175 = .ok (.aload_n 0, 1) := by decide +kernel
theorem dX12_readLine_176 : decode cX12_readLine 176 = .ok (.invokevirtual 266, 3) := by decide +kernel
theorem dX12_readLine_179 : decode cX12_readLine 179 = .ok (.ifCond .ne 28, 3) := by decide +kernel
theorem dX12_readLine_182 : decode cX12_readLine 182 = .ok (.iconst 0, 1) := by decide +kernel
theorem dX12_readLine_183 : decode cX12_readLine 183 = .ok (.ireturn, 1) := by decide +kernel
theorem dX12_readLine_184 : decode cX12_readLine 184 = .ok (.aload_n 0, 1) := by decide +kernel
theorem dX12_readLine_185 : decode cX12_readLine 185 = .ok (.invokevirtual 213, 3) := by decide +kernel
theorem dX12_readLine_188 : decode cX12_readLine 188 = .ok (.iconst (-1), 1) := by decide +kernel
theorem dX12_readLine_189 : decode cX12_readLine 189 = .ok (.if_icmp .ne 9, 3) := by decide +kernel
theorem dX12_readLine_192 : decode cX12_readLine 192 = .ok (.aload_n 0, 1) := by decide +kernel
theorem dX12_readLine_193 : decode cX12_readLine 193 = .ok (.iconst 1, 1) := by decide +kernel
theorem dX12_readLine_194 : decode cX12_readLine 194 = .ok (.invokevirtual 234, 3) := by decide +kernel
theorem dX12_readLine_197 : decode cX12_readLine 197 = .ok (.ireturn, 1) := by decide +kernel
theorem dX12_readLine_198 : decode cX12_readLine 198 = .ok (.aload_n 0, 1) := by decide +kernel
theorem dX12_readLine_199 : decode cX12_readLine 199 = .ok (.invokevirtual 269, 3) := by decide +kernel
theorem dX12_readLine_202 : decode cX12_readLine 202 = .ok (.ifCond .ne 5, 3) := by decide +kernel
theorem dX12_readLine_205 : decode cX12_readLine 205 = .ok (.iconst 0, 1) := by decide +kernel
theorem dX12_readLine_206 : decode cX12_readLine 206 = .ok (.ireturn, 1) := by decide +kernel
theorem dX12_readLine_207 : decode cX12_readLine 207 = .ok (.aload_n 0, 1) := by decide +kernel
theorem dX12_readLine_208 : decode cX12_readLine 208 = .ok (.invokevirtual 272, 3) := by decide +kernel
theorem dX12_readLine_211 : decode cX12_readLine 211 = .ok (.ireturn, 1) := by decide +kernel
def X12_readLine_b207   (u : gM) : Option (Int32 × gM) :=
((X12_ends u).bind fun w208 => ((bI w208.1).bind fun v211 => some (v211, w208.2)))
def X12_readLine   (u : gM) : Option (Int32 × gM) :=
((X12_isWord u 1).bind fun w3 => (if w3 = 0 then ((X12_isWord u 2).bind fun w46 => (if w46 = 0 then ((X12_isWord u 3).bind fun w89 => (if w89 = 0 then ((X12_isWord u 4).bind fun w129 => (if w129 = 0 then ((X12_isWord u 9).bind fun w169 => (if w169 = 0 then ((X12_kindHere u).bind fun w185 => (if w185 = (-1) then ((X12_fails 1 u).bind fun w194 => ((bI w194.1).bind fun v197 => some (v197, w194.2)))
            else ((X12_readAccount u).bind fun w199 => (if w199.1 = 0 then some (0, w199.2)
              else (X12_readLine_b207 w199.2)))))
          else ((X12_readLoan u).bind fun w176 => (if w176.1 = 0 then some (0, w176.2)
            else (X12_readLine_b207 w176.2)))))
        else ((X12_next u).bind fun w136 => ((X12_readNumber 0 60 w136).bind fun w144 => (if w144.1 = 0 then some (0, w144.2)
          else ((sI skM w144.2 1 11 (w144.2.1 0 31)).bind fun u162 => (X12_readLine_b207 u162)))))))
      else ((X12_next u).bind fun w96 => ((X12_readNumber 1 100000000 w96).bind fun w104 => (if w104.1 = 0 then some (0, w104.2)
        else ((sI skM w104.2 1 10 (w104.2.1 0 31)).bind fun u122 => (X12_readLine_b207 u122)))))))
    else ((X12_next u).bind fun w53 => ((X12_readNew 3 1 6 w53).bind fun w64 => (if w64.1 = 0 then some (0, w64.2)
      else ((aI skM w64.2 1 7).bind fun v79 => ((sI skM w64.2 1 7 (v79 + 1)).bind fun u82 => (X12_readLine_b207 u82))))))))
  else ((X12_next u).bind fun w10 => ((X12_readNew 2 0 10 w10).bind fun w21 => (if w21.1 = 0 then some (0, w21.2)
    else ((aI skM w21.2 1 6).bind fun v36 => ((sI skM w21.2 1 6 (v36 + 1)).bind fun u39 => (X12_readLine_b207 u39))))))))
set_option maxRecDepth 20000 in
theorem v_X12_readLine_b207 {κ : gK} {B : Nat} {u : gM} (X : gX κ B skM cX12_readLine 1 RX12 (some .boolean) 11 250)    {w : (Int32 × gM)} (hM : X12_readLine_b207 u = some w) : gV κ B skM 1 ((some (.int w.1)), w.2) 207 [some (.ref (B + 0))] [] u := by
  unfold X12_readLine_b207 at hM
  refine g_aload_n X dX12_readLine_207 rfl ?_
  obtain ⟨w208, e208, hM⟩ := bind_of hM
  refine g_callVi X (fun B adK => []) (s_X12_ends e208) cvX12_272 cM_0 rfl rfl (Nat.le_of_ble_eq_true rfl) ⟨by decide, by decide⟩ dX12_readLine_208 ?_
  obtain ⟨v211, e211, hM⟩ := bind_of hM
  obtain ⟨hv, rfl⟩ := bI_of e211
  cases hM
  exact g_zret X hv dX12_readLine_211
set_option maxRecDepth 20000 in
theorem v_X12_readLine {κ : gK} {B : Nat} {u : gM} (X : gX κ B skM cX12_readLine 1 RX12 (some .boolean) 11 250)    {w : (Int32 × gM)} (hM : X12_readLine u = some w) : gV κ B skM 1 ((some (.int w.1)), w.2) 0 [some (.ref (B + 0))] [] u := by
  unfold X12_readLine at hM
  refine g_aload_n X dX12_readLine_0 rfl ?_
  refine g_ldcS (i := 1) X rfl dX12_readLine_1 ?_
  obtain ⟨w3, e3, hM⟩ := bind_of hM
  refine g_callVi X (fun B adK => [.ref (adK 1)]) (s_X12_isWord e3) cvX12_184 cM_0 rfl rfl (Nat.le_of_ble_eq_true rfl) ⟨by decide, by decide⟩ dX12_readLine_3 ?_
  refine g_if_eq (tgt := 43) X dX12_readLine_6 (by decide) (fun c6 => ?_) (fun c6 => ?_)
  · rw [if_pos c6] at hM
    refine g_aload_n X dX12_readLine_43 rfl ?_
    refine g_ldcS (i := 2) X rfl dX12_readLine_44 ?_
    obtain ⟨w46, e46, hM⟩ := bind_of hM
    refine g_callVi X (fun B adK => [.ref (adK 2)]) (s_X12_isWord e46) cvX12_184 cM_0 rfl rfl (Nat.le_of_ble_eq_true rfl) ⟨by decide, by decide⟩ dX12_readLine_46 ?_
    refine g_if_eq (tgt := 86) X dX12_readLine_49 (by decide) (fun c49 => ?_) (fun c49 => ?_)
    · rw [if_pos c49] at hM
      refine g_aload_n X dX12_readLine_86 rfl ?_
      refine g_ldcS (i := 3) X rfl dX12_readLine_87 ?_
      obtain ⟨w89, e89, hM⟩ := bind_of hM
      refine g_callVi X (fun B adK => [.ref (adK 3)]) (s_X12_isWord e89) cvX12_184 cM_0 rfl rfl (Nat.le_of_ble_eq_true rfl) ⟨by decide, by decide⟩ dX12_readLine_89 ?_
      refine g_if_eq (tgt := 126) X dX12_readLine_92 (by decide) (fun c92 => ?_) (fun c92 => ?_)
      · rw [if_pos c92] at hM
        refine g_aload_n X dX12_readLine_126 rfl ?_
        refine g_ldcS (i := 4) X rfl dX12_readLine_127 ?_
        obtain ⟨w129, e129, hM⟩ := bind_of hM
        refine g_callVi X (fun B adK => [.ref (adK 4)]) (s_X12_isWord e129) cvX12_184 cM_0 rfl rfl (Nat.le_of_ble_eq_true rfl) ⟨by decide, by decide⟩ dX12_readLine_129 ?_
        refine g_if_eq (tgt := 166) X dX12_readLine_132 (by decide) (fun c132 => ?_) (fun c132 => ?_)
        · rw [if_pos c132] at hM
          refine g_aload_n X dX12_readLine_166 rfl ?_
          refine g_ldcS (i := 9) X rfl dX12_readLine_167 ?_
          obtain ⟨w169, e169, hM⟩ := bind_of hM
          refine g_callVi X (fun B adK => [.ref (adK 9)]) (s_X12_isWord e169) cvX12_184 cM_0 rfl rfl (Nat.le_of_ble_eq_true rfl) ⟨by decide, by decide⟩ dX12_readLine_169 ?_
          refine g_if_eq (tgt := 184) X dX12_readLine_172 (by decide) (fun c172 => ?_) (fun c172 => ?_)
          · rw [if_pos c172] at hM
            refine g_aload_n X dX12_readLine_184 rfl ?_
            obtain ⟨w185, e185, hM⟩ := bind_of hM
            refine g_callVi X (fun B adK => []) (s_X12_kindHere e185) cvX12_213 cM_0 rfl rfl (Nat.le_of_ble_eq_true rfl) ⟨by decide, by decide⟩ dX12_readLine_185 ?_
            refine g_iconst X (v := (-1)) dX12_readLine_188 (by decide) ?_
            refine g_icmp_ne (tgt := 198) X dX12_readLine_189 (by decide) (fun c189 => ?_) (fun c189 => ?_)
            · rw [if_neg c189] at hM
              refine g_aload_n X dX12_readLine_198 rfl ?_
              obtain ⟨w199, e199, hM⟩ := bind_of hM
              refine g_callVi X (fun B adK => []) (s_X12_readAccount e199) cvX12_269 cM_0 rfl rfl (Nat.le_of_ble_eq_true rfl) ⟨by decide, by decide⟩ dX12_readLine_199 ?_
              refine g_if_ne (tgt := 207) X dX12_readLine_202 (by decide) (fun c202 => ?_) (fun c202 => ?_)
              · rw [if_neg c202] at hM
                refine g_mk [true] [some (.ref (B + 0))] rfl ?_
                exact v_X12_readLine_b207 X  hM
              · rw [if_pos c202] at hM
                refine g_iconst X (v := 0) dX12_readLine_205 (by decide) ?_
                cases hM
                exact g_zret X (Or.inl rfl) dX12_readLine_206
            · rw [if_pos c189] at hM
              refine g_aload_n X dX12_readLine_192 rfl ?_
              refine g_iconst X (v := 1) dX12_readLine_193 (by decide) ?_
              obtain ⟨w194, e194, hM⟩ := bind_of hM
              refine g_callVi X (fun B adK => [.int 1]) (s_X12_fails e194) cvX12_234 cM_0 rfl rfl (Nat.le_of_ble_eq_true rfl) ⟨by decide, by decide⟩ dX12_readLine_194 ?_
              obtain ⟨v197, e197, hM⟩ := bind_of hM
              obtain ⟨hv, rfl⟩ := bI_of e197
              cases hM
              exact g_zret X hv dX12_readLine_197
          · rw [if_neg c172] at hM
            refine g_aload_n X dX12_readLine_175 rfl ?_
            obtain ⟨w176, e176, hM⟩ := bind_of hM
            refine g_callVi X (fun B adK => []) (s_X12_readLoan e176) cvX12_266 cM_0 rfl rfl (Nat.le_of_ble_eq_true rfl) ⟨by decide, by decide⟩ dX12_readLine_176 ?_
            refine g_if_ne (tgt := 207) X dX12_readLine_179 (by decide) (fun c179 => ?_) (fun c179 => ?_)
            · rw [if_neg c179] at hM
              refine g_mk [true] [some (.ref (B + 0))] rfl ?_
              exact v_X12_readLine_b207 X  hM
            · rw [if_pos c179] at hM
              refine g_iconst X (v := 0) dX12_readLine_182 (by decide) ?_
              cases hM
              exact g_zret X (Or.inl rfl) dX12_readLine_183
        · rw [if_neg c132] at hM
          refine g_aload_n X dX12_readLine_135 rfl ?_
          obtain ⟨w136, e136, hM⟩ := bind_of hM
          refine g_callVv X (fun B adK => []) (s_X12_next e136) cvX12_238 cM_0 rfl rfl (Nat.le_of_ble_eq_true rfl) ⟨by decide, by decide⟩ dX12_readLine_136 ?_
          refine g_aload_n X dX12_readLine_139 rfl ?_
          refine g_lconst (v := 0) X dX12_readLine_140 (by decide) ?_
          refine g_ldc2 (v := 60) X m_23_12 dX12_readLine_141 ?_
          obtain ⟨w144, e144, hM⟩ := bind_of hM
          refine g_callVi X (fun B adK => [.long 0, .long 60]) (s_X12_readNumber e144) cvX12_260 cM_0 rfl rfl (Nat.le_of_ble_eq_true rfl) ⟨by decide, by decide⟩ dX12_readLine_144 ?_
          refine g_if_ne (tgt := 152) X dX12_readLine_147 (by decide) (fun c147 => ?_) (fun c147 => ?_)
          · rw [if_neg c147] at hM
            refine g_aload_n X dX12_readLine_152 rfl ?_
            refine g_getR X fX12_7 cM_0 rfl dX12_readLine_153 ?_
            refine g_bipush X (v := 11) dX12_readLine_156 (by decide) ?_
            refine g_aload_n X dX12_readLine_158 rfl ?_
            refine g_getI X fX12_241 cM_0 rfl dX12_readLine_159 ?_
            obtain ⟨u162, e162, hM⟩ := bind_of hM
            refine g_iastore X e162 dX12_readLine_162 ?_
            refine g_goto (tgt := 207) X dX12_readLine_163 (by decide) ?_
            refine g_mk [true] [some (.ref (B + 0))] rfl ?_
            exact v_X12_readLine_b207 X  hM
          · rw [if_pos c147] at hM
            refine g_iconst X (v := 0) dX12_readLine_150 (by decide) ?_
            cases hM
            exact g_zret X (Or.inl rfl) dX12_readLine_151
      · rw [if_neg c92] at hM
        refine g_aload_n X dX12_readLine_95 rfl ?_
        obtain ⟨w96, e96, hM⟩ := bind_of hM
        refine g_callVv X (fun B adK => []) (s_X12_next e96) cvX12_238 cM_0 rfl rfl (Nat.le_of_ble_eq_true rfl) ⟨by decide, by decide⟩ dX12_readLine_96 ?_
        refine g_aload_n X dX12_readLine_99 rfl ?_
        refine g_lconst (v := 1) X dX12_readLine_100 (by decide) ?_
        refine g_ldc2 (v := 100000000) X m_23_10 dX12_readLine_101 ?_
        obtain ⟨w104, e104, hM⟩ := bind_of hM
        refine g_callVi X (fun B adK => [.long 1, .long 100000000]) (s_X12_readNumber e104) cvX12_260 cM_0 rfl rfl (Nat.le_of_ble_eq_true rfl) ⟨by decide, by decide⟩ dX12_readLine_104 ?_
        refine g_if_ne (tgt := 112) X dX12_readLine_107 (by decide) (fun c107 => ?_) (fun c107 => ?_)
        · rw [if_neg c107] at hM
          refine g_aload_n X dX12_readLine_112 rfl ?_
          refine g_getR X fX12_7 cM_0 rfl dX12_readLine_113 ?_
          refine g_bipush X (v := 10) dX12_readLine_116 (by decide) ?_
          refine g_aload_n X dX12_readLine_118 rfl ?_
          refine g_getI X fX12_241 cM_0 rfl dX12_readLine_119 ?_
          obtain ⟨u122, e122, hM⟩ := bind_of hM
          refine g_iastore X e122 dX12_readLine_122 ?_
          refine g_goto (tgt := 207) X dX12_readLine_123 (by decide) ?_
          refine g_mk [true] [some (.ref (B + 0))] rfl ?_
          exact v_X12_readLine_b207 X  hM
        · rw [if_pos c107] at hM
          refine g_iconst X (v := 0) dX12_readLine_110 (by decide) ?_
          cases hM
          exact g_zret X (Or.inl rfl) dX12_readLine_111
    · rw [if_neg c49] at hM
      refine g_aload_n X dX12_readLine_52 rfl ?_
      obtain ⟨w53, e53, hM⟩ := bind_of hM
      refine g_callVv X (fun B adK => []) (s_X12_next e53) cvX12_238 cM_0 rfl rfl (Nat.le_of_ble_eq_true rfl) ⟨by decide, by decide⟩ dX12_readLine_53 ?_
      refine g_aload_n X dX12_readLine_56 rfl ?_
      refine g_aload_n X dX12_readLine_57 rfl ?_
      refine g_getR X fX12_17 cM_0 rfl dX12_readLine_58 ?_
      refine g_iconst X (v := 1) dX12_readLine_61 (by decide) ?_
      refine g_bipush X (v := 6) dX12_readLine_62 (by decide) ?_
      obtain ⟨w64, e64, hM⟩ := bind_of hM
      refine g_callVi X (fun B adK => [.ref (B + 3), .int 1, .int 6]) (s_X12_readNew e64) cvX12_254 cM_0 rfl rfl (Nat.le_of_ble_eq_true rfl) ⟨by decide, by decide⟩ dX12_readLine_64 ?_
      refine g_if_ne (tgt := 72) X dX12_readLine_67 (by decide) (fun c67 => ?_) (fun c67 => ?_)
      · rw [if_neg c67] at hM
        refine g_aload_n X dX12_readLine_72 rfl ?_
        refine g_getR X fX12_7 cM_0 rfl dX12_readLine_73 ?_
        refine g_bipush X (v := 7) dX12_readLine_76 (by decide) ?_
        refine g_dup2_11 X rfl rfl dX12_readLine_78 ?_
        obtain ⟨v79, e79, hM⟩ := bind_of hM
        refine g_iaload X e79 dX12_readLine_79 ?_
        refine g_iconst X (v := 1) dX12_readLine_80 (by decide) ?_
        refine g_iadd X dX12_readLine_81 ?_
        obtain ⟨u82, e82, hM⟩ := bind_of hM
        refine g_iastore X e82 dX12_readLine_82 ?_
        refine g_goto (tgt := 207) X dX12_readLine_83 (by decide) ?_
        refine g_mk [true] [some (.ref (B + 0))] rfl ?_
        exact v_X12_readLine_b207 X  hM
      · rw [if_pos c67] at hM
        refine g_iconst X (v := 0) dX12_readLine_70 (by decide) ?_
        cases hM
        exact g_zret X (Or.inl rfl) dX12_readLine_71
  · rw [if_neg c6] at hM
    refine g_aload_n X dX12_readLine_9 rfl ?_
    obtain ⟨w10, e10, hM⟩ := bind_of hM
    refine g_callVv X (fun B adK => []) (s_X12_next e10) cvX12_238 cM_0 rfl rfl (Nat.le_of_ble_eq_true rfl) ⟨by decide, by decide⟩ dX12_readLine_10 ?_
    refine g_aload_n X dX12_readLine_13 rfl ?_
    refine g_aload_n X dX12_readLine_14 rfl ?_
    refine g_getR X fX12_13 cM_0 rfl dX12_readLine_15 ?_
    refine g_iconst X (v := 0) dX12_readLine_18 (by decide) ?_
    refine g_bipush X (v := 10) dX12_readLine_19 (by decide) ?_
    obtain ⟨w21, e21, hM⟩ := bind_of hM
    refine g_callVi X (fun B adK => [.ref (B + 2), .int 0, .int 10]) (s_X12_readNew e21) cvX12_254 cM_0 rfl rfl (Nat.le_of_ble_eq_true rfl) ⟨by decide, by decide⟩ dX12_readLine_21 ?_
    refine g_if_ne (tgt := 29) X dX12_readLine_24 (by decide) (fun c24 => ?_) (fun c24 => ?_)
    · rw [if_neg c24] at hM
      refine g_aload_n X dX12_readLine_29 rfl ?_
      refine g_getR X fX12_7 cM_0 rfl dX12_readLine_30 ?_
      refine g_bipush X (v := 6) dX12_readLine_33 (by decide) ?_
      refine g_dup2_11 X rfl rfl dX12_readLine_35 ?_
      obtain ⟨v36, e36, hM⟩ := bind_of hM
      refine g_iaload X e36 dX12_readLine_36 ?_
      refine g_iconst X (v := 1) dX12_readLine_37 (by decide) ?_
      refine g_iadd X dX12_readLine_38 ?_
      obtain ⟨u39, e39, hM⟩ := bind_of hM
      refine g_iastore X e39 dX12_readLine_39 ?_
      refine g_goto (tgt := 207) X dX12_readLine_40 (by decide) ?_
      refine g_mk [true] [some (.ref (B + 0))] rfl ?_
      exact v_X12_readLine_b207 X  hM
    · rw [if_pos c24] at hM
      refine g_iconst X (v := 0) dX12_readLine_27 (by decide) ?_
      cases hM
      exact g_zret X (Or.inl rfl) dX12_readLine_28
theorem s_X12_readLine  {u : gM} {w : (Int32 × gM)} (hM : X12_readLine u = some w) : gMet skM yX12_readLine cX12_readLine 1 (some .boolean) 11 250 (fun B adK => [.ref (B + 0)]) u ((fun _ => some (.int w.1)), w.2) := by
  refine gMet.of (by decide) (fun _ _ => Nat.le_of_ble_eq_true rfl) (fun κ B X => ?_)
  have X : gX κ B skM cX12_readLine 1 RX12 (some .boolean) 11 250 := X
  refine g_mk [true] [some (.ref (B + 0))] rfl ?_
  exact v_X12_readLine X  hM
theorem fr_X12_readLine_b207 {S : Nat → Prop} {u0 u : gM}  (hs0 : S 0)   {w : (Int32 × gM)} (hM : X12_readLine_b207 u = some w) (h0 : off S u0 u) : off S u0 w.2 := by
  unfold X12_readLine_b207 at hM
  obtain ⟨w208, e208, hM⟩ := bind_of hM
  have h0 := fr_X12_ends hs0 e208 h0
  obtain ⟨v211, e211, hM⟩ := bind_of hM
  cases hM
  exact h0
theorem fr_X12_readLine {S : Nat → Prop} {u0 u : gM}  (hs0 : S 0) (hs1 : S 1) (hs2 : S 10) (hs3 : S 11) (hs4 : S 12) (hs5 : S 13) (hs6 : S 14) (hs7 : S 15) (hs8 : S 2) (hs9 : S 3) (hs10 : S 4) (hs11 : S 5) (hs12 : S 6) (hs13 : S 7) (hs14 : S 8) (hs15 : S 9)   {w : (Int32 × gM)} (hM : X12_readLine u = some w) (h0 : off S u0 u) : off S u0 w.2 := by
  unfold X12_readLine at hM
  obtain ⟨w3, e3, hM⟩ := bind_of hM
  by_cases c6 : w3 = 0
  · rw [if_pos c6] at hM
    obtain ⟨w46, e46, hM⟩ := bind_of hM
    by_cases c49 : w46 = 0
    · rw [if_pos c49] at hM
      obtain ⟨w89, e89, hM⟩ := bind_of hM
      by_cases c92 : w89 = 0
      · rw [if_pos c92] at hM
        obtain ⟨w129, e129, hM⟩ := bind_of hM
        by_cases c132 : w129 = 0
        · rw [if_pos c132] at hM
          obtain ⟨w169, e169, hM⟩ := bind_of hM
          by_cases c172 : w169 = 0
          · rw [if_pos c172] at hM
            obtain ⟨w185, e185, hM⟩ := bind_of hM
            by_cases c189 : w185 = (-1)
            · rw [if_pos c189] at hM
              obtain ⟨w194, e194, hM⟩ := bind_of hM
              have h0 := fr_X12_fails hs0 e194 h0
              obtain ⟨v197, e197, hM⟩ := bind_of hM
              cases hM
              exact h0
            · rw [if_neg c189] at hM
              obtain ⟨w199, e199, hM⟩ := bind_of hM
              have h0 := fr_X12_readAccount hs0 hs1 hs2 hs3 hs4 hs10 hs11 hs12 hs13 hs14 hs15 e199 h0
              by_cases c202 : w199.1 = 0
              · rw [if_pos c202] at hM
                cases hM
                exact h0
              · rw [if_neg c202] at hM
                exact fr_X12_readLine_b207 hs0  hM h0
          · rw [if_neg c172] at hM
            obtain ⟨w176, e176, hM⟩ := bind_of hM
            have h0 := fr_X12_readLoan hs0 hs1 hs5 hs6 hs7 e176 h0
            by_cases c179 : w176.1 = 0
            · rw [if_pos c179] at hM
              cases hM
              exact h0
            · rw [if_neg c179] at hM
              exact fr_X12_readLine_b207 hs0  hM h0
        · rw [if_neg c132] at hM
          obtain ⟨w136, e136, hM⟩ := bind_of hM
          have h0 := fr_X12_next hs0 e136 h0
          obtain ⟨w144, e144, hM⟩ := bind_of hM
          have h0 := fr_X12_readNumber hs0 e144 h0
          by_cases c147 : w144.1 = 0
          · rw [if_pos c147] at hM
            cases hM
            exact h0
          · rw [if_neg c147] at hM
            obtain ⟨u162, e162, hM⟩ := bind_of hM
            have h0 := off_sI hs1 e162 h0
            exact fr_X12_readLine_b207 hs0  hM h0
      · rw [if_neg c92] at hM
        obtain ⟨w96, e96, hM⟩ := bind_of hM
        have h0 := fr_X12_next hs0 e96 h0
        obtain ⟨w104, e104, hM⟩ := bind_of hM
        have h0 := fr_X12_readNumber hs0 e104 h0
        by_cases c107 : w104.1 = 0
        · rw [if_pos c107] at hM
          cases hM
          exact h0
        · rw [if_neg c107] at hM
          obtain ⟨u122, e122, hM⟩ := bind_of hM
          have h0 := off_sI hs1 e122 h0
          exact fr_X12_readLine_b207 hs0  hM h0
    · rw [if_neg c49] at hM
      obtain ⟨w53, e53, hM⟩ := bind_of hM
      have h0 := fr_X12_next hs0 e53 h0
      obtain ⟨w64, e64, hM⟩ := bind_of hM
      have h0 := fr_X12_readNew hs0 hs9 e64 h0
      by_cases c67 : w64.1 = 0
      · rw [if_pos c67] at hM
        cases hM
        exact h0
      · rw [if_neg c67] at hM
        obtain ⟨v79, e79, hM⟩ := bind_of hM
        obtain ⟨u82, e82, hM⟩ := bind_of hM
        have h0 := off_sI hs1 e82 h0
        exact fr_X12_readLine_b207 hs0  hM h0
  · rw [if_neg c6] at hM
    obtain ⟨w10, e10, hM⟩ := bind_of hM
    have h0 := fr_X12_next hs0 e10 h0
    obtain ⟨w21, e21, hM⟩ := bind_of hM
    have h0 := fr_X12_readNew hs0 hs8 e21 h0
    by_cases c24 : w21.1 = 0
    · rw [if_pos c24] at hM
      cases hM
      exact h0
    · rw [if_neg c24] at hM
      obtain ⟨v36, e36, hM⟩ := bind_of hM
      obtain ⟨u39, e39, hM⟩ := bind_of hM
      have h0 := off_sI hs1 e39 h0
      exact fr_X12_readLine_b207 hs0  hM h0
/-! CoverDeskModel.isRead()Z -/
theorem dX12_isRead_0 : decode cX12_isRead 0 = .ok (.aload_n 0, 1) := by decide +kernel
theorem dX12_isRead_1 : decode cX12_isRead 1 = .ok (.iconst 0, 1) := by decide +kernel
theorem dX12_isRead_2 : decode cX12_isRead 2 = .ok (.putfield 118, 3) := by decide +kernel
theorem dX12_isRead_5 : decode cX12_isRead 5 = .ok (.aload_n 0, 1) := by decide +kernel
theorem dX12_isRead_6 : decode cX12_isRead 6 = .ok (.aload_n 0, 1) := by decide +kernel
theorem dX12_isRead_7 : decode cX12_isRead 7 = .ok (.getfield 162, 3) := by decide +kernel
theorem dX12_isRead_10 : decode cX12_isRead 10 = .ok (.putfield 287, 3) := by decide +kernel
theorem dX12_isRead_13 : decode cX12_isRead 13 = .ok (.aload_n 0, 1) := by decide +kernel
theorem dX12_isRead_14 : decode cX12_isRead 14 = .ok (.aload_n 0, 1) := by decide +kernel
theorem dX12_isRead_15 : decode cX12_isRead 15 = .ok (.getfield 165, 3) := by decide +kernel
theorem dX12_isRead_18 : decode cX12_isRead 18 = .ok (.putfield 68, 3) := by decide +kernel
theorem dX12_isRead_21 : decode cX12_isRead 21 = .ok (.aload_n 0, 1) := by decide +kernel
theorem dX12_isRead_22 : decode cX12_isRead 22 = .ok (.getfield 162, 3) := by decide +kernel
theorem dX12_isRead_25 : decode cX12_isRead 25 = .ok (.ifCond .ne 7, 3) := by decide +kernel
theorem dX12_isRead_28 : decode cX12_isRead 28 = .ok (.iconst 1, 1) := by decide +kernel
theorem dX12_isRead_29 : decode cX12_isRead 29 = .ok (.goto 4, 3) := by decide +kernel
theorem dX12_isRead_32 : decode cX12_isRead 32 = .ok (.iconst 0, 1) := by decide +kernel
theorem dX12_isRead_33 : decode cX12_isRead 33 = .ok (.ireturn, 1) := by decide +kernel
def X12_isRead_b33  (s0 : Int32) (u : gM) : Option (Int32 × gM) :=
((bI s0).bind fun v33 => some (v33, u))
def X12_isRead_b13   (u : gM) : Option (Int32 × gM) :=
(if ((upI u 0 22 (u.1 0 24)).1 0 23) = 0 then (X12_isRead_b33 1 (upI u 0 22 (u.1 0 24)))
  else (X12_isRead_b33 0 (upI u 0 22 (u.1 0 24))))
def X12_isRead   (u : gM) : Option (Int32 × gM) :=
(X12_isRead_b13 (upI (upI u 0 20 0) 0 21 ((upI u 0 20 0).1 0 23)))
set_option maxRecDepth 20000 in
theorem v_X12_isRead_b33 {κ : gK} {B : Nat} {u : gM} (X : gX κ B skM cX12_isRead 1 RX12 (some .boolean) 0 0)   {s0 : Int32} {w : (Int32 × gM)} (hM : X12_isRead_b33 s0 u = some w) : gV κ B skM 1 ((some (.int w.1)), w.2) 33 [none] [.int s0] u := by
  unfold X12_isRead_b33 at hM
  obtain ⟨v33, e33, hM⟩ := bind_of hM
  obtain ⟨hv, rfl⟩ := bI_of e33
  cases hM
  exact g_zret X hv dX12_isRead_33
set_option maxRecDepth 20000 in
theorem v_X12_isRead_b13 {κ : gK} {B : Nat} {u : gM} (X : gX κ B skM cX12_isRead 1 RX12 (some .boolean) 0 0)    {w : (Int32 × gM)} (hM : X12_isRead_b13 u = some w) : gV κ B skM 1 ((some (.int w.1)), w.2) 13 [some (.ref (B + 0))] [] u := by
  unfold X12_isRead_b13 at hM
  refine g_aload_n X dX12_isRead_13 rfl ?_
  refine g_aload_n X dX12_isRead_14 rfl ?_
  refine g_getI X fX12_165 cM_0 rfl dX12_isRead_15 ?_
  refine g_putI X fX12_68 gc_X12 gp_X12_22 cM_0 rfl dX12_isRead_18 ?_
  refine g_aload_n X dX12_isRead_21 rfl ?_
  refine g_getI X fX12_162 cM_0 rfl dX12_isRead_22 ?_
  refine g_if_ne (tgt := 32) X dX12_isRead_25 (by decide) (fun c25 => ?_) (fun c25 => ?_)
  · rw [if_neg c25] at hM
    refine g_iconst X (v := 0) dX12_isRead_32 (by decide) ?_
    refine g_mk [false] [none] rfl ?_
    exact v_X12_isRead_b33 X  hM
  · rw [if_pos c25] at hM
    refine g_iconst X (v := 1) dX12_isRead_28 (by decide) ?_
    refine g_goto (tgt := 33) X dX12_isRead_29 (by decide) ?_
    refine g_mk [false] [none] rfl ?_
    exact v_X12_isRead_b33 X  hM
set_option maxRecDepth 20000 in
theorem v_X12_isRead {κ : gK} {B : Nat} {u : gM} (X : gX κ B skM cX12_isRead 1 RX12 (some .boolean) 0 0)    {w : (Int32 × gM)} (hM : X12_isRead u = some w) : gV κ B skM 1 ((some (.int w.1)), w.2) 0 [some (.ref (B + 0))] [] u := by
  unfold X12_isRead at hM
  refine g_aload_n X dX12_isRead_0 rfl ?_
  refine g_iconst X (v := 0) dX12_isRead_1 (by decide) ?_
  refine g_putI X fX12_118 gc_X12 gp_X12_20 cM_0 rfl dX12_isRead_2 ?_
  refine g_aload_n X dX12_isRead_5 rfl ?_
  refine g_aload_n X dX12_isRead_6 rfl ?_
  refine g_getI X fX12_162 cM_0 rfl dX12_isRead_7 ?_
  refine g_putI X fX12_287 gc_X12 gp_X12_21 cM_0 rfl dX12_isRead_10 ?_
  refine g_mk [true] [some (.ref (B + 0))] rfl ?_
  exact v_X12_isRead_b13 X  hM
theorem s_X12_isRead  {u : gM} {w : (Int32 × gM)} (hM : X12_isRead u = some w) : gMet skM yX12_isRead cX12_isRead 1 (some .boolean) 0 0 (fun B adK => [.ref (B + 0)]) u ((fun _ => some (.int w.1)), w.2) := by
  refine gMet.of (by decide) (fun _ _ => Nat.le_of_ble_eq_true rfl) (fun κ B X => ?_)
  have X : gX κ B skM cX12_isRead 1 RX12 (some .boolean) 0 0 := X
  refine g_mk [true] [some (.ref (B + 0))] rfl ?_
  exact v_X12_isRead X  hM
theorem fr_X12_isRead_b33 {S : Nat → Prop} {u0 u : gM} {s0 : Int32}    {w : (Int32 × gM)} (hM : X12_isRead_b33 s0 u = some w) (h0 : off S u0 u) : off S u0 w.2 := by
  unfold X12_isRead_b33 at hM
  obtain ⟨v33, e33, hM⟩ := bind_of hM
  cases hM
  exact h0
theorem fr_X12_isRead_b13 {S : Nat → Prop} {u0 u : gM}  (hs0 : S 0)   {w : (Int32 × gM)} (hM : X12_isRead_b13 u = some w) (h0 : off S u0 u) : off S u0 w.2 := by
  unfold X12_isRead_b13 at hM
  have h0 := off_upI (u := u) (k := 0) (j := 22) (x := (u.1 0 24)) hs0 h0
  by_cases c25 : ((upI u 0 22 (u.1 0 24)).1 0 23) = 0
  · rw [if_pos c25] at hM
    exact fr_X12_isRead_b33   hM h0
  · rw [if_neg c25] at hM
    exact fr_X12_isRead_b33   hM h0
theorem fr_X12_isRead {S : Nat → Prop} {u0 u : gM}  (hs0 : S 0)   {w : (Int32 × gM)} (hM : X12_isRead u = some w) (h0 : off S u0 u) : off S u0 w.2 := by
  unfold X12_isRead at hM
  have h0 := off_upI (u := u) (k := 0) (j := 20) (x := 0) hs0 h0
  have h0 := off_upI (u := (upI u 0 20 0)) (k := 0) (j := 21) (x := ((upI u 0 20 0).1 0 23)) hs0 h0
  exact fr_X12_isRead_b13 hs0  hM h0
/-! CoverDeskModel.takesOver(II)V -/
theorem dX12_takesOver_0 : decode cX12_takesOver 0 = .ok (.aload_n 0, 1) := by decide +kernel
theorem dX12_takesOver_1 : decode cX12_takesOver 1 = .ok (.getfield 20, 3) := by decide +kernel
theorem dX12_takesOver_4 : decode cX12_takesOver 4 = .ok (.iload_n 1, 1) := by decide +kernel
theorem dX12_takesOver_5 : decode cX12_takesOver 5 = .ok (.aload_n 0, 1) := by decide +kernel
theorem dX12_takesOver_6 : decode cX12_takesOver 6 = .ok (.getfield 20, 3) := by decide +kernel
theorem dX12_takesOver_9 : decode cX12_takesOver 9 = .ok (.iload_n 2, 1) := by decide +kernel
theorem dX12_takesOver_10 : decode cX12_takesOver 10 = .ok (.laload, 1) := by decide +kernel
theorem dX12_takesOver_11 : decode cX12_takesOver 11 = .ok (.lastore, 1) := by decide +kernel
theorem dX12_takesOver_12 : decode cX12_takesOver 12 = .ok (.aload_n 0, 1) := by decide +kernel
theorem dX12_takesOver_13 : decode cX12_takesOver 13 = .ok (.getfield 23, 3) := by decide +kernel
theorem dX12_takesOver_16 : decode cX12_takesOver 16 = .ok (.iload_n 1, 1) := by decide +kernel
theorem dX12_takesOver_17 : decode cX12_takesOver 17 = .ok (.aload_n 0, 1) := by decide +kernel
theorem dX12_takesOver_18 : decode cX12_takesOver 18 = .ok (.getfield 23, 3) := by decide +kernel
theorem dX12_takesOver_21 : decode cX12_takesOver 21 = .ok (.iload_n 2, 1) := by decide +kernel
theorem dX12_takesOver_22 : decode cX12_takesOver 22 = .ok (.iaload, 1) := by decide +kernel
theorem dX12_takesOver_23 : decode cX12_takesOver 23 = .ok (.iastore, 1) := by decide +kernel
theorem dX12_takesOver_24 : decode cX12_takesOver 24 = .ok (.aload_n 0, 1) := by decide +kernel
theorem dX12_takesOver_25 : decode cX12_takesOver 25 = .ok (.getfield 26, 3) := by decide +kernel
theorem dX12_takesOver_28 : decode cX12_takesOver 28 = .ok (.iload_n 1, 1) := by decide +kernel
theorem dX12_takesOver_29 : decode cX12_takesOver 29 = .ok (.aload_n 0, 1) := by decide +kernel
theorem dX12_takesOver_30 : decode cX12_takesOver 30 = .ok (.getfield 26, 3) := by decide +kernel
theorem dX12_takesOver_33 : decode cX12_takesOver 33 = .ok (.iload_n 2, 1) := by decide +kernel
theorem dX12_takesOver_34 : decode cX12_takesOver 34 = .ok (.iaload, 1) := by decide +kernel
theorem dX12_takesOver_35 : decode cX12_takesOver 35 = .ok (.iastore, 1) := by decide +kernel
theorem dX12_takesOver_36 : decode cX12_takesOver 36 = .ok (.aload_n 0, 1) := by decide +kernel
theorem dX12_takesOver_37 : decode cX12_takesOver 37 = .ok (.getfield 29, 3) := by decide +kernel
theorem dX12_takesOver_40 : decode cX12_takesOver 40 = .ok (.iload_n 1, 1) := by decide +kernel
theorem dX12_takesOver_41 : decode cX12_takesOver 41 = .ok (.aload_n 0, 1) := by decide +kernel
theorem dX12_takesOver_42 : decode cX12_takesOver 42 = .ok (.getfield 29, 3) := by decide +kernel
theorem dX12_takesOver_45 : decode cX12_takesOver 45 = .ok (.iload_n 2, 1) := by decide +kernel
theorem dX12_takesOver_46 : decode cX12_takesOver 46 = .ok (.iaload, 1) := by decide +kernel
theorem dX12_takesOver_47 : decode cX12_takesOver 47 = .ok (.iastore, 1) := by decide +kernel
theorem dX12_takesOver_48 : decode cX12_takesOver 48 = .ok (.iconst 0, 1) := by decide +kernel
theorem dX12_takesOver_49 : decode cX12_takesOver 49 = .ok (.istore_n 3, 1) := by decide +kernel
theorem dX12_takesOver_50 : decode cX12_takesOver 50 = .ok (.iload_n 3, 1) := by decide +kernel
theorem dX12_takesOver_51 : decode cX12_takesOver 51 = .ok (.iconst 4, 1) := by decide +kernel
theorem dX12_takesOver_52 : decode cX12_takesOver 52 = .ok (.if_icmp .ge 29, 3) := by decide +kernel
theorem dX12_takesOver_55 : decode cX12_takesOver 55 = .ok (.aload_n 0, 1) := by decide +kernel
theorem dX12_takesOver_56 : decode cX12_takesOver 56 = .ok (.getfield 32, 3) := by decide +kernel
theorem dX12_takesOver_59 : decode cX12_takesOver 59 = .ok (.iconst 4, 1) := by decide +kernel
theorem dX12_takesOver_60 : decode cX12_takesOver 60 = .ok (.iload_n 1, 1) := by decide +kernel
theorem dX12_takesOver_61 : decode cX12_takesOver 61 = .ok (.imul, 1) := by decide +kernel
theorem dX12_takesOver_62 : decode cX12_takesOver 62 = .ok (.iload_n 3, 1) := by decide +kernel
theorem dX12_takesOver_63 : decode cX12_takesOver 63 = .ok (.iadd, 1) := by decide +kernel
theorem dX12_takesOver_64 : decode cX12_takesOver 64 = .ok (.aload_n 0, 1) := by decide +kernel
theorem dX12_takesOver_65 : decode cX12_takesOver 65 = .ok (.getfield 32, 3) := by decide +kernel
theorem dX12_takesOver_68 : decode cX12_takesOver 68 = .ok (.iconst 4, 1) := by decide +kernel
theorem dX12_takesOver_69 : decode cX12_takesOver 69 = .ok (.iload_n 2, 1) := by decide +kernel
theorem dX12_takesOver_70 : decode cX12_takesOver 70 = .ok (.imul, 1) := by decide +kernel
theorem dX12_takesOver_71 : decode cX12_takesOver 71 = .ok (.iload_n 3, 1) := by decide +kernel
theorem dX12_takesOver_72 : decode cX12_takesOver 72 = .ok (.iadd, 1) := by decide +kernel
theorem dX12_takesOver_73 : decode cX12_takesOver 73 = .ok (.iaload, 1) := by decide +kernel
theorem dX12_takesOver_74 : decode cX12_takesOver 74 = .ok (.iastore, 1) := by decide +kernel
theorem dX12_takesOver_75 : decode cX12_takesOver 75 = .ok (.iinc 3 1, 3) := by decide +kernel
theorem dX12_takesOver_78 : decode cX12_takesOver 78 = .ok (.goto (-28), 3) := by decide +kernel
theorem dX12_takesOver_81 : decode cX12_takesOver 81 = .ok (.aload_n 0, 1) := by decide +kernel
theorem dX12_takesOver_82 : decode cX12_takesOver 82 = .ok (.getfield 35, 3) := by decide +kernel
theorem dX12_takesOver_85 : decode cX12_takesOver 85 = .ok (.iload_n 1, 1) := by decide +kernel
theorem dX12_takesOver_86 : decode cX12_takesOver 86 = .ok (.aload_n 0, 1) := by decide +kernel
theorem dX12_takesOver_87 : decode cX12_takesOver 87 = .ok (.getfield 35, 3) := by decide +kernel
theorem dX12_takesOver_90 : decode cX12_takesOver 90 = .ok (.iload_n 2, 1) := by decide +kernel
theorem dX12_takesOver_91 : decode cX12_takesOver 91 = .ok (.iaload, 1) := by decide +kernel
theorem dX12_takesOver_92 : decode cX12_takesOver 92 = .ok (.iastore, 1) := by decide +kernel
theorem dX12_takesOver_93 : decode cX12_takesOver 93 = .ok (.iconst 0, 1) := by decide +kernel
theorem dX12_takesOver_94 : decode cX12_takesOver 94 = .ok (.istore_n 3, 1) := by decide +kernel
theorem dX12_takesOver_95 : decode cX12_takesOver 95 = .ok (.iload_n 3, 1) := by decide +kernel
theorem dX12_takesOver_96 : decode cX12_takesOver 96 = .ok (.bipush 6, 2) := by decide +kernel
theorem dX12_takesOver_98 : decode cX12_takesOver 98 = .ok (.if_icmp .ge 31, 3) := by decide +kernel
theorem dX12_takesOver_101 : decode cX12_takesOver 101 = .ok (.aload_n 0, 1) := by decide +kernel
theorem dX12_takesOver_102 : decode cX12_takesOver 102 = .ok (.getfield 38, 3) := by decide +kernel
theorem dX12_takesOver_105 : decode cX12_takesOver 105 = .ok (.bipush 6, 2) := by decide +kernel
theorem dX12_takesOver_107 : decode cX12_takesOver 107 = .ok (.iload_n 1, 1) := by decide +kernel
theorem dX12_takesOver_108 : decode cX12_takesOver 108 = .ok (.imul, 1) := by decide +kernel
theorem dX12_takesOver_109 : decode cX12_takesOver 109 = .ok (.iload_n 3, 1) := by decide +kernel
theorem dX12_takesOver_110 : decode cX12_takesOver 110 = .ok (.iadd, 1) := by decide +kernel
theorem dX12_takesOver_111 : decode cX12_takesOver 111 = .ok (.aload_n 0, 1) := by decide +kernel
theorem dX12_takesOver_112 : decode cX12_takesOver 112 = .ok (.getfield 38, 3) := by decide +kernel
theorem dX12_takesOver_115 : decode cX12_takesOver 115 = .ok (.bipush 6, 2) := by decide +kernel
theorem dX12_takesOver_117 : decode cX12_takesOver 117 = .ok (.iload_n 2, 1) := by decide +kernel
theorem dX12_takesOver_118 : decode cX12_takesOver 118 = .ok (.imul, 1) := by decide +kernel
theorem dX12_takesOver_119 : decode cX12_takesOver 119 = .ok (.iload_n 3, 1) := by decide +kernel
theorem dX12_takesOver_120 : decode cX12_takesOver 120 = .ok (.iadd, 1) := by decide +kernel
theorem dX12_takesOver_121 : decode cX12_takesOver 121 = .ok (.laload, 1) := by decide +kernel
theorem dX12_takesOver_122 : decode cX12_takesOver 122 = .ok (.lastore, 1) := by decide +kernel
theorem dX12_takesOver_123 : decode cX12_takesOver 123 = .ok (.iinc 3 1, 3) := by decide +kernel
theorem dX12_takesOver_126 : decode cX12_takesOver 126 = .ok (.goto (-31), 3) := by decide +kernel
theorem dX12_takesOver_129 : decode cX12_takesOver 129 = .ok (.aload_n 0, 1) := by decide +kernel
theorem dX12_takesOver_130 : decode cX12_takesOver 130 = .ok (.getfield 41, 3) := by decide +kernel
theorem dX12_takesOver_133 : decode cX12_takesOver 133 = .ok (.iload_n 1, 1) := by decide +kernel
theorem dX12_takesOver_134 : decode cX12_takesOver 134 = .ok (.aload_n 0, 1) := by decide +kernel
theorem dX12_takesOver_135 : decode cX12_takesOver 135 = .ok (.getfield 41, 3) := by decide +kernel
theorem dX12_takesOver_138 : decode cX12_takesOver 138 = .ok (.iload_n 2, 1) := by decide +kernel
theorem dX12_takesOver_139 : decode cX12_takesOver 139 = .ok (.iaload, 1) := by decide +kernel
theorem dX12_takesOver_140 : decode cX12_takesOver 140 = .ok (.iastore, 1) := by decide +kernel
theorem dX12_takesOver_141 : decode cX12_takesOver 141 = .ok (.aload_n 0, 1) := by decide +kernel
theorem dX12_takesOver_142 : decode cX12_takesOver 142 = .ok (.getfield 44, 3) := by decide +kernel
theorem dX12_takesOver_145 : decode cX12_takesOver 145 = .ok (.iload_n 1, 1) := by decide +kernel
theorem dX12_takesOver_146 : decode cX12_takesOver 146 = .ok (.aload_n 0, 1) := by decide +kernel
theorem dX12_takesOver_147 : decode cX12_takesOver 147 = .ok (.getfield 44, 3) := by decide +kernel
theorem dX12_takesOver_150 : decode cX12_takesOver 150 = .ok (.iload_n 2, 1) := by decide +kernel
theorem dX12_takesOver_151 : decode cX12_takesOver 151 = .ok (.iaload, 1) := by decide +kernel
theorem dX12_takesOver_152 : decode cX12_takesOver 152 = .ok (.iastore, 1) := by decide +kernel
theorem dX12_takesOver_153 : decode cX12_takesOver 153 = .ok (.return_, 1) := by decide +kernel
def X12_takesOver_b95 (k95 : Int32 → Int32 → Int32 → gM → Option gM) (x1 : Int32) (x2 : Int32) (x3 : Int32) (u : gM) : Option gM :=
(if 6 ≤ x3 then ((aI skM u 11 x2).bind fun v139 => ((sI skM u 11 x1 v139).bind fun u140 => ((aI skM u140 12 x2).bind fun v151 => ((sI skM u140 12 x1 v151).bind fun u152 => some u152))))
  else ((aJ skM u 10 ((6 * x2) + x3)).bind fun v121 => ((sJ skM u 10 ((6 * x1) + x3) v121).bind fun u122 => (k95 x1 x2 (x3 + 1) u122))))
def X12_takesOver_l95  : Nat → Int32 → Int32 → Int32 → gM → Option gM
  | 0, _, _, _, _ => none
  | n + 1, x1, x2, x3, u => X12_takesOver_b95  (X12_takesOver_l95  n) x1 x2 x3 u
def X12_takesOver_b50 (k50 : Int32 → Int32 → Int32 → gM → Option gM) (x1 : Int32) (x2 : Int32) (x3 : Int32) (u : gM) : Option gM :=
(if 4 ≤ x3 then ((aI skM u 9 x2).bind fun v91 => ((sI skM u 9 x1 v91).bind fun u92 => (X12_takesOver_l95 fz x1 x2 0 u92)))
  else ((aI skM u 8 ((4 * x2) + x3)).bind fun v73 => ((sI skM u 8 ((4 * x1) + x3) v73).bind fun u74 => (k50 x1 x2 (x3 + 1) u74))))
def X12_takesOver_l50  : Nat → Int32 → Int32 → Int32 → gM → Option gM
  | 0, _, _, _, _ => none
  | n + 1, x1, x2, x3, u => X12_takesOver_b50  (X12_takesOver_l50  n) x1 x2 x3 u
def X12_takesOver  (x1 : Int32) (x2 : Int32) (u : gM) : Option gM :=
((aJ skM u 4 x2).bind fun v10 => ((sJ skM u 4 x1 v10).bind fun u11 => ((aI skM u11 5 x2).bind fun v22 => ((sI skM u11 5 x1 v22).bind fun u23 => ((aI skM u23 6 x2).bind fun v34 => ((sI skM u23 6 x1 v34).bind fun u35 => ((aI skM u35 7 x2).bind fun v46 => ((sI skM u35 7 x1 v46).bind fun u47 => (X12_takesOver_l50 fz x1 x2 0 u47)))))))))
set_option maxRecDepth 20000 in
theorem v_X12_takesOver_b95 {κ : gK} {B : Nat} {u : gM} (X : gX κ B skM cX12_takesOver 4 RX12 none 0 0) {k95 : Int32 → Int32 → Int32 → gM → Option gM} (ih95 : ∀ (x1 : Int32) (x2 : Int32) (x3 : Int32) (u : gM) (w : gM), k95 x1 x2 x3 u = some w → gV κ B skM 4 ((none), w) 95 [some (.ref (B + 0)), some (.int x1), some (.int x2), some (.int x3)] [] u) {x1 : Int32} {x2 : Int32} {x3 : Int32} {w : gM} (hM : X12_takesOver_b95 k95 x1 x2 x3 u = some w) : gV κ B skM 4 ((none), w) 95 [some (.ref (B + 0)), some (.int x1), some (.int x2), some (.int x3)] [] u := by
  unfold X12_takesOver_b95 at hM
  refine g_iload_n X dX12_takesOver_95 rfl ?_
  refine g_bipush X (v := 6) dX12_takesOver_96 (by decide) ?_
  refine g_icmp_ge (tgt := 129) X dX12_takesOver_98 (by decide) (fun c98 => ?_) (fun c98 => ?_)
  · rw [if_pos c98] at hM
    refine g_aload_n X dX12_takesOver_129 rfl ?_
    refine g_getR X fX12_41 cM_0 rfl dX12_takesOver_130 ?_
    refine g_iload_n X dX12_takesOver_133 rfl ?_
    refine g_aload_n X dX12_takesOver_134 rfl ?_
    refine g_getR X fX12_41 cM_0 rfl dX12_takesOver_135 ?_
    refine g_iload_n X dX12_takesOver_138 rfl ?_
    obtain ⟨v139, e139, hM⟩ := bind_of hM
    refine g_iaload X e139 dX12_takesOver_139 ?_
    obtain ⟨u140, e140, hM⟩ := bind_of hM
    refine g_iastore X e140 dX12_takesOver_140 ?_
    refine g_aload_n X dX12_takesOver_141 rfl ?_
    refine g_getR X fX12_44 cM_0 rfl dX12_takesOver_142 ?_
    refine g_iload_n X dX12_takesOver_145 rfl ?_
    refine g_aload_n X dX12_takesOver_146 rfl ?_
    refine g_getR X fX12_44 cM_0 rfl dX12_takesOver_147 ?_
    refine g_iload_n X dX12_takesOver_150 rfl ?_
    obtain ⟨v151, e151, hM⟩ := bind_of hM
    refine g_iaload X e151 dX12_takesOver_151 ?_
    obtain ⟨u152, e152, hM⟩ := bind_of hM
    refine g_iastore X e152 dX12_takesOver_152 ?_
    cases hM
    exact g_vret X dX12_takesOver_153
  · rw [if_neg c98] at hM
    refine g_aload_n X dX12_takesOver_101 rfl ?_
    refine g_getR X fX12_38 cM_0 rfl dX12_takesOver_102 ?_
    refine g_bipush X (v := 6) dX12_takesOver_105 (by decide) ?_
    refine g_iload_n X dX12_takesOver_107 rfl ?_
    refine g_imul X dX12_takesOver_108 ?_
    refine g_iload_n X dX12_takesOver_109 rfl ?_
    refine g_iadd X dX12_takesOver_110 ?_
    refine g_aload_n X dX12_takesOver_111 rfl ?_
    refine g_getR X fX12_38 cM_0 rfl dX12_takesOver_112 ?_
    refine g_bipush X (v := 6) dX12_takesOver_115 (by decide) ?_
    refine g_iload_n X dX12_takesOver_117 rfl ?_
    refine g_imul X dX12_takesOver_118 ?_
    refine g_iload_n X dX12_takesOver_119 rfl ?_
    refine g_iadd X dX12_takesOver_120 ?_
    obtain ⟨v121, e121, hM⟩ := bind_of hM
    refine g_laload X e121 dX12_takesOver_121 ?_
    obtain ⟨u122, e122, hM⟩ := bind_of hM
    refine g_lastore X e122 dX12_takesOver_122 ?_
    refine g_iinc (d := 1) X [some (.ref (B + 0)), some (.int x1), some (.int x2), some (.int (x3 + 1))] dX12_takesOver_123 (by decide) rfl (by decide) rfl ?_
    refine g_goto (tgt := 95) X dX12_takesOver_126 (by decide) ?_
    refine g_mk [true, true, true, true] [some (.ref (B + 0)), some (.int x1), some (.int x2), some (.int (x3 + 1))] rfl ?_
    exact ih95 x1 x2 (x3 + 1) u122 _ hM
theorem v_X12_takesOver_l95 {κ : gK} {B : Nat} (X : gX κ B skM cX12_takesOver 4 RX12 none 0 0)   : ∀ (n : Nat) {x1 : Int32} {x2 : Int32} {x3 : Int32} {u : gM} {w : gM} (hM : X12_takesOver_l95  n x1 x2 x3 u = some w), gV κ B skM 4 ((none), w) 95 [some (.ref (B + 0)), some (.int x1), some (.int x2), some (.int x3)] [] u := by
  intro n
  induction n with
  | zero => intro x1 x2 x3 u w hM; exact nomatch (show (none : Option gM) = some w from hM)
  | succ n ihn => intro x1 x2 x3 u w hM; exact v_X12_takesOver_b95 X  (fun x1 x2 x3 u w h => ihn h) hM
set_option maxRecDepth 20000 in
theorem v_X12_takesOver_b50 {κ : gK} {B : Nat} {u : gM} (X : gX κ B skM cX12_takesOver 4 RX12 none 0 0) {k50 : Int32 → Int32 → Int32 → gM → Option gM} (ih50 : ∀ (x1 : Int32) (x2 : Int32) (x3 : Int32) (u : gM) (w : gM), k50 x1 x2 x3 u = some w → gV κ B skM 4 ((none), w) 50 [some (.ref (B + 0)), some (.int x1), some (.int x2), some (.int x3)] [] u) {x1 : Int32} {x2 : Int32} {x3 : Int32} {w : gM} (hM : X12_takesOver_b50 k50 x1 x2 x3 u = some w) : gV κ B skM 4 ((none), w) 50 [some (.ref (B + 0)), some (.int x1), some (.int x2), some (.int x3)] [] u := by
  unfold X12_takesOver_b50 at hM
  refine g_iload_n X dX12_takesOver_50 rfl ?_
  refine g_iconst X (v := 4) dX12_takesOver_51 (by decide) ?_
  refine g_icmp_ge (tgt := 81) X dX12_takesOver_52 (by decide) (fun c52 => ?_) (fun c52 => ?_)
  · rw [if_pos c52] at hM
    refine g_aload_n X dX12_takesOver_81 rfl ?_
    refine g_getR X fX12_35 cM_0 rfl dX12_takesOver_82 ?_
    refine g_iload_n X dX12_takesOver_85 rfl ?_
    refine g_aload_n X dX12_takesOver_86 rfl ?_
    refine g_getR X fX12_35 cM_0 rfl dX12_takesOver_87 ?_
    refine g_iload_n X dX12_takesOver_90 rfl ?_
    obtain ⟨v91, e91, hM⟩ := bind_of hM
    refine g_iaload X e91 dX12_takesOver_91 ?_
    obtain ⟨u92, e92, hM⟩ := bind_of hM
    refine g_iastore X e92 dX12_takesOver_92 ?_
    refine g_iconst X (v := 0) dX12_takesOver_93 (by decide) ?_
    refine g_istore_n X [some (.ref (B + 0)), some (.int x1), some (.int x2), some (.int 0)] dX12_takesOver_94 (by decide) rfl ?_
    refine g_mk [true, true, true, true] [some (.ref (B + 0)), some (.int x1), some (.int x2), some (.int 0)] rfl ?_
    exact v_X12_takesOver_l95 X  fz hM
  · rw [if_neg c52] at hM
    refine g_aload_n X dX12_takesOver_55 rfl ?_
    refine g_getR X fX12_32 cM_0 rfl dX12_takesOver_56 ?_
    refine g_iconst X (v := 4) dX12_takesOver_59 (by decide) ?_
    refine g_iload_n X dX12_takesOver_60 rfl ?_
    refine g_imul X dX12_takesOver_61 ?_
    refine g_iload_n X dX12_takesOver_62 rfl ?_
    refine g_iadd X dX12_takesOver_63 ?_
    refine g_aload_n X dX12_takesOver_64 rfl ?_
    refine g_getR X fX12_32 cM_0 rfl dX12_takesOver_65 ?_
    refine g_iconst X (v := 4) dX12_takesOver_68 (by decide) ?_
    refine g_iload_n X dX12_takesOver_69 rfl ?_
    refine g_imul X dX12_takesOver_70 ?_
    refine g_iload_n X dX12_takesOver_71 rfl ?_
    refine g_iadd X dX12_takesOver_72 ?_
    obtain ⟨v73, e73, hM⟩ := bind_of hM
    refine g_iaload X e73 dX12_takesOver_73 ?_
    obtain ⟨u74, e74, hM⟩ := bind_of hM
    refine g_iastore X e74 dX12_takesOver_74 ?_
    refine g_iinc (d := 1) X [some (.ref (B + 0)), some (.int x1), some (.int x2), some (.int (x3 + 1))] dX12_takesOver_75 (by decide) rfl (by decide) rfl ?_
    refine g_goto (tgt := 50) X dX12_takesOver_78 (by decide) ?_
    refine g_mk [true, true, true, true] [some (.ref (B + 0)), some (.int x1), some (.int x2), some (.int (x3 + 1))] rfl ?_
    exact ih50 x1 x2 (x3 + 1) u74 _ hM
theorem v_X12_takesOver_l50 {κ : gK} {B : Nat} (X : gX κ B skM cX12_takesOver 4 RX12 none 0 0)   : ∀ (n : Nat) {x1 : Int32} {x2 : Int32} {x3 : Int32} {u : gM} {w : gM} (hM : X12_takesOver_l50  n x1 x2 x3 u = some w), gV κ B skM 4 ((none), w) 50 [some (.ref (B + 0)), some (.int x1), some (.int x2), some (.int x3)] [] u := by
  intro n
  induction n with
  | zero => intro x1 x2 x3 u w hM; exact nomatch (show (none : Option gM) = some w from hM)
  | succ n ihn => intro x1 x2 x3 u w hM; exact v_X12_takesOver_b50 X  (fun x1 x2 x3 u w h => ihn h) hM
set_option maxRecDepth 20000 in
theorem v_X12_takesOver {κ : gK} {B : Nat} {u : gM} (X : gX κ B skM cX12_takesOver 4 RX12 none 0 0)   {x1 : Int32} {x2 : Int32} {w : gM} (hM : X12_takesOver x1 x2 u = some w) : gV κ B skM 4 ((none), w) 0 [some (.ref (B + 0)), some (.int x1), some (.int x2), none] [] u := by
  unfold X12_takesOver at hM
  refine g_aload_n X dX12_takesOver_0 rfl ?_
  refine g_getR X fX12_20 cM_0 rfl dX12_takesOver_1 ?_
  refine g_iload_n X dX12_takesOver_4 rfl ?_
  refine g_aload_n X dX12_takesOver_5 rfl ?_
  refine g_getR X fX12_20 cM_0 rfl dX12_takesOver_6 ?_
  refine g_iload_n X dX12_takesOver_9 rfl ?_
  obtain ⟨v10, e10, hM⟩ := bind_of hM
  refine g_laload X e10 dX12_takesOver_10 ?_
  obtain ⟨u11, e11, hM⟩ := bind_of hM
  refine g_lastore X e11 dX12_takesOver_11 ?_
  refine g_aload_n X dX12_takesOver_12 rfl ?_
  refine g_getR X fX12_23 cM_0 rfl dX12_takesOver_13 ?_
  refine g_iload_n X dX12_takesOver_16 rfl ?_
  refine g_aload_n X dX12_takesOver_17 rfl ?_
  refine g_getR X fX12_23 cM_0 rfl dX12_takesOver_18 ?_
  refine g_iload_n X dX12_takesOver_21 rfl ?_
  obtain ⟨v22, e22, hM⟩ := bind_of hM
  refine g_iaload X e22 dX12_takesOver_22 ?_
  obtain ⟨u23, e23, hM⟩ := bind_of hM
  refine g_iastore X e23 dX12_takesOver_23 ?_
  refine g_aload_n X dX12_takesOver_24 rfl ?_
  refine g_getR X fX12_26 cM_0 rfl dX12_takesOver_25 ?_
  refine g_iload_n X dX12_takesOver_28 rfl ?_
  refine g_aload_n X dX12_takesOver_29 rfl ?_
  refine g_getR X fX12_26 cM_0 rfl dX12_takesOver_30 ?_
  refine g_iload_n X dX12_takesOver_33 rfl ?_
  obtain ⟨v34, e34, hM⟩ := bind_of hM
  refine g_iaload X e34 dX12_takesOver_34 ?_
  obtain ⟨u35, e35, hM⟩ := bind_of hM
  refine g_iastore X e35 dX12_takesOver_35 ?_
  refine g_aload_n X dX12_takesOver_36 rfl ?_
  refine g_getR X fX12_29 cM_0 rfl dX12_takesOver_37 ?_
  refine g_iload_n X dX12_takesOver_40 rfl ?_
  refine g_aload_n X dX12_takesOver_41 rfl ?_
  refine g_getR X fX12_29 cM_0 rfl dX12_takesOver_42 ?_
  refine g_iload_n X dX12_takesOver_45 rfl ?_
  obtain ⟨v46, e46, hM⟩ := bind_of hM
  refine g_iaload X e46 dX12_takesOver_46 ?_
  obtain ⟨u47, e47, hM⟩ := bind_of hM
  refine g_iastore X e47 dX12_takesOver_47 ?_
  refine g_iconst X (v := 0) dX12_takesOver_48 (by decide) ?_
  refine g_istore_n X [some (.ref (B + 0)), some (.int x1), some (.int x2), some (.int 0)] dX12_takesOver_49 (by decide) rfl ?_
  refine g_mk [true, true, true, true] [some (.ref (B + 0)), some (.int x1), some (.int x2), some (.int 0)] rfl ?_
  exact v_X12_takesOver_l50 X  fz hM
theorem s_X12_takesOver {x1 : Int32} {x2 : Int32} {u : gM} {w : gM} (hM : X12_takesOver x1 x2 u = some w) : gMet skM yX12_takesOver cX12_takesOver 4 none 0 0 (fun B adK => [.ref (B + 0), .int x1, .int x2]) u ((fun _ => none), w) := by
  refine gMet.of (by decide) (fun _ _ => Nat.le_of_ble_eq_true rfl) (fun κ B X => ?_)
  have X : gX κ B skM cX12_takesOver 4 RX12 none 0 0 := X
  refine g_mk [true, true, true, false] [some (.ref (B + 0)), some (.int x1), some (.int x2), none] rfl ?_
  exact v_X12_takesOver X  hM
theorem fr_X12_takesOver_b95 {S : Nat → Prop} {u0 u : gM} {x1 : Int32} {x2 : Int32} {x3 : Int32} (hs0 : S 10) (hs1 : S 11) (hs2 : S 12) {k95 : Int32 → Int32 → Int32 → gM → Option gM} (ik95 : ∀ (x1 : Int32) (x2 : Int32) (x3 : Int32) (u : gM) (w : gM), S 10 → S 11 → S 12 → off S u0 u → k95 x1 x2 x3 u = some w → off S u0 w) {w : gM} (hM : X12_takesOver_b95 k95 x1 x2 x3 u = some w) (h0 : off S u0 u) : off S u0 w := by
  unfold X12_takesOver_b95 at hM
  by_cases c98 : 6 ≤ x3
  · rw [if_pos c98] at hM
    obtain ⟨v139, e139, hM⟩ := bind_of hM
    obtain ⟨u140, e140, hM⟩ := bind_of hM
    have h0 := off_sI hs1 e140 h0
    obtain ⟨v151, e151, hM⟩ := bind_of hM
    obtain ⟨u152, e152, hM⟩ := bind_of hM
    have h0 := off_sI hs2 e152 h0
    cases hM
    exact h0
  · rw [if_neg c98] at hM
    obtain ⟨v121, e121, hM⟩ := bind_of hM
    obtain ⟨u122, e122, hM⟩ := bind_of hM
    have h0 := off_sJ hs0 e122 h0
    exact ik95 _ _ _ _ _ hs0 hs1 hs2 h0 hM
theorem fr_X12_takesOver_l95 {S : Nat → Prop} {u0 : gM}   : ∀ (n : Nat) {x1 : Int32} {x2 : Int32} {x3 : Int32} (hs0 : S 10) (hs1 : S 11) (hs2 : S 12) {u : gM} {w : gM} (h0 : off S u0 u) (hM : X12_takesOver_l95  n x1 x2 x3 u = some w), off S u0 w := by
  intro n
  induction n with
  | zero => intro x1 x2 x3 hs0 hs1 hs2 u w h0 hM; exact nomatch (show (none : Option gM) = some w from hM)
  | succ n ihn => intro x1 x2 x3 hs0 hs1 hs2 u w h0 hM; exact fr_X12_takesOver_b95 hs0 hs1 hs2  (fun x1 x2 x3 _ _ hs0 hs1 hs2 h0 h => ihn hs0 hs1 hs2 h0 h) hM h0
theorem fr_X12_takesOver_b50 {S : Nat → Prop} {u0 u : gM} {x1 : Int32} {x2 : Int32} {x3 : Int32} (hs0 : S 10) (hs1 : S 11) (hs2 : S 12) (hs3 : S 8) (hs4 : S 9) {k50 : Int32 → Int32 → Int32 → gM → Option gM} (ik50 : ∀ (x1 : Int32) (x2 : Int32) (x3 : Int32) (u : gM) (w : gM), S 10 → S 11 → S 12 → S 8 → S 9 → off S u0 u → k50 x1 x2 x3 u = some w → off S u0 w) {w : gM} (hM : X12_takesOver_b50 k50 x1 x2 x3 u = some w) (h0 : off S u0 u) : off S u0 w := by
  unfold X12_takesOver_b50 at hM
  by_cases c52 : 4 ≤ x3
  · rw [if_pos c52] at hM
    obtain ⟨v91, e91, hM⟩ := bind_of hM
    obtain ⟨u92, e92, hM⟩ := bind_of hM
    have h0 := off_sI hs4 e92 h0
    exact fr_X12_takesOver_l95  fz hs0 hs1 hs2 h0 hM
  · rw [if_neg c52] at hM
    obtain ⟨v73, e73, hM⟩ := bind_of hM
    obtain ⟨u74, e74, hM⟩ := bind_of hM
    have h0 := off_sI hs3 e74 h0
    exact ik50 _ _ _ _ _ hs0 hs1 hs2 hs3 hs4 h0 hM
theorem fr_X12_takesOver_l50 {S : Nat → Prop} {u0 : gM}   : ∀ (n : Nat) {x1 : Int32} {x2 : Int32} {x3 : Int32} (hs0 : S 10) (hs1 : S 11) (hs2 : S 12) (hs3 : S 8) (hs4 : S 9) {u : gM} {w : gM} (h0 : off S u0 u) (hM : X12_takesOver_l50  n x1 x2 x3 u = some w), off S u0 w := by
  intro n
  induction n with
  | zero => intro x1 x2 x3 hs0 hs1 hs2 hs3 hs4 u w h0 hM; exact nomatch (show (none : Option gM) = some w from hM)
  | succ n ihn => intro x1 x2 x3 hs0 hs1 hs2 hs3 hs4 u w h0 hM; exact fr_X12_takesOver_b50 hs0 hs1 hs2 hs3 hs4  (fun x1 x2 x3 _ _ hs0 hs1 hs2 hs3 hs4 h0 h => ihn hs0 hs1 hs2 hs3 hs4 h0 h) hM h0
theorem fr_X12_takesOver {S : Nat → Prop} {u0 u : gM} {x1 : Int32} {x2 : Int32} (hs0 : S 10) (hs1 : S 11) (hs2 : S 12) (hs3 : S 4) (hs4 : S 5) (hs5 : S 6) (hs6 : S 7) (hs7 : S 8) (hs8 : S 9)   {w : gM} (hM : X12_takesOver x1 x2 u = some w) (h0 : off S u0 u) : off S u0 w := by
  unfold X12_takesOver at hM
  obtain ⟨v10, e10, hM⟩ := bind_of hM
  obtain ⟨u11, e11, hM⟩ := bind_of hM
  have h0 := off_sJ hs3 e11 h0
  obtain ⟨v22, e22, hM⟩ := bind_of hM
  obtain ⟨u23, e23, hM⟩ := bind_of hM
  have h0 := off_sI hs4 e23 h0
  obtain ⟨v34, e34, hM⟩ := bind_of hM
  obtain ⟨u35, e35, hM⟩ := bind_of hM
  have h0 := off_sI hs5 e35 h0
  obtain ⟨v46, e46, hM⟩ := bind_of hM
  obtain ⟨u47, e47, hM⟩ := bind_of hM
  have h0 := off_sI hs6 e47 h0
  exact fr_X12_takesOver_l50  fz hs0 hs1 hs2 hs7 hs8 h0 hM
/-! CoverDeskModel.starts()V -/
theorem dX12_starts_0 : decode cX12_starts 0 = .ok (.iconst 0, 1) := by decide +kernel
theorem dX12_starts_1 : decode cX12_starts 1 = .ok (.istore_n 1, 1) := by decide +kernel
theorem dX12_starts_2 : decode cX12_starts 2 = .ok (.iload_n 1, 1) := by decide +kernel
theorem dX12_starts_3 : decode cX12_starts 3 = .ok (.sipush 439, 3) := by decide +kernel
theorem dX12_starts_6 : decode cX12_starts 6 = .ok (.if_icmp .ge 16, 3) := by decide +kernel
theorem dX12_starts_9 : decode cX12_starts 9 = .ok (.aload_n 0, 1) := by decide +kernel
theorem dX12_starts_10 : decode cX12_starts 10 = .ok (.getfield 56, 3) := by decide +kernel
theorem dX12_starts_13 : decode cX12_starts 13 = .ok (.iload_n 1, 1) := by decide +kernel
theorem dX12_starts_14 : decode cX12_starts 14 = .ok (.iconst 0, 1) := by decide +kernel
theorem dX12_starts_15 : decode cX12_starts 15 = .ok (.iastore, 1) := by decide +kernel
theorem dX12_starts_16 : decode cX12_starts 16 = .ok (.iinc 1 1, 3) := by decide +kernel
theorem dX12_starts_19 : decode cX12_starts 19 = .ok (.goto (-17), 3) := by decide +kernel
theorem dX12_starts_22 : decode cX12_starts 22 = .ok (.iconst 0, 1) := by decide +kernel
theorem dX12_starts_23 : decode cX12_starts 23 = .ok (.istore_n 1, 1) := by decide +kernel
theorem dX12_starts_24 : decode cX12_starts 24 = .ok (.iload_n 1, 1) := by decide +kernel
theorem dX12_starts_25 : decode cX12_starts 25 = .ok (.aload_n 0, 1) := by decide +kernel
theorem dX12_starts_26 : decode cX12_starts 26 = .ok (.getfield 7, 3) := by decide +kernel
theorem dX12_starts_29 : decode cX12_starts 29 = .ok (.iconst 2, 1) := by decide +kernel
theorem dX12_starts_30 : decode cX12_starts 30 = .ok (.iaload, 1) := by decide +kernel
theorem dX12_starts_31 : decode cX12_starts 31 = .ok (.if_icmp .ge 23, 3) := by decide +kernel
theorem dX12_starts_34 : decode cX12_starts 34 = .ok (.aload_n 0, 1) := by decide +kernel
theorem dX12_starts_35 : decode cX12_starts 35 = .ok (.getfield 56, 3) := by decide +kernel
theorem dX12_starts_38 : decode cX12_starts 38 = .ok (.iconst 1, 1) := by decide +kernel
theorem dX12_starts_39 : decode cX12_starts 39 = .ok (.iload_n 1, 1) := by decide +kernel
theorem dX12_starts_40 : decode cX12_starts 40 = .ok (.iadd, 1) := by decide +kernel
theorem dX12_starts_41 : decode cX12_starts 41 = .ok (.aload_n 0, 1) := by decide +kernel
theorem dX12_starts_42 : decode cX12_starts 42 = .ok (.getfield 41, 3) := by decide +kernel
theorem dX12_starts_45 : decode cX12_starts 45 = .ok (.iload_n 1, 1) := by decide +kernel
theorem dX12_starts_46 : decode cX12_starts 46 = .ok (.iaload, 1) := by decide +kernel
theorem dX12_starts_47 : decode cX12_starts 47 = .ok (.iastore, 1) := by decide +kernel
theorem dX12_starts_48 : decode cX12_starts 48 = .ok (.iinc 1 1, 3) := by decide +kernel
theorem dX12_starts_51 : decode cX12_starts 51 = .ok (.goto (-27), 3) := by decide +kernel
theorem dX12_starts_54 : decode cX12_starts 54 = .ok (.iconst 0, 1) := by decide +kernel
theorem dX12_starts_55 : decode cX12_starts 55 = .ok (.istore_n 1, 1) := by decide +kernel
theorem dX12_starts_56 : decode cX12_starts 56 = .ok (.iload_n 1, 1) := by decide +kernel
theorem dX12_starts_57 : decode cX12_starts 57 = .ok (.aload_n 0, 1) := by decide +kernel
theorem dX12_starts_58 : decode cX12_starts 58 = .ok (.getfield 7, 3) := by decide +kernel
theorem dX12_starts_61 : decode cX12_starts 61 = .ok (.iconst 3, 1) := by decide +kernel
theorem dX12_starts_62 : decode cX12_starts 62 = .ok (.iaload, 1) := by decide +kernel
theorem dX12_starts_63 : decode cX12_starts 63 = .ok (.if_icmp .ge 24, 3) := by decide +kernel
theorem dX12_starts_66 : decode cX12_starts 66 = .ok (.aload_n 0, 1) := by decide +kernel
theorem dX12_starts_67 : decode cX12_starts 67 = .ok (.getfield 56, 3) := by decide +kernel
theorem dX12_starts_70 : decode cX12_starts 70 = .ok (.bipush 25, 2) := by decide +kernel
theorem dX12_starts_72 : decode cX12_starts 72 = .ok (.iload_n 1, 1) := by decide +kernel
theorem dX12_starts_73 : decode cX12_starts 73 = .ok (.iadd, 1) := by decide +kernel
theorem dX12_starts_74 : decode cX12_starts 74 = .ok (.aload_n 0, 1) := by decide +kernel
theorem dX12_starts_75 : decode cX12_starts 75 = .ok (.getfield 53, 3) := by decide +kernel
theorem dX12_starts_78 : decode cX12_starts 78 = .ok (.iload_n 1, 1) := by decide +kernel
theorem dX12_starts_79 : decode cX12_starts 79 = .ok (.iaload, 1) := by decide +kernel
theorem dX12_starts_80 : decode cX12_starts 80 = .ok (.iastore, 1) := by decide +kernel
theorem dX12_starts_81 : decode cX12_starts 81 = .ok (.iinc 1 1, 3) := by decide +kernel
theorem dX12_starts_84 : decode cX12_starts 84 = .ok (.goto (-28), 3) := by decide +kernel
theorem dX12_starts_87 : decode cX12_starts 87 = .ok (.iconst 0, 1) := by decide +kernel
theorem dX12_starts_88 : decode cX12_starts 88 = .ok (.istore_n 1, 1) := by decide +kernel
theorem dX12_starts_89 : decode cX12_starts 89 = .ok (.iload_n 1, 1) := by decide +kernel
theorem dX12_starts_90 : decode cX12_starts 90 = .ok (.bipush 6, 2) := by decide +kernel
theorem dX12_starts_92 : decode cX12_starts 92 = .ok (.if_icmp .ge 29, 3) := by decide +kernel
theorem dX12_starts_95 : decode cX12_starts 95 = .ok (.aload_n 0, 1) := by decide +kernel
theorem dX12_starts_96 : decode cX12_starts 96 = .ok (.getfield 56, 3) := by decide +kernel
theorem dX12_starts_99 : decode cX12_starts 99 = .ok (.bipush 35, 2) := by decide +kernel
theorem dX12_starts_101 : decode cX12_starts 101 = .ok (.iload_n 1, 1) := by decide +kernel
theorem dX12_starts_102 : decode cX12_starts 102 = .ok (.iadd, 1) := by decide +kernel
theorem dX12_starts_103 : decode cX12_starts 103 = .ok (.iconst (-1), 1) := by decide +kernel
theorem dX12_starts_104 : decode cX12_starts 104 = .ok (.iastore, 1) := by decide +kernel
theorem dX12_starts_105 : decode cX12_starts 105 = .ok (.aload_n 0, 1) := by decide +kernel
theorem dX12_starts_106 : decode cX12_starts 106 = .ok (.getfield 56, 3) := by decide +kernel
theorem dX12_starts_109 : decode cX12_starts 109 = .ok (.bipush 41, 2) := by decide +kernel
theorem dX12_starts_111 : decode cX12_starts 111 = .ok (.iload_n 1, 1) := by decide +kernel
theorem dX12_starts_112 : decode cX12_starts 112 = .ok (.iadd, 1) := by decide +kernel
theorem dX12_starts_113 : decode cX12_starts 113 = .ok (.iconst (-1), 1) := by decide +kernel
theorem dX12_starts_114 : decode cX12_starts 114 = .ok (.iastore, 1) := by decide +kernel
theorem dX12_starts_115 : decode cX12_starts 115 = .ok (.iinc 1 1, 3) := by decide +kernel
theorem dX12_starts_118 : decode cX12_starts 118 = .ok (.goto (-29), 3) := by decide +kernel
theorem dX12_starts_121 : decode cX12_starts 121 = .ok (.aload_n 0, 1) := by decide +kernel
theorem dX12_starts_122 : decode cX12_starts 122 = .ok (.getfield 56, 3) := by decide +kernel
theorem dX12_starts_125 : decode cX12_starts 125 = .ok (.bipush 53, 2) := by decide +kernel
theorem dX12_starts_127 : decode cX12_starts 127 = .ok (.iconst (-1), 1) := by decide +kernel
theorem dX12_starts_128 : decode cX12_starts 128 = .ok (.iastore, 1) := by decide +kernel
theorem dX12_starts_129 : decode cX12_starts 129 = .ok (.aload_n 0, 1) := by decide +kernel
theorem dX12_starts_130 : decode cX12_starts 130 = .ok (.iconst 0, 1) := by decide +kernel
theorem dX12_starts_131 : decode cX12_starts 131 = .ok (.putfield 115, 3) := by decide +kernel
theorem dX12_starts_134 : decode cX12_starts 134 = .ok (.return_, 1) := by decide +kernel
def X12_starts_b89 (k89 : Int32 → gM → Option gM) (x1 : Int32) (u : gM) : Option gM :=
(if 6 ≤ x1 then ((sI skM u 16 53 (-1)).bind fun u128 => some (upI u128 0 17 0))
  else ((sI skM u 16 (35 + x1) (-1)).bind fun u104 => ((sI skM u104 16 (41 + x1) (-1)).bind fun u114 => (k89 (x1 + 1) u114))))
def X12_starts_l89  : Nat → Int32 → gM → Option gM
  | 0, _, _ => none
  | n + 1, x1, u => X12_starts_b89  (X12_starts_l89  n) x1 u
def X12_starts_b56 (k56 : Int32 → gM → Option gM) (x1 : Int32) (u : gM) : Option gM :=
((aI skM u 1 3).bind fun v62 => (if v62 ≤ x1 then (X12_starts_l89 fz 0 u)
  else ((aI skM u 15 x1).bind fun v79 => ((sI skM u 16 (25 + x1) v79).bind fun u80 => (k56 (x1 + 1) u80)))))
def X12_starts_l56  : Nat → Int32 → gM → Option gM
  | 0, _, _ => none
  | n + 1, x1, u => X12_starts_b56  (X12_starts_l56  n) x1 u
def X12_starts_b24 (k24 : Int32 → gM → Option gM) (x1 : Int32) (u : gM) : Option gM :=
((aI skM u 1 2).bind fun v30 => (if v30 ≤ x1 then (X12_starts_l56 fz 0 u)
  else ((aI skM u 11 x1).bind fun v46 => ((sI skM u 16 (1 + x1) v46).bind fun u47 => (k24 (x1 + 1) u47)))))
def X12_starts_l24  : Nat → Int32 → gM → Option gM
  | 0, _, _ => none
  | n + 1, x1, u => X12_starts_b24  (X12_starts_l24  n) x1 u
def X12_starts_b2 (k2 : Int32 → gM → Option gM) (x1 : Int32) (u : gM) : Option gM :=
(if 439 ≤ x1 then (X12_starts_l24 fz 0 u)
  else ((sI skM u 16 x1 0).bind fun u15 => (k2 (x1 + 1) u15)))
def X12_starts_l2  : Nat → Int32 → gM → Option gM
  | 0, _, _ => none
  | n + 1, x1, u => X12_starts_b2  (X12_starts_l2  n) x1 u
def X12_starts   (u : gM) : Option gM :=
(X12_starts_l2 fz 0 u)
set_option maxRecDepth 20000 in
theorem v_X12_starts_b89 {κ : gK} {B : Nat} {u : gM} (X : gX κ B skM cX12_starts 2 RX12 none 0 0) {k89 : Int32 → gM → Option gM} (ih89 : ∀ (x1 : Int32) (u : gM) (w : gM), k89 x1 u = some w → gV κ B skM 2 ((none), w) 89 [some (.ref (B + 0)), some (.int x1)] [] u) {x1 : Int32} {w : gM} (hM : X12_starts_b89 k89 x1 u = some w) : gV κ B skM 2 ((none), w) 89 [some (.ref (B + 0)), some (.int x1)] [] u := by
  unfold X12_starts_b89 at hM
  refine g_iload_n X dX12_starts_89 rfl ?_
  refine g_bipush X (v := 6) dX12_starts_90 (by decide) ?_
  refine g_icmp_ge (tgt := 121) X dX12_starts_92 (by decide) (fun c92 => ?_) (fun c92 => ?_)
  · rw [if_pos c92] at hM
    refine g_aload_n X dX12_starts_121 rfl ?_
    refine g_getR X fX12_56 cM_0 rfl dX12_starts_122 ?_
    refine g_bipush X (v := 53) dX12_starts_125 (by decide) ?_
    refine g_iconst X (v := (-1)) dX12_starts_127 (by decide) ?_
    obtain ⟨u128, e128, hM⟩ := bind_of hM
    refine g_iastore X e128 dX12_starts_128 ?_
    refine g_aload_n X dX12_starts_129 rfl ?_
    refine g_iconst X (v := 0) dX12_starts_130 (by decide) ?_
    refine g_putI X fX12_115 gc_X12 gp_X12_17 cM_0 rfl dX12_starts_131 ?_
    cases hM
    exact g_vret X dX12_starts_134
  · rw [if_neg c92] at hM
    refine g_aload_n X dX12_starts_95 rfl ?_
    refine g_getR X fX12_56 cM_0 rfl dX12_starts_96 ?_
    refine g_bipush X (v := 35) dX12_starts_99 (by decide) ?_
    refine g_iload_n X dX12_starts_101 rfl ?_
    refine g_iadd X dX12_starts_102 ?_
    refine g_iconst X (v := (-1)) dX12_starts_103 (by decide) ?_
    obtain ⟨u104, e104, hM⟩ := bind_of hM
    refine g_iastore X e104 dX12_starts_104 ?_
    refine g_aload_n X dX12_starts_105 rfl ?_
    refine g_getR X fX12_56 cM_0 rfl dX12_starts_106 ?_
    refine g_bipush X (v := 41) dX12_starts_109 (by decide) ?_
    refine g_iload_n X dX12_starts_111 rfl ?_
    refine g_iadd X dX12_starts_112 ?_
    refine g_iconst X (v := (-1)) dX12_starts_113 (by decide) ?_
    obtain ⟨u114, e114, hM⟩ := bind_of hM
    refine g_iastore X e114 dX12_starts_114 ?_
    refine g_iinc (d := 1) X [some (.ref (B + 0)), some (.int (x1 + 1))] dX12_starts_115 (by decide) rfl (by decide) rfl ?_
    refine g_goto (tgt := 89) X dX12_starts_118 (by decide) ?_
    refine g_mk [true, true] [some (.ref (B + 0)), some (.int (x1 + 1))] rfl ?_
    exact ih89 (x1 + 1) u114 _ hM
theorem v_X12_starts_l89 {κ : gK} {B : Nat} (X : gX κ B skM cX12_starts 2 RX12 none 0 0)   : ∀ (n : Nat) {x1 : Int32} {u : gM} {w : gM} (hM : X12_starts_l89  n x1 u = some w), gV κ B skM 2 ((none), w) 89 [some (.ref (B + 0)), some (.int x1)] [] u := by
  intro n
  induction n with
  | zero => intro x1 u w hM; exact nomatch (show (none : Option gM) = some w from hM)
  | succ n ihn => intro x1 u w hM; exact v_X12_starts_b89 X  (fun x1 u w h => ihn h) hM
set_option maxRecDepth 20000 in
theorem v_X12_starts_b56 {κ : gK} {B : Nat} {u : gM} (X : gX κ B skM cX12_starts 2 RX12 none 0 0) {k56 : Int32 → gM → Option gM} (ih56 : ∀ (x1 : Int32) (u : gM) (w : gM), k56 x1 u = some w → gV κ B skM 2 ((none), w) 56 [some (.ref (B + 0)), some (.int x1)] [] u) {x1 : Int32} {w : gM} (hM : X12_starts_b56 k56 x1 u = some w) : gV κ B skM 2 ((none), w) 56 [some (.ref (B + 0)), some (.int x1)] [] u := by
  unfold X12_starts_b56 at hM
  refine g_iload_n X dX12_starts_56 rfl ?_
  refine g_aload_n X dX12_starts_57 rfl ?_
  refine g_getR X fX12_7 cM_0 rfl dX12_starts_58 ?_
  refine g_iconst X (v := 3) dX12_starts_61 (by decide) ?_
  obtain ⟨v62, e62, hM⟩ := bind_of hM
  refine g_iaload X e62 dX12_starts_62 ?_
  refine g_icmp_ge (tgt := 87) X dX12_starts_63 (by decide) (fun c63 => ?_) (fun c63 => ?_)
  · rw [if_pos c63] at hM
    refine g_iconst X (v := 0) dX12_starts_87 (by decide) ?_
    refine g_istore_n X [some (.ref (B + 0)), some (.int 0)] dX12_starts_88 (by decide) rfl ?_
    refine g_mk [true, true] [some (.ref (B + 0)), some (.int 0)] rfl ?_
    exact v_X12_starts_l89 X  fz hM
  · rw [if_neg c63] at hM
    refine g_aload_n X dX12_starts_66 rfl ?_
    refine g_getR X fX12_56 cM_0 rfl dX12_starts_67 ?_
    refine g_bipush X (v := 25) dX12_starts_70 (by decide) ?_
    refine g_iload_n X dX12_starts_72 rfl ?_
    refine g_iadd X dX12_starts_73 ?_
    refine g_aload_n X dX12_starts_74 rfl ?_
    refine g_getR X fX12_53 cM_0 rfl dX12_starts_75 ?_
    refine g_iload_n X dX12_starts_78 rfl ?_
    obtain ⟨v79, e79, hM⟩ := bind_of hM
    refine g_iaload X e79 dX12_starts_79 ?_
    obtain ⟨u80, e80, hM⟩ := bind_of hM
    refine g_iastore X e80 dX12_starts_80 ?_
    refine g_iinc (d := 1) X [some (.ref (B + 0)), some (.int (x1 + 1))] dX12_starts_81 (by decide) rfl (by decide) rfl ?_
    refine g_goto (tgt := 56) X dX12_starts_84 (by decide) ?_
    refine g_mk [true, true] [some (.ref (B + 0)), some (.int (x1 + 1))] rfl ?_
    exact ih56 (x1 + 1) u80 _ hM
theorem v_X12_starts_l56 {κ : gK} {B : Nat} (X : gX κ B skM cX12_starts 2 RX12 none 0 0)   : ∀ (n : Nat) {x1 : Int32} {u : gM} {w : gM} (hM : X12_starts_l56  n x1 u = some w), gV κ B skM 2 ((none), w) 56 [some (.ref (B + 0)), some (.int x1)] [] u := by
  intro n
  induction n with
  | zero => intro x1 u w hM; exact nomatch (show (none : Option gM) = some w from hM)
  | succ n ihn => intro x1 u w hM; exact v_X12_starts_b56 X  (fun x1 u w h => ihn h) hM
set_option maxRecDepth 20000 in
theorem v_X12_starts_b24 {κ : gK} {B : Nat} {u : gM} (X : gX κ B skM cX12_starts 2 RX12 none 0 0) {k24 : Int32 → gM → Option gM} (ih24 : ∀ (x1 : Int32) (u : gM) (w : gM), k24 x1 u = some w → gV κ B skM 2 ((none), w) 24 [some (.ref (B + 0)), some (.int x1)] [] u) {x1 : Int32} {w : gM} (hM : X12_starts_b24 k24 x1 u = some w) : gV κ B skM 2 ((none), w) 24 [some (.ref (B + 0)), some (.int x1)] [] u := by
  unfold X12_starts_b24 at hM
  refine g_iload_n X dX12_starts_24 rfl ?_
  refine g_aload_n X dX12_starts_25 rfl ?_
  refine g_getR X fX12_7 cM_0 rfl dX12_starts_26 ?_
  refine g_iconst X (v := 2) dX12_starts_29 (by decide) ?_
  obtain ⟨v30, e30, hM⟩ := bind_of hM
  refine g_iaload X e30 dX12_starts_30 ?_
  refine g_icmp_ge (tgt := 54) X dX12_starts_31 (by decide) (fun c31 => ?_) (fun c31 => ?_)
  · rw [if_pos c31] at hM
    refine g_iconst X (v := 0) dX12_starts_54 (by decide) ?_
    refine g_istore_n X [some (.ref (B + 0)), some (.int 0)] dX12_starts_55 (by decide) rfl ?_
    refine g_mk [true, true] [some (.ref (B + 0)), some (.int 0)] rfl ?_
    exact v_X12_starts_l56 X  fz hM
  · rw [if_neg c31] at hM
    refine g_aload_n X dX12_starts_34 rfl ?_
    refine g_getR X fX12_56 cM_0 rfl dX12_starts_35 ?_
    refine g_iconst X (v := 1) dX12_starts_38 (by decide) ?_
    refine g_iload_n X dX12_starts_39 rfl ?_
    refine g_iadd X dX12_starts_40 ?_
    refine g_aload_n X dX12_starts_41 rfl ?_
    refine g_getR X fX12_41 cM_0 rfl dX12_starts_42 ?_
    refine g_iload_n X dX12_starts_45 rfl ?_
    obtain ⟨v46, e46, hM⟩ := bind_of hM
    refine g_iaload X e46 dX12_starts_46 ?_
    obtain ⟨u47, e47, hM⟩ := bind_of hM
    refine g_iastore X e47 dX12_starts_47 ?_
    refine g_iinc (d := 1) X [some (.ref (B + 0)), some (.int (x1 + 1))] dX12_starts_48 (by decide) rfl (by decide) rfl ?_
    refine g_goto (tgt := 24) X dX12_starts_51 (by decide) ?_
    refine g_mk [true, true] [some (.ref (B + 0)), some (.int (x1 + 1))] rfl ?_
    exact ih24 (x1 + 1) u47 _ hM
theorem v_X12_starts_l24 {κ : gK} {B : Nat} (X : gX κ B skM cX12_starts 2 RX12 none 0 0)   : ∀ (n : Nat) {x1 : Int32} {u : gM} {w : gM} (hM : X12_starts_l24  n x1 u = some w), gV κ B skM 2 ((none), w) 24 [some (.ref (B + 0)), some (.int x1)] [] u := by
  intro n
  induction n with
  | zero => intro x1 u w hM; exact nomatch (show (none : Option gM) = some w from hM)
  | succ n ihn => intro x1 u w hM; exact v_X12_starts_b24 X  (fun x1 u w h => ihn h) hM
set_option maxRecDepth 20000 in
theorem v_X12_starts_b2 {κ : gK} {B : Nat} {u : gM} (X : gX κ B skM cX12_starts 2 RX12 none 0 0) {k2 : Int32 → gM → Option gM} (ih2 : ∀ (x1 : Int32) (u : gM) (w : gM), k2 x1 u = some w → gV κ B skM 2 ((none), w) 2 [some (.ref (B + 0)), some (.int x1)] [] u) {x1 : Int32} {w : gM} (hM : X12_starts_b2 k2 x1 u = some w) : gV κ B skM 2 ((none), w) 2 [some (.ref (B + 0)), some (.int x1)] [] u := by
  unfold X12_starts_b2 at hM
  refine g_iload_n X dX12_starts_2 rfl ?_
  refine g_sipush X (v := 439) dX12_starts_3 (by decide) ?_
  refine g_icmp_ge (tgt := 22) X dX12_starts_6 (by decide) (fun c6 => ?_) (fun c6 => ?_)
  · rw [if_pos c6] at hM
    refine g_iconst X (v := 0) dX12_starts_22 (by decide) ?_
    refine g_istore_n X [some (.ref (B + 0)), some (.int 0)] dX12_starts_23 (by decide) rfl ?_
    refine g_mk [true, true] [some (.ref (B + 0)), some (.int 0)] rfl ?_
    exact v_X12_starts_l24 X  fz hM
  · rw [if_neg c6] at hM
    refine g_aload_n X dX12_starts_9 rfl ?_
    refine g_getR X fX12_56 cM_0 rfl dX12_starts_10 ?_
    refine g_iload_n X dX12_starts_13 rfl ?_
    refine g_iconst X (v := 0) dX12_starts_14 (by decide) ?_
    obtain ⟨u15, e15, hM⟩ := bind_of hM
    refine g_iastore X e15 dX12_starts_15 ?_
    refine g_iinc (d := 1) X [some (.ref (B + 0)), some (.int (x1 + 1))] dX12_starts_16 (by decide) rfl (by decide) rfl ?_
    refine g_goto (tgt := 2) X dX12_starts_19 (by decide) ?_
    refine g_mk [true, true] [some (.ref (B + 0)), some (.int (x1 + 1))] rfl ?_
    exact ih2 (x1 + 1) u15 _ hM
theorem v_X12_starts_l2 {κ : gK} {B : Nat} (X : gX κ B skM cX12_starts 2 RX12 none 0 0)   : ∀ (n : Nat) {x1 : Int32} {u : gM} {w : gM} (hM : X12_starts_l2  n x1 u = some w), gV κ B skM 2 ((none), w) 2 [some (.ref (B + 0)), some (.int x1)] [] u := by
  intro n
  induction n with
  | zero => intro x1 u w hM; exact nomatch (show (none : Option gM) = some w from hM)
  | succ n ihn => intro x1 u w hM; exact v_X12_starts_b2 X  (fun x1 u w h => ihn h) hM
set_option maxRecDepth 20000 in
theorem v_X12_starts {κ : gK} {B : Nat} {u : gM} (X : gX κ B skM cX12_starts 2 RX12 none 0 0)    {w : gM} (hM : X12_starts u = some w) : gV κ B skM 2 ((none), w) 0 [some (.ref (B + 0)), none] [] u := by
  unfold X12_starts at hM
  refine g_iconst X (v := 0) dX12_starts_0 (by decide) ?_
  refine g_istore_n X [some (.ref (B + 0)), some (.int 0)] dX12_starts_1 (by decide) rfl ?_
  refine g_mk [true, true] [some (.ref (B + 0)), some (.int 0)] rfl ?_
  exact v_X12_starts_l2 X  fz hM
theorem s_X12_starts  {u : gM} {w : gM} (hM : X12_starts u = some w) : gMet skM yX12_starts cX12_starts 2 none 0 0 (fun B adK => [.ref (B + 0)]) u ((fun _ => none), w) := by
  refine gMet.of (by decide) (fun _ _ => Nat.le_of_ble_eq_true rfl) (fun κ B X => ?_)
  have X : gX κ B skM cX12_starts 2 RX12 none 0 0 := X
  refine g_mk [true, false] [some (.ref (B + 0)), none] rfl ?_
  exact v_X12_starts X  hM
theorem fr_X12_starts_b89 {S : Nat → Prop} {u0 u : gM} {x1 : Int32} (hs0 : S 0) (hs1 : S 16) {k89 : Int32 → gM → Option gM} (ik89 : ∀ (x1 : Int32) (u : gM) (w : gM), S 0 → S 16 → off S u0 u → k89 x1 u = some w → off S u0 w) {w : gM} (hM : X12_starts_b89 k89 x1 u = some w) (h0 : off S u0 u) : off S u0 w := by
  unfold X12_starts_b89 at hM
  by_cases c92 : 6 ≤ x1
  · rw [if_pos c92] at hM
    obtain ⟨u128, e128, hM⟩ := bind_of hM
    have h0 := off_sI hs1 e128 h0
    have h0 := off_upI (u := u128) (k := 0) (j := 17) (x := 0) hs0 h0
    cases hM
    exact h0
  · rw [if_neg c92] at hM
    obtain ⟨u104, e104, hM⟩ := bind_of hM
    have h0 := off_sI hs1 e104 h0
    obtain ⟨u114, e114, hM⟩ := bind_of hM
    have h0 := off_sI hs1 e114 h0
    exact ik89 _ _ _ hs0 hs1 h0 hM
theorem fr_X12_starts_l89 {S : Nat → Prop} {u0 : gM}   : ∀ (n : Nat) {x1 : Int32} (hs0 : S 0) (hs1 : S 16) {u : gM} {w : gM} (h0 : off S u0 u) (hM : X12_starts_l89  n x1 u = some w), off S u0 w := by
  intro n
  induction n with
  | zero => intro x1 hs0 hs1 u w h0 hM; exact nomatch (show (none : Option gM) = some w from hM)
  | succ n ihn => intro x1 hs0 hs1 u w h0 hM; exact fr_X12_starts_b89 hs0 hs1  (fun x1 _ _ hs0 hs1 h0 h => ihn hs0 hs1 h0 h) hM h0
theorem fr_X12_starts_b56 {S : Nat → Prop} {u0 u : gM} {x1 : Int32} (hs0 : S 0) (hs1 : S 16) {k56 : Int32 → gM → Option gM} (ik56 : ∀ (x1 : Int32) (u : gM) (w : gM), S 0 → S 16 → off S u0 u → k56 x1 u = some w → off S u0 w) {w : gM} (hM : X12_starts_b56 k56 x1 u = some w) (h0 : off S u0 u) : off S u0 w := by
  unfold X12_starts_b56 at hM
  obtain ⟨v62, e62, hM⟩ := bind_of hM
  by_cases c63 : v62 ≤ x1
  · rw [if_pos c63] at hM
    exact fr_X12_starts_l89  fz hs0 hs1 h0 hM
  · rw [if_neg c63] at hM
    obtain ⟨v79, e79, hM⟩ := bind_of hM
    obtain ⟨u80, e80, hM⟩ := bind_of hM
    have h0 := off_sI hs1 e80 h0
    exact ik56 _ _ _ hs0 hs1 h0 hM
theorem fr_X12_starts_l56 {S : Nat → Prop} {u0 : gM}   : ∀ (n : Nat) {x1 : Int32} (hs0 : S 0) (hs1 : S 16) {u : gM} {w : gM} (h0 : off S u0 u) (hM : X12_starts_l56  n x1 u = some w), off S u0 w := by
  intro n
  induction n with
  | zero => intro x1 hs0 hs1 u w h0 hM; exact nomatch (show (none : Option gM) = some w from hM)
  | succ n ihn => intro x1 hs0 hs1 u w h0 hM; exact fr_X12_starts_b56 hs0 hs1  (fun x1 _ _ hs0 hs1 h0 h => ihn hs0 hs1 h0 h) hM h0
theorem fr_X12_starts_b24 {S : Nat → Prop} {u0 u : gM} {x1 : Int32} (hs0 : S 0) (hs1 : S 16) {k24 : Int32 → gM → Option gM} (ik24 : ∀ (x1 : Int32) (u : gM) (w : gM), S 0 → S 16 → off S u0 u → k24 x1 u = some w → off S u0 w) {w : gM} (hM : X12_starts_b24 k24 x1 u = some w) (h0 : off S u0 u) : off S u0 w := by
  unfold X12_starts_b24 at hM
  obtain ⟨v30, e30, hM⟩ := bind_of hM
  by_cases c31 : v30 ≤ x1
  · rw [if_pos c31] at hM
    exact fr_X12_starts_l56  fz hs0 hs1 h0 hM
  · rw [if_neg c31] at hM
    obtain ⟨v46, e46, hM⟩ := bind_of hM
    obtain ⟨u47, e47, hM⟩ := bind_of hM
    have h0 := off_sI hs1 e47 h0
    exact ik24 _ _ _ hs0 hs1 h0 hM
theorem fr_X12_starts_l24 {S : Nat → Prop} {u0 : gM}   : ∀ (n : Nat) {x1 : Int32} (hs0 : S 0) (hs1 : S 16) {u : gM} {w : gM} (h0 : off S u0 u) (hM : X12_starts_l24  n x1 u = some w), off S u0 w := by
  intro n
  induction n with
  | zero => intro x1 hs0 hs1 u w h0 hM; exact nomatch (show (none : Option gM) = some w from hM)
  | succ n ihn => intro x1 hs0 hs1 u w h0 hM; exact fr_X12_starts_b24 hs0 hs1  (fun x1 _ _ hs0 hs1 h0 h => ihn hs0 hs1 h0 h) hM h0
theorem fr_X12_starts_b2 {S : Nat → Prop} {u0 u : gM} {x1 : Int32} (hs0 : S 0) (hs1 : S 16) {k2 : Int32 → gM → Option gM} (ik2 : ∀ (x1 : Int32) (u : gM) (w : gM), S 0 → S 16 → off S u0 u → k2 x1 u = some w → off S u0 w) {w : gM} (hM : X12_starts_b2 k2 x1 u = some w) (h0 : off S u0 u) : off S u0 w := by
  unfold X12_starts_b2 at hM
  by_cases c6 : 439 ≤ x1
  · rw [if_pos c6] at hM
    exact fr_X12_starts_l24  fz hs0 hs1 h0 hM
  · rw [if_neg c6] at hM
    obtain ⟨u15, e15, hM⟩ := bind_of hM
    have h0 := off_sI hs1 e15 h0
    exact ik2 _ _ _ hs0 hs1 h0 hM
theorem fr_X12_starts_l2 {S : Nat → Prop} {u0 : gM}   : ∀ (n : Nat) {x1 : Int32} (hs0 : S 0) (hs1 : S 16) {u : gM} {w : gM} (h0 : off S u0 u) (hM : X12_starts_l2  n x1 u = some w), off S u0 w := by
  intro n
  induction n with
  | zero => intro x1 hs0 hs1 u w h0 hM; exact nomatch (show (none : Option gM) = some w from hM)
  | succ n ihn => intro x1 hs0 hs1 u w h0 hM; exact fr_X12_starts_b2 hs0 hs1  (fun x1 _ _ hs0 hs1 h0 h => ihn hs0 hs1 h0 h) hM h0
theorem fr_X12_starts {S : Nat → Prop} {u0 u : gM}  (hs0 : S 0) (hs1 : S 16)   {w : gM} (hM : X12_starts u = some w) (h0 : off S u0 u) : off S u0 w := by
  unfold X12_starts at hM
  exact fr_X12_starts_l2  fz hs0 hs1 h0 hM
/-! CoverDeskModel.book()I -/
theorem dX12_book_0 : decode cX12_book 0 = .ok (.iconst 0, 1) := by decide +kernel
theorem dX12_book_1 : decode cX12_book 1 = .ok (.istore_n 1, 1) := by decide +kernel
theorem dX12_book_2 : decode cX12_book 2 = .ok (.iload_n 1, 1) := by decide +kernel
theorem dX12_book_3 : decode cX12_book 3 = .ok (.bipush 6, 2) := by decide +kernel
theorem dX12_book_5 : decode cX12_book 5 = .ok (.if_icmp .ge 19, 3) := by decide +kernel
theorem dX12_book_8 : decode cX12_book 8 = .ok (.aload_n 0, 1) := by decide +kernel
theorem dX12_book_9 : decode cX12_book 9 = .ok (.getfield 7, 3) := by decide +kernel
theorem dX12_book_12 : decode cX12_book 12 = .ok (.bipush 6, 2) := by decide +kernel
theorem dX12_book_14 : decode cX12_book 14 = .ok (.iload_n 1, 1) := by decide +kernel
theorem dX12_book_15 : decode cX12_book 15 = .ok (.iadd, 1) := by decide +kernel
theorem dX12_book_16 : decode cX12_book 16 = .ok (.iconst 0, 1) := by decide +kernel
theorem dX12_book_17 : decode cX12_book 17 = .ok (.iastore, 1) := by decide +kernel
theorem dX12_book_18 : decode cX12_book 18 = .ok (.iinc 1 1, 3) := by decide +kernel
theorem dX12_book_21 : decode cX12_book 21 = .ok (.goto (-19), 3) := by decide +kernel
theorem dX12_book_24 : decode cX12_book 24 = .ok (.aload_n 0, 1) := by decide +kernel
theorem dX12_book_25 : decode cX12_book 25 = .ok (.getfield 7, 3) := by decide +kernel
theorem dX12_book_28 : decode cX12_book 28 = .ok (.bipush 10, 2) := by decide +kernel
theorem dX12_book_30 : decode cX12_book 30 = .ok (.ldc 111, 2) := by decide +kernel
theorem dX12_book_32 : decode cX12_book 32 = .ok (.iastore, 1) := by decide +kernel
theorem dX12_book_33 : decode cX12_book 33 = .ok (.aload_n 0, 1) := by decide +kernel
theorem dX12_book_34 : decode cX12_book 34 = .ok (.getfield 7, 3) := by decide +kernel
theorem dX12_book_37 : decode cX12_book 37 = .ok (.bipush 11, 2) := by decide +kernel
theorem dX12_book_39 : decode cX12_book 39 = .ok (.bipush 6, 2) := by decide +kernel
theorem dX12_book_41 : decode cX12_book 41 = .ok (.iastore, 1) := by decide +kernel
theorem dX12_book_42 : decode cX12_book 42 = .ok (.aload_n 0, 1) := by decide +kernel
theorem dX12_book_43 : decode cX12_book 43 = .ok (.invokevirtual 290, 3) := by decide +kernel
theorem dX12_book_46 : decode cX12_book 46 = .ok (.aload_n 0, 1) := by decide +kernel
theorem dX12_book_47 : decode cX12_book 47 = .ok (.getfield 149, 3) := by decide +kernel
theorem dX12_book_50 : decode cX12_book 50 = .ok (.ifCond .eq 7, 3) := by decide +kernel
theorem dX12_book_53 : decode cX12_book 53 = .ok (.iconst 1, 1) := by decide +kernel
theorem dX12_book_54 : decode cX12_book 54 = .ok (.goto 4, 3) := by decide +kernel
theorem dX12_book_57 : decode cX12_book 57 = .ok (.iconst 0, 1) := by decide +kernel
theorem dX12_book_58 : decode cX12_book 58 = .ok (.istore_n 1, 1) := by decide +kernel
theorem dX12_book_59 : decode cX12_book 59 = .ok (.iload_n 1, 1) := by decide +kernel
theorem dX12_book_60 : decode cX12_book 60 = .ok (.ifCond .eq 26, 3) := by decide +kernel
theorem dX12_book_63 : decode cX12_book 63 = .ok (.aload_n 0, 1) := by decide +kernel
theorem dX12_book_64 : decode cX12_book 64 = .ok (.invokevirtual 293, 3) := by decide +kernel
theorem dX12_book_67 : decode cX12_book 67 = .ok (.ifCond .eq 14, 3) := by decide +kernel
theorem dX12_book_70 : decode cX12_book 70 = .ok (.aload_n 0, 1) := by decide +kernel
theorem dX12_book_71 : decode cX12_book 71 = .ok (.getfield 149, 3) := by decide +kernel
theorem dX12_book_74 : decode cX12_book 74 = .ok (.ifCond .eq 7, 3) := by decide +kernel
theorem dX12_book_77 : decode cX12_book 77 = .ok (.iconst 1, 1) := by decide +kernel
theorem dX12_book_78 : decode cX12_book 78 = .ok (.goto 4, 3) := by decide +kernel
theorem dX12_book_81 : decode cX12_book 81 = .ok (.iconst 0, 1) := by decide +kernel
theorem dX12_book_82 : decode cX12_book 82 = .ok (.istore_n 1, 1) := by decide +kernel
theorem dX12_book_83 : decode cX12_book 83 = .ok (.goto (-24), 3) := by decide +kernel
theorem dX12_book_86 : decode cX12_book 86 = .ok (.aload_n 0, 1) := by decide +kernel
theorem dX12_book_87 : decode cX12_book 87 = .ok (.invokevirtual 296, 3) := by decide +kernel
theorem dX12_book_90 : decode cX12_book 90 = .ok (.ifCond .ne 5, 3) := by decide +kernel
theorem dX12_book_93 : decode cX12_book 93 = .ok (.iconst (-1), 1) := by decide +kernel
theorem dX12_book_94 : decode cX12_book 94 = .ok (.ireturn, 1) := by decide +kernel
theorem dX12_book_95 : decode cX12_book 95 = .ok (.iconst 0, 1) := by decide +kernel
theorem dX12_book_96 : decode cX12_book 96 = .ok (.istore_n 2, 1) := by decide +kernel
theorem dX12_book_97 : decode cX12_book 97 = .ok (.iload_n 2, 1) := by decide +kernel
theorem dX12_book_98 : decode cX12_book 98 = .ok (.bipush 6, 2) := by decide +kernel
theorem dX12_book_100 : decode cX12_book 100 = .ok (.if_icmp .ge 24, 3) := by decide +kernel
theorem dX12_book_103 : decode cX12_book 103 = .ok (.aload_n 0, 1) := by decide +kernel
theorem dX12_book_104 : decode cX12_book 104 = .ok (.getfield 7, 3) := by decide +kernel
theorem dX12_book_107 : decode cX12_book 107 = .ok (.iload_n 2, 1) := by decide +kernel
theorem dX12_book_108 : decode cX12_book 108 = .ok (.aload_n 0, 1) := by decide +kernel
theorem dX12_book_109 : decode cX12_book 109 = .ok (.getfield 7, 3) := by decide +kernel
theorem dX12_book_112 : decode cX12_book 112 = .ok (.bipush 6, 2) := by decide +kernel
theorem dX12_book_114 : decode cX12_book 114 = .ok (.iload_n 2, 1) := by decide +kernel
theorem dX12_book_115 : decode cX12_book 115 = .ok (.iadd, 1) := by decide +kernel
theorem dX12_book_116 : decode cX12_book 116 = .ok (.iaload, 1) := by decide +kernel
theorem dX12_book_117 : decode cX12_book 117 = .ok (.iastore, 1) := by decide +kernel
theorem dX12_book_118 : decode cX12_book 118 = .ok (.iinc 2 1, 3) := by decide +kernel
theorem dX12_book_121 : decode cX12_book 121 = .ok (.goto (-24), 3) := by decide +kernel
theorem dX12_book_124 : decode cX12_book 124 = .ok (.iconst 0, 1) := by decide +kernel
theorem dX12_book_125 : decode cX12_book 125 = .ok (.istore_n 2, 1) := by decide +kernel
theorem dX12_book_126 : decode cX12_book 126 = .ok (.iload_n 2, 1) := by decide +kernel
theorem dX12_book_127 : decode cX12_book 127 = .ok (.bipush 10, 2) := by decide +kernel
theorem dX12_book_129 : decode cX12_book 129 = .ok (.if_icmp .ge 24, 3) := by decide +kernel
theorem dX12_book_132 : decode cX12_book 132 = .ok (.aload_n 0, 1) := by decide +kernel
theorem dX12_book_133 : decode cX12_book 133 = .ok (.getfield 13, 3) := by decide +kernel
theorem dX12_book_136 : decode cX12_book 136 = .ok (.iload_n 2, 1) := by decide +kernel
theorem dX12_book_137 : decode cX12_book 137 = .ok (.aload_n 0, 1) := by decide +kernel
theorem dX12_book_138 : decode cX12_book 138 = .ok (.getfield 13, 3) := by decide +kernel
theorem dX12_book_141 : decode cX12_book 141 = .ok (.bipush 10, 2) := by decide +kernel
theorem dX12_book_143 : decode cX12_book 143 = .ok (.iload_n 2, 1) := by decide +kernel
theorem dX12_book_144 : decode cX12_book 144 = .ok (.iadd, 1) := by decide +kernel
theorem dX12_book_145 : decode cX12_book 145 = .ok (.laload, 1) := by decide +kernel
theorem dX12_book_146 : decode cX12_book 146 = .ok (.lastore, 1) := by decide +kernel
theorem dX12_book_147 : decode cX12_book 147 = .ok (.iinc 2 1, 3) := by decide +kernel
theorem dX12_book_150 : decode cX12_book 150 = .ok (.goto (-24), 3) := by decide +kernel
theorem dX12_book_153 : decode cX12_book 153 = .ok (.iconst 0, 1) := by decide +kernel
theorem dX12_book_154 : decode cX12_book 154 = .ok (.istore_n 2, 1) := by decide +kernel
theorem dX12_book_155 : decode cX12_book 155 = .ok (.iload_n 2, 1) := by decide +kernel
theorem dX12_book_156 : decode cX12_book 156 = .ok (.bipush 6, 2) := by decide +kernel
theorem dX12_book_158 : decode cX12_book 158 = .ok (.if_icmp .ge 24, 3) := by decide +kernel
theorem dX12_book_161 : decode cX12_book 161 = .ok (.aload_n 0, 1) := by decide +kernel
theorem dX12_book_162 : decode cX12_book 162 = .ok (.getfield 17, 3) := by decide +kernel
theorem dX12_book_165 : decode cX12_book 165 = .ok (.iload_n 2, 1) := by decide +kernel
theorem dX12_book_166 : decode cX12_book 166 = .ok (.aload_n 0, 1) := by decide +kernel
theorem dX12_book_167 : decode cX12_book 167 = .ok (.getfield 17, 3) := by decide +kernel
theorem dX12_book_170 : decode cX12_book 170 = .ok (.bipush 6, 2) := by decide +kernel
theorem dX12_book_172 : decode cX12_book 172 = .ok (.iload_n 2, 1) := by decide +kernel
theorem dX12_book_173 : decode cX12_book 173 = .ok (.iadd, 1) := by decide +kernel
theorem dX12_book_174 : decode cX12_book 174 = .ok (.laload, 1) := by decide +kernel
theorem dX12_book_175 : decode cX12_book 175 = .ok (.lastore, 1) := by decide +kernel
theorem dX12_book_176 : decode cX12_book 176 = .ok (.iinc 2 1, 3) := by decide +kernel
theorem dX12_book_179 : decode cX12_book 179 = .ok (.goto (-24), 3) := by decide +kernel
theorem dX12_book_182 : decode cX12_book 182 = .ok (.iconst 0, 1) := by decide +kernel
theorem dX12_book_183 : decode cX12_book 183 = .ok (.istore_n 2, 1) := by decide +kernel
theorem dX12_book_184 : decode cX12_book 184 = .ok (.iload_n 2, 1) := by decide +kernel
theorem dX12_book_185 : decode cX12_book 185 = .ok (.bipush 10, 2) := by decide +kernel
theorem dX12_book_187 : decode cX12_book 187 = .ok (.if_icmp .ge 54, 3) := by decide +kernel
theorem dX12_book_190 : decode cX12_book 190 = .ok (.aload_n 0, 1) := by decide +kernel
theorem dX12_book_191 : decode cX12_book 191 = .ok (.getfield 47, 3) := by decide +kernel
theorem dX12_book_194 : decode cX12_book 194 = .ok (.iload_n 2, 1) := by decide +kernel
theorem dX12_book_195 : decode cX12_book 195 = .ok (.aload_n 0, 1) := by decide +kernel
theorem dX12_book_196 : decode cX12_book 196 = .ok (.getfield 47, 3) := by decide +kernel
theorem dX12_book_199 : decode cX12_book 199 = .ok (.bipush 10, 2) := by decide +kernel
theorem dX12_book_201 : decode cX12_book 201 = .ok (.iload_n 2, 1) := by decide +kernel
theorem dX12_book_202 : decode cX12_book 202 = .ok (.iadd, 1) := by decide +kernel
theorem dX12_book_203 : decode cX12_book 203 = .ok (.iaload, 1) := by decide +kernel
theorem dX12_book_204 : decode cX12_book 204 = .ok (.iastore, 1) := by decide +kernel
theorem dX12_book_205 : decode cX12_book 205 = .ok (.aload_n 0, 1) := by decide +kernel
theorem dX12_book_206 : decode cX12_book 206 = .ok (.getfield 50, 3) := by decide +kernel
theorem dX12_book_209 : decode cX12_book 209 = .ok (.iload_n 2, 1) := by decide +kernel
theorem dX12_book_210 : decode cX12_book 210 = .ok (.aload_n 0, 1) := by decide +kernel
theorem dX12_book_211 : decode cX12_book 211 = .ok (.getfield 50, 3) := by decide +kernel
theorem dX12_book_214 : decode cX12_book 214 = .ok (.bipush 10, 2) := by decide +kernel
theorem dX12_book_216 : decode cX12_book 216 = .ok (.iload_n 2, 1) := by decide +kernel
theorem dX12_book_217 : decode cX12_book 217 = .ok (.iadd, 1) := by decide +kernel
theorem dX12_book_218 : decode cX12_book 218 = .ok (.iaload, 1) := by decide +kernel
theorem dX12_book_219 : decode cX12_book 219 = .ok (.iastore, 1) := by decide +kernel
theorem dX12_book_220 : decode cX12_book 220 = .ok (.aload_n 0, 1) := by decide +kernel
theorem dX12_book_221 : decode cX12_book 221 = .ok (.getfield 53, 3) := by decide +kernel
theorem dX12_book_224 : decode cX12_book 224 = .ok (.iload_n 2, 1) := by decide +kernel
theorem dX12_book_225 : decode cX12_book 225 = .ok (.aload_n 0, 1) := by decide +kernel
theorem dX12_book_226 : decode cX12_book 226 = .ok (.getfield 53, 3) := by decide +kernel
theorem dX12_book_229 : decode cX12_book 229 = .ok (.bipush 10, 2) := by decide +kernel
theorem dX12_book_231 : decode cX12_book 231 = .ok (.iload_n 2, 1) := by decide +kernel
theorem dX12_book_232 : decode cX12_book 232 = .ok (.iadd, 1) := by decide +kernel
theorem dX12_book_233 : decode cX12_book 233 = .ok (.iaload, 1) := by decide +kernel
theorem dX12_book_234 : decode cX12_book 234 = .ok (.iastore, 1) := by decide +kernel
theorem dX12_book_235 : decode cX12_book 235 = .ok (.iinc 2 1, 3) := by decide +kernel
theorem dX12_book_238 : decode cX12_book 238 = .ok (.goto (-54), 3) := by decide +kernel
theorem dX12_book_241 : decode cX12_book 241 = .ok (.iconst 0, 1) := by decide +kernel
theorem dX12_book_242 : decode cX12_book 242 = .ok (.istore_n 2, 1) := by decide +kernel
theorem dX12_book_243 : decode cX12_book 243 = .ok (.iload_n 2, 1) := by decide +kernel
theorem dX12_book_244 : decode cX12_book 244 = .ok (.bipush 24, 2) := by decide +kernel
theorem dX12_book_246 : decode cX12_book 246 = .ok (.if_icmp .ge 18, 3) := by decide +kernel
theorem dX12_book_249 : decode cX12_book 249 = .ok (.aload_n 0, 1) := by decide +kernel
theorem dX12_book_250 : decode cX12_book 250 = .ok (.iload_n 2, 1) := by decide +kernel
theorem dX12_book_251 : decode cX12_book 251 = .ok (.bipush 24, 2) := by decide +kernel
theorem dX12_book_253 : decode cX12_book 253 = .ok (.iload_n 2, 1) := by decide +kernel
theorem dX12_book_254 : decode cX12_book 254 = .ok (.iadd, 1) := by decide +kernel
theorem dX12_book_255 : decode cX12_book 255 = .ok (.invokevirtual 299, 3) := by decide +kernel
theorem dX12_book_258 : decode cX12_book 258 = .ok (.iinc 2 1, 3) := by decide +kernel
theorem dX12_book_261 : decode cX12_book 261 = .ok (.goto (-18), 3) := by decide +kernel
theorem dX12_book_264 : decode cX12_book 264 = .ok (.aload_n 0, 1) := by decide +kernel
theorem dX12_book_265 : decode cX12_book 265 = .ok (.invokevirtual 112, 3) := by decide +kernel
theorem dX12_book_268 : decode cX12_book 268 = .ok (.aload_n 0, 1) := by decide +kernel
theorem dX12_book_269 : decode cX12_book 269 = .ok (.getfield 7, 3) := by decide +kernel
theorem dX12_book_272 : decode cX12_book 272 = .ok (.iconst 2, 1) := by decide +kernel
theorem dX12_book_273 : decode cX12_book 273 = .ok (.iaload, 1) := by decide +kernel
theorem dX12_book_274 : decode cX12_book 274 = .ok (.ireturn, 1) := by decide +kernel
def X12_book_b243 (k243 : Int32 → gM → Option (Int32 × gM)) (x2 : Int32) (u : gM) : Option (Int32 × gM) :=
(if 24 ≤ x2 then ((X12_starts u).bind fun w265 => ((aI skM w265 1 2).bind fun v273 => some (v273, w265)))
  else ((X12_takesOver x2 (24 + x2) u).bind fun w255 => (k243 (x2 + 1) w255)))
def X12_book_l243  : Nat → Int32 → gM → Option (Int32 × gM)
  | 0, _, _ => none
  | n + 1, x2, u => X12_book_b243  (X12_book_l243  n) x2 u
def X12_book_b184 (k184 : Int32 → gM → Option (Int32 × gM)) (x2 : Int32) (u : gM) : Option (Int32 × gM) :=
(if 10 ≤ x2 then (X12_book_l243 fz 0 u)
  else ((aI skM u 13 (10 + x2)).bind fun v203 => ((sI skM u 13 x2 v203).bind fun u204 => ((aI skM u204 14 (10 + x2)).bind fun v218 => ((sI skM u204 14 x2 v218).bind fun u219 => ((aI skM u219 15 (10 + x2)).bind fun v233 => ((sI skM u219 15 x2 v233).bind fun u234 => (k184 (x2 + 1) u234))))))))
def X12_book_l184  : Nat → Int32 → gM → Option (Int32 × gM)
  | 0, _, _ => none
  | n + 1, x2, u => X12_book_b184  (X12_book_l184  n) x2 u
def X12_book_b155 (k155 : Int32 → gM → Option (Int32 × gM)) (x2 : Int32) (u : gM) : Option (Int32 × gM) :=
(if 6 ≤ x2 then (X12_book_l184 fz 0 u)
  else ((aJ skM u 3 (6 + x2)).bind fun v174 => ((sJ skM u 3 x2 v174).bind fun u175 => (k155 (x2 + 1) u175))))
def X12_book_l155  : Nat → Int32 → gM → Option (Int32 × gM)
  | 0, _, _ => none
  | n + 1, x2, u => X12_book_b155  (X12_book_l155  n) x2 u
def X12_book_b126 (k126 : Int32 → gM → Option (Int32 × gM)) (x2 : Int32) (u : gM) : Option (Int32 × gM) :=
(if 10 ≤ x2 then (X12_book_l155 fz 0 u)
  else ((aJ skM u 2 (10 + x2)).bind fun v145 => ((sJ skM u 2 x2 v145).bind fun u146 => (k126 (x2 + 1) u146))))
def X12_book_l126  : Nat → Int32 → gM → Option (Int32 × gM)
  | 0, _, _ => none
  | n + 1, x2, u => X12_book_b126  (X12_book_l126  n) x2 u
def X12_book_b97 (k97 : Int32 → gM → Option (Int32 × gM)) (x2 : Int32) (u : gM) : Option (Int32 × gM) :=
(if 6 ≤ x2 then (X12_book_l126 fz 0 u)
  else ((aI skM u 1 (6 + x2)).bind fun v116 => ((sI skM u 1 x2 v116).bind fun u117 => (k97 (x2 + 1) u117))))
def X12_book_l97  : Nat → Int32 → gM → Option (Int32 × gM)
  | 0, _, _ => none
  | n + 1, x2, u => X12_book_b97  (X12_book_l97  n) x2 u
def X12_book_b82 (k59 : Int32 → gM → Option (Int32 × gM)) (s0 : Int32) (u : gM) : Option (Int32 × gM) :=
(k59 s0 u)
def X12_book_b81 (k59 : Int32 → gM → Option (Int32 × gM))  (u : gM) : Option (Int32 × gM) :=
(X12_book_b82 k59 0 u)
def X12_book_b59 (k59 : Int32 → gM → Option (Int32 × gM)) (x1 : Int32) (u : gM) : Option (Int32 × gM) :=
(if x1 = 0 then ((X12_isRead u).bind fun w87 => (if w87.1 = 0 then some ((-1), w87.2)
    else (X12_book_l97 fz 0 w87.2)))
  else ((X12_readLine u).bind fun w64 => (if w64.1 = 0 then (X12_book_b81 k59 w64.2)
    else (if (w64.2.1 0 25) = 0 then (X12_book_b81 k59 w64.2)
      else (X12_book_b82 k59 1 w64.2)))))
def X12_book_l59  : Nat → Int32 → gM → Option (Int32 × gM)
  | 0, _, _ => none
  | n + 1, x1, u => X12_book_b59  (X12_book_l59  n) x1 u
def X12_book_b58  (s0 : Int32) (u : gM) : Option (Int32 × gM) :=
(X12_book_l59 fz s0 u)
def X12_book_b2 (k2 : Int32 → gM → Option (Int32 × gM)) (x1 : Int32) (u : gM) : Option (Int32 × gM) :=
(if 6 ≤ x1 then ((sI skM u 1 10 250000).bind fun u32 => ((sI skM u32 1 11 6).bind fun u41 => ((X12_begins u41).bind fun w43 => (if (w43.1 0 25) = 0 then (X12_book_b58 0 w43)
    else (X12_book_b58 1 w43)))))
  else ((sI skM u 1 (6 + x1) 0).bind fun u17 => (k2 (x1 + 1) u17)))
def X12_book_l2  : Nat → Int32 → gM → Option (Int32 × gM)
  | 0, _, _ => none
  | n + 1, x1, u => X12_book_b2  (X12_book_l2  n) x1 u
def X12_book   (u : gM) : Option (Int32 × gM) :=
(X12_book_l2 fz 0 u)
set_option maxRecDepth 20000 in
theorem v_X12_book_b243 {κ : gK} {B : Nat} {u : gM} (X : gX κ B skM cX12_book 3 RX12 (some .int) 12 270) {k243 : Int32 → gM → Option (Int32 × gM)} (ih243 : ∀ (x2 : Int32) (u : gM) (w : (Int32 × gM)), k243 x2 u = some w → gV κ B skM 3 ((some (.int w.1)), w.2) 243 [some (.ref (B + 0)), none, some (.int x2)] [] u) {x2 : Int32} {w : (Int32 × gM)} (hM : X12_book_b243 k243 x2 u = some w) : gV κ B skM 3 ((some (.int w.1)), w.2) 243 [some (.ref (B + 0)), none, some (.int x2)] [] u := by
  unfold X12_book_b243 at hM
  refine g_iload_n X dX12_book_243 rfl ?_
  refine g_bipush X (v := 24) dX12_book_244 (by decide) ?_
  refine g_icmp_ge (tgt := 264) X dX12_book_246 (by decide) (fun c246 => ?_) (fun c246 => ?_)
  · rw [if_pos c246] at hM
    refine g_aload_n X dX12_book_264 rfl ?_
    obtain ⟨w265, e265, hM⟩ := bind_of hM
    refine g_callVv X (fun B adK => []) (s_X12_starts e265) cvX12_112 cM_0 rfl rfl (Nat.le_of_ble_eq_true rfl) ⟨by decide, by decide⟩ dX12_book_265 ?_
    refine g_aload_n X dX12_book_268 rfl ?_
    refine g_getR X fX12_7 cM_0 rfl dX12_book_269 ?_
    refine g_iconst X (v := 2) dX12_book_272 (by decide) ?_
    obtain ⟨v273, e273, hM⟩ := bind_of hM
    refine g_iaload X e273 dX12_book_273 ?_
    cases hM
    exact g_iret X dX12_book_274
  · rw [if_neg c246] at hM
    refine g_aload_n X dX12_book_249 rfl ?_
    refine g_iload_n X dX12_book_250 rfl ?_
    refine g_bipush X (v := 24) dX12_book_251 (by decide) ?_
    refine g_iload_n X dX12_book_253 rfl ?_
    refine g_iadd X dX12_book_254 ?_
    obtain ⟨w255, e255, hM⟩ := bind_of hM
    refine g_callVv X (fun B adK => [.int x2, .int (24 + x2)]) (s_X12_takesOver e255) cvX12_299 cM_0 rfl rfl (Nat.le_of_ble_eq_true rfl) ⟨by decide, by decide⟩ dX12_book_255 ?_
    refine g_iinc (d := 1) X [some (.ref (B + 0)), none, some (.int (x2 + 1))] dX12_book_258 (by decide) rfl (by decide) rfl ?_
    refine g_goto (tgt := 243) X dX12_book_261 (by decide) ?_
    refine g_mk [true, false, true] [some (.ref (B + 0)), none, some (.int (x2 + 1))] rfl ?_
    exact ih243 (x2 + 1) w255 _ hM
theorem v_X12_book_l243 {κ : gK} {B : Nat} (X : gX κ B skM cX12_book 3 RX12 (some .int) 12 270)   : ∀ (n : Nat) {x2 : Int32} {u : gM} {w : (Int32 × gM)} (hM : X12_book_l243  n x2 u = some w), gV κ B skM 3 ((some (.int w.1)), w.2) 243 [some (.ref (B + 0)), none, some (.int x2)] [] u := by
  intro n
  induction n with
  | zero => intro x2 u w hM; exact nomatch (show (none : Option (Int32 × gM)) = some w from hM)
  | succ n ihn => intro x2 u w hM; exact v_X12_book_b243 X  (fun x2 u w h => ihn h) hM
set_option maxRecDepth 20000 in
theorem v_X12_book_b184 {κ : gK} {B : Nat} {u : gM} (X : gX κ B skM cX12_book 3 RX12 (some .int) 12 270) {k184 : Int32 → gM → Option (Int32 × gM)} (ih184 : ∀ (x2 : Int32) (u : gM) (w : (Int32 × gM)), k184 x2 u = some w → gV κ B skM 3 ((some (.int w.1)), w.2) 184 [some (.ref (B + 0)), none, some (.int x2)] [] u) {x2 : Int32} {w : (Int32 × gM)} (hM : X12_book_b184 k184 x2 u = some w) : gV κ B skM 3 ((some (.int w.1)), w.2) 184 [some (.ref (B + 0)), none, some (.int x2)] [] u := by
  unfold X12_book_b184 at hM
  refine g_iload_n X dX12_book_184 rfl ?_
  refine g_bipush X (v := 10) dX12_book_185 (by decide) ?_
  refine g_icmp_ge (tgt := 241) X dX12_book_187 (by decide) (fun c187 => ?_) (fun c187 => ?_)
  · rw [if_pos c187] at hM
    refine g_iconst X (v := 0) dX12_book_241 (by decide) ?_
    refine g_istore_n X [some (.ref (B + 0)), none, some (.int 0)] dX12_book_242 (by decide) rfl ?_
    refine g_mk [true, false, true] [some (.ref (B + 0)), none, some (.int 0)] rfl ?_
    exact v_X12_book_l243 X  fz hM
  · rw [if_neg c187] at hM
    refine g_aload_n X dX12_book_190 rfl ?_
    refine g_getR X fX12_47 cM_0 rfl dX12_book_191 ?_
    refine g_iload_n X dX12_book_194 rfl ?_
    refine g_aload_n X dX12_book_195 rfl ?_
    refine g_getR X fX12_47 cM_0 rfl dX12_book_196 ?_
    refine g_bipush X (v := 10) dX12_book_199 (by decide) ?_
    refine g_iload_n X dX12_book_201 rfl ?_
    refine g_iadd X dX12_book_202 ?_
    obtain ⟨v203, e203, hM⟩ := bind_of hM
    refine g_iaload X e203 dX12_book_203 ?_
    obtain ⟨u204, e204, hM⟩ := bind_of hM
    refine g_iastore X e204 dX12_book_204 ?_
    refine g_aload_n X dX12_book_205 rfl ?_
    refine g_getR X fX12_50 cM_0 rfl dX12_book_206 ?_
    refine g_iload_n X dX12_book_209 rfl ?_
    refine g_aload_n X dX12_book_210 rfl ?_
    refine g_getR X fX12_50 cM_0 rfl dX12_book_211 ?_
    refine g_bipush X (v := 10) dX12_book_214 (by decide) ?_
    refine g_iload_n X dX12_book_216 rfl ?_
    refine g_iadd X dX12_book_217 ?_
    obtain ⟨v218, e218, hM⟩ := bind_of hM
    refine g_iaload X e218 dX12_book_218 ?_
    obtain ⟨u219, e219, hM⟩ := bind_of hM
    refine g_iastore X e219 dX12_book_219 ?_
    refine g_aload_n X dX12_book_220 rfl ?_
    refine g_getR X fX12_53 cM_0 rfl dX12_book_221 ?_
    refine g_iload_n X dX12_book_224 rfl ?_
    refine g_aload_n X dX12_book_225 rfl ?_
    refine g_getR X fX12_53 cM_0 rfl dX12_book_226 ?_
    refine g_bipush X (v := 10) dX12_book_229 (by decide) ?_
    refine g_iload_n X dX12_book_231 rfl ?_
    refine g_iadd X dX12_book_232 ?_
    obtain ⟨v233, e233, hM⟩ := bind_of hM
    refine g_iaload X e233 dX12_book_233 ?_
    obtain ⟨u234, e234, hM⟩ := bind_of hM
    refine g_iastore X e234 dX12_book_234 ?_
    refine g_iinc (d := 1) X [some (.ref (B + 0)), none, some (.int (x2 + 1))] dX12_book_235 (by decide) rfl (by decide) rfl ?_
    refine g_goto (tgt := 184) X dX12_book_238 (by decide) ?_
    refine g_mk [true, false, true] [some (.ref (B + 0)), none, some (.int (x2 + 1))] rfl ?_
    exact ih184 (x2 + 1) u234 _ hM
theorem v_X12_book_l184 {κ : gK} {B : Nat} (X : gX κ B skM cX12_book 3 RX12 (some .int) 12 270)   : ∀ (n : Nat) {x2 : Int32} {u : gM} {w : (Int32 × gM)} (hM : X12_book_l184  n x2 u = some w), gV κ B skM 3 ((some (.int w.1)), w.2) 184 [some (.ref (B + 0)), none, some (.int x2)] [] u := by
  intro n
  induction n with
  | zero => intro x2 u w hM; exact nomatch (show (none : Option (Int32 × gM)) = some w from hM)
  | succ n ihn => intro x2 u w hM; exact v_X12_book_b184 X  (fun x2 u w h => ihn h) hM
set_option maxRecDepth 20000 in
theorem v_X12_book_b155 {κ : gK} {B : Nat} {u : gM} (X : gX κ B skM cX12_book 3 RX12 (some .int) 12 270) {k155 : Int32 → gM → Option (Int32 × gM)} (ih155 : ∀ (x2 : Int32) (u : gM) (w : (Int32 × gM)), k155 x2 u = some w → gV κ B skM 3 ((some (.int w.1)), w.2) 155 [some (.ref (B + 0)), none, some (.int x2)] [] u) {x2 : Int32} {w : (Int32 × gM)} (hM : X12_book_b155 k155 x2 u = some w) : gV κ B skM 3 ((some (.int w.1)), w.2) 155 [some (.ref (B + 0)), none, some (.int x2)] [] u := by
  unfold X12_book_b155 at hM
  refine g_iload_n X dX12_book_155 rfl ?_
  refine g_bipush X (v := 6) dX12_book_156 (by decide) ?_
  refine g_icmp_ge (tgt := 182) X dX12_book_158 (by decide) (fun c158 => ?_) (fun c158 => ?_)
  · rw [if_pos c158] at hM
    refine g_iconst X (v := 0) dX12_book_182 (by decide) ?_
    refine g_istore_n X [some (.ref (B + 0)), none, some (.int 0)] dX12_book_183 (by decide) rfl ?_
    refine g_mk [true, false, true] [some (.ref (B + 0)), none, some (.int 0)] rfl ?_
    exact v_X12_book_l184 X  fz hM
  · rw [if_neg c158] at hM
    refine g_aload_n X dX12_book_161 rfl ?_
    refine g_getR X fX12_17 cM_0 rfl dX12_book_162 ?_
    refine g_iload_n X dX12_book_165 rfl ?_
    refine g_aload_n X dX12_book_166 rfl ?_
    refine g_getR X fX12_17 cM_0 rfl dX12_book_167 ?_
    refine g_bipush X (v := 6) dX12_book_170 (by decide) ?_
    refine g_iload_n X dX12_book_172 rfl ?_
    refine g_iadd X dX12_book_173 ?_
    obtain ⟨v174, e174, hM⟩ := bind_of hM
    refine g_laload X e174 dX12_book_174 ?_
    obtain ⟨u175, e175, hM⟩ := bind_of hM
    refine g_lastore X e175 dX12_book_175 ?_
    refine g_iinc (d := 1) X [some (.ref (B + 0)), none, some (.int (x2 + 1))] dX12_book_176 (by decide) rfl (by decide) rfl ?_
    refine g_goto (tgt := 155) X dX12_book_179 (by decide) ?_
    refine g_mk [true, false, true] [some (.ref (B + 0)), none, some (.int (x2 + 1))] rfl ?_
    exact ih155 (x2 + 1) u175 _ hM
theorem v_X12_book_l155 {κ : gK} {B : Nat} (X : gX κ B skM cX12_book 3 RX12 (some .int) 12 270)   : ∀ (n : Nat) {x2 : Int32} {u : gM} {w : (Int32 × gM)} (hM : X12_book_l155  n x2 u = some w), gV κ B skM 3 ((some (.int w.1)), w.2) 155 [some (.ref (B + 0)), none, some (.int x2)] [] u := by
  intro n
  induction n with
  | zero => intro x2 u w hM; exact nomatch (show (none : Option (Int32 × gM)) = some w from hM)
  | succ n ihn => intro x2 u w hM; exact v_X12_book_b155 X  (fun x2 u w h => ihn h) hM
set_option maxRecDepth 20000 in
theorem v_X12_book_b126 {κ : gK} {B : Nat} {u : gM} (X : gX κ B skM cX12_book 3 RX12 (some .int) 12 270) {k126 : Int32 → gM → Option (Int32 × gM)} (ih126 : ∀ (x2 : Int32) (u : gM) (w : (Int32 × gM)), k126 x2 u = some w → gV κ B skM 3 ((some (.int w.1)), w.2) 126 [some (.ref (B + 0)), none, some (.int x2)] [] u) {x2 : Int32} {w : (Int32 × gM)} (hM : X12_book_b126 k126 x2 u = some w) : gV κ B skM 3 ((some (.int w.1)), w.2) 126 [some (.ref (B + 0)), none, some (.int x2)] [] u := by
  unfold X12_book_b126 at hM
  refine g_iload_n X dX12_book_126 rfl ?_
  refine g_bipush X (v := 10) dX12_book_127 (by decide) ?_
  refine g_icmp_ge (tgt := 153) X dX12_book_129 (by decide) (fun c129 => ?_) (fun c129 => ?_)
  · rw [if_pos c129] at hM
    refine g_iconst X (v := 0) dX12_book_153 (by decide) ?_
    refine g_istore_n X [some (.ref (B + 0)), none, some (.int 0)] dX12_book_154 (by decide) rfl ?_
    refine g_mk [true, false, true] [some (.ref (B + 0)), none, some (.int 0)] rfl ?_
    exact v_X12_book_l155 X  fz hM
  · rw [if_neg c129] at hM
    refine g_aload_n X dX12_book_132 rfl ?_
    refine g_getR X fX12_13 cM_0 rfl dX12_book_133 ?_
    refine g_iload_n X dX12_book_136 rfl ?_
    refine g_aload_n X dX12_book_137 rfl ?_
    refine g_getR X fX12_13 cM_0 rfl dX12_book_138 ?_
    refine g_bipush X (v := 10) dX12_book_141 (by decide) ?_
    refine g_iload_n X dX12_book_143 rfl ?_
    refine g_iadd X dX12_book_144 ?_
    obtain ⟨v145, e145, hM⟩ := bind_of hM
    refine g_laload X e145 dX12_book_145 ?_
    obtain ⟨u146, e146, hM⟩ := bind_of hM
    refine g_lastore X e146 dX12_book_146 ?_
    refine g_iinc (d := 1) X [some (.ref (B + 0)), none, some (.int (x2 + 1))] dX12_book_147 (by decide) rfl (by decide) rfl ?_
    refine g_goto (tgt := 126) X dX12_book_150 (by decide) ?_
    refine g_mk [true, false, true] [some (.ref (B + 0)), none, some (.int (x2 + 1))] rfl ?_
    exact ih126 (x2 + 1) u146 _ hM
theorem v_X12_book_l126 {κ : gK} {B : Nat} (X : gX κ B skM cX12_book 3 RX12 (some .int) 12 270)   : ∀ (n : Nat) {x2 : Int32} {u : gM} {w : (Int32 × gM)} (hM : X12_book_l126  n x2 u = some w), gV κ B skM 3 ((some (.int w.1)), w.2) 126 [some (.ref (B + 0)), none, some (.int x2)] [] u := by
  intro n
  induction n with
  | zero => intro x2 u w hM; exact nomatch (show (none : Option (Int32 × gM)) = some w from hM)
  | succ n ihn => intro x2 u w hM; exact v_X12_book_b126 X  (fun x2 u w h => ihn h) hM
set_option maxRecDepth 20000 in
theorem v_X12_book_b97 {κ : gK} {B : Nat} {u : gM} (X : gX κ B skM cX12_book 3 RX12 (some .int) 12 270) {k97 : Int32 → gM → Option (Int32 × gM)} (ih97 : ∀ (x2 : Int32) (u : gM) (w : (Int32 × gM)), k97 x2 u = some w → gV κ B skM 3 ((some (.int w.1)), w.2) 97 [some (.ref (B + 0)), none, some (.int x2)] [] u) {x2 : Int32} {w : (Int32 × gM)} (hM : X12_book_b97 k97 x2 u = some w) : gV κ B skM 3 ((some (.int w.1)), w.2) 97 [some (.ref (B + 0)), none, some (.int x2)] [] u := by
  unfold X12_book_b97 at hM
  refine g_iload_n X dX12_book_97 rfl ?_
  refine g_bipush X (v := 6) dX12_book_98 (by decide) ?_
  refine g_icmp_ge (tgt := 124) X dX12_book_100 (by decide) (fun c100 => ?_) (fun c100 => ?_)
  · rw [if_pos c100] at hM
    refine g_iconst X (v := 0) dX12_book_124 (by decide) ?_
    refine g_istore_n X [some (.ref (B + 0)), none, some (.int 0)] dX12_book_125 (by decide) rfl ?_
    refine g_mk [true, false, true] [some (.ref (B + 0)), none, some (.int 0)] rfl ?_
    exact v_X12_book_l126 X  fz hM
  · rw [if_neg c100] at hM
    refine g_aload_n X dX12_book_103 rfl ?_
    refine g_getR X fX12_7 cM_0 rfl dX12_book_104 ?_
    refine g_iload_n X dX12_book_107 rfl ?_
    refine g_aload_n X dX12_book_108 rfl ?_
    refine g_getR X fX12_7 cM_0 rfl dX12_book_109 ?_
    refine g_bipush X (v := 6) dX12_book_112 (by decide) ?_
    refine g_iload_n X dX12_book_114 rfl ?_
    refine g_iadd X dX12_book_115 ?_
    obtain ⟨v116, e116, hM⟩ := bind_of hM
    refine g_iaload X e116 dX12_book_116 ?_
    obtain ⟨u117, e117, hM⟩ := bind_of hM
    refine g_iastore X e117 dX12_book_117 ?_
    refine g_iinc (d := 1) X [some (.ref (B + 0)), none, some (.int (x2 + 1))] dX12_book_118 (by decide) rfl (by decide) rfl ?_
    refine g_goto (tgt := 97) X dX12_book_121 (by decide) ?_
    refine g_mk [true, false, true] [some (.ref (B + 0)), none, some (.int (x2 + 1))] rfl ?_
    exact ih97 (x2 + 1) u117 _ hM
theorem v_X12_book_l97 {κ : gK} {B : Nat} (X : gX κ B skM cX12_book 3 RX12 (some .int) 12 270)   : ∀ (n : Nat) {x2 : Int32} {u : gM} {w : (Int32 × gM)} (hM : X12_book_l97  n x2 u = some w), gV κ B skM 3 ((some (.int w.1)), w.2) 97 [some (.ref (B + 0)), none, some (.int x2)] [] u := by
  intro n
  induction n with
  | zero => intro x2 u w hM; exact nomatch (show (none : Option (Int32 × gM)) = some w from hM)
  | succ n ihn => intro x2 u w hM; exact v_X12_book_b97 X  (fun x2 u w h => ihn h) hM
set_option maxRecDepth 20000 in
theorem v_X12_book_b82 {κ : gK} {B : Nat} {u : gM} (X : gX κ B skM cX12_book 3 RX12 (some .int) 12 270) {k59 : Int32 → gM → Option (Int32 × gM)} (ih59 : ∀ (x1 : Int32) (u : gM) (w : (Int32 × gM)), k59 x1 u = some w → gV κ B skM 3 ((some (.int w.1)), w.2) 59 [some (.ref (B + 0)), some (.int x1), none] [] u) {s0 : Int32} {w : (Int32 × gM)} (hM : X12_book_b82 k59 s0 u = some w) : gV κ B skM 3 ((some (.int w.1)), w.2) 82 [some (.ref (B + 0)), none, none] [.int s0] u := by
  unfold X12_book_b82 at hM
  refine g_istore_n X [some (.ref (B + 0)), some (.int s0), none] dX12_book_82 (by decide) rfl ?_
  refine g_goto (tgt := 59) X dX12_book_83 (by decide) ?_
  refine g_mk [true, true, false] [some (.ref (B + 0)), some (.int s0), none] rfl ?_
  exact ih59 s0 u _ hM
set_option maxRecDepth 20000 in
theorem v_X12_book_b81 {κ : gK} {B : Nat} {u : gM} (X : gX κ B skM cX12_book 3 RX12 (some .int) 12 270) {k59 : Int32 → gM → Option (Int32 × gM)} (ih59 : ∀ (x1 : Int32) (u : gM) (w : (Int32 × gM)), k59 x1 u = some w → gV κ B skM 3 ((some (.int w.1)), w.2) 59 [some (.ref (B + 0)), some (.int x1), none] [] u)  {w : (Int32 × gM)} (hM : X12_book_b81 k59 u = some w) : gV κ B skM 3 ((some (.int w.1)), w.2) 81 [some (.ref (B + 0)), none, none] [] u := by
  unfold X12_book_b81 at hM
  refine g_iconst X (v := 0) dX12_book_81 (by decide) ?_
  refine g_mk [true, false, false] [some (.ref (B + 0)), none, none] rfl ?_
  exact v_X12_book_b82 X ih59 hM
set_option maxRecDepth 20000 in
theorem v_X12_book_b59 {κ : gK} {B : Nat} {u : gM} (X : gX κ B skM cX12_book 3 RX12 (some .int) 12 270) {k59 : Int32 → gM → Option (Int32 × gM)} (ih59 : ∀ (x1 : Int32) (u : gM) (w : (Int32 × gM)), k59 x1 u = some w → gV κ B skM 3 ((some (.int w.1)), w.2) 59 [some (.ref (B + 0)), some (.int x1), none] [] u) {x1 : Int32} {w : (Int32 × gM)} (hM : X12_book_b59 k59 x1 u = some w) : gV κ B skM 3 ((some (.int w.1)), w.2) 59 [some (.ref (B + 0)), some (.int x1), none] [] u := by
  unfold X12_book_b59 at hM
  refine g_iload_n X dX12_book_59 rfl ?_
  refine g_if_eq (tgt := 86) X dX12_book_60 (by decide) (fun c60 => ?_) (fun c60 => ?_)
  · rw [if_pos c60] at hM
    refine g_aload_n X dX12_book_86 rfl ?_
    obtain ⟨w87, e87, hM⟩ := bind_of hM
    refine g_callVi X (fun B adK => []) (s_X12_isRead e87) cvX12_296 cM_0 rfl rfl (Nat.le_of_ble_eq_true rfl) ⟨by decide, by decide⟩ dX12_book_87 ?_
    refine g_if_ne (tgt := 95) X dX12_book_90 (by decide) (fun c90 => ?_) (fun c90 => ?_)
    · rw [if_neg c90] at hM
      refine g_iconst X (v := 0) dX12_book_95 (by decide) ?_
      refine g_istore_n X [some (.ref (B + 0)), some (.int x1), some (.int 0)] dX12_book_96 (by decide) rfl ?_
      refine g_mk [true, false, true] [some (.ref (B + 0)), none, some (.int 0)] rfl ?_
      exact v_X12_book_l97 X  fz hM
    · rw [if_pos c90] at hM
      refine g_iconst X (v := (-1)) dX12_book_93 (by decide) ?_
      cases hM
      exact g_iret X dX12_book_94
  · rw [if_neg c60] at hM
    refine g_aload_n X dX12_book_63 rfl ?_
    obtain ⟨w64, e64, hM⟩ := bind_of hM
    refine g_callVi X (fun B adK => []) (s_X12_readLine e64) cvX12_293 cM_0 rfl rfl (Nat.le_of_ble_eq_true rfl) ⟨by decide, by decide⟩ dX12_book_64 ?_
    refine g_if_eq (tgt := 81) X dX12_book_67 (by decide) (fun c67 => ?_) (fun c67 => ?_)
    · rw [if_pos c67] at hM
      refine g_mk [true, false, false] [some (.ref (B + 0)), none, none] rfl ?_
      exact v_X12_book_b81 X ih59 hM
    · rw [if_neg c67] at hM
      refine g_aload_n X dX12_book_70 rfl ?_
      refine g_getI X fX12_149 cM_0 rfl dX12_book_71 ?_
      refine g_if_eq (tgt := 81) X dX12_book_74 (by decide) (fun c74 => ?_) (fun c74 => ?_)
      · rw [if_pos c74] at hM
        refine g_mk [true, false, false] [some (.ref (B + 0)), none, none] rfl ?_
        exact v_X12_book_b81 X ih59 hM
      · rw [if_neg c74] at hM
        refine g_iconst X (v := 1) dX12_book_77 (by decide) ?_
        refine g_goto (tgt := 82) X dX12_book_78 (by decide) ?_
        refine g_mk [true, false, false] [some (.ref (B + 0)), none, none] rfl ?_
        exact v_X12_book_b82 X ih59 hM
theorem v_X12_book_l59 {κ : gK} {B : Nat} (X : gX κ B skM cX12_book 3 RX12 (some .int) 12 270)   : ∀ (n : Nat) {x1 : Int32} {u : gM} {w : (Int32 × gM)} (hM : X12_book_l59  n x1 u = some w), gV κ B skM 3 ((some (.int w.1)), w.2) 59 [some (.ref (B + 0)), some (.int x1), none] [] u := by
  intro n
  induction n with
  | zero => intro x1 u w hM; exact nomatch (show (none : Option (Int32 × gM)) = some w from hM)
  | succ n ihn => intro x1 u w hM; exact v_X12_book_b59 X  (fun x1 u w h => ihn h) hM
set_option maxRecDepth 20000 in
theorem v_X12_book_b58 {κ : gK} {B : Nat} {u : gM} (X : gX κ B skM cX12_book 3 RX12 (some .int) 12 270)   {s0 : Int32} {w : (Int32 × gM)} (hM : X12_book_b58 s0 u = some w) : gV κ B skM 3 ((some (.int w.1)), w.2) 58 [some (.ref (B + 0)), none, none] [.int s0] u := by
  unfold X12_book_b58 at hM
  refine g_istore_n X [some (.ref (B + 0)), some (.int s0), none] dX12_book_58 (by decide) rfl ?_
  refine g_mk [true, true, false] [some (.ref (B + 0)), some (.int s0), none] rfl ?_
  exact v_X12_book_l59 X  fz hM
set_option maxRecDepth 20000 in
theorem v_X12_book_b2 {κ : gK} {B : Nat} {u : gM} (X : gX κ B skM cX12_book 3 RX12 (some .int) 12 270) {k2 : Int32 → gM → Option (Int32 × gM)} (ih2 : ∀ (x1 : Int32) (u : gM) (w : (Int32 × gM)), k2 x1 u = some w → gV κ B skM 3 ((some (.int w.1)), w.2) 2 [some (.ref (B + 0)), some (.int x1), none] [] u) {x1 : Int32} {w : (Int32 × gM)} (hM : X12_book_b2 k2 x1 u = some w) : gV κ B skM 3 ((some (.int w.1)), w.2) 2 [some (.ref (B + 0)), some (.int x1), none] [] u := by
  unfold X12_book_b2 at hM
  refine g_iload_n X dX12_book_2 rfl ?_
  refine g_bipush X (v := 6) dX12_book_3 (by decide) ?_
  refine g_icmp_ge (tgt := 24) X dX12_book_5 (by decide) (fun c5 => ?_) (fun c5 => ?_)
  · rw [if_pos c5] at hM
    refine g_aload_n X dX12_book_24 rfl ?_
    refine g_getR X fX12_7 cM_0 rfl dX12_book_25 ?_
    refine g_bipush X (v := 10) dX12_book_28 (by decide) ?_
    refine g_ldc (v := 250000) X m_10_7 dX12_book_30 ?_
    obtain ⟨u32, e32, hM⟩ := bind_of hM
    refine g_iastore X e32 dX12_book_32 ?_
    refine g_aload_n X dX12_book_33 rfl ?_
    refine g_getR X fX12_7 cM_0 rfl dX12_book_34 ?_
    refine g_bipush X (v := 11) dX12_book_37 (by decide) ?_
    refine g_bipush X (v := 6) dX12_book_39 (by decide) ?_
    obtain ⟨u41, e41, hM⟩ := bind_of hM
    refine g_iastore X e41 dX12_book_41 ?_
    refine g_aload_n X dX12_book_42 rfl ?_
    obtain ⟨w43, e43, hM⟩ := bind_of hM
    refine g_callVv X (fun B adK => []) (s_X12_begins e43) cvX12_290 cM_0 rfl rfl (Nat.le_of_ble_eq_true rfl) ⟨by decide, by decide⟩ dX12_book_43 ?_
    refine g_aload_n X dX12_book_46 rfl ?_
    refine g_getI X fX12_149 cM_0 rfl dX12_book_47 ?_
    refine g_if_eq (tgt := 57) X dX12_book_50 (by decide) (fun c50 => ?_) (fun c50 => ?_)
    · rw [if_pos c50] at hM
      refine g_iconst X (v := 0) dX12_book_57 (by decide) ?_
      refine g_mk [true, false, false] [some (.ref (B + 0)), none, none] rfl ?_
      exact v_X12_book_b58 X  hM
    · rw [if_neg c50] at hM
      refine g_iconst X (v := 1) dX12_book_53 (by decide) ?_
      refine g_goto (tgt := 58) X dX12_book_54 (by decide) ?_
      refine g_mk [true, false, false] [some (.ref (B + 0)), none, none] rfl ?_
      exact v_X12_book_b58 X  hM
  · rw [if_neg c5] at hM
    refine g_aload_n X dX12_book_8 rfl ?_
    refine g_getR X fX12_7 cM_0 rfl dX12_book_9 ?_
    refine g_bipush X (v := 6) dX12_book_12 (by decide) ?_
    refine g_iload_n X dX12_book_14 rfl ?_
    refine g_iadd X dX12_book_15 ?_
    refine g_iconst X (v := 0) dX12_book_16 (by decide) ?_
    obtain ⟨u17, e17, hM⟩ := bind_of hM
    refine g_iastore X e17 dX12_book_17 ?_
    refine g_iinc (d := 1) X [some (.ref (B + 0)), some (.int (x1 + 1)), none] dX12_book_18 (by decide) rfl (by decide) rfl ?_
    refine g_goto (tgt := 2) X dX12_book_21 (by decide) ?_
    refine g_mk [true, true, false] [some (.ref (B + 0)), some (.int (x1 + 1)), none] rfl ?_
    exact ih2 (x1 + 1) u17 _ hM
theorem v_X12_book_l2 {κ : gK} {B : Nat} (X : gX κ B skM cX12_book 3 RX12 (some .int) 12 270)   : ∀ (n : Nat) {x1 : Int32} {u : gM} {w : (Int32 × gM)} (hM : X12_book_l2  n x1 u = some w), gV κ B skM 3 ((some (.int w.1)), w.2) 2 [some (.ref (B + 0)), some (.int x1), none] [] u := by
  intro n
  induction n with
  | zero => intro x1 u w hM; exact nomatch (show (none : Option (Int32 × gM)) = some w from hM)
  | succ n ihn => intro x1 u w hM; exact v_X12_book_b2 X  (fun x1 u w h => ihn h) hM
set_option maxRecDepth 20000 in
theorem v_X12_book {κ : gK} {B : Nat} {u : gM} (X : gX κ B skM cX12_book 3 RX12 (some .int) 12 270)    {w : (Int32 × gM)} (hM : X12_book u = some w) : gV κ B skM 3 ((some (.int w.1)), w.2) 0 [some (.ref (B + 0)), none, none] [] u := by
  unfold X12_book at hM
  refine g_iconst X (v := 0) dX12_book_0 (by decide) ?_
  refine g_istore_n X [some (.ref (B + 0)), some (.int 0), none] dX12_book_1 (by decide) rfl ?_
  refine g_mk [true, true, false] [some (.ref (B + 0)), some (.int 0), none] rfl ?_
  exact v_X12_book_l2 X  fz hM
theorem s_X12_book  {u : gM} {w : (Int32 × gM)} (hM : X12_book u = some w) : gMet skM yX12_book cX12_book 3 (some .int) 12 270 (fun B adK => [.ref (B + 0)]) u ((fun _ => some (.int w.1)), w.2) := by
  refine gMet.of (by decide) (fun _ _ => Nat.le_of_ble_eq_true rfl) (fun κ B X => ?_)
  have X : gX κ B skM cX12_book 3 RX12 (some .int) 12 270 := X
  refine g_mk [true, false, false] [some (.ref (B + 0)), none, none] rfl ?_
  exact v_X12_book X  hM
theorem fr_X12_book_b243 {S : Nat → Prop} {u0 u : gM} {x2 : Int32} (hs0 : S 0) (hs1 : S 10) (hs2 : S 11) (hs3 : S 12) (hs4 : S 16) (hs5 : S 4) (hs6 : S 5) (hs7 : S 6) (hs8 : S 7) (hs9 : S 8) (hs10 : S 9) {k243 : Int32 → gM → Option (Int32 × gM)} (ik243 : ∀ (x2 : Int32) (u : gM) (w : (Int32 × gM)), S 0 → S 10 → S 11 → S 12 → S 16 → S 4 → S 5 → S 6 → S 7 → S 8 → S 9 → off S u0 u → k243 x2 u = some w → off S u0 w.2) {w : (Int32 × gM)} (hM : X12_book_b243 k243 x2 u = some w) (h0 : off S u0 u) : off S u0 w.2 := by
  unfold X12_book_b243 at hM
  by_cases c246 : 24 ≤ x2
  · rw [if_pos c246] at hM
    obtain ⟨w265, e265, hM⟩ := bind_of hM
    have h0 := fr_X12_starts hs0 hs4 e265 h0
    obtain ⟨v273, e273, hM⟩ := bind_of hM
    cases hM
    exact h0
  · rw [if_neg c246] at hM
    obtain ⟨w255, e255, hM⟩ := bind_of hM
    have h0 := fr_X12_takesOver hs1 hs2 hs3 hs5 hs6 hs7 hs8 hs9 hs10 e255 h0
    exact ik243 _ _ _ hs0 hs1 hs2 hs3 hs4 hs5 hs6 hs7 hs8 hs9 hs10 h0 hM
theorem fr_X12_book_l243 {S : Nat → Prop} {u0 : gM}   : ∀ (n : Nat) {x2 : Int32} (hs0 : S 0) (hs1 : S 10) (hs2 : S 11) (hs3 : S 12) (hs4 : S 16) (hs5 : S 4) (hs6 : S 5) (hs7 : S 6) (hs8 : S 7) (hs9 : S 8) (hs10 : S 9) {u : gM} {w : (Int32 × gM)} (h0 : off S u0 u) (hM : X12_book_l243  n x2 u = some w), off S u0 w.2 := by
  intro n
  induction n with
  | zero => intro x2 hs0 hs1 hs2 hs3 hs4 hs5 hs6 hs7 hs8 hs9 hs10 u w h0 hM; exact nomatch (show (none : Option (Int32 × gM)) = some w from hM)
  | succ n ihn => intro x2 hs0 hs1 hs2 hs3 hs4 hs5 hs6 hs7 hs8 hs9 hs10 u w h0 hM; exact fr_X12_book_b243 hs0 hs1 hs2 hs3 hs4 hs5 hs6 hs7 hs8 hs9 hs10  (fun x2 _ _ hs0 hs1 hs2 hs3 hs4 hs5 hs6 hs7 hs8 hs9 hs10 h0 h => ihn hs0 hs1 hs2 hs3 hs4 hs5 hs6 hs7 hs8 hs9 hs10 h0 h) hM h0
theorem fr_X12_book_b184 {S : Nat → Prop} {u0 u : gM} {x2 : Int32} (hs0 : S 0) (hs1 : S 10) (hs2 : S 11) (hs3 : S 12) (hs4 : S 13) (hs5 : S 14) (hs6 : S 15) (hs7 : S 16) (hs8 : S 4) (hs9 : S 5) (hs10 : S 6) (hs11 : S 7) (hs12 : S 8) (hs13 : S 9) {k184 : Int32 → gM → Option (Int32 × gM)} (ik184 : ∀ (x2 : Int32) (u : gM) (w : (Int32 × gM)), S 0 → S 10 → S 11 → S 12 → S 13 → S 14 → S 15 → S 16 → S 4 → S 5 → S 6 → S 7 → S 8 → S 9 → off S u0 u → k184 x2 u = some w → off S u0 w.2) {w : (Int32 × gM)} (hM : X12_book_b184 k184 x2 u = some w) (h0 : off S u0 u) : off S u0 w.2 := by
  unfold X12_book_b184 at hM
  by_cases c187 : 10 ≤ x2
  · rw [if_pos c187] at hM
    exact fr_X12_book_l243  fz hs0 hs1 hs2 hs3 hs7 hs8 hs9 hs10 hs11 hs12 hs13 h0 hM
  · rw [if_neg c187] at hM
    obtain ⟨v203, e203, hM⟩ := bind_of hM
    obtain ⟨u204, e204, hM⟩ := bind_of hM
    have h0 := off_sI hs4 e204 h0
    obtain ⟨v218, e218, hM⟩ := bind_of hM
    obtain ⟨u219, e219, hM⟩ := bind_of hM
    have h0 := off_sI hs5 e219 h0
    obtain ⟨v233, e233, hM⟩ := bind_of hM
    obtain ⟨u234, e234, hM⟩ := bind_of hM
    have h0 := off_sI hs6 e234 h0
    exact ik184 _ _ _ hs0 hs1 hs2 hs3 hs4 hs5 hs6 hs7 hs8 hs9 hs10 hs11 hs12 hs13 h0 hM
theorem fr_X12_book_l184 {S : Nat → Prop} {u0 : gM}   : ∀ (n : Nat) {x2 : Int32} (hs0 : S 0) (hs1 : S 10) (hs2 : S 11) (hs3 : S 12) (hs4 : S 13) (hs5 : S 14) (hs6 : S 15) (hs7 : S 16) (hs8 : S 4) (hs9 : S 5) (hs10 : S 6) (hs11 : S 7) (hs12 : S 8) (hs13 : S 9) {u : gM} {w : (Int32 × gM)} (h0 : off S u0 u) (hM : X12_book_l184  n x2 u = some w), off S u0 w.2 := by
  intro n
  induction n with
  | zero => intro x2 hs0 hs1 hs2 hs3 hs4 hs5 hs6 hs7 hs8 hs9 hs10 hs11 hs12 hs13 u w h0 hM; exact nomatch (show (none : Option (Int32 × gM)) = some w from hM)
  | succ n ihn => intro x2 hs0 hs1 hs2 hs3 hs4 hs5 hs6 hs7 hs8 hs9 hs10 hs11 hs12 hs13 u w h0 hM; exact fr_X12_book_b184 hs0 hs1 hs2 hs3 hs4 hs5 hs6 hs7 hs8 hs9 hs10 hs11 hs12 hs13  (fun x2 _ _ hs0 hs1 hs2 hs3 hs4 hs5 hs6 hs7 hs8 hs9 hs10 hs11 hs12 hs13 h0 h => ihn hs0 hs1 hs2 hs3 hs4 hs5 hs6 hs7 hs8 hs9 hs10 hs11 hs12 hs13 h0 h) hM h0
theorem fr_X12_book_b155 {S : Nat → Prop} {u0 u : gM} {x2 : Int32} (hs0 : S 0) (hs1 : S 10) (hs2 : S 11) (hs3 : S 12) (hs4 : S 13) (hs5 : S 14) (hs6 : S 15) (hs7 : S 16) (hs8 : S 3) (hs9 : S 4) (hs10 : S 5) (hs11 : S 6) (hs12 : S 7) (hs13 : S 8) (hs14 : S 9) {k155 : Int32 → gM → Option (Int32 × gM)} (ik155 : ∀ (x2 : Int32) (u : gM) (w : (Int32 × gM)), S 0 → S 10 → S 11 → S 12 → S 13 → S 14 → S 15 → S 16 → S 3 → S 4 → S 5 → S 6 → S 7 → S 8 → S 9 → off S u0 u → k155 x2 u = some w → off S u0 w.2) {w : (Int32 × gM)} (hM : X12_book_b155 k155 x2 u = some w) (h0 : off S u0 u) : off S u0 w.2 := by
  unfold X12_book_b155 at hM
  by_cases c158 : 6 ≤ x2
  · rw [if_pos c158] at hM
    exact fr_X12_book_l184  fz hs0 hs1 hs2 hs3 hs4 hs5 hs6 hs7 hs9 hs10 hs11 hs12 hs13 hs14 h0 hM
  · rw [if_neg c158] at hM
    obtain ⟨v174, e174, hM⟩ := bind_of hM
    obtain ⟨u175, e175, hM⟩ := bind_of hM
    have h0 := off_sJ hs8 e175 h0
    exact ik155 _ _ _ hs0 hs1 hs2 hs3 hs4 hs5 hs6 hs7 hs8 hs9 hs10 hs11 hs12 hs13 hs14 h0 hM
theorem fr_X12_book_l155 {S : Nat → Prop} {u0 : gM}   : ∀ (n : Nat) {x2 : Int32} (hs0 : S 0) (hs1 : S 10) (hs2 : S 11) (hs3 : S 12) (hs4 : S 13) (hs5 : S 14) (hs6 : S 15) (hs7 : S 16) (hs8 : S 3) (hs9 : S 4) (hs10 : S 5) (hs11 : S 6) (hs12 : S 7) (hs13 : S 8) (hs14 : S 9) {u : gM} {w : (Int32 × gM)} (h0 : off S u0 u) (hM : X12_book_l155  n x2 u = some w), off S u0 w.2 := by
  intro n
  induction n with
  | zero => intro x2 hs0 hs1 hs2 hs3 hs4 hs5 hs6 hs7 hs8 hs9 hs10 hs11 hs12 hs13 hs14 u w h0 hM; exact nomatch (show (none : Option (Int32 × gM)) = some w from hM)
  | succ n ihn => intro x2 hs0 hs1 hs2 hs3 hs4 hs5 hs6 hs7 hs8 hs9 hs10 hs11 hs12 hs13 hs14 u w h0 hM; exact fr_X12_book_b155 hs0 hs1 hs2 hs3 hs4 hs5 hs6 hs7 hs8 hs9 hs10 hs11 hs12 hs13 hs14  (fun x2 _ _ hs0 hs1 hs2 hs3 hs4 hs5 hs6 hs7 hs8 hs9 hs10 hs11 hs12 hs13 hs14 h0 h => ihn hs0 hs1 hs2 hs3 hs4 hs5 hs6 hs7 hs8 hs9 hs10 hs11 hs12 hs13 hs14 h0 h) hM h0
theorem fr_X12_book_b126 {S : Nat → Prop} {u0 u : gM} {x2 : Int32} (hs0 : S 0) (hs1 : S 10) (hs2 : S 11) (hs3 : S 12) (hs4 : S 13) (hs5 : S 14) (hs6 : S 15) (hs7 : S 16) (hs8 : S 2) (hs9 : S 3) (hs10 : S 4) (hs11 : S 5) (hs12 : S 6) (hs13 : S 7) (hs14 : S 8) (hs15 : S 9) {k126 : Int32 → gM → Option (Int32 × gM)} (ik126 : ∀ (x2 : Int32) (u : gM) (w : (Int32 × gM)), S 0 → S 10 → S 11 → S 12 → S 13 → S 14 → S 15 → S 16 → S 2 → S 3 → S 4 → S 5 → S 6 → S 7 → S 8 → S 9 → off S u0 u → k126 x2 u = some w → off S u0 w.2) {w : (Int32 × gM)} (hM : X12_book_b126 k126 x2 u = some w) (h0 : off S u0 u) : off S u0 w.2 := by
  unfold X12_book_b126 at hM
  by_cases c129 : 10 ≤ x2
  · rw [if_pos c129] at hM
    exact fr_X12_book_l155  fz hs0 hs1 hs2 hs3 hs4 hs5 hs6 hs7 hs9 hs10 hs11 hs12 hs13 hs14 hs15 h0 hM
  · rw [if_neg c129] at hM
    obtain ⟨v145, e145, hM⟩ := bind_of hM
    obtain ⟨u146, e146, hM⟩ := bind_of hM
    have h0 := off_sJ hs8 e146 h0
    exact ik126 _ _ _ hs0 hs1 hs2 hs3 hs4 hs5 hs6 hs7 hs8 hs9 hs10 hs11 hs12 hs13 hs14 hs15 h0 hM
theorem fr_X12_book_l126 {S : Nat → Prop} {u0 : gM}   : ∀ (n : Nat) {x2 : Int32} (hs0 : S 0) (hs1 : S 10) (hs2 : S 11) (hs3 : S 12) (hs4 : S 13) (hs5 : S 14) (hs6 : S 15) (hs7 : S 16) (hs8 : S 2) (hs9 : S 3) (hs10 : S 4) (hs11 : S 5) (hs12 : S 6) (hs13 : S 7) (hs14 : S 8) (hs15 : S 9) {u : gM} {w : (Int32 × gM)} (h0 : off S u0 u) (hM : X12_book_l126  n x2 u = some w), off S u0 w.2 := by
  intro n
  induction n with
  | zero => intro x2 hs0 hs1 hs2 hs3 hs4 hs5 hs6 hs7 hs8 hs9 hs10 hs11 hs12 hs13 hs14 hs15 u w h0 hM; exact nomatch (show (none : Option (Int32 × gM)) = some w from hM)
  | succ n ihn => intro x2 hs0 hs1 hs2 hs3 hs4 hs5 hs6 hs7 hs8 hs9 hs10 hs11 hs12 hs13 hs14 hs15 u w h0 hM; exact fr_X12_book_b126 hs0 hs1 hs2 hs3 hs4 hs5 hs6 hs7 hs8 hs9 hs10 hs11 hs12 hs13 hs14 hs15  (fun x2 _ _ hs0 hs1 hs2 hs3 hs4 hs5 hs6 hs7 hs8 hs9 hs10 hs11 hs12 hs13 hs14 hs15 h0 h => ihn hs0 hs1 hs2 hs3 hs4 hs5 hs6 hs7 hs8 hs9 hs10 hs11 hs12 hs13 hs14 hs15 h0 h) hM h0
theorem fr_X12_book_b97 {S : Nat → Prop} {u0 u : gM} {x2 : Int32} (hs0 : S 0) (hs1 : S 1) (hs2 : S 10) (hs3 : S 11) (hs4 : S 12) (hs5 : S 13) (hs6 : S 14) (hs7 : S 15) (hs8 : S 16) (hs9 : S 2) (hs10 : S 3) (hs11 : S 4) (hs12 : S 5) (hs13 : S 6) (hs14 : S 7) (hs15 : S 8) (hs16 : S 9) {k97 : Int32 → gM → Option (Int32 × gM)} (ik97 : ∀ (x2 : Int32) (u : gM) (w : (Int32 × gM)), S 0 → S 1 → S 10 → S 11 → S 12 → S 13 → S 14 → S 15 → S 16 → S 2 → S 3 → S 4 → S 5 → S 6 → S 7 → S 8 → S 9 → off S u0 u → k97 x2 u = some w → off S u0 w.2) {w : (Int32 × gM)} (hM : X12_book_b97 k97 x2 u = some w) (h0 : off S u0 u) : off S u0 w.2 := by
  unfold X12_book_b97 at hM
  by_cases c100 : 6 ≤ x2
  · rw [if_pos c100] at hM
    exact fr_X12_book_l126  fz hs0 hs2 hs3 hs4 hs5 hs6 hs7 hs8 hs9 hs10 hs11 hs12 hs13 hs14 hs15 hs16 h0 hM
  · rw [if_neg c100] at hM
    obtain ⟨v116, e116, hM⟩ := bind_of hM
    obtain ⟨u117, e117, hM⟩ := bind_of hM
    have h0 := off_sI hs1 e117 h0
    exact ik97 _ _ _ hs0 hs1 hs2 hs3 hs4 hs5 hs6 hs7 hs8 hs9 hs10 hs11 hs12 hs13 hs14 hs15 hs16 h0 hM
theorem fr_X12_book_l97 {S : Nat → Prop} {u0 : gM}   : ∀ (n : Nat) {x2 : Int32} (hs0 : S 0) (hs1 : S 1) (hs2 : S 10) (hs3 : S 11) (hs4 : S 12) (hs5 : S 13) (hs6 : S 14) (hs7 : S 15) (hs8 : S 16) (hs9 : S 2) (hs10 : S 3) (hs11 : S 4) (hs12 : S 5) (hs13 : S 6) (hs14 : S 7) (hs15 : S 8) (hs16 : S 9) {u : gM} {w : (Int32 × gM)} (h0 : off S u0 u) (hM : X12_book_l97  n x2 u = some w), off S u0 w.2 := by
  intro n
  induction n with
  | zero => intro x2 hs0 hs1 hs2 hs3 hs4 hs5 hs6 hs7 hs8 hs9 hs10 hs11 hs12 hs13 hs14 hs15 hs16 u w h0 hM; exact nomatch (show (none : Option (Int32 × gM)) = some w from hM)
  | succ n ihn => intro x2 hs0 hs1 hs2 hs3 hs4 hs5 hs6 hs7 hs8 hs9 hs10 hs11 hs12 hs13 hs14 hs15 hs16 u w h0 hM; exact fr_X12_book_b97 hs0 hs1 hs2 hs3 hs4 hs5 hs6 hs7 hs8 hs9 hs10 hs11 hs12 hs13 hs14 hs15 hs16  (fun x2 _ _ hs0 hs1 hs2 hs3 hs4 hs5 hs6 hs7 hs8 hs9 hs10 hs11 hs12 hs13 hs14 hs15 hs16 h0 h => ihn hs0 hs1 hs2 hs3 hs4 hs5 hs6 hs7 hs8 hs9 hs10 hs11 hs12 hs13 hs14 hs15 hs16 h0 h) hM h0
theorem fr_X12_book_b82 {S : Nat → Prop} {u0 u : gM} {s0 : Int32} (hs0 : S 0) (hs1 : S 1) (hs2 : S 10) (hs3 : S 11) (hs4 : S 12) (hs5 : S 13) (hs6 : S 14) (hs7 : S 15) (hs8 : S 16) (hs9 : S 2) (hs10 : S 3) (hs11 : S 4) (hs12 : S 5) (hs13 : S 6) (hs14 : S 7) (hs15 : S 8) (hs16 : S 9) {k59 : Int32 → gM → Option (Int32 × gM)} (ik59 : ∀ (x1 : Int32) (u : gM) (w : (Int32 × gM)), S 0 → S 1 → S 10 → S 11 → S 12 → S 13 → S 14 → S 15 → S 16 → S 2 → S 3 → S 4 → S 5 → S 6 → S 7 → S 8 → S 9 → off S u0 u → k59 x1 u = some w → off S u0 w.2) {w : (Int32 × gM)} (hM : X12_book_b82 k59 s0 u = some w) (h0 : off S u0 u) : off S u0 w.2 := by
  unfold X12_book_b82 at hM
  exact ik59 _ _ _ hs0 hs1 hs2 hs3 hs4 hs5 hs6 hs7 hs8 hs9 hs10 hs11 hs12 hs13 hs14 hs15 hs16 h0 hM
theorem fr_X12_book_b81 {S : Nat → Prop} {u0 u : gM}  (hs0 : S 0) (hs1 : S 1) (hs2 : S 10) (hs3 : S 11) (hs4 : S 12) (hs5 : S 13) (hs6 : S 14) (hs7 : S 15) (hs8 : S 16) (hs9 : S 2) (hs10 : S 3) (hs11 : S 4) (hs12 : S 5) (hs13 : S 6) (hs14 : S 7) (hs15 : S 8) (hs16 : S 9) {k59 : Int32 → gM → Option (Int32 × gM)} (ik59 : ∀ (x1 : Int32) (u : gM) (w : (Int32 × gM)), S 0 → S 1 → S 10 → S 11 → S 12 → S 13 → S 14 → S 15 → S 16 → S 2 → S 3 → S 4 → S 5 → S 6 → S 7 → S 8 → S 9 → off S u0 u → k59 x1 u = some w → off S u0 w.2) {w : (Int32 × gM)} (hM : X12_book_b81 k59 u = some w) (h0 : off S u0 u) : off S u0 w.2 := by
  unfold X12_book_b81 at hM
  exact fr_X12_book_b82 hs0 hs1 hs2 hs3 hs4 hs5 hs6 hs7 hs8 hs9 hs10 hs11 hs12 hs13 hs14 hs15 hs16 ik59 hM h0
theorem fr_X12_book_b59 {S : Nat → Prop} {u0 u : gM} {x1 : Int32} (hs0 : S 0) (hs1 : S 1) (hs2 : S 10) (hs3 : S 11) (hs4 : S 12) (hs5 : S 13) (hs6 : S 14) (hs7 : S 15) (hs8 : S 16) (hs9 : S 2) (hs10 : S 3) (hs11 : S 4) (hs12 : S 5) (hs13 : S 6) (hs14 : S 7) (hs15 : S 8) (hs16 : S 9) {k59 : Int32 → gM → Option (Int32 × gM)} (ik59 : ∀ (x1 : Int32) (u : gM) (w : (Int32 × gM)), S 0 → S 1 → S 10 → S 11 → S 12 → S 13 → S 14 → S 15 → S 16 → S 2 → S 3 → S 4 → S 5 → S 6 → S 7 → S 8 → S 9 → off S u0 u → k59 x1 u = some w → off S u0 w.2) {w : (Int32 × gM)} (hM : X12_book_b59 k59 x1 u = some w) (h0 : off S u0 u) : off S u0 w.2 := by
  unfold X12_book_b59 at hM
  by_cases c60 : x1 = 0
  · rw [if_pos c60] at hM
    obtain ⟨w87, e87, hM⟩ := bind_of hM
    have h0 := fr_X12_isRead hs0 e87 h0
    by_cases c90 : w87.1 = 0
    · rw [if_pos c90] at hM
      cases hM
      exact h0
    · rw [if_neg c90] at hM
      exact fr_X12_book_l97  fz hs0 hs1 hs2 hs3 hs4 hs5 hs6 hs7 hs8 hs9 hs10 hs11 hs12 hs13 hs14 hs15 hs16 h0 hM
  · rw [if_neg c60] at hM
    obtain ⟨w64, e64, hM⟩ := bind_of hM
    have h0 := fr_X12_readLine hs0 hs1 hs2 hs3 hs4 hs5 hs6 hs7 hs9 hs10 hs11 hs12 hs13 hs14 hs15 hs16 e64 h0
    by_cases c67 : w64.1 = 0
    · rw [if_pos c67] at hM
      exact fr_X12_book_b81 hs0 hs1 hs2 hs3 hs4 hs5 hs6 hs7 hs8 hs9 hs10 hs11 hs12 hs13 hs14 hs15 hs16 ik59 hM h0
    · rw [if_neg c67] at hM
      by_cases c74 : (w64.2.1 0 25) = 0
      · rw [if_pos c74] at hM
        exact fr_X12_book_b81 hs0 hs1 hs2 hs3 hs4 hs5 hs6 hs7 hs8 hs9 hs10 hs11 hs12 hs13 hs14 hs15 hs16 ik59 hM h0
      · rw [if_neg c74] at hM
        exact fr_X12_book_b82 hs0 hs1 hs2 hs3 hs4 hs5 hs6 hs7 hs8 hs9 hs10 hs11 hs12 hs13 hs14 hs15 hs16 ik59 hM h0
theorem fr_X12_book_l59 {S : Nat → Prop} {u0 : gM}   : ∀ (n : Nat) {x1 : Int32} (hs0 : S 0) (hs1 : S 1) (hs2 : S 10) (hs3 : S 11) (hs4 : S 12) (hs5 : S 13) (hs6 : S 14) (hs7 : S 15) (hs8 : S 16) (hs9 : S 2) (hs10 : S 3) (hs11 : S 4) (hs12 : S 5) (hs13 : S 6) (hs14 : S 7) (hs15 : S 8) (hs16 : S 9) {u : gM} {w : (Int32 × gM)} (h0 : off S u0 u) (hM : X12_book_l59  n x1 u = some w), off S u0 w.2 := by
  intro n
  induction n with
  | zero => intro x1 hs0 hs1 hs2 hs3 hs4 hs5 hs6 hs7 hs8 hs9 hs10 hs11 hs12 hs13 hs14 hs15 hs16 u w h0 hM; exact nomatch (show (none : Option (Int32 × gM)) = some w from hM)
  | succ n ihn => intro x1 hs0 hs1 hs2 hs3 hs4 hs5 hs6 hs7 hs8 hs9 hs10 hs11 hs12 hs13 hs14 hs15 hs16 u w h0 hM; exact fr_X12_book_b59 hs0 hs1 hs2 hs3 hs4 hs5 hs6 hs7 hs8 hs9 hs10 hs11 hs12 hs13 hs14 hs15 hs16  (fun x1 _ _ hs0 hs1 hs2 hs3 hs4 hs5 hs6 hs7 hs8 hs9 hs10 hs11 hs12 hs13 hs14 hs15 hs16 h0 h => ihn hs0 hs1 hs2 hs3 hs4 hs5 hs6 hs7 hs8 hs9 hs10 hs11 hs12 hs13 hs14 hs15 hs16 h0 h) hM h0
theorem fr_X12_book_b58 {S : Nat → Prop} {u0 u : gM} {s0 : Int32} (hs0 : S 0) (hs1 : S 1) (hs2 : S 10) (hs3 : S 11) (hs4 : S 12) (hs5 : S 13) (hs6 : S 14) (hs7 : S 15) (hs8 : S 16) (hs9 : S 2) (hs10 : S 3) (hs11 : S 4) (hs12 : S 5) (hs13 : S 6) (hs14 : S 7) (hs15 : S 8) (hs16 : S 9)   {w : (Int32 × gM)} (hM : X12_book_b58 s0 u = some w) (h0 : off S u0 u) : off S u0 w.2 := by
  unfold X12_book_b58 at hM
  exact fr_X12_book_l59  fz hs0 hs1 hs2 hs3 hs4 hs5 hs6 hs7 hs8 hs9 hs10 hs11 hs12 hs13 hs14 hs15 hs16 h0 hM
theorem fr_X12_book_b2 {S : Nat → Prop} {u0 u : gM} {x1 : Int32} (hs0 : S 0) (hs1 : S 1) (hs2 : S 10) (hs3 : S 11) (hs4 : S 12) (hs5 : S 13) (hs6 : S 14) (hs7 : S 15) (hs8 : S 16) (hs9 : S 2) (hs10 : S 3) (hs11 : S 4) (hs12 : S 5) (hs13 : S 6) (hs14 : S 7) (hs15 : S 8) (hs16 : S 9) {k2 : Int32 → gM → Option (Int32 × gM)} (ik2 : ∀ (x1 : Int32) (u : gM) (w : (Int32 × gM)), S 0 → S 1 → S 10 → S 11 → S 12 → S 13 → S 14 → S 15 → S 16 → S 2 → S 3 → S 4 → S 5 → S 6 → S 7 → S 8 → S 9 → off S u0 u → k2 x1 u = some w → off S u0 w.2) {w : (Int32 × gM)} (hM : X12_book_b2 k2 x1 u = some w) (h0 : off S u0 u) : off S u0 w.2 := by
  unfold X12_book_b2 at hM
  by_cases c5 : 6 ≤ x1
  · rw [if_pos c5] at hM
    obtain ⟨u32, e32, hM⟩ := bind_of hM
    have h0 := off_sI hs1 e32 h0
    obtain ⟨u41, e41, hM⟩ := bind_of hM
    have h0 := off_sI hs1 e41 h0
    obtain ⟨w43, e43, hM⟩ := bind_of hM
    have h0 := fr_X12_begins hs0 e43 h0
    by_cases c50 : (w43.1 0 25) = 0
    · rw [if_pos c50] at hM
      exact fr_X12_book_b58 hs0 hs1 hs2 hs3 hs4 hs5 hs6 hs7 hs8 hs9 hs10 hs11 hs12 hs13 hs14 hs15 hs16  hM h0
    · rw [if_neg c50] at hM
      exact fr_X12_book_b58 hs0 hs1 hs2 hs3 hs4 hs5 hs6 hs7 hs8 hs9 hs10 hs11 hs12 hs13 hs14 hs15 hs16  hM h0
  · rw [if_neg c5] at hM
    obtain ⟨u17, e17, hM⟩ := bind_of hM
    have h0 := off_sI hs1 e17 h0
    exact ik2 _ _ _ hs0 hs1 hs2 hs3 hs4 hs5 hs6 hs7 hs8 hs9 hs10 hs11 hs12 hs13 hs14 hs15 hs16 h0 hM
theorem fr_X12_book_l2 {S : Nat → Prop} {u0 : gM}   : ∀ (n : Nat) {x1 : Int32} (hs0 : S 0) (hs1 : S 1) (hs2 : S 10) (hs3 : S 11) (hs4 : S 12) (hs5 : S 13) (hs6 : S 14) (hs7 : S 15) (hs8 : S 16) (hs9 : S 2) (hs10 : S 3) (hs11 : S 4) (hs12 : S 5) (hs13 : S 6) (hs14 : S 7) (hs15 : S 8) (hs16 : S 9) {u : gM} {w : (Int32 × gM)} (h0 : off S u0 u) (hM : X12_book_l2  n x1 u = some w), off S u0 w.2 := by
  intro n
  induction n with
  | zero => intro x1 hs0 hs1 hs2 hs3 hs4 hs5 hs6 hs7 hs8 hs9 hs10 hs11 hs12 hs13 hs14 hs15 hs16 u w h0 hM; exact nomatch (show (none : Option (Int32 × gM)) = some w from hM)
  | succ n ihn => intro x1 hs0 hs1 hs2 hs3 hs4 hs5 hs6 hs7 hs8 hs9 hs10 hs11 hs12 hs13 hs14 hs15 hs16 u w h0 hM; exact fr_X12_book_b2 hs0 hs1 hs2 hs3 hs4 hs5 hs6 hs7 hs8 hs9 hs10 hs11 hs12 hs13 hs14 hs15 hs16  (fun x1 _ _ hs0 hs1 hs2 hs3 hs4 hs5 hs6 hs7 hs8 hs9 hs10 hs11 hs12 hs13 hs14 hs15 hs16 h0 h => ihn hs0 hs1 hs2 hs3 hs4 hs5 hs6 hs7 hs8 hs9 hs10 hs11 hs12 hs13 hs14 hs15 hs16 h0 h) hM h0
theorem fr_X12_book {S : Nat → Prop} {u0 u : gM}  (hs0 : S 0) (hs1 : S 1) (hs2 : S 10) (hs3 : S 11) (hs4 : S 12) (hs5 : S 13) (hs6 : S 14) (hs7 : S 15) (hs8 : S 16) (hs9 : S 2) (hs10 : S 3) (hs11 : S 4) (hs12 : S 5) (hs13 : S 6) (hs14 : S 7) (hs15 : S 8) (hs16 : S 9)   {w : (Int32 × gM)} (hM : X12_book u = some w) (h0 : off S u0 u) : off S u0 w.2 := by
  unfold X12_book at hM
  exact fr_X12_book_l2  fz hs0 hs1 hs2 hs3 hs4 hs5 hs6 hs7 hs8 hs9 hs10 hs11 hs12 hs13 hs14 hs15 hs16 h0 hM
/-! CoverDeskModel.came(III)J -/
theorem dX12_came_0 : decode cX12_came 0 = .ok (.aload_n 0, 1) := by decide +kernel
theorem dX12_came_1 : decode cX12_came 1 = .ok (.getfield 56, 3) := by decide +kernel
theorem dX12_came_4 : decode cX12_came 4 = .ok (.bipush 53, 2) := by decide +kernel
theorem dX12_came_6 : decode cX12_came 6 = .ok (.iaload, 1) := by decide +kernel
theorem dX12_came_7 : decode cX12_came 7 = .ok (.iconst (-1), 1) := by decide +kernel
theorem dX12_came_8 : decode cX12_came 8 = .ok (.if_icmp .eq 58, 3) := by decide +kernel
theorem dX12_came_11 : decode cX12_came 11 = .ok (.aload_n 0, 1) := by decide +kernel
theorem dX12_came_12 : decode cX12_came 12 = .ok (.iload_n 1, 1) := by decide +kernel
theorem dX12_came_13 : decode cX12_came 13 = .ok (.invokevirtual 362, 3) := by decide +kernel
theorem dX12_came_16 : decode cX12_came 16 = .ok (.ifCond .eq 50, 3) := by decide +kernel
theorem dX12_came_19 : decode cX12_came 19 = .ok (.iload_n 2, 1) := by decide +kernel
theorem dX12_came_20 : decode cX12_came 20 = .ok (.i2l, 1) := by decide +kernel
theorem dX12_came_21 : decode cX12_came 21 = .ok (.lconst 0, 1) := by decide +kernel
theorem dX12_came_22 : decode cX12_came 22 = .ok (.aload_n 0, 1) := by decide +kernel
theorem dX12_came_23 : decode cX12_came 23 = .ok (.getfield 29, 3) := by decide +kernel
theorem dX12_came_26 : decode cX12_came 26 = .ok (.iload_n 1, 1) := by decide +kernel
theorem dX12_came_27 : decode cX12_came 27 = .ok (.iaload, 1) := by decide +kernel
theorem dX12_came_28 : decode cX12_came 28 = .ok (.iconst 1, 1) := by decide +kernel
theorem dX12_came_29 : decode cX12_came 29 = .ok (.isub, 1) := by decide +kernel
theorem dX12_came_30 : decode cX12_came 30 = .ok (.i2l, 1) := by decide +kernel
theorem dX12_came_31 : decode cX12_came 31 = .ok (.invokestatic 125, 3) := by decide +kernel
theorem dX12_came_34 : decode cX12_came 34 = .ok (.ifCond .eq 32, 3) := by decide +kernel
theorem dX12_came_37 : decode cX12_came 37 = .ok (.iload_n 3, 1) := by decide +kernel
theorem dX12_came_38 : decode cX12_came 38 = .ok (.i2l, 1) := by decide +kernel
theorem dX12_came_39 : decode cX12_came 39 = .ok (.lconst 0, 1) := by decide +kernel
theorem dX12_came_40 : decode cX12_came 40 = .ok (.ldc2_w 451, 3) := by decide +kernel
theorem dX12_came_43 : decode cX12_came 43 = .ok (.invokestatic 125, 3) := by decide +kernel
theorem dX12_came_46 : decode cX12_came 46 = .ok (.ifCond .eq 20, 3) := by decide +kernel
theorem dX12_came_49 : decode cX12_came 49 = .ok (.aload_n 0, 1) := by decide +kernel
theorem dX12_came_50 : decode cX12_came 50 = .ok (.getfield 56, 3) := by decide +kernel
theorem dX12_came_53 : decode cX12_came 53 = .ok (.bipush 54, 2) := by decide +kernel
theorem dX12_came_55 : decode cX12_came 55 = .ok (.iconst 4, 1) := by decide +kernel
theorem dX12_came_56 : decode cX12_came 56 = .ok (.iload_n 1, 1) := by decide +kernel
theorem dX12_came_57 : decode cX12_came 57 = .ok (.imul, 1) := by decide +kernel
theorem dX12_came_58 : decode cX12_came 58 = .ok (.iadd, 1) := by decide +kernel
theorem dX12_came_59 : decode cX12_came 59 = .ok (.iload_n 2, 1) := by decide +kernel
theorem dX12_came_60 : decode cX12_came 60 = .ok (.iadd, 1) := by decide +kernel
theorem dX12_came_61 : decode cX12_came 61 = .ok (.iaload, 1) := by decide +kernel
theorem dX12_came_62 : decode cX12_came 62 = .ok (.iconst (-1), 1) := by decide +kernel
theorem dX12_came_63 : decode cX12_came 63 = .ok (.if_icmp .ne 7, 3) := by decide +kernel
theorem dX12_came_66 : decode cX12_came 66 = .ok (.ldc2_w 341, 3) := by decide +kernel
theorem dX12_came_69 : decode cX12_came 69 = .ok (.lreturn, 1) := by decide +kernel
theorem dX12_came_70 : decode cX12_came 70 = .ok (.iconst 4, 1) := by decide +kernel
theorem dX12_came_71 : decode cX12_came 71 = .ok (.iload_n 1, 1) := by decide +kernel
theorem dX12_came_72 : decode cX12_came 72 = .ok (.imul, 1) := by decide +kernel
theorem dX12_came_73 : decode cX12_came 73 = .ok (.iload_n 2, 1) := by decide +kernel
theorem dX12_came_74 : decode cX12_came 74 = .ok (.iadd, 1) := by decide +kernel
theorem dX12_came_75 : decode cX12_came 75 = .ok (.istore 4, 2) := by decide +kernel
theorem dX12_came_77 : decode cX12_came 77 = .ok (.iload_n 3, 1) := by decide +kernel
theorem dX12_came_78 : decode cX12_came 78 = .ok (.ifCond .ne 17, 3) := by decide +kernel
theorem dX12_came_81 : decode cX12_came 81 = .ok (.aload_n 0, 1) := by decide +kernel
theorem dX12_came_82 : decode cX12_came 82 = .ok (.getfield 56, 3) := by decide +kernel
theorem dX12_came_85 : decode cX12_came 85 = .ok (.bipush 54, 2) := by decide +kernel
theorem dX12_came_87 : decode cX12_came 87 = .ok (.iload 4, 2) := by decide +kernel
theorem dX12_came_89 : decode cX12_came 89 = .ok (.iadd, 1) := by decide +kernel
theorem dX12_came_90 : decode cX12_came 90 = .ok (.iaload, 1) := by decide +kernel
theorem dX12_came_91 : decode cX12_came 91 = .ok (.i2l, 1) := by decide +kernel
theorem dX12_came_92 : decode cX12_came 92 = .ok (.goto 55, 3) := by decide +kernel
theorem dX12_came_95 : decode cX12_came 95 = .ok (.iload_n 3, 1) := by decide +kernel
theorem dX12_came_96 : decode cX12_came 96 = .ok (.iconst 1, 1) := by decide +kernel
theorem dX12_came_97 : decode cX12_came 97 = .ok (.if_icmp .ne 18, 3) := by decide +kernel
theorem dX12_came_100 : decode cX12_came 100 = .ok (.aload_n 0, 1) := by decide +kernel
theorem dX12_came_101 : decode cX12_came 101 = .ok (.getfield 56, 3) := by decide +kernel
theorem dX12_came_104 : decode cX12_came 104 = .ok (.sipush 150, 3) := by decide +kernel
theorem dX12_came_107 : decode cX12_came 107 = .ok (.iload 4, 2) := by decide +kernel
theorem dX12_came_109 : decode cX12_came 109 = .ok (.iadd, 1) := by decide +kernel
theorem dX12_came_110 : decode cX12_came 110 = .ok (.iaload, 1) := by decide +kernel
theorem dX12_came_111 : decode cX12_came 111 = .ok (.i2l, 1) := by decide +kernel
theorem dX12_came_112 : decode cX12_came 112 = .ok (.goto 35, 3) := by decide +kernel
theorem dX12_came_115 : decode cX12_came 115 = .ok (.iload_n 3, 1) := by decide +kernel
theorem dX12_came_116 : decode cX12_came 116 = .ok (.iconst 2, 1) := by decide +kernel
theorem dX12_came_117 : decode cX12_came 117 = .ok (.if_icmp .ne 18, 3) := by decide +kernel
theorem dX12_came_120 : decode cX12_came 120 = .ok (.aload_n 0, 1) := by decide +kernel
theorem dX12_came_121 : decode cX12_came 121 = .ok (.getfield 56, 3) := by decide +kernel
theorem dX12_came_124 : decode cX12_came 124 = .ok (.sipush 246, 3) := by decide +kernel
theorem dX12_came_127 : decode cX12_came 127 = .ok (.iload 4, 2) := by decide +kernel
theorem dX12_came_129 : decode cX12_came 129 = .ok (.iadd, 1) := by decide +kernel
theorem dX12_came_130 : decode cX12_came 130 = .ok (.iaload, 1) := by decide +kernel
theorem dX12_came_131 : decode cX12_came 131 = .ok (.i2l, 1) := by decide +kernel
theorem dX12_came_132 : decode cX12_came 132 = .ok (.goto 15, 3) := by decide +kernel
theorem dX12_came_135 : decode cX12_came 135 = .ok (.aload_n 0, 1) := by decide +kernel
theorem dX12_came_136 : decode cX12_came 136 = .ok (.getfield 56, 3) := by decide +kernel
theorem dX12_came_139 : decode cX12_came 139 = .ok (.sipush 342, 3) := by decide +kernel
theorem dX12_came_142 : decode cX12_came 142 = .ok (.iload 4, 2) := by decide +kernel
theorem dX12_came_144 : decode cX12_came 144 = .ok (.iadd, 1) := by decide +kernel
theorem dX12_came_145 : decode cX12_came 145 = .ok (.iaload, 1) := by decide +kernel
theorem dX12_came_146 : decode cX12_came 146 = .ok (.i2l, 1) := by decide +kernel
theorem dX12_came_147 : decode cX12_came 147 = .ok (.lreturn, 1) := by decide +kernel
def X12_came_b66 (u : gM)   : Option Int64 :=
some (-1)
def X12_came_b147 (u : gM)  (s0 : Int64) : Option Int64 :=
some s0
def X12_came (u : gM)  (x1 : Int32) (x2 : Int32) (x3 : Int32) : Option Int64 :=
((aI skM u 16 53).bind fun v6 => (if v6 = (-1) then (X12_came_b66 u)
  else ((X12_isAccount u x1).bind fun w13 => (if w13 = 0 then (X12_came_b66 u)
    else ((aI skM u 7 x1).bind fun v27 => ((X12_isIn u x2.toInt64 0 (v27 - 1).toInt64).bind fun w31 => (if w31 = 0 then (X12_came_b66 u)
      else ((X12_isIn u x3.toInt64 0 3).bind fun w43 => (if w43 = 0 then (X12_came_b66 u)
        else ((aI skM u 16 ((54 + (4 * x1)) + x2)).bind fun v61 => (if v61 = (-1) then (X12_came_b66 u)
          else (if x3 = 0 then ((aI skM u 16 (54 + ((4 * x1) + x2))).bind fun v90 => (X12_came_b147 u v90.toInt64))
            else (if x3 = 1 then ((aI skM u 16 (150 + ((4 * x1) + x2))).bind fun v110 => (X12_came_b147 u v110.toInt64))
              else (if x3 = 2 then ((aI skM u 16 (246 + ((4 * x1) + x2))).bind fun v130 => (X12_came_b147 u v130.toInt64))
                else ((aI skM u 16 (342 + ((4 * x1) + x2))).bind fun v145 => (X12_came_b147 u v145.toInt64))))))))))))))))
set_option maxRecDepth 20000 in
theorem v_X12_came_b66 {κ : gK} {B : Nat} {u : gM} (X : gX κ B skM cX12_came 5 RX12 (some .long) 2 46)    {w : Int64} (hM : X12_came_b66 u = some w) : gV κ B skM 5 ((some (.long w)), u) 66 [none, none, none, none, none] [] u := by
  unfold X12_came_b66 at hM
  refine g_ldc2 (v := (-1)) X m_43_8 dX12_came_66 ?_
  cases hM
  exact g_lret X dX12_came_69
set_option maxRecDepth 20000 in
theorem v_X12_came_b147 {κ : gK} {B : Nat} {u : gM} (X : gX κ B skM cX12_came 5 RX12 (some .long) 2 46)   {s0 : Int64} {w : Int64} (hM : X12_came_b147 u s0 = some w) : gV κ B skM 5 ((some (.long w)), u) 147 [none, none, none, none, none] [.long s0] u := by
  unfold X12_came_b147 at hM
  cases hM
  exact g_lret X dX12_came_147
set_option maxRecDepth 20000 in
theorem v_X12_came {κ : gK} {B : Nat} {u : gM} (X : gX κ B skM cX12_came 5 RX12 (some .long) 2 46)   {x1 : Int32} {x2 : Int32} {x3 : Int32} {w : Int64} (hM : X12_came u x1 x2 x3 = some w) : gV κ B skM 5 ((some (.long w)), u) 0 [some (.ref (B + 0)), some (.int x1), some (.int x2), some (.int x3), none] [] u := by
  unfold X12_came at hM
  refine g_aload_n X dX12_came_0 rfl ?_
  refine g_getR X fX12_56 cM_0 rfl dX12_came_1 ?_
  refine g_bipush X (v := 53) dX12_came_4 (by decide) ?_
  obtain ⟨v6, e6, hM⟩ := bind_of hM
  refine g_iaload X e6 dX12_came_6 ?_
  refine g_iconst X (v := (-1)) dX12_came_7 (by decide) ?_
  refine g_icmp_eq (tgt := 66) X dX12_came_8 (by decide) (fun c8 => ?_) (fun c8 => ?_)
  · rw [if_pos c8] at hM
    refine g_mk [false, false, false, false, false] [none, none, none, none, none] rfl ?_
    exact v_X12_came_b66 X  hM
  · rw [if_neg c8] at hM
    refine g_aload_n X dX12_came_11 rfl ?_
    refine g_iload_n X dX12_came_12 rfl ?_
    obtain ⟨w13, e13, hM⟩ := bind_of hM
    refine g_callVi X (fun B adK => [.int x1]) (s_X12_isAccount e13) cvX12_362 cM_0 rfl rfl (Nat.le_of_ble_eq_true rfl) ⟨by decide, by decide⟩ dX12_came_13 ?_
    refine g_if_eq (tgt := 66) X dX12_came_16 (by decide) (fun c16 => ?_) (fun c16 => ?_)
    · rw [if_pos c16] at hM
      refine g_mk [false, false, false, false, false] [none, none, none, none, none] rfl ?_
      exact v_X12_came_b66 X  hM
    · rw [if_neg c16] at hM
      refine g_iload_n X dX12_came_19 rfl ?_
      refine g_i2l X dX12_came_20 ?_
      refine g_lconst (v := 0) X dX12_came_21 (by decide) ?_
      refine g_aload_n X dX12_came_22 rfl ?_
      refine g_getR X fX12_29 cM_0 rfl dX12_came_23 ?_
      refine g_iload_n X dX12_came_26 rfl ?_
      obtain ⟨v27, e27, hM⟩ := bind_of hM
      refine g_iaload X e27 dX12_came_27 ?_
      refine g_iconst X (v := 1) dX12_came_28 (by decide) ?_
      refine g_isub X dX12_came_29 ?_
      refine g_i2l X dX12_came_30 ?_
      obtain ⟨w31, e31, hM⟩ := bind_of hM
      refine g_callSi X (fun B adK => [.long x2.toInt64, .long 0, .long (v27 - 1).toInt64]) (s_X12_isIn e31) cvX12_125 rfl rfl (Nat.le_of_ble_eq_true rfl) ⟨by decide, by decide⟩ dX12_came_31 ?_
      refine g_if_eq (tgt := 66) X dX12_came_34 (by decide) (fun c34 => ?_) (fun c34 => ?_)
      · rw [if_pos c34] at hM
        refine g_mk [false, false, false, false, false] [none, none, none, none, none] rfl ?_
        exact v_X12_came_b66 X  hM
      · rw [if_neg c34] at hM
        refine g_iload_n X dX12_came_37 rfl ?_
        refine g_i2l X dX12_came_38 ?_
        refine g_lconst (v := 0) X dX12_came_39 (by decide) ?_
        refine g_ldc2 (v := 3) X m_52_3 dX12_came_40 ?_
        obtain ⟨w43, e43, hM⟩ := bind_of hM
        refine g_callSi X (fun B adK => [.long x3.toInt64, .long 0, .long 3]) (s_X12_isIn e43) cvX12_125 rfl rfl (Nat.le_of_ble_eq_true rfl) ⟨by decide, by decide⟩ dX12_came_43 ?_
        refine g_if_eq (tgt := 66) X dX12_came_46 (by decide) (fun c46 => ?_) (fun c46 => ?_)
        · rw [if_pos c46] at hM
          refine g_mk [false, false, false, false, false] [none, none, none, none, none] rfl ?_
          exact v_X12_came_b66 X  hM
        · rw [if_neg c46] at hM
          refine g_aload_n X dX12_came_49 rfl ?_
          refine g_getR X fX12_56 cM_0 rfl dX12_came_50 ?_
          refine g_bipush X (v := 54) dX12_came_53 (by decide) ?_
          refine g_iconst X (v := 4) dX12_came_55 (by decide) ?_
          refine g_iload_n X dX12_came_56 rfl ?_
          refine g_imul X dX12_came_57 ?_
          refine g_iadd X dX12_came_58 ?_
          refine g_iload_n X dX12_came_59 rfl ?_
          refine g_iadd X dX12_came_60 ?_
          obtain ⟨v61, e61, hM⟩ := bind_of hM
          refine g_iaload X e61 dX12_came_61 ?_
          refine g_iconst X (v := (-1)) dX12_came_62 (by decide) ?_
          refine g_icmp_ne (tgt := 70) X dX12_came_63 (by decide) (fun c63 => ?_) (fun c63 => ?_)
          · rw [if_neg c63] at hM
            refine g_iconst X (v := 4) dX12_came_70 (by decide) ?_
            refine g_iload_n X dX12_came_71 rfl ?_
            refine g_imul X dX12_came_72 ?_
            refine g_iload_n X dX12_came_73 rfl ?_
            refine g_iadd X dX12_came_74 ?_
            refine g_istore X [some (.ref (B + 0)), some (.int x1), some (.int x2), some (.int x3), some (.int ((4 * x1) + x2))] dX12_came_75 (by decide) rfl ?_
            refine g_iload_n X dX12_came_77 rfl ?_
            refine g_if_ne (tgt := 95) X dX12_came_78 (by decide) (fun c78 => ?_) (fun c78 => ?_)
            · rw [if_neg c78] at hM
              refine g_iload_n X dX12_came_95 rfl ?_
              refine g_iconst X (v := 1) dX12_came_96 (by decide) ?_
              refine g_icmp_ne (tgt := 115) X dX12_came_97 (by decide) (fun c97 => ?_) (fun c97 => ?_)
              · rw [if_neg c97] at hM
                refine g_iload_n X dX12_came_115 rfl ?_
                refine g_iconst X (v := 2) dX12_came_116 (by decide) ?_
                refine g_icmp_ne (tgt := 135) X dX12_came_117 (by decide) (fun c117 => ?_) (fun c117 => ?_)
                · rw [if_neg c117] at hM
                  refine g_aload_n X dX12_came_135 rfl ?_
                  refine g_getR X fX12_56 cM_0 rfl dX12_came_136 ?_
                  refine g_sipush X (v := 342) dX12_came_139 (by decide) ?_
                  refine g_iload X dX12_came_142 rfl ?_
                  refine g_iadd X dX12_came_144 ?_
                  obtain ⟨v145, e145, hM⟩ := bind_of hM
                  refine g_iaload X e145 dX12_came_145 ?_
                  refine g_i2l X dX12_came_146 ?_
                  refine g_mk [false, false, false, false, false] [none, none, none, none, none] rfl ?_
                  exact v_X12_came_b147 X  hM
                · rw [if_pos c117] at hM
                  refine g_aload_n X dX12_came_120 rfl ?_
                  refine g_getR X fX12_56 cM_0 rfl dX12_came_121 ?_
                  refine g_sipush X (v := 246) dX12_came_124 (by decide) ?_
                  refine g_iload X dX12_came_127 rfl ?_
                  refine g_iadd X dX12_came_129 ?_
                  obtain ⟨v130, e130, hM⟩ := bind_of hM
                  refine g_iaload X e130 dX12_came_130 ?_
                  refine g_i2l X dX12_came_131 ?_
                  refine g_goto (tgt := 147) X dX12_came_132 (by decide) ?_
                  refine g_mk [false, false, false, false, false] [none, none, none, none, none] rfl ?_
                  exact v_X12_came_b147 X  hM
              · rw [if_pos c97] at hM
                refine g_aload_n X dX12_came_100 rfl ?_
                refine g_getR X fX12_56 cM_0 rfl dX12_came_101 ?_
                refine g_sipush X (v := 150) dX12_came_104 (by decide) ?_
                refine g_iload X dX12_came_107 rfl ?_
                refine g_iadd X dX12_came_109 ?_
                obtain ⟨v110, e110, hM⟩ := bind_of hM
                refine g_iaload X e110 dX12_came_110 ?_
                refine g_i2l X dX12_came_111 ?_
                refine g_goto (tgt := 147) X dX12_came_112 (by decide) ?_
                refine g_mk [false, false, false, false, false] [none, none, none, none, none] rfl ?_
                exact v_X12_came_b147 X  hM
            · rw [if_pos c78] at hM
              refine g_aload_n X dX12_came_81 rfl ?_
              refine g_getR X fX12_56 cM_0 rfl dX12_came_82 ?_
              refine g_bipush X (v := 54) dX12_came_85 (by decide) ?_
              refine g_iload X dX12_came_87 rfl ?_
              refine g_iadd X dX12_came_89 ?_
              obtain ⟨v90, e90, hM⟩ := bind_of hM
              refine g_iaload X e90 dX12_came_90 ?_
              refine g_i2l X dX12_came_91 ?_
              refine g_goto (tgt := 147) X dX12_came_92 (by decide) ?_
              refine g_mk [false, false, false, false, false] [none, none, none, none, none] rfl ?_
              exact v_X12_came_b147 X  hM
          · rw [if_pos c63] at hM
            refine g_mk [false, false, false, false, false] [none, none, none, none, none] rfl ?_
            exact v_X12_came_b66 X  hM
theorem s_X12_came {x1 : Int32} {x2 : Int32} {x3 : Int32} {u : gM} {w : Int64} (hM : X12_came u x1 x2 x3 = some w) : gMet skM yX12_came cX12_came 5 (some .long) 2 46 (fun B adK => [.ref (B + 0), .int x1, .int x2, .int x3]) u ((fun _ => some (.long w)), u) := by
  refine gMet.of (by decide) (fun _ _ => Nat.le_of_ble_eq_true rfl) (fun κ B X => ?_)
  have X : gX κ B skM cX12_came 5 RX12 (some .long) 2 46 := X
  refine g_mk [true, true, true, true, false] [some (.ref (B + 0)), some (.int x1), some (.int x2), some (.int x3), none] rfl ?_
  exact v_X12_came X  hM

/-! CoverDeskModel.isChange(I)Z -/
theorem dX12_isChange_0 : decode cX12_isChange 0 = .ok (.iconst 0, 1) := by decide +kernel
theorem dX12_isChange_1 : decode cX12_isChange 1 = .ok (.istore_n 2, 1) := by decide +kernel
theorem dX12_isChange_2 : decode cX12_isChange 2 = .ok (.iload_n 2, 1) := by decide +kernel
theorem dX12_isChange_3 : decode cX12_isChange 3 = .ok (.aload_n 0, 1) := by decide +kernel
theorem dX12_isChange_4 : decode cX12_isChange 4 = .ok (.getfield 7, 3) := by decide +kernel
theorem dX12_isChange_7 : decode cX12_isChange 7 = .ok (.iconst 2, 1) := by decide +kernel
theorem dX12_isChange_8 : decode cX12_isChange 8 = .ok (.iaload, 1) := by decide +kernel
theorem dX12_isChange_9 : decode cX12_isChange 9 = .ok (.if_icmp .ge 28, 3) := by decide +kernel
theorem dX12_isChange_12 : decode cX12_isChange 12 = .ok (.aload_n 0, 1) := by decide +kernel
theorem dX12_isChange_13 : decode cX12_isChange 13 = .ok (.iload_n 2, 1) := by decide +kernel
theorem dX12_isChange_14 : decode cX12_isChange 14 = .ok (.iload_n 1, 1) := by decide +kernel
theorem dX12_isChange_15 : decode cX12_isChange 15 = .ok (.invokevirtual 325, 3) := by decide +kernel
theorem dX12_isChange_18 : decode cX12_isChange 18 = .ok (.aload_n 0, 1) := by decide +kernel
theorem dX12_isChange_19 : decode cX12_isChange 19 = .ok (.iload_n 2, 1) := by decide +kernel
theorem dX12_isChange_20 : decode cX12_isChange 20 = .ok (.iload_n 1, 1) := by decide +kernel
theorem dX12_isChange_21 : decode cX12_isChange 21 = .ok (.iconst 1, 1) := by decide +kernel
theorem dX12_isChange_22 : decode cX12_isChange 22 = .ok (.isub, 1) := by decide +kernel
theorem dX12_isChange_23 : decode cX12_isChange 23 = .ok (.invokevirtual 325, 3) := by decide +kernel
theorem dX12_isChange_26 : decode cX12_isChange 26 = .ok (.if_icmp .eq 5, 3) := by decide +kernel
theorem dX12_isChange_29 : decode cX12_isChange 29 = .ok (.iconst 1, 1) := by decide +kernel
theorem dX12_isChange_30 : decode cX12_isChange 30 = .ok (.ireturn, 1) := by decide +kernel
theorem dX12_isChange_31 : decode cX12_isChange 31 = .ok (.iinc 2 1, 3) := by decide +kernel
theorem dX12_isChange_34 : decode cX12_isChange 34 = .ok (.goto (-32), 3) := by decide +kernel
theorem dX12_isChange_37 : decode cX12_isChange 37 = .ok (.iconst 0, 1) := by decide +kernel
theorem dX12_isChange_38 : decode cX12_isChange 38 = .ok (.ireturn, 1) := by decide +kernel
def X12_isChange_b2 (u : gM) (k2 : Int32 → Int32 → Option Int32) (x1 : Int32) (x2 : Int32) : Option Int32 :=
((aI skM u 1 2).bind fun v8 => (if v8 ≤ x2 then some 0
  else ((X12_countedAt u x2 x1).bind fun w15 => ((X12_countedAt u x2 (x1 - 1)).bind fun w23 => (if w15 = w23 then (k2 x1 (x2 + 1))
    else some 1)))))
def X12_isChange_l2 (u : gM)  : Nat → Int32 → Int32 → Option Int32
  | 0, _, _ => none
  | n + 1, x1, x2 => X12_isChange_b2 u  (X12_isChange_l2 u  n) x1 x2
def X12_isChange (u : gM)  (x1 : Int32) : Option Int32 :=
(X12_isChange_l2 u fz x1 0)
set_option maxRecDepth 20000 in
theorem v_X12_isChange_b2 {κ : gK} {B : Nat} {u : gM} (X : gX κ B skM cX12_isChange 3 RX12 (some .boolean) 3 73) {k2 : Int32 → Int32 → Option Int32} (ih2 : ∀ (x1 : Int32) (x2 : Int32) (w : Int32), k2 x1 x2 = some w → gV κ B skM 3 ((some (.int w)), u) 2 [some (.ref (B + 0)), some (.int x1), some (.int x2)] [] u) {x1 : Int32} {x2 : Int32} {w : Int32} (hM : X12_isChange_b2 u k2 x1 x2 = some w) : gV κ B skM 3 ((some (.int w)), u) 2 [some (.ref (B + 0)), some (.int x1), some (.int x2)] [] u := by
  unfold X12_isChange_b2 at hM
  refine g_iload_n X dX12_isChange_2 rfl ?_
  refine g_aload_n X dX12_isChange_3 rfl ?_
  refine g_getR X fX12_7 cM_0 rfl dX12_isChange_4 ?_
  refine g_iconst X (v := 2) dX12_isChange_7 (by decide) ?_
  obtain ⟨v8, e8, hM⟩ := bind_of hM
  refine g_iaload X e8 dX12_isChange_8 ?_
  refine g_icmp_ge (tgt := 37) X dX12_isChange_9 (by decide) (fun c9 => ?_) (fun c9 => ?_)
  · rw [if_pos c9] at hM
    refine g_iconst X (v := 0) dX12_isChange_37 (by decide) ?_
    cases hM
    exact g_zret X (Or.inl rfl) dX12_isChange_38
  · rw [if_neg c9] at hM
    refine g_aload_n X dX12_isChange_12 rfl ?_
    refine g_iload_n X dX12_isChange_13 rfl ?_
    refine g_iload_n X dX12_isChange_14 rfl ?_
    obtain ⟨w15, e15, hM⟩ := bind_of hM
    refine g_callVi X (fun B adK => [.int x2, .int x1]) (s_X12_countedAt e15) cvX12_325 cM_0 rfl rfl (Nat.le_of_ble_eq_true rfl) ⟨by decide, by decide⟩ dX12_isChange_15 ?_
    refine g_aload_n X dX12_isChange_18 rfl ?_
    refine g_iload_n X dX12_isChange_19 rfl ?_
    refine g_iload_n X dX12_isChange_20 rfl ?_
    refine g_iconst X (v := 1) dX12_isChange_21 (by decide) ?_
    refine g_isub X dX12_isChange_22 ?_
    obtain ⟨w23, e23, hM⟩ := bind_of hM
    refine g_callVi X (fun B adK => [.int x2, .int (x1 - 1)]) (s_X12_countedAt e23) cvX12_325 cM_0 rfl rfl (Nat.le_of_ble_eq_true rfl) ⟨by decide, by decide⟩ dX12_isChange_23 ?_
    refine g_icmp_eq (tgt := 31) X dX12_isChange_26 (by decide) (fun c26 => ?_) (fun c26 => ?_)
    · rw [if_pos c26] at hM
      refine g_iinc (d := 1) X [some (.ref (B + 0)), some (.int x1), some (.int (x2 + 1))] dX12_isChange_31 (by decide) rfl (by decide) rfl ?_
      refine g_goto (tgt := 2) X dX12_isChange_34 (by decide) ?_
      refine g_mk [true, true, true] [some (.ref (B + 0)), some (.int x1), some (.int (x2 + 1))] rfl ?_
      exact ih2 x1 (x2 + 1) _ hM
    · rw [if_neg c26] at hM
      refine g_iconst X (v := 1) dX12_isChange_29 (by decide) ?_
      cases hM
      exact g_zret X (Or.inr rfl) dX12_isChange_30
theorem v_X12_isChange_l2 {κ : gK} {B : Nat} {u : gM} (X : gX κ B skM cX12_isChange 3 RX12 (some .boolean) 3 73)   : ∀ (n : Nat) {x1 : Int32} {x2 : Int32} {w : Int32} (hM : X12_isChange_l2 u  n x1 x2 = some w), gV κ B skM 3 ((some (.int w)), u) 2 [some (.ref (B + 0)), some (.int x1), some (.int x2)] [] u := by
  intro n
  induction n with
  | zero => intro x1 x2 w hM; exact nomatch (show (none : Option Int32) = some w from hM)
  | succ n ihn => intro x1 x2 w hM; exact v_X12_isChange_b2 X  (fun x1 x2 w h => ihn h) hM
set_option maxRecDepth 20000 in
theorem v_X12_isChange {κ : gK} {B : Nat} {u : gM} (X : gX κ B skM cX12_isChange 3 RX12 (some .boolean) 3 73)   {x1 : Int32} {w : Int32} (hM : X12_isChange u x1 = some w) : gV κ B skM 3 ((some (.int w)), u) 0 [some (.ref (B + 0)), some (.int x1), none] [] u := by
  unfold X12_isChange at hM
  refine g_iconst X (v := 0) dX12_isChange_0 (by decide) ?_
  refine g_istore_n X [some (.ref (B + 0)), some (.int x1), some (.int 0)] dX12_isChange_1 (by decide) rfl ?_
  refine g_mk [true, true, true] [some (.ref (B + 0)), some (.int x1), some (.int 0)] rfl ?_
  exact v_X12_isChange_l2 X  fz hM
theorem s_X12_isChange {x1 : Int32} {u : gM} {w : Int32} (hM : X12_isChange u x1 = some w) : gMet skM yX12_isChange cX12_isChange 3 (some .boolean) 3 73 (fun B adK => [.ref (B + 0), .int x1]) u ((fun _ => some (.int w)), u) := by
  refine gMet.of (by decide) (fun _ _ => Nat.le_of_ble_eq_true rfl) (fun κ B X => ?_)
  have X : gX κ B skM cX12_isChange 3 RX12 (some .boolean) 3 73 := X
  refine g_mk [true, true, false] [some (.ref (B + 0)), some (.int x1), none] rfl ?_
  exact v_X12_isChange X  hM

/-! CoverDeskModel.change(I)I -/
theorem dX12_change_0 : decode cX12_change 0 = .ok (.iconst 0, 1) := by decide +kernel
theorem dX12_change_1 : decode cX12_change 1 = .ok (.istore_n 2, 1) := by decide +kernel
theorem dX12_change_2 : decode cX12_change 2 = .ok (.aload_n 0, 1) := by decide +kernel
theorem dX12_change_3 : decode cX12_change 3 = .ok (.getfield 56, 3) := by decide +kernel
theorem dX12_change_6 : decode cX12_change 6 = .ok (.iconst 0, 1) := by decide +kernel
theorem dX12_change_7 : decode cX12_change 7 = .ok (.iaload, 1) := by decide +kernel
theorem dX12_change_8 : decode cX12_change 8 = .ok (.iconst 1, 1) := by decide +kernel
theorem dX12_change_9 : decode cX12_change 9 = .ok (.iadd, 1) := by decide +kernel
theorem dX12_change_10 : decode cX12_change 10 = .ok (.istore_n 3, 1) := by decide +kernel
theorem dX12_change_11 : decode cX12_change 11 = .ok (.iload_n 3, 1) := by decide +kernel
theorem dX12_change_12 : decode cX12_change 12 = .ok (.sipush 999, 3) := by decide +kernel
theorem dX12_change_15 : decode cX12_change 15 = .ok (.if_icmp .gt 30, 3) := by decide +kernel
theorem dX12_change_18 : decode cX12_change 18 = .ok (.aload_n 0, 1) := by decide +kernel
theorem dX12_change_19 : decode cX12_change 19 = .ok (.iload_n 3, 1) := by decide +kernel
theorem dX12_change_20 : decode cX12_change 20 = .ok (.invokevirtual 478, 3) := by decide +kernel
theorem dX12_change_23 : decode cX12_change 23 = .ok (.ifCond .ne 6, 3) := by decide +kernel
theorem dX12_change_26 : decode cX12_change 26 = .ok (.goto 13, 3) := by decide +kernel
theorem dX12_change_29 : decode cX12_change 29 = .ok (.iload_n 2, 1) := by decide +kernel
theorem dX12_change_30 : decode cX12_change 30 = .ok (.iload_n 1, 1) := by decide +kernel
theorem dX12_change_31 : decode cX12_change 31 = .ok (.if_icmp .ne 5, 3) := by decide +kernel
theorem dX12_change_34 : decode cX12_change 34 = .ok (.iload_n 3, 1) := by decide +kernel
theorem dX12_change_35 : decode cX12_change 35 = .ok (.ireturn, 1) := by decide +kernel
theorem dX12_change_36 : decode cX12_change 36 = .ok (.iinc 2 1, 3) := by decide +kernel
theorem dX12_change_39 : decode cX12_change 39 = .ok (.iinc 3 1, 3) := by decide +kernel
theorem dX12_change_42 : decode cX12_change 42 = .ok (.goto (-31), 3) := by decide +kernel
theorem dX12_change_45 : decode cX12_change 45 = .ok (.iload_n 1, 1) := by decide +kernel
theorem dX12_change_46 : decode cX12_change 46 = .ok (.iconst (-1), 1) := by decide +kernel
theorem dX12_change_47 : decode cX12_change 47 = .ok (.if_icmp .ne 7, 3) := by decide +kernel
theorem dX12_change_50 : decode cX12_change 50 = .ok (.iload_n 2, 1) := by decide +kernel
theorem dX12_change_51 : decode cX12_change 51 = .ok (.goto 4, 3) := by decide +kernel
theorem dX12_change_54 : decode cX12_change 54 = .ok (.iconst (-1), 1) := by decide +kernel
theorem dX12_change_55 : decode cX12_change 55 = .ok (.ireturn, 1) := by decide +kernel
def X12_change_b55 (u : gM)  (s0 : Int32) : Option Int32 :=
some s0
def X12_change_b39 (u : gM) (k11 : Int32 → Int32 → Int32 → Option Int32) (x1 : Int32) (x2 : Int32) (x3 : Int32) : Option Int32 :=
(k11 x1 x2 (x3 + 1))
def X12_change_b11 (u : gM) (k11 : Int32 → Int32 → Int32 → Option Int32) (x1 : Int32) (x2 : Int32) (x3 : Int32) : Option Int32 :=
(if 999 < x3 then (if x1 = (-1) then (X12_change_b55 u x2)
    else (X12_change_b55 u (-1)))
  else ((X12_isChange u x3).bind fun w20 => (if w20 = 0 then (X12_change_b39 u k11 x1 x2 x3)
    else (if x2 = x1 then some x3
      else (X12_change_b39 u k11 x1 (x2 + 1) x3)))))
def X12_change_l11 (u : gM)  : Nat → Int32 → Int32 → Int32 → Option Int32
  | 0, _, _, _ => none
  | n + 1, x1, x2, x3 => X12_change_b11 u  (X12_change_l11 u  n) x1 x2 x3
def X12_change (u : gM)  (x1 : Int32) : Option Int32 :=
((aI skM u 16 0).bind fun v7 => (X12_change_l11 u fz x1 0 (v7 + 1)))
set_option maxRecDepth 20000 in
theorem v_X12_change_b55 {κ : gK} {B : Nat} {u : gM} (X : gX κ B skM cX12_change 4 RX12 (some .int) 4 95)   {s0 : Int32} {w : Int32} (hM : X12_change_b55 u s0 = some w) : gV κ B skM 4 ((some (.int w)), u) 55 [none, none, none, none] [.int s0] u := by
  unfold X12_change_b55 at hM
  cases hM
  exact g_iret X dX12_change_55
set_option maxRecDepth 20000 in
theorem v_X12_change_b39 {κ : gK} {B : Nat} {u : gM} (X : gX κ B skM cX12_change 4 RX12 (some .int) 4 95) {k11 : Int32 → Int32 → Int32 → Option Int32} (ih11 : ∀ (x1 : Int32) (x2 : Int32) (x3 : Int32) (w : Int32), k11 x1 x2 x3 = some w → gV κ B skM 4 ((some (.int w)), u) 11 [some (.ref (B + 0)), some (.int x1), some (.int x2), some (.int x3)] [] u) {x1 : Int32} {x2 : Int32} {x3 : Int32} {w : Int32} (hM : X12_change_b39 u k11 x1 x2 x3 = some w) : gV κ B skM 4 ((some (.int w)), u) 39 [some (.ref (B + 0)), some (.int x1), some (.int x2), some (.int x3)] [] u := by
  unfold X12_change_b39 at hM
  refine g_iinc (d := 1) X [some (.ref (B + 0)), some (.int x1), some (.int x2), some (.int (x3 + 1))] dX12_change_39 (by decide) rfl (by decide) rfl ?_
  refine g_goto (tgt := 11) X dX12_change_42 (by decide) ?_
  refine g_mk [true, true, true, true] [some (.ref (B + 0)), some (.int x1), some (.int x2), some (.int (x3 + 1))] rfl ?_
  exact ih11 x1 x2 (x3 + 1) _ hM
set_option maxRecDepth 20000 in
theorem v_X12_change_b11 {κ : gK} {B : Nat} {u : gM} (X : gX κ B skM cX12_change 4 RX12 (some .int) 4 95) {k11 : Int32 → Int32 → Int32 → Option Int32} (ih11 : ∀ (x1 : Int32) (x2 : Int32) (x3 : Int32) (w : Int32), k11 x1 x2 x3 = some w → gV κ B skM 4 ((some (.int w)), u) 11 [some (.ref (B + 0)), some (.int x1), some (.int x2), some (.int x3)] [] u) {x1 : Int32} {x2 : Int32} {x3 : Int32} {w : Int32} (hM : X12_change_b11 u k11 x1 x2 x3 = some w) : gV κ B skM 4 ((some (.int w)), u) 11 [some (.ref (B + 0)), some (.int x1), some (.int x2), some (.int x3)] [] u := by
  unfold X12_change_b11 at hM
  refine g_iload_n X dX12_change_11 rfl ?_
  refine g_sipush X (v := 999) dX12_change_12 (by decide) ?_
  refine g_icmp_gt (tgt := 45) X dX12_change_15 (by decide) (fun c15 => ?_) (fun c15 => ?_)
  · rw [if_pos c15] at hM
    refine g_iload_n X dX12_change_45 rfl ?_
    refine g_iconst X (v := (-1)) dX12_change_46 (by decide) ?_
    refine g_icmp_ne (tgt := 54) X dX12_change_47 (by decide) (fun c47 => ?_) (fun c47 => ?_)
    · rw [if_neg c47] at hM
      refine g_iconst X (v := (-1)) dX12_change_54 (by decide) ?_
      refine g_mk [false, false, false, false] [none, none, none, none] rfl ?_
      exact v_X12_change_b55 X  hM
    · rw [if_pos c47] at hM
      refine g_iload_n X dX12_change_50 rfl ?_
      refine g_goto (tgt := 55) X dX12_change_51 (by decide) ?_
      refine g_mk [false, false, false, false] [none, none, none, none] rfl ?_
      exact v_X12_change_b55 X  hM
  · rw [if_neg c15] at hM
    refine g_aload_n X dX12_change_18 rfl ?_
    refine g_iload_n X dX12_change_19 rfl ?_
    obtain ⟨w20, e20, hM⟩ := bind_of hM
    refine g_callVi X (fun B adK => [.int x3]) (s_X12_isChange e20) cvX12_478 cM_0 rfl rfl (Nat.le_of_ble_eq_true rfl) ⟨by decide, by decide⟩ dX12_change_20 ?_
    refine g_if_ne (tgt := 29) X dX12_change_23 (by decide) (fun c23 => ?_) (fun c23 => ?_)
    · rw [if_neg c23] at hM
      refine g_iload_n X dX12_change_29 rfl ?_
      refine g_iload_n X dX12_change_30 rfl ?_
      refine g_icmp_ne (tgt := 36) X dX12_change_31 (by decide) (fun c31 => ?_) (fun c31 => ?_)
      · rw [if_neg c31] at hM
        refine g_iinc (d := 1) X [some (.ref (B + 0)), some (.int x1), some (.int (x2 + 1)), some (.int x3)] dX12_change_36 (by decide) rfl (by decide) rfl ?_
        refine g_mk [true, true, true, true] [some (.ref (B + 0)), some (.int x1), some (.int (x2 + 1)), some (.int x3)] rfl ?_
        exact v_X12_change_b39 X ih11 hM
      · rw [if_pos c31] at hM
        refine g_iload_n X dX12_change_34 rfl ?_
        cases hM
        exact g_iret X dX12_change_35
    · rw [if_pos c23] at hM
      refine g_goto (tgt := 39) X dX12_change_26 (by decide) ?_
      refine g_mk [true, true, true, true] [some (.ref (B + 0)), some (.int x1), some (.int x2), some (.int x3)] rfl ?_
      exact v_X12_change_b39 X ih11 hM
theorem v_X12_change_l11 {κ : gK} {B : Nat} {u : gM} (X : gX κ B skM cX12_change 4 RX12 (some .int) 4 95)   : ∀ (n : Nat) {x1 : Int32} {x2 : Int32} {x3 : Int32} {w : Int32} (hM : X12_change_l11 u  n x1 x2 x3 = some w), gV κ B skM 4 ((some (.int w)), u) 11 [some (.ref (B + 0)), some (.int x1), some (.int x2), some (.int x3)] [] u := by
  intro n
  induction n with
  | zero => intro x1 x2 x3 w hM; exact nomatch (show (none : Option Int32) = some w from hM)
  | succ n ihn => intro x1 x2 x3 w hM; exact v_X12_change_b11 X  (fun x1 x2 x3 w h => ihn h) hM
set_option maxRecDepth 20000 in
theorem v_X12_change {κ : gK} {B : Nat} {u : gM} (X : gX κ B skM cX12_change 4 RX12 (some .int) 4 95)   {x1 : Int32} {w : Int32} (hM : X12_change u x1 = some w) : gV κ B skM 4 ((some (.int w)), u) 0 [some (.ref (B + 0)), some (.int x1), none, none] [] u := by
  unfold X12_change at hM
  refine g_iconst X (v := 0) dX12_change_0 (by decide) ?_
  refine g_istore_n X [some (.ref (B + 0)), some (.int x1), some (.int 0), none] dX12_change_1 (by decide) rfl ?_
  refine g_aload_n X dX12_change_2 rfl ?_
  refine g_getR X fX12_56 cM_0 rfl dX12_change_3 ?_
  refine g_iconst X (v := 0) dX12_change_6 (by decide) ?_
  obtain ⟨v7, e7, hM⟩ := bind_of hM
  refine g_iaload X e7 dX12_change_7 ?_
  refine g_iconst X (v := 1) dX12_change_8 (by decide) ?_
  refine g_iadd X dX12_change_9 ?_
  refine g_istore_n X [some (.ref (B + 0)), some (.int x1), some (.int 0), some (.int (v7 + 1))] dX12_change_10 (by decide) rfl ?_
  refine g_mk [true, true, true, true] [some (.ref (B + 0)), some (.int x1), some (.int 0), some (.int (v7 + 1))] rfl ?_
  exact v_X12_change_l11 X  fz hM
theorem s_X12_change {x1 : Int32} {u : gM} {w : Int32} (hM : X12_change u x1 = some w) : gMet skM yX12_change cX12_change 4 (some .int) 4 95 (fun B adK => [.ref (B + 0), .int x1]) u ((fun _ => some (.int w)), u) := by
  refine gMet.of (by decide) (fun _ _ => Nat.le_of_ble_eq_true rfl) (fun κ B X => ?_)
  have X : gX κ B skM cX12_change 4 RX12 (some .int) 4 95 := X
  refine g_mk [true, true, false, false] [some (.ref (B + 0)), some (.int x1), none, none] rfl ?_
  exact v_X12_change X  hM

/-! CoverDeskModel.readBank()Z -/
theorem dX12_readBank_0 : decode cX12_readBank 0 = .ok (.aload_n 0, 1) := by decide +kernel
theorem dX12_readBank_1 : decode cX12_readBank 1 = .ok (.invokevirtual 248, 3) := by decide +kernel
theorem dX12_readBank_4 : decode cX12_readBank 4 = .ok (.ifCond .ne 9, 3) := by decide +kernel
theorem dX12_readBank_7 : decode cX12_readBank 7 = .ok (.aload_n 0, 1) := by decide +kernel
theorem dX12_readBank_8 : decode cX12_readBank 8 = .ok (.iconst 1, 1) := by decide +kernel
theorem dX12_readBank_9 : decode cX12_readBank 9 = .ok (.invokevirtual 234, 3) := by decide +kernel
theorem dX12_readBank_12 : decode cX12_readBank 12 = .ok (.ireturn, 1) := by decide +kernel
theorem dX12_readBank_13 : decode cX12_readBank 13 = .ok (.aload_n 0, 1) := by decide +kernel
theorem dX12_readBank_14 : decode cX12_readBank 14 = .ok (.aload_n 0, 1) := by decide +kernel
theorem dX12_readBank_15 : decode cX12_readBank 15 = .ok (.getfield 17, 3) := by decide +kernel
theorem dX12_readBank_18 : decode cX12_readBank 18 = .ok (.iconst 0, 1) := by decide +kernel
theorem dX12_readBank_19 : decode cX12_readBank 19 = .ok (.aload_n 0, 1) := by decide +kernel
theorem dX12_readBank_20 : decode cX12_readBank 20 = .ok (.getfield 7, 3) := by decide +kernel
theorem dX12_readBank_23 : decode cX12_readBank 23 = .ok (.iconst 1, 1) := by decide +kernel
theorem dX12_readBank_24 : decode cX12_readBank 24 = .ok (.iaload, 1) := by decide +kernel
theorem dX12_readBank_25 : decode cX12_readBank 25 = .ok (.aload_n 0, 1) := by decide +kernel
theorem dX12_readBank_26 : decode cX12_readBank 26 = .ok (.getfield 139, 3) := by decide +kernel
theorem dX12_readBank_29 : decode cX12_readBank 29 = .ok (.invokestatic 244, 3) := by decide +kernel
theorem dX12_readBank_32 : decode cX12_readBank 32 = .ok (.putfield 241, 3) := by decide +kernel
theorem dX12_readBank_35 : decode cX12_readBank 35 = .ok (.aload_n 0, 1) := by decide +kernel
theorem dX12_readBank_36 : decode cX12_readBank 36 = .ok (.getfield 241, 3) := by decide +kernel
theorem dX12_readBank_39 : decode cX12_readBank 39 = .ok (.iconst (-1), 1) := by decide +kernel
theorem dX12_readBank_40 : decode cX12_readBank 40 = .ok (.if_icmp .ne 9, 3) := by decide +kernel
theorem dX12_readBank_43 : decode cX12_readBank 43 = .ok (.aload_n 0, 1) := by decide +kernel
theorem dX12_readBank_44 : decode cX12_readBank 44 = .ok (.iconst 3, 1) := by decide +kernel
theorem dX12_readBank_45 : decode cX12_readBank 45 = .ok (.invokevirtual 234, 3) := by decide +kernel
theorem dX12_readBank_48 : decode cX12_readBank 48 = .ok (.ireturn, 1) := by decide +kernel
theorem dX12_readBank_49 : decode cX12_readBank 49 = .ok (.aload_n 0, 1) := by decide +kernel
theorem dX12_readBank_50 : decode cX12_readBank 50 = .ok (.invokevirtual 238, 3) := by decide +kernel
theorem dX12_readBank_53 : decode cX12_readBank 53 = .ok (.iconst 1, 1) := by decide +kernel
theorem dX12_readBank_54 : decode cX12_readBank 54 = .ok (.ireturn, 1) := by decide +kernel
def X12_readBank   (u : gM) : Option (Int32 × gM) :=
((X12_isName u).bind fun w1 => (if w1 = 0 then ((X12_fails 1 u).bind fun w9 => ((bI w9.1).bind fun v12 => some (v12, w9.2)))
  else ((aI skM u 1 1).bind fun v24 => ((X12_placeIn u 3 0 v24 (u.2 0 28)).bind fun w29 => (if ((upI u 0 31 w29).1 0 31) = (-1) then ((X12_fails 3 (upI u 0 31 w29)).bind fun w45 => ((bI w45.1).bind fun v48 => some (v48, w45.2)))
    else ((X12_next (upI u 0 31 w29)).bind fun w50 => some (1, w50)))))))
set_option maxRecDepth 20000 in
theorem v_X12_readBank {κ : gK} {B : Nat} {u : gM} (X : gX κ B skM cX12_readBank 1 RX12 (some .boolean) 9 204)    {w : (Int32 × gM)} (hM : X12_readBank u = some w) : gV κ B skM 1 ((some (.int w.1)), w.2) 0 [some (.ref (B + 0))] [] u := by
  unfold X12_readBank at hM
  refine g_aload_n X dX12_readBank_0 rfl ?_
  obtain ⟨w1, e1, hM⟩ := bind_of hM
  refine g_callVi X (fun B adK => []) (s_X12_isName e1) cvX12_248 cM_0 rfl rfl (Nat.le_of_ble_eq_true rfl) ⟨by decide, by decide⟩ dX12_readBank_1 ?_
  refine g_if_ne (tgt := 13) X dX12_readBank_4 (by decide) (fun c4 => ?_) (fun c4 => ?_)
  · rw [if_neg c4] at hM
    refine g_aload_n X dX12_readBank_13 rfl ?_
    refine g_aload_n X dX12_readBank_14 rfl ?_
    refine g_getR X fX12_17 cM_0 rfl dX12_readBank_15 ?_
    refine g_iconst X (v := 0) dX12_readBank_18 (by decide) ?_
    refine g_aload_n X dX12_readBank_19 rfl ?_
    refine g_getR X fX12_7 cM_0 rfl dX12_readBank_20 ?_
    refine g_iconst X (v := 1) dX12_readBank_23 (by decide) ?_
    obtain ⟨v24, e24, hM⟩ := bind_of hM
    refine g_iaload X e24 dX12_readBank_24 ?_
    refine g_aload_n X dX12_readBank_25 rfl ?_
    refine g_getJ X fX12_139 cM_0 rfl dX12_readBank_26 ?_
    obtain ⟨w29, e29, hM⟩ := bind_of hM
    refine g_callSi X (fun B adK => [.ref (B + 3), .int 0, .int v24, .long (u.2 0 28)]) (s_X12_placeIn e29) cvX12_244 rfl rfl (Nat.le_of_ble_eq_true rfl) ⟨by decide, by decide⟩ dX12_readBank_29 ?_
    refine g_putI X fX12_241 gc_X12 gp_X12_31 cM_0 rfl dX12_readBank_32 ?_
    refine g_aload_n X dX12_readBank_35 rfl ?_
    refine g_getI X fX12_241 cM_0 rfl dX12_readBank_36 ?_
    refine g_iconst X (v := (-1)) dX12_readBank_39 (by decide) ?_
    refine g_icmp_ne (tgt := 49) X dX12_readBank_40 (by decide) (fun c40 => ?_) (fun c40 => ?_)
    · rw [if_neg c40] at hM
      refine g_aload_n X dX12_readBank_49 rfl ?_
      obtain ⟨w50, e50, hM⟩ := bind_of hM
      refine g_callVv X (fun B adK => []) (s_X12_next e50) cvX12_238 cM_0 rfl rfl (Nat.le_of_ble_eq_true rfl) ⟨by decide, by decide⟩ dX12_readBank_50 ?_
      refine g_iconst X (v := 1) dX12_readBank_53 (by decide) ?_
      cases hM
      exact g_zret X (Or.inr rfl) dX12_readBank_54
    · rw [if_pos c40] at hM
      refine g_aload_n X dX12_readBank_43 rfl ?_
      refine g_iconst X (v := 3) dX12_readBank_44 (by decide) ?_
      obtain ⟨w45, e45, hM⟩ := bind_of hM
      refine g_callVi X (fun B adK => [.int 3]) (s_X12_fails e45) cvX12_234 cM_0 rfl rfl (Nat.le_of_ble_eq_true rfl) ⟨by decide, by decide⟩ dX12_readBank_45 ?_
      obtain ⟨v48, e48, hM⟩ := bind_of hM
      obtain ⟨hv, rfl⟩ := bI_of e48
      cases hM
      exact g_zret X hv dX12_readBank_48
  · rw [if_pos c4] at hM
    refine g_aload_n X dX12_readBank_7 rfl ?_
    refine g_iconst X (v := 1) dX12_readBank_8 (by decide) ?_
    obtain ⟨w9, e9, hM⟩ := bind_of hM
    refine g_callVi X (fun B adK => [.int 1]) (s_X12_fails e9) cvX12_234 cM_0 rfl rfl (Nat.le_of_ble_eq_true rfl) ⟨by decide, by decide⟩ dX12_readBank_9 ?_
    obtain ⟨v12, e12, hM⟩ := bind_of hM
    obtain ⟨hv, rfl⟩ := bI_of e12
    cases hM
    exact g_zret X hv dX12_readBank_12
theorem s_X12_readBank  {u : gM} {w : (Int32 × gM)} (hM : X12_readBank u = some w) : gMet skM yX12_readBank cX12_readBank 1 (some .boolean) 9 204 (fun B adK => [.ref (B + 0)]) u ((fun _ => some (.int w.1)), w.2) := by
  refine gMet.of (by decide) (fun _ _ => Nat.le_of_ble_eq_true rfl) (fun κ B X => ?_)
  have X : gX κ B skM cX12_readBank 1 RX12 (some .boolean) 9 204 := X
  refine g_mk [true] [some (.ref (B + 0))] rfl ?_
  exact v_X12_readBank X  hM
theorem fr_X12_readBank {S : Nat → Prop} {u0 u : gM}  (hs0 : S 0)   {w : (Int32 × gM)} (hM : X12_readBank u = some w) (h0 : off S u0 u) : off S u0 w.2 := by
  unfold X12_readBank at hM
  obtain ⟨w1, e1, hM⟩ := bind_of hM
  by_cases c4 : w1 = 0
  · rw [if_pos c4] at hM
    obtain ⟨w9, e9, hM⟩ := bind_of hM
    have h0 := fr_X12_fails hs0 e9 h0
    obtain ⟨v12, e12, hM⟩ := bind_of hM
    cases hM
    exact h0
  · rw [if_neg c4] at hM
    obtain ⟨v24, e24, hM⟩ := bind_of hM
    obtain ⟨w29, e29, hM⟩ := bind_of hM
    have h0 := off_upI (u := u) (k := 0) (j := 31) (x := w29) hs0 h0
    by_cases c40 : ((upI u 0 31 w29).1 0 31) = (-1)
    · rw [if_pos c40] at hM
      obtain ⟨w45, e45, hM⟩ := bind_of hM
      have h0 := fr_X12_fails hs0 e45 h0
      obtain ⟨v48, e48, hM⟩ := bind_of hM
      cases hM
      exact h0
    · rw [if_neg c40] at hM
      obtain ⟨w50, e50, hM⟩ := bind_of hM
      have h0 := fr_X12_next hs0 e50 h0
      cases hM
      exact h0
/-! CoverDeskModel.lays(IZ)Z -/
theorem dX12_lays_0 : decode cX12_lays 0 = .ok (.iload_n 2, 1) := by decide +kernel
theorem dX12_lays_1 : decode cX12_lays 1 = .ok (.ifCond .eq 20, 3) := by decide +kernel
theorem dX12_lays_4 : decode cX12_lays 4 = .ok (.aload_n 0, 1) := by decide +kernel
theorem dX12_lays_5 : decode cX12_lays 5 = .ok (.getfield 99, 3) := by decide +kernel
theorem dX12_lays_8 : decode cX12_lays 8 = .ok (.iconst 3, 1) := by decide +kernel
theorem dX12_lays_9 : decode cX12_lays 9 = .ok (.aload_n 0, 1) := by decide +kernel
theorem dX12_lays_10 : decode cX12_lays 10 = .ok (.getfield 416, 3) := by decide +kernel
theorem dX12_lays_13 : decode cX12_lays 13 = .ok (.imul, 1) := by decide +kernel
theorem dX12_lays_14 : decode cX12_lays 14 = .ok (.iload_n 1, 1) := by decide +kernel
theorem dX12_lays_15 : decode cX12_lays 15 = .ok (.iadd, 1) := by decide +kernel
theorem dX12_lays_16 : decode cX12_lays 16 = .ok (.aload_n 0, 1) := by decide +kernel
theorem dX12_lays_17 : decode cX12_lays 17 = .ok (.getfield 241, 3) := by decide +kernel
theorem dX12_lays_20 : decode cX12_lays 20 = .ok (.iastore, 1) := by decide +kernel
theorem dX12_lays_21 : decode cX12_lays 21 = .ok (.iload_n 2, 1) := by decide +kernel
theorem dX12_lays_22 : decode cX12_lays 22 = .ok (.ireturn, 1) := by decide +kernel
def X12_lays_b21  (x2 : Int32) (u : gM) : Option (Int32 × gM) :=
((bI x2).bind fun v22 => some (v22, u))
def X12_lays  (x1 : Int32) (x2 : Int32) (u : gM) : Option (Int32 × gM) :=
(if x2 = 0 then (X12_lays_b21 x2 u)
  else ((sI skM u 27 ((3 * (u.1 0 43)) + x1) (u.1 0 31)).bind fun u20 => (X12_lays_b21 x2 u20)))
set_option maxRecDepth 20000 in
theorem v_X12_lays_b21 {κ : gK} {B : Nat} {u : gM} (X : gX κ B skM cX12_lays 3 RX12 (some .boolean) 0 0)   {x2 : Int32} {w : (Int32 × gM)} (hM : X12_lays_b21 x2 u = some w) : gV κ B skM 3 ((some (.int w.1)), w.2) 21 [none, none, some (.int x2)] [] u := by
  unfold X12_lays_b21 at hM
  refine g_iload_n X dX12_lays_21 rfl ?_
  obtain ⟨v22, e22, hM⟩ := bind_of hM
  obtain ⟨hv, rfl⟩ := bI_of e22
  cases hM
  exact g_zret X hv dX12_lays_22
set_option maxRecDepth 20000 in
theorem v_X12_lays {κ : gK} {B : Nat} {u : gM} (X : gX κ B skM cX12_lays 3 RX12 (some .boolean) 0 0)   {x1 : Int32} {x2 : Int32} {w : (Int32 × gM)} (hM : X12_lays x1 x2 u = some w) : gV κ B skM 3 ((some (.int w.1)), w.2) 0 [some (.ref (B + 0)), some (.int x1), some (.int x2)] [] u := by
  unfold X12_lays at hM
  refine g_iload_n X dX12_lays_0 rfl ?_
  refine g_if_eq (tgt := 21) X dX12_lays_1 (by decide) (fun c1 => ?_) (fun c1 => ?_)
  · rw [if_pos c1] at hM
    refine g_mk [false, false, true] [none, none, some (.int x2)] rfl ?_
    exact v_X12_lays_b21 X  hM
  · rw [if_neg c1] at hM
    refine g_aload_n X dX12_lays_4 rfl ?_
    refine g_getR X fX12_99 cM_0 rfl dX12_lays_5 ?_
    refine g_iconst X (v := 3) dX12_lays_8 (by decide) ?_
    refine g_aload_n X dX12_lays_9 rfl ?_
    refine g_getI X fX12_416 cM_0 rfl dX12_lays_10 ?_
    refine g_imul X dX12_lays_13 ?_
    refine g_iload_n X dX12_lays_14 rfl ?_
    refine g_iadd X dX12_lays_15 ?_
    refine g_aload_n X dX12_lays_16 rfl ?_
    refine g_getI X fX12_241 cM_0 rfl dX12_lays_17 ?_
    obtain ⟨u20, e20, hM⟩ := bind_of hM
    refine g_iastore X e20 dX12_lays_20 ?_
    refine g_mk [false, false, true] [none, none, some (.int x2)] rfl ?_
    exact v_X12_lays_b21 X  hM
theorem s_X12_lays {x1 : Int32} {x2 : Int32} {u : gM} {w : (Int32 × gM)} (hM : X12_lays x1 x2 u = some w) : gMet skM yX12_lays cX12_lays 3 (some .boolean) 0 0 (fun B adK => [.ref (B + 0), .int x1, .int x2]) u ((fun _ => some (.int w.1)), w.2) := by
  refine gMet.of (by decide) (fun _ _ => Nat.le_of_ble_eq_true rfl) (fun κ B X => ?_)
  have X : gX κ B skM cX12_lays 3 RX12 (some .boolean) 0 0 := X
  refine g_mk [true, true, true] [some (.ref (B + 0)), some (.int x1), some (.int x2)] rfl ?_
  exact v_X12_lays X  hM
theorem fr_X12_lays_b21 {S : Nat → Prop} {u0 u : gM} {x2 : Int32}    {w : (Int32 × gM)} (hM : X12_lays_b21 x2 u = some w) (h0 : off S u0 u) : off S u0 w.2 := by
  unfold X12_lays_b21 at hM
  obtain ⟨v22, e22, hM⟩ := bind_of hM
  cases hM
  exact h0
theorem fr_X12_lays {S : Nat → Prop} {u0 u : gM} {x1 : Int32} {x2 : Int32} (hs0 : S 27)   {w : (Int32 × gM)} (hM : X12_lays x1 x2 u = some w) (h0 : off S u0 u) : off S u0 w.2 := by
  unfold X12_lays at hM
  by_cases c1 : x2 = 0
  · rw [if_pos c1] at hM
    exact fr_X12_lays_b21   hM h0
  · rw [if_neg c1] at hM
    obtain ⟨u20, e20, hM⟩ := bind_of hM
    have h0 := off_sI hs0 e20 h0
    exact fr_X12_lays_b21   hM h0
/-! CoverDeskModel.readHere()Z -/
theorem dX12_readHere_0 : decode cX12_readHere 0 = .ok (.aload_n 0, 1) := by decide +kernel
theorem dX12_readHere_1 : decode cX12_readHere 1 = .ok (.invokevirtual 248, 3) := by decide +kernel
theorem dX12_readHere_4 : decode cX12_readHere 4 = .ok (.ifCond .ne 9, 3) := by decide +kernel
theorem dX12_readHere_7 : decode cX12_readHere 7 = .ok (.aload_n 0, 1) := by decide +kernel
theorem dX12_readHere_8 : decode cX12_readHere 8 = .ok (.iconst 1, 1) := by decide +kernel
theorem dX12_readHere_9 : decode cX12_readHere 9 = .ok (.invokevirtual 234, 3) := by decide +kernel
theorem dX12_readHere_12 : decode cX12_readHere 12 = .ok (.ireturn, 1) := by decide +kernel
theorem dX12_readHere_13 : decode cX12_readHere 13 = .ok (.aload_n 0, 1) := by decide +kernel
theorem dX12_readHere_14 : decode cX12_readHere 14 = .ok (.aload_n 0, 1) := by decide +kernel
theorem dX12_readHere_15 : decode cX12_readHere 15 = .ok (.getfield 20, 3) := by decide +kernel
theorem dX12_readHere_18 : decode cX12_readHere 18 = .ok (.iconst 0, 1) := by decide +kernel
theorem dX12_readHere_19 : decode cX12_readHere 19 = .ok (.aload_n 0, 1) := by decide +kernel
theorem dX12_readHere_20 : decode cX12_readHere 20 = .ok (.getfield 7, 3) := by decide +kernel
theorem dX12_readHere_23 : decode cX12_readHere 23 = .ok (.iconst 2, 1) := by decide +kernel
theorem dX12_readHere_24 : decode cX12_readHere 24 = .ok (.iaload, 1) := by decide +kernel
theorem dX12_readHere_25 : decode cX12_readHere 25 = .ok (.aload_n 0, 1) := by decide +kernel
theorem dX12_readHere_26 : decode cX12_readHere 26 = .ok (.getfield 139, 3) := by decide +kernel
theorem dX12_readHere_29 : decode cX12_readHere 29 = .ok (.invokestatic 244, 3) := by decide +kernel
theorem dX12_readHere_32 : decode cX12_readHere 32 = .ok (.putfield 241, 3) := by decide +kernel
theorem dX12_readHere_35 : decode cX12_readHere 35 = .ok (.aload_n 0, 1) := by decide +kernel
theorem dX12_readHere_36 : decode cX12_readHere 36 = .ok (.getfield 241, 3) := by decide +kernel
theorem dX12_readHere_39 : decode cX12_readHere 39 = .ok (.iconst (-1), 1) := by decide +kernel
theorem dX12_readHere_40 : decode cX12_readHere 40 = .ok (.if_icmp .ne 9, 3) := by decide +kernel
theorem dX12_readHere_43 : decode cX12_readHere 43 = .ok (.aload_n 0, 1) := by decide +kernel
theorem dX12_readHere_44 : decode cX12_readHere 44 = .ok (.iconst 3, 1) := by decide +kernel
theorem dX12_readHere_45 : decode cX12_readHere 45 = .ok (.invokevirtual 234, 3) := by decide +kernel
theorem dX12_readHere_48 : decode cX12_readHere 48 = .ok (.ireturn, 1) := by decide +kernel
theorem dX12_readHere_49 : decode cX12_readHere 49 = .ok (.aload_n 0, 1) := by decide +kernel
theorem dX12_readHere_50 : decode cX12_readHere 50 = .ok (.invokevirtual 238, 3) := by decide +kernel
theorem dX12_readHere_53 : decode cX12_readHere 53 = .ok (.iconst 1, 1) := by decide +kernel
theorem dX12_readHere_54 : decode cX12_readHere 54 = .ok (.ireturn, 1) := by decide +kernel
def X12_readHere   (u : gM) : Option (Int32 × gM) :=
((X12_isName u).bind fun w1 => (if w1 = 0 then ((X12_fails 1 u).bind fun w9 => ((bI w9.1).bind fun v12 => some (v12, w9.2)))
  else ((aI skM u 1 2).bind fun v24 => ((X12_placeIn u 4 0 v24 (u.2 0 28)).bind fun w29 => (if ((upI u 0 31 w29).1 0 31) = (-1) then ((X12_fails 3 (upI u 0 31 w29)).bind fun w45 => ((bI w45.1).bind fun v48 => some (v48, w45.2)))
    else ((X12_next (upI u 0 31 w29)).bind fun w50 => some (1, w50)))))))
set_option maxRecDepth 20000 in
theorem v_X12_readHere {κ : gK} {B : Nat} {u : gM} (X : gX κ B skM cX12_readHere 1 RX12 (some .boolean) 9 204)    {w : (Int32 × gM)} (hM : X12_readHere u = some w) : gV κ B skM 1 ((some (.int w.1)), w.2) 0 [some (.ref (B + 0))] [] u := by
  unfold X12_readHere at hM
  refine g_aload_n X dX12_readHere_0 rfl ?_
  obtain ⟨w1, e1, hM⟩ := bind_of hM
  refine g_callVi X (fun B adK => []) (s_X12_isName e1) cvX12_248 cM_0 rfl rfl (Nat.le_of_ble_eq_true rfl) ⟨by decide, by decide⟩ dX12_readHere_1 ?_
  refine g_if_ne (tgt := 13) X dX12_readHere_4 (by decide) (fun c4 => ?_) (fun c4 => ?_)
  · rw [if_neg c4] at hM
    refine g_aload_n X dX12_readHere_13 rfl ?_
    refine g_aload_n X dX12_readHere_14 rfl ?_
    refine g_getR X fX12_20 cM_0 rfl dX12_readHere_15 ?_
    refine g_iconst X (v := 0) dX12_readHere_18 (by decide) ?_
    refine g_aload_n X dX12_readHere_19 rfl ?_
    refine g_getR X fX12_7 cM_0 rfl dX12_readHere_20 ?_
    refine g_iconst X (v := 2) dX12_readHere_23 (by decide) ?_
    obtain ⟨v24, e24, hM⟩ := bind_of hM
    refine g_iaload X e24 dX12_readHere_24 ?_
    refine g_aload_n X dX12_readHere_25 rfl ?_
    refine g_getJ X fX12_139 cM_0 rfl dX12_readHere_26 ?_
    obtain ⟨w29, e29, hM⟩ := bind_of hM
    refine g_callSi X (fun B adK => [.ref (B + 4), .int 0, .int v24, .long (u.2 0 28)]) (s_X12_placeIn e29) cvX12_244 rfl rfl (Nat.le_of_ble_eq_true rfl) ⟨by decide, by decide⟩ dX12_readHere_29 ?_
    refine g_putI X fX12_241 gc_X12 gp_X12_31 cM_0 rfl dX12_readHere_32 ?_
    refine g_aload_n X dX12_readHere_35 rfl ?_
    refine g_getI X fX12_241 cM_0 rfl dX12_readHere_36 ?_
    refine g_iconst X (v := (-1)) dX12_readHere_39 (by decide) ?_
    refine g_icmp_ne (tgt := 49) X dX12_readHere_40 (by decide) (fun c40 => ?_) (fun c40 => ?_)
    · rw [if_neg c40] at hM
      refine g_aload_n X dX12_readHere_49 rfl ?_
      obtain ⟨w50, e50, hM⟩ := bind_of hM
      refine g_callVv X (fun B adK => []) (s_X12_next e50) cvX12_238 cM_0 rfl rfl (Nat.le_of_ble_eq_true rfl) ⟨by decide, by decide⟩ dX12_readHere_50 ?_
      refine g_iconst X (v := 1) dX12_readHere_53 (by decide) ?_
      cases hM
      exact g_zret X (Or.inr rfl) dX12_readHere_54
    · rw [if_pos c40] at hM
      refine g_aload_n X dX12_readHere_43 rfl ?_
      refine g_iconst X (v := 3) dX12_readHere_44 (by decide) ?_
      obtain ⟨w45, e45, hM⟩ := bind_of hM
      refine g_callVi X (fun B adK => [.int 3]) (s_X12_fails e45) cvX12_234 cM_0 rfl rfl (Nat.le_of_ble_eq_true rfl) ⟨by decide, by decide⟩ dX12_readHere_45 ?_
      obtain ⟨v48, e48, hM⟩ := bind_of hM
      obtain ⟨hv, rfl⟩ := bI_of e48
      cases hM
      exact g_zret X hv dX12_readHere_48
  · rw [if_pos c4] at hM
    refine g_aload_n X dX12_readHere_7 rfl ?_
    refine g_iconst X (v := 1) dX12_readHere_8 (by decide) ?_
    obtain ⟨w9, e9, hM⟩ := bind_of hM
    refine g_callVi X (fun B adK => [.int 1]) (s_X12_fails e9) cvX12_234 cM_0 rfl rfl (Nat.le_of_ble_eq_true rfl) ⟨by decide, by decide⟩ dX12_readHere_9 ?_
    obtain ⟨v12, e12, hM⟩ := bind_of hM
    obtain ⟨hv, rfl⟩ := bI_of e12
    cases hM
    exact g_zret X hv dX12_readHere_12
theorem s_X12_readHere  {u : gM} {w : (Int32 × gM)} (hM : X12_readHere u = some w) : gMet skM yX12_readHere cX12_readHere 1 (some .boolean) 9 204 (fun B adK => [.ref (B + 0)]) u ((fun _ => some (.int w.1)), w.2) := by
  refine gMet.of (by decide) (fun _ _ => Nat.le_of_ble_eq_true rfl) (fun κ B X => ?_)
  have X : gX κ B skM cX12_readHere 1 RX12 (some .boolean) 9 204 := X
  refine g_mk [true] [some (.ref (B + 0))] rfl ?_
  exact v_X12_readHere X  hM
theorem fr_X12_readHere {S : Nat → Prop} {u0 u : gM}  (hs0 : S 0)   {w : (Int32 × gM)} (hM : X12_readHere u = some w) (h0 : off S u0 u) : off S u0 w.2 := by
  unfold X12_readHere at hM
  obtain ⟨w1, e1, hM⟩ := bind_of hM
  by_cases c4 : w1 = 0
  · rw [if_pos c4] at hM
    obtain ⟨w9, e9, hM⟩ := bind_of hM
    have h0 := fr_X12_fails hs0 e9 h0
    obtain ⟨v12, e12, hM⟩ := bind_of hM
    cases hM
    exact h0
  · rw [if_neg c4] at hM
    obtain ⟨v24, e24, hM⟩ := bind_of hM
    obtain ⟨w29, e29, hM⟩ := bind_of hM
    have h0 := off_upI (u := u) (k := 0) (j := 31) (x := w29) hs0 h0
    by_cases c40 : ((upI u 0 31 w29).1 0 31) = (-1)
    · rw [if_pos c40] at hM
      obtain ⟨w45, e45, hM⟩ := bind_of hM
      have h0 := fr_X12_fails hs0 e45 h0
      obtain ⟨v48, e48, hM⟩ := bind_of hM
      cases hM
      exact h0
    · rw [if_neg c40] at hM
      obtain ⟨w50, e50, hM⟩ := bind_of hM
      have h0 := fr_X12_next hs0 e50 h0
      cases hM
      exact h0
/-! CoverDeskModel.readDeed()Z -/
theorem dX12_readDeed_0 : decode cX12_readDeed 0 = .ok (.aload_n 0, 1) := by decide +kernel
theorem dX12_readDeed_1 : decode cX12_readDeed 1 = .ok (.ldc 216, 2) := by decide +kernel
theorem dX12_readDeed_3 : decode cX12_readDeed 3 = .ok (.invokevirtual 184, 3) := by decide +kernel
theorem dX12_readDeed_6 : decode cX12_readDeed 6 = .ok (.ifCond .eq 7, 3) := by decide +kernel
theorem dX12_readDeed_9 : decode cX12_readDeed 9 = .ok (.iconst 0, 1) := by decide +kernel
theorem dX12_readDeed_10 : decode cX12_readDeed 10 = .ok (.goto 69, 3) := by decide +kernel
theorem dX12_readDeed_13 : decode cX12_readDeed 13 = .ok (.aload_n 0, 1) := by decide +kernel
theorem dX12_readDeed_14 : decode cX12_readDeed 14 = .ok (.ldc 218, 2) := by decide +kernel
theorem dX12_readDeed_16 : decode cX12_readDeed 16 = .ok (.invokevirtual 184, 3) := by decide +kernel
theorem dX12_readDeed_19 : decode cX12_readDeed 19 = .ok (.ifCond .eq 7, 3) := by decide +kernel
theorem dX12_readDeed_22 : decode cX12_readDeed 22 = .ok (.iconst 1, 1) := by decide +kernel
theorem dX12_readDeed_23 : decode cX12_readDeed 23 = .ok (.goto 56, 3) := by decide +kernel
theorem dX12_readDeed_26 : decode cX12_readDeed 26 = .ok (.aload_n 0, 1) := by decide +kernel
theorem dX12_readDeed_27 : decode cX12_readDeed 27 = .ok (.ldc 220, 2) := by decide +kernel
theorem dX12_readDeed_29 : decode cX12_readDeed 29 = .ok (.invokevirtual 184, 3) := by decide +kernel
theorem dX12_readDeed_32 : decode cX12_readDeed 32 = .ok (.ifCond .eq 7, 3) := by decide +kernel
theorem dX12_readDeed_35 : decode cX12_readDeed 35 = .ok (.iconst 2, 1) := by decide +kernel
theorem dX12_readDeed_36 : decode cX12_readDeed 36 = .ok (.goto 43, 3) := by decide +kernel
theorem dX12_readDeed_39 : decode cX12_readDeed 39 = .ok (.aload_n 0, 1) := by decide +kernel
theorem dX12_readDeed_40 : decode cX12_readDeed 40 = .ok (.ldc 224, 2) := by decide +kernel
theorem dX12_readDeed_42 : decode cX12_readDeed 42 = .ok (.invokevirtual 184, 3) := by decide +kernel
theorem dX12_readDeed_45 : decode cX12_readDeed 45 = .ok (.ifCond .eq 7, 3) := by decide +kernel
theorem dX12_readDeed_48 : decode cX12_readDeed 48 = .ok (.iconst 3, 1) := by decide +kernel
theorem dX12_readDeed_49 : decode cX12_readDeed 49 = .ok (.goto 30, 3) := by decide +kernel
theorem dX12_readDeed_52 : decode cX12_readDeed 52 = .ok (.aload_n 0, 1) := by decide +kernel
theorem dX12_readDeed_53 : decode cX12_readDeed 53 = .ok (.ldc 226, 2) := by decide +kernel
theorem dX12_readDeed_55 : decode cX12_readDeed 55 = .ok (.invokevirtual 184, 3) := by decide +kernel
theorem dX12_readDeed_58 : decode cX12_readDeed 58 = .ok (.ifCond .eq 7, 3) := by decide +kernel
theorem dX12_readDeed_61 : decode cX12_readDeed 61 = .ok (.iconst 4, 1) := by decide +kernel
theorem dX12_readDeed_62 : decode cX12_readDeed 62 = .ok (.goto 17, 3) := by decide +kernel
theorem dX12_readDeed_65 : decode cX12_readDeed 65 = .ok (.aload_n 0, 1) := by decide +kernel
theorem dX12_readDeed_66 : decode cX12_readDeed 66 = .ok (.ldc 228, 2) := by decide +kernel
theorem dX12_readDeed_68 : decode cX12_readDeed 68 = .ok (.invokevirtual 184, 3) := by decide +kernel
theorem dX12_readDeed_71 : decode cX12_readDeed 71 = .ok (.ifCond .eq 7, 3) := by decide +kernel
theorem dX12_readDeed_74 : decode cX12_readDeed 74 = .ok (.iconst 5, 1) := by decide +kernel
theorem dX12_readDeed_75 : decode cX12_readDeed 75 = .ok (.goto 4, 3) := by decide +kernel
theorem dX12_readDeed_78 : decode cX12_readDeed 78 = .ok (.iconst (-1), 1) := by decide +kernel
theorem dX12_readDeed_79 : decode cX12_readDeed 79 = .ok (.istore_n 1, 1) := by decide +kernel
theorem dX12_readDeed_80 : decode cX12_readDeed 80 = .ok (.iload_n 1, 1) := by decide +kernel
theorem dX12_readDeed_81 : decode cX12_readDeed 81 = .ok (.iconst (-1), 1) := by decide +kernel
theorem dX12_readDeed_82 : decode cX12_readDeed 82 = .ok (.if_icmp .ne 9, 3) := by decide +kernel
theorem dX12_readDeed_85 : decode cX12_readDeed 85 = .ok (.aload_n 0, 1) := by decide +kernel
theorem dX12_readDeed_86 : decode cX12_readDeed 86 = .ok (.iconst 1, 1) := by decide +kernel
theorem dX12_readDeed_87 : decode cX12_readDeed 87 = .ok (.invokevirtual 234, 3) := by decide +kernel
theorem dX12_readDeed_90 : decode cX12_readDeed 90 = .ok (.ireturn, 1) := by decide +kernel
theorem dX12_readDeed_91 : decode cX12_readDeed 91 = .ok (.aload_n 0, 1) := by decide +kernel
theorem dX12_readDeed_92 : decode cX12_readDeed 92 = .ok (.getfield 99, 3) := by decide +kernel
theorem dX12_readDeed_95 : decode cX12_readDeed 95 = .ok (.iconst 3, 1) := by decide +kernel
theorem dX12_readDeed_96 : decode cX12_readDeed 96 = .ok (.aload_n 0, 1) := by decide +kernel
theorem dX12_readDeed_97 : decode cX12_readDeed 97 = .ok (.getfield 416, 3) := by decide +kernel
theorem dX12_readDeed_100 : decode cX12_readDeed 100 = .ok (.imul, 1) := by decide +kernel
theorem dX12_readDeed_101 : decode cX12_readDeed 101 = .ok (.iload_n 1, 1) := by decide +kernel
theorem dX12_readDeed_102 : decode cX12_readDeed 102 = .ok (.iastore, 1) := by decide +kernel
theorem dX12_readDeed_103 : decode cX12_readDeed 103 = .ok (.aload_n 0, 1) := by decide +kernel
theorem dX12_readDeed_104 : decode cX12_readDeed 104 = .ok (.getfield 99, 3) := by decide +kernel
theorem dX12_readDeed_107 : decode cX12_readDeed 107 = .ok (.iconst 3, 1) := by decide +kernel
theorem dX12_readDeed_108 : decode cX12_readDeed 108 = .ok (.aload_n 0, 1) := by decide +kernel
theorem dX12_readDeed_109 : decode cX12_readDeed 109 = .ok (.getfield 416, 3) := by decide +kernel
theorem dX12_readDeed_112 : decode cX12_readDeed 112 = .ok (.imul, 1) := by decide +kernel
theorem dX12_readDeed_113 : decode cX12_readDeed 113 = .ok (.iconst 2, 1) := by decide +kernel
theorem dX12_readDeed_114 : decode cX12_readDeed 114 = .ok (.iadd, 1) := by decide +kernel
theorem dX12_readDeed_115 : decode cX12_readDeed 115 = .ok (.iconst 0, 1) := by decide +kernel
theorem dX12_readDeed_116 : decode cX12_readDeed 116 = .ok (.iastore, 1) := by decide +kernel
theorem dX12_readDeed_117 : decode cX12_readDeed 117 = .ok (.aload_n 0, 1) := by decide +kernel
theorem dX12_readDeed_118 : decode cX12_readDeed 118 = .ok (.invokevirtual 238, 3) := by decide +kernel
theorem dX12_readDeed_121 : decode cX12_readDeed 121 = .ok (.iload_n 1, 1) := by decide +kernel
theorem dX12_readDeed_122 : decode cX12_readDeed 122 = .ok (.tableswitch 167 2 5 #[30, 72, 89, 130], 30) := by decide +kernel
theorem dX12_readDeed_152 : decode cX12_readDeed 152 = .ok (.aload_n 0, 1) := by decide +kernel
theorem dX12_readDeed_153 : decode cX12_readDeed 153 = .ok (.iconst 1, 1) := by decide +kernel
theorem dX12_readDeed_154 : decode cX12_readDeed 154 = .ok (.aload_n 0, 1) := by decide +kernel
theorem dX12_readDeed_155 : decode cX12_readDeed 155 = .ok (.invokevirtual 419, 3) := by decide +kernel
theorem dX12_readDeed_158 : decode cX12_readDeed 158 = .ok (.invokevirtual 422, 3) := by decide +kernel
theorem dX12_readDeed_161 : decode cX12_readDeed 161 = .ok (.ifCond .eq 28, 3) := by decide +kernel
theorem dX12_readDeed_164 : decode cX12_readDeed 164 = .ok (.aload_n 0, 1) := by decide +kernel
theorem dX12_readDeed_165 : decode cX12_readDeed 165 = .ok (.ldc 222, 2) := by decide +kernel
theorem dX12_readDeed_167 : decode cX12_readDeed 167 = .ok (.invokevirtual 278, 3) := by decide +kernel
theorem dX12_readDeed_170 : decode cX12_readDeed 170 = .ok (.ifCond .eq 19, 3) := by decide +kernel
theorem dX12_readDeed_173 : decode cX12_readDeed 173 = .ok (.aload_n 0, 1) := by decide +kernel
theorem dX12_readDeed_174 : decode cX12_readDeed 174 = .ok (.iconst 2, 1) := by decide +kernel
theorem dX12_readDeed_175 : decode cX12_readDeed 175 = .ok (.aload_n 0, 1) := by decide +kernel
theorem dX12_readDeed_176 : decode cX12_readDeed 176 = .ok (.invokevirtual 419, 3) := by decide +kernel
theorem dX12_readDeed_179 : decode cX12_readDeed 179 = .ok (.invokevirtual 422, 3) := by decide +kernel
theorem dX12_readDeed_182 : decode cX12_readDeed 182 = .ok (.ifCond .eq 7, 3) := by decide +kernel
theorem dX12_readDeed_185 : decode cX12_readDeed 185 = .ok (.iconst 1, 1) := by decide +kernel
theorem dX12_readDeed_186 : decode cX12_readDeed 186 = .ok (.goto 4, 3) := by decide +kernel
theorem dX12_readDeed_189 : decode cX12_readDeed 189 = .ok (.iconst 0, 1) := by decide +kernel
theorem dX12_readDeed_190 : decode cX12_readDeed 190 = .ok (.istore_n 2, 1) := by decide +kernel
theorem dX12_readDeed_191 : decode cX12_readDeed 191 = .ok (.goto 132, 3) := by decide +kernel
theorem dX12_readDeed_194 : decode cX12_readDeed 194 = .ok (.aload_n 0, 1) := by decide +kernel
theorem dX12_readDeed_195 : decode cX12_readDeed 195 = .ok (.iconst 1, 1) := by decide +kernel
theorem dX12_readDeed_196 : decode cX12_readDeed 196 = .ok (.aload_n 0, 1) := by decide +kernel
theorem dX12_readDeed_197 : decode cX12_readDeed 197 = .ok (.lconst 0, 1) := by decide +kernel
theorem dX12_readDeed_198 : decode cX12_readDeed 198 = .ok (.ldc2_w 258, 3) := by decide +kernel
theorem dX12_readDeed_201 : decode cX12_readDeed 201 = .ok (.invokevirtual 260, 3) := by decide +kernel
theorem dX12_readDeed_204 : decode cX12_readDeed 204 = .ok (.invokevirtual 422, 3) := by decide +kernel
theorem dX12_readDeed_207 : decode cX12_readDeed 207 = .ok (.istore_n 2, 1) := by decide +kernel
theorem dX12_readDeed_208 : decode cX12_readDeed 208 = .ok (.goto 115, 3) := by decide +kernel
theorem dX12_readDeed_211 : decode cX12_readDeed 211 = .ok (.aload_n 0, 1) := by decide +kernel
theorem dX12_readDeed_212 : decode cX12_readDeed 212 = .ok (.iconst 1, 1) := by decide +kernel
theorem dX12_readDeed_213 : decode cX12_readDeed 213 = .ok (.aload_n 0, 1) := by decide +kernel
theorem dX12_readDeed_214 : decode cX12_readDeed 214 = .ok (.lconst 0, 1) := by decide +kernel
theorem dX12_readDeed_215 : decode cX12_readDeed 215 = .ok (.ldc2_w 258, 3) := by decide +kernel
theorem dX12_readDeed_218 : decode cX12_readDeed 218 = .ok (.invokevirtual 260, 3) := by decide +kernel
theorem dX12_readDeed_221 : decode cX12_readDeed 221 = .ok (.invokevirtual 422, 3) := by decide +kernel
theorem dX12_readDeed_224 : decode cX12_readDeed 224 = .ok (.ifCond .eq 23, 3) := by decide +kernel
theorem dX12_readDeed_227 : decode cX12_readDeed 227 = .ok (.aload_n 0, 1) := by decide +kernel
theorem dX12_readDeed_228 : decode cX12_readDeed 228 = .ok (.iconst 2, 1) := by decide +kernel
theorem dX12_readDeed_229 : decode cX12_readDeed 229 = .ok (.aload_n 0, 1) := by decide +kernel
theorem dX12_readDeed_230 : decode cX12_readDeed 230 = .ok (.lconst 0, 1) := by decide +kernel
theorem dX12_readDeed_231 : decode cX12_readDeed 231 = .ok (.ldc2_w 258, 3) := by decide +kernel
theorem dX12_readDeed_234 : decode cX12_readDeed 234 = .ok (.invokevirtual 260, 3) := by decide +kernel
theorem dX12_readDeed_237 : decode cX12_readDeed 237 = .ok (.invokevirtual 422, 3) := by decide +kernel
theorem dX12_readDeed_240 : decode cX12_readDeed 240 = .ok (.ifCond .eq 7, 3) := by decide +kernel
theorem dX12_readDeed_243 : decode cX12_readDeed 243 = .ok (.iconst 1, 1) := by decide +kernel
theorem dX12_readDeed_244 : decode cX12_readDeed 244 = .ok (.goto 4, 3) := by decide +kernel
theorem dX12_readDeed_247 : decode cX12_readDeed 247 = .ok (.iconst 0, 1) := by decide +kernel
theorem dX12_readDeed_248 : decode cX12_readDeed 248 = .ok (.istore_n 2, 1) := by decide +kernel
theorem dX12_readDeed_249 : decode cX12_readDeed 249 = .ok (.goto 74, 3) := by decide +kernel
theorem dX12_readDeed_252 : decode cX12_readDeed 252 = .ok (.aload_n 0, 1) := by decide +kernel
theorem dX12_readDeed_253 : decode cX12_readDeed 253 = .ok (.iconst 1, 1) := by decide +kernel
theorem dX12_readDeed_254 : decode cX12_readDeed 254 = .ok (.aload_n 0, 1) := by decide +kernel
theorem dX12_readDeed_255 : decode cX12_readDeed 255 = .ok (.invokevirtual 419, 3) := by decide +kernel
theorem dX12_readDeed_258 : decode cX12_readDeed 258 = .ok (.invokevirtual 422, 3) := by decide +kernel
theorem dX12_readDeed_261 : decode cX12_readDeed 261 = .ok (.ifCond .eq 23, 3) := by decide +kernel
theorem dX12_readDeed_264 : decode cX12_readDeed 264 = .ok (.aload_n 0, 1) := by decide +kernel
theorem dX12_readDeed_265 : decode cX12_readDeed 265 = .ok (.iconst 2, 1) := by decide +kernel
theorem dX12_readDeed_266 : decode cX12_readDeed 266 = .ok (.aload_n 0, 1) := by decide +kernel
theorem dX12_readDeed_267 : decode cX12_readDeed 267 = .ok (.lconst 0, 1) := by decide +kernel
theorem dX12_readDeed_268 : decode cX12_readDeed 268 = .ok (.ldc2_w 258, 3) := by decide +kernel
theorem dX12_readDeed_271 : decode cX12_readDeed 271 = .ok (.invokevirtual 260, 3) := by decide +kernel
theorem dX12_readDeed_274 : decode cX12_readDeed 274 = .ok (.invokevirtual 422, 3) := by decide +kernel
theorem dX12_readDeed_277 : decode cX12_readDeed 277 = .ok (.ifCond .eq 7, 3) := by decide +kernel
theorem dX12_readDeed_280 : decode cX12_readDeed 280 = .ok (.iconst 1, 1) := by decide +kernel
theorem dX12_readDeed_281 : decode cX12_readDeed 281 = .ok (.goto 4, 3) := by decide +kernel
theorem dX12_readDeed_284 : decode cX12_readDeed 284 = .ok (.iconst 0, 1) := by decide +kernel
theorem dX12_readDeed_285 : decode cX12_readDeed 285 = .ok (.istore_n 2, 1) := by decide +kernel
theorem dX12_readDeed_286 : decode cX12_readDeed 286 = .ok (.goto 37, 3) := by decide +kernel
theorem dX12_readDeed_289 : decode cX12_readDeed 289 = .ok (.aload_n 0, 1) := by decide +kernel
theorem dX12_readDeed_290 : decode cX12_readDeed 290 = .ok (.iconst 2, 1) := by decide +kernel
theorem dX12_readDeed_291 : decode cX12_readDeed 291 = .ok (.aload_n 0, 1) := by decide +kernel
theorem dX12_readDeed_292 : decode cX12_readDeed 292 = .ok (.lconst 0, 1) := by decide +kernel
theorem dX12_readDeed_293 : decode cX12_readDeed 293 = .ok (.ldc2_w 258, 3) := by decide +kernel
theorem dX12_readDeed_296 : decode cX12_readDeed 296 = .ok (.invokevirtual 260, 3) := by decide +kernel
theorem dX12_readDeed_299 : decode cX12_readDeed 299 = .ok (.invokevirtual 422, 3) := by decide +kernel
theorem dX12_readDeed_302 : decode cX12_readDeed 302 = .ok (.ifCond .eq 19, 3) := by decide +kernel
theorem dX12_readDeed_305 : decode cX12_readDeed 305 = .ok (.aload_n 0, 1) := by decide +kernel
theorem dX12_readDeed_306 : decode cX12_readDeed 306 = .ok (.iconst 1, 1) := by decide +kernel
theorem dX12_readDeed_307 : decode cX12_readDeed 307 = .ok (.aload_n 0, 1) := by decide +kernel
theorem dX12_readDeed_308 : decode cX12_readDeed 308 = .ok (.invokevirtual 426, 3) := by decide +kernel
theorem dX12_readDeed_311 : decode cX12_readDeed 311 = .ok (.invokevirtual 422, 3) := by decide +kernel
theorem dX12_readDeed_314 : decode cX12_readDeed 314 = .ok (.ifCond .eq 7, 3) := by decide +kernel
theorem dX12_readDeed_317 : decode cX12_readDeed 317 = .ok (.iconst 1, 1) := by decide +kernel
theorem dX12_readDeed_318 : decode cX12_readDeed 318 = .ok (.goto 4, 3) := by decide +kernel
theorem dX12_readDeed_321 : decode cX12_readDeed 321 = .ok (.iconst 0, 1) := by decide +kernel
theorem dX12_readDeed_322 : decode cX12_readDeed 322 = .ok (.istore_n 2, 1) := by decide +kernel
theorem dX12_readDeed_323 : decode cX12_readDeed 323 = .ok (.iload_n 2, 1) := by decide +kernel
theorem dX12_readDeed_324 : decode cX12_readDeed 324 = .ok (.ifCond .eq 10, 3) := by decide +kernel
theorem dX12_readDeed_327 : decode cX12_readDeed 327 = .ok (.aload_n 0, 1) := by decide +kernel
theorem dX12_readDeed_328 : decode cX12_readDeed 328 = .ok (.invokevirtual 272, 3) := by decide +kernel
theorem dX12_readDeed_331 : decode cX12_readDeed 331 = .ok (.ifCond .ne 5, 3) := by decide +kernel
theorem dX12_readDeed_334 : decode cX12_readDeed 334 = .ok (.iconst 0, 1) := by decide +kernel
theorem dX12_readDeed_335 : decode cX12_readDeed 335 = .ok (.ireturn, 1) := by decide +kernel
theorem dX12_readDeed_336 : decode cX12_readDeed 336 = .ok (.aload_n 0, 1) := by decide +kernel
theorem dX12_readDeed_337 : decode cX12_readDeed 337 = .ok (.dup, 1) := by decide +kernel
theorem dX12_readDeed_338 : decode cX12_readDeed 338 = .ok (.getfield 416, 3) := by decide +kernel
theorem dX12_readDeed_341 : decode cX12_readDeed 341 = .ok (.iconst 1, 1) := by decide +kernel
theorem dX12_readDeed_342 : decode cX12_readDeed 342 = .ok (.iadd, 1) := by decide +kernel
theorem dX12_readDeed_343 : decode cX12_readDeed 343 = .ok (.putfield 416, 3) := by decide +kernel
theorem dX12_readDeed_346 : decode cX12_readDeed 346 = .ok (.iconst 1, 1) := by decide +kernel
theorem dX12_readDeed_347 : decode cX12_readDeed 347 = .ok (.ireturn, 1) := by decide +kernel
def X12_readDeed_b334   (u : gM) : Option (Int32 × gM) :=
some (0, u)
def X12_readDeed_b323  (x2 : Int32) (u : gM) : Option (Int32 × gM) :=
(if x2 = 0 then (X12_readDeed_b334 u)
  else ((X12_ends u).bind fun w328 => (if w328.1 = 0 then (X12_readDeed_b334 w328.2)
    else some (1, upI w328.2 0 43 ((w328.2.1 0 43) + 1)))))
def X12_readDeed_b190  (s0 : Int32) (u : gM) : Option (Int32 × gM) :=
(X12_readDeed_b323 s0 u)
def X12_readDeed_b189   (u : gM) : Option (Int32 × gM) :=
(X12_readDeed_b190 0 u)
def X12_readDeed_b248  (s0 : Int32) (u : gM) : Option (Int32 × gM) :=
(X12_readDeed_b323 s0 u)
def X12_readDeed_b247   (u : gM) : Option (Int32 × gM) :=
(X12_readDeed_b248 0 u)
def X12_readDeed_b285  (s0 : Int32) (u : gM) : Option (Int32 × gM) :=
(X12_readDeed_b323 s0 u)
def X12_readDeed_b284   (u : gM) : Option (Int32 × gM) :=
(X12_readDeed_b285 0 u)
def X12_readDeed_b322  (s0 : Int32) (u : gM) : Option (Int32 × gM) :=
(X12_readDeed_b323 s0 u)
def X12_readDeed_b321   (u : gM) : Option (Int32 × gM) :=
(X12_readDeed_b322 0 u)
def X12_readDeed_b79  (s0 : Int32) (u : gM) : Option (Int32 × gM) :=
(if s0 = (-1) then ((X12_fails 1 u).bind fun w87 => ((bI w87.1).bind fun v90 => some (v90, w87.2)))
  else ((sI skM u 27 (3 * (u.1 0 43)) s0).bind fun u102 => ((sI skM u102 27 ((3 * (u102.1 0 43)) + 2) 0).bind fun u116 => ((X12_next u116).bind fun w118 => (if s0 = 2 then ((X12_readBank w118).bind fun w155 => ((X12_lays 1 w155.1 w155.2).bind fun w158 => (if w158.1 = 0 then (X12_readDeed_b189 w158.2)
      else ((X12_takes 18 w158.2).bind fun w167 => (if w167.1 = 0 then (X12_readDeed_b189 w167.2)
        else ((X12_readBank w167.2).bind fun w176 => ((X12_lays 2 w176.1 w176.2).bind fun w179 => (if w179.1 = 0 then (X12_readDeed_b189 w179.2)
          else (X12_readDeed_b190 1 w179.2)))))))))
    else (if s0 = 3 then ((X12_readNumber 0 100000000 w118).bind fun w201 => ((X12_lays 1 w201.1 w201.2).bind fun w204 => (X12_readDeed_b323 w204.1 w204.2)))
    else (if s0 = 4 then ((X12_readNumber 0 100000000 w118).bind fun w218 => ((X12_lays 1 w218.1 w218.2).bind fun w221 => (if w221.1 = 0 then (X12_readDeed_b247 w221.2)
      else ((X12_readNumber 0 100000000 w221.2).bind fun w234 => ((X12_lays 2 w234.1 w234.2).bind fun w237 => (if w237.1 = 0 then (X12_readDeed_b247 w237.2)
        else (X12_readDeed_b248 1 w237.2)))))))
    else (if s0 = 5 then ((X12_readBank w118).bind fun w255 => ((X12_lays 1 w255.1 w255.2).bind fun w258 => (if w258.1 = 0 then (X12_readDeed_b284 w258.2)
      else ((X12_readNumber 0 100000000 w258.2).bind fun w271 => ((X12_lays 2 w271.1 w271.2).bind fun w274 => (if w274.1 = 0 then (X12_readDeed_b284 w274.2)
        else (X12_readDeed_b285 1 w274.2)))))))
    else ((X12_readNumber 0 100000000 w118).bind fun w296 => ((X12_lays 2 w296.1 w296.2).bind fun w299 => (if w299.1 = 0 then (X12_readDeed_b321 w299.2)
    else ((X12_readHere w299.2).bind fun w308 => ((X12_lays 1 w308.1 w308.2).bind fun w311 => (if w311.1 = 0 then (X12_readDeed_b321 w311.2)
      else (X12_readDeed_b322 1 w311.2)))))))))))))))
def X12_readDeed   (u : gM) : Option (Int32 × gM) :=
((X12_isWord u 15).bind fun w3 => (if w3 = 0 then ((X12_isWord u 16).bind fun w16 => (if w16 = 0 then ((X12_isWord u 17).bind fun w29 => (if w29 = 0 then ((X12_isWord u 19).bind fun w42 => (if w42 = 0 then ((X12_isWord u 20).bind fun w55 => (if w55 = 0 then ((X12_isWord u 21).bind fun w68 => (if w68 = 0 then (X12_readDeed_b79 (-1) u)
            else (X12_readDeed_b79 5 u)))
          else (X12_readDeed_b79 4 u)))
        else (X12_readDeed_b79 3 u)))
      else (X12_readDeed_b79 2 u)))
    else (X12_readDeed_b79 1 u)))
  else (X12_readDeed_b79 0 u)))
set_option maxRecDepth 20000 in
theorem v_X12_readDeed_b334 {κ : gK} {B : Nat} {u : gM} (X : gX κ B skM cX12_readDeed 3 RX12 (some .boolean) 10 224)    {w : (Int32 × gM)} (hM : X12_readDeed_b334 u = some w) : gV κ B skM 3 ((some (.int w.1)), w.2) 334 [none, none, none] [] u := by
  unfold X12_readDeed_b334 at hM
  refine g_iconst X (v := 0) dX12_readDeed_334 (by decide) ?_
  cases hM
  exact g_zret X (Or.inl rfl) dX12_readDeed_335
set_option maxRecDepth 20000 in
theorem v_X12_readDeed_b323 {κ : gK} {B : Nat} {u : gM} (X : gX κ B skM cX12_readDeed 3 RX12 (some .boolean) 10 224)   {x2 : Int32} {w : (Int32 × gM)} (hM : X12_readDeed_b323 x2 u = some w) : gV κ B skM 3 ((some (.int w.1)), w.2) 323 [some (.ref (B + 0)), none, some (.int x2)] [] u := by
  unfold X12_readDeed_b323 at hM
  refine g_iload_n X dX12_readDeed_323 rfl ?_
  refine g_if_eq (tgt := 334) X dX12_readDeed_324 (by decide) (fun c324 => ?_) (fun c324 => ?_)
  · rw [if_pos c324] at hM
    refine g_mk [false, false, false] [none, none, none] rfl ?_
    exact v_X12_readDeed_b334 X  hM
  · rw [if_neg c324] at hM
    refine g_aload_n X dX12_readDeed_327 rfl ?_
    obtain ⟨w328, e328, hM⟩ := bind_of hM
    refine g_callVi X (fun B adK => []) (s_X12_ends e328) cvX12_272 cM_0 rfl rfl (Nat.le_of_ble_eq_true rfl) ⟨by decide, by decide⟩ dX12_readDeed_328 ?_
    refine g_if_ne (tgt := 336) X dX12_readDeed_331 (by decide) (fun c331 => ?_) (fun c331 => ?_)
    · rw [if_neg c331] at hM
      refine g_aload_n X dX12_readDeed_336 rfl ?_
      refine g_dup X rfl dX12_readDeed_337 ?_
      refine g_getI X fX12_416 cM_0 rfl dX12_readDeed_338 ?_
      refine g_iconst X (v := 1) dX12_readDeed_341 (by decide) ?_
      refine g_iadd X dX12_readDeed_342 ?_
      refine g_putI X fX12_416 gc_X12 gp_X12_43 cM_0 rfl dX12_readDeed_343 ?_
      refine g_iconst X (v := 1) dX12_readDeed_346 (by decide) ?_
      cases hM
      exact g_zret X (Or.inr rfl) dX12_readDeed_347
    · rw [if_pos c331] at hM
      refine g_mk [false, false, false] [none, none, none] rfl ?_
      exact v_X12_readDeed_b334 X  hM
set_option maxRecDepth 20000 in
theorem v_X12_readDeed_b190 {κ : gK} {B : Nat} {u : gM} (X : gX κ B skM cX12_readDeed 3 RX12 (some .boolean) 10 224)   {s0 : Int32} {w : (Int32 × gM)} (hM : X12_readDeed_b190 s0 u = some w) : gV κ B skM 3 ((some (.int w.1)), w.2) 190 [some (.ref (B + 0)), none, none] [.int s0] u := by
  unfold X12_readDeed_b190 at hM
  refine g_istore_n X [some (.ref (B + 0)), none, some (.int s0)] dX12_readDeed_190 (by decide) rfl ?_
  refine g_goto (tgt := 323) X dX12_readDeed_191 (by decide) ?_
  refine g_mk [true, false, true] [some (.ref (B + 0)), none, some (.int s0)] rfl ?_
  exact v_X12_readDeed_b323 X  hM
set_option maxRecDepth 20000 in
theorem v_X12_readDeed_b189 {κ : gK} {B : Nat} {u : gM} (X : gX κ B skM cX12_readDeed 3 RX12 (some .boolean) 10 224)    {w : (Int32 × gM)} (hM : X12_readDeed_b189 u = some w) : gV κ B skM 3 ((some (.int w.1)), w.2) 189 [some (.ref (B + 0)), none, none] [] u := by
  unfold X12_readDeed_b189 at hM
  refine g_iconst X (v := 0) dX12_readDeed_189 (by decide) ?_
  refine g_mk [true, false, false] [some (.ref (B + 0)), none, none] rfl ?_
  exact v_X12_readDeed_b190 X  hM
set_option maxRecDepth 20000 in
theorem v_X12_readDeed_b248 {κ : gK} {B : Nat} {u : gM} (X : gX κ B skM cX12_readDeed 3 RX12 (some .boolean) 10 224)   {s0 : Int32} {w : (Int32 × gM)} (hM : X12_readDeed_b248 s0 u = some w) : gV κ B skM 3 ((some (.int w.1)), w.2) 248 [some (.ref (B + 0)), none, none] [.int s0] u := by
  unfold X12_readDeed_b248 at hM
  refine g_istore_n X [some (.ref (B + 0)), none, some (.int s0)] dX12_readDeed_248 (by decide) rfl ?_
  refine g_goto (tgt := 323) X dX12_readDeed_249 (by decide) ?_
  refine g_mk [true, false, true] [some (.ref (B + 0)), none, some (.int s0)] rfl ?_
  exact v_X12_readDeed_b323 X  hM
set_option maxRecDepth 20000 in
theorem v_X12_readDeed_b247 {κ : gK} {B : Nat} {u : gM} (X : gX κ B skM cX12_readDeed 3 RX12 (some .boolean) 10 224)    {w : (Int32 × gM)} (hM : X12_readDeed_b247 u = some w) : gV κ B skM 3 ((some (.int w.1)), w.2) 247 [some (.ref (B + 0)), none, none] [] u := by
  unfold X12_readDeed_b247 at hM
  refine g_iconst X (v := 0) dX12_readDeed_247 (by decide) ?_
  refine g_mk [true, false, false] [some (.ref (B + 0)), none, none] rfl ?_
  exact v_X12_readDeed_b248 X  hM
set_option maxRecDepth 20000 in
theorem v_X12_readDeed_b285 {κ : gK} {B : Nat} {u : gM} (X : gX κ B skM cX12_readDeed 3 RX12 (some .boolean) 10 224)   {s0 : Int32} {w : (Int32 × gM)} (hM : X12_readDeed_b285 s0 u = some w) : gV κ B skM 3 ((some (.int w.1)), w.2) 285 [some (.ref (B + 0)), none, none] [.int s0] u := by
  unfold X12_readDeed_b285 at hM
  refine g_istore_n X [some (.ref (B + 0)), none, some (.int s0)] dX12_readDeed_285 (by decide) rfl ?_
  refine g_goto (tgt := 323) X dX12_readDeed_286 (by decide) ?_
  refine g_mk [true, false, true] [some (.ref (B + 0)), none, some (.int s0)] rfl ?_
  exact v_X12_readDeed_b323 X  hM
set_option maxRecDepth 20000 in
theorem v_X12_readDeed_b284 {κ : gK} {B : Nat} {u : gM} (X : gX κ B skM cX12_readDeed 3 RX12 (some .boolean) 10 224)    {w : (Int32 × gM)} (hM : X12_readDeed_b284 u = some w) : gV κ B skM 3 ((some (.int w.1)), w.2) 284 [some (.ref (B + 0)), none, none] [] u := by
  unfold X12_readDeed_b284 at hM
  refine g_iconst X (v := 0) dX12_readDeed_284 (by decide) ?_
  refine g_mk [true, false, false] [some (.ref (B + 0)), none, none] rfl ?_
  exact v_X12_readDeed_b285 X  hM
set_option maxRecDepth 20000 in
theorem v_X12_readDeed_b322 {κ : gK} {B : Nat} {u : gM} (X : gX κ B skM cX12_readDeed 3 RX12 (some .boolean) 10 224)   {s0 : Int32} {w : (Int32 × gM)} (hM : X12_readDeed_b322 s0 u = some w) : gV κ B skM 3 ((some (.int w.1)), w.2) 322 [some (.ref (B + 0)), none, none] [.int s0] u := by
  unfold X12_readDeed_b322 at hM
  refine g_istore_n X [some (.ref (B + 0)), none, some (.int s0)] dX12_readDeed_322 (by decide) rfl ?_
  refine g_mk [true, false, true] [some (.ref (B + 0)), none, some (.int s0)] rfl ?_
  exact v_X12_readDeed_b323 X  hM
set_option maxRecDepth 20000 in
theorem v_X12_readDeed_b321 {κ : gK} {B : Nat} {u : gM} (X : gX κ B skM cX12_readDeed 3 RX12 (some .boolean) 10 224)    {w : (Int32 × gM)} (hM : X12_readDeed_b321 u = some w) : gV κ B skM 3 ((some (.int w.1)), w.2) 321 [some (.ref (B + 0)), none, none] [] u := by
  unfold X12_readDeed_b321 at hM
  refine g_iconst X (v := 0) dX12_readDeed_321 (by decide) ?_
  refine g_mk [true, false, false] [some (.ref (B + 0)), none, none] rfl ?_
  exact v_X12_readDeed_b322 X  hM
set_option maxRecDepth 20000 in
theorem v_X12_readDeed_b79 {κ : gK} {B : Nat} {u : gM} (X : gX κ B skM cX12_readDeed 3 RX12 (some .boolean) 10 224)   {s0 : Int32} {w : (Int32 × gM)} (hM : X12_readDeed_b79 s0 u = some w) : gV κ B skM 3 ((some (.int w.1)), w.2) 79 [some (.ref (B + 0)), none, none] [.int s0] u := by
  unfold X12_readDeed_b79 at hM
  refine g_istore_n X [some (.ref (B + 0)), some (.int s0), none] dX12_readDeed_79 (by decide) rfl ?_
  refine g_iload_n X dX12_readDeed_80 rfl ?_
  refine g_iconst X (v := (-1)) dX12_readDeed_81 (by decide) ?_
  refine g_icmp_ne (tgt := 91) X dX12_readDeed_82 (by decide) (fun c82 => ?_) (fun c82 => ?_)
  · rw [if_neg c82] at hM
    refine g_aload_n X dX12_readDeed_91 rfl ?_
    refine g_getR X fX12_99 cM_0 rfl dX12_readDeed_92 ?_
    refine g_iconst X (v := 3) dX12_readDeed_95 (by decide) ?_
    refine g_aload_n X dX12_readDeed_96 rfl ?_
    refine g_getI X fX12_416 cM_0 rfl dX12_readDeed_97 ?_
    refine g_imul X dX12_readDeed_100 ?_
    refine g_iload_n X dX12_readDeed_101 rfl ?_
    obtain ⟨u102, e102, hM⟩ := bind_of hM
    refine g_iastore X e102 dX12_readDeed_102 ?_
    refine g_aload_n X dX12_readDeed_103 rfl ?_
    refine g_getR X fX12_99 cM_0 rfl dX12_readDeed_104 ?_
    refine g_iconst X (v := 3) dX12_readDeed_107 (by decide) ?_
    refine g_aload_n X dX12_readDeed_108 rfl ?_
    refine g_getI X fX12_416 cM_0 rfl dX12_readDeed_109 ?_
    refine g_imul X dX12_readDeed_112 ?_
    refine g_iconst X (v := 2) dX12_readDeed_113 (by decide) ?_
    refine g_iadd X dX12_readDeed_114 ?_
    refine g_iconst X (v := 0) dX12_readDeed_115 (by decide) ?_
    obtain ⟨u116, e116, hM⟩ := bind_of hM
    refine g_iastore X e116 dX12_readDeed_116 ?_
    refine g_aload_n X dX12_readDeed_117 rfl ?_
    obtain ⟨w118, e118, hM⟩ := bind_of hM
    refine g_callVv X (fun B adK => []) (s_X12_next e118) cvX12_238 cM_0 rfl rfl (Nat.le_of_ble_eq_true rfl) ⟨by decide, by decide⟩ dX12_readDeed_118 ?_
    refine g_iload_n X dX12_readDeed_121 rfl ?_
    by_cases h122_2 : s0 = 2
    · rw [if_pos h122_2] at hM
      refine g_tabIn (tgt := 152) (off := 30) X 2 h122_2 dX12_readDeed_122 (by decide) (by decide) (by decide) (by decide) ?_
      refine g_aload_n X dX12_readDeed_152 rfl ?_
      refine g_iconst X (v := 1) dX12_readDeed_153 (by decide) ?_
      refine g_aload_n X dX12_readDeed_154 rfl ?_
      obtain ⟨w155, e155, hM⟩ := bind_of hM
      refine g_callVi X (fun B adK => []) (s_X12_readBank e155) cvX12_419 cM_0 rfl rfl (Nat.le_of_ble_eq_true rfl) ⟨by decide, by decide⟩ dX12_readDeed_155 ?_
      obtain ⟨w158, e158, hM⟩ := bind_of hM
      refine g_callVi X (fun B adK => [.int 1, .int w155.1]) (s_X12_lays e158) cvX12_422 cM_0 rfl rfl (Nat.le_of_ble_eq_true rfl) ⟨by decide, by decide⟩ dX12_readDeed_158 ?_
      refine g_if_eq (tgt := 189) X dX12_readDeed_161 (by decide) (fun c161 => ?_) (fun c161 => ?_)
      · rw [if_pos c161] at hM
        refine g_mk [true, false, false] [some (.ref (B + 0)), none, none] rfl ?_
        exact v_X12_readDeed_b189 X  hM
      · rw [if_neg c161] at hM
        refine g_aload_n X dX12_readDeed_164 rfl ?_
        refine g_ldcS (i := 18) X rfl dX12_readDeed_165 ?_
        obtain ⟨w167, e167, hM⟩ := bind_of hM
        refine g_callVi X (fun B adK => [.ref (adK 18)]) (s_X12_takes e167) cvX12_278 cM_0 rfl rfl (Nat.le_of_ble_eq_true rfl) ⟨by decide, by decide⟩ dX12_readDeed_167 ?_
        refine g_if_eq (tgt := 189) X dX12_readDeed_170 (by decide) (fun c170 => ?_) (fun c170 => ?_)
        · rw [if_pos c170] at hM
          refine g_mk [true, false, false] [some (.ref (B + 0)), none, none] rfl ?_
          exact v_X12_readDeed_b189 X  hM
        · rw [if_neg c170] at hM
          refine g_aload_n X dX12_readDeed_173 rfl ?_
          refine g_iconst X (v := 2) dX12_readDeed_174 (by decide) ?_
          refine g_aload_n X dX12_readDeed_175 rfl ?_
          obtain ⟨w176, e176, hM⟩ := bind_of hM
          refine g_callVi X (fun B adK => []) (s_X12_readBank e176) cvX12_419 cM_0 rfl rfl (Nat.le_of_ble_eq_true rfl) ⟨by decide, by decide⟩ dX12_readDeed_176 ?_
          obtain ⟨w179, e179, hM⟩ := bind_of hM
          refine g_callVi X (fun B adK => [.int 2, .int w176.1]) (s_X12_lays e179) cvX12_422 cM_0 rfl rfl (Nat.le_of_ble_eq_true rfl) ⟨by decide, by decide⟩ dX12_readDeed_179 ?_
          refine g_if_eq (tgt := 189) X dX12_readDeed_182 (by decide) (fun c182 => ?_) (fun c182 => ?_)
          · rw [if_pos c182] at hM
            refine g_mk [true, false, false] [some (.ref (B + 0)), none, none] rfl ?_
            exact v_X12_readDeed_b189 X  hM
          · rw [if_neg c182] at hM
            refine g_iconst X (v := 1) dX12_readDeed_185 (by decide) ?_
            refine g_goto (tgt := 190) X dX12_readDeed_186 (by decide) ?_
            refine g_mk [true, false, false] [some (.ref (B + 0)), none, none] rfl ?_
            exact v_X12_readDeed_b190 X  hM
    rw [if_neg h122_2] at hM
    by_cases h122_3 : s0 = 3
    · rw [if_pos h122_3] at hM
      refine g_tabIn (tgt := 194) (off := 72) X 3 h122_3 dX12_readDeed_122 (by decide) (by decide) (by decide) (by decide) ?_
      refine g_aload_n X dX12_readDeed_194 rfl ?_
      refine g_iconst X (v := 1) dX12_readDeed_195 (by decide) ?_
      refine g_aload_n X dX12_readDeed_196 rfl ?_
      refine g_lconst (v := 0) X dX12_readDeed_197 (by decide) ?_
      refine g_ldc2 (v := 100000000) X m_23_10 dX12_readDeed_198 ?_
      obtain ⟨w201, e201, hM⟩ := bind_of hM
      refine g_callVi X (fun B adK => [.long 0, .long 100000000]) (s_X12_readNumber e201) cvX12_260 cM_0 rfl rfl (Nat.le_of_ble_eq_true rfl) ⟨by decide, by decide⟩ dX12_readDeed_201 ?_
      obtain ⟨w204, e204, hM⟩ := bind_of hM
      refine g_callVi X (fun B adK => [.int 1, .int w201.1]) (s_X12_lays e204) cvX12_422 cM_0 rfl rfl (Nat.le_of_ble_eq_true rfl) ⟨by decide, by decide⟩ dX12_readDeed_204 ?_
      refine g_istore_n X [some (.ref (B + 0)), some (.int s0), some (.int w204.1)] dX12_readDeed_207 (by decide) rfl ?_
      refine g_goto (tgt := 323) X dX12_readDeed_208 (by decide) ?_
      refine g_mk [true, false, true] [some (.ref (B + 0)), none, some (.int w204.1)] rfl ?_
      exact v_X12_readDeed_b323 X  hM
    rw [if_neg h122_3] at hM
    by_cases h122_4 : s0 = 4
    · rw [if_pos h122_4] at hM
      refine g_tabIn (tgt := 211) (off := 89) X 4 h122_4 dX12_readDeed_122 (by decide) (by decide) (by decide) (by decide) ?_
      refine g_aload_n X dX12_readDeed_211 rfl ?_
      refine g_iconst X (v := 1) dX12_readDeed_212 (by decide) ?_
      refine g_aload_n X dX12_readDeed_213 rfl ?_
      refine g_lconst (v := 0) X dX12_readDeed_214 (by decide) ?_
      refine g_ldc2 (v := 100000000) X m_23_10 dX12_readDeed_215 ?_
      obtain ⟨w218, e218, hM⟩ := bind_of hM
      refine g_callVi X (fun B adK => [.long 0, .long 100000000]) (s_X12_readNumber e218) cvX12_260 cM_0 rfl rfl (Nat.le_of_ble_eq_true rfl) ⟨by decide, by decide⟩ dX12_readDeed_218 ?_
      obtain ⟨w221, e221, hM⟩ := bind_of hM
      refine g_callVi X (fun B adK => [.int 1, .int w218.1]) (s_X12_lays e221) cvX12_422 cM_0 rfl rfl (Nat.le_of_ble_eq_true rfl) ⟨by decide, by decide⟩ dX12_readDeed_221 ?_
      refine g_if_eq (tgt := 247) X dX12_readDeed_224 (by decide) (fun c224 => ?_) (fun c224 => ?_)
      · rw [if_pos c224] at hM
        refine g_mk [true, false, false] [some (.ref (B + 0)), none, none] rfl ?_
        exact v_X12_readDeed_b247 X  hM
      · rw [if_neg c224] at hM
        refine g_aload_n X dX12_readDeed_227 rfl ?_
        refine g_iconst X (v := 2) dX12_readDeed_228 (by decide) ?_
        refine g_aload_n X dX12_readDeed_229 rfl ?_
        refine g_lconst (v := 0) X dX12_readDeed_230 (by decide) ?_
        refine g_ldc2 (v := 100000000) X m_23_10 dX12_readDeed_231 ?_
        obtain ⟨w234, e234, hM⟩ := bind_of hM
        refine g_callVi X (fun B adK => [.long 0, .long 100000000]) (s_X12_readNumber e234) cvX12_260 cM_0 rfl rfl (Nat.le_of_ble_eq_true rfl) ⟨by decide, by decide⟩ dX12_readDeed_234 ?_
        obtain ⟨w237, e237, hM⟩ := bind_of hM
        refine g_callVi X (fun B adK => [.int 2, .int w234.1]) (s_X12_lays e237) cvX12_422 cM_0 rfl rfl (Nat.le_of_ble_eq_true rfl) ⟨by decide, by decide⟩ dX12_readDeed_237 ?_
        refine g_if_eq (tgt := 247) X dX12_readDeed_240 (by decide) (fun c240 => ?_) (fun c240 => ?_)
        · rw [if_pos c240] at hM
          refine g_mk [true, false, false] [some (.ref (B + 0)), none, none] rfl ?_
          exact v_X12_readDeed_b247 X  hM
        · rw [if_neg c240] at hM
          refine g_iconst X (v := 1) dX12_readDeed_243 (by decide) ?_
          refine g_goto (tgt := 248) X dX12_readDeed_244 (by decide) ?_
          refine g_mk [true, false, false] [some (.ref (B + 0)), none, none] rfl ?_
          exact v_X12_readDeed_b248 X  hM
    rw [if_neg h122_4] at hM
    by_cases h122_5 : s0 = 5
    · rw [if_pos h122_5] at hM
      refine g_tabIn (tgt := 252) (off := 130) X 5 h122_5 dX12_readDeed_122 (by decide) (by decide) (by decide) (by decide) ?_
      refine g_aload_n X dX12_readDeed_252 rfl ?_
      refine g_iconst X (v := 1) dX12_readDeed_253 (by decide) ?_
      refine g_aload_n X dX12_readDeed_254 rfl ?_
      obtain ⟨w255, e255, hM⟩ := bind_of hM
      refine g_callVi X (fun B adK => []) (s_X12_readBank e255) cvX12_419 cM_0 rfl rfl (Nat.le_of_ble_eq_true rfl) ⟨by decide, by decide⟩ dX12_readDeed_255 ?_
      obtain ⟨w258, e258, hM⟩ := bind_of hM
      refine g_callVi X (fun B adK => [.int 1, .int w255.1]) (s_X12_lays e258) cvX12_422 cM_0 rfl rfl (Nat.le_of_ble_eq_true rfl) ⟨by decide, by decide⟩ dX12_readDeed_258 ?_
      refine g_if_eq (tgt := 284) X dX12_readDeed_261 (by decide) (fun c261 => ?_) (fun c261 => ?_)
      · rw [if_pos c261] at hM
        refine g_mk [true, false, false] [some (.ref (B + 0)), none, none] rfl ?_
        exact v_X12_readDeed_b284 X  hM
      · rw [if_neg c261] at hM
        refine g_aload_n X dX12_readDeed_264 rfl ?_
        refine g_iconst X (v := 2) dX12_readDeed_265 (by decide) ?_
        refine g_aload_n X dX12_readDeed_266 rfl ?_
        refine g_lconst (v := 0) X dX12_readDeed_267 (by decide) ?_
        refine g_ldc2 (v := 100000000) X m_23_10 dX12_readDeed_268 ?_
        obtain ⟨w271, e271, hM⟩ := bind_of hM
        refine g_callVi X (fun B adK => [.long 0, .long 100000000]) (s_X12_readNumber e271) cvX12_260 cM_0 rfl rfl (Nat.le_of_ble_eq_true rfl) ⟨by decide, by decide⟩ dX12_readDeed_271 ?_
        obtain ⟨w274, e274, hM⟩ := bind_of hM
        refine g_callVi X (fun B adK => [.int 2, .int w271.1]) (s_X12_lays e274) cvX12_422 cM_0 rfl rfl (Nat.le_of_ble_eq_true rfl) ⟨by decide, by decide⟩ dX12_readDeed_274 ?_
        refine g_if_eq (tgt := 284) X dX12_readDeed_277 (by decide) (fun c277 => ?_) (fun c277 => ?_)
        · rw [if_pos c277] at hM
          refine g_mk [true, false, false] [some (.ref (B + 0)), none, none] rfl ?_
          exact v_X12_readDeed_b284 X  hM
        · rw [if_neg c277] at hM
          refine g_iconst X (v := 1) dX12_readDeed_280 (by decide) ?_
          refine g_goto (tgt := 285) X dX12_readDeed_281 (by decide) ?_
          refine g_mk [true, false, false] [some (.ref (B + 0)), none, none] rfl ?_
          exact v_X12_readDeed_b285 X  hM
    rw [if_neg h122_5] at hM
    refine g_tabOut (tgt := 289) X dX12_readDeed_122 (by have q0 := lv_neT (a := 2) h122_2 (by decide); have q1 := lv_neT (a := 3) h122_3 (by decide); have q2 := lv_neT (a := 4) h122_4 (by decide); have q3 := lv_neT (a := 5) h122_5 (by decide); omega) (by decide) ?_
    refine g_aload_n X dX12_readDeed_289 rfl ?_
    refine g_iconst X (v := 2) dX12_readDeed_290 (by decide) ?_
    refine g_aload_n X dX12_readDeed_291 rfl ?_
    refine g_lconst (v := 0) X dX12_readDeed_292 (by decide) ?_
    refine g_ldc2 (v := 100000000) X m_23_10 dX12_readDeed_293 ?_
    obtain ⟨w296, e296, hM⟩ := bind_of hM
    refine g_callVi X (fun B adK => [.long 0, .long 100000000]) (s_X12_readNumber e296) cvX12_260 cM_0 rfl rfl (Nat.le_of_ble_eq_true rfl) ⟨by decide, by decide⟩ dX12_readDeed_296 ?_
    obtain ⟨w299, e299, hM⟩ := bind_of hM
    refine g_callVi X (fun B adK => [.int 2, .int w296.1]) (s_X12_lays e299) cvX12_422 cM_0 rfl rfl (Nat.le_of_ble_eq_true rfl) ⟨by decide, by decide⟩ dX12_readDeed_299 ?_
    refine g_if_eq (tgt := 321) X dX12_readDeed_302 (by decide) (fun c302 => ?_) (fun c302 => ?_)
    · rw [if_pos c302] at hM
      refine g_mk [true, false, false] [some (.ref (B + 0)), none, none] rfl ?_
      exact v_X12_readDeed_b321 X  hM
    · rw [if_neg c302] at hM
      refine g_aload_n X dX12_readDeed_305 rfl ?_
      refine g_iconst X (v := 1) dX12_readDeed_306 (by decide) ?_
      refine g_aload_n X dX12_readDeed_307 rfl ?_
      obtain ⟨w308, e308, hM⟩ := bind_of hM
      refine g_callVi X (fun B adK => []) (s_X12_readHere e308) cvX12_426 cM_0 rfl rfl (Nat.le_of_ble_eq_true rfl) ⟨by decide, by decide⟩ dX12_readDeed_308 ?_
      obtain ⟨w311, e311, hM⟩ := bind_of hM
      refine g_callVi X (fun B adK => [.int 1, .int w308.1]) (s_X12_lays e311) cvX12_422 cM_0 rfl rfl (Nat.le_of_ble_eq_true rfl) ⟨by decide, by decide⟩ dX12_readDeed_311 ?_
      refine g_if_eq (tgt := 321) X dX12_readDeed_314 (by decide) (fun c314 => ?_) (fun c314 => ?_)
      · rw [if_pos c314] at hM
        refine g_mk [true, false, false] [some (.ref (B + 0)), none, none] rfl ?_
        exact v_X12_readDeed_b321 X  hM
      · rw [if_neg c314] at hM
        refine g_iconst X (v := 1) dX12_readDeed_317 (by decide) ?_
        refine g_goto (tgt := 322) X dX12_readDeed_318 (by decide) ?_
        refine g_mk [true, false, false] [some (.ref (B + 0)), none, none] rfl ?_
        exact v_X12_readDeed_b322 X  hM
  · rw [if_pos c82] at hM
    refine g_aload_n X dX12_readDeed_85 rfl ?_
    refine g_iconst X (v := 1) dX12_readDeed_86 (by decide) ?_
    obtain ⟨w87, e87, hM⟩ := bind_of hM
    refine g_callVi X (fun B adK => [.int 1]) (s_X12_fails e87) cvX12_234 cM_0 rfl rfl (Nat.le_of_ble_eq_true rfl) ⟨by decide, by decide⟩ dX12_readDeed_87 ?_
    obtain ⟨v90, e90, hM⟩ := bind_of hM
    obtain ⟨hv, rfl⟩ := bI_of e90
    cases hM
    exact g_zret X hv dX12_readDeed_90
set_option maxRecDepth 20000 in
theorem v_X12_readDeed {κ : gK} {B : Nat} {u : gM} (X : gX κ B skM cX12_readDeed 3 RX12 (some .boolean) 10 224)    {w : (Int32 × gM)} (hM : X12_readDeed u = some w) : gV κ B skM 3 ((some (.int w.1)), w.2) 0 [some (.ref (B + 0)), none, none] [] u := by
  unfold X12_readDeed at hM
  refine g_aload_n X dX12_readDeed_0 rfl ?_
  refine g_ldcS (i := 15) X rfl dX12_readDeed_1 ?_
  obtain ⟨w3, e3, hM⟩ := bind_of hM
  refine g_callVi X (fun B adK => [.ref (adK 15)]) (s_X12_isWord e3) cvX12_184 cM_0 rfl rfl (Nat.le_of_ble_eq_true rfl) ⟨by decide, by decide⟩ dX12_readDeed_3 ?_
  refine g_if_eq (tgt := 13) X dX12_readDeed_6 (by decide) (fun c6 => ?_) (fun c6 => ?_)
  · rw [if_pos c6] at hM
    refine g_aload_n X dX12_readDeed_13 rfl ?_
    refine g_ldcS (i := 16) X rfl dX12_readDeed_14 ?_
    obtain ⟨w16, e16, hM⟩ := bind_of hM
    refine g_callVi X (fun B adK => [.ref (adK 16)]) (s_X12_isWord e16) cvX12_184 cM_0 rfl rfl (Nat.le_of_ble_eq_true rfl) ⟨by decide, by decide⟩ dX12_readDeed_16 ?_
    refine g_if_eq (tgt := 26) X dX12_readDeed_19 (by decide) (fun c19 => ?_) (fun c19 => ?_)
    · rw [if_pos c19] at hM
      refine g_aload_n X dX12_readDeed_26 rfl ?_
      refine g_ldcS (i := 17) X rfl dX12_readDeed_27 ?_
      obtain ⟨w29, e29, hM⟩ := bind_of hM
      refine g_callVi X (fun B adK => [.ref (adK 17)]) (s_X12_isWord e29) cvX12_184 cM_0 rfl rfl (Nat.le_of_ble_eq_true rfl) ⟨by decide, by decide⟩ dX12_readDeed_29 ?_
      refine g_if_eq (tgt := 39) X dX12_readDeed_32 (by decide) (fun c32 => ?_) (fun c32 => ?_)
      · rw [if_pos c32] at hM
        refine g_aload_n X dX12_readDeed_39 rfl ?_
        refine g_ldcS (i := 19) X rfl dX12_readDeed_40 ?_
        obtain ⟨w42, e42, hM⟩ := bind_of hM
        refine g_callVi X (fun B adK => [.ref (adK 19)]) (s_X12_isWord e42) cvX12_184 cM_0 rfl rfl (Nat.le_of_ble_eq_true rfl) ⟨by decide, by decide⟩ dX12_readDeed_42 ?_
        refine g_if_eq (tgt := 52) X dX12_readDeed_45 (by decide) (fun c45 => ?_) (fun c45 => ?_)
        · rw [if_pos c45] at hM
          refine g_aload_n X dX12_readDeed_52 rfl ?_
          refine g_ldcS (i := 20) X rfl dX12_readDeed_53 ?_
          obtain ⟨w55, e55, hM⟩ := bind_of hM
          refine g_callVi X (fun B adK => [.ref (adK 20)]) (s_X12_isWord e55) cvX12_184 cM_0 rfl rfl (Nat.le_of_ble_eq_true rfl) ⟨by decide, by decide⟩ dX12_readDeed_55 ?_
          refine g_if_eq (tgt := 65) X dX12_readDeed_58 (by decide) (fun c58 => ?_) (fun c58 => ?_)
          · rw [if_pos c58] at hM
            refine g_aload_n X dX12_readDeed_65 rfl ?_
            refine g_ldcS (i := 21) X rfl dX12_readDeed_66 ?_
            obtain ⟨w68, e68, hM⟩ := bind_of hM
            refine g_callVi X (fun B adK => [.ref (adK 21)]) (s_X12_isWord e68) cvX12_184 cM_0 rfl rfl (Nat.le_of_ble_eq_true rfl) ⟨by decide, by decide⟩ dX12_readDeed_68 ?_
            refine g_if_eq (tgt := 78) X dX12_readDeed_71 (by decide) (fun c71 => ?_) (fun c71 => ?_)
            · rw [if_pos c71] at hM
              refine g_iconst X (v := (-1)) dX12_readDeed_78 (by decide) ?_
              refine g_mk [true, false, false] [some (.ref (B + 0)), none, none] rfl ?_
              exact v_X12_readDeed_b79 X  hM
            · rw [if_neg c71] at hM
              refine g_iconst X (v := 5) dX12_readDeed_74 (by decide) ?_
              refine g_goto (tgt := 79) X dX12_readDeed_75 (by decide) ?_
              refine g_mk [true, false, false] [some (.ref (B + 0)), none, none] rfl ?_
              exact v_X12_readDeed_b79 X  hM
          · rw [if_neg c58] at hM
            refine g_iconst X (v := 4) dX12_readDeed_61 (by decide) ?_
            refine g_goto (tgt := 79) X dX12_readDeed_62 (by decide) ?_
            refine g_mk [true, false, false] [some (.ref (B + 0)), none, none] rfl ?_
            exact v_X12_readDeed_b79 X  hM
        · rw [if_neg c45] at hM
          refine g_iconst X (v := 3) dX12_readDeed_48 (by decide) ?_
          refine g_goto (tgt := 79) X dX12_readDeed_49 (by decide) ?_
          refine g_mk [true, false, false] [some (.ref (B + 0)), none, none] rfl ?_
          exact v_X12_readDeed_b79 X  hM
      · rw [if_neg c32] at hM
        refine g_iconst X (v := 2) dX12_readDeed_35 (by decide) ?_
        refine g_goto (tgt := 79) X dX12_readDeed_36 (by decide) ?_
        refine g_mk [true, false, false] [some (.ref (B + 0)), none, none] rfl ?_
        exact v_X12_readDeed_b79 X  hM
    · rw [if_neg c19] at hM
      refine g_iconst X (v := 1) dX12_readDeed_22 (by decide) ?_
      refine g_goto (tgt := 79) X dX12_readDeed_23 (by decide) ?_
      refine g_mk [true, false, false] [some (.ref (B + 0)), none, none] rfl ?_
      exact v_X12_readDeed_b79 X  hM
  · rw [if_neg c6] at hM
    refine g_iconst X (v := 0) dX12_readDeed_9 (by decide) ?_
    refine g_goto (tgt := 79) X dX12_readDeed_10 (by decide) ?_
    refine g_mk [true, false, false] [some (.ref (B + 0)), none, none] rfl ?_
    exact v_X12_readDeed_b79 X  hM
theorem s_X12_readDeed  {u : gM} {w : (Int32 × gM)} (hM : X12_readDeed u = some w) : gMet skM yX12_readDeed cX12_readDeed 3 (some .boolean) 10 224 (fun B adK => [.ref (B + 0)]) u ((fun _ => some (.int w.1)), w.2) := by
  refine gMet.of (by decide) (fun _ _ => Nat.le_of_ble_eq_true rfl) (fun κ B X => ?_)
  have X : gX κ B skM cX12_readDeed 3 RX12 (some .boolean) 10 224 := X
  refine g_mk [true, false, false] [some (.ref (B + 0)), none, none] rfl ?_
  exact v_X12_readDeed X  hM
theorem fr_X12_readDeed_b334 {S : Nat → Prop} {u0 u : gM}     {w : (Int32 × gM)} (hM : X12_readDeed_b334 u = some w) (h0 : off S u0 u) : off S u0 w.2 := by
  unfold X12_readDeed_b334 at hM
  cases hM
  exact h0
theorem fr_X12_readDeed_b323 {S : Nat → Prop} {u0 u : gM} {x2 : Int32} (hs0 : S 0)   {w : (Int32 × gM)} (hM : X12_readDeed_b323 x2 u = some w) (h0 : off S u0 u) : off S u0 w.2 := by
  unfold X12_readDeed_b323 at hM
  by_cases c324 : x2 = 0
  · rw [if_pos c324] at hM
    exact fr_X12_readDeed_b334   hM h0
  · rw [if_neg c324] at hM
    obtain ⟨w328, e328, hM⟩ := bind_of hM
    have h0 := fr_X12_ends hs0 e328 h0
    by_cases c331 : w328.1 = 0
    · rw [if_pos c331] at hM
      exact fr_X12_readDeed_b334   hM h0
    · rw [if_neg c331] at hM
      have h0 := off_upI (u := w328.2) (k := 0) (j := 43) (x := ((w328.2.1 0 43) + 1)) hs0 h0
      cases hM
      exact h0
theorem fr_X12_readDeed_b190 {S : Nat → Prop} {u0 u : gM} {s0 : Int32} (hs0 : S 0)   {w : (Int32 × gM)} (hM : X12_readDeed_b190 s0 u = some w) (h0 : off S u0 u) : off S u0 w.2 := by
  unfold X12_readDeed_b190 at hM
  exact fr_X12_readDeed_b323 hs0  hM h0
theorem fr_X12_readDeed_b189 {S : Nat → Prop} {u0 u : gM}  (hs0 : S 0)   {w : (Int32 × gM)} (hM : X12_readDeed_b189 u = some w) (h0 : off S u0 u) : off S u0 w.2 := by
  unfold X12_readDeed_b189 at hM
  exact fr_X12_readDeed_b190 hs0  hM h0
theorem fr_X12_readDeed_b248 {S : Nat → Prop} {u0 u : gM} {s0 : Int32} (hs0 : S 0)   {w : (Int32 × gM)} (hM : X12_readDeed_b248 s0 u = some w) (h0 : off S u0 u) : off S u0 w.2 := by
  unfold X12_readDeed_b248 at hM
  exact fr_X12_readDeed_b323 hs0  hM h0
theorem fr_X12_readDeed_b247 {S : Nat → Prop} {u0 u : gM}  (hs0 : S 0)   {w : (Int32 × gM)} (hM : X12_readDeed_b247 u = some w) (h0 : off S u0 u) : off S u0 w.2 := by
  unfold X12_readDeed_b247 at hM
  exact fr_X12_readDeed_b248 hs0  hM h0
theorem fr_X12_readDeed_b285 {S : Nat → Prop} {u0 u : gM} {s0 : Int32} (hs0 : S 0)   {w : (Int32 × gM)} (hM : X12_readDeed_b285 s0 u = some w) (h0 : off S u0 u) : off S u0 w.2 := by
  unfold X12_readDeed_b285 at hM
  exact fr_X12_readDeed_b323 hs0  hM h0
theorem fr_X12_readDeed_b284 {S : Nat → Prop} {u0 u : gM}  (hs0 : S 0)   {w : (Int32 × gM)} (hM : X12_readDeed_b284 u = some w) (h0 : off S u0 u) : off S u0 w.2 := by
  unfold X12_readDeed_b284 at hM
  exact fr_X12_readDeed_b285 hs0  hM h0
theorem fr_X12_readDeed_b322 {S : Nat → Prop} {u0 u : gM} {s0 : Int32} (hs0 : S 0)   {w : (Int32 × gM)} (hM : X12_readDeed_b322 s0 u = some w) (h0 : off S u0 u) : off S u0 w.2 := by
  unfold X12_readDeed_b322 at hM
  exact fr_X12_readDeed_b323 hs0  hM h0
theorem fr_X12_readDeed_b321 {S : Nat → Prop} {u0 u : gM}  (hs0 : S 0)   {w : (Int32 × gM)} (hM : X12_readDeed_b321 u = some w) (h0 : off S u0 u) : off S u0 w.2 := by
  unfold X12_readDeed_b321 at hM
  exact fr_X12_readDeed_b322 hs0  hM h0
theorem fr_X12_readDeed_b79 {S : Nat → Prop} {u0 u : gM} {s0 : Int32} (hs0 : S 0) (hs1 : S 27)   {w : (Int32 × gM)} (hM : X12_readDeed_b79 s0 u = some w) (h0 : off S u0 u) : off S u0 w.2 := by
  unfold X12_readDeed_b79 at hM
  by_cases c82 : s0 = (-1)
  · rw [if_pos c82] at hM
    obtain ⟨w87, e87, hM⟩ := bind_of hM
    have h0 := fr_X12_fails hs0 e87 h0
    obtain ⟨v90, e90, hM⟩ := bind_of hM
    cases hM
    exact h0
  · rw [if_neg c82] at hM
    obtain ⟨u102, e102, hM⟩ := bind_of hM
    have h0 := off_sI hs1 e102 h0
    obtain ⟨u116, e116, hM⟩ := bind_of hM
    have h0 := off_sI hs1 e116 h0
    obtain ⟨w118, e118, hM⟩ := bind_of hM
    have h0 := fr_X12_next hs0 e118 h0
    by_cases h122_2 : s0 = 2
    · rw [if_pos h122_2] at hM
      obtain ⟨w155, e155, hM⟩ := bind_of hM
      have h0 := fr_X12_readBank hs0 e155 h0
      obtain ⟨w158, e158, hM⟩ := bind_of hM
      have h0 := fr_X12_lays hs1 e158 h0
      by_cases c161 : w158.1 = 0
      · rw [if_pos c161] at hM
        exact fr_X12_readDeed_b189 hs0  hM h0
      · rw [if_neg c161] at hM
        obtain ⟨w167, e167, hM⟩ := bind_of hM
        have h0 := fr_X12_takes hs0 e167 h0
        by_cases c170 : w167.1 = 0
        · rw [if_pos c170] at hM
          exact fr_X12_readDeed_b189 hs0  hM h0
        · rw [if_neg c170] at hM
          obtain ⟨w176, e176, hM⟩ := bind_of hM
          have h0 := fr_X12_readBank hs0 e176 h0
          obtain ⟨w179, e179, hM⟩ := bind_of hM
          have h0 := fr_X12_lays hs1 e179 h0
          by_cases c182 : w179.1 = 0
          · rw [if_pos c182] at hM
            exact fr_X12_readDeed_b189 hs0  hM h0
          · rw [if_neg c182] at hM
            exact fr_X12_readDeed_b190 hs0  hM h0
    rw [if_neg h122_2] at hM
    by_cases h122_3 : s0 = 3
    · rw [if_pos h122_3] at hM
      obtain ⟨w201, e201, hM⟩ := bind_of hM
      have h0 := fr_X12_readNumber hs0 e201 h0
      obtain ⟨w204, e204, hM⟩ := bind_of hM
      have h0 := fr_X12_lays hs1 e204 h0
      exact fr_X12_readDeed_b323 hs0  hM h0
    rw [if_neg h122_3] at hM
    by_cases h122_4 : s0 = 4
    · rw [if_pos h122_4] at hM
      obtain ⟨w218, e218, hM⟩ := bind_of hM
      have h0 := fr_X12_readNumber hs0 e218 h0
      obtain ⟨w221, e221, hM⟩ := bind_of hM
      have h0 := fr_X12_lays hs1 e221 h0
      by_cases c224 : w221.1 = 0
      · rw [if_pos c224] at hM
        exact fr_X12_readDeed_b247 hs0  hM h0
      · rw [if_neg c224] at hM
        obtain ⟨w234, e234, hM⟩ := bind_of hM
        have h0 := fr_X12_readNumber hs0 e234 h0
        obtain ⟨w237, e237, hM⟩ := bind_of hM
        have h0 := fr_X12_lays hs1 e237 h0
        by_cases c240 : w237.1 = 0
        · rw [if_pos c240] at hM
          exact fr_X12_readDeed_b247 hs0  hM h0
        · rw [if_neg c240] at hM
          exact fr_X12_readDeed_b248 hs0  hM h0
    rw [if_neg h122_4] at hM
    by_cases h122_5 : s0 = 5
    · rw [if_pos h122_5] at hM
      obtain ⟨w255, e255, hM⟩ := bind_of hM
      have h0 := fr_X12_readBank hs0 e255 h0
      obtain ⟨w258, e258, hM⟩ := bind_of hM
      have h0 := fr_X12_lays hs1 e258 h0
      by_cases c261 : w258.1 = 0
      · rw [if_pos c261] at hM
        exact fr_X12_readDeed_b284 hs0  hM h0
      · rw [if_neg c261] at hM
        obtain ⟨w271, e271, hM⟩ := bind_of hM
        have h0 := fr_X12_readNumber hs0 e271 h0
        obtain ⟨w274, e274, hM⟩ := bind_of hM
        have h0 := fr_X12_lays hs1 e274 h0
        by_cases c277 : w274.1 = 0
        · rw [if_pos c277] at hM
          exact fr_X12_readDeed_b284 hs0  hM h0
        · rw [if_neg c277] at hM
          exact fr_X12_readDeed_b285 hs0  hM h0
    rw [if_neg h122_5] at hM
    obtain ⟨w296, e296, hM⟩ := bind_of hM
    have h0 := fr_X12_readNumber hs0 e296 h0
    obtain ⟨w299, e299, hM⟩ := bind_of hM
    have h0 := fr_X12_lays hs1 e299 h0
    by_cases c302 : w299.1 = 0
    · rw [if_pos c302] at hM
      exact fr_X12_readDeed_b321 hs0  hM h0
    · rw [if_neg c302] at hM
      obtain ⟨w308, e308, hM⟩ := bind_of hM
      have h0 := fr_X12_readHere hs0 e308 h0
      obtain ⟨w311, e311, hM⟩ := bind_of hM
      have h0 := fr_X12_lays hs1 e311 h0
      by_cases c314 : w311.1 = 0
      · rw [if_pos c314] at hM
        exact fr_X12_readDeed_b321 hs0  hM h0
      · rw [if_neg c314] at hM
        exact fr_X12_readDeed_b322 hs0  hM h0
theorem fr_X12_readDeed {S : Nat → Prop} {u0 u : gM}  (hs0 : S 0) (hs1 : S 27)   {w : (Int32 × gM)} (hM : X12_readDeed u = some w) (h0 : off S u0 u) : off S u0 w.2 := by
  unfold X12_readDeed at hM
  obtain ⟨w3, e3, hM⟩ := bind_of hM
  by_cases c6 : w3 = 0
  · rw [if_pos c6] at hM
    obtain ⟨w16, e16, hM⟩ := bind_of hM
    by_cases c19 : w16 = 0
    · rw [if_pos c19] at hM
      obtain ⟨w29, e29, hM⟩ := bind_of hM
      by_cases c32 : w29 = 0
      · rw [if_pos c32] at hM
        obtain ⟨w42, e42, hM⟩ := bind_of hM
        by_cases c45 : w42 = 0
        · rw [if_pos c45] at hM
          obtain ⟨w55, e55, hM⟩ := bind_of hM
          by_cases c58 : w55 = 0
          · rw [if_pos c58] at hM
            obtain ⟨w68, e68, hM⟩ := bind_of hM
            by_cases c71 : w68 = 0
            · rw [if_pos c71] at hM
              exact fr_X12_readDeed_b79 hs0 hs1  hM h0
            · rw [if_neg c71] at hM
              exact fr_X12_readDeed_b79 hs0 hs1  hM h0
          · rw [if_neg c58] at hM
            exact fr_X12_readDeed_b79 hs0 hs1  hM h0
        · rw [if_neg c45] at hM
          exact fr_X12_readDeed_b79 hs0 hs1  hM h0
      · rw [if_neg c32] at hM
        exact fr_X12_readDeed_b79 hs0 hs1  hM h0
    · rw [if_neg c19] at hM
      exact fr_X12_readDeed_b79 hs0 hs1  hM h0
  · rw [if_neg c6] at hM
    exact fr_X12_readDeed_b79 hs0 hs1  hM h0
/-! CoverDeskModel.laysAside()V -/
theorem dX12_laysAside_0 : decode cX12_laysAside 0 = .ok (.iconst 0, 1) := by decide +kernel
theorem dX12_laysAside_1 : decode cX12_laysAside 1 = .ok (.istore_n 1, 1) := by decide +kernel
theorem dX12_laysAside_2 : decode cX12_laysAside 2 = .ok (.iload_n 1, 1) := by decide +kernel
theorem dX12_laysAside_3 : decode cX12_laysAside 3 = .ok (.sipush 439, 3) := by decide +kernel
theorem dX12_laysAside_6 : decode cX12_laysAside 6 = .ok (.if_icmp .ge 21, 3) := by decide +kernel
theorem dX12_laysAside_9 : decode cX12_laysAside 9 = .ok (.aload_n 0, 1) := by decide +kernel
theorem dX12_laysAside_10 : decode cX12_laysAside 10 = .ok (.getfield 62, 3) := by decide +kernel
theorem dX12_laysAside_13 : decode cX12_laysAside 13 = .ok (.iload_n 1, 1) := by decide +kernel
theorem dX12_laysAside_14 : decode cX12_laysAside 14 = .ok (.aload_n 0, 1) := by decide +kernel
theorem dX12_laysAside_15 : decode cX12_laysAside 15 = .ok (.getfield 56, 3) := by decide +kernel
theorem dX12_laysAside_18 : decode cX12_laysAside 18 = .ok (.iload_n 1, 1) := by decide +kernel
theorem dX12_laysAside_19 : decode cX12_laysAside 19 = .ok (.iaload, 1) := by decide +kernel
theorem dX12_laysAside_20 : decode cX12_laysAside 20 = .ok (.iastore, 1) := by decide +kernel
theorem dX12_laysAside_21 : decode cX12_laysAside 21 = .ok (.iinc 1 1, 3) := by decide +kernel
theorem dX12_laysAside_24 : decode cX12_laysAside 24 = .ok (.goto (-22), 3) := by decide +kernel
theorem dX12_laysAside_27 : decode cX12_laysAside 27 = .ok (.return_, 1) := by decide +kernel
def X12_laysAside_b2 (k2 : Int32 → gM → Option gM) (x1 : Int32) (u : gM) : Option gM :=
(if 439 ≤ x1 then some u
  else ((aI skM u 16 x1).bind fun v19 => ((sI skM u 18 x1 v19).bind fun u20 => (k2 (x1 + 1) u20))))
def X12_laysAside_l2  : Nat → Int32 → gM → Option gM
  | 0, _, _ => none
  | n + 1, x1, u => X12_laysAside_b2  (X12_laysAside_l2  n) x1 u
def X12_laysAside   (u : gM) : Option gM :=
(X12_laysAside_l2 fz 0 u)
set_option maxRecDepth 20000 in
theorem v_X12_laysAside_b2 {κ : gK} {B : Nat} {u : gM} (X : gX κ B skM cX12_laysAside 2 RX12 none 0 0) {k2 : Int32 → gM → Option gM} (ih2 : ∀ (x1 : Int32) (u : gM) (w : gM), k2 x1 u = some w → gV κ B skM 2 ((none), w) 2 [some (.ref (B + 0)), some (.int x1)] [] u) {x1 : Int32} {w : gM} (hM : X12_laysAside_b2 k2 x1 u = some w) : gV κ B skM 2 ((none), w) 2 [some (.ref (B + 0)), some (.int x1)] [] u := by
  unfold X12_laysAside_b2 at hM
  refine g_iload_n X dX12_laysAside_2 rfl ?_
  refine g_sipush X (v := 439) dX12_laysAside_3 (by decide) ?_
  refine g_icmp_ge (tgt := 27) X dX12_laysAside_6 (by decide) (fun c6 => ?_) (fun c6 => ?_)
  · rw [if_pos c6] at hM
    cases hM
    exact g_vret X dX12_laysAside_27
  · rw [if_neg c6] at hM
    refine g_aload_n X dX12_laysAside_9 rfl ?_
    refine g_getR X fX12_62 cM_0 rfl dX12_laysAside_10 ?_
    refine g_iload_n X dX12_laysAside_13 rfl ?_
    refine g_aload_n X dX12_laysAside_14 rfl ?_
    refine g_getR X fX12_56 cM_0 rfl dX12_laysAside_15 ?_
    refine g_iload_n X dX12_laysAside_18 rfl ?_
    obtain ⟨v19, e19, hM⟩ := bind_of hM
    refine g_iaload X e19 dX12_laysAside_19 ?_
    obtain ⟨u20, e20, hM⟩ := bind_of hM
    refine g_iastore X e20 dX12_laysAside_20 ?_
    refine g_iinc (d := 1) X [some (.ref (B + 0)), some (.int (x1 + 1))] dX12_laysAside_21 (by decide) rfl (by decide) rfl ?_
    refine g_goto (tgt := 2) X dX12_laysAside_24 (by decide) ?_
    refine g_mk [true, true] [some (.ref (B + 0)), some (.int (x1 + 1))] rfl ?_
    exact ih2 (x1 + 1) u20 _ hM
theorem v_X12_laysAside_l2 {κ : gK} {B : Nat} (X : gX κ B skM cX12_laysAside 2 RX12 none 0 0)   : ∀ (n : Nat) {x1 : Int32} {u : gM} {w : gM} (hM : X12_laysAside_l2  n x1 u = some w), gV κ B skM 2 ((none), w) 2 [some (.ref (B + 0)), some (.int x1)] [] u := by
  intro n
  induction n with
  | zero => intro x1 u w hM; exact nomatch (show (none : Option gM) = some w from hM)
  | succ n ihn => intro x1 u w hM; exact v_X12_laysAside_b2 X  (fun x1 u w h => ihn h) hM
set_option maxRecDepth 20000 in
theorem v_X12_laysAside {κ : gK} {B : Nat} {u : gM} (X : gX κ B skM cX12_laysAside 2 RX12 none 0 0)    {w : gM} (hM : X12_laysAside u = some w) : gV κ B skM 2 ((none), w) 0 [some (.ref (B + 0)), none] [] u := by
  unfold X12_laysAside at hM
  refine g_iconst X (v := 0) dX12_laysAside_0 (by decide) ?_
  refine g_istore_n X [some (.ref (B + 0)), some (.int 0)] dX12_laysAside_1 (by decide) rfl ?_
  refine g_mk [true, true] [some (.ref (B + 0)), some (.int 0)] rfl ?_
  exact v_X12_laysAside_l2 X  fz hM
theorem s_X12_laysAside  {u : gM} {w : gM} (hM : X12_laysAside u = some w) : gMet skM yX12_laysAside cX12_laysAside 2 none 0 0 (fun B adK => [.ref (B + 0)]) u ((fun _ => none), w) := by
  refine gMet.of (by decide) (fun _ _ => Nat.le_of_ble_eq_true rfl) (fun κ B X => ?_)
  have X : gX κ B skM cX12_laysAside 2 RX12 none 0 0 := X
  refine g_mk [true, false] [some (.ref (B + 0)), none] rfl ?_
  exact v_X12_laysAside X  hM
theorem fr_X12_laysAside_b2 {S : Nat → Prop} {u0 u : gM} {x1 : Int32} (hs0 : S 18) {k2 : Int32 → gM → Option gM} (ik2 : ∀ (x1 : Int32) (u : gM) (w : gM), S 18 → off S u0 u → k2 x1 u = some w → off S u0 w) {w : gM} (hM : X12_laysAside_b2 k2 x1 u = some w) (h0 : off S u0 u) : off S u0 w := by
  unfold X12_laysAside_b2 at hM
  by_cases c6 : 439 ≤ x1
  · rw [if_pos c6] at hM
    cases hM
    exact h0
  · rw [if_neg c6] at hM
    obtain ⟨v19, e19, hM⟩ := bind_of hM
    obtain ⟨u20, e20, hM⟩ := bind_of hM
    have h0 := off_sI hs0 e20 h0
    exact ik2 _ _ _ hs0 h0 hM
theorem fr_X12_laysAside_l2 {S : Nat → Prop} {u0 : gM}   : ∀ (n : Nat) {x1 : Int32} (hs0 : S 18) {u : gM} {w : gM} (h0 : off S u0 u) (hM : X12_laysAside_l2  n x1 u = some w), off S u0 w := by
  intro n
  induction n with
  | zero => intro x1 hs0 u w h0 hM; exact nomatch (show (none : Option gM) = some w from hM)
  | succ n ihn => intro x1 hs0 u w h0 hM; exact fr_X12_laysAside_b2 hs0  (fun x1 _ _ hs0 h0 h => ihn hs0 h0 h) hM h0
theorem fr_X12_laysAside {S : Nat → Prop} {u0 u : gM}  (hs0 : S 18)   {w : gM} (hM : X12_laysAside u = some w) (h0 : off S u0 u) : off S u0 w := by
  unfold X12_laysAside at hM
  exact fr_X12_laysAside_l2  fz hs0 h0 hM
/-! CoverDeskModel.puts(II)Z -/
theorem dX12_puts_0 : decode cX12_puts 0 = .ok (.aload_n 0, 1) := by decide +kernel
theorem dX12_puts_1 : decode cX12_puts 1 = .ok (.iload_n 1, 1) := by decide +kernel
theorem dX12_puts_2 : decode cX12_puts 2 = .ok (.invokevirtual 362, 3) := by decide +kernel
theorem dX12_puts_5 : decode cX12_puts 5 = .ok (.ifCond .eq 45, 3) := by decide +kernel
theorem dX12_puts_8 : decode cX12_puts 8 = .ok (.iload_n 2, 1) := by decide +kernel
theorem dX12_puts_9 : decode cX12_puts 9 = .ok (.ifCond .le 41, 3) := by decide +kernel
theorem dX12_puts_12 : decode cX12_puts 12 = .ok (.iload_n 2, 1) := by decide +kernel
theorem dX12_puts_13 : decode cX12_puts 13 = .ok (.ldc_w 365, 3) := by decide +kernel
theorem dX12_puts_16 : decode cX12_puts 16 = .ok (.aload_n 0, 1) := by decide +kernel
theorem dX12_puts_17 : decode cX12_puts 17 = .ok (.getfield 56, 3) := by decide +kernel
theorem dX12_puts_20 : decode cX12_puts 20 = .ok (.iconst 1, 1) := by decide +kernel
theorem dX12_puts_21 : decode cX12_puts 21 = .ok (.iload_n 1, 1) := by decide +kernel
theorem dX12_puts_22 : decode cX12_puts 22 = .ok (.iadd, 1) := by decide +kernel
theorem dX12_puts_23 : decode cX12_puts 23 = .ok (.iaload, 1) := by decide +kernel
theorem dX12_puts_24 : decode cX12_puts 24 = .ok (.isub, 1) := by decide +kernel
theorem dX12_puts_25 : decode cX12_puts 25 = .ok (.if_icmp .gt 25, 3) := by decide +kernel
theorem dX12_puts_28 : decode cX12_puts 28 = .ok (.aload_n 0, 1) := by decide +kernel
theorem dX12_puts_29 : decode cX12_puts 29 = .ok (.getfield 56, 3) := by decide +kernel
theorem dX12_puts_32 : decode cX12_puts 32 = .ok (.bipush 47, 2) := by decide +kernel
theorem dX12_puts_34 : decode cX12_puts 34 = .ok (.aload_n 0, 1) := by decide +kernel
theorem dX12_puts_35 : decode cX12_puts 35 = .ok (.aload_n 0, 1) := by decide +kernel
theorem dX12_puts_36 : decode cX12_puts 36 = .ok (.getfield 26, 3) := by decide +kernel
theorem dX12_puts_39 : decode cX12_puts 39 = .ok (.iload_n 1, 1) := by decide +kernel
theorem dX12_puts_40 : decode cX12_puts 40 = .ok (.iaload, 1) := by decide +kernel
theorem dX12_puts_41 : decode cX12_puts 41 = .ok (.invokevirtual 366, 3) := by decide +kernel
theorem dX12_puts_44 : decode cX12_puts 44 = .ok (.iadd, 1) := by decide +kernel
theorem dX12_puts_45 : decode cX12_puts 45 = .ok (.iaload, 1) := by decide +kernel
theorem dX12_puts_46 : decode cX12_puts 46 = .ok (.iconst 1, 1) := by decide +kernel
theorem dX12_puts_47 : decode cX12_puts 47 = .ok (.if_icmp .ne 5, 3) := by decide +kernel
theorem dX12_puts_50 : decode cX12_puts 50 = .ok (.iconst 0, 1) := by decide +kernel
theorem dX12_puts_51 : decode cX12_puts 51 = .ok (.ireturn, 1) := by decide +kernel
theorem dX12_puts_52 : decode cX12_puts 52 = .ok (.aload_n 0, 1) := by decide +kernel
theorem dX12_puts_53 : decode cX12_puts 53 = .ok (.getfield 56, 3) := by decide +kernel
theorem dX12_puts_56 : decode cX12_puts 56 = .ok (.iconst 1, 1) := by decide +kernel
theorem dX12_puts_57 : decode cX12_puts 57 = .ok (.iload_n 1, 1) := by decide +kernel
theorem dX12_puts_58 : decode cX12_puts 58 = .ok (.iadd, 1) := by decide +kernel
theorem dX12_puts_59 : decode cX12_puts 59 = .ok (.dup2, 1) := by decide +kernel
theorem dX12_puts_60 : decode cX12_puts 60 = .ok (.iaload, 1) := by decide +kernel
theorem dX12_puts_61 : decode cX12_puts 61 = .ok (.iload_n 2, 1) := by decide +kernel
theorem dX12_puts_62 : decode cX12_puts 62 = .ok (.iadd, 1) := by decide +kernel
theorem dX12_puts_63 : decode cX12_puts 63 = .ok (.iastore, 1) := by decide +kernel
theorem dX12_puts_64 : decode cX12_puts 64 = .ok (.iconst 1, 1) := by decide +kernel
theorem dX12_puts_65 : decode cX12_puts 65 = .ok (.ireturn, 1) := by decide +kernel
def X12_puts_b50   (u : gM) : Option (Int32 × gM) :=
some (0, u)
def X12_puts  (x1 : Int32) (x2 : Int32) (u : gM) : Option (Int32 × gM) :=
((X12_isAccount u x1).bind fun w2 => (if w2 = 0 then (X12_puts_b50 u)
  else (if x2 ≤ 0 then (X12_puts_b50 u)
    else ((aI skM u 16 (1 + x1)).bind fun v23 => (if (100000000 - v23) < x2 then (X12_puts_b50 u)
      else ((aI skM u 6 x1).bind fun v40 => ((X12_nowAt u v40).bind fun w41 => ((aI skM u 16 (47 + w41)).bind fun v45 => (if v45 = 1 then (X12_puts_b50 u)
        else ((aI skM u 16 (1 + x1)).bind fun v60 => ((sI skM u 16 (1 + x1) (v60 + x2)).bind fun u63 => some (1, u63))))))))))))
set_option maxRecDepth 20000 in
theorem v_X12_puts_b50 {κ : gK} {B : Nat} {u : gM} (X : gX κ B skM cX12_puts 3 RX12 (some .boolean) 2 46)    {w : (Int32 × gM)} (hM : X12_puts_b50 u = some w) : gV κ B skM 3 ((some (.int w.1)), w.2) 50 [none, none, none] [] u := by
  unfold X12_puts_b50 at hM
  refine g_iconst X (v := 0) dX12_puts_50 (by decide) ?_
  cases hM
  exact g_zret X (Or.inl rfl) dX12_puts_51
set_option maxRecDepth 20000 in
theorem v_X12_puts {κ : gK} {B : Nat} {u : gM} (X : gX κ B skM cX12_puts 3 RX12 (some .boolean) 2 46)   {x1 : Int32} {x2 : Int32} {w : (Int32 × gM)} (hM : X12_puts x1 x2 u = some w) : gV κ B skM 3 ((some (.int w.1)), w.2) 0 [some (.ref (B + 0)), some (.int x1), some (.int x2)] [] u := by
  unfold X12_puts at hM
  refine g_aload_n X dX12_puts_0 rfl ?_
  refine g_iload_n X dX12_puts_1 rfl ?_
  obtain ⟨w2, e2, hM⟩ := bind_of hM
  refine g_callVi X (fun B adK => [.int x1]) (s_X12_isAccount e2) cvX12_362 cM_0 rfl rfl (Nat.le_of_ble_eq_true rfl) ⟨by decide, by decide⟩ dX12_puts_2 ?_
  refine g_if_eq (tgt := 50) X dX12_puts_5 (by decide) (fun c5 => ?_) (fun c5 => ?_)
  · rw [if_pos c5] at hM
    refine g_mk [false, false, false] [none, none, none] rfl ?_
    exact v_X12_puts_b50 X  hM
  · rw [if_neg c5] at hM
    refine g_iload_n X dX12_puts_8 rfl ?_
    refine g_if_le (tgt := 50) X dX12_puts_9 (by decide) (fun c9 => ?_) (fun c9 => ?_)
    · rw [if_pos c9] at hM
      refine g_mk [false, false, false] [none, none, none] rfl ?_
      exact v_X12_puts_b50 X  hM
    · rw [if_neg c9] at hM
      refine g_iload_n X dX12_puts_12 rfl ?_
      refine g_ldc_w (v := 100000000) X m_39_13 dX12_puts_13 ?_
      refine g_aload_n X dX12_puts_16 rfl ?_
      refine g_getR X fX12_56 cM_0 rfl dX12_puts_17 ?_
      refine g_iconst X (v := 1) dX12_puts_20 (by decide) ?_
      refine g_iload_n X dX12_puts_21 rfl ?_
      refine g_iadd X dX12_puts_22 ?_
      obtain ⟨v23, e23, hM⟩ := bind_of hM
      refine g_iaload X e23 dX12_puts_23 ?_
      refine g_isub X dX12_puts_24 ?_
      refine g_icmp_gt (tgt := 50) X dX12_puts_25 (by decide) (fun c25 => ?_) (fun c25 => ?_)
      · rw [if_pos c25] at hM
        refine g_mk [false, false, false] [none, none, none] rfl ?_
        exact v_X12_puts_b50 X  hM
      · rw [if_neg c25] at hM
        refine g_aload_n X dX12_puts_28 rfl ?_
        refine g_getR X fX12_56 cM_0 rfl dX12_puts_29 ?_
        refine g_bipush X (v := 47) dX12_puts_32 (by decide) ?_
        refine g_aload_n X dX12_puts_34 rfl ?_
        refine g_aload_n X dX12_puts_35 rfl ?_
        refine g_getR X fX12_26 cM_0 rfl dX12_puts_36 ?_
        refine g_iload_n X dX12_puts_39 rfl ?_
        obtain ⟨v40, e40, hM⟩ := bind_of hM
        refine g_iaload X e40 dX12_puts_40 ?_
        obtain ⟨w41, e41, hM⟩ := bind_of hM
        refine g_callVi X (fun B adK => [.int v40]) (s_X12_nowAt e41) cvX12_366 cM_0 rfl rfl (Nat.le_of_ble_eq_true rfl) ⟨by decide, by decide⟩ dX12_puts_41 ?_
        refine g_iadd X dX12_puts_44 ?_
        obtain ⟨v45, e45, hM⟩ := bind_of hM
        refine g_iaload X e45 dX12_puts_45 ?_
        refine g_iconst X (v := 1) dX12_puts_46 (by decide) ?_
        refine g_icmp_ne (tgt := 52) X dX12_puts_47 (by decide) (fun c47 => ?_) (fun c47 => ?_)
        · rw [if_neg c47] at hM
          refine g_aload_n X dX12_puts_52 rfl ?_
          refine g_getR X fX12_56 cM_0 rfl dX12_puts_53 ?_
          refine g_iconst X (v := 1) dX12_puts_56 (by decide) ?_
          refine g_iload_n X dX12_puts_57 rfl ?_
          refine g_iadd X dX12_puts_58 ?_
          refine g_dup2_11 X rfl rfl dX12_puts_59 ?_
          obtain ⟨v60, e60, hM⟩ := bind_of hM
          refine g_iaload X e60 dX12_puts_60 ?_
          refine g_iload_n X dX12_puts_61 rfl ?_
          refine g_iadd X dX12_puts_62 ?_
          obtain ⟨u63, e63, hM⟩ := bind_of hM
          refine g_iastore X e63 dX12_puts_63 ?_
          refine g_iconst X (v := 1) dX12_puts_64 (by decide) ?_
          cases hM
          exact g_zret X (Or.inr rfl) dX12_puts_65
        · rw [if_pos c47] at hM
          refine g_mk [false, false, false] [none, none, none] rfl ?_
          exact v_X12_puts_b50 X  hM
theorem s_X12_puts {x1 : Int32} {x2 : Int32} {u : gM} {w : (Int32 × gM)} (hM : X12_puts x1 x2 u = some w) : gMet skM yX12_puts cX12_puts 3 (some .boolean) 2 46 (fun B adK => [.ref (B + 0), .int x1, .int x2]) u ((fun _ => some (.int w.1)), w.2) := by
  refine gMet.of (by decide) (fun _ _ => Nat.le_of_ble_eq_true rfl) (fun κ B X => ?_)
  have X : gX κ B skM cX12_puts 3 RX12 (some .boolean) 2 46 := X
  refine g_mk [true, true, true] [some (.ref (B + 0)), some (.int x1), some (.int x2)] rfl ?_
  exact v_X12_puts X  hM
theorem fr_X12_puts_b50 {S : Nat → Prop} {u0 u : gM}     {w : (Int32 × gM)} (hM : X12_puts_b50 u = some w) (h0 : off S u0 u) : off S u0 w.2 := by
  unfold X12_puts_b50 at hM
  cases hM
  exact h0
theorem fr_X12_puts {S : Nat → Prop} {u0 u : gM} {x1 : Int32} {x2 : Int32} (hs0 : S 16)   {w : (Int32 × gM)} (hM : X12_puts x1 x2 u = some w) (h0 : off S u0 u) : off S u0 w.2 := by
  unfold X12_puts at hM
  obtain ⟨w2, e2, hM⟩ := bind_of hM
  by_cases c5 : w2 = 0
  · rw [if_pos c5] at hM
    exact fr_X12_puts_b50   hM h0
  · rw [if_neg c5] at hM
    by_cases c9 : x2 ≤ 0
    · rw [if_pos c9] at hM
      exact fr_X12_puts_b50   hM h0
    · rw [if_neg c9] at hM
      obtain ⟨v23, e23, hM⟩ := bind_of hM
      by_cases c25 : (100000000 - v23) < x2
      · rw [if_pos c25] at hM
        exact fr_X12_puts_b50   hM h0
      · rw [if_neg c25] at hM
        obtain ⟨v40, e40, hM⟩ := bind_of hM
        obtain ⟨w41, e41, hM⟩ := bind_of hM
        obtain ⟨v45, e45, hM⟩ := bind_of hM
        by_cases c47 : v45 = 1
        · rw [if_pos c47] at hM
          exact fr_X12_puts_b50   hM h0
        · rw [if_neg c47] at hM
          obtain ⟨v60, e60, hM⟩ := bind_of hM
          obtain ⟨u63, e63, hM⟩ := bind_of hM
          have h0 := off_sI hs0 e63 h0
          cases hM
          exact h0

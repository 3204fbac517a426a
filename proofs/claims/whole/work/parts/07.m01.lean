/-! CoverDesk.bestKind(I)I -/
theorem dX11_bestKind_0 : decode cX11_bestKind 0 = .ok (.aload_n 0, 1) := by decide +kernel
theorem dX11_bestKind_1 : decode cX11_bestKind 1 = .ok (.getfield 19, 3) := by decide +kernel
theorem dX11_bestKind_4 : decode cX11_bestKind 4 = .ok (.iload_n 1, 1) := by decide +kernel
theorem dX11_bestKind_5 : decode cX11_bestKind 5 = .ok (.invokevirtual 177, 3) := by decide +kernel
theorem dX11_bestKind_8 : decode cX11_bestKind 8 = .ok (.ifCond .eq 18, 3) := by decide +kernel
theorem dX11_bestKind_11 : decode cX11_bestKind 11 = .ok (.aload_n 0, 1) := by decide +kernel
theorem dX11_bestKind_12 : decode cX11_bestKind 12 = .ok (.getfield 19, 3) := by decide +kernel
theorem dX11_bestKind_15 : decode cX11_bestKind 15 = .ok (.getfield 181, 3) := by decide +kernel
theorem dX11_bestKind_18 : decode cX11_bestKind 18 = .ok (.iload_n 1, 1) := by decide +kernel
theorem dX11_bestKind_19 : decode cX11_bestKind 19 = .ok (.iaload, 1) := by decide +kernel
theorem dX11_bestKind_20 : decode cX11_bestKind 20 = .ok (.invokestatic 368, 3) := by decide +kernel
theorem dX11_bestKind_23 : decode cX11_bestKind 23 = .ok (.ifCond .ne 5, 3) := by decide +kernel
theorem dX11_bestKind_26 : decode cX11_bestKind 26 = .ok (.iconst (-1), 1) := by decide +kernel
theorem dX11_bestKind_27 : decode cX11_bestKind 27 = .ok (.ireturn, 1) := by decide +kernel
theorem dX11_bestKind_28 : decode cX11_bestKind 28 = .ok (.aload_n 0, 1) := by decide +kernel
theorem dX11_bestKind_29 : decode cX11_bestKind 29 = .ok (.getfield 19, 3) := by decide +kernel
theorem dX11_bestKind_32 : decode cX11_bestKind 32 = .ok (.getfield 181, 3) := by decide +kernel
theorem dX11_bestKind_35 : decode cX11_bestKind 35 = .ok (.iload_n 1, 1) := by decide +kernel
theorem dX11_bestKind_36 : decode cX11_bestKind 36 = .ok (.iaload, 1) := by decide +kernel
theorem dX11_bestKind_37 : decode cX11_bestKind 37 = .ok (.istore_n 2, 1) := by decide +kernel
theorem dX11_bestKind_38 : decode cX11_bestKind 38 = .ok (.aload_n 0, 1) := by decide +kernel
theorem dX11_bestKind_39 : decode cX11_bestKind 39 = .ok (.iload_n 1, 1) := by decide +kernel
theorem dX11_bestKind_40 : decode cX11_bestKind 40 = .ok (.iload_n 2, 1) := by decide +kernel
theorem dX11_bestKind_41 : decode cX11_bestKind 41 = .ok (.invokevirtual 371, 3) := by decide +kernel
theorem dX11_bestKind_44 : decode cX11_bestKind 44 = .ok (.lstore_n 3, 1) := by decide +kernel
theorem dX11_bestKind_45 : decode cX11_bestKind 45 = .ok (.iconst 0, 1) := by decide +kernel
theorem dX11_bestKind_46 : decode cX11_bestKind 46 = .ok (.istore 5, 2) := by decide +kernel
theorem dX11_bestKind_48 : decode cX11_bestKind 48 = .ok (.iload 5, 2) := by decide +kernel
theorem dX11_bestKind_50 : decode cX11_bestKind 50 = .ok (.iconst 4, 1) := by decide +kernel
theorem dX11_bestKind_51 : decode cX11_bestKind 51 = .ok (.if_icmp .gt 39, 3) := by decide +kernel
theorem dX11_bestKind_54 : decode cX11_bestKind 54 = .ok (.iload 5, 2) := by decide +kernel
theorem dX11_bestKind_56 : decode cX11_bestKind 56 = .ok (.invokestatic 368, 3) := by decide +kernel
theorem dX11_bestKind_59 : decode cX11_bestKind 59 = .ok (.ifCond .eq 25, 3) := by decide +kernel
theorem dX11_bestKind_62 : decode cX11_bestKind 62 = .ok (.aload_n 0, 1) := by decide +kernel
theorem dX11_bestKind_63 : decode cX11_bestKind 63 = .ok (.iload_n 1, 1) := by decide +kernel
theorem dX11_bestKind_64 : decode cX11_bestKind 64 = .ok (.iload 5, 2) := by decide +kernel
theorem dX11_bestKind_66 : decode cX11_bestKind 66 = .ok (.invokevirtual 371, 3) := by decide +kernel
theorem dX11_bestKind_69 : decode cX11_bestKind 69 = .ok (.lstore 6, 2) := by decide +kernel
theorem dX11_bestKind_71 : decode cX11_bestKind 71 = .ok (.lload 6, 2) := by decide +kernel
theorem dX11_bestKind_73 : decode cX11_bestKind 73 = .ok (.lload_n 3, 1) := by decide +kernel
theorem dX11_bestKind_74 : decode cX11_bestKind 74 = .ok (.lcmp, 1) := by decide +kernel
theorem dX11_bestKind_75 : decode cX11_bestKind 75 = .ok (.ifCond .le 9, 3) := by decide +kernel
theorem dX11_bestKind_78 : decode cX11_bestKind 78 = .ok (.lload 6, 2) := by decide +kernel
theorem dX11_bestKind_80 : decode cX11_bestKind 80 = .ok (.lstore_n 3, 1) := by decide +kernel
theorem dX11_bestKind_81 : decode cX11_bestKind 81 = .ok (.iload 5, 2) := by decide +kernel
theorem dX11_bestKind_83 : decode cX11_bestKind 83 = .ok (.istore_n 2, 1) := by decide +kernel
theorem dX11_bestKind_84 : decode cX11_bestKind 84 = .ok (.iinc 5 1, 3) := by decide +kernel
theorem dX11_bestKind_87 : decode cX11_bestKind 87 = .ok (.goto (-39), 3) := by decide +kernel
theorem dX11_bestKind_90 : decode cX11_bestKind 90 = .ok (.iload_n 2, 1) := by decide +kernel
theorem dX11_bestKind_91 : decode cX11_bestKind 91 = .ok (.ireturn, 1) := by decide +kernel
def X11_bestKind_b26   (u : gM) : Option (Int32 × gM) :=
some ((-1), u)
def X11_bestKind_b84 (k48 : Int32 → Int32 → Int64 → Int32 → gM → Option (Int32 × gM)) (x1 : Int32) (x2 : Int32) (x3 : Int64) (x5 : Int32) (u : gM) : Option (Int32 × gM) :=
(k48 x1 x2 x3 (x5 + 1) u)
def X11_bestKind_b48 (k48 : Int32 → Int32 → Int64 → Int32 → gM → Option (Int32 × gM)) (x1 : Int32) (x2 : Int32) (x3 : Int64) (x5 : Int32) (u : gM) : Option (Int32 × gM) :=
(if 4 < x5 then some (x2, u)
  else ((X11_isPlainKind u x5).bind fun w56 => (if w56 = 0 then (X11_bestKind_b84 k48 x1 x2 x3 x5 u)
    else ((X11_insuredAsKind x1 x5 u).bind fun w66 => (if (lg_cmp w66.1 x3) ≤ 0 then (X11_bestKind_b84 k48 x1 x2 x3 x5 w66.2)
      else (X11_bestKind_b84 k48 x1 x5 w66.1 x5 w66.2))))))
def X11_bestKind_l48  : Nat → Int32 → Int32 → Int64 → Int32 → gM → Option (Int32 × gM)
  | 0, _, _, _, _, _ => none
  | n + 1, x1, x2, x3, x5, u => X11_bestKind_b48  (X11_bestKind_l48  n) x1 x2 x3 x5 u
def X11_bestKind  (x1 : Int32) (u : gM) : Option (Int32 × gM) :=
((X10_isAccount u 3 x1).bind fun w5 => (if w5 = 0 then (X11_bestKind_b26 u)
  else ((aI skC u 7 x1).bind fun v19 => ((X11_isPlainKind u v19).bind fun w20 => (if w20 = 0 then (X11_bestKind_b26 u)
    else ((aI skC u 7 x1).bind fun v36 => ((X11_insuredAsKind x1 v36 u).bind fun w41 => (X11_bestKind_l48 fz x1 v36 w41.1 0 w41.2))))))))
set_option maxRecDepth 20000 in
theorem v_X11_bestKind_b26 {κ : gK} {B : Nat} {u : gM} (X : gX κ B skC cX11_bestKind 8 RX11 (some .int) 6 145)    {w : (Int32 × gM)} (hM : X11_bestKind_b26 u = some w) : gV κ B skC 8 ((some (.int w.1)), w.2) 26 [none, none, none, none, none, none, none, none] [] u := by
  unfold X11_bestKind_b26 at hM
  refine g_iconst X (v := (-1)) dX11_bestKind_26 (by decide) ?_
  cases hM
  exact g_iret X dX11_bestKind_27
set_option maxRecDepth 20000 in
theorem v_X11_bestKind_b84 {κ : gK} {B : Nat} {u : gM} (X : gX κ B skC cX11_bestKind 8 RX11 (some .int) 6 145) {k48 : Int32 → Int32 → Int64 → Int32 → gM → Option (Int32 × gM)} (ih48 : ∀ (x1 : Int32) (x2 : Int32) (x3 : Int64) (x5 : Int32) (u : gM) (w : (Int32 × gM)), k48 x1 x2 x3 x5 u = some w → gV κ B skC 8 ((some (.int w.1)), w.2) 48 [some (.ref (B + 0)), some (.int x1), some (.int x2), some (.long x3), none, some (.int x5), none, none] [] u) {x1 : Int32} {x2 : Int32} {x3 : Int64} {x5 : Int32} {w : (Int32 × gM)} (hM : X11_bestKind_b84 k48 x1 x2 x3 x5 u = some w) : gV κ B skC 8 ((some (.int w.1)), w.2) 84 [some (.ref (B + 0)), some (.int x1), some (.int x2), some (.long x3), none, some (.int x5), none, none] [] u := by
  unfold X11_bestKind_b84 at hM
  refine g_iinc (d := 1) X [some (.ref (B + 0)), some (.int x1), some (.int x2), some (.long x3), none, some (.int (x5 + 1)), none, none] dX11_bestKind_84 (by decide) rfl (by decide) rfl ?_
  refine g_goto (tgt := 48) X dX11_bestKind_87 (by decide) ?_
  refine g_mk [true, true, true, true, false, true, false, false] [some (.ref (B + 0)), some (.int x1), some (.int x2), some (.long x3), none, some (.int (x5 + 1)), none, none] rfl ?_
  exact ih48 x1 x2 x3 (x5 + 1) u _ hM
set_option maxRecDepth 20000 in
theorem v_X11_bestKind_b48 {κ : gK} {B : Nat} {u : gM} (X : gX κ B skC cX11_bestKind 8 RX11 (some .int) 6 145) {k48 : Int32 → Int32 → Int64 → Int32 → gM → Option (Int32 × gM)} (ih48 : ∀ (x1 : Int32) (x2 : Int32) (x3 : Int64) (x5 : Int32) (u : gM) (w : (Int32 × gM)), k48 x1 x2 x3 x5 u = some w → gV κ B skC 8 ((some (.int w.1)), w.2) 48 [some (.ref (B + 0)), some (.int x1), some (.int x2), some (.long x3), none, some (.int x5), none, none] [] u) {x1 : Int32} {x2 : Int32} {x3 : Int64} {x5 : Int32} {w : (Int32 × gM)} (hM : X11_bestKind_b48 k48 x1 x2 x3 x5 u = some w) : gV κ B skC 8 ((some (.int w.1)), w.2) 48 [some (.ref (B + 0)), some (.int x1), some (.int x2), some (.long x3), none, some (.int x5), none, none] [] u := by
  unfold X11_bestKind_b48 at hM
  refine g_iload X dX11_bestKind_48 rfl ?_
  refine g_iconst X (v := 4) dX11_bestKind_50 (by decide) ?_
  refine g_icmp_gt (tgt := 90) X dX11_bestKind_51 (by decide) (fun c51 => ?_) (fun c51 => ?_)
  · rw [if_pos c51] at hM
    refine g_iload_n X dX11_bestKind_90 rfl ?_
    cases hM
    exact g_iret X dX11_bestKind_91
  · rw [if_neg c51] at hM
    refine g_iload X dX11_bestKind_54 rfl ?_
    obtain ⟨w56, e56, hM⟩ := bind_of hM
    refine g_callSi X (fun B adK => [.int x5]) (s_X11_isPlainKind e56) cvX11_368 rfl rfl (Nat.le_of_ble_eq_true rfl) ⟨by decide, by decide⟩ dX11_bestKind_56 ?_
    refine g_if_eq (tgt := 84) X dX11_bestKind_59 (by decide) (fun c59 => ?_) (fun c59 => ?_)
    · rw [if_pos c59] at hM
      refine g_mk [true, true, true, true, false, true, false, false] [some (.ref (B + 0)), some (.int x1), some (.int x2), some (.long x3), none, some (.int x5), none, none] rfl ?_
      exact v_X11_bestKind_b84 X ih48 hM
    · rw [if_neg c59] at hM
      refine g_aload_n X dX11_bestKind_62 rfl ?_
      refine g_iload_n X dX11_bestKind_63 rfl ?_
      refine g_iload X dX11_bestKind_64 rfl ?_
      obtain ⟨w66, e66, hM⟩ := bind_of hM
      refine g_callVl X (fun B adK => [.int x1, .int x5]) (s_X11_insuredAsKind e66) cvX11_371 cC_0 rfl rfl (Nat.le_of_ble_eq_true rfl) ⟨by decide, by decide⟩ dX11_bestKind_66 ?_
      refine g_lstore X [some (.ref (B + 0)), some (.int x1), some (.int x2), some (.long x3), none, some (.int x5), some (.long w66.1), none] dX11_bestKind_69 (by decide) rfl ?_
      refine g_lload X dX11_bestKind_71 rfl ?_
      refine g_lload_n X dX11_bestKind_73 rfl ?_
      refine g_lcmp X dX11_bestKind_74 ?_
      refine g_if_le (tgt := 84) X dX11_bestKind_75 (by decide) (fun c75 => ?_) (fun c75 => ?_)
      · rw [if_pos c75] at hM
        refine g_mk [true, true, true, true, false, true, false, false] [some (.ref (B + 0)), some (.int x1), some (.int x2), some (.long x3), none, some (.int x5), none, none] rfl ?_
        exact v_X11_bestKind_b84 X ih48 hM
      · rw [if_neg c75] at hM
        refine g_lload X dX11_bestKind_78 rfl ?_
        refine g_lstore_n X [some (.ref (B + 0)), some (.int x1), some (.int x2), some (.long w66.1), none, some (.int x5), some (.long w66.1), none] dX11_bestKind_80 (by decide) rfl ?_
        refine g_iload X dX11_bestKind_81 rfl ?_
        refine g_istore_n X [some (.ref (B + 0)), some (.int x1), some (.int x5), some (.long w66.1), none, some (.int x5), some (.long w66.1), none] dX11_bestKind_83 (by decide) rfl ?_
        refine g_mk [true, true, true, true, false, true, false, false] [some (.ref (B + 0)), some (.int x1), some (.int x5), some (.long w66.1), none, some (.int x5), none, none] rfl ?_
        exact v_X11_bestKind_b84 X ih48 hM
theorem v_X11_bestKind_l48 {κ : gK} {B : Nat} (X : gX κ B skC cX11_bestKind 8 RX11 (some .int) 6 145)   : ∀ (n : Nat) {x1 : Int32} {x2 : Int32} {x3 : Int64} {x5 : Int32} {u : gM} {w : (Int32 × gM)} (hM : X11_bestKind_l48  n x1 x2 x3 x5 u = some w), gV κ B skC 8 ((some (.int w.1)), w.2) 48 [some (.ref (B + 0)), some (.int x1), some (.int x2), some (.long x3), none, some (.int x5), none, none] [] u := by
  intro n
  induction n with
  | zero => intro x1 x2 x3 x5 u w hM; exact nomatch (show (none : Option (Int32 × gM)) = some w from hM)
  | succ n ihn => intro x1 x2 x3 x5 u w hM; exact v_X11_bestKind_b48 X  (fun x1 x2 x3 x5 u w h => ihn h) hM
set_option maxRecDepth 20000 in
theorem v_X11_bestKind {κ : gK} {B : Nat} {u : gM} (X : gX κ B skC cX11_bestKind 8 RX11 (some .int) 6 145)   {x1 : Int32} {w : (Int32 × gM)} (hM : X11_bestKind x1 u = some w) : gV κ B skC 8 ((some (.int w.1)), w.2) 0 [some (.ref (B + 0)), some (.int x1), none, none, none, none, none, none] [] u := by
  unfold X11_bestKind at hM
  refine g_aload_n X dX11_bestKind_0 rfl ?_
  refine g_getR X fX11_19 cC_0 rfl dX11_bestKind_1 ?_
  refine g_iload_n X dX11_bestKind_4 rfl ?_
  obtain ⟨w5, e5, hM⟩ := bind_of hM
  refine g_callVi X (fun B adK => [.int x1]) (s_X10_isAccount e5) cvX11_177 cC_3 rfl rfl (Nat.le_of_ble_eq_true rfl) ⟨by decide, by decide⟩ dX11_bestKind_5 ?_
  refine g_if_eq (tgt := 26) X dX11_bestKind_8 (by decide) (fun c8 => ?_) (fun c8 => ?_)
  · rw [if_pos c8] at hM
    refine g_mk [false, false, false, false, false, false, false, false] [none, none, none, none, none, none, none, none] rfl ?_
    exact v_X11_bestKind_b26 X  hM
  · rw [if_neg c8] at hM
    refine g_aload_n X dX11_bestKind_11 rfl ?_
    refine g_getR X fX11_19 cC_0 rfl dX11_bestKind_12 ?_
    refine g_getR X fX11_181 cC_3 rfl dX11_bestKind_15 ?_
    refine g_iload_n X dX11_bestKind_18 rfl ?_
    obtain ⟨v19, e19, hM⟩ := bind_of hM
    refine g_iaload X e19 dX11_bestKind_19 ?_
    obtain ⟨w20, e20, hM⟩ := bind_of hM
    refine g_callSi X (fun B adK => [.int v19]) (s_X11_isPlainKind e20) cvX11_368 rfl rfl (Nat.le_of_ble_eq_true rfl) ⟨by decide, by decide⟩ dX11_bestKind_20 ?_
    refine g_if_ne (tgt := 28) X dX11_bestKind_23 (by decide) (fun c23 => ?_) (fun c23 => ?_)
    · rw [if_neg c23] at hM
      refine g_aload_n X dX11_bestKind_28 rfl ?_
      refine g_getR X fX11_19 cC_0 rfl dX11_bestKind_29 ?_
      refine g_getR X fX11_181 cC_3 rfl dX11_bestKind_32 ?_
      refine g_iload_n X dX11_bestKind_35 rfl ?_
      obtain ⟨v36, e36, hM⟩ := bind_of hM
      refine g_iaload X e36 dX11_bestKind_36 ?_
      refine g_istore_n X [some (.ref (B + 0)), some (.int x1), some (.int v36), none, none, none, none, none] dX11_bestKind_37 (by decide) rfl ?_
      refine g_aload_n X dX11_bestKind_38 rfl ?_
      refine g_iload_n X dX11_bestKind_39 rfl ?_
      refine g_iload_n X dX11_bestKind_40 rfl ?_
      obtain ⟨w41, e41, hM⟩ := bind_of hM
      refine g_callVl X (fun B adK => [.int x1, .int v36]) (s_X11_insuredAsKind e41) cvX11_371 cC_0 rfl rfl (Nat.le_of_ble_eq_true rfl) ⟨by decide, by decide⟩ dX11_bestKind_41 ?_
      refine g_lstore_n X [some (.ref (B + 0)), some (.int x1), some (.int v36), some (.long w41.1), none, none, none, none] dX11_bestKind_44 (by decide) rfl ?_
      refine g_iconst X (v := 0) dX11_bestKind_45 (by decide) ?_
      refine g_istore X [some (.ref (B + 0)), some (.int x1), some (.int v36), some (.long w41.1), none, some (.int 0), none, none] dX11_bestKind_46 (by decide) rfl ?_
      refine g_mk [true, true, true, true, false, true, false, false] [some (.ref (B + 0)), some (.int x1), some (.int v36), some (.long w41.1), none, some (.int 0), none, none] rfl ?_
      exact v_X11_bestKind_l48 X  fz hM
    · rw [if_pos c23] at hM
      refine g_mk [false, false, false, false, false, false, false, false] [none, none, none, none, none, none, none, none] rfl ?_
      exact v_X11_bestKind_b26 X  hM
theorem s_X11_bestKind {x1 : Int32} {u : gM} {w : (Int32 × gM)} (hM : X11_bestKind x1 u = some w) : gMet skC yX11_bestKind cX11_bestKind 8 (some .int) 6 145 (fun B adK => [.ref (B + 0), .int x1]) u ((fun _ => some (.int w.1)), w.2) := by
  refine gMet.of (by decide) (fun _ _ => Nat.le_of_ble_eq_true rfl) (fun κ B X => ?_)
  have X : gX κ B skC cX11_bestKind 8 RX11 (some .int) 6 145 := X
  refine g_mk [true, true, false, false, false, false, false, false] [some (.ref (B + 0)), some (.int x1), none, none, none, none, none, none] rfl ?_
  exact v_X11_bestKind X  hM
theorem fr_X11_bestKind_b26 {S : Nat → Prop} {u0 u : gM}     {w : (Int32 × gM)} (hM : X11_bestKind_b26 u = some w) (h0 : off S u0 u) : off S u0 w.2 := by
  unfold X11_bestKind_b26 at hM
  cases hM
  exact h0
theorem fr_X11_bestKind_b84 {S : Nat → Prop} {u0 u : gM} {x1 : Int32} {x2 : Int32} {x3 : Int64} {x5 : Int32} (hs0 : S (rf skC 138 2)) (hs1 : S (rf skC 138 3)) (hs2 : S (rf skC 138 4)) (hs3 : S 137) (hs4 : S 138) (hs5 : S 142) (hs6 : S 143) (hs7 : S 144) (hs8 : S 7) {k48 : Int32 → Int32 → Int64 → Int32 → gM → Option (Int32 × gM)} (ik48 : ∀ (x1 : Int32) (x2 : Int32) (x3 : Int64) (x5 : Int32) (u : gM) (w : (Int32 × gM)), S (rf skC 138 2) → S (rf skC 138 3) → S (rf skC 138 4) → S 137 → S 138 → S 142 → S 143 → S 144 → S 7 → off S u0 u → k48 x1 x2 x3 x5 u = some w → off S u0 w.2) {w : (Int32 × gM)} (hM : X11_bestKind_b84 k48 x1 x2 x3 x5 u = some w) (h0 : off S u0 u) : off S u0 w.2 := by
  unfold X11_bestKind_b84 at hM
  exact ik48 _ _ _ _ _ _ hs0 hs1 hs2 hs3 hs4 hs5 hs6 hs7 hs8 h0 hM
theorem fr_X11_bestKind_b48 {S : Nat → Prop} {u0 u : gM} {x1 : Int32} {x2 : Int32} {x3 : Int64} {x5 : Int32} (hs0 : S (rf skC 138 2)) (hs1 : S (rf skC 138 3)) (hs2 : S (rf skC 138 4)) (hs3 : S 137) (hs4 : S 138) (hs5 : S 142) (hs6 : S 143) (hs7 : S 144) (hs8 : S 7) {k48 : Int32 → Int32 → Int64 → Int32 → gM → Option (Int32 × gM)} (ik48 : ∀ (x1 : Int32) (x2 : Int32) (x3 : Int64) (x5 : Int32) (u : gM) (w : (Int32 × gM)), S (rf skC 138 2) → S (rf skC 138 3) → S (rf skC 138 4) → S 137 → S 138 → S 142 → S 143 → S 144 → S 7 → off S u0 u → k48 x1 x2 x3 x5 u = some w → off S u0 w.2) {w : (Int32 × gM)} (hM : X11_bestKind_b48 k48 x1 x2 x3 x5 u = some w) (h0 : off S u0 u) : off S u0 w.2 := by
  unfold X11_bestKind_b48 at hM
  by_cases c51 : 4 < x5
  · rw [if_pos c51] at hM
    cases hM
    exact h0
  · rw [if_neg c51] at hM
    obtain ⟨w56, e56, hM⟩ := bind_of hM
    by_cases c59 : w56 = 0
    · rw [if_pos c59] at hM
      exact fr_X11_bestKind_b84 hs0 hs1 hs2 hs3 hs4 hs5 hs6 hs7 hs8 ik48 hM h0
    · rw [if_neg c59] at hM
      obtain ⟨w66, e66, hM⟩ := bind_of hM
      have h0 := fr_X11_insuredAsKind hs0 hs1 hs2 hs3 hs4 hs5 hs6 hs7 hs8 e66 h0
      by_cases c75 : (lg_cmp w66.1 x3) ≤ 0
      · rw [if_pos c75] at hM
        exact fr_X11_bestKind_b84 hs0 hs1 hs2 hs3 hs4 hs5 hs6 hs7 hs8 ik48 hM h0
      · rw [if_neg c75] at hM
        exact fr_X11_bestKind_b84 hs0 hs1 hs2 hs3 hs4 hs5 hs6 hs7 hs8 ik48 hM h0
theorem fr_X11_bestKind_l48 {S : Nat → Prop} {u0 : gM}   : ∀ (n : Nat) {x1 : Int32} {x2 : Int32} {x3 : Int64} {x5 : Int32} (hs0 : S (rf skC 138 2)) (hs1 : S (rf skC 138 3)) (hs2 : S (rf skC 138 4)) (hs3 : S 137) (hs4 : S 138) (hs5 : S 142) (hs6 : S 143) (hs7 : S 144) (hs8 : S 7) {u : gM} {w : (Int32 × gM)} (h0 : off S u0 u) (hM : X11_bestKind_l48  n x1 x2 x3 x5 u = some w), off S u0 w.2 := by
  intro n
  induction n with
  | zero => intro x1 x2 x3 x5 hs0 hs1 hs2 hs3 hs4 hs5 hs6 hs7 hs8 u w h0 hM; exact nomatch (show (none : Option (Int32 × gM)) = some w from hM)
  | succ n ihn => intro x1 x2 x3 x5 hs0 hs1 hs2 hs3 hs4 hs5 hs6 hs7 hs8 u w h0 hM; exact fr_X11_bestKind_b48 hs0 hs1 hs2 hs3 hs4 hs5 hs6 hs7 hs8  (fun x1 x2 x3 x5 _ _ hs0 hs1 hs2 hs3 hs4 hs5 hs6 hs7 hs8 h0 h => ihn hs0 hs1 hs2 hs3 hs4 hs5 hs6 hs7 hs8 h0 h) hM h0
theorem fr_X11_bestKind {S : Nat → Prop} {u0 u : gM} {x1 : Int32} (hs0 : S (rf skC 138 2)) (hs1 : S (rf skC 138 3)) (hs2 : S (rf skC 138 4)) (hs3 : S 137) (hs4 : S 138) (hs5 : S 142) (hs6 : S 143) (hs7 : S 144) (hs8 : S 7)   {w : (Int32 × gM)} (hM : X11_bestKind x1 u = some w) (h0 : off S u0 u) : off S u0 w.2 := by
  unfold X11_bestKind at hM
  obtain ⟨w5, e5, hM⟩ := bind_of hM
  by_cases c8 : w5 = 0
  · rw [if_pos c8] at hM
    exact fr_X11_bestKind_b26   hM h0
  · rw [if_neg c8] at hM
    obtain ⟨v19, e19, hM⟩ := bind_of hM
    obtain ⟨w20, e20, hM⟩ := bind_of hM
    by_cases c23 : w20 = 0
    · rw [if_pos c23] at hM
      exact fr_X11_bestKind_b26   hM h0
    · rw [if_neg c23] at hM
      obtain ⟨v36, e36, hM⟩ := bind_of hM
      obtain ⟨w41, e41, hM⟩ := bind_of hM
      have h0 := fr_X11_insuredAsKind hs0 hs1 hs2 hs3 hs4 hs5 hs6 hs7 hs8 e41 h0
      exact fr_X11_bestKind_l48  fz hs0 hs1 hs2 hs3 hs4 hs5 hs6 hs7 hs8 h0 hM
/-! CoverDesk$Told.clear()V -/
theorem dX10_clear_0 : decode cX10_clear 0 = .ok (.aload_n 0, 1) := by decide +kernel
theorem dX10_clear_1 : decode cX10_clear 1 = .ok (.iconst 0, 1) := by decide +kernel
theorem dX10_clear_2 : decode cX10_clear 2 = .ok (.putfield 63, 3) := by decide +kernel
theorem dX10_clear_5 : decode cX10_clear 5 = .ok (.aload_n 0, 1) := by decide +kernel
theorem dX10_clear_6 : decode cX10_clear 6 = .ok (.iconst 0, 1) := by decide +kernel
theorem dX10_clear_7 : decode cX10_clear 7 = .ok (.putfield 66, 3) := by decide +kernel
theorem dX10_clear_10 : decode cX10_clear 10 = .ok (.aload_n 0, 1) := by decide +kernel
theorem dX10_clear_11 : decode cX10_clear 11 = .ok (.iconst 0, 1) := by decide +kernel
theorem dX10_clear_12 : decode cX10_clear 12 = .ok (.putfield 69, 3) := by decide +kernel
theorem dX10_clear_15 : decode cX10_clear 15 = .ok (.aload_n 0, 1) := by decide +kernel
theorem dX10_clear_16 : decode cX10_clear 16 = .ok (.iconst 0, 1) := by decide +kernel
theorem dX10_clear_17 : decode cX10_clear 17 = .ok (.putfield 72, 3) := by decide +kernel
theorem dX10_clear_20 : decode cX10_clear 20 = .ok (.aload_n 0, 1) := by decide +kernel
theorem dX10_clear_21 : decode cX10_clear 21 = .ok (.ldc 9, 2) := by decide +kernel
theorem dX10_clear_23 : decode cX10_clear 23 = .ok (.putfield 10, 3) := by decide +kernel
theorem dX10_clear_26 : decode cX10_clear 26 = .ok (.aload_n 0, 1) := by decide +kernel
theorem dX10_clear_27 : decode cX10_clear 27 = .ok (.bipush 6, 2) := by decide +kernel
theorem dX10_clear_29 : decode cX10_clear 29 = .ok (.putfield 16, 3) := by decide +kernel
theorem dX10_clear_32 : decode cX10_clear 32 = .ok (.return_, 1) := by decide +kernel
def X10_clear_b20  (x0 : Nat) (u : gM) : Option gM :=
(if isO skC x0 10 = true then some (upI (upI u x0 4 250000) x0 5 6)
 else none)
def X10_clear  (x0 : Nat) (u : gM) : Option gM :=
(if isO skC x0 10 = true then (X10_clear_b20 x0 (upI (upI (upI (upI u x0 0 0) x0 1 0) x0 2 0) x0 3 0))
 else none)
set_option maxRecDepth 20000 in
theorem v_X10_clear_b20 {κ : gK} {B : Nat} {u : gM} (X : gX κ B skC cX10_clear 1 RX10 none 0 0)   {x0 : Nat} {w : gM} (hM : X10_clear_b20 x0 u = some w) : gV κ B skC 1 ((none), w) 20 [some (.ref (B + x0))] [] u := by
  unfold X10_clear_b20 at hM
  refine g_aload_n X dX10_clear_20 rfl ?_
  refine g_ldc (v := 250000) X m_3_13 dX10_clear_21 ?_
  obtain ⟨o0, hM⟩ := ite_of hM
  refine g_putI X fX10_10 gc_X10 gp_X10_4 (sh_X10 o0) rfl dX10_clear_23 ?_
  refine g_aload_n X dX10_clear_26 rfl ?_
  refine g_bipush X (v := 6) dX10_clear_27 (by decide) ?_
  refine g_putI X fX10_16 gc_X10 gp_X10_5 (sh_X10 o0) rfl dX10_clear_29 ?_
  cases hM
  exact g_vret X dX10_clear_32
set_option maxRecDepth 20000 in
theorem v_X10_clear {κ : gK} {B : Nat} {u : gM} (X : gX κ B skC cX10_clear 1 RX10 none 0 0)   {x0 : Nat} {w : gM} (hM : X10_clear x0 u = some w) : gV κ B skC 1 ((none), w) 0 [some (.ref (B + x0))] [] u := by
  unfold X10_clear at hM
  refine g_aload_n X dX10_clear_0 rfl ?_
  refine g_iconst X (v := 0) dX10_clear_1 (by decide) ?_
  obtain ⟨o0, hM⟩ := ite_of hM
  refine g_putI X fX10_63 gc_X10 gp_X10_0 (sh_X10 o0) rfl dX10_clear_2 ?_
  refine g_aload_n X dX10_clear_5 rfl ?_
  refine g_iconst X (v := 0) dX10_clear_6 (by decide) ?_
  refine g_putI X fX10_66 gc_X10 gp_X10_1 (sh_X10 o0) rfl dX10_clear_7 ?_
  refine g_aload_n X dX10_clear_10 rfl ?_
  refine g_iconst X (v := 0) dX10_clear_11 (by decide) ?_
  refine g_putI X fX10_69 gc_X10 gp_X10_2 (sh_X10 o0) rfl dX10_clear_12 ?_
  refine g_aload_n X dX10_clear_15 rfl ?_
  refine g_iconst X (v := 0) dX10_clear_16 (by decide) ?_
  refine g_putI X fX10_72 gc_X10 gp_X10_3 (sh_X10 o0) rfl dX10_clear_17 ?_
  refine g_mk [true] [some (.ref (B + x0))] rfl ?_
  exact v_X10_clear_b20 X  hM
theorem s_X10_clear {x0 : Nat} {u : gM} {w : gM} (hM : X10_clear x0 u = some w) : gMet skC yX10_clear cX10_clear 1 none 0 0 (fun B adK => [.ref (B + x0)]) u ((fun _ => none), w) := by
  refine gMet.of (by decide) (fun _ _ => Nat.le_of_ble_eq_true rfl) (fun κ B X => ?_)
  have X : gX κ B skC cX10_clear 1 RX10 none 0 0 := X
  refine g_mk [true] [some (.ref (B + x0))] rfl ?_
  exact v_X10_clear X  hM
theorem fr_X10_clear_b20 {S : Nat → Prop} {u0 u : gM} {x0 : Nat} (hs0 : S x0)   {w : gM} (hM : X10_clear_b20 x0 u = some w) (h0 : off S u0 u) : off S u0 w := by
  unfold X10_clear_b20 at hM
  obtain ⟨o0, hM⟩ := ite_of hM
  have h0 := off_upI (u := u) (k := x0) (j := 4) (x := 250000) hs0 h0
  have h0 := off_upI (u := (upI u x0 4 250000)) (k := x0) (j := 5) (x := 6) hs0 h0
  cases hM
  exact h0
theorem fr_X10_clear {S : Nat → Prop} {u0 u : gM} {x0 : Nat} (hs0 : S x0)   {w : gM} (hM : X10_clear x0 u = some w) (h0 : off S u0 u) : off S u0 w := by
  unfold X10_clear at hM
  obtain ⟨o0, hM⟩ := ite_of hM
  have h0 := off_upI (u := u) (k := x0) (j := 0) (x := 0) hs0 h0
  have h0 := off_upI (u := (upI u x0 0 0)) (k := x0) (j := 1) (x := 0) hs0 h0
  have h0 := off_upI (u := (upI (upI u x0 0 0) x0 1 0)) (k := x0) (j := 2) (x := 0) hs0 h0
  have h0 := off_upI (u := (upI (upI (upI u x0 0 0) x0 1 0) x0 2 0)) (k := x0) (j := 3) (x := 0) hs0 h0
  exact fr_X10_clear_b20 hs0  hM h0
/-! CoverDesk$Tape.forgetFault()V -/
theorem dX9_forgetFault_0 : decode cX9_forgetFault 0 = .ok (.aload_n 0, 1) := by decide +kernel
theorem dX9_forgetFault_1 : decode cX9_forgetFault 1 = .ok (.iconst 0, 1) := by decide +kernel
theorem dX9_forgetFault_2 : decode cX9_forgetFault 2 = .ok (.putfield 22, 3) := by decide +kernel
theorem dX9_forgetFault_5 : decode cX9_forgetFault 5 = .ok (.aload_n 0, 1) := by decide +kernel
theorem dX9_forgetFault_6 : decode cX9_forgetFault 6 = .ok (.iconst (-1), 1) := by decide +kernel
theorem dX9_forgetFault_7 : decode cX9_forgetFault 7 = .ok (.putfield 9, 3) := by decide +kernel
theorem dX9_forgetFault_10 : decode cX9_forgetFault 10 = .ok (.return_, 1) := by decide +kernel
def X9_forgetFault   (u : gM) : Option gM :=
some (upI (upI u 1 1 0) 1 2 (-1))
set_option maxRecDepth 20000 in
theorem v_X9_forgetFault {κ : gK} {B : Nat} {u : gM} (X : gX κ B skC cX9_forgetFault 1 RX9 none 0 0)    {w : gM} (hM : X9_forgetFault u = some w) : gV κ B skC 1 ((none), w) 0 [some (.ref (B + 1))] [] u := by
  unfold X9_forgetFault at hM
  refine g_aload_n X dX9_forgetFault_0 rfl ?_
  refine g_iconst X (v := 0) dX9_forgetFault_1 (by decide) ?_
  refine g_putI X fX9_22 gc_X9 gp_X9_1 cC_1 rfl dX9_forgetFault_2 ?_
  refine g_aload_n X dX9_forgetFault_5 rfl ?_
  refine g_iconst X (v := (-1)) dX9_forgetFault_6 (by decide) ?_
  refine g_putI X fX9_9 gc_X9 gp_X9_2 cC_1 rfl dX9_forgetFault_7 ?_
  cases hM
  exact g_vret X dX9_forgetFault_10
theorem s_X9_forgetFault  {u : gM} {w : gM} (hM : X9_forgetFault u = some w) : gMet skC yX9_forgetFault cX9_forgetFault 1 none 0 0 (fun B adK => [.ref (B + 1)]) u ((fun _ => none), w) := by
  refine gMet.of (by decide) (fun _ _ => Nat.le_of_ble_eq_true rfl) (fun κ B X => ?_)
  have X : gX κ B skC cX9_forgetFault 1 RX9 none 0 0 := X
  refine g_mk [true] [some (.ref (B + 1))] rfl ?_
  exact v_X9_forgetFault X  hM
theorem fr_X9_forgetFault {S : Nat → Prop} {u0 u : gM}  (hs0 : S 1)   {w : gM} (hM : X9_forgetFault u = some w) (h0 : off S u0 u) : off S u0 w := by
  unfold X9_forgetFault at hM
  have h0 := off_upI (u := u) (k := 1) (j := 1) (x := 0) hs0 h0
  have h0 := off_upI (u := (upI u 1 1 0)) (k := 1) (j := 2) (x := (-1)) hs0 h0
  cases hM
  exact h0
/-! CoverDesk$Tape.isBlank(B)Z -/
theorem dX9_isBlank_0 : decode cX9_isBlank 0 = .ok (.iload_n 0, 1) := by decide +kernel
theorem dX9_isBlank_1 : decode cX9_isBlank 1 = .ok (.bipush 32, 2) := by decide +kernel
theorem dX9_isBlank_3 : decode cX9_isBlank 3 = .ok (.if_icmp .eq 9, 3) := by decide +kernel
theorem dX9_isBlank_6 : decode cX9_isBlank 6 = .ok (.iload_n 0, 1) := by decide +kernel
theorem dX9_isBlank_7 : decode cX9_isBlank 7 = .ok (.bipush 10, 2) := by decide +kernel
theorem dX9_isBlank_9 : decode cX9_isBlank 9 = .ok (.if_icmp .ne 7, 3) := by decide +kernel
theorem dX9_isBlank_12 : decode cX9_isBlank 12 = .ok (.iconst 1, 1) := by decide +kernel
theorem dX9_isBlank_13 : decode cX9_isBlank 13 = .ok (.goto 4, 3) := by decide +kernel
theorem dX9_isBlank_16 : decode cX9_isBlank 16 = .ok (.iconst 0, 1) := by decide +kernel
theorem dX9_isBlank_17 : decode cX9_isBlank 17 = .ok (.ireturn, 1) := by decide +kernel
def X9_isBlank_b17 (u : gM)  (s0 : Int32) : Option Int32 :=
bI s0
def X9_isBlank_b12 (u : gM)   : Option Int32 :=
(X9_isBlank_b17 u 1)
def X9_isBlank (u : gM)  (x0 : Int32) : Option Int32 :=
(if x0 = 32 then (X9_isBlank_b12 u)
  else (if x0 = 10 then (X9_isBlank_b12 u)
    else (X9_isBlank_b17 u 0)))
set_option maxRecDepth 20000 in
theorem v_X9_isBlank_b17 {κ : gK} {B : Nat} {u : gM} (X : gX κ B skC cX9_isBlank 1 RX9 (some .boolean) 0 0)   {s0 : Int32} {w : Int32} (hM : X9_isBlank_b17 u s0 = some w) : gV κ B skC 1 ((some (.int w)), u) 17 [none] [.int s0] u := by
  unfold X9_isBlank_b17 at hM
  obtain ⟨hv, rfl⟩ := bI_of hM
  exact g_zret X hv dX9_isBlank_17
set_option maxRecDepth 20000 in
theorem v_X9_isBlank_b12 {κ : gK} {B : Nat} {u : gM} (X : gX κ B skC cX9_isBlank 1 RX9 (some .boolean) 0 0)    {w : Int32} (hM : X9_isBlank_b12 u = some w) : gV κ B skC 1 ((some (.int w)), u) 12 [none] [] u := by
  unfold X9_isBlank_b12 at hM
  refine g_iconst X (v := 1) dX9_isBlank_12 (by decide) ?_
  refine g_goto (tgt := 17) X dX9_isBlank_13 (by decide) ?_
  refine g_mk [false] [none] rfl ?_
  exact v_X9_isBlank_b17 X  hM
set_option maxRecDepth 20000 in
theorem v_X9_isBlank {κ : gK} {B : Nat} {u : gM} (X : gX κ B skC cX9_isBlank 1 RX9 (some .boolean) 0 0)   {x0 : Int32} {w : Int32} (hM : X9_isBlank u x0 = some w) : gV κ B skC 1 ((some (.int w)), u) 0 [some (.int x0)] [] u := by
  unfold X9_isBlank at hM
  refine g_iload_n X dX9_isBlank_0 rfl ?_
  refine g_bipush X (v := 32) dX9_isBlank_1 (by decide) ?_
  refine g_icmp_eq (tgt := 12) X dX9_isBlank_3 (by decide) (fun c3 => ?_) (fun c3 => ?_)
  · rw [if_pos c3] at hM
    refine g_mk [false] [none] rfl ?_
    exact v_X9_isBlank_b12 X  hM
  · rw [if_neg c3] at hM
    refine g_iload_n X dX9_isBlank_6 rfl ?_
    refine g_bipush X (v := 10) dX9_isBlank_7 (by decide) ?_
    refine g_icmp_ne (tgt := 16) X dX9_isBlank_9 (by decide) (fun c9 => ?_) (fun c9 => ?_)
    · rw [if_neg c9] at hM
      refine g_iconst X (v := 0) dX9_isBlank_16 (by decide) ?_
      refine g_mk [false] [none] rfl ?_
      exact v_X9_isBlank_b17 X  hM
    · rw [if_pos c9] at hM
      refine g_mk [false] [none] rfl ?_
      exact v_X9_isBlank_b12 X  hM
theorem s_X9_isBlank {x0 : Int32} {u : gM} {w : Int32} (hM : X9_isBlank u x0 = some w) : gMet skC yX9_isBlank cX9_isBlank 1 (some .boolean) 0 0 (fun B adK => [.int x0]) u ((fun _ => some (.int w)), u) := by
  refine gMet.of (by decide) (fun _ _ => Nat.le_of_ble_eq_true rfl) (fun κ B X => ?_)
  have X : gX κ B skC cX9_isBlank 1 RX9 (some .boolean) 0 0 := X
  refine g_mk [true] [some (.int x0)] rfl ?_
  exact v_X9_isBlank X  hM

/-! CoverDesk$Tape.isLetter(B)Z -/
theorem dX9_isLetter_0 : decode cX9_isLetter 0 = .ok (.iload_n 0, 1) := by decide +kernel
theorem dX9_isLetter_1 : decode cX9_isLetter 1 = .ok (.bipush 97, 2) := by decide +kernel
theorem dX9_isLetter_3 : decode cX9_isLetter 3 = .ok (.if_icmp .lt 13, 3) := by decide +kernel
theorem dX9_isLetter_6 : decode cX9_isLetter 6 = .ok (.iload_n 0, 1) := by decide +kernel
theorem dX9_isLetter_7 : decode cX9_isLetter 7 = .ok (.bipush 122, 2) := by decide +kernel
theorem dX9_isLetter_9 : decode cX9_isLetter 9 = .ok (.if_icmp .gt 7, 3) := by decide +kernel
theorem dX9_isLetter_12 : decode cX9_isLetter 12 = .ok (.iconst 1, 1) := by decide +kernel
theorem dX9_isLetter_13 : decode cX9_isLetter 13 = .ok (.goto 4, 3) := by decide +kernel
theorem dX9_isLetter_16 : decode cX9_isLetter 16 = .ok (.iconst 0, 1) := by decide +kernel
theorem dX9_isLetter_17 : decode cX9_isLetter 17 = .ok (.ireturn, 1) := by decide +kernel
def X9_isLetter_b17 (u : gM)  (s0 : Int32) : Option Int32 :=
bI s0
def X9_isLetter_b16 (u : gM)   : Option Int32 :=
(X9_isLetter_b17 u 0)
def X9_isLetter (u : gM)  (x0 : Int32) : Option Int32 :=
(if x0 < 97 then (X9_isLetter_b16 u)
  else (if 122 < x0 then (X9_isLetter_b16 u)
    else (X9_isLetter_b17 u 1)))
set_option maxRecDepth 20000 in
theorem v_X9_isLetter_b17 {κ : gK} {B : Nat} {u : gM} (X : gX κ B skC cX9_isLetter 1 RX9 (some .boolean) 0 0)   {s0 : Int32} {w : Int32} (hM : X9_isLetter_b17 u s0 = some w) : gV κ B skC 1 ((some (.int w)), u) 17 [none] [.int s0] u := by
  unfold X9_isLetter_b17 at hM
  obtain ⟨hv, rfl⟩ := bI_of hM
  exact g_zret X hv dX9_isLetter_17
set_option maxRecDepth 20000 in
theorem v_X9_isLetter_b16 {κ : gK} {B : Nat} {u : gM} (X : gX κ B skC cX9_isLetter 1 RX9 (some .boolean) 0 0)    {w : Int32} (hM : X9_isLetter_b16 u = some w) : gV κ B skC 1 ((some (.int w)), u) 16 [none] [] u := by
  unfold X9_isLetter_b16 at hM
  refine g_iconst X (v := 0) dX9_isLetter_16 (by decide) ?_
  refine g_mk [false] [none] rfl ?_
  exact v_X9_isLetter_b17 X  hM
set_option maxRecDepth 20000 in
theorem v_X9_isLetter {κ : gK} {B : Nat} {u : gM} (X : gX κ B skC cX9_isLetter 1 RX9 (some .boolean) 0 0)   {x0 : Int32} {w : Int32} (hM : X9_isLetter u x0 = some w) : gV κ B skC 1 ((some (.int w)), u) 0 [some (.int x0)] [] u := by
  unfold X9_isLetter at hM
  refine g_iload_n X dX9_isLetter_0 rfl ?_
  refine g_bipush X (v := 97) dX9_isLetter_1 (by decide) ?_
  refine g_icmp_lt (tgt := 16) X dX9_isLetter_3 (by decide) (fun c3 => ?_) (fun c3 => ?_)
  · rw [if_pos c3] at hM
    refine g_mk [false] [none] rfl ?_
    exact v_X9_isLetter_b16 X  hM
  · rw [if_neg c3] at hM
    refine g_iload_n X dX9_isLetter_6 rfl ?_
    refine g_bipush X (v := 122) dX9_isLetter_7 (by decide) ?_
    refine g_icmp_gt (tgt := 16) X dX9_isLetter_9 (by decide) (fun c9 => ?_) (fun c9 => ?_)
    · rw [if_pos c9] at hM
      refine g_mk [false] [none] rfl ?_
      exact v_X9_isLetter_b16 X  hM
    · rw [if_neg c9] at hM
      refine g_iconst X (v := 1) dX9_isLetter_12 (by decide) ?_
      refine g_goto (tgt := 17) X dX9_isLetter_13 (by decide) ?_
      refine g_mk [false] [none] rfl ?_
      exact v_X9_isLetter_b17 X  hM
theorem s_X9_isLetter {x0 : Int32} {u : gM} {w : Int32} (hM : X9_isLetter u x0 = some w) : gMet skC yX9_isLetter cX9_isLetter 1 (some .boolean) 0 0 (fun B adK => [.int x0]) u ((fun _ => some (.int w)), u) := by
  refine gMet.of (by decide) (fun _ _ => Nat.le_of_ble_eq_true rfl) (fun κ B X => ?_)
  have X : gX κ B skC cX9_isLetter 1 RX9 (some .boolean) 0 0 := X
  refine g_mk [true] [some (.int x0)] rfl ?_
  exact v_X9_isLetter X  hM

/-! CoverDesk$Tape.scanWord()V -/
theorem dX9_scanWord_0 : decode cX9_scanWord 0 = .ok (.aload_n 0, 1) := by decide +kernel
theorem dX9_scanWord_1 : decode cX9_scanWord 1 = .ok (.getfield 25, 3) := by decide +kernel
theorem dX9_scanWord_4 : decode cX9_scanWord 4 = .ok (.aload_n 0, 1) := by decide +kernel
theorem dX9_scanWord_5 : decode cX9_scanWord 5 = .ok (.getfield 19, 3) := by decide +kernel
theorem dX9_scanWord_8 : decode cX9_scanWord 8 = .ok (.if_icmp .ge 73, 3) := by decide +kernel
theorem dX9_scanWord_11 : decode cX9_scanWord 11 = .ok (.aload_n 0, 1) := by decide +kernel
theorem dX9_scanWord_12 : decode cX9_scanWord 12 = .ok (.getfield 15, 3) := by decide +kernel
theorem dX9_scanWord_15 : decode cX9_scanWord 15 = .ok (.aload_n 0, 1) := by decide +kernel
theorem dX9_scanWord_16 : decode cX9_scanWord 16 = .ok (.getfield 25, 3) := by decide +kernel
theorem dX9_scanWord_19 : decode cX9_scanWord 19 = .ok (.baload, 1) := by decide +kernel
theorem dX9_scanWord_20 : decode cX9_scanWord 20 = .ok (.invokestatic 51, 3) := by decide +kernel
theorem dX9_scanWord_23 : decode cX9_scanWord 23 = .ok (.ifCond .eq 58, 3) := by decide +kernel
theorem dX9_scanWord_26 : decode cX9_scanWord 26 = .ok (.aload_n 0, 1) := by decide +kernel
theorem dX9_scanWord_27 : decode cX9_scanWord 27 = .ok (.getfield 25, 3) := by decide +kernel
theorem dX9_scanWord_30 : decode cX9_scanWord 30 = .ok (.aload_n 0, 1) := by decide +kernel
theorem dX9_scanWord_31 : decode cX9_scanWord 31 = .ok (.getfield 35, 3) := by decide +kernel
theorem dX9_scanWord_34 : decode cX9_scanWord 34 = .ok (.isub, 1) := by decide +kernel
theorem dX9_scanWord_35 : decode cX9_scanWord 35 = .ok (.bipush 8, 2) := by decide +kernel
theorem dX9_scanWord_37 : decode cX9_scanWord 37 = .ok (.if_icmp .ge 31, 3) := by decide +kernel
theorem dX9_scanWord_40 : decode cX9_scanWord 40 = .ok (.aload_n 0, 1) := by decide +kernel
theorem dX9_scanWord_41 : decode cX9_scanWord 41 = .ok (.aload_n 0, 1) := by decide +kernel
theorem dX9_scanWord_42 : decode cX9_scanWord 42 = .ok (.getfield 41, 3) := by decide +kernel
theorem dX9_scanWord_45 : decode cX9_scanWord 45 = .ok (.ldc2_w 67, 3) := by decide +kernel
theorem dX9_scanWord_48 : decode cX9_scanWord 48 = .ok (.lmul, 1) := by decide +kernel
theorem dX9_scanWord_49 : decode cX9_scanWord 49 = .ok (.aload_n 0, 1) := by decide +kernel
theorem dX9_scanWord_50 : decode cX9_scanWord 50 = .ok (.getfield 15, 3) := by decide +kernel
theorem dX9_scanWord_53 : decode cX9_scanWord 53 = .ok (.aload_n 0, 1) := by decide +kernel
theorem dX9_scanWord_54 : decode cX9_scanWord 54 = .ok (.getfield 25, 3) := by decide +kernel
theorem dX9_scanWord_57 : decode cX9_scanWord 57 = .ok (.baload, 1) := by decide +kernel
theorem dX9_scanWord_58 : decode cX9_scanWord 58 = .ok (.bipush 97, 2) := by decide +kernel
theorem dX9_scanWord_60 : decode cX9_scanWord 60 = .ok (.isub, 1) := by decide +kernel
theorem dX9_scanWord_61 : decode cX9_scanWord 61 = .ok (.iconst 1, 1) := by decide +kernel
theorem dX9_scanWord_62 : decode cX9_scanWord 62 = .ok (.iadd, 1) := by decide +kernel
theorem dX9_scanWord_63 : decode cX9_scanWord 63 = .ok (.i2l, 1) := by decide +kernel
theorem dX9_scanWord_64 : decode cX9_scanWord 64 = .ok (.ladd, 1) := by decide +kernel
theorem dX9_scanWord_65 : decode cX9_scanWord 65 = .ok (.putfield 41, 3) := by decide +kernel
theorem dX9_scanWord_68 : decode cX9_scanWord 68 = .ok (.aload_n 0, 1) := by decide +kernel
theorem dX9_scanWord_69 : decode cX9_scanWord 69 = .ok (.dup, 1) := by decide +kernel
theorem dX9_scanWord_70 : decode cX9_scanWord 70 = .ok (.getfield 25, 3) := by decide +kernel
theorem dX9_scanWord_73 : decode cX9_scanWord 73 = .ok (.iconst 1, 1) := by decide +kernel
theorem dX9_scanWord_74 : decode cX9_scanWord 74 = .ok (.iadd, 1) := by decide +kernel
theorem dX9_scanWord_75 : decode cX9_scanWord 75 = .ok (.putfield 25, 3) := by decide +kernel
theorem dX9_scanWord_78 : decode cX9_scanWord 78 = .ok (.goto (-78), 3) := by decide +kernel
theorem dX9_scanWord_81 : decode cX9_scanWord 81 = .ok (.aload_n 0, 1) := by decide +kernel
theorem dX9_scanWord_82 : decode cX9_scanWord 82 = .ok (.aload_n 0, 1) := by decide +kernel
theorem dX9_scanWord_83 : decode cX9_scanWord 83 = .ok (.getfield 25, 3) := by decide +kernel
theorem dX9_scanWord_86 : decode cX9_scanWord 86 = .ok (.aload_n 0, 1) := by decide +kernel
theorem dX9_scanWord_87 : decode cX9_scanWord 87 = .ok (.getfield 35, 3) := by decide +kernel
theorem dX9_scanWord_90 : decode cX9_scanWord 90 = .ok (.isub, 1) := by decide +kernel
theorem dX9_scanWord_91 : decode cX9_scanWord 91 = .ok (.bipush 8, 2) := by decide +kernel
theorem dX9_scanWord_93 : decode cX9_scanWord 93 = .ok (.if_icmp .le 7, 3) := by decide +kernel
theorem dX9_scanWord_96 : decode cX9_scanWord 96 = .ok (.iconst 5, 1) := by decide +kernel
theorem dX9_scanWord_97 : decode cX9_scanWord 97 = .ok (.goto 4, 3) := by decide +kernel
theorem dX9_scanWord_100 : decode cX9_scanWord 100 = .ok (.iconst 1, 1) := by decide +kernel
theorem dX9_scanWord_101 : decode cX9_scanWord 101 = .ok (.putfield 48, 3) := by decide +kernel
theorem dX9_scanWord_104 : decode cX9_scanWord 104 = .ok (.return_, 1) := by decide +kernel
def X9_scanWord_b101  (s1 : Int32) (u : gM) : Option gM :=
some (upI u 1 3 s1)
def X9_scanWord_b81   (u : gM) : Option gM :=
(if ((u.1 1 10) - (u.1 1 9)) ≤ 8 then (X9_scanWord_b101 1 u)
  else (X9_scanWord_b101 5 u))
def X9_scanWord_b68 (k0 : gM → Option gM)  (u : gM) : Option gM :=
(k0 (upI u 1 10 ((u.1 1 10) + 1)))
def X9_scanWord_b0 (k0 : gM → Option gM)  (u : gM) : Option gM :=
(if (u.1 1 0) ≤ (u.1 1 10) then (X9_scanWord_b81 u)
  else ((aB skC u 2 (u.1 1 10)).bind fun v19 => ((X9_isLetter u v19).bind fun w20 => (if w20 = 0 then (X9_scanWord_b81 u)
    else (if 8 ≤ ((u.1 1 10) - (u.1 1 9)) then (X9_scanWord_b68 k0 u)
      else ((aB skC u 2 (u.1 1 10)).bind fun v57 => (X9_scanWord_b68 k0 (upJ u 1 7 (((u.2 1 7) * 27) + ((v57 - 97) + 1).toInt64)))))))))
def X9_scanWord_l0  : Nat → gM → Option gM
  | 0, _ => none
  | n + 1, u => X9_scanWord_b0  (X9_scanWord_l0  n) u
def X9_scanWord  (u : gM) : Option gM := X9_scanWord_l0 fz u
set_option maxRecDepth 20000 in
theorem v_X9_scanWord_b101 {κ : gK} {B : Nat} {u : gM} (X : gX κ B skC cX9_scanWord 1 RX9 none 1 20)   {s1 : Int32} {w : gM} (hM : X9_scanWord_b101 s1 u = some w) : gV κ B skC 1 ((none), w) 101 [none] [.int s1, .ref (B + 1)] u := by
  unfold X9_scanWord_b101 at hM
  refine g_putI X fX9_48 gc_X9 gp_X9_3 cC_1 rfl dX9_scanWord_101 ?_
  cases hM
  exact g_vret X dX9_scanWord_104
set_option maxRecDepth 20000 in
theorem v_X9_scanWord_b81 {κ : gK} {B : Nat} {u : gM} (X : gX κ B skC cX9_scanWord 1 RX9 none 1 20)    {w : gM} (hM : X9_scanWord_b81 u = some w) : gV κ B skC 1 ((none), w) 81 [some (.ref (B + 1))] [] u := by
  unfold X9_scanWord_b81 at hM
  refine g_aload_n X dX9_scanWord_81 rfl ?_
  refine g_aload_n X dX9_scanWord_82 rfl ?_
  refine g_getI X fX9_25 cC_1 rfl dX9_scanWord_83 ?_
  refine g_aload_n X dX9_scanWord_86 rfl ?_
  refine g_getI X fX9_35 cC_1 rfl dX9_scanWord_87 ?_
  refine g_isub X dX9_scanWord_90 ?_
  refine g_bipush X (v := 8) dX9_scanWord_91 (by decide) ?_
  refine g_icmp_le (tgt := 100) X dX9_scanWord_93 (by decide) (fun c93 => ?_) (fun c93 => ?_)
  · rw [if_pos c93] at hM
    refine g_iconst X (v := 1) dX9_scanWord_100 (by decide) ?_
    refine g_mk [false] [none] rfl ?_
    exact v_X9_scanWord_b101 X  hM
  · rw [if_neg c93] at hM
    refine g_iconst X (v := 5) dX9_scanWord_96 (by decide) ?_
    refine g_goto (tgt := 101) X dX9_scanWord_97 (by decide) ?_
    refine g_mk [false] [none] rfl ?_
    exact v_X9_scanWord_b101 X  hM
set_option maxRecDepth 20000 in
theorem v_X9_scanWord_b68 {κ : gK} {B : Nat} {u : gM} (X : gX κ B skC cX9_scanWord 1 RX9 none 1 20) {k0 : gM → Option gM} (ih0 : ∀  (u : gM) (w : gM), k0 u = some w → gV κ B skC 1 ((none), w) 0 [some (.ref (B + 1))] [] u)  {w : gM} (hM : X9_scanWord_b68 k0 u = some w) : gV κ B skC 1 ((none), w) 68 [some (.ref (B + 1))] [] u := by
  unfold X9_scanWord_b68 at hM
  refine g_aload_n X dX9_scanWord_68 rfl ?_
  refine g_dup X rfl dX9_scanWord_69 ?_
  refine g_getI X fX9_25 cC_1 rfl dX9_scanWord_70 ?_
  refine g_iconst X (v := 1) dX9_scanWord_73 (by decide) ?_
  refine g_iadd X dX9_scanWord_74 ?_
  refine g_putI X fX9_25 gc_X9 gp_X9_10 cC_1 rfl dX9_scanWord_75 ?_
  refine g_goto (tgt := 0) X dX9_scanWord_78 (by decide) ?_
  refine g_mk [true] [some (.ref (B + 1))] rfl ?_
  exact ih0 (upI u 1 10 ((u.1 1 10) + 1)) _ hM
set_option maxRecDepth 20000 in
theorem v_X9_scanWord_b0 {κ : gK} {B : Nat} {u : gM} (X : gX κ B skC cX9_scanWord 1 RX9 none 1 20) {k0 : gM → Option gM} (ih0 : ∀  (u : gM) (w : gM), k0 u = some w → gV κ B skC 1 ((none), w) 0 [some (.ref (B + 1))] [] u)  {w : gM} (hM : X9_scanWord_b0 k0 u = some w) : gV κ B skC 1 ((none), w) 0 [some (.ref (B + 1))] [] u := by
  unfold X9_scanWord_b0 at hM
  refine g_aload_n X dX9_scanWord_0 rfl ?_
  refine g_getI X fX9_25 cC_1 rfl dX9_scanWord_1 ?_
  refine g_aload_n X dX9_scanWord_4 rfl ?_
  refine g_getI X fX9_19 cC_1 rfl dX9_scanWord_5 ?_
  refine g_icmp_ge (tgt := 81) X dX9_scanWord_8 (by decide) (fun c8 => ?_) (fun c8 => ?_)
  · rw [if_pos c8] at hM
    refine g_mk [true] [some (.ref (B + 1))] rfl ?_
    exact v_X9_scanWord_b81 X  hM
  · rw [if_neg c8] at hM
    refine g_aload_n X dX9_scanWord_11 rfl ?_
    refine g_getR X fX9_15 cC_1 rfl dX9_scanWord_12 ?_
    refine g_aload_n X dX9_scanWord_15 rfl ?_
    refine g_getI X fX9_25 cC_1 rfl dX9_scanWord_16 ?_
    obtain ⟨v19, e19, hM⟩ := bind_of hM
    refine g_baload X e19 dX9_scanWord_19 ?_
    obtain ⟨w20, e20, hM⟩ := bind_of hM
    refine g_callSi X (fun B adK => [.int v19]) (s_X9_isLetter e20) cvX9_51 rfl rfl (Nat.le_of_ble_eq_true rfl) ⟨by decide, by decide⟩ dX9_scanWord_20 ?_
    refine g_if_eq (tgt := 81) X dX9_scanWord_23 (by decide) (fun c23 => ?_) (fun c23 => ?_)
    · rw [if_pos c23] at hM
      refine g_mk [true] [some (.ref (B + 1))] rfl ?_
      exact v_X9_scanWord_b81 X  hM
    · rw [if_neg c23] at hM
      refine g_aload_n X dX9_scanWord_26 rfl ?_
      refine g_getI X fX9_25 cC_1 rfl dX9_scanWord_27 ?_
      refine g_aload_n X dX9_scanWord_30 rfl ?_
      refine g_getI X fX9_35 cC_1 rfl dX9_scanWord_31 ?_
      refine g_isub X dX9_scanWord_34 ?_
      refine g_bipush X (v := 8) dX9_scanWord_35 (by decide) ?_
      refine g_icmp_ge (tgt := 68) X dX9_scanWord_37 (by decide) (fun c37 => ?_) (fun c37 => ?_)
      · rw [if_pos c37] at hM
        refine g_mk [true] [some (.ref (B + 1))] rfl ?_
        exact v_X9_scanWord_b68 X ih0 hM
      · rw [if_neg c37] at hM
        refine g_aload_n X dX9_scanWord_40 rfl ?_
        refine g_aload_n X dX9_scanWord_41 rfl ?_
        refine g_getJ X fX9_41 cC_1 rfl dX9_scanWord_42 ?_
        refine g_ldc2 (v := 27) X m_13_20 dX9_scanWord_45 ?_
        refine g_lmul X dX9_scanWord_48 ?_
        refine g_aload_n X dX9_scanWord_49 rfl ?_
        refine g_getR X fX9_15 cC_1 rfl dX9_scanWord_50 ?_
        refine g_aload_n X dX9_scanWord_53 rfl ?_
        refine g_getI X fX9_25 cC_1 rfl dX9_scanWord_54 ?_
        obtain ⟨v57, e57, hM⟩ := bind_of hM
        refine g_baload X e57 dX9_scanWord_57 ?_
        refine g_bipush X (v := 97) dX9_scanWord_58 (by decide) ?_
        refine g_isub X dX9_scanWord_60 ?_
        refine g_iconst X (v := 1) dX9_scanWord_61 (by decide) ?_
        refine g_iadd X dX9_scanWord_62 ?_
        refine g_i2l X dX9_scanWord_63 ?_
        refine g_ladd X dX9_scanWord_64 ?_
        refine g_putJ X fX9_41 gc_X9 gp_X9_7 cC_1 rfl dX9_scanWord_65 ?_
        refine g_mk [true] [some (.ref (B + 1))] rfl ?_
        exact v_X9_scanWord_b68 X ih0 hM
theorem v_X9_scanWord_l0 {κ : gK} {B : Nat} (X : gX κ B skC cX9_scanWord 1 RX9 none 1 20)   : ∀ (n : Nat)  {u : gM} {w : gM} (hM : X9_scanWord_l0  n u = some w), gV κ B skC 1 ((none), w) 0 [some (.ref (B + 1))] [] u := by
  intro n
  induction n with
  | zero => intro u w hM; exact nomatch (show (none : Option gM) = some w from hM)
  | succ n ihn => intro u w hM; exact v_X9_scanWord_b0 X  (fun u w h => ihn h) hM
theorem s_X9_scanWord  {u : gM} {w : gM} (hM : X9_scanWord u = some w) : gMet skC yX9_scanWord cX9_scanWord 1 none 1 20 (fun B adK => [.ref (B + 1)]) u ((fun _ => none), w) := by
  refine gMet.of (by decide) (fun _ _ => Nat.le_of_ble_eq_true rfl) (fun κ B X => ?_)
  have X : gX κ B skC cX9_scanWord 1 RX9 none 1 20 := X
  refine g_mk [true] [some (.ref (B + 1))] rfl ?_
  exact v_X9_scanWord_l0 X fz hM
theorem fr_X9_scanWord_b101 {S : Nat → Prop} {u0 u : gM} {s1 : Int32} (hs0 : S 1)   {w : gM} (hM : X9_scanWord_b101 s1 u = some w) (h0 : off S u0 u) : off S u0 w := by
  unfold X9_scanWord_b101 at hM
  have h0 := off_upI (u := u) (k := 1) (j := 3) (x := s1) hs0 h0
  cases hM
  exact h0
theorem fr_X9_scanWord_b81 {S : Nat → Prop} {u0 u : gM}  (hs0 : S 1)   {w : gM} (hM : X9_scanWord_b81 u = some w) (h0 : off S u0 u) : off S u0 w := by
  unfold X9_scanWord_b81 at hM
  by_cases c93 : ((u.1 1 10) - (u.1 1 9)) ≤ 8
  · rw [if_pos c93] at hM
    exact fr_X9_scanWord_b101 hs0  hM h0
  · rw [if_neg c93] at hM
    exact fr_X9_scanWord_b101 hs0  hM h0
theorem fr_X9_scanWord_b68 {S : Nat → Prop} {u0 u : gM}  (hs0 : S 1) {k0 : gM → Option gM} (ik0 : ∀  (u : gM) (w : gM), S 1 → off S u0 u → k0  u = some w → off S u0 w) {w : gM} (hM : X9_scanWord_b68 k0 u = some w) (h0 : off S u0 u) : off S u0 w := by
  unfold X9_scanWord_b68 at hM
  have h0 := off_upI (u := u) (k := 1) (j := 10) (x := ((u.1 1 10) + 1)) hs0 h0
  exact ik0 _ _ hs0 h0 hM
theorem fr_X9_scanWord_b0 {S : Nat → Prop} {u0 u : gM}  (hs0 : S 1) {k0 : gM → Option gM} (ik0 : ∀  (u : gM) (w : gM), S 1 → off S u0 u → k0  u = some w → off S u0 w) {w : gM} (hM : X9_scanWord_b0 k0 u = some w) (h0 : off S u0 u) : off S u0 w := by
  unfold X9_scanWord_b0 at hM
  by_cases c8 : (u.1 1 0) ≤ (u.1 1 10)
  · rw [if_pos c8] at hM
    exact fr_X9_scanWord_b81 hs0  hM h0
  · rw [if_neg c8] at hM
    obtain ⟨v19, e19, hM⟩ := bind_of hM
    obtain ⟨w20, e20, hM⟩ := bind_of hM
    by_cases c23 : w20 = 0
    · rw [if_pos c23] at hM
      exact fr_X9_scanWord_b81 hs0  hM h0
    · rw [if_neg c23] at hM
      by_cases c37 : 8 ≤ ((u.1 1 10) - (u.1 1 9))
      · rw [if_pos c37] at hM
        exact fr_X9_scanWord_b68 hs0 ik0 hM h0
      · rw [if_neg c37] at hM
        obtain ⟨v57, e57, hM⟩ := bind_of hM
        have h0 := off_upJ (u := u) (k := 1) (j := 7) (x := (((u.2 1 7) * 27) + ((v57 - 97) + 1).toInt64)) hs0 h0
        exact fr_X9_scanWord_b68 hs0 ik0 hM h0
theorem fr_X9_scanWord_l0 {S : Nat → Prop} {u0 : gM}   : ∀ (n : Nat)  (hs0 : S 1) {u : gM} {w : gM} (h0 : off S u0 u) (hM : X9_scanWord_l0  n u = some w), off S u0 w := by
  intro n
  induction n with
  | zero => intro hs0 u w h0 hM; exact nomatch (show (none : Option gM) = some w from hM)
  | succ n ihn => intro hs0 u w h0 hM; exact fr_X9_scanWord_b0 hs0  (fun _ _ hs0 h0 h => ihn hs0 h0 h) hM h0
theorem fr_X9_scanWord {S : Nat → Prop} {u0 u : gM}  (hs0 : S 1) {w : gM} (hM : X9_scanWord u = some w) (h0 : off S u0 u) : off S u0 w := fr_X9_scanWord_l0 fz hs0 h0 hM
/-! CoverDesk$Tape.reserved()I -/
theorem dX9_reserved_0 : decode cX9_reserved 0 = .ok (.iconst 0, 1) := by decide +kernel
theorem dX9_reserved_1 : decode cX9_reserved 1 = .ok (.istore_n 1, 1) := by decide +kernel
theorem dX9_reserved_2 : decode cX9_reserved 2 = .ok (.aload_n 0, 1) := by decide +kernel
theorem dX9_reserved_3 : decode cX9_reserved 3 = .ok (.getfield 35, 3) := by decide +kernel
theorem dX9_reserved_6 : decode cX9_reserved 6 = .ok (.istore_n 2, 1) := by decide +kernel
theorem dX9_reserved_7 : decode cX9_reserved 7 = .ok (.iconst 1, 1) := by decide +kernel
theorem dX9_reserved_8 : decode cX9_reserved 8 = .ok (.istore_n 3, 1) := by decide +kernel
theorem dX9_reserved_9 : decode cX9_reserved 9 = .ok (.iconst 0, 1) := by decide +kernel
theorem dX9_reserved_10 : decode cX9_reserved 10 = .ok (.istore 4, 2) := by decide +kernel
theorem dX9_reserved_12 : decode cX9_reserved 12 = .ok (.iload 4, 2) := by decide +kernel
theorem dX9_reserved_14 : decode cX9_reserved 14 = .ok (.ldc 69, 2) := by decide +kernel
theorem dX9_reserved_16 : decode cX9_reserved 16 = .ok (.invokevirtual 71, 3) := by decide +kernel
theorem dX9_reserved_19 : decode cX9_reserved 19 = .ok (.if_icmp .ge 83, 3) := by decide +kernel
theorem dX9_reserved_22 : decode cX9_reserved 22 = .ok (.ldc 69, 2) := by decide +kernel
theorem dX9_reserved_24 : decode cX9_reserved 24 = .ok (.iload 4, 2) := by decide +kernel
theorem dX9_reserved_26 : decode cX9_reserved 26 = .ok (.invokevirtual 75, 3) := by decide +kernel
theorem dX9_reserved_29 : decode cX9_reserved 29 = .ok (.istore 5, 2) := by decide +kernel
theorem dX9_reserved_31 : decode cX9_reserved 31 = .ok (.iload 5, 2) := by decide +kernel
theorem dX9_reserved_33 : decode cX9_reserved 33 = .ok (.bipush 32, 2) := by decide +kernel
theorem dX9_reserved_35 : decode cX9_reserved 35 = .ok (.if_icmp .ne 30, 3) := by decide +kernel
theorem dX9_reserved_38 : decode cX9_reserved 38 = .ok (.iload_n 3, 1) := by decide +kernel
theorem dX9_reserved_39 : decode cX9_reserved 39 = .ok (.ifCond .eq 13, 3) := by decide +kernel
theorem dX9_reserved_42 : decode cX9_reserved 42 = .ok (.iload_n 2, 1) := by decide +kernel
theorem dX9_reserved_43 : decode cX9_reserved 43 = .ok (.aload_n 0, 1) := by decide +kernel
theorem dX9_reserved_44 : decode cX9_reserved 44 = .ok (.getfield 25, 3) := by decide +kernel
theorem dX9_reserved_47 : decode cX9_reserved 47 = .ok (.if_icmp .ne 5, 3) := by decide +kernel
theorem dX9_reserved_50 : decode cX9_reserved 50 = .ok (.iload_n 1, 1) := by decide +kernel
theorem dX9_reserved_51 : decode cX9_reserved 51 = .ok (.ireturn, 1) := by decide +kernel
theorem dX9_reserved_52 : decode cX9_reserved 52 = .ok (.iinc 1 1, 3) := by decide +kernel
theorem dX9_reserved_55 : decode cX9_reserved 55 = .ok (.aload_n 0, 1) := by decide +kernel
theorem dX9_reserved_56 : decode cX9_reserved 56 = .ok (.getfield 35, 3) := by decide +kernel
theorem dX9_reserved_59 : decode cX9_reserved 59 = .ok (.istore_n 2, 1) := by decide +kernel
theorem dX9_reserved_60 : decode cX9_reserved 60 = .ok (.iconst 1, 1) := by decide +kernel
theorem dX9_reserved_61 : decode cX9_reserved 61 = .ok (.istore_n 3, 1) := by decide +kernel
theorem dX9_reserved_62 : decode cX9_reserved 62 = .ok (.goto 34, 3) := by decide +kernel
theorem dX9_reserved_65 : decode cX9_reserved 65 = .ok (.iload_n 3, 1) := by decide +kernel
theorem dX9_reserved_66 : decode cX9_reserved 66 = .ok (.ifCond .eq 28, 3) := by decide +kernel
theorem dX9_reserved_69 : decode cX9_reserved 69 = .ok (.iload_n 2, 1) := by decide +kernel
theorem dX9_reserved_70 : decode cX9_reserved 70 = .ok (.aload_n 0, 1) := by decide +kernel
theorem dX9_reserved_71 : decode cX9_reserved 71 = .ok (.getfield 25, 3) := by decide +kernel
theorem dX9_reserved_74 : decode cX9_reserved 74 = .ok (.if_icmp .ge 20, 3) := by decide +kernel
theorem dX9_reserved_77 : decode cX9_reserved 77 = .ok (.aload_n 0, 1) := by decide +kernel
theorem dX9_reserved_78 : decode cX9_reserved 78 = .ok (.getfield 15, 3) := by decide +kernel
theorem dX9_reserved_81 : decode cX9_reserved 81 = .ok (.iload_n 2, 1) := by decide +kernel
theorem dX9_reserved_82 : decode cX9_reserved 82 = .ok (.baload, 1) := by decide +kernel
theorem dX9_reserved_83 : decode cX9_reserved 83 = .ok (.iload 5, 2) := by decide +kernel
theorem dX9_reserved_85 : decode cX9_reserved 85 = .ok (.if_icmp .ne 9, 3) := by decide +kernel
theorem dX9_reserved_88 : decode cX9_reserved 88 = .ok (.iinc 2 1, 3) := by decide +kernel
theorem dX9_reserved_91 : decode cX9_reserved 91 = .ok (.goto 5, 3) := by decide +kernel
theorem dX9_reserved_94 : decode cX9_reserved 94 = .ok (.iconst 0, 1) := by decide +kernel
theorem dX9_reserved_95 : decode cX9_reserved 95 = .ok (.istore_n 3, 1) := by decide +kernel
theorem dX9_reserved_96 : decode cX9_reserved 96 = .ok (.iinc 4 1, 3) := by decide +kernel
theorem dX9_reserved_99 : decode cX9_reserved 99 = .ok (.goto (-87), 3) := by decide +kernel
theorem dX9_reserved_102 : decode cX9_reserved 102 = .ok (.iconst (-1), 1) := by decide +kernel
theorem dX9_reserved_103 : decode cX9_reserved 103 = .ok (.ireturn, 1) := by decide +kernel
def X9_reserved_b96 (u : gM) (k12 : Int32 → Int32 → Int32 → Int32 → Option Int32) (x1 : Int32) (x2 : Int32) (x3 : Int32) (x4 : Int32) : Option Int32 :=
(k12 x1 x2 x3 (x4 + 1))
def X9_reserved_b94 (u : gM) (k12 : Int32 → Int32 → Int32 → Int32 → Option Int32) (x1 : Int32) (x2 : Int32) (x4 : Int32) : Option Int32 :=
(X9_reserved_b96 u k12 x1 x2 0 x4)
def X9_reserved_b52 (u : gM) (k12 : Int32 → Int32 → Int32 → Int32 → Option Int32) (x1 : Int32) (x4 : Int32) : Option Int32 :=
(X9_reserved_b96 u k12 (x1 + 1) (u.1 1 9) 1 x4)
def X9_reserved_b12 (u : gM) (k12 : Int32 → Int32 → Int32 → Int32 → Option Int32) (x1 : Int32) (x2 : Int32) (x3 : Int32) (x4 : Int32) : Option Int32 :=
((slen 0).bind fun v16 => (if v16 ≤ x4 then some (-1)
  else ((sch 0 x4).bind fun v26 => (if v26 = 32 then (if x3 = 0 then (X9_reserved_b52 u k12 x1 x4)
      else (if x2 = (u.1 1 10) then some x1
        else (X9_reserved_b52 u k12 x1 x4)))
    else (if x3 = 0 then (X9_reserved_b94 u k12 x1 x2 x4)
      else (if (u.1 1 10) ≤ x2 then (X9_reserved_b94 u k12 x1 x2 x4)
        else ((aB skC u 2 x2).bind fun v82 => (if v82 = v26 then (X9_reserved_b96 u k12 x1 (x2 + 1) x3 x4)
          else (X9_reserved_b94 u k12 x1 x2 x4)))))))))
def X9_reserved_l12 (u : gM)  : Nat → Int32 → Int32 → Int32 → Int32 → Option Int32
  | 0, _, _, _, _ => none
  | n + 1, x1, x2, x3, x4 => X9_reserved_b12 u  (X9_reserved_l12 u  n) x1 x2 x3 x4
def X9_reserved (u : gM)   : Option Int32 :=
(X9_reserved_l12 u fz 0 (u.1 1 9) 1 0)
set_option maxRecDepth 20000 in
theorem v_X9_reserved_b96 {κ : gK} {B : Nat} {u : gM} (X : gX κ B skC cX9_reserved 6 RX9 (some .int) 4 100) {k12 : Int32 → Int32 → Int32 → Int32 → Option Int32} (ih12 : ∀ (x1 : Int32) (x2 : Int32) (x3 : Int32) (x4 : Int32) (w : Int32), k12 x1 x2 x3 x4 = some w → gV κ B skC 6 ((some (.int w)), u) 12 [some (.ref (B + 1)), some (.int x1), some (.int x2), some (.int x3), some (.int x4), none] [] u) {x1 : Int32} {x2 : Int32} {x3 : Int32} {x4 : Int32} {w : Int32} (hM : X9_reserved_b96 u k12 x1 x2 x3 x4 = some w) : gV κ B skC 6 ((some (.int w)), u) 96 [some (.ref (B + 1)), some (.int x1), some (.int x2), some (.int x3), some (.int x4), none] [] u := by
  unfold X9_reserved_b96 at hM
  refine g_iinc (d := 1) X [some (.ref (B + 1)), some (.int x1), some (.int x2), some (.int x3), some (.int (x4 + 1)), none] dX9_reserved_96 (by decide) rfl (by decide) rfl ?_
  refine g_goto (tgt := 12) X dX9_reserved_99 (by decide) ?_
  refine g_mk [true, true, true, true, true, false] [some (.ref (B + 1)), some (.int x1), some (.int x2), some (.int x3), some (.int (x4 + 1)), none] rfl ?_
  exact ih12 x1 x2 x3 (x4 + 1) _ hM
set_option maxRecDepth 20000 in
theorem v_X9_reserved_b94 {κ : gK} {B : Nat} {u : gM} (X : gX κ B skC cX9_reserved 6 RX9 (some .int) 4 100) {k12 : Int32 → Int32 → Int32 → Int32 → Option Int32} (ih12 : ∀ (x1 : Int32) (x2 : Int32) (x3 : Int32) (x4 : Int32) (w : Int32), k12 x1 x2 x3 x4 = some w → gV κ B skC 6 ((some (.int w)), u) 12 [some (.ref (B + 1)), some (.int x1), some (.int x2), some (.int x3), some (.int x4), none] [] u) {x1 : Int32} {x2 : Int32} {x4 : Int32} {w : Int32} (hM : X9_reserved_b94 u k12 x1 x2 x4 = some w) : gV κ B skC 6 ((some (.int w)), u) 94 [some (.ref (B + 1)), some (.int x1), some (.int x2), none, some (.int x4), none] [] u := by
  unfold X9_reserved_b94 at hM
  refine g_iconst X (v := 0) dX9_reserved_94 (by decide) ?_
  refine g_istore_n X [some (.ref (B + 1)), some (.int x1), some (.int x2), some (.int 0), some (.int x4), none] dX9_reserved_95 (by decide) rfl ?_
  refine g_mk [true, true, true, true, true, false] [some (.ref (B + 1)), some (.int x1), some (.int x2), some (.int 0), some (.int x4), none] rfl ?_
  exact v_X9_reserved_b96 X ih12 hM
set_option maxRecDepth 20000 in
theorem v_X9_reserved_b52 {κ : gK} {B : Nat} {u : gM} (X : gX κ B skC cX9_reserved 6 RX9 (some .int) 4 100) {k12 : Int32 → Int32 → Int32 → Int32 → Option Int32} (ih12 : ∀ (x1 : Int32) (x2 : Int32) (x3 : Int32) (x4 : Int32) (w : Int32), k12 x1 x2 x3 x4 = some w → gV κ B skC 6 ((some (.int w)), u) 12 [some (.ref (B + 1)), some (.int x1), some (.int x2), some (.int x3), some (.int x4), none] [] u) {x1 : Int32} {x4 : Int32} {w : Int32} (hM : X9_reserved_b52 u k12 x1 x4 = some w) : gV κ B skC 6 ((some (.int w)), u) 52 [some (.ref (B + 1)), some (.int x1), none, none, some (.int x4), none] [] u := by
  unfold X9_reserved_b52 at hM
  refine g_iinc (d := 1) X [some (.ref (B + 1)), some (.int (x1 + 1)), none, none, some (.int x4), none] dX9_reserved_52 (by decide) rfl (by decide) rfl ?_
  refine g_aload_n X dX9_reserved_55 rfl ?_
  refine g_getI X fX9_35 cC_1 rfl dX9_reserved_56 ?_
  refine g_istore_n X [some (.ref (B + 1)), some (.int (x1 + 1)), some (.int (u.1 1 9)), none, some (.int x4), none] dX9_reserved_59 (by decide) rfl ?_
  refine g_iconst X (v := 1) dX9_reserved_60 (by decide) ?_
  refine g_istore_n X [some (.ref (B + 1)), some (.int (x1 + 1)), some (.int (u.1 1 9)), some (.int 1), some (.int x4), none] dX9_reserved_61 (by decide) rfl ?_
  refine g_goto (tgt := 96) X dX9_reserved_62 (by decide) ?_
  refine g_mk [true, true, true, true, true, false] [some (.ref (B + 1)), some (.int (x1 + 1)), some (.int (u.1 1 9)), some (.int 1), some (.int x4), none] rfl ?_
  exact v_X9_reserved_b96 X ih12 hM
set_option maxRecDepth 20000 in
theorem v_X9_reserved_b12 {κ : gK} {B : Nat} {u : gM} (X : gX κ B skC cX9_reserved 6 RX9 (some .int) 4 100) {k12 : Int32 → Int32 → Int32 → Int32 → Option Int32} (ih12 : ∀ (x1 : Int32) (x2 : Int32) (x3 : Int32) (x4 : Int32) (w : Int32), k12 x1 x2 x3 x4 = some w → gV κ B skC 6 ((some (.int w)), u) 12 [some (.ref (B + 1)), some (.int x1), some (.int x2), some (.int x3), some (.int x4), none] [] u) {x1 : Int32} {x2 : Int32} {x3 : Int32} {x4 : Int32} {w : Int32} (hM : X9_reserved_b12 u k12 x1 x2 x3 x4 = some w) : gV κ B skC 6 ((some (.int w)), u) 12 [some (.ref (B + 1)), some (.int x1), some (.int x2), some (.int x3), some (.int x4), none] [] u := by
  unfold X9_reserved_b12 at hM
  refine g_iload X dX9_reserved_12 rfl ?_
  refine g_ldcS (i := 0) X rfl dX9_reserved_14 ?_
  obtain ⟨v16, e16, hM⟩ := bind_of hM
  refine g_strL X m_14_1 e16 (Nat.le_of_ble_eq_true rfl) ⟨by decide, by decide⟩ dX9_reserved_16 ?_
  refine g_icmp_ge (tgt := 102) X dX9_reserved_19 (by decide) (fun c19 => ?_) (fun c19 => ?_)
  · rw [if_pos c19] at hM
    refine g_iconst X (v := (-1)) dX9_reserved_102 (by decide) ?_
    cases hM
    exact g_iret X dX9_reserved_103
  · rw [if_neg c19] at hM
    refine g_ldcS (i := 0) X rfl dX9_reserved_22 ?_
    refine g_iload X dX9_reserved_24 rfl ?_
    obtain ⟨v26, e26, hM⟩ := bind_of hM
    refine g_strC X m_14_13 e26 (Nat.le_of_ble_eq_true rfl) ⟨by decide, by decide⟩ dX9_reserved_26 ?_
    refine g_istore X [some (.ref (B + 1)), some (.int x1), some (.int x2), some (.int x3), some (.int x4), some (.int v26)] dX9_reserved_29 (by decide) rfl ?_
    refine g_iload X dX9_reserved_31 rfl ?_
    refine g_bipush X (v := 32) dX9_reserved_33 (by decide) ?_
    refine g_icmp_ne (tgt := 65) X dX9_reserved_35 (by decide) (fun c35 => ?_) (fun c35 => ?_)
    · rw [if_neg c35] at hM
      refine g_iload_n X dX9_reserved_65 rfl ?_
      refine g_if_eq (tgt := 94) X dX9_reserved_66 (by decide) (fun c66 => ?_) (fun c66 => ?_)
      · rw [if_pos c66] at hM
        refine g_mk [true, true, true, false, true, false] [some (.ref (B + 1)), some (.int x1), some (.int x2), none, some (.int x4), none] rfl ?_
        exact v_X9_reserved_b94 X ih12 hM
      · rw [if_neg c66] at hM
        refine g_iload_n X dX9_reserved_69 rfl ?_
        refine g_aload_n X dX9_reserved_70 rfl ?_
        refine g_getI X fX9_25 cC_1 rfl dX9_reserved_71 ?_
        refine g_icmp_ge (tgt := 94) X dX9_reserved_74 (by decide) (fun c74 => ?_) (fun c74 => ?_)
        · rw [if_pos c74] at hM
          refine g_mk [true, true, true, false, true, false] [some (.ref (B + 1)), some (.int x1), some (.int x2), none, some (.int x4), none] rfl ?_
          exact v_X9_reserved_b94 X ih12 hM
        · rw [if_neg c74] at hM
          refine g_aload_n X dX9_reserved_77 rfl ?_
          refine g_getR X fX9_15 cC_1 rfl dX9_reserved_78 ?_
          refine g_iload_n X dX9_reserved_81 rfl ?_
          obtain ⟨v82, e82, hM⟩ := bind_of hM
          refine g_baload X e82 dX9_reserved_82 ?_
          refine g_iload X dX9_reserved_83 rfl ?_
          refine g_icmp_ne (tgt := 94) X dX9_reserved_85 (by decide) (fun c85 => ?_) (fun c85 => ?_)
          · rw [if_neg c85] at hM
            refine g_mk [true, true, true, false, true, false] [some (.ref (B + 1)), some (.int x1), some (.int x2), none, some (.int x4), none] rfl ?_
            exact v_X9_reserved_b94 X ih12 hM
          · rw [if_pos c85] at hM
            refine g_iinc (d := 1) X [some (.ref (B + 1)), some (.int x1), some (.int (x2 + 1)), some (.int x3), some (.int x4), some (.int v26)] dX9_reserved_88 (by decide) rfl (by decide) rfl ?_
            refine g_goto (tgt := 96) X dX9_reserved_91 (by decide) ?_
            refine g_mk [true, true, true, true, true, false] [some (.ref (B + 1)), some (.int x1), some (.int (x2 + 1)), some (.int x3), some (.int x4), none] rfl ?_
            exact v_X9_reserved_b96 X ih12 hM
    · rw [if_pos c35] at hM
      refine g_iload_n X dX9_reserved_38 rfl ?_
      refine g_if_eq (tgt := 52) X dX9_reserved_39 (by decide) (fun c39 => ?_) (fun c39 => ?_)
      · rw [if_pos c39] at hM
        refine g_mk [true, true, false, false, true, false] [some (.ref (B + 1)), some (.int x1), none, none, some (.int x4), none] rfl ?_
        exact v_X9_reserved_b52 X ih12 hM
      · rw [if_neg c39] at hM
        refine g_iload_n X dX9_reserved_42 rfl ?_
        refine g_aload_n X dX9_reserved_43 rfl ?_
        refine g_getI X fX9_25 cC_1 rfl dX9_reserved_44 ?_
        refine g_icmp_ne (tgt := 52) X dX9_reserved_47 (by decide) (fun c47 => ?_) (fun c47 => ?_)
        · rw [if_neg c47] at hM
          refine g_mk [true, true, false, false, true, false] [some (.ref (B + 1)), some (.int x1), none, none, some (.int x4), none] rfl ?_
          exact v_X9_reserved_b52 X ih12 hM
        · rw [if_pos c47] at hM
          refine g_iload_n X dX9_reserved_50 rfl ?_
          cases hM
          exact g_iret X dX9_reserved_51
theorem v_X9_reserved_l12 {κ : gK} {B : Nat} {u : gM} (X : gX κ B skC cX9_reserved 6 RX9 (some .int) 4 100)   : ∀ (n : Nat) {x1 : Int32} {x2 : Int32} {x3 : Int32} {x4 : Int32} {w : Int32} (hM : X9_reserved_l12 u  n x1 x2 x3 x4 = some w), gV κ B skC 6 ((some (.int w)), u) 12 [some (.ref (B + 1)), some (.int x1), some (.int x2), some (.int x3), some (.int x4), none] [] u := by
  intro n
  induction n with
  | zero => intro x1 x2 x3 x4 w hM; exact nomatch (show (none : Option Int32) = some w from hM)
  | succ n ihn => intro x1 x2 x3 x4 w hM; exact v_X9_reserved_b12 X  (fun x1 x2 x3 x4 w h => ihn h) hM
set_option maxRecDepth 20000 in
theorem v_X9_reserved {κ : gK} {B : Nat} {u : gM} (X : gX κ B skC cX9_reserved 6 RX9 (some .int) 4 100)    {w : Int32} (hM : X9_reserved u = some w) : gV κ B skC 6 ((some (.int w)), u) 0 [some (.ref (B + 1)), none, none, none, none, none] [] u := by
  unfold X9_reserved at hM
  refine g_iconst X (v := 0) dX9_reserved_0 (by decide) ?_
  refine g_istore_n X [some (.ref (B + 1)), some (.int 0), none, none, none, none] dX9_reserved_1 (by decide) rfl ?_
  refine g_aload_n X dX9_reserved_2 rfl ?_
  refine g_getI X fX9_35 cC_1 rfl dX9_reserved_3 ?_
  refine g_istore_n X [some (.ref (B + 1)), some (.int 0), some (.int (u.1 1 9)), none, none, none] dX9_reserved_6 (by decide) rfl ?_
  refine g_iconst X (v := 1) dX9_reserved_7 (by decide) ?_
  refine g_istore_n X [some (.ref (B + 1)), some (.int 0), some (.int (u.1 1 9)), some (.int 1), none, none] dX9_reserved_8 (by decide) rfl ?_
  refine g_iconst X (v := 0) dX9_reserved_9 (by decide) ?_
  refine g_istore X [some (.ref (B + 1)), some (.int 0), some (.int (u.1 1 9)), some (.int 1), some (.int 0), none] dX9_reserved_10 (by decide) rfl ?_
  refine g_mk [true, true, true, true, true, false] [some (.ref (B + 1)), some (.int 0), some (.int (u.1 1 9)), some (.int 1), some (.int 0), none] rfl ?_
  exact v_X9_reserved_l12 X  fz hM
theorem s_X9_reserved  {u : gM} {w : Int32} (hM : X9_reserved u = some w) : gMet skC yX9_reserved cX9_reserved 6 (some .int) 4 100 (fun B adK => [.ref (B + 1)]) u ((fun _ => some (.int w)), u) := by
  refine gMet.of (by decide) (fun _ _ => Nat.le_of_ble_eq_true rfl) (fun κ B X => ?_)
  have X : gX κ B skC cX9_reserved 6 RX9 (some .int) 4 100 := X
  refine g_mk [true, false, false, false, false, false] [some (.ref (B + 1)), none, none, none, none, none] rfl ?_
  exact v_X9_reserved X  hM

/-! CoverDesk$Tape.isDigit(B)Z -/
theorem dX9_isDigit_0 : decode cX9_isDigit 0 = .ok (.iload_n 0, 1) := by decide +kernel
theorem dX9_isDigit_1 : decode cX9_isDigit 1 = .ok (.bipush 48, 2) := by decide +kernel
theorem dX9_isDigit_3 : decode cX9_isDigit 3 = .ok (.if_icmp .lt 13, 3) := by decide +kernel
theorem dX9_isDigit_6 : decode cX9_isDigit 6 = .ok (.iload_n 0, 1) := by decide +kernel
theorem dX9_isDigit_7 : decode cX9_isDigit 7 = .ok (.bipush 57, 2) := by decide +kernel
theorem dX9_isDigit_9 : decode cX9_isDigit 9 = .ok (.if_icmp .gt 7, 3) := by decide +kernel
theorem dX9_isDigit_12 : decode cX9_isDigit 12 = .ok (.iconst 1, 1) := by decide +kernel
theorem dX9_isDigit_13 : decode cX9_isDigit 13 = .ok (.goto 4, 3) := by decide +kernel
theorem dX9_isDigit_16 : decode cX9_isDigit 16 = .ok (.iconst 0, 1) := by decide +kernel
theorem dX9_isDigit_17 : decode cX9_isDigit 17 = .ok (.ireturn, 1) := by decide +kernel
def X9_isDigit_b17 (u : gM)  (s0 : Int32) : Option Int32 :=
bI s0
def X9_isDigit_b16 (u : gM)   : Option Int32 :=
(X9_isDigit_b17 u 0)
def X9_isDigit (u : gM)  (x0 : Int32) : Option Int32 :=
(if x0 < 48 then (X9_isDigit_b16 u)
  else (if 57 < x0 then (X9_isDigit_b16 u)
    else (X9_isDigit_b17 u 1)))
set_option maxRecDepth 20000 in
theorem v_X9_isDigit_b17 {κ : gK} {B : Nat} {u : gM} (X : gX κ B skC cX9_isDigit 1 RX9 (some .boolean) 0 0)   {s0 : Int32} {w : Int32} (hM : X9_isDigit_b17 u s0 = some w) : gV κ B skC 1 ((some (.int w)), u) 17 [none] [.int s0] u := by
  unfold X9_isDigit_b17 at hM
  obtain ⟨hv, rfl⟩ := bI_of hM
  exact g_zret X hv dX9_isDigit_17
set_option maxRecDepth 20000 in
theorem v_X9_isDigit_b16 {κ : gK} {B : Nat} {u : gM} (X : gX κ B skC cX9_isDigit 1 RX9 (some .boolean) 0 0)    {w : Int32} (hM : X9_isDigit_b16 u = some w) : gV κ B skC 1 ((some (.int w)), u) 16 [none] [] u := by
  unfold X9_isDigit_b16 at hM
  refine g_iconst X (v := 0) dX9_isDigit_16 (by decide) ?_
  refine g_mk [false] [none] rfl ?_
  exact v_X9_isDigit_b17 X  hM
set_option maxRecDepth 20000 in
theorem v_X9_isDigit {κ : gK} {B : Nat} {u : gM} (X : gX κ B skC cX9_isDigit 1 RX9 (some .boolean) 0 0)   {x0 : Int32} {w : Int32} (hM : X9_isDigit u x0 = some w) : gV κ B skC 1 ((some (.int w)), u) 0 [some (.int x0)] [] u := by
  unfold X9_isDigit at hM
  refine g_iload_n X dX9_isDigit_0 rfl ?_
  refine g_bipush X (v := 48) dX9_isDigit_1 (by decide) ?_
  refine g_icmp_lt (tgt := 16) X dX9_isDigit_3 (by decide) (fun c3 => ?_) (fun c3 => ?_)
  · rw [if_pos c3] at hM
    refine g_mk [false] [none] rfl ?_
    exact v_X9_isDigit_b16 X  hM
  · rw [if_neg c3] at hM
    refine g_iload_n X dX9_isDigit_6 rfl ?_
    refine g_bipush X (v := 57) dX9_isDigit_7 (by decide) ?_
    refine g_icmp_gt (tgt := 16) X dX9_isDigit_9 (by decide) (fun c9 => ?_) (fun c9 => ?_)
    · rw [if_pos c9] at hM
      refine g_mk [false] [none] rfl ?_
      exact v_X9_isDigit_b16 X  hM
    · rw [if_neg c9] at hM
      refine g_iconst X (v := 1) dX9_isDigit_12 (by decide) ?_
      refine g_goto (tgt := 17) X dX9_isDigit_13 (by decide) ?_
      refine g_mk [false] [none] rfl ?_
      exact v_X9_isDigit_b17 X  hM
theorem s_X9_isDigit {x0 : Int32} {u : gM} {w : Int32} (hM : X9_isDigit u x0 = some w) : gMet skC yX9_isDigit cX9_isDigit 1 (some .boolean) 0 0 (fun B adK => [.int x0]) u ((fun _ => some (.int w)), u) := by
  refine gMet.of (by decide) (fun _ _ => Nat.le_of_ble_eq_true rfl) (fun κ B X => ?_)
  have X : gX κ B skC cX9_isDigit 1 RX9 (some .boolean) 0 0 := X
  refine g_mk [true] [some (.int x0)] rfl ?_
  exact v_X9_isDigit X  hM

/-! CoverDesk$Tape.scanNumber()V -/
theorem dX9_scanNumber_0 : decode cX9_scanNumber 0 = .ok (.aload_n 0, 1) := by decide +kernel
theorem dX9_scanNumber_1 : decode cX9_scanNumber 1 = .ok (.getfield 25, 3) := by decide +kernel
theorem dX9_scanNumber_4 : decode cX9_scanNumber 4 = .ok (.aload_n 0, 1) := by decide +kernel
theorem dX9_scanNumber_5 : decode cX9_scanNumber 5 = .ok (.getfield 19, 3) := by decide +kernel
theorem dX9_scanNumber_8 : decode cX9_scanNumber 8 = .ok (.if_icmp .ge 69, 3) := by decide +kernel
theorem dX9_scanNumber_11 : decode cX9_scanNumber 11 = .ok (.aload_n 0, 1) := by decide +kernel
theorem dX9_scanNumber_12 : decode cX9_scanNumber 12 = .ok (.getfield 15, 3) := by decide +kernel
theorem dX9_scanNumber_15 : decode cX9_scanNumber 15 = .ok (.aload_n 0, 1) := by decide +kernel
theorem dX9_scanNumber_16 : decode cX9_scanNumber 16 = .ok (.getfield 25, 3) := by decide +kernel
theorem dX9_scanNumber_19 : decode cX9_scanNumber 19 = .ok (.baload, 1) := by decide +kernel
theorem dX9_scanNumber_20 : decode cX9_scanNumber 20 = .ok (.invokestatic 61, 3) := by decide +kernel
theorem dX9_scanNumber_23 : decode cX9_scanNumber 23 = .ok (.ifCond .eq 54, 3) := by decide +kernel
theorem dX9_scanNumber_26 : decode cX9_scanNumber 26 = .ok (.aload_n 0, 1) := by decide +kernel
theorem dX9_scanNumber_27 : decode cX9_scanNumber 27 = .ok (.getfield 25, 3) := by decide +kernel
theorem dX9_scanNumber_30 : decode cX9_scanNumber 30 = .ok (.aload_n 0, 1) := by decide +kernel
theorem dX9_scanNumber_31 : decode cX9_scanNumber 31 = .ok (.getfield 35, 3) := by decide +kernel
theorem dX9_scanNumber_34 : decode cX9_scanNumber 34 = .ok (.isub, 1) := by decide +kernel
theorem dX9_scanNumber_35 : decode cX9_scanNumber 35 = .ok (.bipush 9, 2) := by decide +kernel
theorem dX9_scanNumber_37 : decode cX9_scanNumber 37 = .ok (.if_icmp .ge 27, 3) := by decide +kernel
theorem dX9_scanNumber_40 : decode cX9_scanNumber 40 = .ok (.aload_n 0, 1) := by decide +kernel
theorem dX9_scanNumber_41 : decode cX9_scanNumber 41 = .ok (.aload_n 0, 1) := by decide +kernel
theorem dX9_scanNumber_42 : decode cX9_scanNumber 42 = .ok (.getfield 45, 3) := by decide +kernel
theorem dX9_scanNumber_45 : decode cX9_scanNumber 45 = .ok (.bipush 10, 2) := by decide +kernel
theorem dX9_scanNumber_47 : decode cX9_scanNumber 47 = .ok (.imul, 1) := by decide +kernel
theorem dX9_scanNumber_48 : decode cX9_scanNumber 48 = .ok (.aload_n 0, 1) := by decide +kernel
theorem dX9_scanNumber_49 : decode cX9_scanNumber 49 = .ok (.getfield 15, 3) := by decide +kernel
theorem dX9_scanNumber_52 : decode cX9_scanNumber 52 = .ok (.aload_n 0, 1) := by decide +kernel
theorem dX9_scanNumber_53 : decode cX9_scanNumber 53 = .ok (.getfield 25, 3) := by decide +kernel
theorem dX9_scanNumber_56 : decode cX9_scanNumber 56 = .ok (.baload, 1) := by decide +kernel
theorem dX9_scanNumber_57 : decode cX9_scanNumber 57 = .ok (.bipush 48, 2) := by decide +kernel
theorem dX9_scanNumber_59 : decode cX9_scanNumber 59 = .ok (.isub, 1) := by decide +kernel
theorem dX9_scanNumber_60 : decode cX9_scanNumber 60 = .ok (.iadd, 1) := by decide +kernel
theorem dX9_scanNumber_61 : decode cX9_scanNumber 61 = .ok (.putfield 45, 3) := by decide +kernel
theorem dX9_scanNumber_64 : decode cX9_scanNumber 64 = .ok (.aload_n 0, 1) := by decide +kernel
theorem dX9_scanNumber_65 : decode cX9_scanNumber 65 = .ok (.dup, 1) := by decide +kernel
theorem dX9_scanNumber_66 : decode cX9_scanNumber 66 = .ok (.getfield 25, 3) := by decide +kernel
theorem dX9_scanNumber_69 : decode cX9_scanNumber 69 = .ok (.iconst 1, 1) := by decide +kernel
theorem dX9_scanNumber_70 : decode cX9_scanNumber 70 = .ok (.iadd, 1) := by decide +kernel
theorem dX9_scanNumber_71 : decode cX9_scanNumber 71 = .ok (.putfield 25, 3) := by decide +kernel
theorem dX9_scanNumber_74 : decode cX9_scanNumber 74 = .ok (.goto (-74), 3) := by decide +kernel
theorem dX9_scanNumber_77 : decode cX9_scanNumber 77 = .ok (.aload_n 0, 1) := by decide +kernel
theorem dX9_scanNumber_78 : decode cX9_scanNumber 78 = .ok (.aload_n 0, 1) := by decide +kernel
theorem dX9_scanNumber_79 : decode cX9_scanNumber 79 = .ok (.getfield 25, 3) := by decide +kernel
theorem dX9_scanNumber_82 : decode cX9_scanNumber 82 = .ok (.aload_n 0, 1) := by decide +kernel
theorem dX9_scanNumber_83 : decode cX9_scanNumber 83 = .ok (.getfield 35, 3) := by decide +kernel
theorem dX9_scanNumber_86 : decode cX9_scanNumber 86 = .ok (.isub, 1) := by decide +kernel
theorem dX9_scanNumber_87 : decode cX9_scanNumber 87 = .ok (.bipush 9, 2) := by decide +kernel
theorem dX9_scanNumber_89 : decode cX9_scanNumber 89 = .ok (.if_icmp .le 7, 3) := by decide +kernel
theorem dX9_scanNumber_92 : decode cX9_scanNumber 92 = .ok (.iconst 5, 1) := by decide +kernel
theorem dX9_scanNumber_93 : decode cX9_scanNumber 93 = .ok (.goto 4, 3) := by decide +kernel
theorem dX9_scanNumber_96 : decode cX9_scanNumber 96 = .ok (.iconst 3, 1) := by decide +kernel
theorem dX9_scanNumber_97 : decode cX9_scanNumber 97 = .ok (.putfield 48, 3) := by decide +kernel
theorem dX9_scanNumber_100 : decode cX9_scanNumber 100 = .ok (.return_, 1) := by decide +kernel
def X9_scanNumber_b97  (s1 : Int32) (u : gM) : Option gM :=
some (upI u 1 3 s1)
def X9_scanNumber_b77   (u : gM) : Option gM :=
(if ((u.1 1 10) - (u.1 1 9)) ≤ 9 then (X9_scanNumber_b97 3 u)
  else (X9_scanNumber_b97 5 u))
def X9_scanNumber_b64 (k0 : gM → Option gM)  (u : gM) : Option gM :=
(k0 (upI u 1 10 ((u.1 1 10) + 1)))
def X9_scanNumber_b0 (k0 : gM → Option gM)  (u : gM) : Option gM :=
(if (u.1 1 0) ≤ (u.1 1 10) then (X9_scanNumber_b77 u)
  else ((aB skC u 2 (u.1 1 10)).bind fun v19 => ((X9_isDigit u v19).bind fun w20 => (if w20 = 0 then (X9_scanNumber_b77 u)
    else (if 9 ≤ ((u.1 1 10) - (u.1 1 9)) then (X9_scanNumber_b64 k0 u)
      else ((aB skC u 2 (u.1 1 10)).bind fun v56 => (X9_scanNumber_b64 k0 (upI u 1 5 (((u.1 1 5) * 10) + (v56 - 48))))))))))
def X9_scanNumber_l0  : Nat → gM → Option gM
  | 0, _ => none
  | n + 1, u => X9_scanNumber_b0  (X9_scanNumber_l0  n) u
def X9_scanNumber  (u : gM) : Option gM := X9_scanNumber_l0 fz u
set_option maxRecDepth 20000 in
theorem v_X9_scanNumber_b97 {κ : gK} {B : Nat} {u : gM} (X : gX κ B skC cX9_scanNumber 1 RX9 none 1 20)   {s1 : Int32} {w : gM} (hM : X9_scanNumber_b97 s1 u = some w) : gV κ B skC 1 ((none), w) 97 [none] [.int s1, .ref (B + 1)] u := by
  unfold X9_scanNumber_b97 at hM
  refine g_putI X fX9_48 gc_X9 gp_X9_3 cC_1 rfl dX9_scanNumber_97 ?_
  cases hM
  exact g_vret X dX9_scanNumber_100
set_option maxRecDepth 20000 in
theorem v_X9_scanNumber_b77 {κ : gK} {B : Nat} {u : gM} (X : gX κ B skC cX9_scanNumber 1 RX9 none 1 20)    {w : gM} (hM : X9_scanNumber_b77 u = some w) : gV κ B skC 1 ((none), w) 77 [some (.ref (B + 1))] [] u := by
  unfold X9_scanNumber_b77 at hM
  refine g_aload_n X dX9_scanNumber_77 rfl ?_
  refine g_aload_n X dX9_scanNumber_78 rfl ?_
  refine g_getI X fX9_25 cC_1 rfl dX9_scanNumber_79 ?_
  refine g_aload_n X dX9_scanNumber_82 rfl ?_
  refine g_getI X fX9_35 cC_1 rfl dX9_scanNumber_83 ?_
  refine g_isub X dX9_scanNumber_86 ?_
  refine g_bipush X (v := 9) dX9_scanNumber_87 (by decide) ?_
  refine g_icmp_le (tgt := 96) X dX9_scanNumber_89 (by decide) (fun c89 => ?_) (fun c89 => ?_)
  · rw [if_pos c89] at hM
    refine g_iconst X (v := 3) dX9_scanNumber_96 (by decide) ?_
    refine g_mk [false] [none] rfl ?_
    exact v_X9_scanNumber_b97 X  hM
  · rw [if_neg c89] at hM
    refine g_iconst X (v := 5) dX9_scanNumber_92 (by decide) ?_
    refine g_goto (tgt := 97) X dX9_scanNumber_93 (by decide) ?_
    refine g_mk [false] [none] rfl ?_
    exact v_X9_scanNumber_b97 X  hM
set_option maxRecDepth 20000 in
theorem v_X9_scanNumber_b64 {κ : gK} {B : Nat} {u : gM} (X : gX κ B skC cX9_scanNumber 1 RX9 none 1 20) {k0 : gM → Option gM} (ih0 : ∀  (u : gM) (w : gM), k0 u = some w → gV κ B skC 1 ((none), w) 0 [some (.ref (B + 1))] [] u)  {w : gM} (hM : X9_scanNumber_b64 k0 u = some w) : gV κ B skC 1 ((none), w) 64 [some (.ref (B + 1))] [] u := by
  unfold X9_scanNumber_b64 at hM
  refine g_aload_n X dX9_scanNumber_64 rfl ?_
  refine g_dup X rfl dX9_scanNumber_65 ?_
  refine g_getI X fX9_25 cC_1 rfl dX9_scanNumber_66 ?_
  refine g_iconst X (v := 1) dX9_scanNumber_69 (by decide) ?_
  refine g_iadd X dX9_scanNumber_70 ?_
  refine g_putI X fX9_25 gc_X9 gp_X9_10 cC_1 rfl dX9_scanNumber_71 ?_
  refine g_goto (tgt := 0) X dX9_scanNumber_74 (by decide) ?_
  refine g_mk [true] [some (.ref (B + 1))] rfl ?_
  exact ih0 (upI u 1 10 ((u.1 1 10) + 1)) _ hM
set_option maxRecDepth 20000 in
theorem v_X9_scanNumber_b0 {κ : gK} {B : Nat} {u : gM} (X : gX κ B skC cX9_scanNumber 1 RX9 none 1 20) {k0 : gM → Option gM} (ih0 : ∀  (u : gM) (w : gM), k0 u = some w → gV κ B skC 1 ((none), w) 0 [some (.ref (B + 1))] [] u)  {w : gM} (hM : X9_scanNumber_b0 k0 u = some w) : gV κ B skC 1 ((none), w) 0 [some (.ref (B + 1))] [] u := by
  unfold X9_scanNumber_b0 at hM
  refine g_aload_n X dX9_scanNumber_0 rfl ?_
  refine g_getI X fX9_25 cC_1 rfl dX9_scanNumber_1 ?_
  refine g_aload_n X dX9_scanNumber_4 rfl ?_
  refine g_getI X fX9_19 cC_1 rfl dX9_scanNumber_5 ?_
  refine g_icmp_ge (tgt := 77) X dX9_scanNumber_8 (by decide) (fun c8 => ?_) (fun c8 => ?_)
  · rw [if_pos c8] at hM
    refine g_mk [true] [some (.ref (B + 1))] rfl ?_
    exact v_X9_scanNumber_b77 X  hM
  · rw [if_neg c8] at hM
    refine g_aload_n X dX9_scanNumber_11 rfl ?_
    refine g_getR X fX9_15 cC_1 rfl dX9_scanNumber_12 ?_
    refine g_aload_n X dX9_scanNumber_15 rfl ?_
    refine g_getI X fX9_25 cC_1 rfl dX9_scanNumber_16 ?_
    obtain ⟨v19, e19, hM⟩ := bind_of hM
    refine g_baload X e19 dX9_scanNumber_19 ?_
    obtain ⟨w20, e20, hM⟩ := bind_of hM
    refine g_callSi X (fun B adK => [.int v19]) (s_X9_isDigit e20) cvX9_61 rfl rfl (Nat.le_of_ble_eq_true rfl) ⟨by decide, by decide⟩ dX9_scanNumber_20 ?_
    refine g_if_eq (tgt := 77) X dX9_scanNumber_23 (by decide) (fun c23 => ?_) (fun c23 => ?_)
    · rw [if_pos c23] at hM
      refine g_mk [true] [some (.ref (B + 1))] rfl ?_
      exact v_X9_scanNumber_b77 X  hM
    · rw [if_neg c23] at hM
      refine g_aload_n X dX9_scanNumber_26 rfl ?_
      refine g_getI X fX9_25 cC_1 rfl dX9_scanNumber_27 ?_
      refine g_aload_n X dX9_scanNumber_30 rfl ?_
      refine g_getI X fX9_35 cC_1 rfl dX9_scanNumber_31 ?_
      refine g_isub X dX9_scanNumber_34 ?_
      refine g_bipush X (v := 9) dX9_scanNumber_35 (by decide) ?_
      refine g_icmp_ge (tgt := 64) X dX9_scanNumber_37 (by decide) (fun c37 => ?_) (fun c37 => ?_)
      · rw [if_pos c37] at hM
        refine g_mk [true] [some (.ref (B + 1))] rfl ?_
        exact v_X9_scanNumber_b64 X ih0 hM
      · rw [if_neg c37] at hM
        refine g_aload_n X dX9_scanNumber_40 rfl ?_
        refine g_aload_n X dX9_scanNumber_41 rfl ?_
        refine g_getI X fX9_45 cC_1 rfl dX9_scanNumber_42 ?_
        refine g_bipush X (v := 10) dX9_scanNumber_45 (by decide) ?_
        refine g_imul X dX9_scanNumber_47 ?_
        refine g_aload_n X dX9_scanNumber_48 rfl ?_
        refine g_getR X fX9_15 cC_1 rfl dX9_scanNumber_49 ?_
        refine g_aload_n X dX9_scanNumber_52 rfl ?_
        refine g_getI X fX9_25 cC_1 rfl dX9_scanNumber_53 ?_
        obtain ⟨v56, e56, hM⟩ := bind_of hM
        refine g_baload X e56 dX9_scanNumber_56 ?_
        refine g_bipush X (v := 48) dX9_scanNumber_57 (by decide) ?_
        refine g_isub X dX9_scanNumber_59 ?_
        refine g_iadd X dX9_scanNumber_60 ?_
        refine g_putI X fX9_45 gc_X9 gp_X9_5 cC_1 rfl dX9_scanNumber_61 ?_
        refine g_mk [true] [some (.ref (B + 1))] rfl ?_
        exact v_X9_scanNumber_b64 X ih0 hM
theorem v_X9_scanNumber_l0 {κ : gK} {B : Nat} (X : gX κ B skC cX9_scanNumber 1 RX9 none 1 20)   : ∀ (n : Nat)  {u : gM} {w : gM} (hM : X9_scanNumber_l0  n u = some w), gV κ B skC 1 ((none), w) 0 [some (.ref (B + 1))] [] u := by
  intro n
  induction n with
  | zero => intro u w hM; exact nomatch (show (none : Option gM) = some w from hM)
  | succ n ihn => intro u w hM; exact v_X9_scanNumber_b0 X  (fun u w h => ihn h) hM
theorem s_X9_scanNumber  {u : gM} {w : gM} (hM : X9_scanNumber u = some w) : gMet skC yX9_scanNumber cX9_scanNumber 1 none 1 20 (fun B adK => [.ref (B + 1)]) u ((fun _ => none), w) := by
  refine gMet.of (by decide) (fun _ _ => Nat.le_of_ble_eq_true rfl) (fun κ B X => ?_)
  have X : gX κ B skC cX9_scanNumber 1 RX9 none 1 20 := X
  refine g_mk [true] [some (.ref (B + 1))] rfl ?_
  exact v_X9_scanNumber_l0 X fz hM
theorem fr_X9_scanNumber_b97 {S : Nat → Prop} {u0 u : gM} {s1 : Int32} (hs0 : S 1)   {w : gM} (hM : X9_scanNumber_b97 s1 u = some w) (h0 : off S u0 u) : off S u0 w := by
  unfold X9_scanNumber_b97 at hM
  have h0 := off_upI (u := u) (k := 1) (j := 3) (x := s1) hs0 h0
  cases hM
  exact h0
theorem fr_X9_scanNumber_b77 {S : Nat → Prop} {u0 u : gM}  (hs0 : S 1)   {w : gM} (hM : X9_scanNumber_b77 u = some w) (h0 : off S u0 u) : off S u0 w := by
  unfold X9_scanNumber_b77 at hM
  by_cases c89 : ((u.1 1 10) - (u.1 1 9)) ≤ 9
  · rw [if_pos c89] at hM
    exact fr_X9_scanNumber_b97 hs0  hM h0
  · rw [if_neg c89] at hM
    exact fr_X9_scanNumber_b97 hs0  hM h0
theorem fr_X9_scanNumber_b64 {S : Nat → Prop} {u0 u : gM}  (hs0 : S 1) {k0 : gM → Option gM} (ik0 : ∀  (u : gM) (w : gM), S 1 → off S u0 u → k0  u = some w → off S u0 w) {w : gM} (hM : X9_scanNumber_b64 k0 u = some w) (h0 : off S u0 u) : off S u0 w := by
  unfold X9_scanNumber_b64 at hM
  have h0 := off_upI (u := u) (k := 1) (j := 10) (x := ((u.1 1 10) + 1)) hs0 h0
  exact ik0 _ _ hs0 h0 hM
theorem fr_X9_scanNumber_b0 {S : Nat → Prop} {u0 u : gM}  (hs0 : S 1) {k0 : gM → Option gM} (ik0 : ∀  (u : gM) (w : gM), S 1 → off S u0 u → k0  u = some w → off S u0 w) {w : gM} (hM : X9_scanNumber_b0 k0 u = some w) (h0 : off S u0 u) : off S u0 w := by
  unfold X9_scanNumber_b0 at hM
  by_cases c8 : (u.1 1 0) ≤ (u.1 1 10)
  · rw [if_pos c8] at hM
    exact fr_X9_scanNumber_b77 hs0  hM h0
  · rw [if_neg c8] at hM
    obtain ⟨v19, e19, hM⟩ := bind_of hM
    obtain ⟨w20, e20, hM⟩ := bind_of hM
    by_cases c23 : w20 = 0
    · rw [if_pos c23] at hM
      exact fr_X9_scanNumber_b77 hs0  hM h0
    · rw [if_neg c23] at hM
      by_cases c37 : 9 ≤ ((u.1 1 10) - (u.1 1 9))
      · rw [if_pos c37] at hM
        exact fr_X9_scanNumber_b64 hs0 ik0 hM h0
      · rw [if_neg c37] at hM
        obtain ⟨v56, e56, hM⟩ := bind_of hM
        have h0 := off_upI (u := u) (k := 1) (j := 5) (x := (((u.1 1 5) * 10) + (v56 - 48))) hs0 h0
        exact fr_X9_scanNumber_b64 hs0 ik0 hM h0
theorem fr_X9_scanNumber_l0 {S : Nat → Prop} {u0 : gM}   : ∀ (n : Nat)  (hs0 : S 1) {u : gM} {w : gM} (h0 : off S u0 u) (hM : X9_scanNumber_l0  n u = some w), off S u0 w := by
  intro n
  induction n with
  | zero => intro hs0 u w h0 hM; exact nomatch (show (none : Option gM) = some w from hM)
  | succ n ihn => intro hs0 u w h0 hM; exact fr_X9_scanNumber_b0 hs0  (fun _ _ hs0 h0 h => ihn hs0 h0 h) hM h0
theorem fr_X9_scanNumber {S : Nat → Prop} {u0 u : gM}  (hs0 : S 1) {w : gM} (hM : X9_scanNumber u = some w) (h0 : off S u0 u) : off S u0 w := fr_X9_scanNumber_l0 fz hs0 h0 hM
/-! CoverDesk$Tape.step()V -/
theorem dX9_step_0 : decode cX9_step 0 = .ok (.aload_n 0, 1) := by decide +kernel
theorem dX9_step_1 : decode cX9_step 1 = .ok (.getfield 25, 3) := by decide +kernel
theorem dX9_step_4 : decode cX9_step 4 = .ok (.aload_n 0, 1) := by decide +kernel
theorem dX9_step_5 : decode cX9_step 5 = .ok (.getfield 19, 3) := by decide +kernel
theorem dX9_step_8 : decode cX9_step 8 = .ok (.if_icmp .ge 31, 3) := by decide +kernel
theorem dX9_step_11 : decode cX9_step 11 = .ok (.aload_n 0, 1) := by decide +kernel
theorem dX9_step_12 : decode cX9_step 12 = .ok (.getfield 15, 3) := by decide +kernel
theorem dX9_step_15 : decode cX9_step 15 = .ok (.aload_n 0, 1) := by decide +kernel
theorem dX9_step_16 : decode cX9_step 16 = .ok (.getfield 25, 3) := by decide +kernel
theorem dX9_step_19 : decode cX9_step 19 = .ok (.baload, 1) := by decide +kernel
theorem dX9_step_20 : decode cX9_step 20 = .ok (.invokestatic 31, 3) := by decide +kernel
theorem dX9_step_23 : decode cX9_step 23 = .ok (.ifCond .eq 16, 3) := by decide +kernel
theorem dX9_step_26 : decode cX9_step 26 = .ok (.aload_n 0, 1) := by decide +kernel
theorem dX9_step_27 : decode cX9_step 27 = .ok (.dup, 1) := by decide +kernel
theorem dX9_step_28 : decode cX9_step 28 = .ok (.getfield 25, 3) := by decide +kernel
theorem dX9_step_31 : decode cX9_step 31 = .ok (.iconst 1, 1) := by decide +kernel
theorem dX9_step_32 : decode cX9_step 32 = .ok (.iadd, 1) := by decide +kernel
theorem dX9_step_33 : decode cX9_step 33 = .ok (.putfield 25, 3) := by decide +kernel
theorem dX9_step_36 : decode cX9_step 36 = .ok (.goto (-36), 3) := by decide +kernel
theorem dX9_step_39 : decode cX9_step 39 = .ok (.aload_n 0, 1) := by decide +kernel
theorem dX9_step_40 : decode cX9_step 40 = .ok (.aload_n 0, 1) := by decide +kernel
theorem dX9_step_41 : decode cX9_step 41 = .ok (.getfield 25, 3) := by decide +kernel
theorem dX9_step_44 : decode cX9_step 44 = .ok (.putfield 35, 3) := by decide +kernel
theorem dX9_step_47 : decode cX9_step 47 = .ok (.aload_n 0, 1) := by decide +kernel
theorem dX9_step_48 : decode cX9_step 48 = .ok (.iconst (-1), 1) := by decide +kernel
theorem dX9_step_49 : decode cX9_step 49 = .ok (.putfield 38, 3) := by decide +kernel
theorem dX9_step_52 : decode cX9_step 52 = .ok (.aload_n 0, 1) := by decide +kernel
theorem dX9_step_53 : decode cX9_step 53 = .ok (.lconst 0, 1) := by decide +kernel
theorem dX9_step_54 : decode cX9_step 54 = .ok (.putfield 41, 3) := by decide +kernel
theorem dX9_step_57 : decode cX9_step 57 = .ok (.aload_n 0, 1) := by decide +kernel
theorem dX9_step_58 : decode cX9_step 58 = .ok (.iconst 0, 1) := by decide +kernel
theorem dX9_step_59 : decode cX9_step 59 = .ok (.putfield 45, 3) := by decide +kernel
theorem dX9_step_62 : decode cX9_step 62 = .ok (.aload_n 0, 1) := by decide +kernel
theorem dX9_step_63 : decode cX9_step 63 = .ok (.getfield 25, 3) := by decide +kernel
theorem dX9_step_66 : decode cX9_step 66 = .ok (.aload_n 0, 1) := by decide +kernel
theorem dX9_step_67 : decode cX9_step 67 = .ok (.getfield 19, 3) := by decide +kernel
theorem dX9_step_70 : decode cX9_step 70 = .ok (.if_icmp .lt 11, 3) := by decide +kernel
theorem dX9_step_73 : decode cX9_step 73 = .ok (.aload_n 0, 1) := by decide +kernel
theorem dX9_step_74 : decode cX9_step 74 = .ok (.iconst 0, 1) := by decide +kernel
theorem dX9_step_75 : decode cX9_step 75 = .ok (.putfield 48, 3) := by decide +kernel
theorem dX9_step_78 : decode cX9_step 78 = .ok (.goto 109, 3) := by decide +kernel
theorem dX9_step_81 : decode cX9_step 81 = .ok (.aload_n 0, 1) := by decide +kernel
theorem dX9_step_82 : decode cX9_step 82 = .ok (.getfield 15, 3) := by decide +kernel
theorem dX9_step_85 : decode cX9_step 85 = .ok (.aload_n 0, 1) := by decide +kernel
theorem dX9_step_86 : decode cX9_step 86 = .ok (.getfield 25, 3) := by decide +kernel
theorem dX9_step_89 : decode cX9_step 89 = .ok (.baload, 1) := by decide +kernel
theorem dX9_step_90 : decode cX9_step 90 = .ok (.invokestatic 51, 3) := by decide +kernel
theorem dX9_step_93 : decode cX9_step 93 = .ok (.ifCond .eq 39, 3) := by decide +kernel
theorem dX9_step_96 : decode cX9_step 96 = .ok (.aload_n 0, 1) := by decide +kernel
theorem dX9_step_97 : decode cX9_step 97 = .ok (.invokevirtual 54, 3) := by decide +kernel
theorem dX9_step_100 : decode cX9_step 100 = .ok (.aload_n 0, 1) := by decide +kernel
theorem dX9_step_101 : decode cX9_step 101 = .ok (.aload_n 0, 1) := by decide +kernel
theorem dX9_step_102 : decode cX9_step 102 = .ok (.invokevirtual 57, 3) := by decide +kernel
theorem dX9_step_105 : decode cX9_step 105 = .ok (.putfield 38, 3) := by decide +kernel
theorem dX9_step_108 : decode cX9_step 108 = .ok (.aload_n 0, 1) := by decide +kernel
theorem dX9_step_109 : decode cX9_step 109 = .ok (.getfield 48, 3) := by decide +kernel
theorem dX9_step_112 : decode cX9_step 112 = .ok (.iconst 1, 1) := by decide +kernel
theorem dX9_step_113 : decode cX9_step 113 = .ok (.if_icmp .ne 74, 3) := by decide +kernel
theorem dX9_step_116 : decode cX9_step 116 = .ok (.aload_n 0, 1) := by decide +kernel
theorem dX9_step_117 : decode cX9_step 117 = .ok (.getfield 38, 3) := by decide +kernel
theorem dX9_step_120 : decode cX9_step 120 = .ok (.iconst (-1), 1) := by decide +kernel
theorem dX9_step_121 : decode cX9_step 121 = .ok (.if_icmp .eq 66, 3) := by decide +kernel
theorem dX9_step_124 : decode cX9_step 124 = .ok (.aload_n 0, 1) := by decide +kernel
theorem dX9_step_125 : decode cX9_step 125 = .ok (.iconst 2, 1) := by decide +kernel
theorem dX9_step_126 : decode cX9_step 126 = .ok (.putfield 48, 3) := by decide +kernel
theorem dX9_step_129 : decode cX9_step 129 = .ok (.goto 58, 3) := by decide +kernel
theorem dX9_step_132 : decode cX9_step 132 = .ok (.aload_n 0, 1) := by decide +kernel
theorem dX9_step_133 : decode cX9_step 133 = .ok (.getfield 15, 3) := by decide +kernel
theorem dX9_step_136 : decode cX9_step 136 = .ok (.aload_n 0, 1) := by decide +kernel
theorem dX9_step_137 : decode cX9_step 137 = .ok (.getfield 25, 3) := by decide +kernel
theorem dX9_step_140 : decode cX9_step 140 = .ok (.baload, 1) := by decide +kernel
theorem dX9_step_141 : decode cX9_step 141 = .ok (.invokestatic 61, 3) := by decide +kernel
theorem dX9_step_144 : decode cX9_step 144 = .ok (.ifCond .eq 10, 3) := by decide +kernel
theorem dX9_step_147 : decode cX9_step 147 = .ok (.aload_n 0, 1) := by decide +kernel
theorem dX9_step_148 : decode cX9_step 148 = .ok (.invokevirtual 64, 3) := by decide +kernel
theorem dX9_step_151 : decode cX9_step 151 = .ok (.goto 36, 3) := by decide +kernel
theorem dX9_step_154 : decode cX9_step 154 = .ok (.aload_n 0, 1) := by decide +kernel
theorem dX9_step_155 : decode cX9_step 155 = .ok (.aload_n 0, 1) := by decide +kernel
theorem dX9_step_156 : decode cX9_step 156 = .ok (.getfield 15, 3) := by decide +kernel
theorem dX9_step_159 : decode cX9_step 159 = .ok (.aload_n 0, 1) := by decide +kernel
theorem dX9_step_160 : decode cX9_step 160 = .ok (.getfield 25, 3) := by decide +kernel
theorem dX9_step_163 : decode cX9_step 163 = .ok (.baload, 1) := by decide +kernel
theorem dX9_step_164 : decode cX9_step 164 = .ok (.bipush 59, 2) := by decide +kernel
theorem dX9_step_166 : decode cX9_step 166 = .ok (.if_icmp .ne 7, 3) := by decide +kernel
theorem dX9_step_169 : decode cX9_step 169 = .ok (.iconst 4, 1) := by decide +kernel
theorem dX9_step_170 : decode cX9_step 170 = .ok (.goto 4, 3) := by decide +kernel
theorem dX9_step_173 : decode cX9_step 173 = .ok (.iconst 5, 1) := by decide +kernel
theorem dX9_step_174 : decode cX9_step 174 = .ok (.putfield 48, 3) := by decide +kernel
theorem dX9_step_177 : decode cX9_step 177 = .ok (.aload_n 0, 1) := by decide +kernel
theorem dX9_step_178 : decode cX9_step 178 = .ok (.dup, 1) := by decide +kernel
theorem dX9_step_179 : decode cX9_step 179 = .ok (.getfield 25, 3) := by decide +kernel
theorem dX9_step_182 : decode cX9_step 182 = .ok (.iconst 1, 1) := by decide +kernel
theorem dX9_step_183 : decode cX9_step 183 = .ok (.iadd, 1) := by decide +kernel
theorem dX9_step_184 : decode cX9_step 184 = .ok (.putfield 25, 3) := by decide +kernel
theorem dX9_step_187 : decode cX9_step 187 = .ok (.return_, 1) := by decide +kernel
def X9_step_b187   (u : gM) : Option gM :=
some u
def X9_step_b174  (s1 : Int32) (u : gM) : Option gM :=
(X9_step_b187 (upI (upI u 1 3 s1) 1 10 (((upI u 1 3 s1).1 1 10) + 1)))
def X9_step_b57   (u : gM) : Option gM :=
(if ((upI u 1 5 0).1 1 10) < ((upI u 1 5 0).1 1 0) then ((aB skC (upI u 1 5 0) 2 ((upI u 1 5 0).1 1 10)).bind fun v89 => ((X9_isLetter (upI u 1 5 0) v89).bind fun w90 => (if w90 = 0 then ((aB skC (upI u 1 5 0) 2 ((upI u 1 5 0).1 1 10)).bind fun v140 => ((X9_isDigit (upI u 1 5 0) v140).bind fun w141 => (if w141 = 0 then ((aB skC (upI u 1 5 0) 2 ((upI u 1 5 0).1 1 10)).bind fun v163 => (if v163 = 59 then (X9_step_b174 4 (upI u 1 5 0))
        else (X9_step_b174 5 (upI u 1 5 0))))
      else ((X9_scanNumber (upI u 1 5 0)).bind fun w148 => (X9_step_b187 w148)))))
    else ((X9_scanWord (upI u 1 5 0)).bind fun w97 => ((X9_reserved w97).bind fun w102 => (if ((upI w97 1 4 w102).1 1 3) = 1 then (if ((upI w97 1 4 w102).1 1 4) = (-1) then (X9_step_b187 (upI w97 1 4 w102))
        else (X9_step_b187 (upI (upI w97 1 4 w102) 1 3 2)))
      else (X9_step_b187 (upI w97 1 4 w102))))))))
  else (X9_step_b187 (upI (upI u 1 5 0) 1 3 0)))
def X9_step_b39   (u : gM) : Option gM :=
(X9_step_b57 (upJ (upI (upI u 1 9 (u.1 1 10)) 1 4 (-1)) 1 7 0))
def X9_step_b0 (k0 : gM → Option gM)  (u : gM) : Option gM :=
(if (u.1 1 0) ≤ (u.1 1 10) then (X9_step_b39 u)
  else ((aB skC u 2 (u.1 1 10)).bind fun v19 => ((X9_isBlank u v19).bind fun w20 => (if w20 = 0 then (X9_step_b39 u)
    else (k0 (upI u 1 10 ((u.1 1 10) + 1)))))))
def X9_step_l0  : Nat → gM → Option gM
  | 0, _ => none
  | n + 1, u => X9_step_b0  (X9_step_l0  n) u
def X9_step  (u : gM) : Option gM := X9_step_l0 fz u
set_option maxRecDepth 20000 in
theorem v_X9_step_b187 {κ : gK} {B : Nat} {u : gM} (X : gX κ B skC cX9_step 1 RX9 none 5 125)    {w : gM} (hM : X9_step_b187 u = some w) : gV κ B skC 1 ((none), w) 187 [none] [] u := by
  unfold X9_step_b187 at hM
  cases hM
  exact g_vret X dX9_step_187
set_option maxRecDepth 20000 in
theorem v_X9_step_b174 {κ : gK} {B : Nat} {u : gM} (X : gX κ B skC cX9_step 1 RX9 none 5 125)   {s1 : Int32} {w : gM} (hM : X9_step_b174 s1 u = some w) : gV κ B skC 1 ((none), w) 174 [some (.ref (B + 1))] [.int s1, .ref (B + 1)] u := by
  unfold X9_step_b174 at hM
  refine g_putI X fX9_48 gc_X9 gp_X9_3 cC_1 rfl dX9_step_174 ?_
  refine g_aload_n X dX9_step_177 rfl ?_
  refine g_dup X rfl dX9_step_178 ?_
  refine g_getI X fX9_25 cC_1 rfl dX9_step_179 ?_
  refine g_iconst X (v := 1) dX9_step_182 (by decide) ?_
  refine g_iadd X dX9_step_183 ?_
  refine g_putI X fX9_25 gc_X9 gp_X9_10 cC_1 rfl dX9_step_184 ?_
  refine g_mk [false] [none] rfl ?_
  exact v_X9_step_b187 X  hM
set_option maxRecDepth 20000 in
theorem v_X9_step_b57 {κ : gK} {B : Nat} {u : gM} (X : gX κ B skC cX9_step 1 RX9 none 5 125)    {w : gM} (hM : X9_step_b57 u = some w) : gV κ B skC 1 ((none), w) 57 [some (.ref (B + 1))] [] u := by
  unfold X9_step_b57 at hM
  refine g_aload_n X dX9_step_57 rfl ?_
  refine g_iconst X (v := 0) dX9_step_58 (by decide) ?_
  refine g_putI X fX9_45 gc_X9 gp_X9_5 cC_1 rfl dX9_step_59 ?_
  refine g_aload_n X dX9_step_62 rfl ?_
  refine g_getI X fX9_25 cC_1 rfl dX9_step_63 ?_
  refine g_aload_n X dX9_step_66 rfl ?_
  refine g_getI X fX9_19 cC_1 rfl dX9_step_67 ?_
  refine g_icmp_lt (tgt := 81) X dX9_step_70 (by decide) (fun c70 => ?_) (fun c70 => ?_)
  · rw [if_pos c70] at hM
    refine g_aload_n X dX9_step_81 rfl ?_
    refine g_getR X fX9_15 cC_1 rfl dX9_step_82 ?_
    refine g_aload_n X dX9_step_85 rfl ?_
    refine g_getI X fX9_25 cC_1 rfl dX9_step_86 ?_
    obtain ⟨v89, e89, hM⟩ := bind_of hM
    refine g_baload X e89 dX9_step_89 ?_
    obtain ⟨w90, e90, hM⟩ := bind_of hM
    refine g_callSi X (fun B adK => [.int v89]) (s_X9_isLetter e90) cvX9_51 rfl rfl (Nat.le_of_ble_eq_true rfl) ⟨by decide, by decide⟩ dX9_step_90 ?_
    refine g_if_eq (tgt := 132) X dX9_step_93 (by decide) (fun c93 => ?_) (fun c93 => ?_)
    · rw [if_pos c93] at hM
      refine g_aload_n X dX9_step_132 rfl ?_
      refine g_getR X fX9_15 cC_1 rfl dX9_step_133 ?_
      refine g_aload_n X dX9_step_136 rfl ?_
      refine g_getI X fX9_25 cC_1 rfl dX9_step_137 ?_
      obtain ⟨v140, e140, hM⟩ := bind_of hM
      refine g_baload X e140 dX9_step_140 ?_
      obtain ⟨w141, e141, hM⟩ := bind_of hM
      refine g_callSi X (fun B adK => [.int v140]) (s_X9_isDigit e141) cvX9_61 rfl rfl (Nat.le_of_ble_eq_true rfl) ⟨by decide, by decide⟩ dX9_step_141 ?_
      refine g_if_eq (tgt := 154) X dX9_step_144 (by decide) (fun c144 => ?_) (fun c144 => ?_)
      · rw [if_pos c144] at hM
        refine g_aload_n X dX9_step_154 rfl ?_
        refine g_aload_n X dX9_step_155 rfl ?_
        refine g_getR X fX9_15 cC_1 rfl dX9_step_156 ?_
        refine g_aload_n X dX9_step_159 rfl ?_
        refine g_getI X fX9_25 cC_1 rfl dX9_step_160 ?_
        obtain ⟨v163, e163, hM⟩ := bind_of hM
        refine g_baload X e163 dX9_step_163 ?_
        refine g_bipush X (v := 59) dX9_step_164 (by decide) ?_
        refine g_icmp_ne (tgt := 173) X dX9_step_166 (by decide) (fun c166 => ?_) (fun c166 => ?_)
        · rw [if_neg c166] at hM
          refine g_iconst X (v := 5) dX9_step_173 (by decide) ?_
          refine g_mk [true] [some (.ref (B + 1))] rfl ?_
          exact v_X9_step_b174 X  hM
        · rw [if_pos c166] at hM
          refine g_iconst X (v := 4) dX9_step_169 (by decide) ?_
          refine g_goto (tgt := 174) X dX9_step_170 (by decide) ?_
          refine g_mk [true] [some (.ref (B + 1))] rfl ?_
          exact v_X9_step_b174 X  hM
      · rw [if_neg c144] at hM
        refine g_aload_n X dX9_step_147 rfl ?_
        obtain ⟨w148, e148, hM⟩ := bind_of hM
        refine g_callVv X (fun B adK => []) (s_X9_scanNumber e148) cvX9_64 cC_1 rfl rfl (Nat.le_of_ble_eq_true rfl) ⟨by decide, by decide⟩ dX9_step_148 ?_
        refine g_goto (tgt := 187) X dX9_step_151 (by decide) ?_
        refine g_mk [false] [none] rfl ?_
        exact v_X9_step_b187 X  hM
    · rw [if_neg c93] at hM
      refine g_aload_n X dX9_step_96 rfl ?_
      obtain ⟨w97, e97, hM⟩ := bind_of hM
      refine g_callVv X (fun B adK => []) (s_X9_scanWord e97) cvX9_54 cC_1 rfl rfl (Nat.le_of_ble_eq_true rfl) ⟨by decide, by decide⟩ dX9_step_97 ?_
      refine g_aload_n X dX9_step_100 rfl ?_
      refine g_aload_n X dX9_step_101 rfl ?_
      obtain ⟨w102, e102, hM⟩ := bind_of hM
      refine g_callVi X (fun B adK => []) (s_X9_reserved e102) cvX9_57 cC_1 rfl rfl (Nat.le_of_ble_eq_true rfl) ⟨by decide, by decide⟩ dX9_step_102 ?_
      refine g_putI X fX9_38 gc_X9 gp_X9_4 cC_1 rfl dX9_step_105 ?_
      refine g_aload_n X dX9_step_108 rfl ?_
      refine g_getI X fX9_48 cC_1 rfl dX9_step_109 ?_
      refine g_iconst X (v := 1) dX9_step_112 (by decide) ?_
      refine g_icmp_ne (tgt := 187) X dX9_step_113 (by decide) (fun c113 => ?_) (fun c113 => ?_)
      · rw [if_neg c113] at hM
        refine g_mk [false] [none] rfl ?_
        exact v_X9_step_b187 X  hM
      · rw [if_pos c113] at hM
        refine g_aload_n X dX9_step_116 rfl ?_
        refine g_getI X fX9_38 cC_1 rfl dX9_step_117 ?_
        refine g_iconst X (v := (-1)) dX9_step_120 (by decide) ?_
        refine g_icmp_eq (tgt := 187) X dX9_step_121 (by decide) (fun c121 => ?_) (fun c121 => ?_)
        · rw [if_pos c121] at hM
          refine g_mk [false] [none] rfl ?_
          exact v_X9_step_b187 X  hM
        · rw [if_neg c121] at hM
          refine g_aload_n X dX9_step_124 rfl ?_
          refine g_iconst X (v := 2) dX9_step_125 (by decide) ?_
          refine g_putI X fX9_48 gc_X9 gp_X9_3 cC_1 rfl dX9_step_126 ?_
          refine g_goto (tgt := 187) X dX9_step_129 (by decide) ?_
          refine g_mk [false] [none] rfl ?_
          exact v_X9_step_b187 X  hM
  · rw [if_neg c70] at hM
    refine g_aload_n X dX9_step_73 rfl ?_
    refine g_iconst X (v := 0) dX9_step_74 (by decide) ?_
    refine g_putI X fX9_48 gc_X9 gp_X9_3 cC_1 rfl dX9_step_75 ?_
    refine g_goto (tgt := 187) X dX9_step_78 (by decide) ?_
    refine g_mk [false] [none] rfl ?_
    exact v_X9_step_b187 X  hM
set_option maxRecDepth 20000 in
theorem v_X9_step_b39 {κ : gK} {B : Nat} {u : gM} (X : gX κ B skC cX9_step 1 RX9 none 5 125)    {w : gM} (hM : X9_step_b39 u = some w) : gV κ B skC 1 ((none), w) 39 [some (.ref (B + 1))] [] u := by
  unfold X9_step_b39 at hM
  refine g_aload_n X dX9_step_39 rfl ?_
  refine g_aload_n X dX9_step_40 rfl ?_
  refine g_getI X fX9_25 cC_1 rfl dX9_step_41 ?_
  refine g_putI X fX9_35 gc_X9 gp_X9_9 cC_1 rfl dX9_step_44 ?_
  refine g_aload_n X dX9_step_47 rfl ?_
  refine g_iconst X (v := (-1)) dX9_step_48 (by decide) ?_
  refine g_putI X fX9_38 gc_X9 gp_X9_4 cC_1 rfl dX9_step_49 ?_
  refine g_aload_n X dX9_step_52 rfl ?_
  refine g_lconst (v := 0) X dX9_step_53 (by decide) ?_
  refine g_putJ X fX9_41 gc_X9 gp_X9_7 cC_1 rfl dX9_step_54 ?_
  refine g_mk [true] [some (.ref (B + 1))] rfl ?_
  exact v_X9_step_b57 X  hM
set_option maxRecDepth 20000 in
theorem v_X9_step_b0 {κ : gK} {B : Nat} {u : gM} (X : gX κ B skC cX9_step 1 RX9 none 5 125) {k0 : gM → Option gM} (ih0 : ∀  (u : gM) (w : gM), k0 u = some w → gV κ B skC 1 ((none), w) 0 [some (.ref (B + 1))] [] u)  {w : gM} (hM : X9_step_b0 k0 u = some w) : gV κ B skC 1 ((none), w) 0 [some (.ref (B + 1))] [] u := by
  unfold X9_step_b0 at hM
  refine g_aload_n X dX9_step_0 rfl ?_
  refine g_getI X fX9_25 cC_1 rfl dX9_step_1 ?_
  refine g_aload_n X dX9_step_4 rfl ?_
  refine g_getI X fX9_19 cC_1 rfl dX9_step_5 ?_
  refine g_icmp_ge (tgt := 39) X dX9_step_8 (by decide) (fun c8 => ?_) (fun c8 => ?_)
  · rw [if_pos c8] at hM
    refine g_mk [true] [some (.ref (B + 1))] rfl ?_
    exact v_X9_step_b39 X  hM
  · rw [if_neg c8] at hM
    refine g_aload_n X dX9_step_11 rfl ?_
    refine g_getR X fX9_15 cC_1 rfl dX9_step_12 ?_
    refine g_aload_n X dX9_step_15 rfl ?_
    refine g_getI X fX9_25 cC_1 rfl dX9_step_16 ?_
    obtain ⟨v19, e19, hM⟩ := bind_of hM
    refine g_baload X e19 dX9_step_19 ?_
    obtain ⟨w20, e20, hM⟩ := bind_of hM
    refine g_callSi X (fun B adK => [.int v19]) (s_X9_isBlank e20) cvX9_31 rfl rfl (Nat.le_of_ble_eq_true rfl) ⟨by decide, by decide⟩ dX9_step_20 ?_
    refine g_if_eq (tgt := 39) X dX9_step_23 (by decide) (fun c23 => ?_) (fun c23 => ?_)
    · rw [if_pos c23] at hM
      refine g_mk [true] [some (.ref (B + 1))] rfl ?_
      exact v_X9_step_b39 X  hM
    · rw [if_neg c23] at hM
      refine g_aload_n X dX9_step_26 rfl ?_
      refine g_dup X rfl dX9_step_27 ?_
      refine g_getI X fX9_25 cC_1 rfl dX9_step_28 ?_
      refine g_iconst X (v := 1) dX9_step_31 (by decide) ?_
      refine g_iadd X dX9_step_32 ?_
      refine g_putI X fX9_25 gc_X9 gp_X9_10 cC_1 rfl dX9_step_33 ?_
      refine g_goto (tgt := 0) X dX9_step_36 (by decide) ?_
      refine g_mk [true] [some (.ref (B + 1))] rfl ?_
      exact ih0 (upI u 1 10 ((u.1 1 10) + 1)) _ hM
theorem v_X9_step_l0 {κ : gK} {B : Nat} (X : gX κ B skC cX9_step 1 RX9 none 5 125)   : ∀ (n : Nat)  {u : gM} {w : gM} (hM : X9_step_l0  n u = some w), gV κ B skC 1 ((none), w) 0 [some (.ref (B + 1))] [] u := by
  intro n
  induction n with
  | zero => intro u w hM; exact nomatch (show (none : Option gM) = some w from hM)
  | succ n ihn => intro u w hM; exact v_X9_step_b0 X  (fun u w h => ihn h) hM
theorem s_X9_step  {u : gM} {w : gM} (hM : X9_step u = some w) : gMet skC yX9_step cX9_step 1 none 5 125 (fun B adK => [.ref (B + 1)]) u ((fun _ => none), w) := by
  refine gMet.of (by decide) (fun _ _ => Nat.le_of_ble_eq_true rfl) (fun κ B X => ?_)
  have X : gX κ B skC cX9_step 1 RX9 none 5 125 := X
  refine g_mk [true] [some (.ref (B + 1))] rfl ?_
  exact v_X9_step_l0 X fz hM
theorem fr_X9_step_b187 {S : Nat → Prop} {u0 u : gM}     {w : gM} (hM : X9_step_b187 u = some w) (h0 : off S u0 u) : off S u0 w := by
  unfold X9_step_b187 at hM
  cases hM
  exact h0
theorem fr_X9_step_b174 {S : Nat → Prop} {u0 u : gM} {s1 : Int32} (hs0 : S 1)   {w : gM} (hM : X9_step_b174 s1 u = some w) (h0 : off S u0 u) : off S u0 w := by
  unfold X9_step_b174 at hM
  have h0 := off_upI (u := u) (k := 1) (j := 3) (x := s1) hs0 h0
  have h0 := off_upI (u := (upI u 1 3 s1)) (k := 1) (j := 10) (x := (((upI u 1 3 s1).1 1 10) + 1)) hs0 h0
  exact fr_X9_step_b187   hM h0
theorem fr_X9_step_b57 {S : Nat → Prop} {u0 u : gM}  (hs0 : S 1)   {w : gM} (hM : X9_step_b57 u = some w) (h0 : off S u0 u) : off S u0 w := by
  unfold X9_step_b57 at hM
  have h0 := off_upI (u := u) (k := 1) (j := 5) (x := 0) hs0 h0
  by_cases c70 : ((upI u 1 5 0).1 1 10) < ((upI u 1 5 0).1 1 0)
  · rw [if_pos c70] at hM
    obtain ⟨v89, e89, hM⟩ := bind_of hM
    obtain ⟨w90, e90, hM⟩ := bind_of hM
    by_cases c93 : w90 = 0
    · rw [if_pos c93] at hM
      obtain ⟨v140, e140, hM⟩ := bind_of hM
      obtain ⟨w141, e141, hM⟩ := bind_of hM
      by_cases c144 : w141 = 0
      · rw [if_pos c144] at hM
        obtain ⟨v163, e163, hM⟩ := bind_of hM
        by_cases c166 : v163 = 59
        · rw [if_pos c166] at hM
          exact fr_X9_step_b174 hs0  hM h0
        · rw [if_neg c166] at hM
          exact fr_X9_step_b174 hs0  hM h0
      · rw [if_neg c144] at hM
        obtain ⟨w148, e148, hM⟩ := bind_of hM
        have h0 := fr_X9_scanNumber hs0 e148 h0
        exact fr_X9_step_b187   hM h0
    · rw [if_neg c93] at hM
      obtain ⟨w97, e97, hM⟩ := bind_of hM
      have h0 := fr_X9_scanWord hs0 e97 h0
      obtain ⟨w102, e102, hM⟩ := bind_of hM
      have h0 := off_upI (u := w97) (k := 1) (j := 4) (x := w102) hs0 h0
      by_cases c113 : ((upI w97 1 4 w102).1 1 3) = 1
      · rw [if_pos c113] at hM
        by_cases c121 : ((upI w97 1 4 w102).1 1 4) = (-1)
        · rw [if_pos c121] at hM
          exact fr_X9_step_b187   hM h0
        · rw [if_neg c121] at hM
          have h0 := off_upI (u := (upI w97 1 4 w102)) (k := 1) (j := 3) (x := 2) hs0 h0
          exact fr_X9_step_b187   hM h0
      · rw [if_neg c113] at hM
        exact fr_X9_step_b187   hM h0
  · rw [if_neg c70] at hM
    have h0 := off_upI (u := (upI u 1 5 0)) (k := 1) (j := 3) (x := 0) hs0 h0
    exact fr_X9_step_b187   hM h0
theorem fr_X9_step_b39 {S : Nat → Prop} {u0 u : gM}  (hs0 : S 1)   {w : gM} (hM : X9_step_b39 u = some w) (h0 : off S u0 u) : off S u0 w := by
  unfold X9_step_b39 at hM
  have h0 := off_upI (u := u) (k := 1) (j := 9) (x := (u.1 1 10)) hs0 h0
  have h0 := off_upI (u := (upI u 1 9 (u.1 1 10))) (k := 1) (j := 4) (x := (-1)) hs0 h0
  have h0 := off_upJ (u := (upI (upI u 1 9 (u.1 1 10)) 1 4 (-1))) (k := 1) (j := 7) (x := 0) hs0 h0
  exact fr_X9_step_b57 hs0  hM h0
theorem fr_X9_step_b0 {S : Nat → Prop} {u0 u : gM}  (hs0 : S 1) {k0 : gM → Option gM} (ik0 : ∀  (u : gM) (w : gM), S 1 → off S u0 u → k0  u = some w → off S u0 w) {w : gM} (hM : X9_step_b0 k0 u = some w) (h0 : off S u0 u) : off S u0 w := by
  unfold X9_step_b0 at hM
  by_cases c8 : (u.1 1 0) ≤ (u.1 1 10)
  · rw [if_pos c8] at hM
    exact fr_X9_step_b39 hs0  hM h0
  · rw [if_neg c8] at hM
    obtain ⟨v19, e19, hM⟩ := bind_of hM
    obtain ⟨w20, e20, hM⟩ := bind_of hM
    by_cases c23 : w20 = 0
    · rw [if_pos c23] at hM
      exact fr_X9_step_b39 hs0  hM h0
    · rw [if_neg c23] at hM
      have h0 := off_upI (u := u) (k := 1) (j := 10) (x := ((u.1 1 10) + 1)) hs0 h0
      exact ik0 _ _ hs0 h0 hM
theorem fr_X9_step_l0 {S : Nat → Prop} {u0 : gM}   : ∀ (n : Nat)  (hs0 : S 1) {u : gM} {w : gM} (h0 : off S u0 u) (hM : X9_step_l0  n u = some w), off S u0 w := by
  intro n
  induction n with
  | zero => intro hs0 u w h0 hM; exact nomatch (show (none : Option gM) = some w from hM)
  | succ n ihn => intro hs0 u w h0 hM; exact fr_X9_step_b0 hs0  (fun _ _ hs0 h0 h => ihn hs0 h0 h) hM h0
theorem fr_X9_step {S : Nat → Prop} {u0 u : gM}  (hs0 : S 1) {w : gM} (hM : X9_step u = some w) (h0 : off S u0 u) : off S u0 w := fr_X9_step_l0 fz hs0 h0 hM
/-! CoverDesk$Tape.begin()V -/
theorem dX9_begin_0 : decode cX9_begin 0 = .ok (.aload_n 0, 1) := by decide +kernel
theorem dX9_begin_1 : decode cX9_begin 1 = .ok (.iconst 0, 1) := by decide +kernel
theorem dX9_begin_2 : decode cX9_begin 2 = .ok (.putfield 25, 3) := by decide +kernel
theorem dX9_begin_5 : decode cX9_begin 5 = .ok (.aload_n 0, 1) := by decide +kernel
theorem dX9_begin_6 : decode cX9_begin 6 = .ok (.invokevirtual 28, 3) := by decide +kernel
theorem dX9_begin_9 : decode cX9_begin 9 = .ok (.return_, 1) := by decide +kernel
def X9_begin   (u : gM) : Option gM :=
((X9_step (upI u 1 10 0)).bind fun w6 => some w6)
set_option maxRecDepth 20000 in
theorem v_X9_begin {κ : gK} {B : Nat} {u : gM} (X : gX κ B skC cX9_begin 1 RX9 none 6 145)    {w : gM} (hM : X9_begin u = some w) : gV κ B skC 1 ((none), w) 0 [some (.ref (B + 1))] [] u := by
  unfold X9_begin at hM
  refine g_aload_n X dX9_begin_0 rfl ?_
  refine g_iconst X (v := 0) dX9_begin_1 (by decide) ?_
  refine g_putI X fX9_25 gc_X9 gp_X9_10 cC_1 rfl dX9_begin_2 ?_
  refine g_aload_n X dX9_begin_5 rfl ?_
  obtain ⟨w6, e6, hM⟩ := bind_of hM
  refine g_callVv X (fun B adK => []) (s_X9_step e6) cvX9_28 cC_1 rfl rfl (Nat.le_of_ble_eq_true rfl) ⟨by decide, by decide⟩ dX9_begin_6 ?_
  cases hM
  exact g_vret X dX9_begin_9
theorem s_X9_begin  {u : gM} {w : gM} (hM : X9_begin u = some w) : gMet skC yX9_begin cX9_begin 1 none 6 145 (fun B adK => [.ref (B + 1)]) u ((fun _ => none), w) := by
  refine gMet.of (by decide) (fun _ _ => Nat.le_of_ble_eq_true rfl) (fun κ B X => ?_)
  have X : gX κ B skC cX9_begin 1 RX9 none 6 145 := X
  refine g_mk [true] [some (.ref (B + 1))] rfl ?_
  exact v_X9_begin X  hM
theorem fr_X9_begin {S : Nat → Prop} {u0 u : gM}  (hs0 : S 1)   {w : gM} (hM : X9_begin u = some w) (h0 : off S u0 u) : off S u0 w := by
  unfold X9_begin at hM
  have h0 := off_upI (u := u) (k := 1) (j := 10) (x := 0) hs0 h0
  obtain ⟨w6, e6, hM⟩ := bind_of hM
  have h0 := fr_X9_step hs0 e6 h0
  cases hM
  exact h0
/-! CoverDesk$Told.placeOf(J[JI)I -/
theorem dX10_placeOf_0 : decode cX10_placeOf 0 = .ok (.iconst 0, 1) := by decide +kernel
theorem dX10_placeOf_1 : decode cX10_placeOf 1 = .ok (.istore 4, 2) := by decide +kernel
theorem dX10_placeOf_3 : decode cX10_placeOf 3 = .ok (.iload 4, 2) := by decide +kernel
theorem dX10_placeOf_5 : decode cX10_placeOf 5 = .ok (.iload_n 3, 1) := by decide +kernel
theorem dX10_placeOf_6 : decode cX10_placeOf 6 = .ok (.if_icmp .ge 28, 3) := by decide +kernel
theorem dX10_placeOf_9 : decode cX10_placeOf 9 = .ok (.iload 4, 2) := by decide +kernel
theorem dX10_placeOf_11 : decode cX10_placeOf 11 = .ok (.aload_n 2, 1) := by decide +kernel
theorem dX10_placeOf_12 : decode cX10_placeOf 12 = .ok (.arraylength, 1) := by decide +kernel
theorem dX10_placeOf_13 : decode cX10_placeOf 13 = .ok (.if_icmp .ge 21, 3) := by decide +kernel
theorem dX10_placeOf_16 : decode cX10_placeOf 16 = .ok (.aload_n 2, 1) := by decide +kernel
theorem dX10_placeOf_17 : decode cX10_placeOf 17 = .ok (.iload 4, 2) := by decide +kernel
theorem dX10_placeOf_19 : decode cX10_placeOf 19 = .ok (.laload, 1) := by decide +kernel
theorem dX10_placeOf_20 : decode cX10_placeOf 20 = .ok (.lload_n 0, 1) := by decide +kernel
theorem dX10_placeOf_21 : decode cX10_placeOf 21 = .ok (.lcmp, 1) := by decide +kernel
theorem dX10_placeOf_22 : decode cX10_placeOf 22 = .ok (.ifCond .ne 6, 3) := by decide +kernel
theorem dX10_placeOf_25 : decode cX10_placeOf 25 = .ok (.iload 4, 2) := by decide +kernel
theorem dX10_placeOf_27 : decode cX10_placeOf 27 = .ok (.ireturn, 1) := by decide +kernel
theorem dX10_placeOf_28 : decode cX10_placeOf 28 = .ok (.iinc 4 1, 3) := by decide +kernel
theorem dX10_placeOf_31 : decode cX10_placeOf 31 = .ok (.goto (-28), 3) := by decide +kernel
theorem dX10_placeOf_34 : decode cX10_placeOf 34 = .ok (.iconst (-1), 1) := by decide +kernel
theorem dX10_placeOf_35 : decode cX10_placeOf 35 = .ok (.ireturn, 1) := by decide +kernel
def X10_placeOf_b34 (u : gM)   : Option Int32 :=
some (-1)
def X10_placeOf_b3 (u : gM) (k3 : Int64 → Nat → Int32 → Int32 → Option Int32) (x0 : Int64) (x2 : Nat) (x3 : Int32) (x4 : Int32) : Option Int32 :=
(if x3 ≤ x4 then (X10_placeOf_b34 u)
  else ((aL skC x2).bind fun v12 => (if v12 ≤ x4 then (X10_placeOf_b34 u)
    else ((aJ skC u x2 x4).bind fun v19 => (if (lg_cmp v19 x0) = 0 then some x4
      else (k3 x0 x2 x3 (x4 + 1)))))))
def X10_placeOf_l3 (u : gM)  : Nat → Int64 → Nat → Int32 → Int32 → Option Int32
  | 0, _, _, _, _ => none
  | n + 1, x0, x2, x3, x4 => X10_placeOf_b3 u  (X10_placeOf_l3 u  n) x0 x2 x3 x4
def X10_placeOf (u : gM)  (x0 : Int64) (x2 : Nat) (x3 : Int32) : Option Int32 :=
(X10_placeOf_l3 u fz x0 x2 x3 0)
set_option maxRecDepth 20000 in
theorem v_X10_placeOf_b34 {κ : gK} {B : Nat} {u : gM} (X : gX κ B skC cX10_placeOf 5 RX10 (some .int) 0 0)    {w : Int32} (hM : X10_placeOf_b34 u = some w) : gV κ B skC 5 ((some (.int w)), u) 34 [none, none, none, none, none] [] u := by
  unfold X10_placeOf_b34 at hM
  refine g_iconst X (v := (-1)) dX10_placeOf_34 (by decide) ?_
  cases hM
  exact g_iret X dX10_placeOf_35
set_option maxRecDepth 20000 in
theorem v_X10_placeOf_b3 {κ : gK} {B : Nat} {u : gM} (X : gX κ B skC cX10_placeOf 5 RX10 (some .int) 0 0) {k3 : Int64 → Nat → Int32 → Int32 → Option Int32} (ih3 : ∀ (x0 : Int64) (x2 : Nat) (x3 : Int32) (x4 : Int32) (w : Int32), k3 x0 x2 x3 x4 = some w → gV κ B skC 5 ((some (.int w)), u) 3 [some (.long x0), none, some (.ref (B + x2)), some (.int x3), some (.int x4)] [] u) {x0 : Int64} {x2 : Nat} {x3 : Int32} {x4 : Int32} {w : Int32} (hM : X10_placeOf_b3 u k3 x0 x2 x3 x4 = some w) : gV κ B skC 5 ((some (.int w)), u) 3 [some (.long x0), none, some (.ref (B + x2)), some (.int x3), some (.int x4)] [] u := by
  unfold X10_placeOf_b3 at hM
  refine g_iload X dX10_placeOf_3 rfl ?_
  refine g_iload_n X dX10_placeOf_5 rfl ?_
  refine g_icmp_ge (tgt := 34) X dX10_placeOf_6 (by decide) (fun c6 => ?_) (fun c6 => ?_)
  · rw [if_pos c6] at hM
    refine g_mk [false, false, false, false, false] [none, none, none, none, none] rfl ?_
    exact v_X10_placeOf_b34 X  hM
  · rw [if_neg c6] at hM
    refine g_iload X dX10_placeOf_9 rfl ?_
    refine g_aload_n X dX10_placeOf_11 rfl ?_
    obtain ⟨v12, e12, hM⟩ := bind_of hM
    refine g_alen X e12 dX10_placeOf_12 skC_t ?_
    refine g_icmp_ge (tgt := 34) X dX10_placeOf_13 (by decide) (fun c13 => ?_) (fun c13 => ?_)
    · rw [if_pos c13] at hM
      refine g_mk [false, false, false, false, false] [none, none, none, none, none] rfl ?_
      exact v_X10_placeOf_b34 X  hM
    · rw [if_neg c13] at hM
      refine g_aload_n X dX10_placeOf_16 rfl ?_
      refine g_iload X dX10_placeOf_17 rfl ?_
      obtain ⟨v19, e19, hM⟩ := bind_of hM
      refine g_laload X e19 dX10_placeOf_19 ?_
      refine g_lload_n X dX10_placeOf_20 rfl ?_
      refine g_lcmp X dX10_placeOf_21 ?_
      refine g_if_ne (tgt := 28) X dX10_placeOf_22 (by decide) (fun c22 => ?_) (fun c22 => ?_)
      · rw [if_neg c22] at hM
        refine g_iinc (d := 1) X [some (.long x0), none, some (.ref (B + x2)), some (.int x3), some (.int (x4 + 1))] dX10_placeOf_28 (by decide) rfl (by decide) rfl ?_
        refine g_goto (tgt := 3) X dX10_placeOf_31 (by decide) ?_
        refine g_mk [true, false, true, true, true] [some (.long x0), none, some (.ref (B + x2)), some (.int x3), some (.int (x4 + 1))] rfl ?_
        exact ih3 x0 x2 x3 (x4 + 1) _ hM
      · rw [if_pos c22] at hM
        refine g_iload X dX10_placeOf_25 rfl ?_
        cases hM
        exact g_iret X dX10_placeOf_27
theorem v_X10_placeOf_l3 {κ : gK} {B : Nat} {u : gM} (X : gX κ B skC cX10_placeOf 5 RX10 (some .int) 0 0)   : ∀ (n : Nat) {x0 : Int64} {x2 : Nat} {x3 : Int32} {x4 : Int32} {w : Int32} (hM : X10_placeOf_l3 u  n x0 x2 x3 x4 = some w), gV κ B skC 5 ((some (.int w)), u) 3 [some (.long x0), none, some (.ref (B + x2)), some (.int x3), some (.int x4)] [] u := by
  intro n
  induction n with
  | zero => intro x0 x2 x3 x4 w hM; exact nomatch (show (none : Option Int32) = some w from hM)
  | succ n ihn => intro x0 x2 x3 x4 w hM; exact v_X10_placeOf_b3 X  (fun x0 x2 x3 x4 w h => ihn h) hM
set_option maxRecDepth 20000 in
theorem v_X10_placeOf {κ : gK} {B : Nat} {u : gM} (X : gX κ B skC cX10_placeOf 5 RX10 (some .int) 0 0)   {x0 : Int64} {x2 : Nat} {x3 : Int32} {w : Int32} (hM : X10_placeOf u x0 x2 x3 = some w) : gV κ B skC 5 ((some (.int w)), u) 0 [some (.long x0), none, some (.ref (B + x2)), some (.int x3), none] [] u := by
  unfold X10_placeOf at hM
  refine g_iconst X (v := 0) dX10_placeOf_0 (by decide) ?_
  refine g_istore X [some (.long x0), none, some (.ref (B + x2)), some (.int x3), some (.int 0)] dX10_placeOf_1 (by decide) rfl ?_
  refine g_mk [true, false, true, true, true] [some (.long x0), none, some (.ref (B + x2)), some (.int x3), some (.int 0)] rfl ?_
  exact v_X10_placeOf_l3 X  fz hM
theorem s_X10_placeOf {x0 : Int64} {x2 : Nat} {x3 : Int32} {u : gM} {w : Int32} (hM : X10_placeOf u x0 x2 x3 = some w) : gMet skC yX10_placeOf cX10_placeOf 5 (some .int) 0 0 (fun B adK => [.long x0, .ref (B + x2), .int x3]) u ((fun _ => some (.int w)), u) := by
  refine gMet.of (by decide) (fun _ _ => Nat.le_of_ble_eq_true rfl) (fun κ B X => ?_)
  have X : gX κ B skC cX10_placeOf 5 RX10 (some .int) 0 0 := X
  refine g_mk [true, false, true, true, false] [some (.long x0), none, some (.ref (B + x2)), some (.int x3), none] rfl ?_
  exact v_X10_placeOf X  hM

/-! CoverDesk$Told.personNamed(J)I -/
theorem dX10_personNamed_0 : decode cX10_personNamed 0 = .ok (.lload_n 1, 1) := by decide +kernel
theorem dX10_personNamed_1 : decode cX10_personNamed 1 = .ok (.aload_n 0, 1) := by decide +kernel
theorem dX10_personNamed_2 : decode cX10_personNamed 2 = .ok (.getfield 19, 3) := by decide +kernel
theorem dX10_personNamed_5 : decode cX10_personNamed 5 = .ok (.aload_n 0, 1) := by decide +kernel
theorem dX10_personNamed_6 : decode cX10_personNamed 6 = .ok (.getfield 63, 3) := by decide +kernel
theorem dX10_personNamed_9 : decode cX10_personNamed 9 = .ok (.invokestatic 85, 3) := by decide +kernel
theorem dX10_personNamed_12 : decode cX10_personNamed 12 = .ok (.ireturn, 1) := by decide +kernel
def X10_personNamed (u : gM)  (x0 : Nat) (x1 : Int64) : Option Int32 :=
(if isO skC x0 10 = true then ((X10_placeOf u x1 (rf skC x0 6) (u.1 x0 0)).bind fun w9 => some w9)
 else none)
set_option maxRecDepth 20000 in
theorem v_X10_personNamed {κ : gK} {B : Nat} {u : gM} (X : gX κ B skC cX10_personNamed 3 RX10 (some .int) 1 24)   {x0 : Nat} {x1 : Int64} {w : Int32} (hM : X10_personNamed u x0 x1 = some w) : gV κ B skC 3 ((some (.int w)), u) 0 [some (.ref (B + x0)), some (.long x1), none] [] u := by
  unfold X10_personNamed at hM
  refine g_lload_n X dX10_personNamed_0 rfl ?_
  refine g_aload_n X dX10_personNamed_1 rfl ?_
  obtain ⟨o0, hM⟩ := ite_of hM
  refine g_getR X fX10_19 (sh_X10 o0) rfl dX10_personNamed_2 ?_
  refine g_aload_n X dX10_personNamed_5 rfl ?_
  refine g_getI X fX10_63 (sh_X10 o0) rfl dX10_personNamed_6 ?_
  obtain ⟨w9, e9, hM⟩ := bind_of hM
  refine g_callSi X (fun B adK => [.long x1, .ref (B + (rf skC x0 6)), .int (u.1 x0 0)]) (s_X10_placeOf e9) cvX10_85 rfl rfl (Nat.le_of_ble_eq_true rfl) ⟨by decide, by decide⟩ dX10_personNamed_9 ?_
  cases hM
  exact g_iret X dX10_personNamed_12
theorem s_X10_personNamed {x0 : Nat} {x1 : Int64} {u : gM} {w : Int32} (hM : X10_personNamed u x0 x1 = some w) : gMet skC yX10_personNamed cX10_personNamed 3 (some .int) 1 24 (fun B adK => [.ref (B + x0), .long x1]) u ((fun _ => some (.int w)), u) := by
  refine gMet.of (by decide) (fun _ _ => Nat.le_of_ble_eq_true rfl) (fun κ B X => ?_)
  have X : gX κ B skC cX10_personNamed 3 RX10 (some .int) 1 24 := X
  refine g_mk [true, true, false] [some (.ref (B + x0)), some (.long x1), none] rfl ?_
  exact v_X10_personNamed X  hM

/-! CoverDesk$Told.bankNamed(J)I -/
theorem dX10_bankNamed_0 : decode cX10_bankNamed 0 = .ok (.lload_n 1, 1) := by decide +kernel
theorem dX10_bankNamed_1 : decode cX10_bankNamed 1 = .ok (.aload_n 0, 1) := by decide +kernel
theorem dX10_bankNamed_2 : decode cX10_bankNamed 2 = .ok (.getfield 23, 3) := by decide +kernel
theorem dX10_bankNamed_5 : decode cX10_bankNamed 5 = .ok (.aload_n 0, 1) := by decide +kernel
theorem dX10_bankNamed_6 : decode cX10_bankNamed 6 = .ok (.getfield 66, 3) := by decide +kernel
theorem dX10_bankNamed_9 : decode cX10_bankNamed 9 = .ok (.invokestatic 85, 3) := by decide +kernel
theorem dX10_bankNamed_12 : decode cX10_bankNamed 12 = .ok (.ireturn, 1) := by decide +kernel
def X10_bankNamed (u : gM)  (x0 : Nat) (x1 : Int64) : Option Int32 :=
(if isO skC x0 10 = true then ((X10_placeOf u x1 (rf skC x0 7) (u.1 x0 1)).bind fun w9 => some w9)
 else none)
set_option maxRecDepth 20000 in
theorem v_X10_bankNamed {κ : gK} {B : Nat} {u : gM} (X : gX κ B skC cX10_bankNamed 3 RX10 (some .int) 1 24)   {x0 : Nat} {x1 : Int64} {w : Int32} (hM : X10_bankNamed u x0 x1 = some w) : gV κ B skC 3 ((some (.int w)), u) 0 [some (.ref (B + x0)), some (.long x1), none] [] u := by
  unfold X10_bankNamed at hM
  refine g_lload_n X dX10_bankNamed_0 rfl ?_
  refine g_aload_n X dX10_bankNamed_1 rfl ?_
  obtain ⟨o0, hM⟩ := ite_of hM
  refine g_getR X fX10_23 (sh_X10 o0) rfl dX10_bankNamed_2 ?_
  refine g_aload_n X dX10_bankNamed_5 rfl ?_
  refine g_getI X fX10_66 (sh_X10 o0) rfl dX10_bankNamed_6 ?_
  obtain ⟨w9, e9, hM⟩ := bind_of hM
  refine g_callSi X (fun B adK => [.long x1, .ref (B + (rf skC x0 7)), .int (u.1 x0 1)]) (s_X10_placeOf e9) cvX10_85 rfl rfl (Nat.le_of_ble_eq_true rfl) ⟨by decide, by decide⟩ dX10_bankNamed_9 ?_
  cases hM
  exact g_iret X dX10_bankNamed_12
theorem s_X10_bankNamed {x0 : Nat} {x1 : Int64} {u : gM} {w : Int32} (hM : X10_bankNamed u x0 x1 = some w) : gMet skC yX10_bankNamed cX10_bankNamed 3 (some .int) 1 24 (fun B adK => [.ref (B + x0), .long x1]) u ((fun _ => some (.int w)), u) := by
  refine gMet.of (by decide) (fun _ _ => Nat.le_of_ble_eq_true rfl) (fun κ B X => ?_)
  have X : gX κ B skC cX10_bankNamed 3 RX10 (some .int) 1 24 := X
  refine g_mk [true, true, false] [some (.ref (B + x0)), some (.long x1), none] rfl ?_
  exact v_X10_bankNamed X  hM

/-! CoverDesk$Told.accountNamed(J)I -/
theorem dX10_accountNamed_0 : decode cX10_accountNamed 0 = .ok (.lload_n 1, 1) := by decide +kernel
theorem dX10_accountNamed_1 : decode cX10_accountNamed 1 = .ok (.aload_n 0, 1) := by decide +kernel
theorem dX10_accountNamed_2 : decode cX10_accountNamed 2 = .ok (.getfield 26, 3) := by decide +kernel
theorem dX10_accountNamed_5 : decode cX10_accountNamed 5 = .ok (.aload_n 0, 1) := by decide +kernel
theorem dX10_accountNamed_6 : decode cX10_accountNamed 6 = .ok (.getfield 69, 3) := by decide +kernel
theorem dX10_accountNamed_9 : decode cX10_accountNamed 9 = .ok (.invokestatic 85, 3) := by decide +kernel
theorem dX10_accountNamed_12 : decode cX10_accountNamed 12 = .ok (.ireturn, 1) := by decide +kernel
def X10_accountNamed (u : gM)  (x0 : Nat) (x1 : Int64) : Option Int32 :=
(if isO skC x0 10 = true then ((X10_placeOf u x1 (rf skC x0 8) (u.1 x0 2)).bind fun w9 => some w9)
 else none)
set_option maxRecDepth 20000 in
theorem v_X10_accountNamed {κ : gK} {B : Nat} {u : gM} (X : gX κ B skC cX10_accountNamed 3 RX10 (some .int) 1 24)   {x0 : Nat} {x1 : Int64} {w : Int32} (hM : X10_accountNamed u x0 x1 = some w) : gV κ B skC 3 ((some (.int w)), u) 0 [some (.ref (B + x0)), some (.long x1), none] [] u := by
  unfold X10_accountNamed at hM
  refine g_lload_n X dX10_accountNamed_0 rfl ?_
  refine g_aload_n X dX10_accountNamed_1 rfl ?_
  obtain ⟨o0, hM⟩ := ite_of hM
  refine g_getR X fX10_26 (sh_X10 o0) rfl dX10_accountNamed_2 ?_
  refine g_aload_n X dX10_accountNamed_5 rfl ?_
  refine g_getI X fX10_69 (sh_X10 o0) rfl dX10_accountNamed_6 ?_
  obtain ⟨w9, e9, hM⟩ := bind_of hM
  refine g_callSi X (fun B adK => [.long x1, .ref (B + (rf skC x0 8)), .int (u.1 x0 2)]) (s_X10_placeOf e9) cvX10_85 rfl rfl (Nat.le_of_ble_eq_true rfl) ⟨by decide, by decide⟩ dX10_accountNamed_9 ?_
  cases hM
  exact g_iret X dX10_accountNamed_12
theorem s_X10_accountNamed {x0 : Nat} {x1 : Int64} {u : gM} {w : Int32} (hM : X10_accountNamed u x0 x1 = some w) : gMet skC yX10_accountNamed cX10_accountNamed 3 (some .int) 1 24 (fun B adK => [.ref (B + x0), .long x1]) u ((fun _ => some (.int w)), u) := by
  refine gMet.of (by decide) (fun _ _ => Nat.le_of_ble_eq_true rfl) (fun κ B X => ?_)
  have X : gX κ B skC cX10_accountNamed 3 RX10 (some .int) 1 24 := X
  refine g_mk [true, true, false] [some (.ref (B + x0)), some (.long x1), none] rfl ?_
  exact v_X10_accountNamed X  hM

/-! CoverDesk$Told.isTaken(J)Z -/
theorem dX10_isTaken_0 : decode cX10_isTaken 0 = .ok (.aload_n 0, 1) := by decide +kernel
theorem dX10_isTaken_1 : decode cX10_isTaken 1 = .ok (.lload_n 1, 1) := by decide +kernel
theorem dX10_isTaken_2 : decode cX10_isTaken 2 = .ok (.invokevirtual 89, 3) := by decide +kernel
theorem dX10_isTaken_5 : decode cX10_isTaken 5 = .ok (.iconst (-1), 1) := by decide +kernel
theorem dX10_isTaken_6 : decode cX10_isTaken 6 = .ok (.if_icmp .ne 21, 3) := by decide +kernel
theorem dX10_isTaken_9 : decode cX10_isTaken 9 = .ok (.aload_n 0, 1) := by decide +kernel
theorem dX10_isTaken_10 : decode cX10_isTaken 10 = .ok (.lload_n 1, 1) := by decide +kernel
theorem dX10_isTaken_11 : decode cX10_isTaken 11 = .ok (.invokevirtual 93, 3) := by decide +kernel
theorem dX10_isTaken_14 : decode cX10_isTaken 14 = .ok (.iconst (-1), 1) := by decide +kernel
theorem dX10_isTaken_15 : decode cX10_isTaken 15 = .ok (.if_icmp .ne 12, 3) := by decide +kernel
theorem dX10_isTaken_18 : decode cX10_isTaken 18 = .ok (.aload_n 0, 1) := by decide +kernel
theorem dX10_isTaken_19 : decode cX10_isTaken 19 = .ok (.lload_n 1, 1) := by decide +kernel
theorem dX10_isTaken_20 : decode cX10_isTaken 20 = .ok (.invokevirtual 96, 3) := by decide +kernel
theorem dX10_isTaken_23 : decode cX10_isTaken 23 = .ok (.iconst (-1), 1) := by decide +kernel
theorem dX10_isTaken_24 : decode cX10_isTaken 24 = .ok (.if_icmp .eq 7, 3) := by decide +kernel
theorem dX10_isTaken_27 : decode cX10_isTaken 27 = .ok (.iconst 1, 1) := by decide +kernel
theorem dX10_isTaken_28 : decode cX10_isTaken 28 = .ok (.goto 4, 3) := by decide +kernel
theorem dX10_isTaken_31 : decode cX10_isTaken 31 = .ok (.iconst 0, 1) := by decide +kernel
theorem dX10_isTaken_32 : decode cX10_isTaken 32 = .ok (.ireturn, 1) := by decide +kernel
def X10_isTaken_b32 (u : gM)  (s0 : Int32) : Option Int32 :=
bI s0
def X10_isTaken_b27 (u : gM)   : Option Int32 :=
(X10_isTaken_b32 u 1)
def X10_isTaken (u : gM)  (x0 : Nat) (x1 : Int64) : Option Int32 :=
(if isO skC x0 10 = true then ((X10_personNamed u x0 x1).bind fun w2 => (if w2 = (-1) then ((X10_bankNamed u x0 x1).bind fun w11 => (if w11 = (-1) then ((X10_accountNamed u x0 x1).bind fun w20 => (if w20 = (-1) then (X10_isTaken_b32 u 0)
      else (X10_isTaken_b27 u)))
    else (X10_isTaken_b27 u)))
  else (X10_isTaken_b27 u)))
 else none)
set_option maxRecDepth 20000 in
theorem v_X10_isTaken_b32 {κ : gK} {B : Nat} {u : gM} (X : gX κ B skC cX10_isTaken 3 RX10 (some .boolean) 2 46)   {s0 : Int32} {w : Int32} (hM : X10_isTaken_b32 u s0 = some w) : gV κ B skC 3 ((some (.int w)), u) 32 [none, none, none] [.int s0] u := by
  unfold X10_isTaken_b32 at hM
  obtain ⟨hv, rfl⟩ := bI_of hM
  exact g_zret X hv dX10_isTaken_32
set_option maxRecDepth 20000 in
theorem v_X10_isTaken_b27 {κ : gK} {B : Nat} {u : gM} (X : gX κ B skC cX10_isTaken 3 RX10 (some .boolean) 2 46)    {w : Int32} (hM : X10_isTaken_b27 u = some w) : gV κ B skC 3 ((some (.int w)), u) 27 [none, none, none] [] u := by
  unfold X10_isTaken_b27 at hM
  refine g_iconst X (v := 1) dX10_isTaken_27 (by decide) ?_
  refine g_goto (tgt := 32) X dX10_isTaken_28 (by decide) ?_
  refine g_mk [false, false, false] [none, none, none] rfl ?_
  exact v_X10_isTaken_b32 X  hM
set_option maxRecDepth 20000 in
theorem v_X10_isTaken {κ : gK} {B : Nat} {u : gM} (X : gX κ B skC cX10_isTaken 3 RX10 (some .boolean) 2 46)   {x0 : Nat} {x1 : Int64} {w : Int32} (hM : X10_isTaken u x0 x1 = some w) : gV κ B skC 3 ((some (.int w)), u) 0 [some (.ref (B + x0)), some (.long x1), none] [] u := by
  unfold X10_isTaken at hM
  refine g_aload_n X dX10_isTaken_0 rfl ?_
  refine g_lload_n X dX10_isTaken_1 rfl ?_
  obtain ⟨o0, hM⟩ := ite_of hM
  obtain ⟨w2, e2, hM⟩ := bind_of hM
  refine g_callVi X (fun B adK => [.long x1]) (s_X10_personNamed e2) cvX10_89 (sh_X10 o0) rfl rfl (Nat.le_of_ble_eq_true rfl) ⟨by decide, by decide⟩ dX10_isTaken_2 ?_
  refine g_iconst X (v := (-1)) dX10_isTaken_5 (by decide) ?_
  refine g_icmp_ne (tgt := 27) X dX10_isTaken_6 (by decide) (fun c6 => ?_) (fun c6 => ?_)
  · rw [if_neg c6] at hM
    refine g_mk [false, false, false] [none, none, none] rfl ?_
    exact v_X10_isTaken_b27 X  hM
  · rw [if_pos c6] at hM
    refine g_aload_n X dX10_isTaken_9 rfl ?_
    refine g_lload_n X dX10_isTaken_10 rfl ?_
    obtain ⟨w11, e11, hM⟩ := bind_of hM
    refine g_callVi X (fun B adK => [.long x1]) (s_X10_bankNamed e11) cvX10_93 (sh_X10 o0) rfl rfl (Nat.le_of_ble_eq_true rfl) ⟨by decide, by decide⟩ dX10_isTaken_11 ?_
    refine g_iconst X (v := (-1)) dX10_isTaken_14 (by decide) ?_
    refine g_icmp_ne (tgt := 27) X dX10_isTaken_15 (by decide) (fun c15 => ?_) (fun c15 => ?_)
    · rw [if_neg c15] at hM
      refine g_mk [false, false, false] [none, none, none] rfl ?_
      exact v_X10_isTaken_b27 X  hM
    · rw [if_pos c15] at hM
      refine g_aload_n X dX10_isTaken_18 rfl ?_
      refine g_lload_n X dX10_isTaken_19 rfl ?_
      obtain ⟨w20, e20, hM⟩ := bind_of hM
      refine g_callVi X (fun B adK => [.long x1]) (s_X10_accountNamed e20) cvX10_96 (sh_X10 o0) rfl rfl (Nat.le_of_ble_eq_true rfl) ⟨by decide, by decide⟩ dX10_isTaken_20 ?_
      refine g_iconst X (v := (-1)) dX10_isTaken_23 (by decide) ?_
      refine g_icmp_eq (tgt := 31) X dX10_isTaken_24 (by decide) (fun c24 => ?_) (fun c24 => ?_)
      · rw [if_pos c24] at hM
        refine g_iconst X (v := 0) dX10_isTaken_31 (by decide) ?_
        refine g_mk [false, false, false] [none, none, none] rfl ?_
        exact v_X10_isTaken_b32 X  hM
      · rw [if_neg c24] at hM
        refine g_mk [false, false, false] [none, none, none] rfl ?_
        exact v_X10_isTaken_b27 X  hM
theorem s_X10_isTaken {x0 : Nat} {x1 : Int64} {u : gM} {w : Int32} (hM : X10_isTaken u x0 x1 = some w) : gMet skC yX10_isTaken cX10_isTaken 3 (some .boolean) 2 46 (fun B adK => [.ref (B + x0), .long x1]) u ((fun _ => some (.int w)), u) := by
  refine gMet.of (by decide) (fun _ _ => Nat.le_of_ble_eq_true rfl) (fun κ B X => ?_)
  have X : gX κ B skC cX10_isTaken 3 RX10 (some .boolean) 2 46 := X
  refine g_mk [true, true, false] [some (.ref (B + x0)), some (.long x1), none] rfl ?_
  exact v_X10_isTaken X  hM

/-! CoverDesk$Tape.refuse(I)Z -/
theorem dX9_refuse_0 : decode cX9_refuse 0 = .ok (.aload_n 0, 1) := by decide +kernel
theorem dX9_refuse_1 : decode cX9_refuse 1 = .ok (.iload_n 1, 1) := by decide +kernel
theorem dX9_refuse_2 : decode cX9_refuse 2 = .ok (.putfield 22, 3) := by decide +kernel
theorem dX9_refuse_5 : decode cX9_refuse 5 = .ok (.aload_n 0, 1) := by decide +kernel
theorem dX9_refuse_6 : decode cX9_refuse 6 = .ok (.aload_n 0, 1) := by decide +kernel
theorem dX9_refuse_7 : decode cX9_refuse 7 = .ok (.getfield 35, 3) := by decide +kernel
theorem dX9_refuse_10 : decode cX9_refuse 10 = .ok (.putfield 9, 3) := by decide +kernel
theorem dX9_refuse_13 : decode cX9_refuse 13 = .ok (.iconst 0, 1) := by decide +kernel
theorem dX9_refuse_14 : decode cX9_refuse 14 = .ok (.ireturn, 1) := by decide +kernel
def X9_refuse_b13   (u : gM) : Option (Int32 × gM) :=
some (0, u)
def X9_refuse  (x1 : Int32) (u : gM) : Option (Int32 × gM) :=
(X9_refuse_b13 (upI (upI u 1 1 x1) 1 2 ((upI u 1 1 x1).1 1 9)))
set_option maxRecDepth 20000 in
theorem v_X9_refuse_b13 {κ : gK} {B : Nat} {u : gM} (X : gX κ B skC cX9_refuse 2 RX9 (some .boolean) 0 0)    {w : (Int32 × gM)} (hM : X9_refuse_b13 u = some w) : gV κ B skC 2 ((some (.int w.1)), w.2) 13 [none, none] [] u := by
  unfold X9_refuse_b13 at hM
  refine g_iconst X (v := 0) dX9_refuse_13 (by decide) ?_
  cases hM
  exact g_zret X (Or.inl rfl) dX9_refuse_14
set_option maxRecDepth 20000 in
theorem v_X9_refuse {κ : gK} {B : Nat} {u : gM} (X : gX κ B skC cX9_refuse 2 RX9 (some .boolean) 0 0)   {x1 : Int32} {w : (Int32 × gM)} (hM : X9_refuse x1 u = some w) : gV κ B skC 2 ((some (.int w.1)), w.2) 0 [some (.ref (B + 1)), some (.int x1)] [] u := by
  unfold X9_refuse at hM
  refine g_aload_n X dX9_refuse_0 rfl ?_
  refine g_iload_n X dX9_refuse_1 rfl ?_
  refine g_putI X fX9_22 gc_X9 gp_X9_1 cC_1 rfl dX9_refuse_2 ?_
  refine g_aload_n X dX9_refuse_5 rfl ?_
  refine g_aload_n X dX9_refuse_6 rfl ?_
  refine g_getI X fX9_35 cC_1 rfl dX9_refuse_7 ?_
  refine g_putI X fX9_9 gc_X9 gp_X9_2 cC_1 rfl dX9_refuse_10 ?_
  refine g_mk [false, false] [none, none] rfl ?_
  exact v_X9_refuse_b13 X  hM
theorem s_X9_refuse {x1 : Int32} {u : gM} {w : (Int32 × gM)} (hM : X9_refuse x1 u = some w) : gMet skC yX9_refuse cX9_refuse 2 (some .boolean) 0 0 (fun B adK => [.ref (B + 1), .int x1]) u ((fun _ => some (.int w.1)), w.2) := by
  refine gMet.of (by decide) (fun _ _ => Nat.le_of_ble_eq_true rfl) (fun κ B X => ?_)
  have X : gX κ B skC cX9_refuse 2 RX9 (some .boolean) 0 0 := X
  refine g_mk [true, true] [some (.ref (B + 1)), some (.int x1)] rfl ?_
  exact v_X9_refuse X  hM
theorem fr_X9_refuse_b13 {S : Nat → Prop} {u0 u : gM}     {w : (Int32 × gM)} (hM : X9_refuse_b13 u = some w) (h0 : off S u0 u) : off S u0 w.2 := by
  unfold X9_refuse_b13 at hM
  cases hM
  exact h0
theorem fr_X9_refuse {S : Nat → Prop} {u0 u : gM} {x1 : Int32} (hs0 : S 1)   {w : (Int32 × gM)} (hM : X9_refuse x1 u = some w) (h0 : off S u0 u) : off S u0 w.2 := by
  unfold X9_refuse at hM
  have h0 := off_upI (u := u) (k := 1) (j := 1) (x := x1) hs0 h0
  have h0 := off_upI (u := (upI u 1 1 x1)) (k := 1) (j := 2) (x := ((upI u 1 1 x1).1 1 9)) hs0 h0
  exact fr_X9_refuse_b13   hM h0
/-! CoverDesk$Tape.passNew(ZZ)Z -/
theorem dX9_passNew_0 : decode cX9_passNew 0 = .ok (.aload_n 0, 1) := by decide +kernel
theorem dX9_passNew_1 : decode cX9_passNew 1 = .ok (.getfield 48, 3) := by decide +kernel
theorem dX9_passNew_4 : decode cX9_passNew 4 = .ok (.iconst 1, 1) := by decide +kernel
theorem dX9_passNew_5 : decode cX9_passNew 5 = .ok (.if_icmp .eq 9, 3) := by decide +kernel
theorem dX9_passNew_8 : decode cX9_passNew 8 = .ok (.aload_n 0, 1) := by decide +kernel
theorem dX9_passNew_9 : decode cX9_passNew 9 = .ok (.iconst 1, 1) := by decide +kernel
theorem dX9_passNew_10 : decode cX9_passNew 10 = .ok (.invokevirtual 79, 3) := by decide +kernel
theorem dX9_passNew_13 : decode cX9_passNew 13 = .ok (.ireturn, 1) := by decide +kernel
theorem dX9_passNew_14 : decode cX9_passNew 14 = .ok (.iload_n 1, 1) := by decide +kernel
theorem dX9_passNew_15 : decode cX9_passNew 15 = .ok (.ifCond .eq 9, 3) := by decide +kernel
theorem dX9_passNew_18 : decode cX9_passNew 18 = .ok (.aload_n 0, 1) := by decide +kernel
theorem dX9_passNew_19 : decode cX9_passNew 19 = .ok (.iconst 2, 1) := by decide +kernel
theorem dX9_passNew_20 : decode cX9_passNew 20 = .ok (.invokevirtual 79, 3) := by decide +kernel
theorem dX9_passNew_23 : decode cX9_passNew 23 = .ok (.ireturn, 1) := by decide +kernel
theorem dX9_passNew_24 : decode cX9_passNew 24 = .ok (.iload_n 2, 1) := by decide +kernel
theorem dX9_passNew_25 : decode cX9_passNew 25 = .ok (.ifCond .eq 9, 3) := by decide +kernel
theorem dX9_passNew_28 : decode cX9_passNew 28 = .ok (.aload_n 0, 1) := by decide +kernel
theorem dX9_passNew_29 : decode cX9_passNew 29 = .ok (.iconst 5, 1) := by decide +kernel
theorem dX9_passNew_30 : decode cX9_passNew 30 = .ok (.invokevirtual 79, 3) := by decide +kernel
theorem dX9_passNew_33 : decode cX9_passNew 33 = .ok (.ireturn, 1) := by decide +kernel
theorem dX9_passNew_34 : decode cX9_passNew 34 = .ok (.aload_n 0, 1) := by decide +kernel
theorem dX9_passNew_35 : decode cX9_passNew 35 = .ok (.invokevirtual 28, 3) := by decide +kernel
theorem dX9_passNew_38 : decode cX9_passNew 38 = .ok (.iconst 1, 1) := by decide +kernel
theorem dX9_passNew_39 : decode cX9_passNew 39 = .ok (.ireturn, 1) := by decide +kernel
def X9_passNew  (x1 : Int32) (x2 : Int32) (u : gM) : Option (Int32 × gM) :=
(if (u.1 1 3) = 1 then (if x1 = 0 then (if x2 = 0 then ((X9_step u).bind fun w35 => some (1, w35))
      else ((X9_refuse 5 u).bind fun w30 => ((bI w30.1).bind fun v33 => some (v33, w30.2))))
    else ((X9_refuse 2 u).bind fun w20 => ((bI w20.1).bind fun v23 => some (v23, w20.2))))
  else ((X9_refuse 1 u).bind fun w10 => ((bI w10.1).bind fun v13 => some (v13, w10.2))))
set_option maxRecDepth 20000 in
theorem v_X9_passNew {κ : gK} {B : Nat} {u : gM} (X : gX κ B skC cX9_passNew 3 RX9 (some .boolean) 6 145)   {x1 : Int32} {x2 : Int32} {w : (Int32 × gM)} (hM : X9_passNew x1 x2 u = some w) : gV κ B skC 3 ((some (.int w.1)), w.2) 0 [some (.ref (B + 1)), some (.int x1), some (.int x2)] [] u := by
  unfold X9_passNew at hM
  refine g_aload_n X dX9_passNew_0 rfl ?_
  refine g_getI X fX9_48 cC_1 rfl dX9_passNew_1 ?_
  refine g_iconst X (v := 1) dX9_passNew_4 (by decide) ?_
  refine g_icmp_eq (tgt := 14) X dX9_passNew_5 (by decide) (fun c5 => ?_) (fun c5 => ?_)
  · rw [if_pos c5] at hM
    refine g_iload_n X dX9_passNew_14 rfl ?_
    refine g_if_eq (tgt := 24) X dX9_passNew_15 (by decide) (fun c15 => ?_) (fun c15 => ?_)
    · rw [if_pos c15] at hM
      refine g_iload_n X dX9_passNew_24 rfl ?_
      refine g_if_eq (tgt := 34) X dX9_passNew_25 (by decide) (fun c25 => ?_) (fun c25 => ?_)
      · rw [if_pos c25] at hM
        refine g_aload_n X dX9_passNew_34 rfl ?_
        obtain ⟨w35, e35, hM⟩ := bind_of hM
        refine g_callVv X (fun B adK => []) (s_X9_step e35) cvX9_28 cC_1 rfl rfl (Nat.le_of_ble_eq_true rfl) ⟨by decide, by decide⟩ dX9_passNew_35 ?_
        refine g_iconst X (v := 1) dX9_passNew_38 (by decide) ?_
        cases hM
        exact g_zret X (Or.inr rfl) dX9_passNew_39
      · rw [if_neg c25] at hM
        refine g_aload_n X dX9_passNew_28 rfl ?_
        refine g_iconst X (v := 5) dX9_passNew_29 (by decide) ?_
        obtain ⟨w30, e30, hM⟩ := bind_of hM
        refine g_callVi X (fun B adK => [.int 5]) (s_X9_refuse e30) cvX9_79 cC_1 rfl rfl (Nat.le_of_ble_eq_true rfl) ⟨by decide, by decide⟩ dX9_passNew_30 ?_
        obtain ⟨v33, e33, hM⟩ := bind_of hM
        obtain ⟨hv, rfl⟩ := bI_of e33
        cases hM
        exact g_zret X hv dX9_passNew_33
    · rw [if_neg c15] at hM
      refine g_aload_n X dX9_passNew_18 rfl ?_
      refine g_iconst X (v := 2) dX9_passNew_19 (by decide) ?_
      obtain ⟨w20, e20, hM⟩ := bind_of hM
      refine g_callVi X (fun B adK => [.int 2]) (s_X9_refuse e20) cvX9_79 cC_1 rfl rfl (Nat.le_of_ble_eq_true rfl) ⟨by decide, by decide⟩ dX9_passNew_20 ?_
      obtain ⟨v23, e23, hM⟩ := bind_of hM
      obtain ⟨hv, rfl⟩ := bI_of e23
      cases hM
      exact g_zret X hv dX9_passNew_23
  · rw [if_neg c5] at hM
    refine g_aload_n X dX9_passNew_8 rfl ?_
    refine g_iconst X (v := 1) dX9_passNew_9 (by decide) ?_
    obtain ⟨w10, e10, hM⟩ := bind_of hM
    refine g_callVi X (fun B adK => [.int 1]) (s_X9_refuse e10) cvX9_79 cC_1 rfl rfl (Nat.le_of_ble_eq_true rfl) ⟨by decide, by decide⟩ dX9_passNew_10 ?_
    obtain ⟨v13, e13, hM⟩ := bind_of hM
    obtain ⟨hv, rfl⟩ := bI_of e13
    cases hM
    exact g_zret X hv dX9_passNew_13
theorem s_X9_passNew {x1 : Int32} {x2 : Int32} {u : gM} {w : (Int32 × gM)} (hM : X9_passNew x1 x2 u = some w) : gMet skC yX9_passNew cX9_passNew 3 (some .boolean) 6 145 (fun B adK => [.ref (B + 1), .int x1, .int x2]) u ((fun _ => some (.int w.1)), w.2) := by
  refine gMet.of (by decide) (fun _ _ => Nat.le_of_ble_eq_true rfl) (fun κ B X => ?_)
  have X : gX κ B skC cX9_passNew 3 RX9 (some .boolean) 6 145 := X
  refine g_mk [true, true, true] [some (.ref (B + 1)), some (.int x1), some (.int x2)] rfl ?_
  exact v_X9_passNew X  hM
theorem fr_X9_passNew {S : Nat → Prop} {u0 u : gM} {x1 : Int32} {x2 : Int32} (hs0 : S 1)   {w : (Int32 × gM)} (hM : X9_passNew x1 x2 u = some w) (h0 : off S u0 u) : off S u0 w.2 := by
  unfold X9_passNew at hM
  by_cases c5 : (u.1 1 3) = 1
  · rw [if_pos c5] at hM
    by_cases c15 : x1 = 0
    · rw [if_pos c15] at hM
      by_cases c25 : x2 = 0
      · rw [if_pos c25] at hM
        obtain ⟨w35, e35, hM⟩ := bind_of hM
        have h0 := fr_X9_step hs0 e35 h0
        cases hM
        exact h0
      · rw [if_neg c25] at hM
        obtain ⟨w30, e30, hM⟩ := bind_of hM
        have h0 := fr_X9_refuse hs0 e30 h0
        obtain ⟨v33, e33, hM⟩ := bind_of hM
        cases hM
        exact h0
    · rw [if_neg c15] at hM
      obtain ⟨w20, e20, hM⟩ := bind_of hM
      have h0 := fr_X9_refuse hs0 e20 h0
      obtain ⟨v23, e23, hM⟩ := bind_of hM
      cases hM
      exact h0
  · rw [if_neg c5] at hM
    obtain ⟨w10, e10, hM⟩ := bind_of hM
    have h0 := fr_X9_refuse hs0 e10 h0
    obtain ⟨v13, e13, hM⟩ := bind_of hM
    cases hM
    exact h0
/-! CoverDesk$Tape.passWord(I)Z -/
theorem dX9_passWord_0 : decode cX9_passWord 0 = .ok (.aload_n 0, 1) := by decide +kernel
theorem dX9_passWord_1 : decode cX9_passWord 1 = .ok (.getfield 38, 3) := by decide +kernel
theorem dX9_passWord_4 : decode cX9_passWord 4 = .ok (.iload_n 1, 1) := by decide +kernel
theorem dX9_passWord_5 : decode cX9_passWord 5 = .ok (.if_icmp .eq 9, 3) := by decide +kernel
theorem dX9_passWord_8 : decode cX9_passWord 8 = .ok (.aload_n 0, 1) := by decide +kernel
theorem dX9_passWord_9 : decode cX9_passWord 9 = .ok (.iconst 1, 1) := by decide +kernel
theorem dX9_passWord_10 : decode cX9_passWord 10 = .ok (.invokevirtual 79, 3) := by decide +kernel
theorem dX9_passWord_13 : decode cX9_passWord 13 = .ok (.ireturn, 1) := by decide +kernel
theorem dX9_passWord_14 : decode cX9_passWord 14 = .ok (.aload_n 0, 1) := by decide +kernel
theorem dX9_passWord_15 : decode cX9_passWord 15 = .ok (.invokevirtual 28, 3) := by decide +kernel
theorem dX9_passWord_18 : decode cX9_passWord 18 = .ok (.iconst 1, 1) := by decide +kernel
theorem dX9_passWord_19 : decode cX9_passWord 19 = .ok (.ireturn, 1) := by decide +kernel
def X9_passWord  (x1 : Int32) (u : gM) : Option (Int32 × gM) :=
(if (u.1 1 4) = x1 then ((X9_step u).bind fun w15 => some (1, w15))
  else ((X9_refuse 1 u).bind fun w10 => ((bI w10.1).bind fun v13 => some (v13, w10.2))))
set_option maxRecDepth 20000 in
theorem v_X9_passWord {κ : gK} {B : Nat} {u : gM} (X : gX κ B skC cX9_passWord 2 RX9 (some .boolean) 6 145)   {x1 : Int32} {w : (Int32 × gM)} (hM : X9_passWord x1 u = some w) : gV κ B skC 2 ((some (.int w.1)), w.2) 0 [some (.ref (B + 1)), some (.int x1)] [] u := by
  unfold X9_passWord at hM
  refine g_aload_n X dX9_passWord_0 rfl ?_
  refine g_getI X fX9_38 cC_1 rfl dX9_passWord_1 ?_
  refine g_iload_n X dX9_passWord_4 rfl ?_
  refine g_icmp_eq (tgt := 14) X dX9_passWord_5 (by decide) (fun c5 => ?_) (fun c5 => ?_)
  · rw [if_pos c5] at hM
    refine g_aload_n X dX9_passWord_14 rfl ?_
    obtain ⟨w15, e15, hM⟩ := bind_of hM
    refine g_callVv X (fun B adK => []) (s_X9_step e15) cvX9_28 cC_1 rfl rfl (Nat.le_of_ble_eq_true rfl) ⟨by decide, by decide⟩ dX9_passWord_15 ?_
    refine g_iconst X (v := 1) dX9_passWord_18 (by decide) ?_
    cases hM
    exact g_zret X (Or.inr rfl) dX9_passWord_19
  · rw [if_neg c5] at hM
    refine g_aload_n X dX9_passWord_8 rfl ?_
    refine g_iconst X (v := 1) dX9_passWord_9 (by decide) ?_
    obtain ⟨w10, e10, hM⟩ := bind_of hM
    refine g_callVi X (fun B adK => [.int 1]) (s_X9_refuse e10) cvX9_79 cC_1 rfl rfl (Nat.le_of_ble_eq_true rfl) ⟨by decide, by decide⟩ dX9_passWord_10 ?_
    obtain ⟨v13, e13, hM⟩ := bind_of hM
    obtain ⟨hv, rfl⟩ := bI_of e13
    cases hM
    exact g_zret X hv dX9_passWord_13
theorem s_X9_passWord {x1 : Int32} {u : gM} {w : (Int32 × gM)} (hM : X9_passWord x1 u = some w) : gMet skC yX9_passWord cX9_passWord 2 (some .boolean) 6 145 (fun B adK => [.ref (B + 1), .int x1]) u ((fun _ => some (.int w.1)), w.2) := by
  refine gMet.of (by decide) (fun _ _ => Nat.le_of_ble_eq_true rfl) (fun κ B X => ?_)
  have X : gX κ B skC cX9_passWord 2 RX9 (some .boolean) 6 145 := X
  refine g_mk [true, true] [some (.ref (B + 1)), some (.int x1)] rfl ?_
  exact v_X9_passWord X  hM
theorem fr_X9_passWord {S : Nat → Prop} {u0 u : gM} {x1 : Int32} (hs0 : S 1)   {w : (Int32 × gM)} (hM : X9_passWord x1 u = some w) (h0 : off S u0 u) : off S u0 w.2 := by
  unfold X9_passWord at hM
  by_cases c5 : (u.1 1 4) = x1
  · rw [if_pos c5] at hM
    obtain ⟨w15, e15, hM⟩ := bind_of hM
    have h0 := fr_X9_step hs0 e15 h0
    cases hM
    exact h0
  · rw [if_neg c5] at hM
    obtain ⟨w10, e10, hM⟩ := bind_of hM
    have h0 := fr_X9_refuse hs0 e10 h0
    obtain ⟨v13, e13, hM⟩ := bind_of hM
    cases hM
    exact h0
/-! CoverDesk$Tape.passKnown(I)Z -/
theorem dX9_passKnown_0 : decode cX9_passKnown 0 = .ok (.aload_n 0, 1) := by decide +kernel
theorem dX9_passKnown_1 : decode cX9_passKnown 1 = .ok (.getfield 48, 3) := by decide +kernel
theorem dX9_passKnown_4 : decode cX9_passKnown 4 = .ok (.iconst 1, 1) := by decide +kernel
theorem dX9_passKnown_5 : decode cX9_passKnown 5 = .ok (.if_icmp .eq 9, 3) := by decide +kernel
theorem dX9_passKnown_8 : decode cX9_passKnown 8 = .ok (.aload_n 0, 1) := by decide +kernel
theorem dX9_passKnown_9 : decode cX9_passKnown 9 = .ok (.iconst 1, 1) := by decide +kernel
theorem dX9_passKnown_10 : decode cX9_passKnown 10 = .ok (.invokevirtual 79, 3) := by decide +kernel
theorem dX9_passKnown_13 : decode cX9_passKnown 13 = .ok (.ireturn, 1) := by decide +kernel
theorem dX9_passKnown_14 : decode cX9_passKnown 14 = .ok (.iload_n 1, 1) := by decide +kernel
theorem dX9_passKnown_15 : decode cX9_passKnown 15 = .ok (.iconst (-1), 1) := by decide +kernel
theorem dX9_passKnown_16 : decode cX9_passKnown 16 = .ok (.if_icmp .ne 9, 3) := by decide +kernel
theorem dX9_passKnown_19 : decode cX9_passKnown 19 = .ok (.aload_n 0, 1) := by decide +kernel
theorem dX9_passKnown_20 : decode cX9_passKnown 20 = .ok (.iconst 3, 1) := by decide +kernel
theorem dX9_passKnown_21 : decode cX9_passKnown 21 = .ok (.invokevirtual 79, 3) := by decide +kernel
theorem dX9_passKnown_24 : decode cX9_passKnown 24 = .ok (.ireturn, 1) := by decide +kernel
theorem dX9_passKnown_25 : decode cX9_passKnown 25 = .ok (.aload_n 0, 1) := by decide +kernel
theorem dX9_passKnown_26 : decode cX9_passKnown 26 = .ok (.invokevirtual 28, 3) := by decide +kernel
theorem dX9_passKnown_29 : decode cX9_passKnown 29 = .ok (.iconst 1, 1) := by decide +kernel
theorem dX9_passKnown_30 : decode cX9_passKnown 30 = .ok (.ireturn, 1) := by decide +kernel
def X9_passKnown  (x1 : Int32) (u : gM) : Option (Int32 × gM) :=
(if (u.1 1 3) = 1 then (if x1 = (-1) then ((X9_refuse 3 u).bind fun w21 => ((bI w21.1).bind fun v24 => some (v24, w21.2)))
    else ((X9_step u).bind fun w26 => some (1, w26)))
  else ((X9_refuse 1 u).bind fun w10 => ((bI w10.1).bind fun v13 => some (v13, w10.2))))
set_option maxRecDepth 20000 in
theorem v_X9_passKnown {κ : gK} {B : Nat} {u : gM} (X : gX κ B skC cX9_passKnown 2 RX9 (some .boolean) 6 145)   {x1 : Int32} {w : (Int32 × gM)} (hM : X9_passKnown x1 u = some w) : gV κ B skC 2 ((some (.int w.1)), w.2) 0 [some (.ref (B + 1)), some (.int x1)] [] u := by
  unfold X9_passKnown at hM
  refine g_aload_n X dX9_passKnown_0 rfl ?_
  refine g_getI X fX9_48 cC_1 rfl dX9_passKnown_1 ?_
  refine g_iconst X (v := 1) dX9_passKnown_4 (by decide) ?_
  refine g_icmp_eq (tgt := 14) X dX9_passKnown_5 (by decide) (fun c5 => ?_) (fun c5 => ?_)
  · rw [if_pos c5] at hM
    refine g_iload_n X dX9_passKnown_14 rfl ?_
    refine g_iconst X (v := (-1)) dX9_passKnown_15 (by decide) ?_
    refine g_icmp_ne (tgt := 25) X dX9_passKnown_16 (by decide) (fun c16 => ?_) (fun c16 => ?_)
    · rw [if_neg c16] at hM
      refine g_aload_n X dX9_passKnown_25 rfl ?_
      obtain ⟨w26, e26, hM⟩ := bind_of hM
      refine g_callVv X (fun B adK => []) (s_X9_step e26) cvX9_28 cC_1 rfl rfl (Nat.le_of_ble_eq_true rfl) ⟨by decide, by decide⟩ dX9_passKnown_26 ?_
      refine g_iconst X (v := 1) dX9_passKnown_29 (by decide) ?_
      cases hM
      exact g_zret X (Or.inr rfl) dX9_passKnown_30
    · rw [if_pos c16] at hM
      refine g_aload_n X dX9_passKnown_19 rfl ?_
      refine g_iconst X (v := 3) dX9_passKnown_20 (by decide) ?_
      obtain ⟨w21, e21, hM⟩ := bind_of hM
      refine g_callVi X (fun B adK => [.int 3]) (s_X9_refuse e21) cvX9_79 cC_1 rfl rfl (Nat.le_of_ble_eq_true rfl) ⟨by decide, by decide⟩ dX9_passKnown_21 ?_
      obtain ⟨v24, e24, hM⟩ := bind_of hM
      obtain ⟨hv, rfl⟩ := bI_of e24
      cases hM
      exact g_zret X hv dX9_passKnown_24
  · rw [if_neg c5] at hM
    refine g_aload_n X dX9_passKnown_8 rfl ?_
    refine g_iconst X (v := 1) dX9_passKnown_9 (by decide) ?_
    obtain ⟨w10, e10, hM⟩ := bind_of hM
    refine g_callVi X (fun B adK => [.int 1]) (s_X9_refuse e10) cvX9_79 cC_1 rfl rfl (Nat.le_of_ble_eq_true rfl) ⟨by decide, by decide⟩ dX9_passKnown_10 ?_
    obtain ⟨v13, e13, hM⟩ := bind_of hM
    obtain ⟨hv, rfl⟩ := bI_of e13
    cases hM
    exact g_zret X hv dX9_passKnown_13
theorem s_X9_passKnown {x1 : Int32} {u : gM} {w : (Int32 × gM)} (hM : X9_passKnown x1 u = some w) : gMet skC yX9_passKnown cX9_passKnown 2 (some .boolean) 6 145 (fun B adK => [.ref (B + 1), .int x1]) u ((fun _ => some (.int w.1)), w.2) := by
  refine gMet.of (by decide) (fun _ _ => Nat.le_of_ble_eq_true rfl) (fun κ B X => ?_)
  have X : gX κ B skC cX9_passKnown 2 RX9 (some .boolean) 6 145 := X
  refine g_mk [true, true] [some (.ref (B + 1)), some (.int x1)] rfl ?_
  exact v_X9_passKnown X  hM
theorem fr_X9_passKnown {S : Nat → Prop} {u0 u : gM} {x1 : Int32} (hs0 : S 1)   {w : (Int32 × gM)} (hM : X9_passKnown x1 u = some w) (h0 : off S u0 u) : off S u0 w.2 := by
  unfold X9_passKnown at hM
  by_cases c5 : (u.1 1 3) = 1
  · rw [if_pos c5] at hM
    by_cases c16 : x1 = (-1)
    · rw [if_pos c16] at hM
      obtain ⟨w21, e21, hM⟩ := bind_of hM
      have h0 := fr_X9_refuse hs0 e21 h0
      obtain ⟨v24, e24, hM⟩ := bind_of hM
      cases hM
      exact h0
    · rw [if_neg c16] at hM
      obtain ⟨w26, e26, hM⟩ := bind_of hM
      have h0 := fr_X9_step hs0 e26 h0
      cases hM
      exact h0
  · rw [if_neg c5] at hM
    obtain ⟨w10, e10, hM⟩ := bind_of hM
    have h0 := fr_X9_refuse hs0 e10 h0
    obtain ⟨v13, e13, hM⟩ := bind_of hM
    cases hM
    exact h0
/-! CoverDesk$Told.addOwner(II)V -/
theorem dX10_addOwner_0 : decode cX10_addOwner 0 = .ok (.aload_n 0, 1) := by decide +kernel
theorem dX10_addOwner_1 : decode cX10_addOwner 1 = .ok (.getfield 42, 3) := by decide +kernel
theorem dX10_addOwner_4 : decode cX10_addOwner 4 = .ok (.iload_n 1, 1) := by decide +kernel
theorem dX10_addOwner_5 : decode cX10_addOwner 5 = .ok (.iaload, 1) := by decide +kernel
theorem dX10_addOwner_6 : decode cX10_addOwner 6 = .ok (.istore_n 3, 1) := by decide +kernel
theorem dX10_addOwner_7 : decode cX10_addOwner 7 = .ok (.iload_n 3, 1) := by decide +kernel
theorem dX10_addOwner_8 : decode cX10_addOwner 8 = .ok (.iconst 4, 1) := by decide +kernel
theorem dX10_addOwner_9 : decode cX10_addOwner 9 = .ok (.if_icmp .ge 23, 3) := by decide +kernel
theorem dX10_addOwner_12 : decode cX10_addOwner 12 = .ok (.aload_n 0, 1) := by decide +kernel
theorem dX10_addOwner_13 : decode cX10_addOwner 13 = .ok (.getfield 48, 3) := by decide +kernel
theorem dX10_addOwner_16 : decode cX10_addOwner 16 = .ok (.iload_n 1, 1) := by decide +kernel
theorem dX10_addOwner_17 : decode cX10_addOwner 17 = .ok (.iconst 4, 1) := by decide +kernel
theorem dX10_addOwner_18 : decode cX10_addOwner 18 = .ok (.imul, 1) := by decide +kernel
theorem dX10_addOwner_19 : decode cX10_addOwner 19 = .ok (.iload_n 3, 1) := by decide +kernel
theorem dX10_addOwner_20 : decode cX10_addOwner 20 = .ok (.iadd, 1) := by decide +kernel
theorem dX10_addOwner_21 : decode cX10_addOwner 21 = .ok (.iload_n 2, 1) := by decide +kernel
theorem dX10_addOwner_22 : decode cX10_addOwner 22 = .ok (.iastore, 1) := by decide +kernel
theorem dX10_addOwner_23 : decode cX10_addOwner 23 = .ok (.aload_n 0, 1) := by decide +kernel
theorem dX10_addOwner_24 : decode cX10_addOwner 24 = .ok (.getfield 42, 3) := by decide +kernel
theorem dX10_addOwner_27 : decode cX10_addOwner 27 = .ok (.iload_n 1, 1) := by decide +kernel
theorem dX10_addOwner_28 : decode cX10_addOwner 28 = .ok (.iload_n 3, 1) := by decide +kernel
theorem dX10_addOwner_29 : decode cX10_addOwner 29 = .ok (.iconst 1, 1) := by decide +kernel
theorem dX10_addOwner_30 : decode cX10_addOwner 30 = .ok (.iadd, 1) := by decide +kernel
theorem dX10_addOwner_31 : decode cX10_addOwner 31 = .ok (.iastore, 1) := by decide +kernel
theorem dX10_addOwner_32 : decode cX10_addOwner 32 = .ok (.return_, 1) := by decide +kernel
def X10_addOwner_b32   (u : gM) : Option gM :=
some u
def X10_addOwner  (x0 : Nat) (x1 : Int32) (x2 : Int32) (u : gM) : Option gM :=
(if isO skC x0 10 = true then ((aI skC u (rf skC x0 13) x1).bind fun v5 => (if 4 ≤ v5 then (X10_addOwner_b32 u)
  else ((sI skC u (rf skC x0 15) ((x1 * 4) + v5) x2).bind fun u22 => ((sI skC u22 (rf skC x0 13) x1 (v5 + 1)).bind fun u31 => (X10_addOwner_b32 u31)))))
 else none)
set_option maxRecDepth 20000 in
theorem v_X10_addOwner_b32 {κ : gK} {B : Nat} {u : gM} (X : gX κ B skC cX10_addOwner 4 RX10 none 0 0)    {w : gM} (hM : X10_addOwner_b32 u = some w) : gV κ B skC 4 ((none), w) 32 [none, none, none, none] [] u := by
  unfold X10_addOwner_b32 at hM
  cases hM
  exact g_vret X dX10_addOwner_32
set_option maxRecDepth 20000 in
theorem v_X10_addOwner {κ : gK} {B : Nat} {u : gM} (X : gX κ B skC cX10_addOwner 4 RX10 none 0 0)   {x0 : Nat} {x1 : Int32} {x2 : Int32} {w : gM} (hM : X10_addOwner x0 x1 x2 u = some w) : gV κ B skC 4 ((none), w) 0 [some (.ref (B + x0)), some (.int x1), some (.int x2), none] [] u := by
  unfold X10_addOwner at hM
  refine g_aload_n X dX10_addOwner_0 rfl ?_
  obtain ⟨o0, hM⟩ := ite_of hM
  refine g_getR X fX10_42 (sh_X10 o0) rfl dX10_addOwner_1 ?_
  refine g_iload_n X dX10_addOwner_4 rfl ?_
  obtain ⟨v5, e5, hM⟩ := bind_of hM
  refine g_iaload X e5 dX10_addOwner_5 ?_
  refine g_istore_n X [some (.ref (B + x0)), some (.int x1), some (.int x2), some (.int v5)] dX10_addOwner_6 (by decide) rfl ?_
  refine g_iload_n X dX10_addOwner_7 rfl ?_
  refine g_iconst X (v := 4) dX10_addOwner_8 (by decide) ?_
  refine g_icmp_ge (tgt := 32) X dX10_addOwner_9 (by decide) (fun c9 => ?_) (fun c9 => ?_)
  · rw [if_pos c9] at hM
    refine g_mk [false, false, false, false] [none, none, none, none] rfl ?_
    exact v_X10_addOwner_b32 X  hM
  · rw [if_neg c9] at hM
    refine g_aload_n X dX10_addOwner_12 rfl ?_
    refine g_getR X fX10_48 (sh_X10 o0) rfl dX10_addOwner_13 ?_
    refine g_iload_n X dX10_addOwner_16 rfl ?_
    refine g_iconst X (v := 4) dX10_addOwner_17 (by decide) ?_
    refine g_imul X dX10_addOwner_18 ?_
    refine g_iload_n X dX10_addOwner_19 rfl ?_
    refine g_iadd X dX10_addOwner_20 ?_
    refine g_iload_n X dX10_addOwner_21 rfl ?_
    obtain ⟨u22, e22, hM⟩ := bind_of hM
    refine g_iastore X e22 dX10_addOwner_22 ?_
    refine g_aload_n X dX10_addOwner_23 rfl ?_
    refine g_getR X fX10_42 (sh_X10 o0) rfl dX10_addOwner_24 ?_
    refine g_iload_n X dX10_addOwner_27 rfl ?_
    refine g_iload_n X dX10_addOwner_28 rfl ?_
    refine g_iconst X (v := 1) dX10_addOwner_29 (by decide) ?_
    refine g_iadd X dX10_addOwner_30 ?_
    obtain ⟨u31, e31, hM⟩ := bind_of hM
    refine g_iastore X e31 dX10_addOwner_31 ?_
    refine g_mk [false, false, false, false] [none, none, none, none] rfl ?_
    exact v_X10_addOwner_b32 X  hM
theorem s_X10_addOwner {x0 : Nat} {x1 : Int32} {x2 : Int32} {u : gM} {w : gM} (hM : X10_addOwner x0 x1 x2 u = some w) : gMet skC yX10_addOwner cX10_addOwner 4 none 0 0 (fun B adK => [.ref (B + x0), .int x1, .int x2]) u ((fun _ => none), w) := by
  refine gMet.of (by decide) (fun _ _ => Nat.le_of_ble_eq_true rfl) (fun κ B X => ?_)
  have X : gX κ B skC cX10_addOwner 4 RX10 none 0 0 := X
  refine g_mk [true, true, true, false] [some (.ref (B + x0)), some (.int x1), some (.int x2), none] rfl ?_
  exact v_X10_addOwner X  hM
theorem fr_X10_addOwner_b32 {S : Nat → Prop} {u0 u : gM}     {w : gM} (hM : X10_addOwner_b32 u = some w) (h0 : off S u0 u) : off S u0 w := by
  unfold X10_addOwner_b32 at hM
  cases hM
  exact h0
theorem fr_X10_addOwner {S : Nat → Prop} {u0 u : gM} {x0 : Nat} {x1 : Int32} {x2 : Int32} (hs0 : S (rf skC x0 13)) (hs1 : S (rf skC x0 15))   {w : gM} (hM : X10_addOwner x0 x1 x2 u = some w) (h0 : off S u0 u) : off S u0 w := by
  unfold X10_addOwner at hM
  obtain ⟨o0, hM⟩ := ite_of hM
  obtain ⟨v5, e5, hM⟩ := bind_of hM
  by_cases c9 : 4 ≤ v5
  · rw [if_pos c9] at hM
    exact fr_X10_addOwner_b32   hM h0
  · rw [if_neg c9] at hM
    obtain ⟨u22, e22, hM⟩ := bind_of hM
    have h0 := off_sI hs1 e22 h0
    obtain ⟨u31, e31, hM⟩ := bind_of hM
    have h0 := off_sI hs0 e31 h0
    exact fr_X10_addOwner_b32   hM h0
/-! CoverDesk$BookReader.readOwners(II)Z -/
theorem dX0_readOwners_0 : decode cX0_readOwners 0 = .ok (.iload_n 2, 1) := by decide +kernel
theorem dX0_readOwners_1 : decode cX0_readOwners 1 = .ok (.iconst 1, 1) := by decide +kernel
theorem dX0_readOwners_2 : decode cX0_readOwners 2 = .ok (.if_icmp .ne 7, 3) := by decide +kernel
theorem dX0_readOwners_5 : decode cX0_readOwners 5 = .ok (.iconst 4, 1) := by decide +kernel
theorem dX0_readOwners_6 : decode cX0_readOwners 6 = .ok (.goto 13, 3) := by decide +kernel
theorem dX0_readOwners_9 : decode cX0_readOwners 9 = .ok (.iload_n 2, 1) := by decide +kernel
theorem dX0_readOwners_10 : decode cX0_readOwners 10 = .ok (.iconst 2, 1) := by decide +kernel
theorem dX0_readOwners_11 : decode cX0_readOwners 11 = .ok (.if_icmp .ne 7, 3) := by decide +kernel
theorem dX0_readOwners_14 : decode cX0_readOwners 14 = .ok (.iconst 2, 1) := by decide +kernel
theorem dX0_readOwners_15 : decode cX0_readOwners 15 = .ok (.goto 4, 3) := by decide +kernel
theorem dX0_readOwners_18 : decode cX0_readOwners 18 = .ok (.iconst 1, 1) := by decide +kernel
theorem dX0_readOwners_19 : decode cX0_readOwners 19 = .ok (.istore_n 3, 1) := by decide +kernel
theorem dX0_readOwners_20 : decode cX0_readOwners 20 = .ok (.aload_n 0, 1) := by decide +kernel
theorem dX0_readOwners_21 : decode cX0_readOwners 21 = .ok (.getfield 12, 3) := by decide +kernel
theorem dX0_readOwners_24 : decode cX0_readOwners 24 = .ok (.getfield 161, 3) := by decide +kernel
theorem dX0_readOwners_27 : decode cX0_readOwners 27 = .ok (.iload_n 1, 1) := by decide +kernel
theorem dX0_readOwners_28 : decode cX0_readOwners 28 = .ok (.iconst 0, 1) := by decide +kernel
theorem dX0_readOwners_29 : decode cX0_readOwners 29 = .ok (.iastore, 1) := by decide +kernel
theorem dX0_readOwners_30 : decode cX0_readOwners 30 = .ok (.iconst 0, 1) := by decide +kernel
theorem dX0_readOwners_31 : decode cX0_readOwners 31 = .ok (.istore 4, 2) := by decide +kernel
theorem dX0_readOwners_33 : decode cX0_readOwners 33 = .ok (.iload 4, 2) := by decide +kernel
theorem dX0_readOwners_35 : decode cX0_readOwners 35 = .ok (.iload_n 3, 1) := by decide +kernel
theorem dX0_readOwners_36 : decode cX0_readOwners 36 = .ok (.if_icmp .gt 121, 3) := by decide +kernel
theorem dX0_readOwners_39 : decode cX0_readOwners 39 = .ok (.iload 4, 2) := by decide +kernel
theorem dX0_readOwners_41 : decode cX0_readOwners 41 = .ok (.ifCond .eq 14, 3) := by decide +kernel
theorem dX0_readOwners_44 : decode cX0_readOwners 44 = .ok (.aload_n 0, 1) := by decide +kernel
theorem dX0_readOwners_45 : decode cX0_readOwners 45 = .ok (.getfield 18, 3) := by decide +kernel
theorem dX0_readOwners_48 : decode cX0_readOwners 48 = .ok (.getfield 33, 3) := by decide +kernel
theorem dX0_readOwners_51 : decode cX0_readOwners 51 = .ok (.iconst 1, 1) := by decide +kernel
theorem dX0_readOwners_52 : decode cX0_readOwners 52 = .ok (.if_icmp .ne 105, 3) := by decide +kernel
theorem dX0_readOwners_55 : decode cX0_readOwners 55 = .ok (.aload_n 0, 1) := by decide +kernel
theorem dX0_readOwners_56 : decode cX0_readOwners 56 = .ok (.getfield 12, 3) := by decide +kernel
theorem dX0_readOwners_59 : decode cX0_readOwners 59 = .ok (.aload_n 0, 1) := by decide +kernel
theorem dX0_readOwners_60 : decode cX0_readOwners 60 = .ok (.getfield 18, 3) := by decide +kernel
theorem dX0_readOwners_63 : decode cX0_readOwners 63 = .ok (.getfield 72, 3) := by decide +kernel
theorem dX0_readOwners_66 : decode cX0_readOwners 66 = .ok (.invokevirtual 111, 3) := by decide +kernel
theorem dX0_readOwners_69 : decode cX0_readOwners 69 = .ok (.istore 5, 2) := by decide +kernel
theorem dX0_readOwners_71 : decode cX0_readOwners 71 = .ok (.aload_n 0, 1) := by decide +kernel
theorem dX0_readOwners_72 : decode cX0_readOwners 72 = .ok (.getfield 12, 3) := by decide +kernel
theorem dX0_readOwners_75 : decode cX0_readOwners 75 = .ok (.iload_n 1, 1) := by decide +kernel
theorem dX0_readOwners_76 : decode cX0_readOwners 76 = .ok (.iload 5, 2) := by decide +kernel
theorem dX0_readOwners_78 : decode cX0_readOwners 78 = .ok (.invokevirtual 164, 3) := by decide +kernel
theorem dX0_readOwners_81 : decode cX0_readOwners 81 = .ok (.iconst (-1), 1) := by decide +kernel
theorem dX0_readOwners_82 : decode cX0_readOwners 82 = .ok (.if_icmp .eq 7, 3) := by decide +kernel
theorem dX0_readOwners_85 : decode cX0_readOwners 85 = .ok (.iconst 1, 1) := by decide +kernel
theorem dX0_readOwners_86 : decode cX0_readOwners 86 = .ok (.goto 4, 3) := by decide +kernel
theorem dX0_readOwners_89 : decode cX0_readOwners 89 = .ok (.iconst 0, 1) := by decide +kernel
theorem dX0_readOwners_90 : decode cX0_readOwners 90 = .ok (.istore 6, 2) := by decide +kernel
theorem dX0_readOwners_92 : decode cX0_readOwners 92 = .ok (.iload 4, 2) := by decide +kernel
theorem dX0_readOwners_94 : decode cX0_readOwners 94 = .ok (.iload_n 3, 1) := by decide +kernel
theorem dX0_readOwners_95 : decode cX0_readOwners 95 = .ok (.if_icmp .ne 23, 3) := by decide +kernel
theorem dX0_readOwners_98 : decode cX0_readOwners 98 = .ok (.iload 5, 2) := by decide +kernel
theorem dX0_readOwners_100 : decode cX0_readOwners 100 = .ok (.iconst (-1), 1) := by decide +kernel
theorem dX0_readOwners_101 : decode cX0_readOwners 101 = .ok (.if_icmp .eq 17, 3) := by decide +kernel
theorem dX0_readOwners_104 : decode cX0_readOwners 104 = .ok (.iload 6, 2) := by decide +kernel
theorem dX0_readOwners_106 : decode cX0_readOwners 106 = .ok (.ifCond .ne 12, 3) := by decide +kernel
theorem dX0_readOwners_109 : decode cX0_readOwners 109 = .ok (.aload_n 0, 1) := by decide +kernel
theorem dX0_readOwners_110 : decode cX0_readOwners 110 = .ok (.getfield 18, 3) := by decide +kernel
theorem dX0_readOwners_113 : decode cX0_readOwners 113 = .ok (.iconst 5, 1) := by decide +kernel
theorem dX0_readOwners_114 : decode cX0_readOwners 114 = .ok (.invokevirtual 60, 3) := by decide +kernel
theorem dX0_readOwners_117 : decode cX0_readOwners 117 = .ok (.ireturn, 1) := by decide +kernel
theorem dX0_readOwners_118 : decode cX0_readOwners 118 = .ok (.aload_n 0, 1) := by decide +kernel
theorem dX0_readOwners_119 : decode cX0_readOwners 119 = .ok (.getfield 18, 3) := by decide +kernel
theorem dX0_readOwners_122 : decode cX0_readOwners 122 = .ok (.iload 6, 2) := by decide +kernel
theorem dX0_readOwners_124 : decode cX0_readOwners 124 = .ok (.ifCond .eq 7, 3) := by decide +kernel
theorem dX0_readOwners_127 : decode cX0_readOwners 127 = .ok (.iconst (-1), 1) := by decide +kernel
theorem dX0_readOwners_128 : decode cX0_readOwners 128 = .ok (.goto 5, 3) := by decide +kernel
theorem dX0_readOwners_131 : decode cX0_readOwners 131 = .ok (.iload 5, 2) := by decide +kernel
theorem dX0_readOwners_133 : decode cX0_readOwners 133 = .ok (.invokevirtual 115, 3) := by decide +kernel
theorem dX0_readOwners_136 : decode cX0_readOwners 136 = .ok (.ifCond .ne 5, 3) := by decide +kernel
theorem dX0_readOwners_139 : decode cX0_readOwners 139 = .ok (.iconst 0, 1) := by decide +kernel
theorem dX0_readOwners_140 : decode cX0_readOwners 140 = .ok (.ireturn, 1) := by decide +kernel
theorem dX0_readOwners_141 : decode cX0_readOwners 141 = .ok (.aload_n 0, 1) := by decide +kernel
theorem dX0_readOwners_142 : decode cX0_readOwners 142 = .ok (.getfield 12, 3) := by decide +kernel
theorem dX0_readOwners_145 : decode cX0_readOwners 145 = .ok (.iload_n 1, 1) := by decide +kernel
theorem dX0_readOwners_146 : decode cX0_readOwners 146 = .ok (.iload 5, 2) := by decide +kernel
theorem dX0_readOwners_148 : decode cX0_readOwners 148 = .ok (.invokevirtual 168, 3) := by decide +kernel
theorem dX0_readOwners_151 : decode cX0_readOwners 151 = .ok (.iinc 4 1, 3) := by decide +kernel
theorem dX0_readOwners_154 : decode cX0_readOwners 154 = .ok (.goto (-121), 3) := by decide +kernel
theorem dX0_readOwners_157 : decode cX0_readOwners 157 = .ok (.iconst 1, 1) := by decide +kernel
theorem dX0_readOwners_158 : decode cX0_readOwners 158 = .ok (.ireturn, 1) := by decide +kernel
def X0_readOwners_b157   (u : gM) : Option (Int32 × gM) :=
some (1, u)
def X0_readOwners_b133 (k33 : Int32 → Int32 → Int32 → gM → Option (Int32 × gM)) (x1 : Int32) (x3 : Int32) (x4 : Int32) (x5 : Int32) (s1 : Int32) (u : gM) : Option (Int32 × gM) :=
((X9_passKnown s1 u).bind fun w133 => (if w133.1 = 0 then some (0, w133.2)
  else ((X10_addOwner 117 x1 x5 w133.2).bind fun w148 => (k33 x1 x3 (x4 + 1) w148))))
def X0_readOwners_b118 (k33 : Int32 → Int32 → Int32 → gM → Option (Int32 × gM)) (x1 : Int32) (x3 : Int32) (x4 : Int32) (x5 : Int32) (x6 : Int32) (u : gM) : Option (Int32 × gM) :=
(if x6 = 0 then (X0_readOwners_b133 k33 x1 x3 x4 x5 x5 u)
  else (X0_readOwners_b133 k33 x1 x3 x4 x5 (-1) u))
def X0_readOwners_b90 (k33 : Int32 → Int32 → Int32 → gM → Option (Int32 × gM)) (x1 : Int32) (x3 : Int32) (x4 : Int32) (x5 : Int32) (s0 : Int32) (u : gM) : Option (Int32 × gM) :=
(if x4 = x3 then (if x5 = (-1) then (X0_readOwners_b118 k33 x1 x3 x4 x5 s0 u)
    else (if s0 = 0 then ((X9_refuse 5 u).bind fun w114 => ((bI w114.1).bind fun v117 => some (v117, w114.2)))
      else (X0_readOwners_b118 k33 x1 x3 x4 x5 s0 u)))
  else (X0_readOwners_b118 k33 x1 x3 x4 x5 s0 u))
def X0_readOwners_b55 (k33 : Int32 → Int32 → Int32 → gM → Option (Int32 × gM)) (x1 : Int32) (x3 : Int32) (x4 : Int32) (u : gM) : Option (Int32 × gM) :=
((X10_personNamed u 117 (u.2 1 7)).bind fun w66 => ((X10_ownerOf u 117 x1 w66).bind fun w78 => (if w78 = (-1) then (X0_readOwners_b90 k33 x1 x3 x4 w66 0 u)
  else (X0_readOwners_b90 k33 x1 x3 x4 w66 1 u))))
def X0_readOwners_b33 (k33 : Int32 → Int32 → Int32 → gM → Option (Int32 × gM)) (x1 : Int32) (x3 : Int32) (x4 : Int32) (u : gM) : Option (Int32 × gM) :=
(if x3 < x4 then (X0_readOwners_b157 u)
  else (if x4 = 0 then (X0_readOwners_b55 k33 x1 x3 x4 u)
    else (if (u.1 1 3) = 1 then (X0_readOwners_b55 k33 x1 x3 x4 u)
      else (X0_readOwners_b157 u))))
def X0_readOwners_l33  : Nat → Int32 → Int32 → Int32 → gM → Option (Int32 × gM)
  | 0, _, _, _, _ => none
  | n + 1, x1, x3, x4, u => X0_readOwners_b33  (X0_readOwners_l33  n) x1 x3 x4 u
def X0_readOwners_b19  (x1 : Int32) (s0 : Int32) (u : gM) : Option (Int32 × gM) :=
((sI skC u 125 x1 0).bind fun u29 => (X0_readOwners_l33 fz x1 s0 0 u29))
def X0_readOwners  (x1 : Int32) (x2 : Int32) (u : gM) : Option (Int32 × gM) :=
(if x2 = 1 then (X0_readOwners_b19 x1 4 u)
  else (if x2 = 2 then (X0_readOwners_b19 x1 2 u)
    else (X0_readOwners_b19 x1 1 u)))
set_option maxRecDepth 20000 in
theorem v_X0_readOwners_b157 {κ : gK} {B : Nat} {u : gM} (X : gX κ B skC cX0_readOwners 7 RX0 (some .boolean) 7 166)    {w : (Int32 × gM)} (hM : X0_readOwners_b157 u = some w) : gV κ B skC 7 ((some (.int w.1)), w.2) 157 [none, none, none, none, none, none, none] [] u := by
  unfold X0_readOwners_b157 at hM
  refine g_iconst X (v := 1) dX0_readOwners_157 (by decide) ?_
  cases hM
  exact g_zret X (Or.inr rfl) dX0_readOwners_158
set_option maxRecDepth 20000 in
theorem v_X0_readOwners_b133 {κ : gK} {B : Nat} {u : gM} (X : gX κ B skC cX0_readOwners 7 RX0 (some .boolean) 7 166) {k33 : Int32 → Int32 → Int32 → gM → Option (Int32 × gM)} (ih33 : ∀ (x1 : Int32) (x3 : Int32) (x4 : Int32) (u : gM) (w : (Int32 × gM)), k33 x1 x3 x4 u = some w → gV κ B skC 7 ((some (.int w.1)), w.2) 33 [some (.ref (B + 116)), some (.int x1), none, some (.int x3), some (.int x4), none, none] [] u) {x1 : Int32} {x3 : Int32} {x4 : Int32} {x5 : Int32} {s1 : Int32} {w : (Int32 × gM)} (hM : X0_readOwners_b133 k33 x1 x3 x4 x5 s1 u = some w) : gV κ B skC 7 ((some (.int w.1)), w.2) 133 [some (.ref (B + 116)), some (.int x1), none, some (.int x3), some (.int x4), some (.int x5), none] [.int s1, .ref (B + 1)] u := by
  unfold X0_readOwners_b133 at hM
  obtain ⟨w133, e133, hM⟩ := bind_of hM
  refine g_callVi X (fun B adK => [.int s1]) (s_X9_passKnown e133) cvX0_115 cC_1 rfl rfl (Nat.le_of_ble_eq_true rfl) ⟨by decide, by decide⟩ dX0_readOwners_133 ?_
  refine g_if_ne (tgt := 141) X dX0_readOwners_136 (by decide) (fun c136 => ?_) (fun c136 => ?_)
  · rw [if_neg c136] at hM
    refine g_aload_n X dX0_readOwners_141 rfl ?_
    refine g_getR X fX0_12 cC_116 rfl dX0_readOwners_142 ?_
    refine g_iload_n X dX0_readOwners_145 rfl ?_
    refine g_iload X dX0_readOwners_146 rfl ?_
    obtain ⟨w148, e148, hM⟩ := bind_of hM
    refine g_callVv X (fun B adK => [.int x1, .int x5]) (s_X10_addOwner e148) cvX0_168 cC_117 rfl rfl (Nat.le_of_ble_eq_true rfl) ⟨by decide, by decide⟩ dX0_readOwners_148 ?_
    refine g_iinc (d := 1) X [some (.ref (B + 116)), some (.int x1), none, some (.int x3), some (.int (x4 + 1)), some (.int x5), none] dX0_readOwners_151 (by decide) rfl (by decide) rfl ?_
    refine g_goto (tgt := 33) X dX0_readOwners_154 (by decide) ?_
    refine g_mk [true, true, false, true, true, false, false] [some (.ref (B + 116)), some (.int x1), none, some (.int x3), some (.int (x4 + 1)), none, none] rfl ?_
    exact ih33 x1 x3 (x4 + 1) w148 _ hM
  · rw [if_pos c136] at hM
    refine g_iconst X (v := 0) dX0_readOwners_139 (by decide) ?_
    cases hM
    exact g_zret X (Or.inl rfl) dX0_readOwners_140
set_option maxRecDepth 20000 in
theorem v_X0_readOwners_b118 {κ : gK} {B : Nat} {u : gM} (X : gX κ B skC cX0_readOwners 7 RX0 (some .boolean) 7 166) {k33 : Int32 → Int32 → Int32 → gM → Option (Int32 × gM)} (ih33 : ∀ (x1 : Int32) (x3 : Int32) (x4 : Int32) (u : gM) (w : (Int32 × gM)), k33 x1 x3 x4 u = some w → gV κ B skC 7 ((some (.int w.1)), w.2) 33 [some (.ref (B + 116)), some (.int x1), none, some (.int x3), some (.int x4), none, none] [] u) {x1 : Int32} {x3 : Int32} {x4 : Int32} {x5 : Int32} {x6 : Int32} {w : (Int32 × gM)} (hM : X0_readOwners_b118 k33 x1 x3 x4 x5 x6 u = some w) : gV κ B skC 7 ((some (.int w.1)), w.2) 118 [some (.ref (B + 116)), some (.int x1), none, some (.int x3), some (.int x4), some (.int x5), some (.int x6)] [] u := by
  unfold X0_readOwners_b118 at hM
  refine g_aload_n X dX0_readOwners_118 rfl ?_
  refine g_getR X fX0_18 cC_116 rfl dX0_readOwners_119 ?_
  refine g_iload X dX0_readOwners_122 rfl ?_
  refine g_if_eq (tgt := 131) X dX0_readOwners_124 (by decide) (fun c124 => ?_) (fun c124 => ?_)
  · rw [if_pos c124] at hM
    refine g_iload X dX0_readOwners_131 rfl ?_
    refine g_mk [true, true, false, true, true, true, false] [some (.ref (B + 116)), some (.int x1), none, some (.int x3), some (.int x4), some (.int x5), none] rfl ?_
    exact v_X0_readOwners_b133 X ih33 hM
  · rw [if_neg c124] at hM
    refine g_iconst X (v := (-1)) dX0_readOwners_127 (by decide) ?_
    refine g_goto (tgt := 133) X dX0_readOwners_128 (by decide) ?_
    refine g_mk [true, true, false, true, true, true, false] [some (.ref (B + 116)), some (.int x1), none, some (.int x3), some (.int x4), some (.int x5), none] rfl ?_
    exact v_X0_readOwners_b133 X ih33 hM
set_option maxRecDepth 20000 in
theorem v_X0_readOwners_b90 {κ : gK} {B : Nat} {u : gM} (X : gX κ B skC cX0_readOwners 7 RX0 (some .boolean) 7 166) {k33 : Int32 → Int32 → Int32 → gM → Option (Int32 × gM)} (ih33 : ∀ (x1 : Int32) (x3 : Int32) (x4 : Int32) (u : gM) (w : (Int32 × gM)), k33 x1 x3 x4 u = some w → gV κ B skC 7 ((some (.int w.1)), w.2) 33 [some (.ref (B + 116)), some (.int x1), none, some (.int x3), some (.int x4), none, none] [] u) {x1 : Int32} {x3 : Int32} {x4 : Int32} {x5 : Int32} {s0 : Int32} {w : (Int32 × gM)} (hM : X0_readOwners_b90 k33 x1 x3 x4 x5 s0 u = some w) : gV κ B skC 7 ((some (.int w.1)), w.2) 90 [some (.ref (B + 116)), some (.int x1), none, some (.int x3), some (.int x4), some (.int x5), none] [.int s0] u := by
  unfold X0_readOwners_b90 at hM
  refine g_istore X [some (.ref (B + 116)), some (.int x1), none, some (.int x3), some (.int x4), some (.int x5), some (.int s0)] dX0_readOwners_90 (by decide) rfl ?_
  refine g_iload X dX0_readOwners_92 rfl ?_
  refine g_iload_n X dX0_readOwners_94 rfl ?_
  refine g_icmp_ne (tgt := 118) X dX0_readOwners_95 (by decide) (fun c95 => ?_) (fun c95 => ?_)
  · rw [if_neg c95] at hM
    refine g_mk [true, true, false, true, true, true, true] [some (.ref (B + 116)), some (.int x1), none, some (.int x3), some (.int x4), some (.int x5), some (.int s0)] rfl ?_
    exact v_X0_readOwners_b118 X ih33 hM
  · rw [if_pos c95] at hM
    refine g_iload X dX0_readOwners_98 rfl ?_
    refine g_iconst X (v := (-1)) dX0_readOwners_100 (by decide) ?_
    refine g_icmp_eq (tgt := 118) X dX0_readOwners_101 (by decide) (fun c101 => ?_) (fun c101 => ?_)
    · rw [if_pos c101] at hM
      refine g_mk [true, true, false, true, true, true, true] [some (.ref (B + 116)), some (.int x1), none, some (.int x3), some (.int x4), some (.int x5), some (.int s0)] rfl ?_
      exact v_X0_readOwners_b118 X ih33 hM
    · rw [if_neg c101] at hM
      refine g_iload X dX0_readOwners_104 rfl ?_
      refine g_if_ne (tgt := 118) X dX0_readOwners_106 (by decide) (fun c106 => ?_) (fun c106 => ?_)
      · rw [if_neg c106] at hM
        refine g_mk [true, true, false, true, true, true, true] [some (.ref (B + 116)), some (.int x1), none, some (.int x3), some (.int x4), some (.int x5), some (.int s0)] rfl ?_
        exact v_X0_readOwners_b118 X ih33 hM
      · rw [if_pos c106] at hM
        refine g_aload_n X dX0_readOwners_109 rfl ?_
        refine g_getR X fX0_18 cC_116 rfl dX0_readOwners_110 ?_
        refine g_iconst X (v := 5) dX0_readOwners_113 (by decide) ?_
        obtain ⟨w114, e114, hM⟩ := bind_of hM
        refine g_callVi X (fun B adK => [.int 5]) (s_X9_refuse e114) cvX0_60 cC_1 rfl rfl (Nat.le_of_ble_eq_true rfl) ⟨by decide, by decide⟩ dX0_readOwners_114 ?_
        obtain ⟨v117, e117, hM⟩ := bind_of hM
        obtain ⟨hv, rfl⟩ := bI_of e117
        cases hM
        exact g_zret X hv dX0_readOwners_117
set_option maxRecDepth 20000 in
theorem v_X0_readOwners_b55 {κ : gK} {B : Nat} {u : gM} (X : gX κ B skC cX0_readOwners 7 RX0 (some .boolean) 7 166) {k33 : Int32 → Int32 → Int32 → gM → Option (Int32 × gM)} (ih33 : ∀ (x1 : Int32) (x3 : Int32) (x4 : Int32) (u : gM) (w : (Int32 × gM)), k33 x1 x3 x4 u = some w → gV κ B skC 7 ((some (.int w.1)), w.2) 33 [some (.ref (B + 116)), some (.int x1), none, some (.int x3), some (.int x4), none, none] [] u) {x1 : Int32} {x3 : Int32} {x4 : Int32} {w : (Int32 × gM)} (hM : X0_readOwners_b55 k33 x1 x3 x4 u = some w) : gV κ B skC 7 ((some (.int w.1)), w.2) 55 [some (.ref (B + 116)), some (.int x1), none, some (.int x3), some (.int x4), none, none] [] u := by
  unfold X0_readOwners_b55 at hM
  refine g_aload_n X dX0_readOwners_55 rfl ?_
  refine g_getR X fX0_12 cC_116 rfl dX0_readOwners_56 ?_
  refine g_aload_n X dX0_readOwners_59 rfl ?_
  refine g_getR X fX0_18 cC_116 rfl dX0_readOwners_60 ?_
  refine g_getJ X fX0_72 cC_1 rfl dX0_readOwners_63 ?_
  obtain ⟨w66, e66, hM⟩ := bind_of hM
  refine g_callVi X (fun B adK => [.long (u.2 1 7)]) (s_X10_personNamed e66) cvX0_111 cC_117 rfl rfl (Nat.le_of_ble_eq_true rfl) ⟨by decide, by decide⟩ dX0_readOwners_66 ?_
  refine g_istore X [some (.ref (B + 116)), some (.int x1), none, some (.int x3), some (.int x4), some (.int w66), none] dX0_readOwners_69 (by decide) rfl ?_
  refine g_aload_n X dX0_readOwners_71 rfl ?_
  refine g_getR X fX0_12 cC_116 rfl dX0_readOwners_72 ?_
  refine g_iload_n X dX0_readOwners_75 rfl ?_
  refine g_iload X dX0_readOwners_76 rfl ?_
  obtain ⟨w78, e78, hM⟩ := bind_of hM
  refine g_callVi X (fun B adK => [.int x1, .int w66]) (s_X10_ownerOf e78) cvX0_164 cC_117 rfl rfl (Nat.le_of_ble_eq_true rfl) ⟨by decide, by decide⟩ dX0_readOwners_78 ?_
  refine g_iconst X (v := (-1)) dX0_readOwners_81 (by decide) ?_
  refine g_icmp_eq (tgt := 89) X dX0_readOwners_82 (by decide) (fun c82 => ?_) (fun c82 => ?_)
  · rw [if_pos c82] at hM
    refine g_iconst X (v := 0) dX0_readOwners_89 (by decide) ?_
    refine g_mk [true, true, false, true, true, true, false] [some (.ref (B + 116)), some (.int x1), none, some (.int x3), some (.int x4), some (.int w66), none] rfl ?_
    exact v_X0_readOwners_b90 X ih33 hM
  · rw [if_neg c82] at hM
    refine g_iconst X (v := 1) dX0_readOwners_85 (by decide) ?_
    refine g_goto (tgt := 90) X dX0_readOwners_86 (by decide) ?_
    refine g_mk [true, true, false, true, true, true, false] [some (.ref (B + 116)), some (.int x1), none, some (.int x3), some (.int x4), some (.int w66), none] rfl ?_
    exact v_X0_readOwners_b90 X ih33 hM
set_option maxRecDepth 20000 in
theorem v_X0_readOwners_b33 {κ : gK} {B : Nat} {u : gM} (X : gX κ B skC cX0_readOwners 7 RX0 (some .boolean) 7 166) {k33 : Int32 → Int32 → Int32 → gM → Option (Int32 × gM)} (ih33 : ∀ (x1 : Int32) (x3 : Int32) (x4 : Int32) (u : gM) (w : (Int32 × gM)), k33 x1 x3 x4 u = some w → gV κ B skC 7 ((some (.int w.1)), w.2) 33 [some (.ref (B + 116)), some (.int x1), none, some (.int x3), some (.int x4), none, none] [] u) {x1 : Int32} {x3 : Int32} {x4 : Int32} {w : (Int32 × gM)} (hM : X0_readOwners_b33 k33 x1 x3 x4 u = some w) : gV κ B skC 7 ((some (.int w.1)), w.2) 33 [some (.ref (B + 116)), some (.int x1), none, some (.int x3), some (.int x4), none, none] [] u := by
  unfold X0_readOwners_b33 at hM
  refine g_iload X dX0_readOwners_33 rfl ?_
  refine g_iload_n X dX0_readOwners_35 rfl ?_
  refine g_icmp_gt (tgt := 157) X dX0_readOwners_36 (by decide) (fun c36 => ?_) (fun c36 => ?_)
  · rw [if_pos c36] at hM
    refine g_mk [false, false, false, false, false, false, false] [none, none, none, none, none, none, none] rfl ?_
    exact v_X0_readOwners_b157 X  hM
  · rw [if_neg c36] at hM
    refine g_iload X dX0_readOwners_39 rfl ?_
    refine g_if_eq (tgt := 55) X dX0_readOwners_41 (by decide) (fun c41 => ?_) (fun c41 => ?_)
    · rw [if_pos c41] at hM
      refine g_mk [true, true, false, true, true, false, false] [some (.ref (B + 116)), some (.int x1), none, some (.int x3), some (.int x4), none, none] rfl ?_
      exact v_X0_readOwners_b55 X ih33 hM
    · rw [if_neg c41] at hM
      refine g_aload_n X dX0_readOwners_44 rfl ?_
      refine g_getR X fX0_18 cC_116 rfl dX0_readOwners_45 ?_
      refine g_getI X fX0_33 cC_1 rfl dX0_readOwners_48 ?_
      refine g_iconst X (v := 1) dX0_readOwners_51 (by decide) ?_
      refine g_icmp_ne (tgt := 157) X dX0_readOwners_52 (by decide) (fun c52 => ?_) (fun c52 => ?_)
      · rw [if_neg c52] at hM
        refine g_mk [false, false, false, false, false, false, false] [none, none, none, none, none, none, none] rfl ?_
        exact v_X0_readOwners_b157 X  hM
      · rw [if_pos c52] at hM
        refine g_mk [true, true, false, true, true, false, false] [some (.ref (B + 116)), some (.int x1), none, some (.int x3), some (.int x4), none, none] rfl ?_
        exact v_X0_readOwners_b55 X ih33 hM
theorem v_X0_readOwners_l33 {κ : gK} {B : Nat} (X : gX κ B skC cX0_readOwners 7 RX0 (some .boolean) 7 166)   : ∀ (n : Nat) {x1 : Int32} {x3 : Int32} {x4 : Int32} {u : gM} {w : (Int32 × gM)} (hM : X0_readOwners_l33  n x1 x3 x4 u = some w), gV κ B skC 7 ((some (.int w.1)), w.2) 33 [some (.ref (B + 116)), some (.int x1), none, some (.int x3), some (.int x4), none, none] [] u := by
  intro n
  induction n with
  | zero => intro x1 x3 x4 u w hM; exact nomatch (show (none : Option (Int32 × gM)) = some w from hM)
  | succ n ihn => intro x1 x3 x4 u w hM; exact v_X0_readOwners_b33 X  (fun x1 x3 x4 u w h => ihn h) hM
set_option maxRecDepth 20000 in
theorem v_X0_readOwners_b19 {κ : gK} {B : Nat} {u : gM} (X : gX κ B skC cX0_readOwners 7 RX0 (some .boolean) 7 166)   {x1 : Int32} {s0 : Int32} {w : (Int32 × gM)} (hM : X0_readOwners_b19 x1 s0 u = some w) : gV κ B skC 7 ((some (.int w.1)), w.2) 19 [some (.ref (B + 116)), some (.int x1), none, none, none, none, none] [.int s0] u := by
  unfold X0_readOwners_b19 at hM
  refine g_istore_n X [some (.ref (B + 116)), some (.int x1), none, some (.int s0), none, none, none] dX0_readOwners_19 (by decide) rfl ?_
  refine g_aload_n X dX0_readOwners_20 rfl ?_
  refine g_getR X fX0_12 cC_116 rfl dX0_readOwners_21 ?_
  refine g_getR X fX0_161 cC_117 rfl dX0_readOwners_24 ?_
  refine g_iload_n X dX0_readOwners_27 rfl ?_
  refine g_iconst X (v := 0) dX0_readOwners_28 (by decide) ?_
  obtain ⟨u29, e29, hM⟩ := bind_of hM
  refine g_iastore X e29 dX0_readOwners_29 ?_
  refine g_iconst X (v := 0) dX0_readOwners_30 (by decide) ?_
  refine g_istore X [some (.ref (B + 116)), some (.int x1), none, some (.int s0), some (.int 0), none, none] dX0_readOwners_31 (by decide) rfl ?_
  refine g_mk [true, true, false, true, true, false, false] [some (.ref (B + 116)), some (.int x1), none, some (.int s0), some (.int 0), none, none] rfl ?_
  exact v_X0_readOwners_l33 X  fz hM
set_option maxRecDepth 20000 in
theorem v_X0_readOwners {κ : gK} {B : Nat} {u : gM} (X : gX κ B skC cX0_readOwners 7 RX0 (some .boolean) 7 166)   {x1 : Int32} {x2 : Int32} {w : (Int32 × gM)} (hM : X0_readOwners x1 x2 u = some w) : gV κ B skC 7 ((some (.int w.1)), w.2) 0 [some (.ref (B + 116)), some (.int x1), some (.int x2), none, none, none, none] [] u := by
  unfold X0_readOwners at hM
  refine g_iload_n X dX0_readOwners_0 rfl ?_
  refine g_iconst X (v := 1) dX0_readOwners_1 (by decide) ?_
  refine g_icmp_ne (tgt := 9) X dX0_readOwners_2 (by decide) (fun c2 => ?_) (fun c2 => ?_)
  · rw [if_neg c2] at hM
    refine g_iload_n X dX0_readOwners_9 rfl ?_
    refine g_iconst X (v := 2) dX0_readOwners_10 (by decide) ?_
    refine g_icmp_ne (tgt := 18) X dX0_readOwners_11 (by decide) (fun c11 => ?_) (fun c11 => ?_)
    · rw [if_neg c11] at hM
      refine g_iconst X (v := 1) dX0_readOwners_18 (by decide) ?_
      refine g_mk [true, true, false, false, false, false, false] [some (.ref (B + 116)), some (.int x1), none, none, none, none, none] rfl ?_
      exact v_X0_readOwners_b19 X  hM
    · rw [if_pos c11] at hM
      refine g_iconst X (v := 2) dX0_readOwners_14 (by decide) ?_
      refine g_goto (tgt := 19) X dX0_readOwners_15 (by decide) ?_
      refine g_mk [true, true, false, false, false, false, false] [some (.ref (B + 116)), some (.int x1), none, none, none, none, none] rfl ?_
      exact v_X0_readOwners_b19 X  hM
  · rw [if_pos c2] at hM
    refine g_iconst X (v := 4) dX0_readOwners_5 (by decide) ?_
    refine g_goto (tgt := 19) X dX0_readOwners_6 (by decide) ?_
    refine g_mk [true, true, false, false, false, false, false] [some (.ref (B + 116)), some (.int x1), none, none, none, none, none] rfl ?_
    exact v_X0_readOwners_b19 X  hM
theorem s_X0_readOwners {x1 : Int32} {x2 : Int32} {u : gM} {w : (Int32 × gM)} (hM : X0_readOwners x1 x2 u = some w) : gMet skC yX0_readOwners cX0_readOwners 7 (some .boolean) 7 166 (fun B adK => [.ref (B + 116), .int x1, .int x2]) u ((fun _ => some (.int w.1)), w.2) := by
  refine gMet.of (by decide) (fun _ _ => Nat.le_of_ble_eq_true rfl) (fun κ B X => ?_)
  have X : gX κ B skC cX0_readOwners 7 RX0 (some .boolean) 7 166 := X
  refine g_mk [true, true, true, false, false, false, false] [some (.ref (B + 116)), some (.int x1), some (.int x2), none, none, none, none] rfl ?_
  exact v_X0_readOwners X  hM
theorem fr_X0_readOwners_b157 {S : Nat → Prop} {u0 u : gM}     {w : (Int32 × gM)} (hM : X0_readOwners_b157 u = some w) (h0 : off S u0 u) : off S u0 w.2 := by
  unfold X0_readOwners_b157 at hM
  cases hM
  exact h0
theorem fr_X0_readOwners_b133 {S : Nat → Prop} {u0 u : gM} {x1 : Int32} {x3 : Int32} {x4 : Int32} {x5 : Int32} {s1 : Int32} (hs0 : S (rf skC 117 13)) (hs1 : S (rf skC 117 15)) (hs2 : S 1) {k33 : Int32 → Int32 → Int32 → gM → Option (Int32 × gM)} (ik33 : ∀ (x1 : Int32) (x3 : Int32) (x4 : Int32) (u : gM) (w : (Int32 × gM)), S (rf skC 117 13) → S (rf skC 117 15) → S 1 → off S u0 u → k33 x1 x3 x4 u = some w → off S u0 w.2) {w : (Int32 × gM)} (hM : X0_readOwners_b133 k33 x1 x3 x4 x5 s1 u = some w) (h0 : off S u0 u) : off S u0 w.2 := by
  unfold X0_readOwners_b133 at hM
  obtain ⟨w133, e133, hM⟩ := bind_of hM
  have h0 := fr_X9_passKnown hs2 e133 h0
  by_cases c136 : w133.1 = 0
  · rw [if_pos c136] at hM
    cases hM
    exact h0
  · rw [if_neg c136] at hM
    obtain ⟨w148, e148, hM⟩ := bind_of hM
    have h0 := fr_X10_addOwner hs0 hs1 e148 h0
    exact ik33 _ _ _ _ _ hs0 hs1 hs2 h0 hM
theorem fr_X0_readOwners_b118 {S : Nat → Prop} {u0 u : gM} {x1 : Int32} {x3 : Int32} {x4 : Int32} {x5 : Int32} {x6 : Int32} (hs0 : S (rf skC 117 13)) (hs1 : S (rf skC 117 15)) (hs2 : S 1) {k33 : Int32 → Int32 → Int32 → gM → Option (Int32 × gM)} (ik33 : ∀ (x1 : Int32) (x3 : Int32) (x4 : Int32) (u : gM) (w : (Int32 × gM)), S (rf skC 117 13) → S (rf skC 117 15) → S 1 → off S u0 u → k33 x1 x3 x4 u = some w → off S u0 w.2) {w : (Int32 × gM)} (hM : X0_readOwners_b118 k33 x1 x3 x4 x5 x6 u = some w) (h0 : off S u0 u) : off S u0 w.2 := by
  unfold X0_readOwners_b118 at hM
  by_cases c124 : x6 = 0
  · rw [if_pos c124] at hM
    exact fr_X0_readOwners_b133 hs0 hs1 hs2 ik33 hM h0
  · rw [if_neg c124] at hM
    exact fr_X0_readOwners_b133 hs0 hs1 hs2 ik33 hM h0
theorem fr_X0_readOwners_b90 {S : Nat → Prop} {u0 u : gM} {x1 : Int32} {x3 : Int32} {x4 : Int32} {x5 : Int32} {s0 : Int32} (hs0 : S (rf skC 117 13)) (hs1 : S (rf skC 117 15)) (hs2 : S 1) {k33 : Int32 → Int32 → Int32 → gM → Option (Int32 × gM)} (ik33 : ∀ (x1 : Int32) (x3 : Int32) (x4 : Int32) (u : gM) (w : (Int32 × gM)), S (rf skC 117 13) → S (rf skC 117 15) → S 1 → off S u0 u → k33 x1 x3 x4 u = some w → off S u0 w.2) {w : (Int32 × gM)} (hM : X0_readOwners_b90 k33 x1 x3 x4 x5 s0 u = some w) (h0 : off S u0 u) : off S u0 w.2 := by
  unfold X0_readOwners_b90 at hM
  by_cases c95 : x4 = x3
  · rw [if_pos c95] at hM
    by_cases c101 : x5 = (-1)
    · rw [if_pos c101] at hM
      exact fr_X0_readOwners_b118 hs0 hs1 hs2 ik33 hM h0
    · rw [if_neg c101] at hM
      by_cases c106 : s0 = 0
      · rw [if_pos c106] at hM
        obtain ⟨w114, e114, hM⟩ := bind_of hM
        have h0 := fr_X9_refuse hs2 e114 h0
        obtain ⟨v117, e117, hM⟩ := bind_of hM
        cases hM
        exact h0
      · rw [if_neg c106] at hM
        exact fr_X0_readOwners_b118 hs0 hs1 hs2 ik33 hM h0
  · rw [if_neg c95] at hM
    exact fr_X0_readOwners_b118 hs0 hs1 hs2 ik33 hM h0
theorem fr_X0_readOwners_b55 {S : Nat → Prop} {u0 u : gM} {x1 : Int32} {x3 : Int32} {x4 : Int32} (hs0 : S (rf skC 117 13)) (hs1 : S (rf skC 117 15)) (hs2 : S 1) {k33 : Int32 → Int32 → Int32 → gM → Option (Int32 × gM)} (ik33 : ∀ (x1 : Int32) (x3 : Int32) (x4 : Int32) (u : gM) (w : (Int32 × gM)), S (rf skC 117 13) → S (rf skC 117 15) → S 1 → off S u0 u → k33 x1 x3 x4 u = some w → off S u0 w.2) {w : (Int32 × gM)} (hM : X0_readOwners_b55 k33 x1 x3 x4 u = some w) (h0 : off S u0 u) : off S u0 w.2 := by
  unfold X0_readOwners_b55 at hM
  obtain ⟨w66, e66, hM⟩ := bind_of hM
  obtain ⟨w78, e78, hM⟩ := bind_of hM
  by_cases c82 : w78 = (-1)
  · rw [if_pos c82] at hM
    exact fr_X0_readOwners_b90 hs0 hs1 hs2 ik33 hM h0
  · rw [if_neg c82] at hM
    exact fr_X0_readOwners_b90 hs0 hs1 hs2 ik33 hM h0
theorem fr_X0_readOwners_b33 {S : Nat → Prop} {u0 u : gM} {x1 : Int32} {x3 : Int32} {x4 : Int32} (hs0 : S (rf skC 117 13)) (hs1 : S (rf skC 117 15)) (hs2 : S 1) {k33 : Int32 → Int32 → Int32 → gM → Option (Int32 × gM)} (ik33 : ∀ (x1 : Int32) (x3 : Int32) (x4 : Int32) (u : gM) (w : (Int32 × gM)), S (rf skC 117 13) → S (rf skC 117 15) → S 1 → off S u0 u → k33 x1 x3 x4 u = some w → off S u0 w.2) {w : (Int32 × gM)} (hM : X0_readOwners_b33 k33 x1 x3 x4 u = some w) (h0 : off S u0 u) : off S u0 w.2 := by
  unfold X0_readOwners_b33 at hM
  by_cases c36 : x3 < x4
  · rw [if_pos c36] at hM
    exact fr_X0_readOwners_b157   hM h0
  · rw [if_neg c36] at hM
    by_cases c41 : x4 = 0
    · rw [if_pos c41] at hM
      exact fr_X0_readOwners_b55 hs0 hs1 hs2 ik33 hM h0
    · rw [if_neg c41] at hM
      by_cases c52 : (u.1 1 3) = 1
      · rw [if_pos c52] at hM
        exact fr_X0_readOwners_b55 hs0 hs1 hs2 ik33 hM h0
      · rw [if_neg c52] at hM
        exact fr_X0_readOwners_b157   hM h0
theorem fr_X0_readOwners_l33 {S : Nat → Prop} {u0 : gM}   : ∀ (n : Nat) {x1 : Int32} {x3 : Int32} {x4 : Int32} (hs0 : S (rf skC 117 13)) (hs1 : S (rf skC 117 15)) (hs2 : S 1) {u : gM} {w : (Int32 × gM)} (h0 : off S u0 u) (hM : X0_readOwners_l33  n x1 x3 x4 u = some w), off S u0 w.2 := by
  intro n
  induction n with
  | zero => intro x1 x3 x4 hs0 hs1 hs2 u w h0 hM; exact nomatch (show (none : Option (Int32 × gM)) = some w from hM)
  | succ n ihn => intro x1 x3 x4 hs0 hs1 hs2 u w h0 hM; exact fr_X0_readOwners_b33 hs0 hs1 hs2  (fun x1 x3 x4 _ _ hs0 hs1 hs2 h0 h => ihn hs0 hs1 hs2 h0 h) hM h0
theorem fr_X0_readOwners_b19 {S : Nat → Prop} {u0 u : gM} {x1 : Int32} {s0 : Int32} (hs0 : S (rf skC 117 13)) (hs1 : S (rf skC 117 15)) (hs2 : S 1) (hs3 : S 125)   {w : (Int32 × gM)} (hM : X0_readOwners_b19 x1 s0 u = some w) (h0 : off S u0 u) : off S u0 w.2 := by
  unfold X0_readOwners_b19 at hM
  obtain ⟨u29, e29, hM⟩ := bind_of hM
  have h0 := off_sI hs3 e29 h0
  exact fr_X0_readOwners_l33  fz hs0 hs1 hs2 h0 hM
theorem fr_X0_readOwners {S : Nat → Prop} {u0 u : gM} {x1 : Int32} {x2 : Int32} (hs0 : S (rf skC 117 13)) (hs1 : S (rf skC 117 15)) (hs2 : S 1) (hs3 : S 125)   {w : (Int32 × gM)} (hM : X0_readOwners x1 x2 u = some w) (h0 : off S u0 u) : off S u0 w.2 := by
  unfold X0_readOwners at hM
  by_cases c2 : x2 = 1
  · rw [if_pos c2] at hM
    exact fr_X0_readOwners_b19 hs0 hs1 hs2 hs3  hM h0
  · rw [if_neg c2] at hM
    by_cases c11 : x2 = 2
    · rw [if_pos c11] at hM
      exact fr_X0_readOwners_b19 hs0 hs1 hs2 hs3  hM h0
    · rw [if_neg c11] at hM
      exact fr_X0_readOwners_b19 hs0 hs1 hs2 hs3  hM h0
/-! CoverDesk$Told.hasHeir(IJ)Z -/
theorem dX10_hasHeir_0 : decode cX10_hasHeir 0 = .ok (.iload_n 1, 1) := by decide +kernel
theorem dX10_hasHeir_1 : decode cX10_hasHeir 1 = .ok (.bipush 6, 2) := by decide +kernel
theorem dX10_hasHeir_3 : decode cX10_hasHeir 3 = .ok (.imul, 1) := by decide +kernel
theorem dX10_hasHeir_4 : decode cX10_hasHeir 4 = .ok (.istore 4, 2) := by decide +kernel
theorem dX10_hasHeir_6 : decode cX10_hasHeir 6 = .ok (.iconst 0, 1) := by decide +kernel
theorem dX10_hasHeir_7 : decode cX10_hasHeir 7 = .ok (.istore 5, 2) := by decide +kernel
theorem dX10_hasHeir_9 : decode cX10_hasHeir 9 = .ok (.iload 5, 2) := by decide +kernel
theorem dX10_hasHeir_11 : decode cX10_hasHeir 11 = .ok (.aload_n 0, 1) := by decide +kernel
theorem dX10_hasHeir_12 : decode cX10_hasHeir 12 = .ok (.getfield 45, 3) := by decide +kernel
theorem dX10_hasHeir_15 : decode cX10_hasHeir 15 = .ok (.iload_n 1, 1) := by decide +kernel
theorem dX10_hasHeir_16 : decode cX10_hasHeir 16 = .ok (.iaload, 1) := by decide +kernel
theorem dX10_hasHeir_17 : decode cX10_hasHeir 17 = .ok (.if_icmp .ge 26, 3) := by decide +kernel
theorem dX10_hasHeir_20 : decode cX10_hasHeir 20 = .ok (.aload_n 0, 1) := by decide +kernel
theorem dX10_hasHeir_21 : decode cX10_hasHeir 21 = .ok (.getfield 51, 3) := by decide +kernel
theorem dX10_hasHeir_24 : decode cX10_hasHeir 24 = .ok (.iload 4, 2) := by decide +kernel
theorem dX10_hasHeir_26 : decode cX10_hasHeir 26 = .ok (.iload 5, 2) := by decide +kernel
theorem dX10_hasHeir_28 : decode cX10_hasHeir 28 = .ok (.iadd, 1) := by decide +kernel
theorem dX10_hasHeir_29 : decode cX10_hasHeir 29 = .ok (.laload, 1) := by decide +kernel
theorem dX10_hasHeir_30 : decode cX10_hasHeir 30 = .ok (.lload_n 2, 1) := by decide +kernel
theorem dX10_hasHeir_31 : decode cX10_hasHeir 31 = .ok (.lcmp, 1) := by decide +kernel
theorem dX10_hasHeir_32 : decode cX10_hasHeir 32 = .ok (.ifCond .ne 5, 3) := by decide +kernel
theorem dX10_hasHeir_35 : decode cX10_hasHeir 35 = .ok (.iconst 1, 1) := by decide +kernel
theorem dX10_hasHeir_36 : decode cX10_hasHeir 36 = .ok (.ireturn, 1) := by decide +kernel
theorem dX10_hasHeir_37 : decode cX10_hasHeir 37 = .ok (.iinc 5 1, 3) := by decide +kernel
theorem dX10_hasHeir_40 : decode cX10_hasHeir 40 = .ok (.goto (-31), 3) := by decide +kernel
theorem dX10_hasHeir_43 : decode cX10_hasHeir 43 = .ok (.iconst 0, 1) := by decide +kernel
theorem dX10_hasHeir_44 : decode cX10_hasHeir 44 = .ok (.ireturn, 1) := by decide +kernel
def X10_hasHeir_b9 (u : gM) (k9 : Nat → Int32 → Int64 → Int32 → Int32 → Option Int32) (x0 : Nat) (x1 : Int32) (x2 : Int64) (x4 : Int32) (x5 : Int32) : Option Int32 :=
(if isO skC x0 10 = true then ((aI skC u (rf skC x0 14) x1).bind fun v16 => (if v16 ≤ x5 then some 0
  else ((aJ skC u (rf skC x0 16) (x4 + x5)).bind fun v29 => (if (lg_cmp v29 x2) = 0 then some 1
    else (k9 x0 x1 x2 x4 (x5 + 1))))))
 else none)
def X10_hasHeir_l9 (u : gM)  : Nat → Nat → Int32 → Int64 → Int32 → Int32 → Option Int32
  | 0, _, _, _, _, _ => none
  | n + 1, x0, x1, x2, x4, x5 => X10_hasHeir_b9 u  (X10_hasHeir_l9 u  n) x0 x1 x2 x4 x5
def X10_hasHeir (u : gM)  (x0 : Nat) (x1 : Int32) (x2 : Int64) : Option Int32 :=
(X10_hasHeir_l9 u fz x0 x1 x2 (x1 * 6) 0)
set_option maxRecDepth 20000 in
theorem v_X10_hasHeir_b9 {κ : gK} {B : Nat} {u : gM} (X : gX κ B skC cX10_hasHeir 6 RX10 (some .boolean) 0 0) {k9 : Nat → Int32 → Int64 → Int32 → Int32 → Option Int32} (ih9 : ∀ (x0 : Nat) (x1 : Int32) (x2 : Int64) (x4 : Int32) (x5 : Int32) (w : Int32), k9 x0 x1 x2 x4 x5 = some w → gV κ B skC 6 ((some (.int w)), u) 9 [some (.ref (B + x0)), some (.int x1), some (.long x2), none, some (.int x4), some (.int x5)] [] u) {x0 : Nat} {x1 : Int32} {x2 : Int64} {x4 : Int32} {x5 : Int32} {w : Int32} (hM : X10_hasHeir_b9 u k9 x0 x1 x2 x4 x5 = some w) : gV κ B skC 6 ((some (.int w)), u) 9 [some (.ref (B + x0)), some (.int x1), some (.long x2), none, some (.int x4), some (.int x5)] [] u := by
  unfold X10_hasHeir_b9 at hM
  refine g_iload X dX10_hasHeir_9 rfl ?_
  refine g_aload_n X dX10_hasHeir_11 rfl ?_
  obtain ⟨o0, hM⟩ := ite_of hM
  refine g_getR X fX10_45 (sh_X10 o0) rfl dX10_hasHeir_12 ?_
  refine g_iload_n X dX10_hasHeir_15 rfl ?_
  obtain ⟨v16, e16, hM⟩ := bind_of hM
  refine g_iaload X e16 dX10_hasHeir_16 ?_
  refine g_icmp_ge (tgt := 43) X dX10_hasHeir_17 (by decide) (fun c17 => ?_) (fun c17 => ?_)
  · rw [if_pos c17] at hM
    refine g_iconst X (v := 0) dX10_hasHeir_43 (by decide) ?_
    cases hM
    exact g_zret X (Or.inl rfl) dX10_hasHeir_44
  · rw [if_neg c17] at hM
    refine g_aload_n X dX10_hasHeir_20 rfl ?_
    refine g_getR X fX10_51 (sh_X10 o0) rfl dX10_hasHeir_21 ?_
    refine g_iload X dX10_hasHeir_24 rfl ?_
    refine g_iload X dX10_hasHeir_26 rfl ?_
    refine g_iadd X dX10_hasHeir_28 ?_
    obtain ⟨v29, e29, hM⟩ := bind_of hM
    refine g_laload X e29 dX10_hasHeir_29 ?_
    refine g_lload_n X dX10_hasHeir_30 rfl ?_
    refine g_lcmp X dX10_hasHeir_31 ?_
    refine g_if_ne (tgt := 37) X dX10_hasHeir_32 (by decide) (fun c32 => ?_) (fun c32 => ?_)
    · rw [if_neg c32] at hM
      refine g_iinc (d := 1) X [some (.ref (B + x0)), some (.int x1), some (.long x2), none, some (.int x4), some (.int (x5 + 1))] dX10_hasHeir_37 (by decide) rfl (by decide) rfl ?_
      refine g_goto (tgt := 9) X dX10_hasHeir_40 (by decide) ?_
      refine g_mk [true, true, true, false, true, true] [some (.ref (B + x0)), some (.int x1), some (.long x2), none, some (.int x4), some (.int (x5 + 1))] rfl ?_
      exact ih9 x0 x1 x2 x4 (x5 + 1) _ hM
    · rw [if_pos c32] at hM
      refine g_iconst X (v := 1) dX10_hasHeir_35 (by decide) ?_
      cases hM
      exact g_zret X (Or.inr rfl) dX10_hasHeir_36
theorem v_X10_hasHeir_l9 {κ : gK} {B : Nat} {u : gM} (X : gX κ B skC cX10_hasHeir 6 RX10 (some .boolean) 0 0)   : ∀ (n : Nat) {x0 : Nat} {x1 : Int32} {x2 : Int64} {x4 : Int32} {x5 : Int32} {w : Int32} (hM : X10_hasHeir_l9 u  n x0 x1 x2 x4 x5 = some w), gV κ B skC 6 ((some (.int w)), u) 9 [some (.ref (B + x0)), some (.int x1), some (.long x2), none, some (.int x4), some (.int x5)] [] u := by
  intro n
  induction n with
  | zero => intro x0 x1 x2 x4 x5 w hM; exact nomatch (show (none : Option Int32) = some w from hM)
  | succ n ihn => intro x0 x1 x2 x4 x5 w hM; exact v_X10_hasHeir_b9 X  (fun x0 x1 x2 x4 x5 w h => ihn h) hM
set_option maxRecDepth 20000 in
theorem v_X10_hasHeir {κ : gK} {B : Nat} {u : gM} (X : gX κ B skC cX10_hasHeir 6 RX10 (some .boolean) 0 0)   {x0 : Nat} {x1 : Int32} {x2 : Int64} {w : Int32} (hM : X10_hasHeir u x0 x1 x2 = some w) : gV κ B skC 6 ((some (.int w)), u) 0 [some (.ref (B + x0)), some (.int x1), some (.long x2), none, none, none] [] u := by
  unfold X10_hasHeir at hM
  refine g_iload_n X dX10_hasHeir_0 rfl ?_
  refine g_bipush X (v := 6) dX10_hasHeir_1 (by decide) ?_
  refine g_imul X dX10_hasHeir_3 ?_
  refine g_istore X [some (.ref (B + x0)), some (.int x1), some (.long x2), none, some (.int (x1 * 6)), none] dX10_hasHeir_4 (by decide) rfl ?_
  refine g_iconst X (v := 0) dX10_hasHeir_6 (by decide) ?_
  refine g_istore X [some (.ref (B + x0)), some (.int x1), some (.long x2), none, some (.int (x1 * 6)), some (.int 0)] dX10_hasHeir_7 (by decide) rfl ?_
  refine g_mk [true, true, true, false, true, true] [some (.ref (B + x0)), some (.int x1), some (.long x2), none, some (.int (x1 * 6)), some (.int 0)] rfl ?_
  exact v_X10_hasHeir_l9 X  fz hM
theorem s_X10_hasHeir {x0 : Nat} {x1 : Int32} {x2 : Int64} {u : gM} {w : Int32} (hM : X10_hasHeir u x0 x1 x2 = some w) : gMet skC yX10_hasHeir cX10_hasHeir 6 (some .boolean) 0 0 (fun B adK => [.ref (B + x0), .int x1, .long x2]) u ((fun _ => some (.int w)), u) := by
  refine gMet.of (by decide) (fun _ _ => Nat.le_of_ble_eq_true rfl) (fun κ B X => ?_)
  have X : gX κ B skC cX10_hasHeir 6 RX10 (some .boolean) 0 0 := X
  refine g_mk [true, true, true, false, false, false] [some (.ref (B + x0)), some (.int x1), some (.long x2), none, none, none] rfl ?_
  exact v_X10_hasHeir X  hM

/-! CoverDesk$Told.addHeir(IJ)V -/
theorem dX10_addHeir_0 : decode cX10_addHeir 0 = .ok (.aload_n 0, 1) := by decide +kernel
theorem dX10_addHeir_1 : decode cX10_addHeir 1 = .ok (.getfield 45, 3) := by decide +kernel
theorem dX10_addHeir_4 : decode cX10_addHeir 4 = .ok (.iload_n 1, 1) := by decide +kernel
theorem dX10_addHeir_5 : decode cX10_addHeir 5 = .ok (.iaload, 1) := by decide +kernel
theorem dX10_addHeir_6 : decode cX10_addHeir 6 = .ok (.istore 4, 2) := by decide +kernel
theorem dX10_addHeir_8 : decode cX10_addHeir 8 = .ok (.iload 4, 2) := by decide +kernel
theorem dX10_addHeir_10 : decode cX10_addHeir 10 = .ok (.bipush 6, 2) := by decide +kernel
theorem dX10_addHeir_12 : decode cX10_addHeir 12 = .ok (.if_icmp .ge 26, 3) := by decide +kernel
theorem dX10_addHeir_15 : decode cX10_addHeir 15 = .ok (.aload_n 0, 1) := by decide +kernel
theorem dX10_addHeir_16 : decode cX10_addHeir 16 = .ok (.getfield 51, 3) := by decide +kernel
theorem dX10_addHeir_19 : decode cX10_addHeir 19 = .ok (.iload_n 1, 1) := by decide +kernel
theorem dX10_addHeir_20 : decode cX10_addHeir 20 = .ok (.bipush 6, 2) := by decide +kernel
theorem dX10_addHeir_22 : decode cX10_addHeir 22 = .ok (.imul, 1) := by decide +kernel
theorem dX10_addHeir_23 : decode cX10_addHeir 23 = .ok (.iload 4, 2) := by decide +kernel
theorem dX10_addHeir_25 : decode cX10_addHeir 25 = .ok (.iadd, 1) := by decide +kernel
theorem dX10_addHeir_26 : decode cX10_addHeir 26 = .ok (.lload_n 2, 1) := by decide +kernel
theorem dX10_addHeir_27 : decode cX10_addHeir 27 = .ok (.lastore, 1) := by decide +kernel
theorem dX10_addHeir_28 : decode cX10_addHeir 28 = .ok (.aload_n 0, 1) := by decide +kernel
theorem dX10_addHeir_29 : decode cX10_addHeir 29 = .ok (.getfield 45, 3) := by decide +kernel
theorem dX10_addHeir_32 : decode cX10_addHeir 32 = .ok (.iload_n 1, 1) := by decide +kernel
theorem dX10_addHeir_33 : decode cX10_addHeir 33 = .ok (.iload 4, 2) := by decide +kernel
theorem dX10_addHeir_35 : decode cX10_addHeir 35 = .ok (.iconst 1, 1) := by decide +kernel
theorem dX10_addHeir_36 : decode cX10_addHeir 36 = .ok (.iadd, 1) := by decide +kernel
theorem dX10_addHeir_37 : decode cX10_addHeir 37 = .ok (.iastore, 1) := by decide +kernel
theorem dX10_addHeir_38 : decode cX10_addHeir 38 = .ok (.return_, 1) := by decide +kernel
def X10_addHeir_b38   (u : gM) : Option gM :=
some u
def X10_addHeir  (x0 : Nat) (x1 : Int32) (x2 : Int64) (u : gM) : Option gM :=
(if isO skC x0 10 = true then ((aI skC u (rf skC x0 14) x1).bind fun v5 => (if 6 ≤ v5 then (X10_addHeir_b38 u)
  else ((sJ skC u (rf skC x0 16) ((x1 * 6) + v5) x2).bind fun u27 => ((sI skC u27 (rf skC x0 14) x1 (v5 + 1)).bind fun u37 => (X10_addHeir_b38 u37)))))
 else none)
set_option maxRecDepth 20000 in
theorem v_X10_addHeir_b38 {κ : gK} {B : Nat} {u : gM} (X : gX κ B skC cX10_addHeir 5 RX10 none 0 0)    {w : gM} (hM : X10_addHeir_b38 u = some w) : gV κ B skC 5 ((none), w) 38 [none, none, none, none, none] [] u := by
  unfold X10_addHeir_b38 at hM
  cases hM
  exact g_vret X dX10_addHeir_38
set_option maxRecDepth 20000 in
theorem v_X10_addHeir {κ : gK} {B : Nat} {u : gM} (X : gX κ B skC cX10_addHeir 5 RX10 none 0 0)   {x0 : Nat} {x1 : Int32} {x2 : Int64} {w : gM} (hM : X10_addHeir x0 x1 x2 u = some w) : gV κ B skC 5 ((none), w) 0 [some (.ref (B + x0)), some (.int x1), some (.long x2), none, none] [] u := by
  unfold X10_addHeir at hM
  refine g_aload_n X dX10_addHeir_0 rfl ?_
  obtain ⟨o0, hM⟩ := ite_of hM
  refine g_getR X fX10_45 (sh_X10 o0) rfl dX10_addHeir_1 ?_
  refine g_iload_n X dX10_addHeir_4 rfl ?_
  obtain ⟨v5, e5, hM⟩ := bind_of hM
  refine g_iaload X e5 dX10_addHeir_5 ?_
  refine g_istore X [some (.ref (B + x0)), some (.int x1), some (.long x2), none, some (.int v5)] dX10_addHeir_6 (by decide) rfl ?_
  refine g_iload X dX10_addHeir_8 rfl ?_
  refine g_bipush X (v := 6) dX10_addHeir_10 (by decide) ?_
  refine g_icmp_ge (tgt := 38) X dX10_addHeir_12 (by decide) (fun c12 => ?_) (fun c12 => ?_)
  · rw [if_pos c12] at hM
    refine g_mk [false, false, false, false, false] [none, none, none, none, none] rfl ?_
    exact v_X10_addHeir_b38 X  hM
  · rw [if_neg c12] at hM
    refine g_aload_n X dX10_addHeir_15 rfl ?_
    refine g_getR X fX10_51 (sh_X10 o0) rfl dX10_addHeir_16 ?_
    refine g_iload_n X dX10_addHeir_19 rfl ?_
    refine g_bipush X (v := 6) dX10_addHeir_20 (by decide) ?_
    refine g_imul X dX10_addHeir_22 ?_
    refine g_iload X dX10_addHeir_23 rfl ?_
    refine g_iadd X dX10_addHeir_25 ?_
    refine g_lload_n X dX10_addHeir_26 rfl ?_
    obtain ⟨u27, e27, hM⟩ := bind_of hM
    refine g_lastore X e27 dX10_addHeir_27 ?_
    refine g_aload_n X dX10_addHeir_28 rfl ?_
    refine g_getR X fX10_45 (sh_X10 o0) rfl dX10_addHeir_29 ?_
    refine g_iload_n X dX10_addHeir_32 rfl ?_
    refine g_iload X dX10_addHeir_33 rfl ?_
    refine g_iconst X (v := 1) dX10_addHeir_35 (by decide) ?_
    refine g_iadd X dX10_addHeir_36 ?_
    obtain ⟨u37, e37, hM⟩ := bind_of hM
    refine g_iastore X e37 dX10_addHeir_37 ?_
    refine g_mk [false, false, false, false, false] [none, none, none, none, none] rfl ?_
    exact v_X10_addHeir_b38 X  hM
theorem s_X10_addHeir {x0 : Nat} {x1 : Int32} {x2 : Int64} {u : gM} {w : gM} (hM : X10_addHeir x0 x1 x2 u = some w) : gMet skC yX10_addHeir cX10_addHeir 5 none 0 0 (fun B adK => [.ref (B + x0), .int x1, .long x2]) u ((fun _ => none), w) := by
  refine gMet.of (by decide) (fun _ _ => Nat.le_of_ble_eq_true rfl) (fun κ B X => ?_)
  have X : gX κ B skC cX10_addHeir 5 RX10 none 0 0 := X
  refine g_mk [true, true, true, false, false] [some (.ref (B + x0)), some (.int x1), some (.long x2), none, none] rfl ?_
  exact v_X10_addHeir X  hM
theorem fr_X10_addHeir_b38 {S : Nat → Prop} {u0 u : gM}     {w : gM} (hM : X10_addHeir_b38 u = some w) (h0 : off S u0 u) : off S u0 w := by
  unfold X10_addHeir_b38 at hM
  cases hM
  exact h0
theorem fr_X10_addHeir {S : Nat → Prop} {u0 u : gM} {x0 : Nat} {x1 : Int32} {x2 : Int64} (hs0 : S (rf skC x0 14)) (hs1 : S (rf skC x0 16))   {w : gM} (hM : X10_addHeir x0 x1 x2 u = some w) (h0 : off S u0 u) : off S u0 w := by
  unfold X10_addHeir at hM
  obtain ⟨o0, hM⟩ := ite_of hM
  obtain ⟨v5, e5, hM⟩ := bind_of hM
  by_cases c12 : 6 ≤ v5
  · rw [if_pos c12] at hM
    exact fr_X10_addHeir_b38   hM h0
  · rw [if_neg c12] at hM
    obtain ⟨u27, e27, hM⟩ := bind_of hM
    have h0 := off_sJ hs1 e27 h0
    obtain ⟨u37, e37, hM⟩ := bind_of hM
    have h0 := off_sI hs0 e37 h0
    exact fr_X10_addHeir_b38   hM h0
/-! CoverDesk$BookReader.readHeirs(I)Z -/
theorem dX0_readHeirs_0 : decode cX0_readHeirs 0 = .ok (.iconst 0, 1) := by decide +kernel
theorem dX0_readHeirs_1 : decode cX0_readHeirs 1 = .ok (.istore_n 2, 1) := by decide +kernel
theorem dX0_readHeirs_2 : decode cX0_readHeirs 2 = .ok (.iload_n 2, 1) := by decide +kernel
theorem dX0_readHeirs_3 : decode cX0_readHeirs 3 = .ok (.bipush 6, 2) := by decide +kernel
theorem dX0_readHeirs_5 : decode cX0_readHeirs 5 = .ok (.if_icmp .gt 104, 3) := by decide +kernel
theorem dX0_readHeirs_8 : decode cX0_readHeirs 8 = .ok (.iload_n 2, 1) := by decide +kernel
theorem dX0_readHeirs_9 : decode cX0_readHeirs 9 = .ok (.ifCond .eq 14, 3) := by decide +kernel
theorem dX0_readHeirs_12 : decode cX0_readHeirs 12 = .ok (.aload_n 0, 1) := by decide +kernel
theorem dX0_readHeirs_13 : decode cX0_readHeirs 13 = .ok (.getfield 18, 3) := by decide +kernel
theorem dX0_readHeirs_16 : decode cX0_readHeirs 16 = .ok (.getfield 33, 3) := by decide +kernel
theorem dX0_readHeirs_19 : decode cX0_readHeirs 19 = .ok (.iconst 1, 1) := by decide +kernel
theorem dX0_readHeirs_20 : decode cX0_readHeirs 20 = .ok (.if_icmp .ne 89, 3) := by decide +kernel
theorem dX0_readHeirs_23 : decode cX0_readHeirs 23 = .ok (.aload_n 0, 1) := by decide +kernel
theorem dX0_readHeirs_24 : decode cX0_readHeirs 24 = .ok (.getfield 18, 3) := by decide +kernel
theorem dX0_readHeirs_27 : decode cX0_readHeirs 27 = .ok (.getfield 72, 3) := by decide +kernel
theorem dX0_readHeirs_30 : decode cX0_readHeirs 30 = .ok (.lstore_n 3, 1) := by decide +kernel
theorem dX0_readHeirs_31 : decode cX0_readHeirs 31 = .ok (.aload_n 0, 1) := by decide +kernel
theorem dX0_readHeirs_32 : decode cX0_readHeirs 32 = .ok (.getfield 18, 3) := by decide +kernel
theorem dX0_readHeirs_35 : decode cX0_readHeirs 35 = .ok (.getfield 33, 3) := by decide +kernel
theorem dX0_readHeirs_38 : decode cX0_readHeirs 38 = .ok (.iconst 1, 1) := by decide +kernel
theorem dX0_readHeirs_39 : decode cX0_readHeirs 39 = .ok (.if_icmp .eq 12, 3) := by decide +kernel
theorem dX0_readHeirs_42 : decode cX0_readHeirs 42 = .ok (.aload_n 0, 1) := by decide +kernel
theorem dX0_readHeirs_43 : decode cX0_readHeirs 43 = .ok (.getfield 18, 3) := by decide +kernel
theorem dX0_readHeirs_46 : decode cX0_readHeirs 46 = .ok (.iconst 1, 1) := by decide +kernel
theorem dX0_readHeirs_47 : decode cX0_readHeirs 47 = .ok (.invokevirtual 60, 3) := by decide +kernel
theorem dX0_readHeirs_50 : decode cX0_readHeirs 50 = .ok (.ireturn, 1) := by decide +kernel
theorem dX0_readHeirs_51 : decode cX0_readHeirs 51 = .ok (.aload_n 0, 1) := by decide +kernel
theorem dX0_readHeirs_52 : decode cX0_readHeirs 52 = .ok (.getfield 12, 3) := by decide +kernel
theorem dX0_readHeirs_55 : decode cX0_readHeirs 55 = .ok (.iload_n 1, 1) := by decide +kernel
theorem dX0_readHeirs_56 : decode cX0_readHeirs 56 = .ok (.lload_n 3, 1) := by decide +kernel
theorem dX0_readHeirs_57 : decode cX0_readHeirs 57 = .ok (.invokevirtual 172, 3) := by decide +kernel
theorem dX0_readHeirs_60 : decode cX0_readHeirs 60 = .ok (.ifCond .eq 12, 3) := by decide +kernel
theorem dX0_readHeirs_63 : decode cX0_readHeirs 63 = .ok (.aload_n 0, 1) := by decide +kernel
theorem dX0_readHeirs_64 : decode cX0_readHeirs 64 = .ok (.getfield 18, 3) := by decide +kernel
theorem dX0_readHeirs_67 : decode cX0_readHeirs 67 = .ok (.iconst 3, 1) := by decide +kernel
theorem dX0_readHeirs_68 : decode cX0_readHeirs 68 = .ok (.invokevirtual 60, 3) := by decide +kernel
theorem dX0_readHeirs_71 : decode cX0_readHeirs 71 = .ok (.ireturn, 1) := by decide +kernel
theorem dX0_readHeirs_72 : decode cX0_readHeirs 72 = .ok (.iload_n 2, 1) := by decide +kernel
theorem dX0_readHeirs_73 : decode cX0_readHeirs 73 = .ok (.bipush 6, 2) := by decide +kernel
theorem dX0_readHeirs_75 : decode cX0_readHeirs 75 = .ok (.if_icmp .ne 12, 3) := by decide +kernel
theorem dX0_readHeirs_78 : decode cX0_readHeirs 78 = .ok (.aload_n 0, 1) := by decide +kernel
theorem dX0_readHeirs_79 : decode cX0_readHeirs 79 = .ok (.getfield 18, 3) := by decide +kernel
theorem dX0_readHeirs_82 : decode cX0_readHeirs 82 = .ok (.iconst 5, 1) := by decide +kernel
theorem dX0_readHeirs_83 : decode cX0_readHeirs 83 = .ok (.invokevirtual 60, 3) := by decide +kernel
theorem dX0_readHeirs_86 : decode cX0_readHeirs 86 = .ok (.ireturn, 1) := by decide +kernel
theorem dX0_readHeirs_87 : decode cX0_readHeirs 87 = .ok (.aload_n 0, 1) := by decide +kernel
theorem dX0_readHeirs_88 : decode cX0_readHeirs 88 = .ok (.getfield 12, 3) := by decide +kernel
theorem dX0_readHeirs_91 : decode cX0_readHeirs 91 = .ok (.iload_n 1, 1) := by decide +kernel
theorem dX0_readHeirs_92 : decode cX0_readHeirs 92 = .ok (.lload_n 3, 1) := by decide +kernel
theorem dX0_readHeirs_93 : decode cX0_readHeirs 93 = .ok (.invokevirtual 176, 3) := by decide +kernel
theorem dX0_readHeirs_96 : decode cX0_readHeirs 96 = .ok (.aload_n 0, 1) := by decide +kernel
theorem dX0_readHeirs_97 : decode cX0_readHeirs 97 = .ok (.getfield 18, 3) := by decide +kernel
theorem dX0_readHeirs_100 : decode cX0_readHeirs 100 = .ok (.invokevirtual 66, 3) := by decide +kernel
theorem dX0_readHeirs_103 : decode cX0_readHeirs 103 = .ok (.iinc 2 1, 3) := by decide +kernel
theorem dX0_readHeirs_106 : decode cX0_readHeirs 106 = .ok (.goto (-104), 3) := by decide +kernel
theorem dX0_readHeirs_109 : decode cX0_readHeirs 109 = .ok (.iconst 1, 1) := by decide +kernel
theorem dX0_readHeirs_110 : decode cX0_readHeirs 110 = .ok (.ireturn, 1) := by decide +kernel
def X0_readHeirs_b109   (u : gM) : Option (Int32 × gM) :=
some (1, u)
def X0_readHeirs_b23 (k2 : Int32 → Int32 → gM → Option (Int32 × gM)) (x1 : Int32) (x2 : Int32) (u : gM) : Option (Int32 × gM) :=
(if (u.1 1 3) = 1 then ((X10_hasHeir u 117 x1 (u.2 1 7)).bind fun w57 => (if w57 = 0 then (if x2 = 6 then ((X9_refuse 5 u).bind fun w83 => ((bI w83.1).bind fun v86 => some (v86, w83.2)))
      else ((X10_addHeir 117 x1 (u.2 1 7) u).bind fun w93 => ((X9_step w93).bind fun w100 => (k2 x1 (x2 + 1) w100))))
    else ((X9_refuse 3 u).bind fun w68 => ((bI w68.1).bind fun v71 => some (v71, w68.2)))))
  else ((X9_refuse 1 u).bind fun w47 => ((bI w47.1).bind fun v50 => some (v50, w47.2))))
def X0_readHeirs_b2 (k2 : Int32 → Int32 → gM → Option (Int32 × gM)) (x1 : Int32) (x2 : Int32) (u : gM) : Option (Int32 × gM) :=
(if 6 < x2 then (X0_readHeirs_b109 u)
  else (if x2 = 0 then (X0_readHeirs_b23 k2 x1 x2 u)
    else (if (u.1 1 3) = 1 then (X0_readHeirs_b23 k2 x1 x2 u)
      else (X0_readHeirs_b109 u))))
def X0_readHeirs_l2  : Nat → Int32 → Int32 → gM → Option (Int32 × gM)
  | 0, _, _, _ => none
  | n + 1, x1, x2, u => X0_readHeirs_b2  (X0_readHeirs_l2  n) x1 x2 u
def X0_readHeirs  (x1 : Int32) (u : gM) : Option (Int32 × gM) :=
(X0_readHeirs_l2 fz x1 0 u)
set_option maxRecDepth 20000 in
theorem v_X0_readHeirs_b109 {κ : gK} {B : Nat} {u : gM} (X : gX κ B skC cX0_readHeirs 5 RX0 (some .boolean) 6 145)    {w : (Int32 × gM)} (hM : X0_readHeirs_b109 u = some w) : gV κ B skC 5 ((some (.int w.1)), w.2) 109 [none, none, none, none, none] [] u := by
  unfold X0_readHeirs_b109 at hM
  refine g_iconst X (v := 1) dX0_readHeirs_109 (by decide) ?_
  cases hM
  exact g_zret X (Or.inr rfl) dX0_readHeirs_110
set_option maxRecDepth 20000 in
theorem v_X0_readHeirs_b23 {κ : gK} {B : Nat} {u : gM} (X : gX κ B skC cX0_readHeirs 5 RX0 (some .boolean) 6 145) {k2 : Int32 → Int32 → gM → Option (Int32 × gM)} (ih2 : ∀ (x1 : Int32) (x2 : Int32) (u : gM) (w : (Int32 × gM)), k2 x1 x2 u = some w → gV κ B skC 5 ((some (.int w.1)), w.2) 2 [some (.ref (B + 116)), some (.int x1), some (.int x2), none, none] [] u) {x1 : Int32} {x2 : Int32} {w : (Int32 × gM)} (hM : X0_readHeirs_b23 k2 x1 x2 u = some w) : gV κ B skC 5 ((some (.int w.1)), w.2) 23 [some (.ref (B + 116)), some (.int x1), some (.int x2), none, none] [] u := by
  unfold X0_readHeirs_b23 at hM
  refine g_aload_n X dX0_readHeirs_23 rfl ?_
  refine g_getR X fX0_18 cC_116 rfl dX0_readHeirs_24 ?_
  refine g_getJ X fX0_72 cC_1 rfl dX0_readHeirs_27 ?_
  refine g_lstore_n X [some (.ref (B + 116)), some (.int x1), some (.int x2), some (.long (u.2 1 7)), none] dX0_readHeirs_30 (by decide) rfl ?_
  refine g_aload_n X dX0_readHeirs_31 rfl ?_
  refine g_getR X fX0_18 cC_116 rfl dX0_readHeirs_32 ?_
  refine g_getI X fX0_33 cC_1 rfl dX0_readHeirs_35 ?_
  refine g_iconst X (v := 1) dX0_readHeirs_38 (by decide) ?_
  refine g_icmp_eq (tgt := 51) X dX0_readHeirs_39 (by decide) (fun c39 => ?_) (fun c39 => ?_)
  · rw [if_pos c39] at hM
    refine g_aload_n X dX0_readHeirs_51 rfl ?_
    refine g_getR X fX0_12 cC_116 rfl dX0_readHeirs_52 ?_
    refine g_iload_n X dX0_readHeirs_55 rfl ?_
    refine g_lload_n X dX0_readHeirs_56 rfl ?_
    obtain ⟨w57, e57, hM⟩ := bind_of hM
    refine g_callVi X (fun B adK => [.int x1, .long (u.2 1 7)]) (s_X10_hasHeir e57) cvX0_172 cC_117 rfl rfl (Nat.le_of_ble_eq_true rfl) ⟨by decide, by decide⟩ dX0_readHeirs_57 ?_
    refine g_if_eq (tgt := 72) X dX0_readHeirs_60 (by decide) (fun c60 => ?_) (fun c60 => ?_)
    · rw [if_pos c60] at hM
      refine g_iload_n X dX0_readHeirs_72 rfl ?_
      refine g_bipush X (v := 6) dX0_readHeirs_73 (by decide) ?_
      refine g_icmp_ne (tgt := 87) X dX0_readHeirs_75 (by decide) (fun c75 => ?_) (fun c75 => ?_)
      · rw [if_neg c75] at hM
        refine g_aload_n X dX0_readHeirs_87 rfl ?_
        refine g_getR X fX0_12 cC_116 rfl dX0_readHeirs_88 ?_
        refine g_iload_n X dX0_readHeirs_91 rfl ?_
        refine g_lload_n X dX0_readHeirs_92 rfl ?_
        obtain ⟨w93, e93, hM⟩ := bind_of hM
        refine g_callVv X (fun B adK => [.int x1, .long (u.2 1 7)]) (s_X10_addHeir e93) cvX0_176 cC_117 rfl rfl (Nat.le_of_ble_eq_true rfl) ⟨by decide, by decide⟩ dX0_readHeirs_93 ?_
        refine g_aload_n X dX0_readHeirs_96 rfl ?_
        refine g_getR X fX0_18 cC_116 rfl dX0_readHeirs_97 ?_
        obtain ⟨w100, e100, hM⟩ := bind_of hM
        refine g_callVv X (fun B adK => []) (s_X9_step e100) cvX0_66 cC_1 rfl rfl (Nat.le_of_ble_eq_true rfl) ⟨by decide, by decide⟩ dX0_readHeirs_100 ?_
        refine g_iinc (d := 1) X [some (.ref (B + 116)), some (.int x1), some (.int (x2 + 1)), some (.long (u.2 1 7)), none] dX0_readHeirs_103 (by decide) rfl (by decide) rfl ?_
        refine g_goto (tgt := 2) X dX0_readHeirs_106 (by decide) ?_
        refine g_mk [true, true, true, false, false] [some (.ref (B + 116)), some (.int x1), some (.int (x2 + 1)), none, none] rfl ?_
        exact ih2 x1 (x2 + 1) w100 _ hM
      · rw [if_pos c75] at hM
        refine g_aload_n X dX0_readHeirs_78 rfl ?_
        refine g_getR X fX0_18 cC_116 rfl dX0_readHeirs_79 ?_
        refine g_iconst X (v := 5) dX0_readHeirs_82 (by decide) ?_
        obtain ⟨w83, e83, hM⟩ := bind_of hM
        refine g_callVi X (fun B adK => [.int 5]) (s_X9_refuse e83) cvX0_60 cC_1 rfl rfl (Nat.le_of_ble_eq_true rfl) ⟨by decide, by decide⟩ dX0_readHeirs_83 ?_
        obtain ⟨v86, e86, hM⟩ := bind_of hM
        obtain ⟨hv, rfl⟩ := bI_of e86
        cases hM
        exact g_zret X hv dX0_readHeirs_86
    · rw [if_neg c60] at hM
      refine g_aload_n X dX0_readHeirs_63 rfl ?_
      refine g_getR X fX0_18 cC_116 rfl dX0_readHeirs_64 ?_
      refine g_iconst X (v := 3) dX0_readHeirs_67 (by decide) ?_
      obtain ⟨w68, e68, hM⟩ := bind_of hM
      refine g_callVi X (fun B adK => [.int 3]) (s_X9_refuse e68) cvX0_60 cC_1 rfl rfl (Nat.le_of_ble_eq_true rfl) ⟨by decide, by decide⟩ dX0_readHeirs_68 ?_
      obtain ⟨v71, e71, hM⟩ := bind_of hM
      obtain ⟨hv, rfl⟩ := bI_of e71
      cases hM
      exact g_zret X hv dX0_readHeirs_71
  · rw [if_neg c39] at hM
    refine g_aload_n X dX0_readHeirs_42 rfl ?_
    refine g_getR X fX0_18 cC_116 rfl dX0_readHeirs_43 ?_
    refine g_iconst X (v := 1) dX0_readHeirs_46 (by decide) ?_
    obtain ⟨w47, e47, hM⟩ := bind_of hM
    refine g_callVi X (fun B adK => [.int 1]) (s_X9_refuse e47) cvX0_60 cC_1 rfl rfl (Nat.le_of_ble_eq_true rfl) ⟨by decide, by decide⟩ dX0_readHeirs_47 ?_
    obtain ⟨v50, e50, hM⟩ := bind_of hM
    obtain ⟨hv, rfl⟩ := bI_of e50
    cases hM
    exact g_zret X hv dX0_readHeirs_50
set_option maxRecDepth 20000 in
theorem v_X0_readHeirs_b2 {κ : gK} {B : Nat} {u : gM} (X : gX κ B skC cX0_readHeirs 5 RX0 (some .boolean) 6 145) {k2 : Int32 → Int32 → gM → Option (Int32 × gM)} (ih2 : ∀ (x1 : Int32) (x2 : Int32) (u : gM) (w : (Int32 × gM)), k2 x1 x2 u = some w → gV κ B skC 5 ((some (.int w.1)), w.2) 2 [some (.ref (B + 116)), some (.int x1), some (.int x2), none, none] [] u) {x1 : Int32} {x2 : Int32} {w : (Int32 × gM)} (hM : X0_readHeirs_b2 k2 x1 x2 u = some w) : gV κ B skC 5 ((some (.int w.1)), w.2) 2 [some (.ref (B + 116)), some (.int x1), some (.int x2), none, none] [] u := by
  unfold X0_readHeirs_b2 at hM
  refine g_iload_n X dX0_readHeirs_2 rfl ?_
  refine g_bipush X (v := 6) dX0_readHeirs_3 (by decide) ?_
  refine g_icmp_gt (tgt := 109) X dX0_readHeirs_5 (by decide) (fun c5 => ?_) (fun c5 => ?_)
  · rw [if_pos c5] at hM
    refine g_mk [false, false, false, false, false] [none, none, none, none, none] rfl ?_
    exact v_X0_readHeirs_b109 X  hM
  · rw [if_neg c5] at hM
    refine g_iload_n X dX0_readHeirs_8 rfl ?_
    refine g_if_eq (tgt := 23) X dX0_readHeirs_9 (by decide) (fun c9 => ?_) (fun c9 => ?_)
    · rw [if_pos c9] at hM
      refine g_mk [true, true, true, false, false] [some (.ref (B + 116)), some (.int x1), some (.int x2), none, none] rfl ?_
      exact v_X0_readHeirs_b23 X ih2 hM
    · rw [if_neg c9] at hM
      refine g_aload_n X dX0_readHeirs_12 rfl ?_
      refine g_getR X fX0_18 cC_116 rfl dX0_readHeirs_13 ?_
      refine g_getI X fX0_33 cC_1 rfl dX0_readHeirs_16 ?_
      refine g_iconst X (v := 1) dX0_readHeirs_19 (by decide) ?_
      refine g_icmp_ne (tgt := 109) X dX0_readHeirs_20 (by decide) (fun c20 => ?_) (fun c20 => ?_)
      · rw [if_neg c20] at hM
        refine g_mk [false, false, false, false, false] [none, none, none, none, none] rfl ?_
        exact v_X0_readHeirs_b109 X  hM
      · rw [if_pos c20] at hM
        refine g_mk [true, true, true, false, false] [some (.ref (B + 116)), some (.int x1), some (.int x2), none, none] rfl ?_
        exact v_X0_readHeirs_b23 X ih2 hM
theorem v_X0_readHeirs_l2 {κ : gK} {B : Nat} (X : gX κ B skC cX0_readHeirs 5 RX0 (some .boolean) 6 145)   : ∀ (n : Nat) {x1 : Int32} {x2 : Int32} {u : gM} {w : (Int32 × gM)} (hM : X0_readHeirs_l2  n x1 x2 u = some w), gV κ B skC 5 ((some (.int w.1)), w.2) 2 [some (.ref (B + 116)), some (.int x1), some (.int x2), none, none] [] u := by
  intro n
  induction n with
  | zero => intro x1 x2 u w hM; exact nomatch (show (none : Option (Int32 × gM)) = some w from hM)
  | succ n ihn => intro x1 x2 u w hM; exact v_X0_readHeirs_b2 X  (fun x1 x2 u w h => ihn h) hM
set_option maxRecDepth 20000 in
theorem v_X0_readHeirs {κ : gK} {B : Nat} {u : gM} (X : gX κ B skC cX0_readHeirs 5 RX0 (some .boolean) 6 145)   {x1 : Int32} {w : (Int32 × gM)} (hM : X0_readHeirs x1 u = some w) : gV κ B skC 5 ((some (.int w.1)), w.2) 0 [some (.ref (B + 116)), some (.int x1), none, none, none] [] u := by
  unfold X0_readHeirs at hM
  refine g_iconst X (v := 0) dX0_readHeirs_0 (by decide) ?_
  refine g_istore_n X [some (.ref (B + 116)), some (.int x1), some (.int 0), none, none] dX0_readHeirs_1 (by decide) rfl ?_
  refine g_mk [true, true, true, false, false] [some (.ref (B + 116)), some (.int x1), some (.int 0), none, none] rfl ?_
  exact v_X0_readHeirs_l2 X  fz hM
theorem s_X0_readHeirs {x1 : Int32} {u : gM} {w : (Int32 × gM)} (hM : X0_readHeirs x1 u = some w) : gMet skC yX0_readHeirs cX0_readHeirs 5 (some .boolean) 6 145 (fun B adK => [.ref (B + 116), .int x1]) u ((fun _ => some (.int w.1)), w.2) := by
  refine gMet.of (by decide) (fun _ _ => Nat.le_of_ble_eq_true rfl) (fun κ B X => ?_)
  have X : gX κ B skC cX0_readHeirs 5 RX0 (some .boolean) 6 145 := X
  refine g_mk [true, true, false, false, false] [some (.ref (B + 116)), some (.int x1), none, none, none] rfl ?_
  exact v_X0_readHeirs X  hM
theorem fr_X0_readHeirs_b109 {S : Nat → Prop} {u0 u : gM}     {w : (Int32 × gM)} (hM : X0_readHeirs_b109 u = some w) (h0 : off S u0 u) : off S u0 w.2 := by
  unfold X0_readHeirs_b109 at hM
  cases hM
  exact h0
theorem fr_X0_readHeirs_b23 {S : Nat → Prop} {u0 u : gM} {x1 : Int32} {x2 : Int32} (hs0 : S (rf skC 117 14)) (hs1 : S (rf skC 117 16)) (hs2 : S 1) {k2 : Int32 → Int32 → gM → Option (Int32 × gM)} (ik2 : ∀ (x1 : Int32) (x2 : Int32) (u : gM) (w : (Int32 × gM)), S (rf skC 117 14) → S (rf skC 117 16) → S 1 → off S u0 u → k2 x1 x2 u = some w → off S u0 w.2) {w : (Int32 × gM)} (hM : X0_readHeirs_b23 k2 x1 x2 u = some w) (h0 : off S u0 u) : off S u0 w.2 := by
  unfold X0_readHeirs_b23 at hM
  by_cases c39 : (u.1 1 3) = 1
  · rw [if_pos c39] at hM
    obtain ⟨w57, e57, hM⟩ := bind_of hM
    by_cases c60 : w57 = 0
    · rw [if_pos c60] at hM
      by_cases c75 : x2 = 6
      · rw [if_pos c75] at hM
        obtain ⟨w83, e83, hM⟩ := bind_of hM
        have h0 := fr_X9_refuse hs2 e83 h0
        obtain ⟨v86, e86, hM⟩ := bind_of hM
        cases hM
        exact h0
      · rw [if_neg c75] at hM
        obtain ⟨w93, e93, hM⟩ := bind_of hM
        have h0 := fr_X10_addHeir hs0 hs1 e93 h0
        obtain ⟨w100, e100, hM⟩ := bind_of hM
        have h0 := fr_X9_step hs2 e100 h0
        exact ik2 _ _ _ _ hs0 hs1 hs2 h0 hM
    · rw [if_neg c60] at hM
      obtain ⟨w68, e68, hM⟩ := bind_of hM
      have h0 := fr_X9_refuse hs2 e68 h0
      obtain ⟨v71, e71, hM⟩ := bind_of hM
      cases hM
      exact h0
  · rw [if_neg c39] at hM
    obtain ⟨w47, e47, hM⟩ := bind_of hM
    have h0 := fr_X9_refuse hs2 e47 h0
    obtain ⟨v50, e50, hM⟩ := bind_of hM
    cases hM
    exact h0
theorem fr_X0_readHeirs_b2 {S : Nat → Prop} {u0 u : gM} {x1 : Int32} {x2 : Int32} (hs0 : S (rf skC 117 14)) (hs1 : S (rf skC 117 16)) (hs2 : S 1) {k2 : Int32 → Int32 → gM → Option (Int32 × gM)} (ik2 : ∀ (x1 : Int32) (x2 : Int32) (u : gM) (w : (Int32 × gM)), S (rf skC 117 14) → S (rf skC 117 16) → S 1 → off S u0 u → k2 x1 x2 u = some w → off S u0 w.2) {w : (Int32 × gM)} (hM : X0_readHeirs_b2 k2 x1 x2 u = some w) (h0 : off S u0 u) : off S u0 w.2 := by
  unfold X0_readHeirs_b2 at hM
  by_cases c5 : 6 < x2
  · rw [if_pos c5] at hM
    exact fr_X0_readHeirs_b109   hM h0
  · rw [if_neg c5] at hM
    by_cases c9 : x2 = 0
    · rw [if_pos c9] at hM
      exact fr_X0_readHeirs_b23 hs0 hs1 hs2 ik2 hM h0
    · rw [if_neg c9] at hM
      by_cases c20 : (u.1 1 3) = 1
      · rw [if_pos c20] at hM
        exact fr_X0_readHeirs_b23 hs0 hs1 hs2 ik2 hM h0
      · rw [if_neg c20] at hM
        exact fr_X0_readHeirs_b109   hM h0
theorem fr_X0_readHeirs_l2 {S : Nat → Prop} {u0 : gM}   : ∀ (n : Nat) {x1 : Int32} {x2 : Int32} (hs0 : S (rf skC 117 14)) (hs1 : S (rf skC 117 16)) (hs2 : S 1) {u : gM} {w : (Int32 × gM)} (h0 : off S u0 u) (hM : X0_readHeirs_l2  n x1 x2 u = some w), off S u0 w.2 := by
  intro n
  induction n with
  | zero => intro x1 x2 hs0 hs1 hs2 u w h0 hM; exact nomatch (show (none : Option (Int32 × gM)) = some w from hM)
  | succ n ihn => intro x1 x2 hs0 hs1 hs2 u w h0 hM; exact fr_X0_readHeirs_b2 hs0 hs1 hs2  (fun x1 x2 _ _ hs0 hs1 hs2 h0 h => ihn hs0 hs1 hs2 h0 h) hM h0
theorem fr_X0_readHeirs {S : Nat → Prop} {u0 u : gM} {x1 : Int32} (hs0 : S (rf skC 117 14)) (hs1 : S (rf skC 117 16)) (hs2 : S 1)   {w : (Int32 × gM)} (hM : X0_readHeirs x1 u = some w) (h0 : off S u0 u) : off S u0 w.2 := by
  unfold X0_readHeirs at hM
  exact fr_X0_readHeirs_l2  fz hs0 hs1 hs2 h0 hM
/-! CoverDesk$Tape.passNumber(II)Z -/
theorem dX9_passNumber_0 : decode cX9_passNumber 0 = .ok (.aload_n 0, 1) := by decide +kernel
theorem dX9_passNumber_1 : decode cX9_passNumber 1 = .ok (.getfield 48, 3) := by decide +kernel
theorem dX9_passNumber_4 : decode cX9_passNumber 4 = .ok (.iconst 3, 1) := by decide +kernel
theorem dX9_passNumber_5 : decode cX9_passNumber 5 = .ok (.if_icmp .eq 9, 3) := by decide +kernel
theorem dX9_passNumber_8 : decode cX9_passNumber 8 = .ok (.aload_n 0, 1) := by decide +kernel
theorem dX9_passNumber_9 : decode cX9_passNumber 9 = .ok (.iconst 1, 1) := by decide +kernel
theorem dX9_passNumber_10 : decode cX9_passNumber 10 = .ok (.invokevirtual 79, 3) := by decide +kernel
theorem dX9_passNumber_13 : decode cX9_passNumber 13 = .ok (.ireturn, 1) := by decide +kernel
theorem dX9_passNumber_14 : decode cX9_passNumber 14 = .ok (.aload_n 0, 1) := by decide +kernel
theorem dX9_passNumber_15 : decode cX9_passNumber 15 = .ok (.getfield 45, 3) := by decide +kernel
theorem dX9_passNumber_18 : decode cX9_passNumber 18 = .ok (.iload_n 1, 1) := by decide +kernel
theorem dX9_passNumber_19 : decode cX9_passNumber 19 = .ok (.if_icmp .lt 11, 3) := by decide +kernel
theorem dX9_passNumber_22 : decode cX9_passNumber 22 = .ok (.aload_n 0, 1) := by decide +kernel
theorem dX9_passNumber_23 : decode cX9_passNumber 23 = .ok (.getfield 45, 3) := by decide +kernel
theorem dX9_passNumber_26 : decode cX9_passNumber 26 = .ok (.iload_n 2, 1) := by decide +kernel
theorem dX9_passNumber_27 : decode cX9_passNumber 27 = .ok (.if_icmp .le 9, 3) := by decide +kernel
theorem dX9_passNumber_30 : decode cX9_passNumber 30 = .ok (.aload_n 0, 1) := by decide +kernel
theorem dX9_passNumber_31 : decode cX9_passNumber 31 = .ok (.iconst 4, 1) := by decide +kernel
theorem dX9_passNumber_32 : decode cX9_passNumber 32 = .ok (.invokevirtual 79, 3) := by decide +kernel
theorem dX9_passNumber_35 : decode cX9_passNumber 35 = .ok (.ireturn, 1) := by decide +kernel
theorem dX9_passNumber_36 : decode cX9_passNumber 36 = .ok (.aload_n 0, 1) := by decide +kernel
theorem dX9_passNumber_37 : decode cX9_passNumber 37 = .ok (.aload_n 0, 1) := by decide +kernel
theorem dX9_passNumber_38 : decode cX9_passNumber 38 = .ok (.getfield 45, 3) := by decide +kernel
theorem dX9_passNumber_41 : decode cX9_passNumber 41 = .ok (.putfield 83, 3) := by decide +kernel
theorem dX9_passNumber_44 : decode cX9_passNumber 44 = .ok (.aload_n 0, 1) := by decide +kernel
theorem dX9_passNumber_45 : decode cX9_passNumber 45 = .ok (.invokevirtual 28, 3) := by decide +kernel
theorem dX9_passNumber_48 : decode cX9_passNumber 48 = .ok (.iconst 1, 1) := by decide +kernel
theorem dX9_passNumber_49 : decode cX9_passNumber 49 = .ok (.ireturn, 1) := by decide +kernel
def X9_passNumber_b30   (u : gM) : Option (Int32 × gM) :=
((X9_refuse 4 u).bind fun w32 => ((bI w32.1).bind fun v35 => some (v35, w32.2)))
def X9_passNumber  (x1 : Int32) (x2 : Int32) (u : gM) : Option (Int32 × gM) :=
(if (u.1 1 3) = 3 then (if (u.1 1 5) < x1 then (X9_passNumber_b30 u)
    else (if (u.1 1 5) ≤ x2 then ((X9_step (upI u 1 6 (u.1 1 5))).bind fun w45 => some (1, w45))
      else (X9_passNumber_b30 u)))
  else ((X9_refuse 1 u).bind fun w10 => ((bI w10.1).bind fun v13 => some (v13, w10.2))))
set_option maxRecDepth 20000 in
theorem v_X9_passNumber_b30 {κ : gK} {B : Nat} {u : gM} (X : gX κ B skC cX9_passNumber 3 RX9 (some .boolean) 6 145)    {w : (Int32 × gM)} (hM : X9_passNumber_b30 u = some w) : gV κ B skC 3 ((some (.int w.1)), w.2) 30 [some (.ref (B + 1)), none, none] [] u := by
  unfold X9_passNumber_b30 at hM
  refine g_aload_n X dX9_passNumber_30 rfl ?_
  refine g_iconst X (v := 4) dX9_passNumber_31 (by decide) ?_
  obtain ⟨w32, e32, hM⟩ := bind_of hM
  refine g_callVi X (fun B adK => [.int 4]) (s_X9_refuse e32) cvX9_79 cC_1 rfl rfl (Nat.le_of_ble_eq_true rfl) ⟨by decide, by decide⟩ dX9_passNumber_32 ?_
  obtain ⟨v35, e35, hM⟩ := bind_of hM
  obtain ⟨hv, rfl⟩ := bI_of e35
  cases hM
  exact g_zret X hv dX9_passNumber_35
set_option maxRecDepth 20000 in
theorem v_X9_passNumber {κ : gK} {B : Nat} {u : gM} (X : gX κ B skC cX9_passNumber 3 RX9 (some .boolean) 6 145)   {x1 : Int32} {x2 : Int32} {w : (Int32 × gM)} (hM : X9_passNumber x1 x2 u = some w) : gV κ B skC 3 ((some (.int w.1)), w.2) 0 [some (.ref (B + 1)), some (.int x1), some (.int x2)] [] u := by
  unfold X9_passNumber at hM
  refine g_aload_n X dX9_passNumber_0 rfl ?_
  refine g_getI X fX9_48 cC_1 rfl dX9_passNumber_1 ?_
  refine g_iconst X (v := 3) dX9_passNumber_4 (by decide) ?_
  refine g_icmp_eq (tgt := 14) X dX9_passNumber_5 (by decide) (fun c5 => ?_) (fun c5 => ?_)
  · rw [if_pos c5] at hM
    refine g_aload_n X dX9_passNumber_14 rfl ?_
    refine g_getI X fX9_45 cC_1 rfl dX9_passNumber_15 ?_
    refine g_iload_n X dX9_passNumber_18 rfl ?_
    refine g_icmp_lt (tgt := 30) X dX9_passNumber_19 (by decide) (fun c19 => ?_) (fun c19 => ?_)
    · rw [if_pos c19] at hM
      refine g_mk [true, false, false] [some (.ref (B + 1)), none, none] rfl ?_
      exact v_X9_passNumber_b30 X  hM
    · rw [if_neg c19] at hM
      refine g_aload_n X dX9_passNumber_22 rfl ?_
      refine g_getI X fX9_45 cC_1 rfl dX9_passNumber_23 ?_
      refine g_iload_n X dX9_passNumber_26 rfl ?_
      refine g_icmp_le (tgt := 36) X dX9_passNumber_27 (by decide) (fun c27 => ?_) (fun c27 => ?_)
      · rw [if_pos c27] at hM
        refine g_aload_n X dX9_passNumber_36 rfl ?_
        refine g_aload_n X dX9_passNumber_37 rfl ?_
        refine g_getI X fX9_45 cC_1 rfl dX9_passNumber_38 ?_
        refine g_putI X fX9_83 gc_X9 gp_X9_6 cC_1 rfl dX9_passNumber_41 ?_
        refine g_aload_n X dX9_passNumber_44 rfl ?_
        obtain ⟨w45, e45, hM⟩ := bind_of hM
        refine g_callVv X (fun B adK => []) (s_X9_step e45) cvX9_28 cC_1 rfl rfl (Nat.le_of_ble_eq_true rfl) ⟨by decide, by decide⟩ dX9_passNumber_45 ?_
        refine g_iconst X (v := 1) dX9_passNumber_48 (by decide) ?_
        cases hM
        exact g_zret X (Or.inr rfl) dX9_passNumber_49
      · rw [if_neg c27] at hM
        refine g_mk [true, false, false] [some (.ref (B + 1)), none, none] rfl ?_
        exact v_X9_passNumber_b30 X  hM
  · rw [if_neg c5] at hM
    refine g_aload_n X dX9_passNumber_8 rfl ?_
    refine g_iconst X (v := 1) dX9_passNumber_9 (by decide) ?_
    obtain ⟨w10, e10, hM⟩ := bind_of hM
    refine g_callVi X (fun B adK => [.int 1]) (s_X9_refuse e10) cvX9_79 cC_1 rfl rfl (Nat.le_of_ble_eq_true rfl) ⟨by decide, by decide⟩ dX9_passNumber_10 ?_
    obtain ⟨v13, e13, hM⟩ := bind_of hM
    obtain ⟨hv, rfl⟩ := bI_of e13
    cases hM
    exact g_zret X hv dX9_passNumber_13
theorem s_X9_passNumber {x1 : Int32} {x2 : Int32} {u : gM} {w : (Int32 × gM)} (hM : X9_passNumber x1 x2 u = some w) : gMet skC yX9_passNumber cX9_passNumber 3 (some .boolean) 6 145 (fun B adK => [.ref (B + 1), .int x1, .int x2]) u ((fun _ => some (.int w.1)), w.2) := by
  refine gMet.of (by decide) (fun _ _ => Nat.le_of_ble_eq_true rfl) (fun κ B X => ?_)
  have X : gX κ B skC cX9_passNumber 3 RX9 (some .boolean) 6 145 := X
  refine g_mk [true, true, true] [some (.ref (B + 1)), some (.int x1), some (.int x2)] rfl ?_
  exact v_X9_passNumber X  hM
theorem fr_X9_passNumber_b30 {S : Nat → Prop} {u0 u : gM}  (hs0 : S 1)   {w : (Int32 × gM)} (hM : X9_passNumber_b30 u = some w) (h0 : off S u0 u) : off S u0 w.2 := by
  unfold X9_passNumber_b30 at hM
  obtain ⟨w32, e32, hM⟩ := bind_of hM
  have h0 := fr_X9_refuse hs0 e32 h0
  obtain ⟨v35, e35, hM⟩ := bind_of hM
  cases hM
  exact h0
theorem fr_X9_passNumber {S : Nat → Prop} {u0 u : gM} {x1 : Int32} {x2 : Int32} (hs0 : S 1)   {w : (Int32 × gM)} (hM : X9_passNumber x1 x2 u = some w) (h0 : off S u0 u) : off S u0 w.2 := by
  unfold X9_passNumber at hM
  by_cases c5 : (u.1 1 3) = 3
  · rw [if_pos c5] at hM
    by_cases c19 : (u.1 1 5) < x1
    · rw [if_pos c19] at hM
      exact fr_X9_passNumber_b30 hs0  hM h0
    · rw [if_neg c19] at hM
      by_cases c27 : (u.1 1 5) ≤ x2
      · rw [if_pos c27] at hM
        have h0 := off_upI (u := u) (k := 1) (j := 6) (x := (u.1 1 5)) hs0 h0
        obtain ⟨w45, e45, hM⟩ := bind_of hM
        have h0 := fr_X9_step hs0 e45 h0
        cases hM
        exact h0
      · rw [if_neg c27] at hM
        exact fr_X9_passNumber_b30 hs0  hM h0
  · rw [if_neg c5] at hM
    obtain ⟨w10, e10, hM⟩ := bind_of hM
    have h0 := fr_X9_refuse hs0 e10 h0
    obtain ⟨v13, e13, hM⟩ := bind_of hM
    cases hM
    exact h0
/-! CoverDesk$BookReader.readCoins(II)Z -/
theorem dX0_readCoins_0 : decode cX0_readCoins 0 = .ok (.iload_n 2, 1) := by decide +kernel
theorem dX0_readCoins_1 : decode cX0_readCoins 1 = .ok (.iconst 1, 1) := by decide +kernel
theorem dX0_readCoins_2 : decode cX0_readCoins 2 = .ok (.if_icmp .ne 20, 3) := by decide +kernel
theorem dX0_readCoins_5 : decode cX0_readCoins 5 = .ok (.aload_n 0, 1) := by decide +kernel
theorem dX0_readCoins_6 : decode cX0_readCoins 6 = .ok (.getfield 12, 3) := by decide +kernel
theorem dX0_readCoins_9 : decode cX0_readCoins 9 = .ok (.getfield 161, 3) := by decide +kernel
theorem dX0_readCoins_12 : decode cX0_readCoins 12 = .ok (.iload_n 1, 1) := by decide +kernel
theorem dX0_readCoins_13 : decode cX0_readCoins 13 = .ok (.iaload, 1) := by decide +kernel
theorem dX0_readCoins_14 : decode cX0_readCoins 14 = .ok (.iconst 2, 1) := by decide +kernel
theorem dX0_readCoins_15 : decode cX0_readCoins 15 = .ok (.if_icmp .ge 7, 3) := by decide +kernel
theorem dX0_readCoins_18 : decode cX0_readCoins 18 = .ok (.iconst 1, 1) := by decide +kernel
theorem dX0_readCoins_19 : decode cX0_readCoins 19 = .ok (.goto 4, 3) := by decide +kernel
theorem dX0_readCoins_22 : decode cX0_readCoins 22 = .ok (.iconst 0, 1) := by decide +kernel
theorem dX0_readCoins_23 : decode cX0_readCoins 23 = .ok (.istore_n 3, 1) := by decide +kernel
theorem dX0_readCoins_24 : decode cX0_readCoins 24 = .ok (.iload_n 3, 1) := by decide +kernel
theorem dX0_readCoins_25 : decode cX0_readCoins 25 = .ok (.ifCond .eq 36, 3) := by decide +kernel
theorem dX0_readCoins_28 : decode cX0_readCoins 28 = .ok (.aload_n 0, 1) := by decide +kernel
theorem dX0_readCoins_29 : decode cX0_readCoins 29 = .ok (.getfield 18, 3) := by decide +kernel
theorem dX0_readCoins_32 : decode cX0_readCoins 32 = .ok (.getfield 33, 3) := by decide +kernel
theorem dX0_readCoins_35 : decode cX0_readCoins 35 = .ok (.iconst 3, 1) := by decide +kernel
theorem dX0_readCoins_36 : decode cX0_readCoins 36 = .ok (.if_icmp .ne 25, 3) := by decide +kernel
theorem dX0_readCoins_39 : decode cX0_readCoins 39 = .ok (.aload_n 0, 1) := by decide +kernel
theorem dX0_readCoins_40 : decode cX0_readCoins 40 = .ok (.getfield 18, 3) := by decide +kernel
theorem dX0_readCoins_43 : decode cX0_readCoins 43 = .ok (.getfield 180, 3) := by decide +kernel
theorem dX0_readCoins_46 : decode cX0_readCoins 46 = .ok (.ldc 94, 2) := by decide +kernel
theorem dX0_readCoins_48 : decode cX0_readCoins 48 = .ok (.if_icmp .gt 13, 3) := by decide +kernel
theorem dX0_readCoins_51 : decode cX0_readCoins 51 = .ok (.aload_n 0, 1) := by decide +kernel
theorem dX0_readCoins_52 : decode cX0_readCoins 52 = .ok (.getfield 18, 3) := by decide +kernel
theorem dX0_readCoins_55 : decode cX0_readCoins 55 = .ok (.bipush 6, 2) := by decide +kernel
theorem dX0_readCoins_57 : decode cX0_readCoins 57 = .ok (.invokevirtual 60, 3) := by decide +kernel
theorem dX0_readCoins_60 : decode cX0_readCoins 60 = .ok (.ireturn, 1) := by decide +kernel
theorem dX0_readCoins_61 : decode cX0_readCoins 61 = .ok (.aload_n 0, 1) := by decide +kernel
theorem dX0_readCoins_62 : decode cX0_readCoins 62 = .ok (.getfield 18, 3) := by decide +kernel
theorem dX0_readCoins_65 : decode cX0_readCoins 65 = .ok (.iconst 0, 1) := by decide +kernel
theorem dX0_readCoins_66 : decode cX0_readCoins 66 = .ok (.ldc 94, 2) := by decide +kernel
theorem dX0_readCoins_68 : decode cX0_readCoins 68 = .ok (.invokevirtual 95, 3) := by decide +kernel
theorem dX0_readCoins_71 : decode cX0_readCoins 71 = .ok (.ifCond .ne 5, 3) := by decide +kernel
theorem dX0_readCoins_74 : decode cX0_readCoins 74 = .ok (.iconst 0, 1) := by decide +kernel
theorem dX0_readCoins_75 : decode cX0_readCoins 75 = .ok (.ireturn, 1) := by decide +kernel
theorem dX0_readCoins_76 : decode cX0_readCoins 76 = .ok (.aload_n 0, 1) := by decide +kernel
theorem dX0_readCoins_77 : decode cX0_readCoins 77 = .ok (.getfield 12, 3) := by decide +kernel
theorem dX0_readCoins_80 : decode cX0_readCoins 80 = .ok (.getfield 183, 3) := by decide +kernel
theorem dX0_readCoins_83 : decode cX0_readCoins 83 = .ok (.iload_n 1, 1) := by decide +kernel
theorem dX0_readCoins_84 : decode cX0_readCoins 84 = .ok (.aload_n 0, 1) := by decide +kernel
theorem dX0_readCoins_85 : decode cX0_readCoins 85 = .ok (.getfield 18, 3) := by decide +kernel
theorem dX0_readCoins_88 : decode cX0_readCoins 88 = .ok (.getfield 99, 3) := by decide +kernel
theorem dX0_readCoins_91 : decode cX0_readCoins 91 = .ok (.iastore, 1) := by decide +kernel
theorem dX0_readCoins_92 : decode cX0_readCoins 92 = .ok (.iconst 1, 1) := by decide +kernel
theorem dX0_readCoins_93 : decode cX0_readCoins 93 = .ok (.ireturn, 1) := by decide +kernel
def X0_readCoins_b61  (x1 : Int32) (u : gM) : Option (Int32 × gM) :=
((X9_passNumber 0 100000000 u).bind fun w68 => (if w68.1 = 0 then some (0, w68.2)
  else ((sI skC w68.2 123 x1 (w68.2.1 1 6)).bind fun u91 => some (1, u91))))
def X0_readCoins_b23  (x1 : Int32) (s0 : Int32) (u : gM) : Option (Int32 × gM) :=
(if s0 = 0 then (X0_readCoins_b61 x1 u)
  else (if (u.1 1 3) = 3 then (if 100000000 < (u.1 1 5) then (X0_readCoins_b61 x1 u)
      else ((X9_refuse 6 u).bind fun w57 => ((bI w57.1).bind fun v60 => some (v60, w57.2))))
    else (X0_readCoins_b61 x1 u)))
def X0_readCoins_b22  (x1 : Int32) (u : gM) : Option (Int32 × gM) :=
(X0_readCoins_b23 x1 0 u)
def X0_readCoins  (x1 : Int32) (x2 : Int32) (u : gM) : Option (Int32 × gM) :=
(if x2 = 1 then ((aI skC u 125 x1).bind fun v13 => (if 2 ≤ v13 then (X0_readCoins_b22 x1 u)
    else (X0_readCoins_b23 x1 1 u)))
  else (X0_readCoins_b22 x1 u))
set_option maxRecDepth 20000 in
theorem v_X0_readCoins_b61 {κ : gK} {B : Nat} {u : gM} (X : gX κ B skC cX0_readCoins 4 RX0 (some .boolean) 7 167)   {x1 : Int32} {w : (Int32 × gM)} (hM : X0_readCoins_b61 x1 u = some w) : gV κ B skC 4 ((some (.int w.1)), w.2) 61 [some (.ref (B + 116)), some (.int x1), none, none] [] u := by
  unfold X0_readCoins_b61 at hM
  refine g_aload_n X dX0_readCoins_61 rfl ?_
  refine g_getR X fX0_18 cC_116 rfl dX0_readCoins_62 ?_
  refine g_iconst X (v := 0) dX0_readCoins_65 (by decide) ?_
  refine g_ldc (v := 100000000) X m_19_16 dX0_readCoins_66 ?_
  obtain ⟨w68, e68, hM⟩ := bind_of hM
  refine g_callVi X (fun B adK => [.int 0, .int 100000000]) (s_X9_passNumber e68) cvX0_95 cC_1 rfl rfl (Nat.le_of_ble_eq_true rfl) ⟨by decide, by decide⟩ dX0_readCoins_68 ?_
  refine g_if_ne (tgt := 76) X dX0_readCoins_71 (by decide) (fun c71 => ?_) (fun c71 => ?_)
  · rw [if_neg c71] at hM
    refine g_aload_n X dX0_readCoins_76 rfl ?_
    refine g_getR X fX0_12 cC_116 rfl dX0_readCoins_77 ?_
    refine g_getR X fX0_183 cC_117 rfl dX0_readCoins_80 ?_
    refine g_iload_n X dX0_readCoins_83 rfl ?_
    refine g_aload_n X dX0_readCoins_84 rfl ?_
    refine g_getR X fX0_18 cC_116 rfl dX0_readCoins_85 ?_
    refine g_getI X fX0_99 cC_1 rfl dX0_readCoins_88 ?_
    obtain ⟨u91, e91, hM⟩ := bind_of hM
    refine g_iastore X e91 dX0_readCoins_91 ?_
    refine g_iconst X (v := 1) dX0_readCoins_92 (by decide) ?_
    cases hM
    exact g_zret X (Or.inr rfl) dX0_readCoins_93
  · rw [if_pos c71] at hM
    refine g_iconst X (v := 0) dX0_readCoins_74 (by decide) ?_
    cases hM
    exact g_zret X (Or.inl rfl) dX0_readCoins_75
set_option maxRecDepth 20000 in
theorem v_X0_readCoins_b23 {κ : gK} {B : Nat} {u : gM} (X : gX κ B skC cX0_readCoins 4 RX0 (some .boolean) 7 167)   {x1 : Int32} {s0 : Int32} {w : (Int32 × gM)} (hM : X0_readCoins_b23 x1 s0 u = some w) : gV κ B skC 4 ((some (.int w.1)), w.2) 23 [some (.ref (B + 116)), some (.int x1), none, none] [.int s0] u := by
  unfold X0_readCoins_b23 at hM
  refine g_istore_n X [some (.ref (B + 116)), some (.int x1), none, some (.int s0)] dX0_readCoins_23 (by decide) rfl ?_
  refine g_iload_n X dX0_readCoins_24 rfl ?_
  refine g_if_eq (tgt := 61) X dX0_readCoins_25 (by decide) (fun c25 => ?_) (fun c25 => ?_)
  · rw [if_pos c25] at hM
    refine g_mk [true, true, false, false] [some (.ref (B + 116)), some (.int x1), none, none] rfl ?_
    exact v_X0_readCoins_b61 X  hM
  · rw [if_neg c25] at hM
    refine g_aload_n X dX0_readCoins_28 rfl ?_
    refine g_getR X fX0_18 cC_116 rfl dX0_readCoins_29 ?_
    refine g_getI X fX0_33 cC_1 rfl dX0_readCoins_32 ?_
    refine g_iconst X (v := 3) dX0_readCoins_35 (by decide) ?_
    refine g_icmp_ne (tgt := 61) X dX0_readCoins_36 (by decide) (fun c36 => ?_) (fun c36 => ?_)
    · rw [if_neg c36] at hM
      refine g_mk [true, true, false, false] [some (.ref (B + 116)), some (.int x1), none, none] rfl ?_
      exact v_X0_readCoins_b61 X  hM
    · rw [if_pos c36] at hM
      refine g_aload_n X dX0_readCoins_39 rfl ?_
      refine g_getR X fX0_18 cC_116 rfl dX0_readCoins_40 ?_
      refine g_getI X fX0_180 cC_1 rfl dX0_readCoins_43 ?_
      refine g_ldc (v := 100000000) X m_19_16 dX0_readCoins_46 ?_
      refine g_icmp_gt (tgt := 61) X dX0_readCoins_48 (by decide) (fun c48 => ?_) (fun c48 => ?_)
      · rw [if_pos c48] at hM
        refine g_mk [true, true, false, false] [some (.ref (B + 116)), some (.int x1), none, none] rfl ?_
        exact v_X0_readCoins_b61 X  hM
      · rw [if_neg c48] at hM
        refine g_aload_n X dX0_readCoins_51 rfl ?_
        refine g_getR X fX0_18 cC_116 rfl dX0_readCoins_52 ?_
        refine g_bipush X (v := 6) dX0_readCoins_55 (by decide) ?_
        obtain ⟨w57, e57, hM⟩ := bind_of hM
        refine g_callVi X (fun B adK => [.int 6]) (s_X9_refuse e57) cvX0_60 cC_1 rfl rfl (Nat.le_of_ble_eq_true rfl) ⟨by decide, by decide⟩ dX0_readCoins_57 ?_
        obtain ⟨v60, e60, hM⟩ := bind_of hM
        obtain ⟨hv, rfl⟩ := bI_of e60
        cases hM
        exact g_zret X hv dX0_readCoins_60
set_option maxRecDepth 20000 in
theorem v_X0_readCoins_b22 {κ : gK} {B : Nat} {u : gM} (X : gX κ B skC cX0_readCoins 4 RX0 (some .boolean) 7 167)   {x1 : Int32} {w : (Int32 × gM)} (hM : X0_readCoins_b22 x1 u = some w) : gV κ B skC 4 ((some (.int w.1)), w.2) 22 [some (.ref (B + 116)), some (.int x1), none, none] [] u := by
  unfold X0_readCoins_b22 at hM
  refine g_iconst X (v := 0) dX0_readCoins_22 (by decide) ?_
  refine g_mk [true, true, false, false] [some (.ref (B + 116)), some (.int x1), none, none] rfl ?_
  exact v_X0_readCoins_b23 X  hM
set_option maxRecDepth 20000 in
theorem v_X0_readCoins {κ : gK} {B : Nat} {u : gM} (X : gX κ B skC cX0_readCoins 4 RX0 (some .boolean) 7 167)   {x1 : Int32} {x2 : Int32} {w : (Int32 × gM)} (hM : X0_readCoins x1 x2 u = some w) : gV κ B skC 4 ((some (.int w.1)), w.2) 0 [some (.ref (B + 116)), some (.int x1), some (.int x2), none] [] u := by
  unfold X0_readCoins at hM
  refine g_iload_n X dX0_readCoins_0 rfl ?_
  refine g_iconst X (v := 1) dX0_readCoins_1 (by decide) ?_
  refine g_icmp_ne (tgt := 22) X dX0_readCoins_2 (by decide) (fun c2 => ?_) (fun c2 => ?_)
  · rw [if_neg c2] at hM
    refine g_mk [true, true, false, false] [some (.ref (B + 116)), some (.int x1), none, none] rfl ?_
    exact v_X0_readCoins_b22 X  hM
  · rw [if_pos c2] at hM
    refine g_aload_n X dX0_readCoins_5 rfl ?_
    refine g_getR X fX0_12 cC_116 rfl dX0_readCoins_6 ?_
    refine g_getR X fX0_161 cC_117 rfl dX0_readCoins_9 ?_
    refine g_iload_n X dX0_readCoins_12 rfl ?_
    obtain ⟨v13, e13, hM⟩ := bind_of hM
    refine g_iaload X e13 dX0_readCoins_13 ?_
    refine g_iconst X (v := 2) dX0_readCoins_14 (by decide) ?_
    refine g_icmp_ge (tgt := 22) X dX0_readCoins_15 (by decide) (fun c15 => ?_) (fun c15 => ?_)
    · rw [if_pos c15] at hM
      refine g_mk [true, true, false, false] [some (.ref (B + 116)), some (.int x1), none, none] rfl ?_
      exact v_X0_readCoins_b22 X  hM
    · rw [if_neg c15] at hM
      refine g_iconst X (v := 1) dX0_readCoins_18 (by decide) ?_
      refine g_goto (tgt := 23) X dX0_readCoins_19 (by decide) ?_
      refine g_mk [true, true, false, false] [some (.ref (B + 116)), some (.int x1), none, none] rfl ?_
      exact v_X0_readCoins_b23 X  hM
theorem s_X0_readCoins {x1 : Int32} {x2 : Int32} {u : gM} {w : (Int32 × gM)} (hM : X0_readCoins x1 x2 u = some w) : gMet skC yX0_readCoins cX0_readCoins 4 (some .boolean) 7 167 (fun B adK => [.ref (B + 116), .int x1, .int x2]) u ((fun _ => some (.int w.1)), w.2) := by
  refine gMet.of (by decide) (fun _ _ => Nat.le_of_ble_eq_true rfl) (fun κ B X => ?_)
  have X : gX κ B skC cX0_readCoins 4 RX0 (some .boolean) 7 167 := X
  refine g_mk [true, true, true, false] [some (.ref (B + 116)), some (.int x1), some (.int x2), none] rfl ?_
  exact v_X0_readCoins X  hM
theorem fr_X0_readCoins_b61 {S : Nat → Prop} {u0 u : gM} {x1 : Int32} (hs0 : S 1) (hs1 : S 123)   {w : (Int32 × gM)} (hM : X0_readCoins_b61 x1 u = some w) (h0 : off S u0 u) : off S u0 w.2 := by
  unfold X0_readCoins_b61 at hM
  obtain ⟨w68, e68, hM⟩ := bind_of hM
  have h0 := fr_X9_passNumber hs0 e68 h0
  by_cases c71 : w68.1 = 0
  · rw [if_pos c71] at hM
    cases hM
    exact h0
  · rw [if_neg c71] at hM
    obtain ⟨u91, e91, hM⟩ := bind_of hM
    have h0 := off_sI hs1 e91 h0
    cases hM
    exact h0
theorem fr_X0_readCoins_b23 {S : Nat → Prop} {u0 u : gM} {x1 : Int32} {s0 : Int32} (hs0 : S 1) (hs1 : S 123)   {w : (Int32 × gM)} (hM : X0_readCoins_b23 x1 s0 u = some w) (h0 : off S u0 u) : off S u0 w.2 := by
  unfold X0_readCoins_b23 at hM
  by_cases c25 : s0 = 0
  · rw [if_pos c25] at hM
    exact fr_X0_readCoins_b61 hs0 hs1  hM h0
  · rw [if_neg c25] at hM
    by_cases c36 : (u.1 1 3) = 3
    · rw [if_pos c36] at hM
      by_cases c48 : 100000000 < (u.1 1 5)
      · rw [if_pos c48] at hM
        exact fr_X0_readCoins_b61 hs0 hs1  hM h0
      · rw [if_neg c48] at hM
        obtain ⟨w57, e57, hM⟩ := bind_of hM
        have h0 := fr_X9_refuse hs0 e57 h0
        obtain ⟨v60, e60, hM⟩ := bind_of hM
        cases hM
        exact h0
    · rw [if_neg c36] at hM
      exact fr_X0_readCoins_b61 hs0 hs1  hM h0
theorem fr_X0_readCoins_b22 {S : Nat → Prop} {u0 u : gM} {x1 : Int32} (hs0 : S 1) (hs1 : S 123)   {w : (Int32 × gM)} (hM : X0_readCoins_b22 x1 u = some w) (h0 : off S u0 u) : off S u0 w.2 := by
  unfold X0_readCoins_b22 at hM
  exact fr_X0_readCoins_b23 hs0 hs1  hM h0
theorem fr_X0_readCoins {S : Nat → Prop} {u0 u : gM} {x1 : Int32} {x2 : Int32} (hs0 : S 1) (hs1 : S 123)   {w : (Int32 × gM)} (hM : X0_readCoins x1 x2 u = some w) (h0 : off S u0 u) : off S u0 w.2 := by
  unfold X0_readCoins at hM
  by_cases c2 : x2 = 1
  · rw [if_pos c2] at hM
    obtain ⟨v13, e13, hM⟩ := bind_of hM
    by_cases c15 : 2 ≤ v13
    · rw [if_pos c15] at hM
      exact fr_X0_readCoins_b22 hs0 hs1  hM h0
    · rw [if_neg c15] at hM
      exact fr_X0_readCoins_b23 hs0 hs1  hM h0
  · rw [if_neg c2] at hM
    exact fr_X0_readCoins_b22 hs0 hs1  hM h0
/-! CoverDesk$BookReader.readTerm(I)Z -/
theorem dX0_readTerm_0 : decode cX0_readTerm 0 = .ok (.aload_n 0, 1) := by decide +kernel
theorem dX0_readTerm_1 : decode cX0_readTerm 1 = .ok (.getfield 12, 3) := by decide +kernel
theorem dX0_readTerm_4 : decode cX0_readTerm 4 = .ok (.getfield 186, 3) := by decide +kernel
theorem dX0_readTerm_7 : decode cX0_readTerm 7 = .ok (.iload_n 1, 1) := by decide +kernel
theorem dX0_readTerm_8 : decode cX0_readTerm 8 = .ok (.iconst 0, 1) := by decide +kernel
theorem dX0_readTerm_9 : decode cX0_readTerm 9 = .ok (.iastore, 1) := by decide +kernel
theorem dX0_readTerm_10 : decode cX0_readTerm 10 = .ok (.aload_n 0, 1) := by decide +kernel
theorem dX0_readTerm_11 : decode cX0_readTerm 11 = .ok (.getfield 18, 3) := by decide +kernel
theorem dX0_readTerm_14 : decode cX0_readTerm 14 = .ok (.getfield 37, 3) := by decide +kernel
theorem dX0_readTerm_17 : decode cX0_readTerm 17 = .ok (.bipush 13, 2) := by decide +kernel
theorem dX0_readTerm_19 : decode cX0_readTerm 19 = .ok (.if_icmp .eq 5, 3) := by decide +kernel
theorem dX0_readTerm_22 : decode cX0_readTerm 22 = .ok (.iconst 1, 1) := by decide +kernel
theorem dX0_readTerm_23 : decode cX0_readTerm 23 = .ok (.ireturn, 1) := by decide +kernel
theorem dX0_readTerm_24 : decode cX0_readTerm 24 = .ok (.aload_n 0, 1) := by decide +kernel
theorem dX0_readTerm_25 : decode cX0_readTerm 25 = .ok (.getfield 18, 3) := by decide +kernel
theorem dX0_readTerm_28 : decode cX0_readTerm 28 = .ok (.invokevirtual 66, 3) := by decide +kernel
theorem dX0_readTerm_31 : decode cX0_readTerm 31 = .ok (.aload_n 0, 1) := by decide +kernel
theorem dX0_readTerm_32 : decode cX0_readTerm 32 = .ok (.getfield 18, 3) := by decide +kernel
theorem dX0_readTerm_35 : decode cX0_readTerm 35 = .ok (.iconst 1, 1) := by decide +kernel
theorem dX0_readTerm_36 : decode cX0_readTerm 36 = .ok (.bipush 60, 2) := by decide +kernel
theorem dX0_readTerm_38 : decode cX0_readTerm 38 = .ok (.invokevirtual 95, 3) := by decide +kernel
theorem dX0_readTerm_41 : decode cX0_readTerm 41 = .ok (.ifCond .ne 5, 3) := by decide +kernel
theorem dX0_readTerm_44 : decode cX0_readTerm 44 = .ok (.iconst 0, 1) := by decide +kernel
theorem dX0_readTerm_45 : decode cX0_readTerm 45 = .ok (.ireturn, 1) := by decide +kernel
theorem dX0_readTerm_46 : decode cX0_readTerm 46 = .ok (.aload_n 0, 1) := by decide +kernel
theorem dX0_readTerm_47 : decode cX0_readTerm 47 = .ok (.getfield 12, 3) := by decide +kernel
theorem dX0_readTerm_50 : decode cX0_readTerm 50 = .ok (.getfield 186, 3) := by decide +kernel
theorem dX0_readTerm_53 : decode cX0_readTerm 53 = .ok (.iload_n 1, 1) := by decide +kernel
theorem dX0_readTerm_54 : decode cX0_readTerm 54 = .ok (.aload_n 0, 1) := by decide +kernel
theorem dX0_readTerm_55 : decode cX0_readTerm 55 = .ok (.getfield 18, 3) := by decide +kernel
theorem dX0_readTerm_58 : decode cX0_readTerm 58 = .ok (.getfield 99, 3) := by decide +kernel
theorem dX0_readTerm_61 : decode cX0_readTerm 61 = .ok (.iastore, 1) := by decide +kernel
theorem dX0_readTerm_62 : decode cX0_readTerm 62 = .ok (.iconst 1, 1) := by decide +kernel
theorem dX0_readTerm_63 : decode cX0_readTerm 63 = .ok (.ireturn, 1) := by decide +kernel
def X0_readTerm  (x1 : Int32) (u : gM) : Option (Int32 × gM) :=
((sI skC u 124 x1 0).bind fun u9 => (if (u9.1 1 4) = 13 then ((X9_step u9).bind fun w28 => ((X9_passNumber 1 60 w28).bind fun w38 => (if w38.1 = 0 then some (0, w38.2)
    else ((sI skC w38.2 124 x1 (w38.2.1 1 6)).bind fun u61 => some (1, u61)))))
  else some (1, u9)))
set_option maxRecDepth 20000 in
theorem v_X0_readTerm {κ : gK} {B : Nat} {u : gM} (X : gX κ B skC cX0_readTerm 2 RX0 (some .boolean) 7 167)   {x1 : Int32} {w : (Int32 × gM)} (hM : X0_readTerm x1 u = some w) : gV κ B skC 2 ((some (.int w.1)), w.2) 0 [some (.ref (B + 116)), some (.int x1)] [] u := by
  unfold X0_readTerm at hM
  refine g_aload_n X dX0_readTerm_0 rfl ?_
  refine g_getR X fX0_12 cC_116 rfl dX0_readTerm_1 ?_
  refine g_getR X fX0_186 cC_117 rfl dX0_readTerm_4 ?_
  refine g_iload_n X dX0_readTerm_7 rfl ?_
  refine g_iconst X (v := 0) dX0_readTerm_8 (by decide) ?_
  obtain ⟨u9, e9, hM⟩ := bind_of hM
  refine g_iastore X e9 dX0_readTerm_9 ?_
  refine g_aload_n X dX0_readTerm_10 rfl ?_
  refine g_getR X fX0_18 cC_116 rfl dX0_readTerm_11 ?_
  refine g_getI X fX0_37 cC_1 rfl dX0_readTerm_14 ?_
  refine g_bipush X (v := 13) dX0_readTerm_17 (by decide) ?_
  refine g_icmp_eq (tgt := 24) X dX0_readTerm_19 (by decide) (fun c19 => ?_) (fun c19 => ?_)
  · rw [if_pos c19] at hM
    refine g_aload_n X dX0_readTerm_24 rfl ?_
    refine g_getR X fX0_18 cC_116 rfl dX0_readTerm_25 ?_
    obtain ⟨w28, e28, hM⟩ := bind_of hM
    refine g_callVv X (fun B adK => []) (s_X9_step e28) cvX0_66 cC_1 rfl rfl (Nat.le_of_ble_eq_true rfl) ⟨by decide, by decide⟩ dX0_readTerm_28 ?_
    refine g_aload_n X dX0_readTerm_31 rfl ?_
    refine g_getR X fX0_18 cC_116 rfl dX0_readTerm_32 ?_
    refine g_iconst X (v := 1) dX0_readTerm_35 (by decide) ?_
    refine g_bipush X (v := 60) dX0_readTerm_36 (by decide) ?_
    obtain ⟨w38, e38, hM⟩ := bind_of hM
    refine g_callVi X (fun B adK => [.int 1, .int 60]) (s_X9_passNumber e38) cvX0_95 cC_1 rfl rfl (Nat.le_of_ble_eq_true rfl) ⟨by decide, by decide⟩ dX0_readTerm_38 ?_
    refine g_if_ne (tgt := 46) X dX0_readTerm_41 (by decide) (fun c41 => ?_) (fun c41 => ?_)
    · rw [if_neg c41] at hM
      refine g_aload_n X dX0_readTerm_46 rfl ?_
      refine g_getR X fX0_12 cC_116 rfl dX0_readTerm_47 ?_
      refine g_getR X fX0_186 cC_117 rfl dX0_readTerm_50 ?_
      refine g_iload_n X dX0_readTerm_53 rfl ?_
      refine g_aload_n X dX0_readTerm_54 rfl ?_
      refine g_getR X fX0_18 cC_116 rfl dX0_readTerm_55 ?_
      refine g_getI X fX0_99 cC_1 rfl dX0_readTerm_58 ?_
      obtain ⟨u61, e61, hM⟩ := bind_of hM
      refine g_iastore X e61 dX0_readTerm_61 ?_
      refine g_iconst X (v := 1) dX0_readTerm_62 (by decide) ?_
      cases hM
      exact g_zret X (Or.inr rfl) dX0_readTerm_63
    · rw [if_pos c41] at hM
      refine g_iconst X (v := 0) dX0_readTerm_44 (by decide) ?_
      cases hM
      exact g_zret X (Or.inl rfl) dX0_readTerm_45
  · rw [if_neg c19] at hM
    refine g_iconst X (v := 1) dX0_readTerm_22 (by decide) ?_
    cases hM
    exact g_zret X (Or.inr rfl) dX0_readTerm_23
theorem s_X0_readTerm {x1 : Int32} {u : gM} {w : (Int32 × gM)} (hM : X0_readTerm x1 u = some w) : gMet skC yX0_readTerm cX0_readTerm 2 (some .boolean) 7 167 (fun B adK => [.ref (B + 116), .int x1]) u ((fun _ => some (.int w.1)), w.2) := by
  refine gMet.of (by decide) (fun _ _ => Nat.le_of_ble_eq_true rfl) (fun κ B X => ?_)
  have X : gX κ B skC cX0_readTerm 2 RX0 (some .boolean) 7 167 := X
  refine g_mk [true, true] [some (.ref (B + 116)), some (.int x1)] rfl ?_
  exact v_X0_readTerm X  hM
theorem fr_X0_readTerm {S : Nat → Prop} {u0 u : gM} {x1 : Int32} (hs0 : S 1) (hs1 : S 124)   {w : (Int32 × gM)} (hM : X0_readTerm x1 u = some w) (h0 : off S u0 u) : off S u0 w.2 := by
  unfold X0_readTerm at hM
  obtain ⟨u9, e9, hM⟩ := bind_of hM
  have h0 := off_sI hs1 e9 h0
  by_cases c19 : (u9.1 1 4) = 13
  · rw [if_pos c19] at hM
    obtain ⟨w28, e28, hM⟩ := bind_of hM
    have h0 := fr_X9_step hs0 e28 h0
    obtain ⟨w38, e38, hM⟩ := bind_of hM
    have h0 := fr_X9_passNumber hs0 e38 h0
    by_cases c41 : w38.1 = 0
    · rw [if_pos c41] at hM
      cases hM
      exact h0
    · rw [if_neg c41] at hM
      obtain ⟨u61, e61, hM⟩ := bind_of hM
      have h0 := off_sI hs1 e61 h0
      cases hM
      exact h0
  · rw [if_neg c19] at hM
    cases hM
    exact h0
/-! CoverDesk$BookReader.readAccount(I)Z -/
theorem dX0_readAccount_0 : decode cX0_readAccount 0 = .ok (.aload_n 0, 1) := by decide +kernel
theorem dX0_readAccount_1 : decode cX0_readAccount 1 = .ok (.getfield 18, 3) := by decide +kernel
theorem dX0_readAccount_4 : decode cX0_readAccount 4 = .ok (.invokevirtual 66, 3) := by decide +kernel
theorem dX0_readAccount_7 : decode cX0_readAccount 7 = .ok (.aload_n 0, 1) := by decide +kernel
theorem dX0_readAccount_8 : decode cX0_readAccount 8 = .ok (.getfield 12, 3) := by decide +kernel
theorem dX0_readAccount_11 : decode cX0_readAccount 11 = .ok (.getfield 134, 3) := by decide +kernel
theorem dX0_readAccount_14 : decode cX0_readAccount 14 = .ok (.istore_n 2, 1) := by decide +kernel
theorem dX0_readAccount_15 : decode cX0_readAccount 15 = .ok (.aload_n 0, 1) := by decide +kernel
theorem dX0_readAccount_16 : decode cX0_readAccount 16 = .ok (.getfield 18, 3) := by decide +kernel
theorem dX0_readAccount_19 : decode cX0_readAccount 19 = .ok (.getfield 72, 3) := by decide +kernel
theorem dX0_readAccount_22 : decode cX0_readAccount 22 = .ok (.lstore_n 3, 1) := by decide +kernel
theorem dX0_readAccount_23 : decode cX0_readAccount 23 = .ok (.aload_n 0, 1) := by decide +kernel
theorem dX0_readAccount_24 : decode cX0_readAccount 24 = .ok (.getfield 18, 3) := by decide +kernel
theorem dX0_readAccount_27 : decode cX0_readAccount 27 = .ok (.aload_n 0, 1) := by decide +kernel
theorem dX0_readAccount_28 : decode cX0_readAccount 28 = .ok (.getfield 12, 3) := by decide +kernel
theorem dX0_readAccount_31 : decode cX0_readAccount 31 = .ok (.lload_n 3, 1) := by decide +kernel
theorem dX0_readAccount_32 : decode cX0_readAccount 32 = .ok (.invokevirtual 76, 3) := by decide +kernel
theorem dX0_readAccount_35 : decode cX0_readAccount 35 = .ok (.iload_n 2, 1) := by decide +kernel
theorem dX0_readAccount_36 : decode cX0_readAccount 36 = .ok (.bipush 24, 2) := by decide +kernel
theorem dX0_readAccount_38 : decode cX0_readAccount 38 = .ok (.if_icmp .lt 7, 3) := by decide +kernel
theorem dX0_readAccount_41 : decode cX0_readAccount 41 = .ok (.iconst 1, 1) := by decide +kernel
theorem dX0_readAccount_42 : decode cX0_readAccount 42 = .ok (.goto 4, 3) := by decide +kernel
theorem dX0_readAccount_45 : decode cX0_readAccount 45 = .ok (.iconst 0, 1) := by decide +kernel
theorem dX0_readAccount_46 : decode cX0_readAccount 46 = .ok (.invokevirtual 80, 3) := by decide +kernel
theorem dX0_readAccount_49 : decode cX0_readAccount 49 = .ok (.ifCond .eq 15, 3) := by decide +kernel
theorem dX0_readAccount_52 : decode cX0_readAccount 52 = .ok (.aload_n 0, 1) := by decide +kernel
theorem dX0_readAccount_53 : decode cX0_readAccount 53 = .ok (.getfield 18, 3) := by decide +kernel
theorem dX0_readAccount_56 : decode cX0_readAccount 56 = .ok (.bipush 10, 2) := by decide +kernel
theorem dX0_readAccount_58 : decode cX0_readAccount 58 = .ok (.invokevirtual 118, 3) := by decide +kernel
theorem dX0_readAccount_61 : decode cX0_readAccount 61 = .ok (.ifCond .ne 5, 3) := by decide +kernel
theorem dX0_readAccount_64 : decode cX0_readAccount 64 = .ok (.iconst 0, 1) := by decide +kernel
theorem dX0_readAccount_65 : decode cX0_readAccount 65 = .ok (.ireturn, 1) := by decide +kernel
theorem dX0_readAccount_66 : decode cX0_readAccount 66 = .ok (.aload_n 0, 1) := by decide +kernel
theorem dX0_readAccount_67 : decode cX0_readAccount 67 = .ok (.getfield 12, 3) := by decide +kernel
theorem dX0_readAccount_70 : decode cX0_readAccount 70 = .ok (.aload_n 0, 1) := by decide +kernel
theorem dX0_readAccount_71 : decode cX0_readAccount 71 = .ok (.getfield 18, 3) := by decide +kernel
theorem dX0_readAccount_74 : decode cX0_readAccount 74 = .ok (.getfield 72, 3) := by decide +kernel
theorem dX0_readAccount_77 : decode cX0_readAccount 77 = .ok (.invokevirtual 121, 3) := by decide +kernel
theorem dX0_readAccount_80 : decode cX0_readAccount 80 = .ok (.istore 5, 2) := by decide +kernel
theorem dX0_readAccount_82 : decode cX0_readAccount 82 = .ok (.aload_n 0, 1) := by decide +kernel
theorem dX0_readAccount_83 : decode cX0_readAccount 83 = .ok (.getfield 18, 3) := by decide +kernel
theorem dX0_readAccount_86 : decode cX0_readAccount 86 = .ok (.iload 5, 2) := by decide +kernel
theorem dX0_readAccount_88 : decode cX0_readAccount 88 = .ok (.invokevirtual 115, 3) := by decide +kernel
theorem dX0_readAccount_91 : decode cX0_readAccount 91 = .ok (.ifCond .eq 24, 3) := by decide +kernel
theorem dX0_readAccount_94 : decode cX0_readAccount 94 = .ok (.aload_n 0, 1) := by decide +kernel
theorem dX0_readAccount_95 : decode cX0_readAccount 95 = .ok (.getfield 18, 3) := by decide +kernel
theorem dX0_readAccount_98 : decode cX0_readAccount 98 = .ok (.bipush 11, 2) := by decide +kernel
theorem dX0_readAccount_100 : decode cX0_readAccount 100 = .ok (.invokevirtual 118, 3) := by decide +kernel
theorem dX0_readAccount_103 : decode cX0_readAccount 103 = .ok (.ifCond .eq 12, 3) := by decide +kernel
theorem dX0_readAccount_106 : decode cX0_readAccount 106 = .ok (.aload_n 0, 1) := by decide +kernel
theorem dX0_readAccount_107 : decode cX0_readAccount 107 = .ok (.iload_n 2, 1) := by decide +kernel
theorem dX0_readAccount_108 : decode cX0_readAccount 108 = .ok (.iload_n 1, 1) := by decide +kernel
theorem dX0_readAccount_109 : decode cX0_readAccount 109 = .ok (.invokevirtual 137, 3) := by decide +kernel
theorem dX0_readAccount_112 : decode cX0_readAccount 112 = .ok (.ifCond .ne 5, 3) := by decide +kernel
theorem dX0_readAccount_115 : decode cX0_readAccount 115 = .ok (.iconst 0, 1) := by decide +kernel
theorem dX0_readAccount_116 : decode cX0_readAccount 116 = .ok (.ireturn, 1) := by decide +kernel
theorem dX0_readAccount_117 : decode cX0_readAccount 117 = .ok (.aload_n 0, 1) := by decide +kernel
theorem dX0_readAccount_118 : decode cX0_readAccount 118 = .ok (.getfield 12, 3) := by decide +kernel
theorem dX0_readAccount_121 : decode cX0_readAccount 121 = .ok (.getfield 140, 3) := by decide +kernel
theorem dX0_readAccount_124 : decode cX0_readAccount 124 = .ok (.iload_n 2, 1) := by decide +kernel
theorem dX0_readAccount_125 : decode cX0_readAccount 125 = .ok (.iconst 0, 1) := by decide +kernel
theorem dX0_readAccount_126 : decode cX0_readAccount 126 = .ok (.iastore, 1) := by decide +kernel
theorem dX0_readAccount_127 : decode cX0_readAccount 127 = .ok (.iload_n 1, 1) := by decide +kernel
theorem dX0_readAccount_128 : decode cX0_readAccount 128 = .ok (.iconst 2, 1) := by decide +kernel
theorem dX0_readAccount_129 : decode cX0_readAccount 129 = .ok (.if_icmp .ne 25, 3) := by decide +kernel
theorem dX0_readAccount_132 : decode cX0_readAccount 132 = .ok (.aload_n 0, 1) := by decide +kernel
theorem dX0_readAccount_133 : decode cX0_readAccount 133 = .ok (.getfield 18, 3) := by decide +kernel
theorem dX0_readAccount_136 : decode cX0_readAccount 136 = .ok (.bipush 12, 2) := by decide +kernel
theorem dX0_readAccount_138 : decode cX0_readAccount 138 = .ok (.invokevirtual 118, 3) := by decide +kernel
theorem dX0_readAccount_141 : decode cX0_readAccount 141 = .ok (.ifCond .eq 11, 3) := by decide +kernel
theorem dX0_readAccount_144 : decode cX0_readAccount 144 = .ok (.aload_n 0, 1) := by decide +kernel
theorem dX0_readAccount_145 : decode cX0_readAccount 145 = .ok (.iload_n 2, 1) := by decide +kernel
theorem dX0_readAccount_146 : decode cX0_readAccount 146 = .ok (.invokevirtual 143, 3) := by decide +kernel
theorem dX0_readAccount_149 : decode cX0_readAccount 149 = .ok (.ifCond .ne 5, 3) := by decide +kernel
theorem dX0_readAccount_152 : decode cX0_readAccount 152 = .ok (.iconst 0, 1) := by decide +kernel
theorem dX0_readAccount_153 : decode cX0_readAccount 153 = .ok (.ireturn, 1) := by decide +kernel
theorem dX0_readAccount_154 : decode cX0_readAccount 154 = .ok (.aload_n 0, 1) := by decide +kernel
theorem dX0_readAccount_155 : decode cX0_readAccount 155 = .ok (.iload_n 2, 1) := by decide +kernel
theorem dX0_readAccount_156 : decode cX0_readAccount 156 = .ok (.iload_n 1, 1) := by decide +kernel
theorem dX0_readAccount_157 : decode cX0_readAccount 157 = .ok (.invokevirtual 146, 3) := by decide +kernel
theorem dX0_readAccount_160 : decode cX0_readAccount 160 = .ok (.ifCond .eq 11, 3) := by decide +kernel
theorem dX0_readAccount_163 : decode cX0_readAccount 163 = .ok (.aload_n 0, 1) := by decide +kernel
theorem dX0_readAccount_164 : decode cX0_readAccount 164 = .ok (.iload_n 2, 1) := by decide +kernel
theorem dX0_readAccount_165 : decode cX0_readAccount 165 = .ok (.invokevirtual 149, 3) := by decide +kernel
theorem dX0_readAccount_168 : decode cX0_readAccount 168 = .ok (.ifCond .ne 5, 3) := by decide +kernel
theorem dX0_readAccount_171 : decode cX0_readAccount 171 = .ok (.iconst 0, 1) := by decide +kernel
theorem dX0_readAccount_172 : decode cX0_readAccount 172 = .ok (.ireturn, 1) := by decide +kernel
theorem dX0_readAccount_173 : decode cX0_readAccount 173 = .ok (.aload_n 0, 1) := by decide +kernel
theorem dX0_readAccount_174 : decode cX0_readAccount 174 = .ok (.getfield 12, 3) := by decide +kernel
theorem dX0_readAccount_177 : decode cX0_readAccount 177 = .ok (.getfield 152, 3) := by decide +kernel
theorem dX0_readAccount_180 : decode cX0_readAccount 180 = .ok (.iload_n 2, 1) := by decide +kernel
theorem dX0_readAccount_181 : decode cX0_readAccount 181 = .ok (.lload_n 3, 1) := by decide +kernel
theorem dX0_readAccount_182 : decode cX0_readAccount 182 = .ok (.lastore, 1) := by decide +kernel
theorem dX0_readAccount_183 : decode cX0_readAccount 183 = .ok (.aload_n 0, 1) := by decide +kernel
theorem dX0_readAccount_184 : decode cX0_readAccount 184 = .ok (.getfield 12, 3) := by decide +kernel
theorem dX0_readAccount_187 : decode cX0_readAccount 187 = .ok (.getfield 155, 3) := by decide +kernel
theorem dX0_readAccount_190 : decode cX0_readAccount 190 = .ok (.iload_n 2, 1) := by decide +kernel
theorem dX0_readAccount_191 : decode cX0_readAccount 191 = .ok (.iload_n 1, 1) := by decide +kernel
theorem dX0_readAccount_192 : decode cX0_readAccount 192 = .ok (.iastore, 1) := by decide +kernel
theorem dX0_readAccount_193 : decode cX0_readAccount 193 = .ok (.aload_n 0, 1) := by decide +kernel
theorem dX0_readAccount_194 : decode cX0_readAccount 194 = .ok (.getfield 12, 3) := by decide +kernel
theorem dX0_readAccount_197 : decode cX0_readAccount 197 = .ok (.getfield 158, 3) := by decide +kernel
theorem dX0_readAccount_200 : decode cX0_readAccount 200 = .ok (.iload_n 2, 1) := by decide +kernel
theorem dX0_readAccount_201 : decode cX0_readAccount 201 = .ok (.iload 5, 2) := by decide +kernel
theorem dX0_readAccount_203 : decode cX0_readAccount 203 = .ok (.iastore, 1) := by decide +kernel
theorem dX0_readAccount_204 : decode cX0_readAccount 204 = .ok (.aload_n 0, 1) := by decide +kernel
theorem dX0_readAccount_205 : decode cX0_readAccount 205 = .ok (.getfield 12, 3) := by decide +kernel
theorem dX0_readAccount_208 : decode cX0_readAccount 208 = .ok (.iload_n 2, 1) := by decide +kernel
theorem dX0_readAccount_209 : decode cX0_readAccount 209 = .ok (.iconst 1, 1) := by decide +kernel
theorem dX0_readAccount_210 : decode cX0_readAccount 210 = .ok (.iadd, 1) := by decide +kernel
theorem dX0_readAccount_211 : decode cX0_readAccount 211 = .ok (.putfield 134, 3) := by decide +kernel
theorem dX0_readAccount_214 : decode cX0_readAccount 214 = .ok (.iconst 1, 1) := by decide +kernel
theorem dX0_readAccount_215 : decode cX0_readAccount 215 = .ok (.ireturn, 1) := by decide +kernel
def X0_readAccount_b64   (u : gM) : Option (Int32 × gM) :=
some (0, u)
def X0_readAccount_b115   (u : gM) : Option (Int32 × gM) :=
some (0, u)
def X0_readAccount_b171   (u : gM) : Option (Int32 × gM) :=
some (0, u)
def X0_readAccount_b154  (x1 : Int32) (x2 : Int32) (x3 : Int64) (x5 : Int32) (u : gM) : Option (Int32 × gM) :=
((X0_readCoins x2 x1 u).bind fun w157 => (if w157.1 = 0 then (X0_readAccount_b171 w157.2)
  else ((X0_readTerm x2 w157.2).bind fun w165 => (if w165.1 = 0 then (X0_readAccount_b171 w165.2)
    else ((sJ skC w165.2 120 x2 x3).bind fun u182 => ((sI skC u182 121 x2 x1).bind fun u192 => ((sI skC u192 122 x2 x5).bind fun u203 => some (1, upI u203 117 2 (x2 + 1)))))))))
def X0_readAccount_b152   (u : gM) : Option (Int32 × gM) :=
some (0, u)
def X0_readAccount_b46  (x1 : Int32) (x2 : Int32) (x3 : Int64) (s1 : Int32) (s2 : Int32) (u : gM) : Option (Int32 × gM) :=
((X9_passNew s1 s2 u).bind fun w46 => (if w46.1 = 0 then (X0_readAccount_b64 w46.2)
  else ((X9_passWord 10 w46.2).bind fun w58 => (if w58.1 = 0 then (X0_readAccount_b64 w58.2)
    else ((X10_bankNamed w58.2 117 (w58.2.2 1 7)).bind fun w77 => ((X9_passKnown w77 w58.2).bind fun w88 => (if w88.1 = 0 then (X0_readAccount_b115 w88.2)
      else ((X9_passWord 11 w88.2).bind fun w100 => (if w100.1 = 0 then (X0_readAccount_b115 w100.2)
        else ((X0_readOwners x2 x1 w100.2).bind fun w109 => (if w109.1 = 0 then (X0_readAccount_b115 w109.2)
          else ((sI skC w109.2 126 x2 0).bind fun u126 => (if x1 = 2 then ((X9_passWord 12 u126).bind fun w138 => (if w138.1 = 0 then (X0_readAccount_b152 w138.2)
              else ((X0_readHeirs x2 w138.2).bind fun w146 => (if w146.1 = 0 then (X0_readAccount_b152 w146.2)
                else (X0_readAccount_b154 x1 x2 x3 w77 w146.2)))))
            else (X0_readAccount_b154 x1 x2 x3 w77 u126))))))))))))))
def X0_readAccount  (x1 : Int32) (u : gM) : Option (Int32 × gM) :=
((X9_step u).bind fun w4 => ((X10_isTaken w4 117 (w4.2 1 7)).bind fun w32 => (if (w4.1 117 2) < 24 then (X0_readAccount_b46 x1 (w4.1 117 2) (w4.2 1 7) w32 0 w4)
  else (X0_readAccount_b46 x1 (w4.1 117 2) (w4.2 1 7) w32 1 w4))))
set_option maxRecDepth 20000 in
theorem v_X0_readAccount_b64 {κ : gK} {B : Nat} {u : gM} (X : gX κ B skC cX0_readAccount 6 RX0 (some .boolean) 8 192)    {w : (Int32 × gM)} (hM : X0_readAccount_b64 u = some w) : gV κ B skC 6 ((some (.int w.1)), w.2) 64 [none, none, none, none, none, none] [] u := by
  unfold X0_readAccount_b64 at hM
  refine g_iconst X (v := 0) dX0_readAccount_64 (by decide) ?_
  cases hM
  exact g_zret X (Or.inl rfl) dX0_readAccount_65
set_option maxRecDepth 20000 in
theorem v_X0_readAccount_b115 {κ : gK} {B : Nat} {u : gM} (X : gX κ B skC cX0_readAccount 6 RX0 (some .boolean) 8 192)    {w : (Int32 × gM)} (hM : X0_readAccount_b115 u = some w) : gV κ B skC 6 ((some (.int w.1)), w.2) 115 [none, none, none, none, none, none] [] u := by
  unfold X0_readAccount_b115 at hM
  refine g_iconst X (v := 0) dX0_readAccount_115 (by decide) ?_
  cases hM
  exact g_zret X (Or.inl rfl) dX0_readAccount_116
set_option maxRecDepth 20000 in
theorem v_X0_readAccount_b171 {κ : gK} {B : Nat} {u : gM} (X : gX κ B skC cX0_readAccount 6 RX0 (some .boolean) 8 192)    {w : (Int32 × gM)} (hM : X0_readAccount_b171 u = some w) : gV κ B skC 6 ((some (.int w.1)), w.2) 171 [none, none, none, none, none, none] [] u := by
  unfold X0_readAccount_b171 at hM
  refine g_iconst X (v := 0) dX0_readAccount_171 (by decide) ?_
  cases hM
  exact g_zret X (Or.inl rfl) dX0_readAccount_172
set_option maxRecDepth 20000 in
theorem v_X0_readAccount_b154 {κ : gK} {B : Nat} {u : gM} (X : gX κ B skC cX0_readAccount 6 RX0 (some .boolean) 8 192)   {x1 : Int32} {x2 : Int32} {x3 : Int64} {x5 : Int32} {w : (Int32 × gM)} (hM : X0_readAccount_b154 x1 x2 x3 x5 u = some w) : gV κ B skC 6 ((some (.int w.1)), w.2) 154 [some (.ref (B + 116)), some (.int x1), some (.int x2), some (.long x3), none, some (.int x5)] [] u := by
  unfold X0_readAccount_b154 at hM
  refine g_aload_n X dX0_readAccount_154 rfl ?_
  refine g_iload_n X dX0_readAccount_155 rfl ?_
  refine g_iload_n X dX0_readAccount_156 rfl ?_
  obtain ⟨w157, e157, hM⟩ := bind_of hM
  refine g_callVi X (fun B adK => [.int x2, .int x1]) (s_X0_readCoins e157) cvX0_146 cC_116 rfl rfl (Nat.le_of_ble_eq_true rfl) ⟨by decide, by decide⟩ dX0_readAccount_157 ?_
  refine g_if_eq (tgt := 171) X dX0_readAccount_160 (by decide) (fun c160 => ?_) (fun c160 => ?_)
  · rw [if_pos c160] at hM
    refine g_mk [false, false, false, false, false, false] [none, none, none, none, none, none] rfl ?_
    exact v_X0_readAccount_b171 X  hM
  · rw [if_neg c160] at hM
    refine g_aload_n X dX0_readAccount_163 rfl ?_
    refine g_iload_n X dX0_readAccount_164 rfl ?_
    obtain ⟨w165, e165, hM⟩ := bind_of hM
    refine g_callVi X (fun B adK => [.int x2]) (s_X0_readTerm e165) cvX0_149 cC_116 rfl rfl (Nat.le_of_ble_eq_true rfl) ⟨by decide, by decide⟩ dX0_readAccount_165 ?_
    refine g_if_ne (tgt := 173) X dX0_readAccount_168 (by decide) (fun c168 => ?_) (fun c168 => ?_)
    · rw [if_neg c168] at hM
      refine g_aload_n X dX0_readAccount_173 rfl ?_
      refine g_getR X fX0_12 cC_116 rfl dX0_readAccount_174 ?_
      refine g_getR X fX0_152 cC_117 rfl dX0_readAccount_177 ?_
      refine g_iload_n X dX0_readAccount_180 rfl ?_
      refine g_lload_n X dX0_readAccount_181 rfl ?_
      obtain ⟨u182, e182, hM⟩ := bind_of hM
      refine g_lastore X e182 dX0_readAccount_182 ?_
      refine g_aload_n X dX0_readAccount_183 rfl ?_
      refine g_getR X fX0_12 cC_116 rfl dX0_readAccount_184 ?_
      refine g_getR X fX0_155 cC_117 rfl dX0_readAccount_187 ?_
      refine g_iload_n X dX0_readAccount_190 rfl ?_
      refine g_iload_n X dX0_readAccount_191 rfl ?_
      obtain ⟨u192, e192, hM⟩ := bind_of hM
      refine g_iastore X e192 dX0_readAccount_192 ?_
      refine g_aload_n X dX0_readAccount_193 rfl ?_
      refine g_getR X fX0_12 cC_116 rfl dX0_readAccount_194 ?_
      refine g_getR X fX0_158 cC_117 rfl dX0_readAccount_197 ?_
      refine g_iload_n X dX0_readAccount_200 rfl ?_
      refine g_iload X dX0_readAccount_201 rfl ?_
      obtain ⟨u203, e203, hM⟩ := bind_of hM
      refine g_iastore X e203 dX0_readAccount_203 ?_
      refine g_aload_n X dX0_readAccount_204 rfl ?_
      refine g_getR X fX0_12 cC_116 rfl dX0_readAccount_205 ?_
      refine g_iload_n X dX0_readAccount_208 rfl ?_
      refine g_iconst X (v := 1) dX0_readAccount_209 (by decide) ?_
      refine g_iadd X dX0_readAccount_210 ?_
      refine g_putI X fX0_134 gc_X10 gp_X10_2 cC_117 rfl dX0_readAccount_211 ?_
      refine g_iconst X (v := 1) dX0_readAccount_214 (by decide) ?_
      cases hM
      exact g_zret X (Or.inr rfl) dX0_readAccount_215
    · rw [if_pos c168] at hM
      refine g_mk [false, false, false, false, false, false] [none, none, none, none, none, none] rfl ?_
      exact v_X0_readAccount_b171 X  hM
set_option maxRecDepth 20000 in
theorem v_X0_readAccount_b152 {κ : gK} {B : Nat} {u : gM} (X : gX κ B skC cX0_readAccount 6 RX0 (some .boolean) 8 192)    {w : (Int32 × gM)} (hM : X0_readAccount_b152 u = some w) : gV κ B skC 6 ((some (.int w.1)), w.2) 152 [none, none, none, none, none, none] [] u := by
  unfold X0_readAccount_b152 at hM
  refine g_iconst X (v := 0) dX0_readAccount_152 (by decide) ?_
  cases hM
  exact g_zret X (Or.inl rfl) dX0_readAccount_153
set_option maxRecDepth 20000 in
theorem v_X0_readAccount_b46 {κ : gK} {B : Nat} {u : gM} (X : gX κ B skC cX0_readAccount 6 RX0 (some .boolean) 8 192)   {x1 : Int32} {x2 : Int32} {x3 : Int64} {s1 : Int32} {s2 : Int32} {w : (Int32 × gM)} (hM : X0_readAccount_b46 x1 x2 x3 s1 s2 u = some w) : gV κ B skC 6 ((some (.int w.1)), w.2) 46 [some (.ref (B + 116)), some (.int x1), some (.int x2), some (.long x3), none, none] [.int s2, .int s1, .ref (B + 1)] u := by
  unfold X0_readAccount_b46 at hM
  obtain ⟨w46, e46, hM⟩ := bind_of hM
  refine g_callVi X (fun B adK => [.int s1, .int s2]) (s_X9_passNew e46) cvX0_80 cC_1 rfl rfl (Nat.le_of_ble_eq_true rfl) ⟨by decide, by decide⟩ dX0_readAccount_46 ?_
  refine g_if_eq (tgt := 64) X dX0_readAccount_49 (by decide) (fun c49 => ?_) (fun c49 => ?_)
  · rw [if_pos c49] at hM
    refine g_mk [false, false, false, false, false, false] [none, none, none, none, none, none] rfl ?_
    exact v_X0_readAccount_b64 X  hM
  · rw [if_neg c49] at hM
    refine g_aload_n X dX0_readAccount_52 rfl ?_
    refine g_getR X fX0_18 cC_116 rfl dX0_readAccount_53 ?_
    refine g_bipush X (v := 10) dX0_readAccount_56 (by decide) ?_
    obtain ⟨w58, e58, hM⟩ := bind_of hM
    refine g_callVi X (fun B adK => [.int 10]) (s_X9_passWord e58) cvX0_118 cC_1 rfl rfl (Nat.le_of_ble_eq_true rfl) ⟨by decide, by decide⟩ dX0_readAccount_58 ?_
    refine g_if_ne (tgt := 66) X dX0_readAccount_61 (by decide) (fun c61 => ?_) (fun c61 => ?_)
    · rw [if_neg c61] at hM
      refine g_aload_n X dX0_readAccount_66 rfl ?_
      refine g_getR X fX0_12 cC_116 rfl dX0_readAccount_67 ?_
      refine g_aload_n X dX0_readAccount_70 rfl ?_
      refine g_getR X fX0_18 cC_116 rfl dX0_readAccount_71 ?_
      refine g_getJ X fX0_72 cC_1 rfl dX0_readAccount_74 ?_
      obtain ⟨w77, e77, hM⟩ := bind_of hM
      refine g_callVi X (fun B adK => [.long (w58.2.2 1 7)]) (s_X10_bankNamed e77) cvX0_121 cC_117 rfl rfl (Nat.le_of_ble_eq_true rfl) ⟨by decide, by decide⟩ dX0_readAccount_77 ?_
      refine g_istore X [some (.ref (B + 116)), some (.int x1), some (.int x2), some (.long x3), none, some (.int w77)] dX0_readAccount_80 (by decide) rfl ?_
      refine g_aload_n X dX0_readAccount_82 rfl ?_
      refine g_getR X fX0_18 cC_116 rfl dX0_readAccount_83 ?_
      refine g_iload X dX0_readAccount_86 rfl ?_
      obtain ⟨w88, e88, hM⟩ := bind_of hM
      refine g_callVi X (fun B adK => [.int w77]) (s_X9_passKnown e88) cvX0_115 cC_1 rfl rfl (Nat.le_of_ble_eq_true rfl) ⟨by decide, by decide⟩ dX0_readAccount_88 ?_
      refine g_if_eq (tgt := 115) X dX0_readAccount_91 (by decide) (fun c91 => ?_) (fun c91 => ?_)
      · rw [if_pos c91] at hM
        refine g_mk [false, false, false, false, false, false] [none, none, none, none, none, none] rfl ?_
        exact v_X0_readAccount_b115 X  hM
      · rw [if_neg c91] at hM
        refine g_aload_n X dX0_readAccount_94 rfl ?_
        refine g_getR X fX0_18 cC_116 rfl dX0_readAccount_95 ?_
        refine g_bipush X (v := 11) dX0_readAccount_98 (by decide) ?_
        obtain ⟨w100, e100, hM⟩ := bind_of hM
        refine g_callVi X (fun B adK => [.int 11]) (s_X9_passWord e100) cvX0_118 cC_1 rfl rfl (Nat.le_of_ble_eq_true rfl) ⟨by decide, by decide⟩ dX0_readAccount_100 ?_
        refine g_if_eq (tgt := 115) X dX0_readAccount_103 (by decide) (fun c103 => ?_) (fun c103 => ?_)
        · rw [if_pos c103] at hM
          refine g_mk [false, false, false, false, false, false] [none, none, none, none, none, none] rfl ?_
          exact v_X0_readAccount_b115 X  hM
        · rw [if_neg c103] at hM
          refine g_aload_n X dX0_readAccount_106 rfl ?_
          refine g_iload_n X dX0_readAccount_107 rfl ?_
          refine g_iload_n X dX0_readAccount_108 rfl ?_
          obtain ⟨w109, e109, hM⟩ := bind_of hM
          refine g_callVi X (fun B adK => [.int x2, .int x1]) (s_X0_readOwners e109) cvX0_137 cC_116 rfl rfl (Nat.le_of_ble_eq_true rfl) ⟨by decide, by decide⟩ dX0_readAccount_109 ?_
          refine g_if_ne (tgt := 117) X dX0_readAccount_112 (by decide) (fun c112 => ?_) (fun c112 => ?_)
          · rw [if_neg c112] at hM
            refine g_aload_n X dX0_readAccount_117 rfl ?_
            refine g_getR X fX0_12 cC_116 rfl dX0_readAccount_118 ?_
            refine g_getR X fX0_140 cC_117 rfl dX0_readAccount_121 ?_
            refine g_iload_n X dX0_readAccount_124 rfl ?_
            refine g_iconst X (v := 0) dX0_readAccount_125 (by decide) ?_
            obtain ⟨u126, e126, hM⟩ := bind_of hM
            refine g_iastore X e126 dX0_readAccount_126 ?_
            refine g_iload_n X dX0_readAccount_127 rfl ?_
            refine g_iconst X (v := 2) dX0_readAccount_128 (by decide) ?_
            refine g_icmp_ne (tgt := 154) X dX0_readAccount_129 (by decide) (fun c129 => ?_) (fun c129 => ?_)
            · rw [if_neg c129] at hM
              refine g_mk [true, true, true, true, false, true] [some (.ref (B + 116)), some (.int x1), some (.int x2), some (.long x3), none, some (.int w77)] rfl ?_
              exact v_X0_readAccount_b154 X  hM
            · rw [if_pos c129] at hM
              refine g_aload_n X dX0_readAccount_132 rfl ?_
              refine g_getR X fX0_18 cC_116 rfl dX0_readAccount_133 ?_
              refine g_bipush X (v := 12) dX0_readAccount_136 (by decide) ?_
              obtain ⟨w138, e138, hM⟩ := bind_of hM
              refine g_callVi X (fun B adK => [.int 12]) (s_X9_passWord e138) cvX0_118 cC_1 rfl rfl (Nat.le_of_ble_eq_true rfl) ⟨by decide, by decide⟩ dX0_readAccount_138 ?_
              refine g_if_eq (tgt := 152) X dX0_readAccount_141 (by decide) (fun c141 => ?_) (fun c141 => ?_)
              · rw [if_pos c141] at hM
                refine g_mk [false, false, false, false, false, false] [none, none, none, none, none, none] rfl ?_
                exact v_X0_readAccount_b152 X  hM
              · rw [if_neg c141] at hM
                refine g_aload_n X dX0_readAccount_144 rfl ?_
                refine g_iload_n X dX0_readAccount_145 rfl ?_
                obtain ⟨w146, e146, hM⟩ := bind_of hM
                refine g_callVi X (fun B adK => [.int x2]) (s_X0_readHeirs e146) cvX0_143 cC_116 rfl rfl (Nat.le_of_ble_eq_true rfl) ⟨by decide, by decide⟩ dX0_readAccount_146 ?_
                refine g_if_ne (tgt := 154) X dX0_readAccount_149 (by decide) (fun c149 => ?_) (fun c149 => ?_)
                · rw [if_neg c149] at hM
                  refine g_mk [true, true, true, true, false, true] [some (.ref (B + 116)), some (.int x1), some (.int x2), some (.long x3), none, some (.int w77)] rfl ?_
                  exact v_X0_readAccount_b154 X  hM
                · rw [if_pos c149] at hM
                  refine g_mk [false, false, false, false, false, false] [none, none, none, none, none, none] rfl ?_
                  exact v_X0_readAccount_b152 X  hM
          · rw [if_pos c112] at hM
            refine g_mk [false, false, false, false, false, false] [none, none, none, none, none, none] rfl ?_
            exact v_X0_readAccount_b115 X  hM
    · rw [if_pos c61] at hM
      refine g_mk [false, false, false, false, false, false] [none, none, none, none, none, none] rfl ?_
      exact v_X0_readAccount_b64 X  hM
set_option maxRecDepth 20000 in
theorem v_X0_readAccount {κ : gK} {B : Nat} {u : gM} (X : gX κ B skC cX0_readAccount 6 RX0 (some .boolean) 8 192)   {x1 : Int32} {w : (Int32 × gM)} (hM : X0_readAccount x1 u = some w) : gV κ B skC 6 ((some (.int w.1)), w.2) 0 [some (.ref (B + 116)), some (.int x1), none, none, none, none] [] u := by
  unfold X0_readAccount at hM
  refine g_aload_n X dX0_readAccount_0 rfl ?_
  refine g_getR X fX0_18 cC_116 rfl dX0_readAccount_1 ?_
  obtain ⟨w4, e4, hM⟩ := bind_of hM
  refine g_callVv X (fun B adK => []) (s_X9_step e4) cvX0_66 cC_1 rfl rfl (Nat.le_of_ble_eq_true rfl) ⟨by decide, by decide⟩ dX0_readAccount_4 ?_
  refine g_aload_n X dX0_readAccount_7 rfl ?_
  refine g_getR X fX0_12 cC_116 rfl dX0_readAccount_8 ?_
  refine g_getI X fX0_134 cC_117 rfl dX0_readAccount_11 ?_
  refine g_istore_n X [some (.ref (B + 116)), some (.int x1), some (.int (w4.1 117 2)), none, none, none] dX0_readAccount_14 (by decide) rfl ?_
  refine g_aload_n X dX0_readAccount_15 rfl ?_
  refine g_getR X fX0_18 cC_116 rfl dX0_readAccount_16 ?_
  refine g_getJ X fX0_72 cC_1 rfl dX0_readAccount_19 ?_
  refine g_lstore_n X [some (.ref (B + 116)), some (.int x1), some (.int (w4.1 117 2)), some (.long (w4.2 1 7)), none, none] dX0_readAccount_22 (by decide) rfl ?_
  refine g_aload_n X dX0_readAccount_23 rfl ?_
  refine g_getR X fX0_18 cC_116 rfl dX0_readAccount_24 ?_
  refine g_aload_n X dX0_readAccount_27 rfl ?_
  refine g_getR X fX0_12 cC_116 rfl dX0_readAccount_28 ?_
  refine g_lload_n X dX0_readAccount_31 rfl ?_
  obtain ⟨w32, e32, hM⟩ := bind_of hM
  refine g_callVi X (fun B adK => [.long (w4.2 1 7)]) (s_X10_isTaken e32) cvX0_76 cC_117 rfl rfl (Nat.le_of_ble_eq_true rfl) ⟨by decide, by decide⟩ dX0_readAccount_32 ?_
  refine g_iload_n X dX0_readAccount_35 rfl ?_
  refine g_bipush X (v := 24) dX0_readAccount_36 (by decide) ?_
  refine g_icmp_lt (tgt := 45) X dX0_readAccount_38 (by decide) (fun c38 => ?_) (fun c38 => ?_)
  · rw [if_pos c38] at hM
    refine g_iconst X (v := 0) dX0_readAccount_45 (by decide) ?_
    refine g_mk [true, true, true, true, false, false] [some (.ref (B + 116)), some (.int x1), some (.int (w4.1 117 2)), some (.long (w4.2 1 7)), none, none] rfl ?_
    exact v_X0_readAccount_b46 X  hM
  · rw [if_neg c38] at hM
    refine g_iconst X (v := 1) dX0_readAccount_41 (by decide) ?_
    refine g_goto (tgt := 46) X dX0_readAccount_42 (by decide) ?_
    refine g_mk [true, true, true, true, false, false] [some (.ref (B + 116)), some (.int x1), some (.int (w4.1 117 2)), some (.long (w4.2 1 7)), none, none] rfl ?_
    exact v_X0_readAccount_b46 X  hM
theorem s_X0_readAccount {x1 : Int32} {u : gM} {w : (Int32 × gM)} (hM : X0_readAccount x1 u = some w) : gMet skC yX0_readAccount cX0_readAccount 6 (some .boolean) 8 192 (fun B adK => [.ref (B + 116), .int x1]) u ((fun _ => some (.int w.1)), w.2) := by
  refine gMet.of (by decide) (fun _ _ => Nat.le_of_ble_eq_true rfl) (fun κ B X => ?_)
  have X : gX κ B skC cX0_readAccount 6 RX0 (some .boolean) 8 192 := X
  refine g_mk [true, true, false, false, false, false] [some (.ref (B + 116)), some (.int x1), none, none, none, none] rfl ?_
  exact v_X0_readAccount X  hM
theorem fr_X0_readAccount_b64 {S : Nat → Prop} {u0 u : gM}     {w : (Int32 × gM)} (hM : X0_readAccount_b64 u = some w) (h0 : off S u0 u) : off S u0 w.2 := by
  unfold X0_readAccount_b64 at hM
  cases hM
  exact h0
theorem fr_X0_readAccount_b115 {S : Nat → Prop} {u0 u : gM}     {w : (Int32 × gM)} (hM : X0_readAccount_b115 u = some w) (h0 : off S u0 u) : off S u0 w.2 := by
  unfold X0_readAccount_b115 at hM
  cases hM
  exact h0
theorem fr_X0_readAccount_b171 {S : Nat → Prop} {u0 u : gM}     {w : (Int32 × gM)} (hM : X0_readAccount_b171 u = some w) (h0 : off S u0 u) : off S u0 w.2 := by
  unfold X0_readAccount_b171 at hM
  cases hM
  exact h0
theorem fr_X0_readAccount_b154 {S : Nat → Prop} {u0 u : gM} {x1 : Int32} {x2 : Int32} {x3 : Int64} {x5 : Int32} (hs0 : S 1) (hs1 : S 117) (hs2 : S 120) (hs3 : S 121) (hs4 : S 122) (hs5 : S 123) (hs6 : S 124)   {w : (Int32 × gM)} (hM : X0_readAccount_b154 x1 x2 x3 x5 u = some w) (h0 : off S u0 u) : off S u0 w.2 := by
  unfold X0_readAccount_b154 at hM
  obtain ⟨w157, e157, hM⟩ := bind_of hM
  have h0 := fr_X0_readCoins hs0 hs5 e157 h0
  by_cases c160 : w157.1 = 0
  · rw [if_pos c160] at hM
    exact fr_X0_readAccount_b171   hM h0
  · rw [if_neg c160] at hM
    obtain ⟨w165, e165, hM⟩ := bind_of hM
    have h0 := fr_X0_readTerm hs0 hs6 e165 h0
    by_cases c168 : w165.1 = 0
    · rw [if_pos c168] at hM
      exact fr_X0_readAccount_b171   hM h0
    · rw [if_neg c168] at hM
      obtain ⟨u182, e182, hM⟩ := bind_of hM
      have h0 := off_sJ hs2 e182 h0
      obtain ⟨u192, e192, hM⟩ := bind_of hM
      have h0 := off_sI hs3 e192 h0
      obtain ⟨u203, e203, hM⟩ := bind_of hM
      have h0 := off_sI hs4 e203 h0
      have h0 := off_upI (u := u203) (k := 117) (j := 2) (x := (x2 + 1)) hs1 h0
      cases hM
      exact h0
theorem fr_X0_readAccount_b152 {S : Nat → Prop} {u0 u : gM}     {w : (Int32 × gM)} (hM : X0_readAccount_b152 u = some w) (h0 : off S u0 u) : off S u0 w.2 := by
  unfold X0_readAccount_b152 at hM
  cases hM
  exact h0
theorem fr_X0_readAccount_b46 {S : Nat → Prop} {u0 u : gM} {x1 : Int32} {x2 : Int32} {x3 : Int64} {s1 : Int32} {s2 : Int32} (hs0 : S (rf skC 117 13)) (hs1 : S (rf skC 117 14)) (hs2 : S (rf skC 117 15)) (hs3 : S (rf skC 117 16)) (hs4 : S 1) (hs5 : S 117) (hs6 : S 120) (hs7 : S 121) (hs8 : S 122) (hs9 : S 123) (hs10 : S 124) (hs11 : S 125) (hs12 : S 126)   {w : (Int32 × gM)} (hM : X0_readAccount_b46 x1 x2 x3 s1 s2 u = some w) (h0 : off S u0 u) : off S u0 w.2 := by
  unfold X0_readAccount_b46 at hM
  obtain ⟨w46, e46, hM⟩ := bind_of hM
  have h0 := fr_X9_passNew hs4 e46 h0
  by_cases c49 : w46.1 = 0
  · rw [if_pos c49] at hM
    exact fr_X0_readAccount_b64   hM h0
  · rw [if_neg c49] at hM
    obtain ⟨w58, e58, hM⟩ := bind_of hM
    have h0 := fr_X9_passWord hs4 e58 h0
    by_cases c61 : w58.1 = 0
    · rw [if_pos c61] at hM
      exact fr_X0_readAccount_b64   hM h0
    · rw [if_neg c61] at hM
      obtain ⟨w77, e77, hM⟩ := bind_of hM
      obtain ⟨w88, e88, hM⟩ := bind_of hM
      have h0 := fr_X9_passKnown hs4 e88 h0
      by_cases c91 : w88.1 = 0
      · rw [if_pos c91] at hM
        exact fr_X0_readAccount_b115   hM h0
      · rw [if_neg c91] at hM
        obtain ⟨w100, e100, hM⟩ := bind_of hM
        have h0 := fr_X9_passWord hs4 e100 h0
        by_cases c103 : w100.1 = 0
        · rw [if_pos c103] at hM
          exact fr_X0_readAccount_b115   hM h0
        · rw [if_neg c103] at hM
          obtain ⟨w109, e109, hM⟩ := bind_of hM
          have h0 := fr_X0_readOwners hs0 hs2 hs4 hs11 e109 h0
          by_cases c112 : w109.1 = 0
          · rw [if_pos c112] at hM
            exact fr_X0_readAccount_b115   hM h0
          · rw [if_neg c112] at hM
            obtain ⟨u126, e126, hM⟩ := bind_of hM
            have h0 := off_sI hs12 e126 h0
            by_cases c129 : x1 = 2
            · rw [if_pos c129] at hM
              obtain ⟨w138, e138, hM⟩ := bind_of hM
              have h0 := fr_X9_passWord hs4 e138 h0
              by_cases c141 : w138.1 = 0
              · rw [if_pos c141] at hM
                exact fr_X0_readAccount_b152   hM h0
              · rw [if_neg c141] at hM
                obtain ⟨w146, e146, hM⟩ := bind_of hM
                have h0 := fr_X0_readHeirs hs1 hs3 hs4 e146 h0
                by_cases c149 : w146.1 = 0
                · rw [if_pos c149] at hM
                  exact fr_X0_readAccount_b152   hM h0
                · rw [if_neg c149] at hM
                  exact fr_X0_readAccount_b154 hs4 hs5 hs6 hs7 hs8 hs9 hs10  hM h0
            · rw [if_neg c129] at hM
              exact fr_X0_readAccount_b154 hs4 hs5 hs6 hs7 hs8 hs9 hs10  hM h0
theorem fr_X0_readAccount {S : Nat → Prop} {u0 u : gM} {x1 : Int32} (hs0 : S (rf skC 117 13)) (hs1 : S (rf skC 117 14)) (hs2 : S (rf skC 117 15)) (hs3 : S (rf skC 117 16)) (hs4 : S 1) (hs5 : S 117) (hs6 : S 120) (hs7 : S 121) (hs8 : S 122) (hs9 : S 123) (hs10 : S 124) (hs11 : S 125) (hs12 : S 126)   {w : (Int32 × gM)} (hM : X0_readAccount x1 u = some w) (h0 : off S u0 u) : off S u0 w.2 := by
  unfold X0_readAccount at hM
  obtain ⟨w4, e4, hM⟩ := bind_of hM
  have h0 := fr_X9_step hs4 e4 h0
  obtain ⟨w32, e32, hM⟩ := bind_of hM
  by_cases c38 : (w4.1 117 2) < 24
  · rw [if_pos c38] at hM
    exact fr_X0_readAccount_b46 hs0 hs1 hs2 hs3 hs4 hs5 hs6 hs7 hs8 hs9 hs10 hs11 hs12  hM h0
  · rw [if_neg c38] at hM
    exact fr_X0_readAccount_b46 hs0 hs1 hs2 hs3 hs4 hs5 hs6 hs7 hs8 hs9 hs10 hs11 hs12  hM h0

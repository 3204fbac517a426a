/-! THE LAW'S LOOP: at its head both worlds hold the same desk -/
theorem i_and31 (x : Int32) : ∃ k, k < 32 ∧ x &&& 31 = nI k := by
  refine ⟨(x &&& 31).toBitVec.toNat, ?_, ?_⟩
  · rw [Int32.toBitVec_and, BitVec.toNat_and]
    exact Nat.lt_of_le_of_lt Nat.and_le_right (by decide)
  · have h : (x &&& 31).toBitVec = BitVec.ofNat 32 (x &&& 31).toBitVec.toNat := by rw [BitVec.ofNat_toNat, BitVec.setWidth_eq]
    exact Int32.toBitVec_inj.mp h
theorem lw_le {L i : Nat} (hL : L ≤ 3072) (hi : i ≤ 4000) (h : ¬ (nI L - 6 < nI i)) : i + 6 ≤ L := by
  by_cases h6 : L < 6
  · have h0 : ∀ k, k < 6 → nI k - 6 < nI 0 := by decide
    exact absurd (Int32.lt_of_lt_of_le (h0 L h6) ((nI_leI (by omega) (by omega)).mpr (Nat.zero_le i))) h
  · obtain ⟨j, rfl⟩ : ∃ j, L = j + 6 := ⟨L - 6, by omega⟩
    have e : nI (j + 6) - 6 = nI j := by
      rw [← nI_add]
      show nI j + 6 - 6 = nI j
      rw [Int32.add_sub_cancel]
    rw [e, nI_ltI (by omega) (by omega)] at h
    omega
theorem dL_law_18 : decode code 18 = .ok (.iload_n 3, 1) := by decide +kernel
theorem dL_law_19 : decode code 19 = .ok (.aload_n 0, 1) := by decide +kernel
theorem dL_law_20 : decode code 20 = .ok (.arraylength, 1) := by decide +kernel
theorem dL_law_21 : decode code 21 = .ok (.bipush 6, 2) := by decide +kernel
theorem dL_law_23 : decode code 23 = .ok (.isub, 1) := by decide +kernel
theorem dL_law_24 : decode code 24 = .ok (.if_icmp .gt 1144, 3) := by decide +kernel
theorem dL_law_27 : decode code 27 = .ok (.aload_n 0, 1) := by decide +kernel
theorem dL_law_28 : decode code 28 = .ok (.iload_n 3, 1) := by decide +kernel
theorem dL_law_29 : decode code 29 = .ok (.iaload, 1) := by decide +kernel
theorem dL_law_30 : decode code 30 = .ok (.bipush 31, 2) := by decide +kernel
theorem dL_law_32 : decode code 32 = .ok (.iand, 1) := by decide +kernel
theorem dL_law_33 : decode code 33 = .ok (.tableswitch 1129 0 31 #[143, 206, 229, 242, 255, 278, 301, 334, 367, 400, 423, 456, 489, 502, 535, 578, 611, 645, 709, 753, 776, 820, 844, 877, 911, 955, 978, 1001, 1024, 1058, 1082, 1106], 143) := by decide +kernel
theorem dL_law_1162 : decode code 1162 = .ok (.iinc 3 6, 3) := by decide +kernel
theorem dL_law_1165 : decode code 1165 = .ok (.goto (-1147), 3) := by decide +kernel
theorem dL_law_1168 : decode code 1168 = .ok (.iconst 1, 1) := by decide +kernel
theorem dL_law_1169 : decode code 1169 = .ok (.ireturn, 1) := by decide +kernel
section LP
variable {κ : gK} {B b L c0 w0 : Nat} {Q : State → Prop} {xs : Nat → Int32}
theorem law_sw (X : gXJ κ (gAb B) code 4 RL ret 16 600 600000 7302250) (hsc : gScr b L xs (gAb B) κ) {i : Nat} (hi : i + 6 ≤ L) (hL : L ≤ 3072) (hcw : c0 ≤ 600000 ∧ w0 ≤ 7302250) {T : gT} {N : gN} {P : List gN} {S : gS} {u v : gM} (hR : RR T N P S u v) (kb : ∀ (T : gT) (N : gN) (P : List gN) (S : gS) (u v : gM), RR T N P S u v → gJ κ 4 (gAb B) Q c0 w0 (gW2 B u v) 1162 [some (.ref b), some (.ref B), some (.ref (B + 162)), some (.int (nI i))] []) {k : Nat} (hk : k < 32) : gJ κ 4 (gAb B) Q c0 w0 (gW2 B u v) 33 [some (.ref b), some (.ref B), some (.ref (B + 162)), some (.int (nI i))] [.int (nI k)] := by
  rcases (show k = 0 ∨ k = 1 ∨ k = 2 ∨ k = 3 ∨ k = 4 ∨ k = 5 ∨ k = 6 ∨ k = 7 ∨ k = 8 ∨ k = 9 ∨ k = 10 ∨ k = 11 ∨ k = 12 ∨ k = 13 ∨ k = 14 ∨ k = 15 ∨ k = 16 ∨ k = 17 ∨ k = 18 ∨ k = 19 ∨ k = 20 ∨ k = 21 ∨ k = 22 ∨ k = 23 ∨ k = 24 ∨ k = 25 ∨ k = 26 ∨ k = 27 ∨ k = 28 ∨ k = 29 ∨ k = 30 ∨ k = 31 by omega) with rfl | rfl | rfl | rfl | rfl | rfl | rfl | rfl | rfl | rfl | rfl | rfl | rfl | rfl | rfl | rfl | rfl | rfl | rfl | rfl | rfl | rfl | rfl | rfl | rfl | rfl | rfl | rfl | rfl | rfl | rfl | rfl
  · exact j_tabIn (tgt := 176) (off := 143) X (nI 0) rfl dL_law_33 (by decide) (by decide) (by decide) (by decide) (lc_0 X hsc hi hL hcw hR kb)
  · exact j_tabIn (tgt := 239) (off := 206) X (nI 1) rfl dL_law_33 (by decide) (by decide) (by decide) (by decide) (lc_1 X hsc hi hL hcw hR kb)
  · exact j_tabIn (tgt := 262) (off := 229) X (nI 2) rfl dL_law_33 (by decide) (by decide) (by decide) (by decide) (lc_2 X hsc hi hL hcw hR kb)
  · exact j_tabIn (tgt := 275) (off := 242) X (nI 3) rfl dL_law_33 (by decide) (by decide) (by decide) (by decide) (lc_3 X hsc hi hL hcw hR kb)
  · exact j_tabIn (tgt := 288) (off := 255) X (nI 4) rfl dL_law_33 (by decide) (by decide) (by decide) (by decide) (lc_4 X hsc hi hL hcw hR kb)
  · exact j_tabIn (tgt := 311) (off := 278) X (nI 5) rfl dL_law_33 (by decide) (by decide) (by decide) (by decide) (lc_5 X hsc hi hL hcw hR kb)
  · exact j_tabIn (tgt := 334) (off := 301) X (nI 6) rfl dL_law_33 (by decide) (by decide) (by decide) (by decide) (lc_6 X hsc hi hL hcw hR kb)
  · exact j_tabIn (tgt := 367) (off := 334) X (nI 7) rfl dL_law_33 (by decide) (by decide) (by decide) (by decide) (lc_7 X hsc hi hL hcw hR kb)
  · exact j_tabIn (tgt := 400) (off := 367) X (nI 8) rfl dL_law_33 (by decide) (by decide) (by decide) (by decide) (lc_8 X hsc hi hL hcw hR kb)
  · exact j_tabIn (tgt := 433) (off := 400) X (nI 9) rfl dL_law_33 (by decide) (by decide) (by decide) (by decide) (lc_9 X hsc hi hL hcw hR kb)
  · exact j_tabIn (tgt := 456) (off := 423) X (nI 10) rfl dL_law_33 (by decide) (by decide) (by decide) (by decide) (lc_10 X hsc hi hL hcw hR kb)
  · exact j_tabIn (tgt := 489) (off := 456) X (nI 11) rfl dL_law_33 (by decide) (by decide) (by decide) (by decide) (lc_11 X hsc hi hL hcw hR kb)
  · exact j_tabIn (tgt := 522) (off := 489) X (nI 12) rfl dL_law_33 (by decide) (by decide) (by decide) (by decide) (lc_12 X hsc hi hL hcw hR kb)
  · exact j_tabIn (tgt := 535) (off := 502) X (nI 13) rfl dL_law_33 (by decide) (by decide) (by decide) (by decide) (lc_13 X hsc hi hL hcw hR kb)
  · exact j_tabIn (tgt := 568) (off := 535) X (nI 14) rfl dL_law_33 (by decide) (by decide) (by decide) (by decide) (lc_14 X hsc hi hL hcw hR kb)
  · exact j_tabIn (tgt := 611) (off := 578) X (nI 15) rfl dL_law_33 (by decide) (by decide) (by decide) (by decide) (lc_15 X hsc hi hL hcw hR kb)
  · exact j_tabIn (tgt := 644) (off := 611) X (nI 16) rfl dL_law_33 (by decide) (by decide) (by decide) (by decide) (lc_16 X hsc hi hL hcw hR kb)
  · exact j_tabIn (tgt := 678) (off := 645) X (nI 17) rfl dL_law_33 (by decide) (by decide) (by decide) (by decide) (lc_17 X hsc hi hL hcw hR kb)
  · exact j_tabIn (tgt := 742) (off := 709) X (nI 18) rfl dL_law_33 (by decide) (by decide) (by decide) (by decide) (lc_18 X hsc hi hL hcw hR kb)
  · exact j_tabIn (tgt := 786) (off := 753) X (nI 19) rfl dL_law_33 (by decide) (by decide) (by decide) (by decide) (lc_19 X hsc hi hL hcw hR kb)
  · exact j_tabIn (tgt := 809) (off := 776) X (nI 20) rfl dL_law_33 (by decide) (by decide) (by decide) (by decide) (lc_20 X hsc hi hL hcw hR kb)
  · exact j_tabIn (tgt := 853) (off := 820) X (nI 21) rfl dL_law_33 (by decide) (by decide) (by decide) (by decide) (lc_21 X hsc hi hL hcw hR kb)
  · exact j_tabIn (tgt := 877) (off := 844) X (nI 22) rfl dL_law_33 (by decide) (by decide) (by decide) (by decide) (lc_22 X hsc hi hL hcw hR kb)
  · exact j_tabIn (tgt := 910) (off := 877) X (nI 23) rfl dL_law_33 (by decide) (by decide) (by decide) (by decide) (lc_23 X hsc hi hL hcw hR kb)
  · exact j_tabIn (tgt := 944) (off := 911) X (nI 24) rfl dL_law_33 (by decide) (by decide) (by decide) (by decide) (lc_24 X hsc hi hL hcw hR kb)
  · exact j_tabIn (tgt := 988) (off := 955) X (nI 25) rfl dL_law_33 (by decide) (by decide) (by decide) (by decide) (lc_25 X hsc hi hL hcw hR kb)
  · exact j_tabIn (tgt := 1011) (off := 978) X (nI 26) rfl dL_law_33 (by decide) (by decide) (by decide) (by decide) (lc_26 X hsc hi hL hcw hR kb)
  · exact j_tabIn (tgt := 1034) (off := 1001) X (nI 27) rfl dL_law_33 (by decide) (by decide) (by decide) (by decide) (lc_27 X hsc hi hL hcw hR kb)
  · exact j_tabIn (tgt := 1057) (off := 1024) X (nI 28) rfl dL_law_33 (by decide) (by decide) (by decide) (by decide) (lc_28 X hsc hi hL hcw hR kb)
  · exact j_tabIn (tgt := 1091) (off := 1058) X (nI 29) rfl dL_law_33 (by decide) (by decide) (by decide) (by decide) (lc_29 X hsc hi hL hcw hR kb)
  · exact j_tabIn (tgt := 1115) (off := 1082) X (nI 30) rfl dL_law_33 (by decide) (by decide) (by decide) (by decide) (lc_30 X hsc hi hL hcw hR kb)
  · exact j_tabIn (tgt := 1139) (off := 1106) X (nI 31) rfl dL_law_33 (by decide) (by decide) (by decide) (by decide) (lc_31 X hsc hi hL hcw hR kb)
theorem law_loop (X : gXJ κ (gAb B) code 4 RL ret 16 600 600000 7302250) (hsc : gScr b L xs (gAb B) κ) (hL : L ≤ 3072) (hcw : c0 ≤ 600000 ∧ w0 ≤ 7302250) (kend : ∀ (Wd : va_G → (Nat → ClassId) → Heap → Prop) (lv : List (Option Value)), gJ κ 4 (gAb B) Q c0 w0 Wd 1168 lv []) : ∀ (n i : Nat) (T : gT) (N : gN) (P : List gN) (S : gS) (u v : gM), i ≤ L + 6 → L + 7 ≤ i + n → RR T N P S u v → gJ κ 4 (gAb B) Q c0 w0 (gW2 B u v) 18 [some (.ref b), some (.ref B), some (.ref (B + 162)), some (.int (nI i))] [] := by
  intro n
  induction n with
  | zero => intro i T N P S u v h1 h2; omega
  | succ n ih =>
    intro i T N P S u v h1 h2 hR
    refine j_iload_n X (x := nI i) dL_law_18 rfl ?_
    refine j_aload_n X (x := b) dL_law_19 rfl ?_
    refine j_slen X hsc dL_law_20 ?_
    refine j_bipush X (v := 6) dL_law_21 (by decide) ?_
    refine j_isub X dL_law_23 ?_
    refine j_icmp_gt (tgt := 1168) X dL_law_24 (by decide) (fun _ => kend _ _) (fun hn => ?_)
    have hi : i + 6 ≤ L := lw_le hL (by omega) hn
    refine j_aload_n X (x := b) dL_law_27 rfl ?_
    refine j_iload_n X (x := nI i) dL_law_28 rfl ?_
    refine j_sld X hsc rfl (show i < L by omega) hL dL_law_29 ?_
    refine j_bipush X (v := 31) dL_law_30 (by decide) ?_
    refine j_iand X dL_law_32 ?_
    obtain ⟨k, hk, ek⟩ := i_and31 (xs i)
    rw [ek]
    refine law_sw X hsc hi hL hcw hR (fun T2 N2 P2 S2 u2 v2 hR2 => ?_) hk
    refine j_iincv (d := 6) (v := nI (i + 6)) X [some (.ref b), some (.ref B), some (.ref (B + 162)), some (.int (nI (i + 6)))] dL_law_1162 (by decide) rfl (by decide) (nI_add i 6) rfl ?_
    refine j_goto (tgt := 18) X dL_law_1165 (by decide) ?_
    exact ih (i + 6) T2 N2 P2 S2 u2 v2 (by omega) (by omega) hR2
end LP

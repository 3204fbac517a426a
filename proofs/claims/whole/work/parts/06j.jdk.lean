theorem dJ0_length_8abf5_0 : decode cJ0_length_8abf5 0 = .ok (.aload_n 0, 1) := by decide +kernel
theorem dJ0_length_8abf5_1 : decode cJ0_length_8abf5 1 = .ok (.getfield 9, 3) := by decide +kernel
theorem dJ0_length_8abf5_4 : decode cJ0_length_8abf5 4 = .ok (.arraylength, 1) := by decide +kernel
theorem dJ0_length_8abf5_5 : decode cJ0_length_8abf5 5 = .ok (.aload_n 0, 1) := by decide +kernel
theorem dJ0_length_8abf5_6 : decode cJ0_length_8abf5 6 = .ok (.invokevirtual 335, 3) := by decide +kernel
theorem dJ0_length_8abf5_9 : decode cJ0_length_8abf5 9 = .ok (.ishr, 1) := by decide +kernel
theorem dJ0_length_8abf5_10 : decode cJ0_length_8abf5 10 = .ok (.ireturn, 1) := by decide +kernel
theorem dJ0_coder_7d493_0 : decode cJ0_coder_7d493 0 = .ok (.getstatic 38, 3) := by decide +kernel
theorem dJ0_coder_7d493_3 : decode cJ0_coder_7d493 3 = .ok (.ifCond .eq 10, 3) := by decide +kernel
theorem dJ0_coder_7d493_6 : decode cJ0_coder_7d493 6 = .ok (.aload_n 0, 1) := by decide +kernel
theorem dJ0_coder_7d493_7 : decode cJ0_coder_7d493 7 = .ok (.getfield 15, 3) := by decide +kernel
theorem dJ0_coder_7d493_10 : decode cJ0_coder_7d493 10 = .ok (.goto 4, 3) := by decide +kernel
theorem dJ0_coder_7d493_13 : decode cJ0_coder_7d493 13 = .ok (.iconst 1, 1) := by decide +kernel
theorem dJ0_coder_7d493_14 : decode cJ0_coder_7d493 14 = .ok (.ireturn, 1) := by decide +kernel
theorem dJ0_isLatin1_aae02_0 : decode cJ0_isLatin1_aae02 0 = .ok (.getstatic 38, 3) := by decide +kernel
theorem dJ0_isLatin1_aae02_3 : decode cJ0_isLatin1_aae02 3 = .ok (.ifCond .eq 14, 3) := by decide +kernel
theorem dJ0_isLatin1_aae02_6 : decode cJ0_isLatin1_aae02 6 = .ok (.aload_n 0, 1) := by decide +kernel
theorem dJ0_isLatin1_aae02_7 : decode cJ0_isLatin1_aae02 7 = .ok (.getfield 15, 3) := by decide +kernel
theorem dJ0_isLatin1_aae02_10 : decode cJ0_isLatin1_aae02 10 = .ok (.ifCond .ne 7, 3) := by decide +kernel
theorem dJ0_isLatin1_aae02_13 : decode cJ0_isLatin1_aae02 13 = .ok (.iconst 1, 1) := by decide +kernel
theorem dJ0_isLatin1_aae02_14 : decode cJ0_isLatin1_aae02 14 = .ok (.goto 4, 3) := by decide +kernel
theorem dJ0_isLatin1_aae02_17 : decode cJ0_isLatin1_aae02 17 = .ok (.iconst 0, 1) := by decide +kernel
theorem dJ0_isLatin1_aae02_18 : decode cJ0_isLatin1_aae02 18 = .ok (.ireturn, 1) := by decide +kernel
theorem dJ0_charAt_5068e_0 : decode cJ0_charAt_5068e 0 = .ok (.aload_n 0, 1) := by decide +kernel
theorem dJ0_charAt_5068e_1 : decode cJ0_charAt_5068e 1 = .ok (.invokevirtual 492, 3) := by decide +kernel
theorem dJ0_charAt_5068e_4 : decode cJ0_charAt_5068e 4 = .ok (.ifCond .eq 12, 3) := by decide +kernel
theorem dJ0_charAt_5068e_7 : decode cJ0_charAt_5068e 7 = .ok (.aload_n 0, 1) := by decide +kernel
theorem dJ0_charAt_5068e_8 : decode cJ0_charAt_5068e 8 = .ok (.getfield 9, 3) := by decide +kernel
theorem dJ0_charAt_5068e_11 : decode cJ0_charAt_5068e 11 = .ok (.iload_n 1, 1) := by decide +kernel
theorem dJ0_charAt_5068e_12 : decode cJ0_charAt_5068e 12 = .ok (.invokestatic 495, 3) := by decide +kernel
theorem dJ0_charAt_5068e_15 : decode cJ0_charAt_5068e 15 = .ok (.ireturn, 1) := by decide +kernel
theorem dJ0_charAt_5068e_16 : decode cJ0_charAt_5068e 16 = .ok (.aload_n 0, 1) := by decide +kernel
theorem dJ0_charAt_5068e_17 : decode cJ0_charAt_5068e 17 = .ok (.getfield 9, 3) := by decide +kernel
theorem dJ0_charAt_5068e_20 : decode cJ0_charAt_5068e 20 = .ok (.iload_n 1, 1) := by decide +kernel
theorem dJ0_charAt_5068e_21 : decode cJ0_charAt_5068e 21 = .ok (.invokestatic 498, 3) := by decide +kernel
theorem dJ0_charAt_5068e_24 : decode cJ0_charAt_5068e 24 = .ok (.ireturn, 1) := by decide +kernel
theorem dJ1_charAt_3b067_0 : decode cJ1_charAt_3b067 0 = .ok (.iload_n 1, 1) := by decide +kernel
theorem dJ1_charAt_3b067_1 : decode cJ1_charAt_3b067 1 = .ok (.aload_n 0, 1) := by decide +kernel
theorem dJ1_charAt_3b067_2 : decode cJ1_charAt_3b067 2 = .ok (.arraylength, 1) := by decide +kernel
theorem dJ1_charAt_3b067_3 : decode cJ1_charAt_3b067 3 = .ok (.invokestatic 9, 3) := by decide +kernel
theorem dJ1_charAt_3b067_6 : decode cJ1_charAt_3b067 6 = .ok (.aload_n 0, 1) := by decide +kernel
theorem dJ1_charAt_3b067_7 : decode cJ1_charAt_3b067 7 = .ok (.iload_n 1, 1) := by decide +kernel
theorem dJ1_charAt_3b067_8 : decode cJ1_charAt_3b067 8 = .ok (.baload, 1) := by decide +kernel
theorem dJ1_charAt_3b067_9 : decode cJ1_charAt_3b067 9 = .ok (.sipush 255, 3) := by decide +kernel
theorem dJ1_charAt_3b067_12 : decode cJ1_charAt_3b067 12 = .ok (.iand, 1) := by decide +kernel
theorem dJ1_charAt_3b067_13 : decode cJ1_charAt_3b067 13 = .ok (.i2c, 1) := by decide +kernel
theorem dJ1_charAt_3b067_14 : decode cJ1_charAt_3b067 14 = .ok (.ireturn, 1) := by decide +kernel
theorem dJ0_checkIndex_df160_0 : decode cJ0_checkIndex_df160 0 = .ok (.iload_n 0, 1) := by decide +kernel
theorem dJ0_checkIndex_df160_1 : decode cJ0_checkIndex_df160 1 = .ok (.iload_n 1, 1) := by decide +kernel
theorem dJ0_checkIndex_df160_2 : decode cJ0_checkIndex_df160 2 = .ok (.getstatic 1053, 3) := by decide +kernel
theorem dJ0_checkIndex_df160_5 : decode cJ0_checkIndex_df160 5 = .ok (.invokestatic 1059, 3) := by decide +kernel
theorem dJ0_checkIndex_df160_8 : decode cJ0_checkIndex_df160 8 = .ok (.pop, 1) := by decide +kernel
theorem dJ0_checkIndex_df160_9 : decode cJ0_checkIndex_df160 9 = .ok (.return_, 1) := by decide +kernel
theorem dJ3_checkIndex_8e157_0 : decode cJ3_checkIndex_8e157 0 = .ok (.iload_n 0, 1) := by decide +kernel
theorem dJ3_checkIndex_8e157_1 : decode cJ3_checkIndex_8e157 1 = .ok (.ifCond .lt 8, 3) := by decide +kernel
theorem dJ3_checkIndex_8e157_4 : decode cJ3_checkIndex_8e157 4 = .ok (.iload_n 0, 1) := by decide +kernel
theorem dJ3_checkIndex_8e157_5 : decode cJ3_checkIndex_8e157 5 = .ok (.iload_n 1, 1) := by decide +kernel
theorem dJ3_checkIndex_8e157_6 : decode cJ3_checkIndex_8e157 6 = .ok (.if_icmp .lt 10, 3) := by decide +kernel
theorem dJ3_checkIndex_8e157_9 : decode cJ3_checkIndex_8e157 9 = .ok (.aload_n 2, 1) := by decide +kernel
theorem dJ3_checkIndex_8e157_10 : decode cJ3_checkIndex_8e157 10 = .ok (.iload_n 0, 1) := by decide +kernel
theorem dJ3_checkIndex_8e157_11 : decode cJ3_checkIndex_8e157 11 = .ok (.iload_n 1, 1) := by decide +kernel
theorem dJ3_checkIndex_8e157_12 : decode cJ3_checkIndex_8e157 12 = .ok (.invokestatic 95, 3) := by decide +kernel
theorem dJ3_checkIndex_8e157_15 : decode cJ3_checkIndex_8e157 15 = .ok (.athrow, 1) := by decide +kernel
theorem dJ3_checkIndex_8e157_16 : decode cJ3_checkIndex_8e157 16 = .ok (.iload_n 0, 1) := by decide +kernel
theorem dJ3_checkIndex_8e157_17 : decode cJ3_checkIndex_8e157 17 = .ok (.ireturn, 1) := by decide +kernel
theorem mj_14_6 : Cond.fieldLink RJ0 9 "java/lang/String" "value" "[B" ∈ tb := it_14 _ (List.mem_of_getElem? (i := 6) rfl)
theorem mj_14_12 : Cond.fieldLink RJ0 15 "java/lang/String" "coder" "B" ∈ tb := it_14 _ (List.mem_of_getElem? (i := 12) rfl)
theorem mj_14_11 : Cond.fieldLink RJ0 38 "java/lang/String" "COMPACT_STRINGS" "Z" ∈ tb := it_14 _ (List.mem_of_getElem? (i := 11) rfl)
theorem mj_15_4 : Cond.fieldLink RJ0 1053 "jdk/internal/util/Preconditions" "SIOOBE_FORMATTER" "Ljava/util/function/BiFunction;" ∈ tb := it_15 _ (List.mem_of_getElem? (i := 4) rfl)
theorem mj_14_7 : Cond.methodLink RJ0 335 yJ0_coder_7d493 ∈ tb := it_14 _ (List.mem_of_getElem? (i := 7) rfl)
theorem mj_14_8 : Cond.instanceMethod yJ0_coder_7d493 ∈ tb := it_14 _ (List.mem_of_getElem? (i := 8) rfl)
theorem mj_14_9 : Cond.selects RJ0 yJ0_coder_7d493 yJ0_coder_7d493 ∈ tb := it_14 _ (List.mem_of_getElem? (i := 9) rfl)
theorem mj_14_4 : Cond.initialized RJ0 ∈ tb := it_14 _ (List.mem_of_getElem? (i := 4) rfl)
theorem mj_14_10 : Cond.code yJ0_coder_7d493 cJ0_coder_7d493 1 (some .byte) ∈ tb := it_14 _ (List.mem_of_getElem? (i := 10) rfl)
theorem mj_14_17 : Cond.methodLink RJ0 492 yJ0_isLatin1_aae02 ∈ tb := it_14 _ (List.mem_of_getElem? (i := 17) rfl)
theorem mj_14_18 : Cond.instanceMethod yJ0_isLatin1_aae02 ∈ tb := it_14 _ (List.mem_of_getElem? (i := 18) rfl)
theorem mj_14_19 : Cond.selects RJ0 yJ0_isLatin1_aae02 yJ0_isLatin1_aae02 ∈ tb := it_14 _ (List.mem_of_getElem? (i := 19) rfl)
theorem mj_14_20 : Cond.code yJ0_isLatin1_aae02 cJ0_isLatin1_aae02 1 (some .boolean) ∈ tb := it_14 _ (List.mem_of_getElem? (i := 20) rfl)
theorem mj_14_21 : Cond.methodLink RJ0 495 yJ1_charAt_3b067 ∈ tb := it_14 _ (List.mem_of_getElem? (i := 21) rfl)
theorem mj_14_22 : Cond.static yJ1_charAt_3b067 ∈ tb := it_14 _ (List.mem_of_getElem? (i := 22) rfl)
theorem mj_14_23 : Cond.initialized RJ1 ∈ tb := it_14 _ (List.mem_of_getElem? (i := 23) rfl)
theorem mj_15_0 : Cond.code yJ1_charAt_3b067 cJ1_charAt_3b067 2 (some .char) ∈ tb := it_15 _ (List.mem_of_getElem? (i := 0) rfl)
theorem mj_15_1 : Cond.methodLink RJ1 9 yJ0_checkIndex_df160 ∈ tb := it_15 _ (List.mem_of_getElem? (i := 1) rfl)
theorem mj_15_2 : Cond.static yJ0_checkIndex_df160 ∈ tb := it_15 _ (List.mem_of_getElem? (i := 2) rfl)
theorem mj_15_3 : Cond.code yJ0_checkIndex_df160 cJ0_checkIndex_df160 2 none ∈ tb := it_15 _ (List.mem_of_getElem? (i := 3) rfl)
theorem mj_15_5 : Cond.methodLink RJ0 1059 yJ3_checkIndex_8e157 ∈ tb := it_15 _ (List.mem_of_getElem? (i := 5) rfl)
theorem mj_15_6 : Cond.static yJ3_checkIndex_8e157 ∈ tb := it_15 _ (List.mem_of_getElem? (i := 6) rfl)
theorem mj_15_7 : Cond.initialized RJ3 ∈ tb := it_15 _ (List.mem_of_getElem? (i := 7) rfl)
theorem mj_15_8 : Cond.code yJ3_checkIndex_8e157 cJ3_checkIndex_8e157 3 (some .int) ∈ tb := it_15 _ (List.mem_of_getElem? (i := 8) rfl)
theorem mj_14_2 : Cond.instanceMethod yJ0_length_8abf5 ∈ tb := it_14 _ (List.mem_of_getElem? (i := 2) rfl)
theorem mj_14_3 : Cond.selects RJ0 yJ0_length_8abf5 yJ0_length_8abf5 ∈ tb := it_14 _ (List.mem_of_getElem? (i := 3) rfl)
theorem mj_14_5 : Cond.code yJ0_length_8abf5 cJ0_length_8abf5 1 (some .int) ∈ tb := it_14 _ (List.mem_of_getElem? (i := 5) rfl)
theorem mj_14_14 : Cond.instanceMethod yJ0_charAt_5068e ∈ tb := it_14 _ (List.mem_of_getElem? (i := 14) rfl)
theorem mj_14_15 : Cond.selects RJ0 yJ0_charAt_5068e yJ0_charAt_5068e ∈ tb := it_14 _ (List.mem_of_getElem? (i := 15) rfl)
theorem mj_14_16 : Cond.code yJ0_charAt_5068e cJ0_charAt_5068e 2 (some .char) ∈ tb := it_14 _ (List.mem_of_getElem? (i := 16) rfl)
section JDK
variable {sk : List gE} {u : gM}
theorem sj_coder {i : Nat} (hi : i < 22) : gMet sk yJ0_coder_7d493 cJ0_coder_7d493 1 (some .byte) 0 0 (fun _ adK => [.ref (adK i)]) u (fun _ => some (.int 0), u) := by
  refine gMet.of (by decide) (fun _ _ => Nat.le_of_ble_eq_true rfl) (fun κ B X => ?_)
  have X : gX κ B sk cJ0_coder_7d493 1 RJ0 (some .byte) 0 0 := X
  refine g_mk [true] [some (.ref (gAd κ i))] rfl ?_
  refine g_sCmp X mj_14_11 dJ0_coder_7d493_0 ?_
  refine g_if_eq (tgt := 13) X dJ0_coder_7d493_3 (by decide) (fun c => absurd c (by decide)) (fun _ => ?_)
  refine g_aload_n X dJ0_coder_7d493_6 rfl ?_
  refine g_sCod X hi mj_14_12 dJ0_coder_7d493_7 ?_
  refine g_goto (tgt := 14) X dJ0_coder_7d493_10 (by decide) ?_
  exact g_nret X (by decide) dJ0_coder_7d493_14
theorem sj_isLatin1 {i : Nat} (hi : i < 22) : gMet sk yJ0_isLatin1_aae02 cJ0_isLatin1_aae02 1 (some .boolean) 0 0 (fun _ adK => [.ref (adK i)]) u (fun _ => some (.int 1), u) := by
  refine gMet.of (by decide) (fun _ _ => Nat.le_of_ble_eq_true rfl) (fun κ B X => ?_)
  have X : gX κ B sk cJ0_isLatin1_aae02 1 RJ0 (some .boolean) 0 0 := X
  refine g_mk [true] [some (.ref (gAd κ i))] rfl ?_
  refine g_sCmp X mj_14_11 dJ0_isLatin1_aae02_0 ?_
  refine g_if_eq (tgt := 17) X dJ0_isLatin1_aae02_3 (by decide) (fun c => absurd c (by decide)) (fun _ => ?_)
  refine g_aload_n X dJ0_isLatin1_aae02_6 rfl ?_
  refine g_sCod X hi mj_14_12 dJ0_isLatin1_aae02_7 ?_
  refine g_if_ne (tgt := 17) X dJ0_isLatin1_aae02_10 (by decide) (fun c => absurd rfl c) (fun _ => ?_)
  refine g_iconst (v := 1) X dJ0_isLatin1_aae02_13 (by decide) ?_
  refine g_goto (tgt := 18) X dJ0_isLatin1_aae02_14 (by decide) ?_
  exact g_zret X (Or.inr rfl) dJ0_isLatin1_aae02_18
theorem sj_checkIndexP {x n : Int32} {q : Value} (hq : q = .null ∨ ∃ t, q = .ref t) (h1 : ¬ x < 0) (h2 : x < n) : gMet sk yJ3_checkIndex_8e157 cJ3_checkIndex_8e157 3 (some .int) 0 0 (fun _ _ => [.int x, .int n, q]) u (fun _ => some (.int x), u) := by
  have hn : ∀ (B : Nat) (adK : Nat → Nat), (lg_sl ([.int x, .int n, q] : List Value)).length ≤ 3 := by
    rcases hq with rfl | ⟨t, rfl⟩ <;> exact fun _ _ => Nat.le_of_ble_eq_true rfl
  have hl : gMk [true, true, false] (gLv [.int x, .int n, q]) = [some (.int x), some (.int n), none] := by
    rcases hq with rfl | ⟨t, rfl⟩ <;> rfl
  refine gMet.of (by decide) hn (fun κ B X => ?_)
  have X : gX κ B sk cJ3_checkIndex_8e157 3 RJ3 (some .int) 0 0 := X
  refine g_mk [true, true, false] [some (.int x), some (.int n), none] hl ?_
  refine g_iload_n X dJ3_checkIndex_8e157_0 rfl ?_
  refine g_if_lt (tgt := 9) X dJ3_checkIndex_8e157_1 (by decide) (fun c => absurd c h1) (fun _ => ?_)
  refine g_iload_n X dJ3_checkIndex_8e157_4 rfl ?_
  refine g_iload_n X dJ3_checkIndex_8e157_5 rfl ?_
  refine g_icmp_lt (tgt := 16) X dJ3_checkIndex_8e157_6 (by decide) (fun _ => ?_) (fun c => absurd h2 c)
  refine g_iload_n X dJ3_checkIndex_8e157_16 rfl ?_
  exact g_iret X dJ3_checkIndex_8e157_17
theorem sj_checkIndex {x n : Int32} (h1 : ¬ x < 0) (h2 : x < n) : gMet sk yJ0_checkIndex_df160 cJ0_checkIndex_df160 2 none 1 22 (fun _ _ => [.int x, .int n]) u (fun _ => none, u) := by
  refine gMet.of (by decide) (fun _ _ => Nat.le_of_ble_eq_true rfl) (fun κ B X => ?_)
  have X : gX κ B sk cJ0_checkIndex_df160 2 RJ0 none 1 22 := X
  refine g_mk [true, true] [some (.int x), some (.int n)] rfl ?_
  refine g_iload_n X dJ0_checkIndex_df160_0 rfl ?_
  refine g_iload_n X dJ0_checkIndex_df160_1 rfl ?_
  refine g_sFmt X mj_15_4 dJ0_checkIndex_df160_2 ?_ (fun t => ?_)
  · refine g_callSi (n := 3) X (fun _ _ => [.int x, .int n, .null]) (sj_checkIndexP (Or.inl rfl) h1 h2) ⟨gi_S mj_15_5 mj_15_6 mj_15_7 mj_15_8, by decide +kernel, by decide +kernel, by decide +kernel⟩ rfl rfl (Nat.le_of_ble_eq_true rfl) ⟨by decide, by decide⟩ dJ0_checkIndex_df160_5 ?_
    refine g_pop X rfl dJ0_checkIndex_df160_8 ?_
    exact g_vret X dJ0_checkIndex_df160_9
  · refine g_callSi (n := 3) X (fun _ _ => [.int x, .int n, .ref t]) (sj_checkIndexP (Or.inr ⟨t, rfl⟩) h1 h2) ⟨gi_S mj_15_5 mj_15_6 mj_15_7 mj_15_8, by decide +kernel, by decide +kernel, by decide +kernel⟩ rfl rfl (Nat.le_of_ble_eq_true rfl) ⟨by decide, by decide⟩ dJ0_checkIndex_df160_5 ?_
    refine g_pop X rfl dJ0_checkIndex_df160_8 ?_
    exact g_vret X dJ0_checkIndex_df160_9
theorem sj_charAt1 {i : Nat} {j v : Int32} (hi : i < 22) (h1 : ¬ j < 0) (h2 : j < Int32.ofNat (gLn.getD i 0)) (h3 : vp_in j (gLn.getD i 0)) (hv : (gBy.getD i []).getD j.toNatClampNeg 0 = v) (hc : ((v &&& 255).toUInt32 % 65536).toInt32 = v) (hw : narrow .char (.int v) = .int v) : gMet sk yJ1_charAt_3b067 cJ1_charAt_3b067 2 (some .char) 2 43 (fun _ adK => [.ref (adK (100 + i)), .int j]) u (fun _ => some (.int v), u) := by
  refine gMet.of (by decide) (fun _ _ => Nat.le_of_ble_eq_true rfl) (fun κ B X => ?_)
  have X : gX κ B sk cJ1_charAt_3b067 2 RJ1 (some .char) 2 43 := X
  refine g_mk [true, true] [some (.ref (gAd κ (100 + i))), some (.int j)] rfl ?_
  refine g_iload_n X dJ1_charAt_3b067_0 rfl ?_
  refine g_aload_n X dJ1_charAt_3b067_1 rfl ?_
  refine g_sLen X hi rfl dJ1_charAt_3b067_2 ?_
  refine g_callSv (n := 2) X (fun _ _ => [.int j, .int (Int32.ofNat (gLn.getD i 0))]) (sj_checkIndex h1 h2) ⟨gi_S mj_15_1 mj_15_2 mj_14_4 mj_15_3, by decide +kernel, by decide +kernel, by decide +kernel⟩ rfl rfl (Nat.le_of_ble_eq_true rfl) ⟨by decide, by decide⟩ dJ1_charAt_3b067_3 ?_
  refine g_aload_n X dJ1_charAt_3b067_6 rfl ?_
  refine g_iload_n X dJ1_charAt_3b067_7 rfl ?_
  refine g_sByt X hi h3 hv dJ1_charAt_3b067_8 ?_
  refine g_sipush (v := 255) X dJ1_charAt_3b067_9 (by decide) ?_
  refine g_iand X dJ1_charAt_3b067_12 ?_
  refine g_i2c X dJ1_charAt_3b067_13 ?_
  rw [hc]
  exact g_nret X hw dJ1_charAt_3b067_14
theorem sj_charAt {i : Nat} {j v : Int32} (hi : i < 22) (h1 : ¬ j < 0) (h2 : j < Int32.ofNat (gLn.getD i 0)) (h3 : vp_in j (gLn.getD i 0)) (hv : (gBy.getD i []).getD j.toNatClampNeg 0 = v) (hc : ((v &&& 255).toUInt32 % 65536).toInt32 = v) (hw : narrow .char (.int v) = .int v) : gMet sk yJ0_charAt_5068e cJ0_charAt_5068e 2 (some .char) 3 64 (fun _ adK => [.ref (adK i), .int j]) u (fun _ => some (.int v), u) := by
  refine gMet.of (by decide) (fun _ _ => Nat.le_of_ble_eq_true rfl) (fun κ B X => ?_)
  have X : gX κ B sk cJ0_charAt_5068e 2 RJ0 (some .char) 3 64 := X
  refine g_mk [true, true] [some (.ref (gAd κ i)), some (.int j)] rfl ?_
  refine g_aload_n X dJ0_charAt_5068e_0 rfl ?_
  refine g_callVS X (fun _ _ => []) hi (sj_isLatin1 hi) (gi_V mj_14_17 mj_14_18 mj_14_19 mj_14_4 mj_14_20) ⟨rfl, by decide +kernel, by decide +kernel, by decide +kernel⟩ rfl rfl (Nat.le_of_ble_eq_true rfl) ⟨by decide, by decide⟩ dJ0_charAt_5068e_1 ?_
  refine g_if_eq (tgt := 16) X dJ0_charAt_5068e_4 (by decide) (fun c => absurd c (by decide)) (fun _ => ?_)
  refine g_aload_n X dJ0_charAt_5068e_7 rfl ?_
  refine g_sVal X hi mj_14_6 dJ0_charAt_5068e_8 ?_
  refine g_iload_n X dJ0_charAt_5068e_11 rfl ?_
  refine g_callSi (n := 2) X (fun _ adK => [.ref (adK (100 + i)), .int j]) (sj_charAt1 hi h1 h2 h3 hv hc hw) ⟨gi_S mj_14_21 mj_14_22 mj_14_23 mj_15_0, by decide +kernel, by decide +kernel, by decide +kernel⟩ rfl rfl (Nat.le_of_ble_eq_true rfl) ⟨by decide, by decide⟩ dJ0_charAt_5068e_12 ?_
  exact g_nret X hw dJ0_charAt_5068e_15
theorem sj_length {i : Nat} {v : Int32} (hi : i < 22) (hv : Int32.ofNat (gLn.getD i 0) = v) : gMet sk yJ0_length_8abf5 cJ0_length_8abf5 1 (some .int) 1 20 (fun _ adK => [.ref (adK i)]) u (fun _ => some (.int v), u) := by
  refine gMet.of (by decide) (fun _ _ => Nat.le_of_ble_eq_true rfl) (fun κ B X => ?_)
  have X : gX κ B sk cJ0_length_8abf5 1 RJ0 (some .int) 1 20 := X
  refine g_mk [true] [some (.ref (gAd κ i))] rfl ?_
  refine g_aload_n X dJ0_length_8abf5_0 rfl ?_
  refine g_sVal X hi mj_14_6 dJ0_length_8abf5_1 ?_
  refine g_sLen X hi hv dJ0_length_8abf5_4 ?_
  refine g_aload_n X dJ0_length_8abf5_5 rfl ?_
  refine g_callVS X (fun _ _ => []) hi (sj_coder hi) (gi_V mj_14_7 mj_14_8 mj_14_9 mj_14_4 mj_14_10) ⟨rfl, by decide +kernel, by decide +kernel, by decide +kernel⟩ rfl rfl (Nat.le_of_ble_eq_true rfl) ⟨by decide, by decide⟩ dJ0_length_8abf5_6 ?_
  refine g_ishr X dJ0_length_8abf5_9 ?_
  rw [sb_shr0]
  exact g_iret X dJ0_length_8abf5_10
end JDK
theorem gSt_i {i : Nat} {q : String × Nat × String × List Int32} (h : gSt[i]? = some q) : i < 22 ∧ gLn.getD i 0 = q.2.2.2.length ∧ gBy.getD i [] = q.2.2.2 := by
  refine ⟨(List.getElem?_eq_some_iff.mp h).1, ?_, ?_⟩
  · unfold gLn; rw [List.getD_eq_getElem?_getD, List.getElem?_map, h]; rfl
  · unfold gBy; rw [List.getD_eq_getElem?_getD, List.getElem?_map, h]; rfl
theorem gSt_c : ∀ q ∈ gSt, q.2.2.2.length < 2 ^ 31 ∧ ∀ v ∈ q.2.2.2, ((v &&& 255).toUInt32 % 65536).toInt32 = v ∧ narrow .char (.int v) = .int v := by decide +kernel
section FLAT2
variable {κ : gK} {cc : ByteArray} {nL : Nat} {own : String} {ret : Option FieldType} {fr lo B : Nat} {sk : List gE} {res : Option Value × gM} {pc : Nat} {lv : List (Option Value)} {st : List Value} {u : gM}
theorem g_strL (X : gX κ B sk cc nL own ret fr lo) {idx i : Nat} {v : Int32} (hw : Cond.methodLink own idx yJ0_length_8abf5 ∈ tb) (h : slen i = some v) (hc8 : (st.map fun v => v.category).sum ≤ 8) (hq : 4 ≤ fr ∧ 100 ≤ lo) (hdg : decode cc pc = .ok (.invokevirtual idx, 3)) (k : gV κ B sk nL res (pc + 3) lv (.int v :: st) u) : gV κ B sk nL res pc lv (.ref (gAd κ i) :: st) u := by
  unfold slen at h
  cases hg : gSt[i]? with
  | none => rw [hg] at h; cases h
  | some q =>
    rw [hg] at h
    obtain ⟨h1, h2, -⟩ := gSt_i hg
    have hv : Int32.ofNat (gLn.getD i 0) = v := by rw [h2]; exact Option.some.inj h
    exact g_callVS X (fun _ _ => []) h1 (sj_length h1 hv) (gi_V hw mj_14_2 mj_14_3 mj_14_4 mj_14_5) ⟨rfl, by decide +kernel, by decide +kernel, by decide +kernel⟩ rfl rfl hc8 ⟨Nat.le_trans (by decide) hq.1, Nat.le_trans (by decide) hq.2⟩ hdg k
theorem g_strC (X : gX κ B sk cc nL own ret fr lo) {idx i : Nat} {j v : Int32} (hw : Cond.methodLink own idx yJ0_charAt_5068e ∈ tb) (h : sch i j = some v) (hc8 : (st.map fun v => v.category).sum ≤ 8) (hq : 4 ≤ fr ∧ 100 ≤ lo) (hdg : decode cc pc = .ok (.invokevirtual idx, 3)) (k : gV κ B sk nL res (pc + 3) lv (.int v :: st) u) : gV κ B sk nL res pc lv (.int j :: .ref (gAd κ i) :: st) u := by
  unfold sch at h
  cases hg : gSt[i]? with
  | none => rw [hg] at h; cases h
  | some q =>
    rw [hg] at h
    obtain ⟨h3, h4⟩ := ite_no h
    have h4 := Option.some.inj h4
    obtain ⟨h1, h2, h5⟩ := gSt_i hg
    obtain ⟨hs, hall⟩ := gSt_c q (List.mem_of_getElem? hg)
    have hlt : j.toNatClampNeg < q.2.2.2.length := Nat.not_le.mp fun z => h3 (Or.inr z)
    have hmem : v ∈ q.2.2.2 := by
      rw [← h4, List.getD_eq_getElem?_getD, List.getElem?_eq_getElem hlt]
      exact List.getElem_mem hlt
    obtain ⟨g1, g2⟩ := hall v hmem
    have hj0 : ¬ j < 0 := fun z => h3 (Or.inl z)
    have hjl : j < Int32.ofNat q.2.2.2.length := by
      obtain ⟨m, hm, rfl⟩ := nI_of hj0
      rw [nI_clamp hm] at hlt
      exact nI_lt hlt hs
    exact g_callVS (n := 1) X (fun _ _ => [.int j]) h1 (sj_charAt h1 hj0 (by rw [h2]; exact hjl) (by rw [h2]; exact h3) (by rw [h5]; exact h4) g1 g2) (gi_V hw mj_14_14 mj_14_15 mj_14_4 mj_14_16) ⟨rfl, by decide +kernel, by decide +kernel, by decide +kernel⟩ rfl rfl hc8 ⟨Nat.le_trans (by decide) hq.1, Nat.le_trans (by decide) hq.2⟩ hdg k
end FLAT2

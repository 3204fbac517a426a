/-! the law's cases 24 to 31 -/
theorem dL_law_944 : decode code 944 = .ok (.aload_n 1, 1) := by decide +kernel
theorem dL_law_945 : decode code 945 = .ok (.aload_n 0, 1) := by decide +kernel
theorem dL_law_946 : decode code 946 = .ok (.iload_n 3, 1) := by decide +kernel
theorem dL_law_947 : decode code 947 = .ok (.iconst 1, 1) := by decide +kernel
theorem dL_law_948 : decode code 948 = .ok (.iadd, 1) := by decide +kernel
theorem dL_law_949 : decode code 949 = .ok (.iaload, 1) := by decide +kernel
theorem dL_law_950 : decode code 950 = .ok (.aload_n 0, 1) := by decide +kernel
theorem dL_law_951 : decode code 951 = .ok (.iload_n 3, 1) := by decide +kernel
theorem dL_law_952 : decode code 952 = .ok (.iconst 2, 1) := by decide +kernel
theorem dL_law_953 : decode code 953 = .ok (.iadd, 1) := by decide +kernel
theorem dL_law_954 : decode code 954 = .ok (.iaload, 1) := by decide +kernel
theorem dL_law_955 : decode code 955 = .ok (.aload_n 0, 1) := by decide +kernel
theorem dL_law_956 : decode code 956 = .ok (.iload_n 3, 1) := by decide +kernel
theorem dL_law_957 : decode code 957 = .ok (.iconst 3, 1) := by decide +kernel
theorem dL_law_958 : decode code 958 = .ok (.iadd, 1) := by decide +kernel
theorem dL_law_959 : decode code 959 = .ok (.iaload, 1) := by decide +kernel
theorem dL_law_960 : decode code 960 = .ok (.invokevirtual 121, 3) := by decide +kernel
theorem dL_law_963 : decode code 963 = .ok (.aload_n 2, 1) := by decide +kernel
theorem dL_law_964 : decode code 964 = .ok (.aload_n 0, 1) := by decide +kernel
theorem dL_law_965 : decode code 965 = .ok (.iload_n 3, 1) := by decide +kernel
theorem dL_law_966 : decode code 966 = .ok (.iconst 1, 1) := by decide +kernel
theorem dL_law_967 : decode code 967 = .ok (.iadd, 1) := by decide +kernel
theorem dL_law_968 : decode code 968 = .ok (.iaload, 1) := by decide +kernel
theorem dL_law_969 : decode code 969 = .ok (.aload_n 0, 1) := by decide +kernel
theorem dL_law_970 : decode code 970 = .ok (.iload_n 3, 1) := by decide +kernel
theorem dL_law_971 : decode code 971 = .ok (.iconst 2, 1) := by decide +kernel
theorem dL_law_972 : decode code 972 = .ok (.iadd, 1) := by decide +kernel
theorem dL_law_973 : decode code 973 = .ok (.iaload, 1) := by decide +kernel
theorem dL_law_974 : decode code 974 = .ok (.aload_n 0, 1) := by decide +kernel
theorem dL_law_975 : decode code 975 = .ok (.iload_n 3, 1) := by decide +kernel
theorem dL_law_976 : decode code 976 = .ok (.iconst 3, 1) := by decide +kernel
theorem dL_law_977 : decode code 977 = .ok (.iadd, 1) := by decide +kernel
theorem dL_law_978 : decode code 978 = .ok (.iaload, 1) := by decide +kernel
theorem dL_law_979 : decode code 979 = .ok (.invokevirtual 124, 3) := by decide +kernel
theorem dL_law_982 : decode code 982 = .ok (.lcmp, 1) := by decide +kernel
theorem dL_law_983 : decode code 983 = .ok (.ifCond .eq 179, 3) := by decide +kernel
theorem dL_law_988 : decode code 988 = .ok (.aload_n 1, 1) := by decide +kernel
theorem dL_law_989 : decode code 989 = .ok (.aload_n 0, 1) := by decide +kernel
theorem dL_law_990 : decode code 990 = .ok (.iload_n 3, 1) := by decide +kernel
theorem dL_law_991 : decode code 991 = .ok (.iconst 1, 1) := by decide +kernel
theorem dL_law_992 : decode code 992 = .ok (.iadd, 1) := by decide +kernel
theorem dL_law_993 : decode code 993 = .ok (.iaload, 1) := by decide +kernel
theorem dL_law_994 : decode code 994 = .ok (.invokevirtual 125, 3) := by decide +kernel
theorem dL_law_997 : decode code 997 = .ok (.aload_n 2, 1) := by decide +kernel
theorem dL_law_998 : decode code 998 = .ok (.aload_n 0, 1) := by decide +kernel
theorem dL_law_999 : decode code 999 = .ok (.iload_n 3, 1) := by decide +kernel
theorem dL_law_1000 : decode code 1000 = .ok (.iconst 1, 1) := by decide +kernel
theorem dL_law_1001 : decode code 1001 = .ok (.iadd, 1) := by decide +kernel
theorem dL_law_1002 : decode code 1002 = .ok (.iaload, 1) := by decide +kernel
theorem dL_law_1003 : decode code 1003 = .ok (.invokevirtual 128, 3) := by decide +kernel
theorem dL_law_1006 : decode code 1006 = .ok (.if_icmp .eq 156, 3) := by decide +kernel
theorem dL_law_1011 : decode code 1011 = .ok (.aload_n 1, 1) := by decide +kernel
theorem dL_law_1012 : decode code 1012 = .ok (.aload_n 0, 1) := by decide +kernel
theorem dL_law_1013 : decode code 1013 = .ok (.iload_n 3, 1) := by decide +kernel
theorem dL_law_1014 : decode code 1014 = .ok (.iconst 1, 1) := by decide +kernel
theorem dL_law_1015 : decode code 1015 = .ok (.iadd, 1) := by decide +kernel
theorem dL_law_1016 : decode code 1016 = .ok (.iaload, 1) := by decide +kernel
theorem dL_law_1017 : decode code 1017 = .ok (.invokevirtual 129, 3) := by decide +kernel
theorem dL_law_1020 : decode code 1020 = .ok (.aload_n 2, 1) := by decide +kernel
theorem dL_law_1021 : decode code 1021 = .ok (.aload_n 0, 1) := by decide +kernel
theorem dL_law_1022 : decode code 1022 = .ok (.iload_n 3, 1) := by decide +kernel
theorem dL_law_1023 : decode code 1023 = .ok (.iconst 1, 1) := by decide +kernel
theorem dL_law_1024 : decode code 1024 = .ok (.iadd, 1) := by decide +kernel
theorem dL_law_1025 : decode code 1025 = .ok (.iaload, 1) := by decide +kernel
theorem dL_law_1026 : decode code 1026 = .ok (.invokevirtual 132, 3) := by decide +kernel
theorem dL_law_1029 : decode code 1029 = .ok (.if_icmp .eq 133, 3) := by decide +kernel
theorem dL_law_1034 : decode code 1034 = .ok (.aload_n 1, 1) := by decide +kernel
theorem dL_law_1035 : decode code 1035 = .ok (.aload_n 0, 1) := by decide +kernel
theorem dL_law_1036 : decode code 1036 = .ok (.iload_n 3, 1) := by decide +kernel
theorem dL_law_1037 : decode code 1037 = .ok (.iconst 1, 1) := by decide +kernel
theorem dL_law_1038 : decode code 1038 = .ok (.iadd, 1) := by decide +kernel
theorem dL_law_1039 : decode code 1039 = .ok (.iaload, 1) := by decide +kernel
theorem dL_law_1040 : decode code 1040 = .ok (.invokevirtual 133, 3) := by decide +kernel
theorem dL_law_1043 : decode code 1043 = .ok (.aload_n 2, 1) := by decide +kernel
theorem dL_law_1044 : decode code 1044 = .ok (.aload_n 0, 1) := by decide +kernel
theorem dL_law_1045 : decode code 1045 = .ok (.iload_n 3, 1) := by decide +kernel
theorem dL_law_1046 : decode code 1046 = .ok (.iconst 1, 1) := by decide +kernel
theorem dL_law_1047 : decode code 1047 = .ok (.iadd, 1) := by decide +kernel
theorem dL_law_1048 : decode code 1048 = .ok (.iaload, 1) := by decide +kernel
theorem dL_law_1049 : decode code 1049 = .ok (.invokevirtual 136, 3) := by decide +kernel
theorem dL_law_1052 : decode code 1052 = .ok (.if_icmp .eq 110, 3) := by decide +kernel
theorem dL_law_1057 : decode code 1057 = .ok (.aload_n 1, 1) := by decide +kernel
theorem dL_law_1058 : decode code 1058 = .ok (.aload_n 0, 1) := by decide +kernel
theorem dL_law_1059 : decode code 1059 = .ok (.iload_n 3, 1) := by decide +kernel
theorem dL_law_1060 : decode code 1060 = .ok (.iconst 1, 1) := by decide +kernel
theorem dL_law_1061 : decode code 1061 = .ok (.iadd, 1) := by decide +kernel
theorem dL_law_1062 : decode code 1062 = .ok (.iaload, 1) := by decide +kernel
theorem dL_law_1063 : decode code 1063 = .ok (.aload_n 0, 1) := by decide +kernel
theorem dL_law_1064 : decode code 1064 = .ok (.iload_n 3, 1) := by decide +kernel
theorem dL_law_1065 : decode code 1065 = .ok (.iconst 2, 1) := by decide +kernel
theorem dL_law_1066 : decode code 1066 = .ok (.iadd, 1) := by decide +kernel
theorem dL_law_1067 : decode code 1067 = .ok (.iaload, 1) := by decide +kernel
theorem dL_law_1068 : decode code 1068 = .ok (.invokevirtual 137, 3) := by decide +kernel
theorem dL_law_1071 : decode code 1071 = .ok (.aload_n 2, 1) := by decide +kernel
theorem dL_law_1072 : decode code 1072 = .ok (.aload_n 0, 1) := by decide +kernel
theorem dL_law_1073 : decode code 1073 = .ok (.iload_n 3, 1) := by decide +kernel
theorem dL_law_1074 : decode code 1074 = .ok (.iconst 1, 1) := by decide +kernel
theorem dL_law_1075 : decode code 1075 = .ok (.iadd, 1) := by decide +kernel
theorem dL_law_1076 : decode code 1076 = .ok (.iaload, 1) := by decide +kernel
theorem dL_law_1077 : decode code 1077 = .ok (.aload_n 0, 1) := by decide +kernel
theorem dL_law_1078 : decode code 1078 = .ok (.iload_n 3, 1) := by decide +kernel
theorem dL_law_1079 : decode code 1079 = .ok (.iconst 2, 1) := by decide +kernel
theorem dL_law_1080 : decode code 1080 = .ok (.iadd, 1) := by decide +kernel
theorem dL_law_1081 : decode code 1081 = .ok (.iaload, 1) := by decide +kernel
theorem dL_law_1082 : decode code 1082 = .ok (.invokevirtual 140, 3) := by decide +kernel
theorem dL_law_1085 : decode code 1085 = .ok (.lcmp, 1) := by decide +kernel
theorem dL_law_1086 : decode code 1086 = .ok (.ifCond .eq 76, 3) := by decide +kernel
theorem dL_law_1091 : decode code 1091 = .ok (.aload_n 1, 1) := by decide +kernel
theorem dL_law_1092 : decode code 1092 = .ok (.aload_n 0, 1) := by decide +kernel
theorem dL_law_1093 : decode code 1093 = .ok (.iload_n 3, 1) := by decide +kernel
theorem dL_law_1094 : decode code 1094 = .ok (.iconst 1, 1) := by decide +kernel
theorem dL_law_1095 : decode code 1095 = .ok (.iadd, 1) := by decide +kernel
theorem dL_law_1096 : decode code 1096 = .ok (.iaload, 1) := by decide +kernel
theorem dL_law_1097 : decode code 1097 = .ok (.invokevirtual 141, 3) := by decide +kernel
theorem dL_law_1100 : decode code 1100 = .ok (.aload_n 2, 1) := by decide +kernel
theorem dL_law_1101 : decode code 1101 = .ok (.aload_n 0, 1) := by decide +kernel
theorem dL_law_1102 : decode code 1102 = .ok (.iload_n 3, 1) := by decide +kernel
theorem dL_law_1103 : decode code 1103 = .ok (.iconst 1, 1) := by decide +kernel
theorem dL_law_1104 : decode code 1104 = .ok (.iadd, 1) := by decide +kernel
theorem dL_law_1105 : decode code 1105 = .ok (.iaload, 1) := by decide +kernel
theorem dL_law_1106 : decode code 1106 = .ok (.invokevirtual 144, 3) := by decide +kernel
theorem dL_law_1109 : decode code 1109 = .ok (.lcmp, 1) := by decide +kernel
theorem dL_law_1110 : decode code 1110 = .ok (.ifCond .eq 52, 3) := by decide +kernel
theorem dL_law_1115 : decode code 1115 = .ok (.aload_n 1, 1) := by decide +kernel
theorem dL_law_1116 : decode code 1116 = .ok (.aload_n 0, 1) := by decide +kernel
theorem dL_law_1117 : decode code 1117 = .ok (.iload_n 3, 1) := by decide +kernel
theorem dL_law_1118 : decode code 1118 = .ok (.iconst 1, 1) := by decide +kernel
theorem dL_law_1119 : decode code 1119 = .ok (.iadd, 1) := by decide +kernel
theorem dL_law_1120 : decode code 1120 = .ok (.iaload, 1) := by decide +kernel
theorem dL_law_1121 : decode code 1121 = .ok (.invokevirtual 145, 3) := by decide +kernel
theorem dL_law_1124 : decode code 1124 = .ok (.aload_n 2, 1) := by decide +kernel
theorem dL_law_1125 : decode code 1125 = .ok (.aload_n 0, 1) := by decide +kernel
theorem dL_law_1126 : decode code 1126 = .ok (.iload_n 3, 1) := by decide +kernel
theorem dL_law_1127 : decode code 1127 = .ok (.iconst 1, 1) := by decide +kernel
theorem dL_law_1128 : decode code 1128 = .ok (.iadd, 1) := by decide +kernel
theorem dL_law_1129 : decode code 1129 = .ok (.iaload, 1) := by decide +kernel
theorem dL_law_1130 : decode code 1130 = .ok (.invokevirtual 148, 3) := by decide +kernel
theorem dL_law_1133 : decode code 1133 = .ok (.lcmp, 1) := by decide +kernel
theorem dL_law_1134 : decode code 1134 = .ok (.ifCond .eq 28, 3) := by decide +kernel
theorem dL_law_1139 : decode code 1139 = .ok (.aload_n 1, 1) := by decide +kernel
theorem dL_law_1140 : decode code 1140 = .ok (.aload_n 0, 1) := by decide +kernel
theorem dL_law_1141 : decode code 1141 = .ok (.iload_n 3, 1) := by decide +kernel
theorem dL_law_1142 : decode code 1142 = .ok (.iconst 1, 1) := by decide +kernel
theorem dL_law_1143 : decode code 1143 = .ok (.iadd, 1) := by decide +kernel
theorem dL_law_1144 : decode code 1144 = .ok (.iaload, 1) := by decide +kernel
theorem dL_law_1145 : decode code 1145 = .ok (.invokevirtual 149, 3) := by decide +kernel
theorem dL_law_1148 : decode code 1148 = .ok (.aload_n 2, 1) := by decide +kernel
theorem dL_law_1149 : decode code 1149 = .ok (.aload_n 0, 1) := by decide +kernel
theorem dL_law_1150 : decode code 1150 = .ok (.iload_n 3, 1) := by decide +kernel
theorem dL_law_1151 : decode code 1151 = .ok (.iconst 1, 1) := by decide +kernel
theorem dL_law_1152 : decode code 1152 = .ok (.iadd, 1) := by decide +kernel
theorem dL_law_1153 : decode code 1153 = .ok (.iaload, 1) := by decide +kernel
theorem dL_law_1154 : decode code 1154 = .ok (.invokevirtual 152, 3) := by decide +kernel
theorem dL_law_1157 : decode code 1157 = .ok (.if_icmp .eq 5, 3) := by decide +kernel
section LC
variable {κ : gK} {B b L i c0 w0 : Nat} {Q : State → Prop} {T : gT} {N : gN} {P : List gN} {S : gS} {u v : gM} {xs : Nat → Int32}
theorem lc_24 (X : gXJ κ (gAb B) code 4 RL ret 16 600 600000 7302250) (hsc : gScr b L xs (gAb B) κ) (hi : i + 6 ≤ L) (hL : L ≤ 3072) (hcw : c0 ≤ 600000 ∧ w0 ≤ 7302250) (hR : RR T N P S u v) (kb : ∀ (T : gT) (N : gN) (P : List gN) (S : gS) (u v : gM), RR T N P S u v → gJ κ 4 (gAb B) Q c0 w0 (gW2 B u v) 1162 [some (.ref b), some (.ref B), some (.ref (B + 162)), some (.int (nI i))] []) : gJ κ 4 (gAb B) Q c0 w0 (gW2 B u v) 944 [some (.ref b), some (.ref B), some (.ref (B + 162)), some (.int (nI i))] [] := by
  obtain ⟨r, u1, v1, T1, N1, P1, S1, e1, e2, hR1⟩ := (o_move (xs (i + 1)) (xs (i + 2)) (xs (i + 3)) hR).r hR
  refine j_aload_n X (x := B) dL_law_944 rfl ?_
  refine j_arg (k := 1) X hsc rfl (by omega) hL (by decide) dL_law_945 dL_law_946 dL_law_947 dL_law_948 dL_law_949 ?_
  refine j_arg (k := 2) X hsc rfl (by omega) hL (by decide) dL_law_950 dL_law_951 dL_law_952 dL_law_953 dL_law_954 ?_
  refine j_arg (k := 3) X hsc rfl (by omega) hL (by decide) dL_law_955 dL_law_956 dL_law_957 dL_law_958 dL_law_959 ?_
  refine j_call1 (rest := []) X [.int (xs (i + 1)), .int (xs (i + 2)), .int (xs (i + 3))] (s_X11_move e1) cvL_121 rfl rfl (Nat.le_of_ble_eq_true rfl) ⟨by decide, by decide⟩ hcw dL_law_960 ?_
  refine j_aload_n X (x := B + 162) dL_law_963 rfl ?_
  refine j_arg (k := 1) X hsc rfl (by omega) hL (by decide) dL_law_964 dL_law_965 dL_law_966 dL_law_967 dL_law_968 ?_
  refine j_arg (k := 2) X hsc rfl (by omega) hL (by decide) dL_law_969 dL_law_970 dL_law_971 dL_law_972 dL_law_973 ?_
  refine j_arg (k := 3) X hsc rfl (by omega) hL (by decide) dL_law_974 dL_law_975 dL_law_976 dL_law_977 dL_law_978 ?_
  refine j_call2 (rest := [.long r]) X [.int (xs (i + 1)), .int (xs (i + 2)), .int (xs (i + 3))] (s_X12_move e2) cvL_124 rfl rfl (Nat.le_of_ble_eq_true rfl) ⟨by decide, by decide⟩ hcw dL_law_979 ?_
  refine j_lcmp X dL_law_982 ?_
  exact j_if_eq (tgt := 1162) X dL_law_983 (by decide) (fun _ => kb _ _ _ _ _ _ hR1) (fun q => absurd ((lg_cmp_eq _ _).mpr rfl) q)
theorem lc_25 (X : gXJ κ (gAb B) code 4 RL ret 16 600 600000 7302250) (hsc : gScr b L xs (gAb B) κ) (hi : i + 6 ≤ L) (hL : L ≤ 3072) (hcw : c0 ≤ 600000 ∧ w0 ≤ 7302250) (hR : RR T N P S u v) (kb : ∀ (T : gT) (N : gN) (P : List gN) (S : gS) (u v : gM), RR T N P S u v → gJ κ 4 (gAb B) Q c0 w0 (gW2 B u v) 1162 [some (.ref b), some (.ref B), some (.ref (B + 162)), some (.int (nI i))] []) : gJ κ 4 (gAb B) Q c0 w0 (gW2 B u v) 988 [some (.ref b), some (.ref B), some (.ref (B + 162)), some (.int (nI i))] [] := by
  obtain ⟨r, u1, v1, T1, N1, P1, S1, e1, e2, hR1⟩ := o_bestKind (xs (i + 1)) hR
  refine j_aload_n X (x := B) dL_law_988 rfl ?_
  refine j_arg (k := 1) X hsc rfl (by omega) hL (by decide) dL_law_989 dL_law_990 dL_law_991 dL_law_992 dL_law_993 ?_
  refine j_call1 (rest := []) X [.int (xs (i + 1))] (s_X11_bestKind e1) cvL_125 rfl rfl (Nat.le_of_ble_eq_true rfl) ⟨by decide, by decide⟩ hcw dL_law_994 ?_
  refine j_aload_n X (x := B + 162) dL_law_997 rfl ?_
  refine j_arg (k := 1) X hsc rfl (by omega) hL (by decide) dL_law_998 dL_law_999 dL_law_1000 dL_law_1001 dL_law_1002 ?_
  refine j_call2 (rest := [.int r]) X [.int (xs (i + 1))] (s_X12_bestKind e2) cvL_128 rfl rfl (Nat.le_of_ble_eq_true rfl) ⟨by decide, by decide⟩ hcw dL_law_1003 ?_
  exact j_icmp_eq (tgt := 1162) X dL_law_1006 (by decide) (fun _ => kb _ _ _ _ _ _ hR1) (fun q => absurd rfl q)
theorem lc_26 (X : gXJ κ (gAb B) code 4 RL ret 16 600 600000 7302250) (hsc : gScr b L xs (gAb B) κ) (hi : i + 6 ≤ L) (hL : L ≤ 3072) (hcw : c0 ≤ 600000 ∧ w0 ≤ 7302250) (hR : RR T N P S u v) (kb : ∀ (T : gT) (N : gN) (P : List gN) (S : gS) (u v : gM), RR T N P S u v → gJ κ 4 (gAb B) Q c0 w0 (gW2 B u v) 1162 [some (.ref b), some (.ref B), some (.ref (B + 162)), some (.int (nI i))] []) : gJ κ 4 (gAb B) Q c0 w0 (gW2 B u v) 1011 [some (.ref b), some (.ref B), some (.ref (B + 162)), some (.int (nI i))] [] := by
  obtain ⟨r, e1, e2⟩ := o_change (xs (i + 1)) hR
  refine j_aload_n X (x := B) dL_law_1011 rfl ?_
  refine j_arg (k := 1) X hsc rfl (by omega) hL (by decide) dL_law_1012 dL_law_1013 dL_law_1014 dL_law_1015 dL_law_1016 ?_
  refine j_call1 (rest := []) X [.int (xs (i + 1))] (s_X11_change e1) cvL_129 rfl rfl (Nat.le_of_ble_eq_true rfl) ⟨by decide, by decide⟩ hcw dL_law_1017 ?_
  refine j_aload_n X (x := B + 162) dL_law_1020 rfl ?_
  refine j_arg (k := 1) X hsc rfl (by omega) hL (by decide) dL_law_1021 dL_law_1022 dL_law_1023 dL_law_1024 dL_law_1025 ?_
  refine j_call2 (rest := [.int r]) X [.int (xs (i + 1))] (s_X12_change e2) cvL_132 rfl rfl (Nat.le_of_ble_eq_true rfl) ⟨by decide, by decide⟩ hcw dL_law_1026 ?_
  exact j_icmp_eq (tgt := 1162) X dL_law_1029 (by decide) (fun _ => kb _ _ _ _ _ _ hR) (fun q => absurd rfl q)
theorem lc_27 (X : gXJ κ (gAb B) code 4 RL ret 16 600 600000 7302250) (hsc : gScr b L xs (gAb B) κ) (hi : i + 6 ≤ L) (hL : L ≤ 3072) (hcw : c0 ≤ 600000 ∧ w0 ≤ 7302250) (hR : RR T N P S u v) (kb : ∀ (T : gT) (N : gN) (P : List gN) (S : gS) (u v : gM), RR T N P S u v → gJ κ 4 (gAb B) Q c0 w0 (gW2 B u v) 1162 [some (.ref b), some (.ref B), some (.ref (B + 162)), some (.int (nI i))] []) : gJ κ 4 (gAb B) Q c0 w0 (gW2 B u v) 1034 [some (.ref b), some (.ref B), some (.ref (B + 162)), some (.int (nI i))] [] := by
  obtain ⟨r, u1, v1, T1, N1, P1, S1, e1, e2, hR1⟩ := (o_rank (xs (i + 1)) hR).r hR
  refine j_aload_n X (x := B) dL_law_1034 rfl ?_
  refine j_arg (k := 1) X hsc rfl (by omega) hL (by decide) dL_law_1035 dL_law_1036 dL_law_1037 dL_law_1038 dL_law_1039 ?_
  refine j_call1 (rest := []) X [.int (xs (i + 1))] (s_X11_rank e1) cvL_133 rfl rfl (Nat.le_of_ble_eq_true rfl) ⟨by decide, by decide⟩ hcw dL_law_1040 ?_
  refine j_aload_n X (x := B + 162) dL_law_1043 rfl ?_
  refine j_arg (k := 1) X hsc rfl (by omega) hL (by decide) dL_law_1044 dL_law_1045 dL_law_1046 dL_law_1047 dL_law_1048 ?_
  refine j_call2 (rest := [.int r]) X [.int (xs (i + 1))] (s_X12_rank e2) cvL_136 rfl rfl (Nat.le_of_ble_eq_true rfl) ⟨by decide, by decide⟩ hcw dL_law_1049 ?_
  exact j_icmp_eq (tgt := 1162) X dL_law_1052 (by decide) (fun _ => kb _ _ _ _ _ _ hR1) (fun q => absurd rfl q)
theorem lc_28 (X : gXJ κ (gAb B) code 4 RL ret 16 600 600000 7302250) (hsc : gScr b L xs (gAb B) κ) (hi : i + 6 ≤ L) (hL : L ≤ 3072) (hcw : c0 ≤ 600000 ∧ w0 ≤ 7302250) (hR : RR T N P S u v) (kb : ∀ (T : gT) (N : gN) (P : List gN) (S : gS) (u v : gM), RR T N P S u v → gJ κ 4 (gAb B) Q c0 w0 (gW2 B u v) 1162 [some (.ref b), some (.ref B), some (.ref (B + 162)), some (.int (nI i))] []) : gJ κ 4 (gAb B) Q c0 w0 (gW2 B u v) 1057 [some (.ref b), some (.ref B), some (.ref (B + 162)), some (.int (nI i))] [] := by
  obtain ⟨r, u1, v1, T1, N1, P1, S1, e1, e2, hR1⟩ := o_asKind (xs (i + 1)) (xs (i + 2)) hR
  refine j_aload_n X (x := B) dL_law_1057 rfl ?_
  refine j_arg (k := 1) X hsc rfl (by omega) hL (by decide) dL_law_1058 dL_law_1059 dL_law_1060 dL_law_1061 dL_law_1062 ?_
  refine j_arg (k := 2) X hsc rfl (by omega) hL (by decide) dL_law_1063 dL_law_1064 dL_law_1065 dL_law_1066 dL_law_1067 ?_
  refine j_call1 (rest := []) X [.int (xs (i + 1)), .int (xs (i + 2))] (s_X11_asKind e1) cvL_137 rfl rfl (Nat.le_of_ble_eq_true rfl) ⟨by decide, by decide⟩ hcw dL_law_1068 ?_
  refine j_aload_n X (x := B + 162) dL_law_1071 rfl ?_
  refine j_arg (k := 1) X hsc rfl (by omega) hL (by decide) dL_law_1072 dL_law_1073 dL_law_1074 dL_law_1075 dL_law_1076 ?_
  refine j_arg (k := 2) X hsc rfl (by omega) hL (by decide) dL_law_1077 dL_law_1078 dL_law_1079 dL_law_1080 dL_law_1081 ?_
  refine j_call2 (rest := [.long r]) X [.int (xs (i + 1)), .int (xs (i + 2))] (s_X12_asKind e2) cvL_140 rfl rfl (Nat.le_of_ble_eq_true rfl) ⟨by decide, by decide⟩ hcw dL_law_1082 ?_
  refine j_lcmp X dL_law_1085 ?_
  exact j_if_eq (tgt := 1162) X dL_law_1086 (by decide) (fun _ => kb _ _ _ _ _ _ hR1) (fun q => absurd ((lg_cmp_eq _ _).mpr rfl) q)
theorem lc_29 (X : gXJ κ (gAb B) code 4 RL ret 16 600 600000 7302250) (hsc : gScr b L xs (gAb B) κ) (hi : i + 6 ≤ L) (hL : L ≤ 3072) (hcw : c0 ≤ 600000 ∧ w0 ≤ 7302250) (hR : RR T N P S u v) (kb : ∀ (T : gT) (N : gN) (P : List gN) (S : gS) (u v : gM), RR T N P S u v → gJ κ 4 (gAb B) Q c0 w0 (gW2 B u v) 1162 [some (.ref b), some (.ref B), some (.ref (B + 162)), some (.int (nI i))] []) : gJ κ 4 (gAb B) Q c0 w0 (gW2 B u v) 1091 [some (.ref b), some (.ref B), some (.ref (B + 162)), some (.int (nI i))] [] := by
  obtain ⟨r, u1, v1, T1, N1, P1, S1, e1, e2, hR1⟩ := o_heirMore (xs (i + 1)) hR
  refine j_aload_n X (x := B) dL_law_1091 rfl ?_
  refine j_arg (k := 1) X hsc rfl (by omega) hL (by decide) dL_law_1092 dL_law_1093 dL_law_1094 dL_law_1095 dL_law_1096 ?_
  refine j_call1 (rest := []) X [.int (xs (i + 1))] (s_X11_heirMore e1) cvL_141 rfl rfl (Nat.le_of_ble_eq_true rfl) ⟨by decide, by decide⟩ hcw dL_law_1097 ?_
  refine j_aload_n X (x := B + 162) dL_law_1100 rfl ?_
  refine j_arg (k := 1) X hsc rfl (by omega) hL (by decide) dL_law_1101 dL_law_1102 dL_law_1103 dL_law_1104 dL_law_1105 ?_
  refine j_call2 (rest := [.long r]) X [.int (xs (i + 1))] (s_X12_heirMore e2) cvL_144 rfl rfl (Nat.le_of_ble_eq_true rfl) ⟨by decide, by decide⟩ hcw dL_law_1106 ?_
  refine j_lcmp X dL_law_1109 ?_
  exact j_if_eq (tgt := 1162) X dL_law_1110 (by decide) (fun _ => kb _ _ _ _ _ _ hR1) (fun q => absurd ((lg_cmp_eq _ _).mpr rfl) q)
theorem lc_30 (X : gXJ κ (gAb B) code 4 RL ret 16 600 600000 7302250) (hsc : gScr b L xs (gAb B) κ) (hi : i + 6 ≤ L) (hL : L ≤ 3072) (hcw : c0 ≤ 600000 ∧ w0 ≤ 7302250) (hR : RR T N P S u v) (kb : ∀ (T : gT) (N : gN) (P : List gN) (S : gS) (u v : gM), RR T N P S u v → gJ κ 4 (gAb B) Q c0 w0 (gW2 B u v) 1162 [some (.ref b), some (.ref B), some (.ref (B + 162)), some (.int (nI i))] []) : gJ κ 4 (gAb B) Q c0 w0 (gW2 B u v) 1115 [some (.ref b), some (.ref B), some (.ref (B + 162)), some (.int (nI i))] [] := by
  obtain ⟨r, u1, v1, T1, N1, P1, S1, e1, e2, hR1⟩ := o_worst (xs (i + 1)) hR
  refine j_aload_n X (x := B) dL_law_1115 rfl ?_
  refine j_arg (k := 1) X hsc rfl (by omega) hL (by decide) dL_law_1116 dL_law_1117 dL_law_1118 dL_law_1119 dL_law_1120 ?_
  refine j_call1 (rest := []) X [.int (xs (i + 1))] (s_X11_worst e1) cvL_145 rfl rfl (Nat.le_of_ble_eq_true rfl) ⟨by decide, by decide⟩ hcw dL_law_1121 ?_
  refine j_aload_n X (x := B + 162) dL_law_1124 rfl ?_
  refine j_arg (k := 1) X hsc rfl (by omega) hL (by decide) dL_law_1125 dL_law_1126 dL_law_1127 dL_law_1128 dL_law_1129 ?_
  refine j_call2 (rest := [.long r]) X [.int (xs (i + 1))] (s_X12_worst e2) cvL_148 rfl rfl (Nat.le_of_ble_eq_true rfl) ⟨by decide, by decide⟩ hcw dL_law_1130 ?_
  refine j_lcmp X dL_law_1133 ?_
  exact j_if_eq (tgt := 1162) X dL_law_1134 (by decide) (fun _ => kb _ _ _ _ _ _ hR1) (fun q => absurd ((lg_cmp_eq _ _).mpr rfl) q)
theorem lc_31 (X : gXJ κ (gAb B) code 4 RL ret 16 600 600000 7302250) (hsc : gScr b L xs (gAb B) κ) (hi : i + 6 ≤ L) (hL : L ≤ 3072) (hcw : c0 ≤ 600000 ∧ w0 ≤ 7302250) (hR : RR T N P S u v) (kb : ∀ (T : gT) (N : gN) (P : List gN) (S : gS) (u v : gM), RR T N P S u v → gJ κ 4 (gAb B) Q c0 w0 (gW2 B u v) 1162 [some (.ref b), some (.ref B), some (.ref (B + 162)), some (.int (nI i))] []) : gJ κ 4 (gAb B) Q c0 w0 (gW2 B u v) 1139 [some (.ref b), some (.ref B), some (.ref (B + 162)), some (.int (nI i))] [] := by
  obtain ⟨r, e1, e2⟩ := o_look (xs (i + 1)) hR
  refine j_aload_n X (x := B) dL_law_1139 rfl ?_
  refine j_arg (k := 1) X hsc rfl (by omega) hL (by decide) dL_law_1140 dL_law_1141 dL_law_1142 dL_law_1143 dL_law_1144 ?_
  refine j_call1 (rest := []) X [.int (xs (i + 1))] (s_X11_look e1) cvL_149 rfl rfl (Nat.le_of_ble_eq_true rfl) ⟨by decide, by decide⟩ hcw dL_law_1145 ?_
  refine j_aload_n X (x := B + 162) dL_law_1148 rfl ?_
  refine j_arg (k := 1) X hsc rfl (by omega) hL (by decide) dL_law_1149 dL_law_1150 dL_law_1151 dL_law_1152 dL_law_1153 ?_
  refine j_call2 (rest := [.int r]) X [.int (xs (i + 1))] (s_X12_look e2) cvL_152 rfl rfl (Nat.le_of_ble_eq_true rfl) ⟨by decide, by decide⟩ hcw dL_law_1154 ?_
  exact j_icmp_eq (tgt := 1162) X dL_law_1157 (by decide) (fun _ => kb _ _ _ _ _ _ hR) (fun q => absurd rfl q)
end LC

/-! THE LAW: calls 3 -/
theorem dL_law_1019 : decode cL_law 1019 = .ok (.aload_n 1, 1) := by decide +kernel
theorem dL_law_1020 : decode cL_law 1020 = .ok (.aload_n 0, 1) := by decide +kernel
theorem dL_law_1021 : decode cL_law 1021 = .ok (.iload_n 3, 1) := by decide +kernel
theorem dL_law_1022 : decode cL_law 1022 = .ok (.iconst 1, 1) := by decide +kernel
theorem dL_law_1023 : decode cL_law 1023 = .ok (.iadd, 1) := by decide +kernel
theorem dL_law_1024 : decode cL_law 1024 = .ok (.iaload, 1) := by decide +kernel
theorem dL_law_1025 : decode cL_law 1025 = .ok (.invokevirtual 129, 3) := by decide +kernel
theorem dL_law_1028 : decode cL_law 1028 = .ok (.aload_n 2, 1) := by decide +kernel
theorem dL_law_1029 : decode cL_law 1029 = .ok (.aload_n 0, 1) := by decide +kernel
theorem dL_law_1030 : decode cL_law 1030 = .ok (.iload_n 3, 1) := by decide +kernel
theorem dL_law_1031 : decode cL_law 1031 = .ok (.iconst 1, 1) := by decide +kernel
theorem dL_law_1032 : decode cL_law 1032 = .ok (.iadd, 1) := by decide +kernel
theorem dL_law_1033 : decode cL_law 1033 = .ok (.iaload, 1) := by decide +kernel
theorem dL_law_1034 : decode cL_law 1034 = .ok (.invokevirtual 132, 3) := by decide +kernel
theorem dL_law_1037 : decode cL_law 1037 = .ok (.if_icmp .eq 806, 3) := by decide +kernel
theorem lw_k27 {G : lu_G} {Q : State → Prop} {ρ σ : Nat → Nat} {m n : lu_M} {k z b L j : Nat} {xs : Nat → Int32} (X : lw_X G 2000 80000 b L xs) (hj : j + 5 ≤ L) (hr : Rel m n) (hk : k + 6 ≤ (lu_R G).cells ∧ z + 36 ≤ (lu_R G).slots) (kk : ∀ (m2 n2 : lu_M) (ρ2 : Nat → Nat), Rel m2 n2 → ρ2 0 = ρ 0 → lw_I G Q 1843 (lw_lv b (ρ 0) (σ 0) (nI j)) [] ρ2 m2 σ n2 (k + 6) (z + 36)) : lw_I G Q 1019 (lw_lv b (ρ 0) (σ 0) (nI j)) [] ρ m σ n k z := by
  refine lw_a1 X dL_law_1019 rfl ?_
  refine lw_ld X hj 1 (by decide) rfl dL_law_1020 dL_law_1021 dL_law_1022 dL_law_1023 dL_law_1024 rfl ?_
  obtain ⟨a, m2, n2, q1, q2, hr2⟩ := y_ways (xs (j + 1)) m n hr
  refine lw_callC (As := [.int (xs (j + 1))]) (rest := []) X.1 (c11_ways (lu_l G) (xs (j + 1))) q1 ml11_ways mv11_ways rfl rfl (by decide) (Nat.le_of_ble_eq_true rfl) (Nat.le_of_ble_eq_true rfl) ⟨by omega, by omega⟩ dL_law_1025 rfl rfl ?_
  refine lw_a2 X dL_law_1028 rfl ?_
  refine lw_ld X hj 1 (by decide) rfl dL_law_1029 dL_law_1030 dL_law_1031 dL_law_1032 dL_law_1033 rfl ?_
  refine lw_callM (As := [.int (xs (j + 1))]) (rest := [.int a]) X.1 (c12_ways (lu_l G) (xs (j + 1))) q2 ml12_ways mv12_ways rfl rfl (Nat.le_of_ble_eq_true rfl) (Nat.le_of_ble_eq_true rfl) (Nat.le_of_ble_eq_true rfl) ⟨by omega, by omega⟩ dL_law_1034 rfl rfl ?_
  refine lw_same X dL_law_1037 rfl ?_
  exact lw_I.wide (kk m2 n2 ρ hr2 rfl)
theorem dL_law_1042 : decode cL_law 1042 = .ok (.aload_n 1, 1) := by decide +kernel
theorem dL_law_1043 : decode cL_law 1043 = .ok (.aload_n 0, 1) := by decide +kernel
theorem dL_law_1044 : decode cL_law 1044 = .ok (.iload_n 3, 1) := by decide +kernel
theorem dL_law_1045 : decode cL_law 1045 = .ok (.iconst 1, 1) := by decide +kernel
theorem dL_law_1046 : decode cL_law 1046 = .ok (.iadd, 1) := by decide +kernel
theorem dL_law_1047 : decode cL_law 1047 = .ok (.iaload, 1) := by decide +kernel
theorem dL_law_1048 : decode cL_law 1048 = .ok (.aload_n 0, 1) := by decide +kernel
theorem dL_law_1049 : decode cL_law 1049 = .ok (.iload_n 3, 1) := by decide +kernel
theorem dL_law_1050 : decode cL_law 1050 = .ok (.iconst 2, 1) := by decide +kernel
theorem dL_law_1051 : decode cL_law 1051 = .ok (.iadd, 1) := by decide +kernel
theorem dL_law_1052 : decode cL_law 1052 = .ok (.iaload, 1) := by decide +kernel
theorem dL_law_1053 : decode cL_law 1053 = .ok (.invokevirtual 133, 3) := by decide +kernel
theorem dL_law_1056 : decode cL_law 1056 = .ok (.aload_n 2, 1) := by decide +kernel
theorem dL_law_1057 : decode cL_law 1057 = .ok (.aload_n 0, 1) := by decide +kernel
theorem dL_law_1058 : decode cL_law 1058 = .ok (.iload_n 3, 1) := by decide +kernel
theorem dL_law_1059 : decode cL_law 1059 = .ok (.iconst 1, 1) := by decide +kernel
theorem dL_law_1060 : decode cL_law 1060 = .ok (.iadd, 1) := by decide +kernel
theorem dL_law_1061 : decode cL_law 1061 = .ok (.iaload, 1) := by decide +kernel
theorem dL_law_1062 : decode cL_law 1062 = .ok (.aload_n 0, 1) := by decide +kernel
theorem dL_law_1063 : decode cL_law 1063 = .ok (.iload_n 3, 1) := by decide +kernel
theorem dL_law_1064 : decode cL_law 1064 = .ok (.iconst 2, 1) := by decide +kernel
theorem dL_law_1065 : decode cL_law 1065 = .ok (.iadd, 1) := by decide +kernel
theorem dL_law_1066 : decode cL_law 1066 = .ok (.iaload, 1) := by decide +kernel
theorem dL_law_1067 : decode cL_law 1067 = .ok (.invokevirtual 136, 3) := by decide +kernel
theorem dL_law_1070 : decode cL_law 1070 = .ok (.if_icmp .eq 773, 3) := by decide +kernel
theorem lw_k28 {G : lu_G} {Q : State → Prop} {ρ σ : Nat → Nat} {m n : lu_M} {k z b L j : Nat} {xs : Nat → Int32} (X : lw_X G 2000 80000 b L xs) (hj : j + 5 ≤ L) (hr : Rel m n) (hk : k + 6 ≤ (lu_R G).cells ∧ z + 36 ≤ (lu_R G).slots) (kk : ∀ (m2 n2 : lu_M) (ρ2 : Nat → Nat), Rel m2 n2 → ρ2 0 = ρ 0 → lw_I G Q 1843 (lw_lv b (ρ 0) (σ 0) (nI j)) [] ρ2 m2 σ n2 (k + 6) (z + 36)) : lw_I G Q 1042 (lw_lv b (ρ 0) (σ 0) (nI j)) [] ρ m σ n k z := by
  refine lw_a1 X dL_law_1042 rfl ?_
  refine lw_ld X hj 1 (by decide) rfl dL_law_1043 dL_law_1044 dL_law_1045 dL_law_1046 dL_law_1047 rfl ?_
  refine lw_ld X hj 2 (by decide) rfl dL_law_1048 dL_law_1049 dL_law_1050 dL_law_1051 dL_law_1052 rfl ?_
  obtain ⟨a, m2, n2, q1, q2, hr2⟩ := y_life (xs (j + 1)) (xs (j + 2)) m n hr
  refine lw_callC (As := [.int (xs (j + 1)), .int (xs (j + 2))]) (rest := []) X.1 (c11_life (lu_l G) (xs (j + 1)) (xs (j + 2))) q1 ml11_life mv11_life rfl rfl (by decide) (Nat.le_of_ble_eq_true rfl) (Nat.le_of_ble_eq_true rfl) ⟨by omega, by omega⟩ dL_law_1053 rfl rfl ?_
  refine lw_a2 X dL_law_1056 rfl ?_
  refine lw_ld X hj 1 (by decide) rfl dL_law_1057 dL_law_1058 dL_law_1059 dL_law_1060 dL_law_1061 rfl ?_
  refine lw_ld X hj 2 (by decide) rfl dL_law_1062 dL_law_1063 dL_law_1064 dL_law_1065 dL_law_1066 rfl ?_
  refine lw_callM (As := [.int (xs (j + 1)), .int (xs (j + 2))]) (rest := [.int a]) X.1 (c12_life (lu_l G) (xs (j + 1)) (xs (j + 2))) q2 ml12_life mv12_life rfl rfl (Nat.le_of_ble_eq_true rfl) (Nat.le_of_ble_eq_true rfl) (Nat.le_of_ble_eq_true rfl) ⟨by omega, by omega⟩ dL_law_1067 rfl rfl ?_
  refine lw_same X dL_law_1070 rfl ?_
  exact lw_I.wide (kk m2 n2 ρ hr2 rfl)
theorem dL_law_1075 : decode cL_law 1075 = .ok (.aload_n 1, 1) := by decide +kernel
theorem dL_law_1076 : decode cL_law 1076 = .ok (.aload_n 0, 1) := by decide +kernel
theorem dL_law_1077 : decode cL_law 1077 = .ok (.iload_n 3, 1) := by decide +kernel
theorem dL_law_1078 : decode cL_law 1078 = .ok (.iconst 1, 1) := by decide +kernel
theorem dL_law_1079 : decode cL_law 1079 = .ok (.iadd, 1) := by decide +kernel
theorem dL_law_1080 : decode cL_law 1080 = .ok (.iaload, 1) := by decide +kernel
theorem dL_law_1081 : decode cL_law 1081 = .ok (.aload_n 0, 1) := by decide +kernel
theorem dL_law_1082 : decode cL_law 1082 = .ok (.iload_n 3, 1) := by decide +kernel
theorem dL_law_1083 : decode cL_law 1083 = .ok (.iconst 2, 1) := by decide +kernel
theorem dL_law_1084 : decode cL_law 1084 = .ok (.iadd, 1) := by decide +kernel
theorem dL_law_1085 : decode cL_law 1085 = .ok (.iaload, 1) := by decide +kernel
theorem dL_law_1086 : decode cL_law 1086 = .ok (.invokevirtual 137, 3) := by decide +kernel
theorem dL_law_1089 : decode cL_law 1089 = .ok (.aload_n 2, 1) := by decide +kernel
theorem dL_law_1090 : decode cL_law 1090 = .ok (.aload_n 0, 1) := by decide +kernel
theorem dL_law_1091 : decode cL_law 1091 = .ok (.iload_n 3, 1) := by decide +kernel
theorem dL_law_1092 : decode cL_law 1092 = .ok (.iconst 1, 1) := by decide +kernel
theorem dL_law_1093 : decode cL_law 1093 = .ok (.iadd, 1) := by decide +kernel
theorem dL_law_1094 : decode cL_law 1094 = .ok (.iaload, 1) := by decide +kernel
theorem dL_law_1095 : decode cL_law 1095 = .ok (.aload_n 0, 1) := by decide +kernel
theorem dL_law_1096 : decode cL_law 1096 = .ok (.iload_n 3, 1) := by decide +kernel
theorem dL_law_1097 : decode cL_law 1097 = .ok (.iconst 2, 1) := by decide +kernel
theorem dL_law_1098 : decode cL_law 1098 = .ok (.iadd, 1) := by decide +kernel
theorem dL_law_1099 : decode cL_law 1099 = .ok (.iaload, 1) := by decide +kernel
theorem dL_law_1100 : decode cL_law 1100 = .ok (.invokevirtual 140, 3) := by decide +kernel
theorem dL_law_1103 : decode cL_law 1103 = .ok (.if_icmp .eq 740, 3) := by decide +kernel
theorem lw_k29 {G : lu_G} {Q : State → Prop} {ρ σ : Nat → Nat} {m n : lu_M} {k z b L j : Nat} {xs : Nat → Int32} (X : lw_X G 2000 80000 b L xs) (hj : j + 5 ≤ L) (hr : Rel m n) (hk : k + 6 ≤ (lu_R G).cells ∧ z + 36 ≤ (lu_R G).slots) (kk : ∀ (m2 n2 : lu_M) (ρ2 : Nat → Nat), Rel m2 n2 → ρ2 0 = ρ 0 → lw_I G Q 1843 (lw_lv b (ρ 0) (σ 0) (nI j)) [] ρ2 m2 σ n2 (k + 6) (z + 36)) : lw_I G Q 1075 (lw_lv b (ρ 0) (σ 0) (nI j)) [] ρ m σ n k z := by
  refine lw_a1 X dL_law_1075 rfl ?_
  refine lw_ld X hj 1 (by decide) rfl dL_law_1076 dL_law_1077 dL_law_1078 dL_law_1079 dL_law_1080 rfl ?_
  refine lw_ld X hj 2 (by decide) rfl dL_law_1081 dL_law_1082 dL_law_1083 dL_law_1084 dL_law_1085 rfl ?_
  obtain ⟨a, m2, n2, q1, q2, hr2⟩ := y_bars (xs (j + 1)) (xs (j + 2)) m n hr
  refine lw_callC (As := [.int (xs (j + 1)), .int (xs (j + 2))]) (rest := []) X.1 (c11_bars (lu_l G) (xs (j + 1)) (xs (j + 2))) q1 ml11_bars mv11_bars rfl rfl (by decide) (Nat.le_of_ble_eq_true rfl) (Nat.le_of_ble_eq_true rfl) ⟨by omega, by omega⟩ dL_law_1086 rfl rfl ?_
  refine lw_a2 X dL_law_1089 rfl ?_
  refine lw_ld X hj 1 (by decide) rfl dL_law_1090 dL_law_1091 dL_law_1092 dL_law_1093 dL_law_1094 rfl ?_
  refine lw_ld X hj 2 (by decide) rfl dL_law_1095 dL_law_1096 dL_law_1097 dL_law_1098 dL_law_1099 rfl ?_
  refine lw_callM (As := [.int (xs (j + 1)), .int (xs (j + 2))]) (rest := [.int a]) X.1 (c12_bars (lu_l G) (xs (j + 1)) (xs (j + 2))) q2 ml12_bars mv12_bars rfl rfl (Nat.le_of_ble_eq_true rfl) (Nat.le_of_ble_eq_true rfl) (Nat.le_of_ble_eq_true rfl) ⟨by omega, by omega⟩ dL_law_1100 rfl rfl ?_
  refine lw_same X dL_law_1103 rfl ?_
  exact lw_I.wide (kk m2 n2 ρ hr2 rfl)
theorem dL_law_1108 : decode cL_law 1108 = .ok (.aload_n 1, 1) := by decide +kernel
theorem dL_law_1109 : decode cL_law 1109 = .ok (.aload_n 0, 1) := by decide +kernel
theorem dL_law_1110 : decode cL_law 1110 = .ok (.iload_n 3, 1) := by decide +kernel
theorem dL_law_1111 : decode cL_law 1111 = .ok (.iconst 1, 1) := by decide +kernel
theorem dL_law_1112 : decode cL_law 1112 = .ok (.iadd, 1) := by decide +kernel
theorem dL_law_1113 : decode cL_law 1113 = .ok (.iaload, 1) := by decide +kernel
theorem dL_law_1114 : decode cL_law 1114 = .ok (.invokevirtual 141, 3) := by decide +kernel
theorem dL_law_1117 : decode cL_law 1117 = .ok (.aload_n 2, 1) := by decide +kernel
theorem dL_law_1118 : decode cL_law 1118 = .ok (.aload_n 0, 1) := by decide +kernel
theorem dL_law_1119 : decode cL_law 1119 = .ok (.iload_n 3, 1) := by decide +kernel
theorem dL_law_1120 : decode cL_law 1120 = .ok (.iconst 1, 1) := by decide +kernel
theorem dL_law_1121 : decode cL_law 1121 = .ok (.iadd, 1) := by decide +kernel
theorem dL_law_1122 : decode cL_law 1122 = .ok (.iaload, 1) := by decide +kernel
theorem dL_law_1123 : decode cL_law 1123 = .ok (.invokevirtual 144, 3) := by decide +kernel
theorem dL_law_1126 : decode cL_law 1126 = .ok (.if_icmp .eq 717, 3) := by decide +kernel
theorem lw_k30 {G : lu_G} {Q : State → Prop} {ρ σ : Nat → Nat} {m n : lu_M} {k z b L j : Nat} {xs : Nat → Int32} (X : lw_X G 2000 80000 b L xs) (hj : j + 5 ≤ L) (hr : Rel m n) (hk : k + 6 ≤ (lu_R G).cells ∧ z + 36 ≤ (lu_R G).slots) (kk : ∀ (m2 n2 : lu_M) (ρ2 : Nat → Nat), Rel m2 n2 → ρ2 0 = ρ 0 → lw_I G Q 1843 (lw_lv b (ρ 0) (σ 0) (nI j)) [] ρ2 m2 σ n2 (k + 6) (z + 36)) : lw_I G Q 1108 (lw_lv b (ρ 0) (σ 0) (nI j)) [] ρ m σ n k z := by
  refine lw_a1 X dL_law_1108 rfl ?_
  refine lw_ld X hj 1 (by decide) rfl dL_law_1109 dL_law_1110 dL_law_1111 dL_law_1112 dL_law_1113 rfl ?_
  obtain ⟨a, m2, n2, q1, q2, hr2⟩ := y_game (xs (j + 1)) m n hr
  refine lw_callC (As := [.int (xs (j + 1))]) (rest := []) X.1 (c11_game (lu_l G) (xs (j + 1))) q1 ml11_game mv11_game rfl rfl (by decide) (Nat.le_of_ble_eq_true rfl) (Nat.le_of_ble_eq_true rfl) ⟨by omega, by omega⟩ dL_law_1114 rfl rfl ?_
  refine lw_a2 X dL_law_1117 rfl ?_
  refine lw_ld X hj 1 (by decide) rfl dL_law_1118 dL_law_1119 dL_law_1120 dL_law_1121 dL_law_1122 rfl ?_
  refine lw_callM (As := [.int (xs (j + 1))]) (rest := [.int a]) X.1 (c12_game (lu_l G) (xs (j + 1))) q2 ml12_game mv12_game rfl rfl (Nat.le_of_ble_eq_true rfl) (Nat.le_of_ble_eq_true rfl) (Nat.le_of_ble_eq_true rfl) ⟨by omega, by omega⟩ dL_law_1123 rfl rfl ?_
  refine lw_same X dL_law_1126 rfl ?_
  exact lw_I.wide (kk m2 n2 ρ hr2 rfl)
theorem dL_law_1131 : decode cL_law 1131 = .ok (.aload_n 1, 1) := by decide +kernel
theorem dL_law_1132 : decode cL_law 1132 = .ok (.aload_n 0, 1) := by decide +kernel
theorem dL_law_1133 : decode cL_law 1133 = .ok (.iload_n 3, 1) := by decide +kernel
theorem dL_law_1134 : decode cL_law 1134 = .ok (.iconst 1, 1) := by decide +kernel
theorem dL_law_1135 : decode cL_law 1135 = .ok (.iadd, 1) := by decide +kernel
theorem dL_law_1136 : decode cL_law 1136 = .ok (.iaload, 1) := by decide +kernel
theorem dL_law_1137 : decode cL_law 1137 = .ok (.invokevirtual 145, 3) := by decide +kernel
theorem dL_law_1140 : decode cL_law 1140 = .ok (.aload_n 2, 1) := by decide +kernel
theorem dL_law_1141 : decode cL_law 1141 = .ok (.aload_n 0, 1) := by decide +kernel
theorem dL_law_1142 : decode cL_law 1142 = .ok (.iload_n 3, 1) := by decide +kernel
theorem dL_law_1143 : decode cL_law 1143 = .ok (.iconst 1, 1) := by decide +kernel
theorem dL_law_1144 : decode cL_law 1144 = .ok (.iadd, 1) := by decide +kernel
theorem dL_law_1145 : decode cL_law 1145 = .ok (.iaload, 1) := by decide +kernel
theorem dL_law_1146 : decode cL_law 1146 = .ok (.invokevirtual 148, 3) := by decide +kernel
theorem dL_law_1149 : decode cL_law 1149 = .ok (.if_icmp .eq 694, 3) := by decide +kernel
theorem lw_k31 {G : lu_G} {Q : State → Prop} {ρ σ : Nat → Nat} {m n : lu_M} {k z b L j : Nat} {xs : Nat → Int32} (X : lw_X G 2000 80000 b L xs) (hj : j + 5 ≤ L) (hr : Rel m n) (hk : k + 6 ≤ (lu_R G).cells ∧ z + 36 ≤ (lu_R G).slots) (kk : ∀ (m2 n2 : lu_M) (ρ2 : Nat → Nat), Rel m2 n2 → ρ2 0 = ρ 0 → lw_I G Q 1843 (lw_lv b (ρ 0) (σ 0) (nI j)) [] ρ2 m2 σ n2 (k + 6) (z + 36)) : lw_I G Q 1131 (lw_lv b (ρ 0) (σ 0) (nI j)) [] ρ m σ n k z := by
  refine lw_a1 X dL_law_1131 rfl ?_
  refine lw_ld X hj 1 (by decide) rfl dL_law_1132 dL_law_1133 dL_law_1134 dL_law_1135 dL_law_1136 rfl ?_
  obtain ⟨a, m2, n2, q1, q2, hr2⟩ := y_play (xs (j + 1)) m n hr
  refine lw_callC (As := [.int (xs (j + 1))]) (rest := []) X.1 (c11_play (lu_l G) (xs (j + 1))) q1 ml11_play mv11_play rfl rfl (by decide) (Nat.le_of_ble_eq_true rfl) (Nat.le_of_ble_eq_true rfl) ⟨by omega, by omega⟩ dL_law_1137 rfl rfl ?_
  refine lw_a2 X dL_law_1140 rfl ?_
  refine lw_ld X hj 1 (by decide) rfl dL_law_1141 dL_law_1142 dL_law_1143 dL_law_1144 dL_law_1145 rfl ?_
  refine lw_callM (As := [.int (xs (j + 1))]) (rest := [.int a]) X.1 (c12_play (lu_l G) (xs (j + 1))) q2 ml12_play mv12_play rfl rfl (Nat.le_of_ble_eq_true rfl) (Nat.le_of_ble_eq_true rfl) (Nat.le_of_ble_eq_true rfl) ⟨by omega, by omega⟩ dL_law_1146 rfl rfl ?_
  refine lw_same X dL_law_1149 rfl ?_
  exact lw_I.wide (kk m2 n2 ρ hr2 rfl)
theorem dL_law_1154 : decode cL_law 1154 = .ok (.aload_n 1, 1) := by decide +kernel
theorem dL_law_1155 : decode cL_law 1155 = .ok (.aload_n 0, 1) := by decide +kernel
theorem dL_law_1156 : decode cL_law 1156 = .ok (.iload_n 3, 1) := by decide +kernel
theorem dL_law_1157 : decode cL_law 1157 = .ok (.iconst 1, 1) := by decide +kernel
theorem dL_law_1158 : decode cL_law 1158 = .ok (.iadd, 1) := by decide +kernel
theorem dL_law_1159 : decode cL_law 1159 = .ok (.iaload, 1) := by decide +kernel
theorem dL_law_1160 : decode cL_law 1160 = .ok (.aload_n 0, 1) := by decide +kernel
theorem dL_law_1161 : decode cL_law 1161 = .ok (.iload_n 3, 1) := by decide +kernel
theorem dL_law_1162 : decode cL_law 1162 = .ok (.iconst 2, 1) := by decide +kernel
theorem dL_law_1163 : decode cL_law 1163 = .ok (.iadd, 1) := by decide +kernel
theorem dL_law_1164 : decode cL_law 1164 = .ok (.iaload, 1) := by decide +kernel
theorem dL_law_1165 : decode cL_law 1165 = .ok (.aload_n 0, 1) := by decide +kernel
theorem dL_law_1166 : decode cL_law 1166 = .ok (.iload_n 3, 1) := by decide +kernel
theorem dL_law_1167 : decode cL_law 1167 = .ok (.iconst 3, 1) := by decide +kernel
theorem dL_law_1168 : decode cL_law 1168 = .ok (.iadd, 1) := by decide +kernel
theorem dL_law_1169 : decode cL_law 1169 = .ok (.iaload, 1) := by decide +kernel
theorem dL_law_1170 : decode cL_law 1170 = .ok (.aload_n 0, 1) := by decide +kernel
theorem dL_law_1171 : decode cL_law 1171 = .ok (.iload_n 3, 1) := by decide +kernel
theorem dL_law_1172 : decode cL_law 1172 = .ok (.iconst 4, 1) := by decide +kernel
theorem dL_law_1173 : decode cL_law 1173 = .ok (.iadd, 1) := by decide +kernel
theorem dL_law_1174 : decode cL_law 1174 = .ok (.iaload, 1) := by decide +kernel
theorem dL_law_1175 : decode cL_law 1175 = .ok (.invokevirtual 149, 3) := by decide +kernel
theorem dL_law_1178 : decode cL_law 1178 = .ok (.aload_n 2, 1) := by decide +kernel
theorem dL_law_1179 : decode cL_law 1179 = .ok (.aload_n 0, 1) := by decide +kernel
theorem dL_law_1180 : decode cL_law 1180 = .ok (.iload_n 3, 1) := by decide +kernel
theorem dL_law_1181 : decode cL_law 1181 = .ok (.iconst 1, 1) := by decide +kernel
theorem dL_law_1182 : decode cL_law 1182 = .ok (.iadd, 1) := by decide +kernel
theorem dL_law_1183 : decode cL_law 1183 = .ok (.iaload, 1) := by decide +kernel
theorem dL_law_1184 : decode cL_law 1184 = .ok (.aload_n 0, 1) := by decide +kernel
theorem dL_law_1185 : decode cL_law 1185 = .ok (.iload_n 3, 1) := by decide +kernel
theorem dL_law_1186 : decode cL_law 1186 = .ok (.iconst 2, 1) := by decide +kernel
theorem dL_law_1187 : decode cL_law 1187 = .ok (.iadd, 1) := by decide +kernel
theorem dL_law_1188 : decode cL_law 1188 = .ok (.iaload, 1) := by decide +kernel
theorem dL_law_1189 : decode cL_law 1189 = .ok (.aload_n 0, 1) := by decide +kernel
theorem dL_law_1190 : decode cL_law 1190 = .ok (.iload_n 3, 1) := by decide +kernel
theorem dL_law_1191 : decode cL_law 1191 = .ok (.iconst 3, 1) := by decide +kernel
theorem dL_law_1192 : decode cL_law 1192 = .ok (.iadd, 1) := by decide +kernel
theorem dL_law_1193 : decode cL_law 1193 = .ok (.iaload, 1) := by decide +kernel
theorem dL_law_1194 : decode cL_law 1194 = .ok (.aload_n 0, 1) := by decide +kernel
theorem dL_law_1195 : decode cL_law 1195 = .ok (.iload_n 3, 1) := by decide +kernel
theorem dL_law_1196 : decode cL_law 1196 = .ok (.iconst 4, 1) := by decide +kernel
theorem dL_law_1197 : decode cL_law 1197 = .ok (.iadd, 1) := by decide +kernel
theorem dL_law_1198 : decode cL_law 1198 = .ok (.iaload, 1) := by decide +kernel
theorem dL_law_1199 : decode cL_law 1199 = .ok (.invokevirtual 152, 3) := by decide +kernel
theorem dL_law_1202 : decode cL_law 1202 = .ok (.if_icmp .eq 641, 3) := by decide +kernel
theorem lw_k32 {G : lu_G} {Q : State → Prop} {ρ σ : Nat → Nat} {m n : lu_M} {k z b L j : Nat} {xs : Nat → Int32} (X : lw_X G 2000 80000 b L xs) (hj : j + 5 ≤ L) (hr : Rel m n) (hk : k + 6 ≤ (lu_R G).cells ∧ z + 36 ≤ (lu_R G).slots) (kk : ∀ (m2 n2 : lu_M) (ρ2 : Nat → Nat), Rel m2 n2 → ρ2 0 = ρ 0 → lw_I G Q 1843 (lw_lv b (ρ 0) (σ 0) (nI j)) [] ρ2 m2 σ n2 (k + 6) (z + 36)) : lw_I G Q 1154 (lw_lv b (ρ 0) (σ 0) (nI j)) [] ρ m σ n k z := by
  refine lw_a1 X dL_law_1154 rfl ?_
  refine lw_ld X hj 1 (by decide) rfl dL_law_1155 dL_law_1156 dL_law_1157 dL_law_1158 dL_law_1159 rfl ?_
  refine lw_ld X hj 2 (by decide) rfl dL_law_1160 dL_law_1161 dL_law_1162 dL_law_1163 dL_law_1164 rfl ?_
  refine lw_ld X hj 3 (by decide) rfl dL_law_1165 dL_law_1166 dL_law_1167 dL_law_1168 dL_law_1169 rfl ?_
  refine lw_ld X hj 4 (by decide) rfl dL_law_1170 dL_law_1171 dL_law_1172 dL_law_1173 dL_law_1174 rfl ?_
  obtain ⟨a, m2, n2, q1, q2, hr2⟩ := y_report (xs (j + 1)) (xs (j + 2)) (xs (j + 3)) (xs (j + 4)) m n hr
  refine lw_callC (As := [.int (xs (j + 1)), .int (xs (j + 2)), .int (xs (j + 3)), .int (xs (j + 4))]) (rest := []) X.1 (c11_report (lu_l G) (xs (j + 1)) (xs (j + 2)) (xs (j + 3)) (xs (j + 4))) q1 ml11_report mv11_report rfl rfl (by decide) (Nat.le_of_ble_eq_true rfl) (Nat.le_of_ble_eq_true rfl) ⟨by omega, by omega⟩ dL_law_1175 rfl rfl ?_
  refine lw_a2 X dL_law_1178 rfl ?_
  refine lw_ld X hj 1 (by decide) rfl dL_law_1179 dL_law_1180 dL_law_1181 dL_law_1182 dL_law_1183 rfl ?_
  refine lw_ld X hj 2 (by decide) rfl dL_law_1184 dL_law_1185 dL_law_1186 dL_law_1187 dL_law_1188 rfl ?_
  refine lw_ld X hj 3 (by decide) rfl dL_law_1189 dL_law_1190 dL_law_1191 dL_law_1192 dL_law_1193 rfl ?_
  refine lw_ld X hj 4 (by decide) rfl dL_law_1194 dL_law_1195 dL_law_1196 dL_law_1197 dL_law_1198 rfl ?_
  refine lw_callM (As := [.int (xs (j + 1)), .int (xs (j + 2)), .int (xs (j + 3)), .int (xs (j + 4))]) (rest := [.int a]) X.1 (c12_report (lu_l G) (xs (j + 1)) (xs (j + 2)) (xs (j + 3)) (xs (j + 4))) q2 ml12_report mv12_report rfl rfl (Nat.le_of_ble_eq_true rfl) (Nat.le_of_ble_eq_true rfl) (Nat.le_of_ble_eq_true rfl) ⟨by omega, by omega⟩ dL_law_1199 rfl rfl ?_
  refine lw_same X dL_law_1202 rfl ?_
  exact lw_I.wide (kk m2 n2 ρ hr2 rfl)
theorem dL_law_1207 : decode cL_law 1207 = .ok (.aload_n 1, 1) := by decide +kernel
theorem dL_law_1208 : decode cL_law 1208 = .ok (.invokevirtual 153, 3) := by decide +kernel
theorem dL_law_1211 : decode cL_law 1211 = .ok (.aload_n 2, 1) := by decide +kernel
theorem dL_law_1212 : decode cL_law 1212 = .ok (.invokevirtual 156, 3) := by decide +kernel
theorem dL_law_1215 : decode cL_law 1215 = .ok (.if_icmp .eq 628, 3) := by decide +kernel
theorem lw_k33 {G : lu_G} {Q : State → Prop} {ρ σ : Nat → Nat} {m n : lu_M} {k z b L j : Nat} {xs : Nat → Int32} (X : lw_X G 2000 80000 b L xs) (hj : j + 5 ≤ L) (hr : Rel m n) (hk : k + 6 ≤ (lu_R G).cells ∧ z + 36 ≤ (lu_R G).slots) (kk : ∀ (m2 n2 : lu_M) (ρ2 : Nat → Nat), Rel m2 n2 → ρ2 0 = ρ 0 → lw_I G Q 1843 (lw_lv b (ρ 0) (σ 0) (nI j)) [] ρ2 m2 σ n2 (k + 6) (z + 36)) : lw_I G Q 1207 (lw_lv b (ρ 0) (σ 0) (nI j)) [] ρ m σ n k z := by
  refine lw_a1 X dL_law_1207 rfl ?_
  obtain ⟨a, m2, n2, q1, q2, hr2⟩ := y_forget m n hr
  refine lw_callC (As := []) (rest := []) X.1 (c11_forget (lu_l G) ) q1 ml11_forget mv11_forget rfl rfl (by decide) (Nat.le_of_ble_eq_true rfl) (Nat.le_of_ble_eq_true rfl) ⟨by omega, by omega⟩ dL_law_1208 rfl rfl ?_
  refine lw_a2 X dL_law_1211 rfl ?_
  refine lw_callM (As := []) (rest := [.int a]) X.1 (c12_forget (lu_l G) ) q2 ml12_forget mv12_forget rfl rfl (Nat.le_of_ble_eq_true rfl) (Nat.le_of_ble_eq_true rfl) (Nat.le_of_ble_eq_true rfl) ⟨by omega, by omega⟩ dL_law_1212 rfl rfl ?_
  refine lw_same X dL_law_1215 rfl ?_
  exact lw_I.wide (kk m2 n2 ρ hr2 rfl)
theorem dL_law_1220 : decode cL_law 1220 = .ok (.aload_n 1, 1) := by decide +kernel
theorem dL_law_1221 : decode cL_law 1221 = .ok (.aload_n 0, 1) := by decide +kernel
theorem dL_law_1222 : decode cL_law 1222 = .ok (.iload_n 3, 1) := by decide +kernel
theorem dL_law_1223 : decode cL_law 1223 = .ok (.iconst 1, 1) := by decide +kernel
theorem dL_law_1224 : decode cL_law 1224 = .ok (.iadd, 1) := by decide +kernel
theorem dL_law_1225 : decode cL_law 1225 = .ok (.iaload, 1) := by decide +kernel
theorem dL_law_1226 : decode cL_law 1226 = .ok (.invokevirtual 157, 3) := by decide +kernel
theorem dL_law_1229 : decode cL_law 1229 = .ok (.aload_n 2, 1) := by decide +kernel
theorem dL_law_1230 : decode cL_law 1230 = .ok (.aload_n 0, 1) := by decide +kernel
theorem dL_law_1231 : decode cL_law 1231 = .ok (.iload_n 3, 1) := by decide +kernel
theorem dL_law_1232 : decode cL_law 1232 = .ok (.iconst 1, 1) := by decide +kernel
theorem dL_law_1233 : decode cL_law 1233 = .ok (.iadd, 1) := by decide +kernel
theorem dL_law_1234 : decode cL_law 1234 = .ok (.iaload, 1) := by decide +kernel
theorem dL_law_1235 : decode cL_law 1235 = .ok (.invokevirtual 160, 3) := by decide +kernel
theorem dL_law_1238 : decode cL_law 1238 = .ok (.if_icmp .eq 605, 3) := by decide +kernel
theorem lw_k34 {G : lu_G} {Q : State → Prop} {ρ σ : Nat → Nat} {m n : lu_M} {k z b L j : Nat} {xs : Nat → Int32} (X : lw_X G 2000 80000 b L xs) (hj : j + 5 ≤ L) (hr : Rel m n) (hk : k + 6 ≤ (lu_R G).cells ∧ z + 36 ≤ (lu_R G).slots) (kk : ∀ (m2 n2 : lu_M) (ρ2 : Nat → Nat), Rel m2 n2 → ρ2 0 = ρ 0 → lw_I G Q 1843 (lw_lv b (ρ 0) (σ 0) (nI j)) [] ρ2 m2 σ n2 (k + 6) (z + 36)) : lw_I G Q 1220 (lw_lv b (ρ 0) (σ 0) (nI j)) [] ρ m σ n k z := by
  refine lw_a1 X dL_law_1220 rfl ?_
  refine lw_ld X hj 1 (by decide) rfl dL_law_1221 dL_law_1222 dL_law_1223 dL_law_1224 dL_law_1225 rfl ?_
  obtain ⟨a, m2, n2, q1, q2, hr2⟩ := y_span (xs (j + 1)) m n hr
  refine lw_callC (As := [.int (xs (j + 1))]) (rest := []) X.1 (c11_span (lu_l G) (xs (j + 1))) q1 ml11_span mv11_span rfl rfl (by decide) (Nat.le_of_ble_eq_true rfl) (Nat.le_of_ble_eq_true rfl) ⟨by omega, by omega⟩ dL_law_1226 rfl rfl ?_
  refine lw_a2 X dL_law_1229 rfl ?_
  refine lw_ld X hj 1 (by decide) rfl dL_law_1230 dL_law_1231 dL_law_1232 dL_law_1233 dL_law_1234 rfl ?_
  refine lw_callM (As := [.int (xs (j + 1))]) (rest := [.int a]) X.1 (c12_span (lu_l G) (xs (j + 1))) q2 ml12_span mv12_span rfl rfl (Nat.le_of_ble_eq_true rfl) (Nat.le_of_ble_eq_true rfl) (Nat.le_of_ble_eq_true rfl) ⟨by omega, by omega⟩ dL_law_1235 rfl rfl ?_
  refine lw_same X dL_law_1238 rfl ?_
  exact lw_I.wide (kk m2 n2 ρ hr2 rfl)
theorem dL_law_1243 : decode cL_law 1243 = .ok (.aload_n 1, 1) := by decide +kernel
theorem dL_law_1244 : decode cL_law 1244 = .ok (.invokevirtual 161, 3) := by decide +kernel
theorem dL_law_1247 : decode cL_law 1247 = .ok (.aload_n 2, 1) := by decide +kernel
theorem dL_law_1248 : decode cL_law 1248 = .ok (.invokevirtual 164, 3) := by decide +kernel
theorem dL_law_1251 : decode cL_law 1251 = .ok (.if_icmp .eq 592, 3) := by decide +kernel
theorem lw_k35 {G : lu_G} {Q : State → Prop} {ρ σ : Nat → Nat} {m n : lu_M} {k z b L j : Nat} {xs : Nat → Int32} (X : lw_X G 2000 80000 b L xs) (hj : j + 5 ≤ L) (hr : Rel m n) (hk : k + 6 ≤ (lu_R G).cells ∧ z + 36 ≤ (lu_R G).slots) (kk : ∀ (m2 n2 : lu_M) (ρ2 : Nat → Nat), Rel m2 n2 → ρ2 0 = ρ 0 → lw_I G Q 1843 (lw_lv b (ρ 0) (σ 0) (nI j)) [] ρ2 m2 σ n2 (k + 6) (z + 36)) : lw_I G Q 1243 (lw_lv b (ρ 0) (σ 0) (nI j)) [] ρ m σ n k z := by
  refine lw_a1 X dL_law_1243 rfl ?_
  obtain ⟨a, m2, n2, q1, q2, hr2⟩ := y_liar m n hr
  refine lw_callC (As := []) (rest := []) X.1 (c11_liar (lu_l G) ) q1 ml11_liar mv11_liar rfl rfl (by decide) (Nat.le_of_ble_eq_true rfl) (Nat.le_of_ble_eq_true rfl) ⟨by omega, by omega⟩ dL_law_1244 rfl rfl ?_
  refine lw_a2 X dL_law_1247 rfl ?_
  refine lw_callM (As := []) (rest := [.int a]) X.1 (c12_liar (lu_l G) ) q2 ml12_liar mv12_liar rfl rfl (Nat.le_of_ble_eq_true rfl) (Nat.le_of_ble_eq_true rfl) (Nat.le_of_ble_eq_true rfl) ⟨by omega, by omega⟩ dL_law_1248 rfl rfl ?_
  refine lw_same X dL_law_1251 rfl ?_
  exact lw_I.wide (kk m2 n2 ρ hr2 rfl)
theorem dL_law_1256 : decode cL_law 1256 = .ok (.aload_n 1, 1) := by decide +kernel
theorem dL_law_1257 : decode cL_law 1257 = .ok (.aload_n 0, 1) := by decide +kernel
theorem dL_law_1258 : decode cL_law 1258 = .ok (.iload_n 3, 1) := by decide +kernel
theorem dL_law_1259 : decode cL_law 1259 = .ok (.iconst 1, 1) := by decide +kernel
theorem dL_law_1260 : decode cL_law 1260 = .ok (.iadd, 1) := by decide +kernel
theorem dL_law_1261 : decode cL_law 1261 = .ok (.iaload, 1) := by decide +kernel
theorem dL_law_1262 : decode cL_law 1262 = .ok (.invokevirtual 165, 3) := by decide +kernel
theorem dL_law_1265 : decode cL_law 1265 = .ok (.aload_n 2, 1) := by decide +kernel
theorem dL_law_1266 : decode cL_law 1266 = .ok (.aload_n 0, 1) := by decide +kernel
theorem dL_law_1267 : decode cL_law 1267 = .ok (.iload_n 3, 1) := by decide +kernel
theorem dL_law_1268 : decode cL_law 1268 = .ok (.iconst 1, 1) := by decide +kernel
theorem dL_law_1269 : decode cL_law 1269 = .ok (.iadd, 1) := by decide +kernel
theorem dL_law_1270 : decode cL_law 1270 = .ok (.iaload, 1) := by decide +kernel
theorem dL_law_1271 : decode cL_law 1271 = .ok (.invokevirtual 168, 3) := by decide +kernel
theorem dL_law_1274 : decode cL_law 1274 = .ok (.if_icmp .eq 569, 3) := by decide +kernel
theorem lw_k36 {G : lu_G} {Q : State → Prop} {ρ σ : Nat → Nat} {m n : lu_M} {k z b L j : Nat} {xs : Nat → Int32} (X : lw_X G 2000 80000 b L xs) (hj : j + 5 ≤ L) (hr : Rel m n) (hk : k + 6 ≤ (lu_R G).cells ∧ z + 36 ≤ (lu_R G).slots) (kk : ∀ (m2 n2 : lu_M) (ρ2 : Nat → Nat), Rel m2 n2 → ρ2 0 = ρ 0 → lw_I G Q 1843 (lw_lv b (ρ 0) (σ 0) (nI j)) [] ρ2 m2 σ n2 (k + 6) (z + 36)) : lw_I G Q 1256 (lw_lv b (ρ 0) (σ 0) (nI j)) [] ρ m σ n k z := by
  refine lw_a1 X dL_law_1256 rfl ?_
  refine lw_ld X hj 1 (by decide) rfl dL_law_1257 dL_law_1258 dL_law_1259 dL_law_1260 dL_law_1261 rfl ?_
  obtain ⟨a, m2, n2, q1, q2, hr2⟩ := y_seed (xs (j + 1)) m n hr
  refine lw_callC (As := [.int (xs (j + 1))]) (rest := []) X.1 (c11_seed (lu_l G) (xs (j + 1))) q1 ml11_seed mv11_seed rfl rfl (by decide) (Nat.le_of_ble_eq_true rfl) (Nat.le_of_ble_eq_true rfl) ⟨by omega, by omega⟩ dL_law_1262 rfl rfl ?_
  refine lw_a2 X dL_law_1265 rfl ?_
  refine lw_ld X hj 1 (by decide) rfl dL_law_1266 dL_law_1267 dL_law_1268 dL_law_1269 dL_law_1270 rfl ?_
  refine lw_callM (As := [.int (xs (j + 1))]) (rest := [.int a]) X.1 (c12_seed (lu_l G) (xs (j + 1))) q2 ml12_seed mv12_seed rfl rfl (Nat.le_of_ble_eq_true rfl) (Nat.le_of_ble_eq_true rfl) (Nat.le_of_ble_eq_true rfl) ⟨by omega, by omega⟩ dL_law_1271 rfl rfl ?_
  refine lw_same X dL_law_1274 rfl ?_
  exact lw_I.wide (kk m2 n2 ρ hr2 rfl)
theorem dL_law_1279 : decode cL_law 1279 = .ok (.aload_n 1, 1) := by decide +kernel
theorem dL_law_1280 : decode cL_law 1280 = .ok (.invokevirtual 169, 3) := by decide +kernel
theorem dL_law_1283 : decode cL_law 1283 = .ok (.aload_n 2, 1) := by decide +kernel
theorem dL_law_1284 : decode cL_law 1284 = .ok (.invokevirtual 172, 3) := by decide +kernel
theorem dL_law_1287 : decode cL_law 1287 = .ok (.if_icmp .eq 556, 3) := by decide +kernel
theorem lw_k37 {G : lu_G} {Q : State → Prop} {ρ σ : Nat → Nat} {m n : lu_M} {k z b L j : Nat} {xs : Nat → Int32} (X : lw_X G 2000 80000 b L xs) (hj : j + 5 ≤ L) (hr : Rel m n) (hk : k + 6 ≤ (lu_R G).cells ∧ z + 36 ≤ (lu_R G).slots) (kk : ∀ (m2 n2 : lu_M) (ρ2 : Nat → Nat), Rel m2 n2 → ρ2 0 = ρ 0 → lw_I G Q 1843 (lw_lv b (ρ 0) (σ 0) (nI j)) [] ρ2 m2 σ n2 (k + 6) (z + 36)) : lw_I G Q 1279 (lw_lv b (ρ 0) (σ 0) (nI j)) [] ρ m σ n k z := by
  refine lw_a1 X dL_law_1279 rfl ?_
  obtain ⟨a, m2, n2, q1, q2, hr2⟩ := y_lot m n hr
  refine lw_callC (As := []) (rest := []) X.1 (c11_lot (lu_l G) ) q1 ml11_lot mv11_lot rfl rfl (by decide) (Nat.le_of_ble_eq_true rfl) (Nat.le_of_ble_eq_true rfl) ⟨by omega, by omega⟩ dL_law_1280 rfl rfl ?_
  refine lw_a2 X dL_law_1283 rfl ?_
  refine lw_callM (As := []) (rest := [.int a]) X.1 (c12_lot (lu_l G) ) q2 ml12_lot mv12_lot rfl rfl (Nat.le_of_ble_eq_true rfl) (Nat.le_of_ble_eq_true rfl) (Nat.le_of_ble_eq_true rfl) ⟨by omega, by omega⟩ dL_law_1284 rfl rfl ?_
  refine lw_same X dL_law_1287 rfl ?_
  exact lw_I.wide (kk m2 n2 ρ hr2 rfl)
theorem dL_law_1292 : decode cL_law 1292 = .ok (.aload_n 1, 1) := by decide +kernel
theorem dL_law_1293 : decode cL_law 1293 = .ok (.aload_n 0, 1) := by decide +kernel
theorem dL_law_1294 : decode cL_law 1294 = .ok (.iload_n 3, 1) := by decide +kernel
theorem dL_law_1295 : decode cL_law 1295 = .ok (.iconst 1, 1) := by decide +kernel
theorem dL_law_1296 : decode cL_law 1296 = .ok (.iadd, 1) := by decide +kernel
theorem dL_law_1297 : decode cL_law 1297 = .ok (.iaload, 1) := by decide +kernel
theorem dL_law_1298 : decode cL_law 1298 = .ok (.aload_n 0, 1) := by decide +kernel
theorem dL_law_1299 : decode cL_law 1299 = .ok (.iload_n 3, 1) := by decide +kernel
theorem dL_law_1300 : decode cL_law 1300 = .ok (.iconst 2, 1) := by decide +kernel
theorem dL_law_1301 : decode cL_law 1301 = .ok (.iadd, 1) := by decide +kernel
theorem dL_law_1302 : decode cL_law 1302 = .ok (.iaload, 1) := by decide +kernel
theorem dL_law_1303 : decode cL_law 1303 = .ok (.invokevirtual 173, 3) := by decide +kernel
theorem dL_law_1306 : decode cL_law 1306 = .ok (.aload_n 2, 1) := by decide +kernel
theorem dL_law_1307 : decode cL_law 1307 = .ok (.aload_n 0, 1) := by decide +kernel
theorem dL_law_1308 : decode cL_law 1308 = .ok (.iload_n 3, 1) := by decide +kernel
theorem dL_law_1309 : decode cL_law 1309 = .ok (.iconst 1, 1) := by decide +kernel
theorem dL_law_1310 : decode cL_law 1310 = .ok (.iadd, 1) := by decide +kernel
theorem dL_law_1311 : decode cL_law 1311 = .ok (.iaload, 1) := by decide +kernel
theorem dL_law_1312 : decode cL_law 1312 = .ok (.aload_n 0, 1) := by decide +kernel
theorem dL_law_1313 : decode cL_law 1313 = .ok (.iload_n 3, 1) := by decide +kernel
theorem dL_law_1314 : decode cL_law 1314 = .ok (.iconst 2, 1) := by decide +kernel
theorem dL_law_1315 : decode cL_law 1315 = .ok (.iadd, 1) := by decide +kernel
theorem dL_law_1316 : decode cL_law 1316 = .ok (.iaload, 1) := by decide +kernel
theorem dL_law_1317 : decode cL_law 1317 = .ok (.invokevirtual 176, 3) := by decide +kernel
theorem dL_law_1320 : decode cL_law 1320 = .ok (.if_icmp .eq 523, 3) := by decide +kernel
theorem lw_k38 {G : lu_G} {Q : State → Prop} {ρ σ : Nat → Nat} {m n : lu_M} {k z b L j : Nat} {xs : Nat → Int32} (X : lw_X G 2000 80000 b L xs) (hj : j + 5 ≤ L) (hr : Rel m n) (hk : k + 6 ≤ (lu_R G).cells ∧ z + 36 ≤ (lu_R G).slots) (kk : ∀ (m2 n2 : lu_M) (ρ2 : Nat → Nat), Rel m2 n2 → ρ2 0 = ρ 0 → lw_I G Q 1843 (lw_lv b (ρ 0) (σ 0) (nI j)) [] ρ2 m2 σ n2 (k + 6) (z + 36)) : lw_I G Q 1292 (lw_lv b (ρ 0) (σ 0) (nI j)) [] ρ m σ n k z := by
  refine lw_a1 X dL_law_1292 rfl ?_
  refine lw_ld X hj 1 (by decide) rfl dL_law_1293 dL_law_1294 dL_law_1295 dL_law_1296 dL_law_1297 rfl ?_
  refine lw_ld X hj 2 (by decide) rfl dL_law_1298 dL_law_1299 dL_law_1300 dL_law_1301 dL_law_1302 rfl ?_
  obtain ⟨a, m2, n2, q1, q2, hr2⟩ := y_often (xs (j + 1)) (xs (j + 2)) m n hr
  refine lw_callC (As := [.int (xs (j + 1)), .int (xs (j + 2))]) (rest := []) X.1 (c11_often (lu_l G) (xs (j + 1)) (xs (j + 2))) q1 ml11_often mv11_often rfl rfl (by decide) (Nat.le_of_ble_eq_true rfl) (Nat.le_of_ble_eq_true rfl) ⟨by omega, by omega⟩ dL_law_1303 rfl rfl ?_
  refine lw_a2 X dL_law_1306 rfl ?_
  refine lw_ld X hj 1 (by decide) rfl dL_law_1307 dL_law_1308 dL_law_1309 dL_law_1310 dL_law_1311 rfl ?_
  refine lw_ld X hj 2 (by decide) rfl dL_law_1312 dL_law_1313 dL_law_1314 dL_law_1315 dL_law_1316 rfl ?_
  refine lw_callM (As := [.int (xs (j + 1)), .int (xs (j + 2))]) (rest := [.int a]) X.1 (c12_often (lu_l G) (xs (j + 1)) (xs (j + 2))) q2 ml12_often mv12_often rfl rfl (Nat.le_of_ble_eq_true rfl) (Nat.le_of_ble_eq_true rfl) (Nat.le_of_ble_eq_true rfl) ⟨by omega, by omega⟩ dL_law_1317 rfl rfl ?_
  refine lw_same X dL_law_1320 rfl ?_
  exact lw_I.wide (kk m2 n2 ρ hr2 rfl)
theorem dL_law_1325 : decode cL_law 1325 = .ok (.aload_n 1, 1) := by decide +kernel
theorem dL_law_1326 : decode cL_law 1326 = .ok (.aload_n 0, 1) := by decide +kernel
theorem dL_law_1327 : decode cL_law 1327 = .ok (.iload_n 3, 1) := by decide +kernel
theorem dL_law_1328 : decode cL_law 1328 = .ok (.iconst 1, 1) := by decide +kernel
theorem dL_law_1329 : decode cL_law 1329 = .ok (.iadd, 1) := by decide +kernel
theorem dL_law_1330 : decode cL_law 1330 = .ok (.iaload, 1) := by decide +kernel
theorem dL_law_1331 : decode cL_law 1331 = .ok (.invokevirtual 177, 3) := by decide +kernel
theorem dL_law_1334 : decode cL_law 1334 = .ok (.aload_n 2, 1) := by decide +kernel
theorem dL_law_1335 : decode cL_law 1335 = .ok (.aload_n 0, 1) := by decide +kernel
theorem dL_law_1336 : decode cL_law 1336 = .ok (.iload_n 3, 1) := by decide +kernel
theorem dL_law_1337 : decode cL_law 1337 = .ok (.iconst 1, 1) := by decide +kernel
theorem dL_law_1338 : decode cL_law 1338 = .ok (.iadd, 1) := by decide +kernel
theorem dL_law_1339 : decode cL_law 1339 = .ok (.iaload, 1) := by decide +kernel
theorem dL_law_1340 : decode cL_law 1340 = .ok (.invokevirtual 180, 3) := by decide +kernel
theorem dL_law_1343 : decode cL_law 1343 = .ok (.if_icmp .eq 500, 3) := by decide +kernel
theorem lw_k39 {G : lu_G} {Q : State → Prop} {ρ σ : Nat → Nat} {m n : lu_M} {k z b L j : Nat} {xs : Nat → Int32} (X : lw_X G 2000 80000 b L xs) (hj : j + 5 ≤ L) (hr : Rel m n) (hk : k + 6 ≤ (lu_R G).cells ∧ z + 36 ≤ (lu_R G).slots) (kk : ∀ (m2 n2 : lu_M) (ρ2 : Nat → Nat), Rel m2 n2 → ρ2 0 = ρ 0 → lw_I G Q 1843 (lw_lv b (ρ 0) (σ 0) (nI j)) [] ρ2 m2 σ n2 (k + 6) (z + 36)) : lw_I G Q 1325 (lw_lv b (ρ 0) (σ 0) (nI j)) [] ρ m σ n k z := by
  refine lw_a1 X dL_law_1325 rfl ?_
  refine lw_ld X hj 1 (by decide) rfl dL_law_1326 dL_law_1327 dL_law_1328 dL_law_1329 dL_law_1330 rfl ?_
  obtain ⟨a, m2, n2, q1, q2, hr2⟩ := y_prove (xs (j + 1)) m n hr
  refine lw_callC (As := [.int (xs (j + 1))]) (rest := []) X.1 (c11_prove (lu_l G) (xs (j + 1))) q1 ml11_prove mv11_prove rfl rfl (by decide) (Nat.le_of_ble_eq_true rfl) (Nat.le_of_ble_eq_true rfl) ⟨by omega, by omega⟩ dL_law_1331 rfl rfl ?_
  refine lw_a2 X dL_law_1334 rfl ?_
  refine lw_ld X hj 1 (by decide) rfl dL_law_1335 dL_law_1336 dL_law_1337 dL_law_1338 dL_law_1339 rfl ?_
  refine lw_callM (As := [.int (xs (j + 1))]) (rest := [.int a]) X.1 (c12_prove (lu_l G) (xs (j + 1))) q2 ml12_prove mv12_prove rfl rfl (Nat.le_of_ble_eq_true rfl) (Nat.le_of_ble_eq_true rfl) (Nat.le_of_ble_eq_true rfl) ⟨by omega, by omega⟩ dL_law_1340 rfl rfl ?_
  refine lw_same X dL_law_1343 rfl ?_
  exact lw_I.wide (kk m2 n2 ρ hr2 rfl)
theorem dL_law_1348 : decode cL_law 1348 = .ok (.aload_n 1, 1) := by decide +kernel
theorem dL_law_1349 : decode cL_law 1349 = .ok (.aload_n 0, 1) := by decide +kernel
theorem dL_law_1350 : decode cL_law 1350 = .ok (.iload_n 3, 1) := by decide +kernel
theorem dL_law_1351 : decode cL_law 1351 = .ok (.iconst 1, 1) := by decide +kernel
theorem dL_law_1352 : decode cL_law 1352 = .ok (.iadd, 1) := by decide +kernel
theorem dL_law_1353 : decode cL_law 1353 = .ok (.iaload, 1) := by decide +kernel
theorem dL_law_1354 : decode cL_law 1354 = .ok (.aload_n 0, 1) := by decide +kernel
theorem dL_law_1355 : decode cL_law 1355 = .ok (.iload_n 3, 1) := by decide +kernel
theorem dL_law_1356 : decode cL_law 1356 = .ok (.iconst 2, 1) := by decide +kernel
theorem dL_law_1357 : decode cL_law 1357 = .ok (.iadd, 1) := by decide +kernel
theorem dL_law_1358 : decode cL_law 1358 = .ok (.iaload, 1) := by decide +kernel
theorem dL_law_1359 : decode cL_law 1359 = .ok (.invokevirtual 181, 3) := by decide +kernel
theorem dL_law_1362 : decode cL_law 1362 = .ok (.aload_n 2, 1) := by decide +kernel
theorem dL_law_1363 : decode cL_law 1363 = .ok (.aload_n 0, 1) := by decide +kernel
theorem dL_law_1364 : decode cL_law 1364 = .ok (.iload_n 3, 1) := by decide +kernel
theorem dL_law_1365 : decode cL_law 1365 = .ok (.iconst 1, 1) := by decide +kernel
theorem dL_law_1366 : decode cL_law 1366 = .ok (.iadd, 1) := by decide +kernel
theorem dL_law_1367 : decode cL_law 1367 = .ok (.iaload, 1) := by decide +kernel
theorem dL_law_1368 : decode cL_law 1368 = .ok (.aload_n 0, 1) := by decide +kernel
theorem dL_law_1369 : decode cL_law 1369 = .ok (.iload_n 3, 1) := by decide +kernel
theorem dL_law_1370 : decode cL_law 1370 = .ok (.iconst 2, 1) := by decide +kernel
theorem dL_law_1371 : decode cL_law 1371 = .ok (.iadd, 1) := by decide +kernel
theorem dL_law_1372 : decode cL_law 1372 = .ok (.iaload, 1) := by decide +kernel
theorem dL_law_1373 : decode cL_law 1373 = .ok (.invokevirtual 184, 3) := by decide +kernel
theorem dL_law_1376 : decode cL_law 1376 = .ok (.if_icmp .eq 467, 3) := by decide +kernel
theorem lw_k40 {G : lu_G} {Q : State → Prop} {ρ σ : Nat → Nat} {m n : lu_M} {k z b L j : Nat} {xs : Nat → Int32} (X : lw_X G 2000 80000 b L xs) (hj : j + 5 ≤ L) (hr : Rel m n) (hk : k + 6 ≤ (lu_R G).cells ∧ z + 36 ≤ (lu_R G).slots) (kk : ∀ (m2 n2 : lu_M) (ρ2 : Nat → Nat), Rel m2 n2 → ρ2 0 = ρ 0 → lw_I G Q 1843 (lw_lv b (ρ 0) (σ 0) (nI j)) [] ρ2 m2 σ n2 (k + 6) (z + 36)) : lw_I G Q 1348 (lw_lv b (ρ 0) (σ 0) (nI j)) [] ρ m σ n k z := by
  refine lw_a1 X dL_law_1348 rfl ?_
  refine lw_ld X hj 1 (by decide) rfl dL_law_1349 dL_law_1350 dL_law_1351 dL_law_1352 dL_law_1353 rfl ?_
  refine lw_ld X hj 2 (by decide) rfl dL_law_1354 dL_law_1355 dL_law_1356 dL_law_1357 dL_law_1358 rfl ?_
  obtain ⟨a, m2, n2, q1, q2, hr2⟩ := y_row (xs (j + 1)) (xs (j + 2)) m n hr
  refine lw_callC (As := [.int (xs (j + 1)), .int (xs (j + 2))]) (rest := []) X.1 (c11_row (lu_l G) (xs (j + 1)) (xs (j + 2))) q1 ml11_row mv11_row rfl rfl (by decide) (Nat.le_of_ble_eq_true rfl) (Nat.le_of_ble_eq_true rfl) ⟨by omega, by omega⟩ dL_law_1359 rfl rfl ?_
  refine lw_a2 X dL_law_1362 rfl ?_
  refine lw_ld X hj 1 (by decide) rfl dL_law_1363 dL_law_1364 dL_law_1365 dL_law_1366 dL_law_1367 rfl ?_
  refine lw_ld X hj 2 (by decide) rfl dL_law_1368 dL_law_1369 dL_law_1370 dL_law_1371 dL_law_1372 rfl ?_
  refine lw_callM (As := [.int (xs (j + 1)), .int (xs (j + 2))]) (rest := [.int a]) X.1 (c12_row (lu_l G) (xs (j + 1)) (xs (j + 2))) q2 ml12_row mv12_row rfl rfl (Nat.le_of_ble_eq_true rfl) (Nat.le_of_ble_eq_true rfl) (Nat.le_of_ble_eq_true rfl) ⟨by omega, by omega⟩ dL_law_1373 rfl rfl ?_
  refine lw_same X dL_law_1376 rfl ?_
  exact lw_I.wide (kk m2 n2 ρ hr2 rfl)

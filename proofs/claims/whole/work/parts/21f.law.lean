theorem la_image {l : Launch} {G : Gx} {b L : Nat} {xs : Nat → Int32} {i : Nat} {mm : Mm} (hi : i + 6 ≤ L) (hL : L ≤ 384) (hI : Iv mm) (kend : ∀ m', Iv m' → PW G (KL l G b L xs) 1132 (lvL G b i) [] m') : PW G (KL l G b L xs) 938 (lvL G b i) [] mm := by
  obtain ⟨r, m1, m2, e1, e2, hI2⟩ := hI.step (sp_image (xs (i + 1)))
  refine pw_aload_n (i := 1) 2 rfl rfl 939 dL_law_938 rfl ?_
  refine pl_arg (i := i) 1 944 dL_law_939 dL_law_940 dL_law_941 rfl dL_law_942 dL_law_943 rfl (by omega) hL ?_
  refine pw_callVi 947 dL_law_944 rfl [.int (xs (i + 1))] 1 ⟨gL_law_X6_image, rfl, sgV_X6_image, ⟨Nat.le_of_ble_eq_true rfl, Nat.le_of_ble_eq_true rfl⟩, ⟨Nat.le_of_ble_eq_true rfl, Nat.le_of_ble_eq_true rfl⟩⟩ ly_0 (by decide) la_0 rfl (k_X6_image e1) rfl rfl (Nat.le_of_ble_eq_true rfl) ?_
  refine pw_aload_n (i := 2) 1 rfl rfl 948 dL_law_947 rfl ?_
  refine pl_arg (i := i) 1 953 dL_law_948 dL_law_949 dL_law_950 rfl dL_law_951 dL_law_952 rfl (by omega) hL ?_
  refine pw_callVi 956 dL_law_953 rfl [.int (xs (i + 1))] 1 ⟨gL_law_X7_image, rfl, sgV_X7_image, ⟨Nat.le_of_ble_eq_true rfl, Nat.le_of_ble_eq_true rfl⟩, ⟨Nat.le_of_ble_eq_true rfl, Nat.le_of_ble_eq_true rfl⟩⟩ ly_298 (by decide) la_298 rfl (k_X7_image e2) rfl rfl (Nat.le_of_ble_eq_true rfl) ?_
  exact pw_icmp_eq 1132 959 dL_law_956 (by decide) rfl (fun _ => kend _ hI2) (fun h => absurd rfl h)
theorem la_restore {l : Launch} {G : Gx} {b L : Nat} {xs : Nat → Int32} {i : Nat} {mm : Mm} (hi : i + 6 ≤ L) (hL : L ≤ 384) (hI : Iv mm) (kend : ∀ m', Iv m' → PW G (KL l G b L xs) 1132 (lvL G b i) [] m') : PW G (KL l G b L xs) 961 (lvL G b i) [] mm := by
  obtain ⟨r, m1, m2, e1, e2, hI2⟩ := hI.step (sp_restore (xs (i + 1)))
  refine pw_aload_n (i := 1) 2 rfl rfl 962 dL_law_961 rfl ?_
  refine pl_arg (i := i) 1 967 dL_law_962 dL_law_963 dL_law_964 rfl dL_law_965 dL_law_966 rfl (by omega) hL ?_
  refine pw_callVi 970 dL_law_967 rfl [.int (xs (i + 1))] 1 ⟨gL_law_X6_restore, rfl, sgV_X6_restore, ⟨Nat.le_of_ble_eq_true rfl, Nat.le_of_ble_eq_true rfl⟩, ⟨Nat.le_of_ble_eq_true rfl, Nat.le_of_ble_eq_true rfl⟩⟩ ly_0 (by decide) la_0 rfl (k_X6_restore e1) rfl rfl (Nat.le_of_ble_eq_true rfl) ?_
  refine pw_aload_n (i := 2) 1 rfl rfl 971 dL_law_970 rfl ?_
  refine pl_arg (i := i) 1 976 dL_law_971 dL_law_972 dL_law_973 rfl dL_law_974 dL_law_975 rfl (by omega) hL ?_
  refine pw_callVi 979 dL_law_976 rfl [.int (xs (i + 1))] 1 ⟨gL_law_X7_restore, rfl, sgV_X7_restore, ⟨Nat.le_of_ble_eq_true rfl, Nat.le_of_ble_eq_true rfl⟩, ⟨Nat.le_of_ble_eq_true rfl, Nat.le_of_ble_eq_true rfl⟩⟩ ly_298 (by decide) la_298 rfl (k_X7_restore e2) rfl rfl (Nat.le_of_ble_eq_true rfl) ?_
  exact pw_icmp_eq 1132 982 dL_law_979 (by decide) rfl (fun _ => kend _ hI2) (fun h => absurd rfl h)
theorem la_kind {l : Launch} {G : Gx} {b L : Nat} {xs : Nat → Int32} {i : Nat} {mm : Mm} (hi : i + 6 ≤ L) (hL : L ≤ 384) (hI : Iv mm) (kend : ∀ m', Iv m' → PW G (KL l G b L xs) 1132 (lvL G b i) [] m') : PW G (KL l G b L xs) 984 (lvL G b i) [] mm := by
  obtain ⟨r, e1, e2⟩ := hI.stepL (sp_kind (xs (i + 1)))
  have hI2 := hI
  refine pw_aload_n (i := 1) 2 rfl rfl 985 dL_law_984 rfl ?_
  refine pl_arg (i := i) 1 990 dL_law_985 dL_law_986 dL_law_987 rfl dL_law_988 dL_law_989 rfl (by omega) hL ?_
  refine pw_callVi 993 dL_law_990 rfl [.int (xs (i + 1))] 1 ⟨gL_law_X6_kind, rfl, sgV_X6_kind, ⟨Nat.le_of_ble_eq_true rfl, Nat.le_of_ble_eq_true rfl⟩, ⟨Nat.le_of_ble_eq_true rfl, Nat.le_of_ble_eq_true rfl⟩⟩ ly_0 (by decide) la_0 rfl (k_X6_kind e1) rfl rfl (Nat.le_of_ble_eq_true rfl) ?_
  refine pw_aload_n (i := 2) 1 rfl rfl 994 dL_law_993 rfl ?_
  refine pl_arg (i := i) 1 999 dL_law_994 dL_law_995 dL_law_996 rfl dL_law_997 dL_law_998 rfl (by omega) hL ?_
  refine pw_callVi 1002 dL_law_999 rfl [.int (xs (i + 1))] 1 ⟨gL_law_X7_kind, rfl, sgV_X7_kind, ⟨Nat.le_of_ble_eq_true rfl, Nat.le_of_ble_eq_true rfl⟩, ⟨Nat.le_of_ble_eq_true rfl, Nat.le_of_ble_eq_true rfl⟩⟩ ly_298 (by decide) la_298 rfl (k_X7_kind e2) rfl rfl (Nat.le_of_ble_eq_true rfl) ?_
  exact pw_icmp_eq 1132 1005 dL_law_1002 (by decide) rfl (fun _ => kend _ hI2) (fun h => absurd rfl h)
theorem la_as {l : Launch} {G : Gx} {b L : Nat} {xs : Nat → Int32} {i : Nat} {mm : Mm} (hi : i + 6 ≤ L) (hL : L ≤ 384) (hI : Iv mm) (kend : ∀ m', Iv m' → PW G (KL l G b L xs) 1132 (lvL G b i) [] m') : PW G (KL l G b L xs) 1007 (lvL G b i) [] mm := by
  obtain ⟨r, m1, m2, e1, e2, hI2⟩ := hI.step (sp_as (xs (i + 1)) (xs (i + 2)))
  refine pw_aload_n (i := 1) 2 rfl rfl 1008 dL_law_1007 rfl ?_
  refine pl_arg (i := i) 1 1013 dL_law_1008 dL_law_1009 dL_law_1010 rfl dL_law_1011 dL_law_1012 rfl (by omega) hL ?_
  refine pl_arg (i := i) 2 1018 dL_law_1013 dL_law_1014 dL_law_1015 rfl dL_law_1016 dL_law_1017 rfl (by omega) hL ?_
  refine pw_callVi 1021 dL_law_1018 rfl [.int (xs (i + 1)), .int (xs (i + 2))] 2 ⟨gL_law_X6_as, rfl, sgV_X6_as, ⟨Nat.le_of_ble_eq_true rfl, Nat.le_of_ble_eq_true rfl⟩, ⟨Nat.le_of_ble_eq_true rfl, Nat.le_of_ble_eq_true rfl⟩⟩ ly_0 (by decide) la_0 rfl (k_X6_as e1) rfl rfl (Nat.le_of_ble_eq_true rfl) ?_
  refine pw_aload_n (i := 2) 1 rfl rfl 1022 dL_law_1021 rfl ?_
  refine pl_arg (i := i) 1 1027 dL_law_1022 dL_law_1023 dL_law_1024 rfl dL_law_1025 dL_law_1026 rfl (by omega) hL ?_
  refine pl_arg (i := i) 2 1032 dL_law_1027 dL_law_1028 dL_law_1029 rfl dL_law_1030 dL_law_1031 rfl (by omega) hL ?_
  refine pw_callVi 1035 dL_law_1032 rfl [.int (xs (i + 1)), .int (xs (i + 2))] 2 ⟨gL_law_X7_as, rfl, sgV_X7_as, ⟨Nat.le_of_ble_eq_true rfl, Nat.le_of_ble_eq_true rfl⟩, ⟨Nat.le_of_ble_eq_true rfl, Nat.le_of_ble_eq_true rfl⟩⟩ ly_298 (by decide) la_298 rfl (k_X7_as e2) rfl rfl (Nat.le_of_ble_eq_true rfl) ?_
  exact pw_icmp_eq 1132 1038 dL_law_1035 (by decide) rfl (fun _ => kend _ hI2) (fun h => absurd rfl h)
theorem la_ask {l : Launch} {G : Gx} {b L : Nat} {xs : Nat → Int32} {i : Nat} {mm : Mm} (hi : i + 6 ≤ L) (hL : L ≤ 384) (hI : Iv mm) (kend : ∀ m', Iv m' → PW G (KL l G b L xs) 1132 (lvL G b i) [] m') : PW G (KL l G b L xs) 1040 (lvL G b i) [] mm := by
  obtain ⟨r, m1, m2, e1, e2, hI2⟩ := hI.step (sp_ask (xs (i + 1)) (xs (i + 2)))
  refine pw_aload_n (i := 1) 2 rfl rfl 1041 dL_law_1040 rfl ?_
  refine pl_arg (i := i) 1 1046 dL_law_1041 dL_law_1042 dL_law_1043 rfl dL_law_1044 dL_law_1045 rfl (by omega) hL ?_
  refine pl_arg (i := i) 2 1051 dL_law_1046 dL_law_1047 dL_law_1048 rfl dL_law_1049 dL_law_1050 rfl (by omega) hL ?_
  refine pw_callVi 1054 dL_law_1051 rfl [.int (xs (i + 1)), .int (xs (i + 2))] 2 ⟨gL_law_X6_ask, rfl, sgV_X6_ask, ⟨Nat.le_of_ble_eq_true rfl, Nat.le_of_ble_eq_true rfl⟩, ⟨Nat.le_of_ble_eq_true rfl, Nat.le_of_ble_eq_true rfl⟩⟩ ly_0 (by decide) la_0 rfl (k_X6_ask e1) rfl rfl (Nat.le_of_ble_eq_true rfl) ?_
  refine pw_aload_n (i := 2) 1 rfl rfl 1055 dL_law_1054 rfl ?_
  refine pl_arg (i := i) 1 1060 dL_law_1055 dL_law_1056 dL_law_1057 rfl dL_law_1058 dL_law_1059 rfl (by omega) hL ?_
  refine pl_arg (i := i) 2 1065 dL_law_1060 dL_law_1061 dL_law_1062 rfl dL_law_1063 dL_law_1064 rfl (by omega) hL ?_
  refine pw_callVi 1068 dL_law_1065 rfl [.int (xs (i + 1)), .int (xs (i + 2))] 2 ⟨gL_law_X7_ask, rfl, sgV_X7_ask, ⟨Nat.le_of_ble_eq_true rfl, Nat.le_of_ble_eq_true rfl⟩, ⟨Nat.le_of_ble_eq_true rfl, Nat.le_of_ble_eq_true rfl⟩⟩ ly_298 (by decide) la_298 rfl (k_X7_ask e2) rfl rfl (Nat.le_of_ble_eq_true rfl) ?_
  exact pw_icmp_eq 1132 1071 dL_law_1068 (by decide) rfl (fun _ => kend _ hI2) (fun h => absurd rfl h)
theorem la_trace {l : Launch} {G : Gx} {b L : Nat} {xs : Nat → Int32} {i : Nat} {mm : Mm} (hi : i + 6 ≤ L) (hL : L ≤ 384) (hI : Iv mm) (kend : ∀ m', Iv m' → PW G (KL l G b L xs) 1132 (lvL G b i) [] m') : PW G (KL l G b L xs) 1073 (lvL G b i) [] mm := by
  obtain ⟨r, e1, e2⟩ := hI.stepL (sp_trace (xs (i + 1)))
  have hI2 := hI
  refine pw_aload_n (i := 1) 2 rfl rfl 1074 dL_law_1073 rfl ?_
  refine pl_arg (i := i) 1 1079 dL_law_1074 dL_law_1075 dL_law_1076 rfl dL_law_1077 dL_law_1078 rfl (by omega) hL ?_
  refine pw_callVi 1082 dL_law_1079 rfl [.int (xs (i + 1))] 1 ⟨gL_law_X6_trace, rfl, sgV_X6_trace, ⟨Nat.le_of_ble_eq_true rfl, Nat.le_of_ble_eq_true rfl⟩, ⟨Nat.le_of_ble_eq_true rfl, Nat.le_of_ble_eq_true rfl⟩⟩ ly_0 (by decide) la_0 rfl (k_X6_trace e1) rfl rfl (Nat.le_of_ble_eq_true rfl) ?_
  refine pw_aload_n (i := 2) 1 rfl rfl 1083 dL_law_1082 rfl ?_
  refine pl_arg (i := i) 1 1088 dL_law_1083 dL_law_1084 dL_law_1085 rfl dL_law_1086 dL_law_1087 rfl (by omega) hL ?_
  refine pw_callVi 1091 dL_law_1088 rfl [.int (xs (i + 1))] 1 ⟨gL_law_X7_trace, rfl, sgV_X7_trace, ⟨Nat.le_of_ble_eq_true rfl, Nat.le_of_ble_eq_true rfl⟩, ⟨Nat.le_of_ble_eq_true rfl, Nat.le_of_ble_eq_true rfl⟩⟩ ly_298 (by decide) la_298 rfl (k_X7_trace e2) rfl rfl (Nat.le_of_ble_eq_true rfl) ?_
  exact pw_icmp_eq 1132 1094 dL_law_1091 (by decide) rfl (fun _ => kend _ hI2) (fun h => absurd rfl h)
theorem la_count {l : Launch} {G : Gx} {b L : Nat} {xs : Nat → Int32} {i : Nat} {mm : Mm} (hi : i + 6 ≤ L) (hL : L ≤ 384) (hI : Iv mm) (kend : ∀ m', Iv m' → PW G (KL l G b L xs) 1132 (lvL G b i) [] m') : PW G (KL l G b L xs) 1096 (lvL G b i) [] mm := by
  obtain ⟨r, e1, e2⟩ := hI.stepL (sp_count (xs (i + 1)))
  have hI2 := hI
  refine pw_aload_n (i := 1) 2 rfl rfl 1097 dL_law_1096 rfl ?_
  refine pl_arg (i := i) 1 1102 dL_law_1097 dL_law_1098 dL_law_1099 rfl dL_law_1100 dL_law_1101 rfl (by omega) hL ?_
  refine pw_callVi 1105 dL_law_1102 rfl [.int (xs (i + 1))] 1 ⟨gL_law_X6_count, rfl, sgV_X6_count, ⟨Nat.le_of_ble_eq_true rfl, Nat.le_of_ble_eq_true rfl⟩, ⟨Nat.le_of_ble_eq_true rfl, Nat.le_of_ble_eq_true rfl⟩⟩ ly_0 (by decide) la_0 rfl (k_X6_count e1) rfl rfl (Nat.le_of_ble_eq_true rfl) ?_
  refine pw_aload_n (i := 2) 1 rfl rfl 1106 dL_law_1105 rfl ?_
  refine pl_arg (i := i) 1 1111 dL_law_1106 dL_law_1107 dL_law_1108 rfl dL_law_1109 dL_law_1110 rfl (by omega) hL ?_
  refine pw_callVi 1114 dL_law_1111 rfl [.int (xs (i + 1))] 1 ⟨gL_law_X7_count, rfl, sgV_X7_count, ⟨Nat.le_of_ble_eq_true rfl, Nat.le_of_ble_eq_true rfl⟩, ⟨Nat.le_of_ble_eq_true rfl, Nat.le_of_ble_eq_true rfl⟩⟩ ly_298 (by decide) la_298 rfl (k_X7_count e2) rfl rfl (Nat.le_of_ble_eq_true rfl) ?_
  exact pw_icmp_eq 1132 1117 dL_law_1114 (by decide) rfl (fun _ => kend _ hI2) (fun h => absurd rfl h)
theorem la_status {l : Launch} {G : Gx} {b L : Nat} {xs : Nat → Int32} {i : Nat} {mm : Mm} (hi : i + 6 ≤ L) (hL : L ≤ 384) (hI : Iv mm) (kend : ∀ m', Iv m' → PW G (KL l G b L xs) 1132 (lvL G b i) [] m') : PW G (KL l G b L xs) 1119 (lvL G b i) [] mm := by
  have e1 := hI.stepP sp_status
  have e2 : f_X7_status mm = f_X7_status mm := rfl
  have hI2 := hI
  refine pw_aload_n (i := 1) 2 rfl rfl 1120 dL_law_1119 rfl ?_
  refine pw_callVi 1123 dL_law_1120 rfl [] 0 ⟨gL_law_X6_status, rfl, sgV_X6_status, ⟨Nat.le_of_ble_eq_true rfl, Nat.le_of_ble_eq_true rfl⟩, ⟨Nat.le_of_ble_eq_true rfl, Nat.le_of_ble_eq_true rfl⟩⟩ ly_0 (by decide) la_0 rfl (k_X6_status e1) rfl rfl (Nat.le_of_ble_eq_true rfl) ?_
  refine pw_aload_n (i := 2) 1 rfl rfl 1124 dL_law_1123 rfl ?_
  refine pw_callVi 1127 dL_law_1124 rfl [] 0 ⟨gL_law_X7_status, rfl, sgV_X7_status, ⟨Nat.le_of_ble_eq_true rfl, Nat.le_of_ble_eq_true rfl⟩, ⟨Nat.le_of_ble_eq_true rfl, Nat.le_of_ble_eq_true rfl⟩⟩ ly_298 (by decide) la_298 rfl (k_X7_status e2) rfl rfl (Nat.le_of_ble_eq_true rfl) ?_
  exact pw_icmp_eq 1132 1130 dL_law_1127 (by decide) rfl (fun _ => kend _ hI2) (fun h => absurd rfl h)

set_option maxRecDepth 20000 in
theorem ok_0 : xmOK 0 := ⟨wk_0, by decide +kernel, by decide +kernel, fun _ => rfl, Or.inl ⟨rfl, rfl⟩⟩
set_option maxRecDepth 20000 in
theorem ok_1 : xmOK 1 := ⟨wk_1, by decide +kernel, by decide +kernel, (fun h => by cases h), Or.inr (Or.inl ⟨rfl, rfl⟩)⟩
set_option maxRecDepth 20000 in
theorem ok_2 : xmOK 2 := ⟨wk_2, by decide +kernel, by decide +kernel, (fun h => by cases h), Or.inr (Or.inl ⟨rfl, rfl⟩)⟩
set_option maxRecDepth 20000 in
theorem ok_3 : xmOK 3 := ⟨wk_3, by decide +kernel, by decide +kernel, (fun h => by cases h), Or.inr (Or.inr (Or.inl ⟨rfl, rfl⟩))⟩
set_option maxRecDepth 20000 in
theorem ok_4 : xmOK 4 := ⟨wk_4, by decide +kernel, by decide +kernel, (fun h => by cases h), Or.inr (Or.inl ⟨rfl, rfl⟩)⟩
set_option maxRecDepth 20000 in
theorem ok_5 : xmOK 5 := ⟨wk_5, by decide +kernel, by decide +kernel, (fun h => by cases h), Or.inr (Or.inl ⟨rfl, rfl⟩)⟩
set_option maxRecDepth 20000 in
theorem ok_6 : xmOK 6 := ⟨wk_6, by decide +kernel, by decide +kernel, (fun h => by cases h), Or.inr (Or.inl ⟨rfl, rfl⟩)⟩
set_option maxRecDepth 20000 in
theorem ok_7 : xmOK 7 := ⟨wk_7, by decide +kernel, by decide +kernel, (fun h => by cases h), Or.inl ⟨rfl, rfl⟩⟩
set_option maxRecDepth 20000 in
theorem ok_8 : xmOK 8 := ⟨wk_8, by decide +kernel, by decide +kernel, (fun h => by cases h), Or.inr (Or.inl ⟨rfl, rfl⟩)⟩
set_option maxRecDepth 20000 in
theorem ok_9 : xmOK 9 := ⟨wk_9, by decide +kernel, by decide +kernel, (fun h => by cases h), Or.inr (Or.inl ⟨rfl, rfl⟩)⟩
set_option maxRecDepth 20000 in
theorem ok_10 : xmOK 10 := ⟨wk_10, by decide +kernel, by decide +kernel, (fun h => by cases h), Or.inl ⟨rfl, rfl⟩⟩
set_option maxRecDepth 20000 in
theorem ok_11 : xmOK 11 := ⟨wk_11, by decide +kernel, by decide +kernel, (fun h => by cases h), Or.inl ⟨rfl, rfl⟩⟩
set_option maxRecDepth 20000 in
theorem ok_12 : xmOK 12 := ⟨wk_12, by decide +kernel, by decide +kernel, (fun h => by cases h), Or.inr (Or.inl ⟨rfl, rfl⟩)⟩
set_option maxRecDepth 20000 in
theorem ok_13 : xmOK 13 := ⟨wk_13, by decide +kernel, by decide +kernel, (fun h => by cases h), Or.inr (Or.inl ⟨rfl, rfl⟩)⟩
set_option maxRecDepth 20000 in
theorem ok_14 : xmOK 14 := ⟨wk_14, by decide +kernel, by decide +kernel, (fun h => by cases h), Or.inr (Or.inl ⟨rfl, rfl⟩)⟩
set_option maxRecDepth 20000 in
theorem ok_15 : xmOK 15 := ⟨wk_15, by decide +kernel, by decide +kernel, (fun h => by cases h), Or.inr (Or.inl ⟨rfl, rfl⟩)⟩
set_option maxRecDepth 20000 in
theorem ok_16 : xmOK 16 := ⟨wk_16, by decide +kernel, by decide +kernel, (fun h => by cases h), Or.inr (Or.inl ⟨rfl, rfl⟩)⟩
set_option maxRecDepth 20000 in
theorem ok_17 : xmOK 17 := ⟨wk_17, by decide +kernel, by decide +kernel, fun _ => rfl, Or.inl ⟨rfl, rfl⟩⟩
set_option maxRecDepth 20000 in
theorem ok_18 : xmOK 18 := ⟨wk_18, by decide +kernel, by decide +kernel, (fun h => by cases h), Or.inr (Or.inl ⟨rfl, rfl⟩)⟩
set_option maxRecDepth 20000 in
theorem ok_19 : xmOK 19 := ⟨wk_19, by decide +kernel, by decide +kernel, (fun h => by cases h), Or.inr (Or.inl ⟨rfl, rfl⟩)⟩
set_option maxRecDepth 20000 in
theorem ok_20 : xmOK 20 := ⟨wk_20, by decide +kernel, by decide +kernel, (fun h => by cases h), Or.inr (Or.inl ⟨rfl, rfl⟩)⟩
set_option maxRecDepth 20000 in
theorem ok_21 : xmOK 21 := ⟨wk_21, by decide +kernel, by decide +kernel, (fun h => by cases h), Or.inr (Or.inl ⟨rfl, rfl⟩)⟩
set_option maxRecDepth 20000 in
theorem ok_22 : xmOK 22 := ⟨wk_22, by decide +kernel, by decide +kernel, (fun h => by cases h), Or.inr (Or.inr (Or.inl ⟨rfl, rfl⟩))⟩
set_option maxRecDepth 20000 in
theorem ok_23 : xmOK 23 := ⟨wk_23, by decide +kernel, by decide +kernel, (fun h => by cases h), Or.inr (Or.inl ⟨rfl, rfl⟩)⟩
set_option maxRecDepth 20000 in
theorem ok_24 : xmOK 24 := ⟨wk_24, by decide +kernel, by decide +kernel, (fun h => by cases h), Or.inl ⟨rfl, rfl⟩⟩
set_option maxRecDepth 20000 in
theorem ok_25 : xmOK 25 := ⟨wk_25, by decide +kernel, by decide +kernel, (fun h => by cases h), Or.inr (Or.inr (Or.inl ⟨rfl, rfl⟩))⟩
set_option maxRecDepth 20000 in
theorem ok_26 : xmOK 26 := ⟨wk_26, by decide +kernel, by decide +kernel, (fun h => by cases h), Or.inr (Or.inl ⟨rfl, rfl⟩)⟩
set_option maxRecDepth 20000 in
theorem ok_27 : xmOK 27 := ⟨wk_27, by decide +kernel, by decide +kernel, (fun h => by cases h), Or.inr (Or.inl ⟨rfl, rfl⟩)⟩
set_option maxRecDepth 20000 in
theorem ok_28 : xmOK 28 := ⟨wk_28, by decide +kernel, by decide +kernel, (fun h => by cases h), Or.inr (Or.inr (Or.inl ⟨rfl, rfl⟩))⟩
set_option maxRecDepth 20000 in
theorem ok_29 : xmOK 29 := ⟨wk_29, by decide +kernel, by decide +kernel, (fun h => by cases h), Or.inl ⟨rfl, rfl⟩⟩
set_option maxRecDepth 20000 in
theorem ok_30 : xmOK 30 := ⟨wk_30, by decide +kernel, by decide +kernel, (fun h => by cases h), Or.inl ⟨rfl, rfl⟩⟩
set_option maxRecDepth 20000 in
theorem ok_31 : xmOK 31 := ⟨wk_31, by decide +kernel, by decide +kernel, (fun h => by cases h), Or.inr (Or.inr (Or.inl ⟨rfl, rfl⟩))⟩
set_option maxRecDepth 20000 in
theorem ok_32 : xmOK 32 := ⟨wk_32, by decide +kernel, by decide +kernel, (fun h => by cases h), Or.inr (Or.inl ⟨rfl, rfl⟩)⟩
set_option maxRecDepth 20000 in
theorem ok_33 : xmOK 33 := ⟨wk_33, by decide +kernel, by decide +kernel, (fun h => by cases h), Or.inr (Or.inr (Or.inl ⟨rfl, rfl⟩))⟩
set_option maxRecDepth 20000 in
theorem ok_34 : xmOK 34 := ⟨wk_34, by decide +kernel, by decide +kernel, fun _ => rfl, Or.inl ⟨rfl, rfl⟩⟩
set_option maxRecDepth 20000 in
theorem ok_35 : xmOK 35 := ⟨wk_35, by decide +kernel, by decide +kernel, (fun h => by cases h), Or.inr (Or.inr (Or.inl ⟨rfl, rfl⟩))⟩
set_option maxRecDepth 20000 in
theorem ok_36 : xmOK 36 := ⟨wk_36, by decide +kernel, by decide +kernel, (fun h => by cases h), Or.inr (Or.inr (Or.inl ⟨rfl, rfl⟩))⟩
set_option maxRecDepth 20000 in
theorem ok_37 : xmOK 37 := ⟨wk_37, by decide +kernel, by decide +kernel, (fun h => by cases h), Or.inr (Or.inr (Or.inl ⟨rfl, rfl⟩))⟩
set_option maxRecDepth 20000 in
theorem ok_38 : xmOK 38 := ⟨wk_38, by decide +kernel, by decide +kernel, (fun h => by cases h), Or.inr (Or.inl ⟨rfl, rfl⟩)⟩
set_option maxRecDepth 20000 in
theorem ok_39 : xmOK 39 := ⟨wk_39, by decide +kernel, by decide +kernel, (fun h => by cases h), Or.inr (Or.inr (Or.inl ⟨rfl, rfl⟩))⟩
set_option maxRecDepth 20000 in
theorem ok_40 : xmOK 40 := ⟨wk_40, by decide +kernel, by decide +kernel, (fun h => by cases h), Or.inr (Or.inl ⟨rfl, rfl⟩)⟩
set_option maxRecDepth 20000 in
theorem ok_41 : xmOK 41 := ⟨wk_41, by decide +kernel, by decide +kernel, (fun h => by cases h), Or.inr (Or.inl ⟨rfl, rfl⟩)⟩
set_option maxRecDepth 20000 in
theorem ok_42 : xmOK 42 := ⟨wk_42, by decide +kernel, by decide +kernel, (fun h => by cases h), Or.inr (Or.inr (Or.inl ⟨rfl, rfl⟩))⟩
set_option maxRecDepth 20000 in
theorem ok_43 : xmOK 43 := ⟨wk_43, by decide +kernel, by decide +kernel, (fun h => by cases h), Or.inr (Or.inr (Or.inl ⟨rfl, rfl⟩))⟩
set_option maxRecDepth 20000 in
theorem ok_44 : xmOK 44 := ⟨wk_44, by decide +kernel, by decide +kernel, (fun h => by cases h), Or.inl ⟨rfl, rfl⟩⟩
set_option maxRecDepth 20000 in
theorem ok_45 : xmOK 45 := ⟨wk_45, by decide +kernel, by decide +kernel, (fun h => by cases h), Or.inl ⟨rfl, rfl⟩⟩
set_option maxRecDepth 20000 in
theorem ok_46 : xmOK 46 := ⟨wk_46, by decide +kernel, by decide +kernel, (fun h => by cases h), Or.inl ⟨rfl, rfl⟩⟩
set_option maxRecDepth 20000 in
theorem ok_47 : xmOK 47 := ⟨wk_47, by decide +kernel, by decide +kernel, (fun h => by cases h), Or.inr (Or.inr (Or.inr (Or.inl ⟨rfl, rfl⟩)))⟩
set_option maxRecDepth 20000 in
theorem ok_48 : xmOK 48 := ⟨wk_48, by decide +kernel, by decide +kernel, (fun h => by cases h), Or.inr (Or.inr (Or.inr (Or.inl ⟨rfl, rfl⟩)))⟩
set_option maxRecDepth 20000 in
theorem ok_49 : xmOK 49 := ⟨wk_49, by decide +kernel, by decide +kernel, (fun h => by cases h), Or.inl ⟨rfl, rfl⟩⟩
set_option maxRecDepth 20000 in
theorem ok_50 : xmOK 50 := ⟨wk_50, by decide +kernel, by decide +kernel, (fun h => by cases h), Or.inl ⟨rfl, rfl⟩⟩
set_option maxRecDepth 20000 in
theorem ok_51 : xmOK 51 := ⟨wk_51, by decide +kernel, by decide +kernel, (fun h => by cases h), Or.inr (Or.inl ⟨rfl, rfl⟩)⟩
set_option maxRecDepth 20000 in
theorem ok_52 : xmOK 52 := ⟨wk_52, by decide +kernel, by decide +kernel, fun _ => rfl, Or.inl ⟨rfl, rfl⟩⟩
set_option maxRecDepth 20000 in
theorem ok_53 : xmOK 53 := ⟨wk_53, by decide +kernel, by decide +kernel, (fun h => by cases h), Or.inl ⟨rfl, rfl⟩⟩
set_option maxRecDepth 20000 in
theorem ok_54 : xmOK 54 := ⟨wk_54, by decide +kernel, by decide +kernel, (fun h => by cases h), Or.inr (Or.inl ⟨rfl, rfl⟩)⟩
set_option maxRecDepth 20000 in
theorem ok_55 : xmOK 55 := ⟨wk_55, by decide +kernel, by decide +kernel, fun _ => rfl, Or.inl ⟨rfl, rfl⟩⟩
set_option maxRecDepth 20000 in
theorem ok_56 : xmOK 56 := ⟨wk_56, by decide +kernel, by decide +kernel, (fun h => by cases h), Or.inr (Or.inr (Or.inl ⟨rfl, rfl⟩))⟩
set_option maxRecDepth 20000 in
theorem ok_57 : xmOK 57 := ⟨wk_57, by decide +kernel, by decide +kernel, (fun h => by cases h), Or.inr (Or.inl ⟨rfl, rfl⟩)⟩
set_option maxRecDepth 20000 in
theorem ok_58 : xmOK 58 := ⟨wk_58, by decide +kernel, by decide +kernel, (fun h => by cases h), Or.inr (Or.inl ⟨rfl, rfl⟩)⟩
set_option maxRecDepth 20000 in
theorem ok_59 : xmOK 59 := ⟨wk_59, by decide +kernel, by decide +kernel, (fun h => by cases h), Or.inr (Or.inr (Or.inl ⟨rfl, rfl⟩))⟩
set_option maxRecDepth 20000 in
theorem ok_60 : xmOK 60 := ⟨wk_60, by decide +kernel, by decide +kernel, (fun h => by cases h), Or.inr (Or.inr (Or.inl ⟨rfl, rfl⟩))⟩
set_option maxRecDepth 20000 in
theorem ok_61 : xmOK 61 := ⟨wk_61, by decide +kernel, by decide +kernel, (fun h => by cases h), Or.inl ⟨rfl, rfl⟩⟩
set_option maxRecDepth 20000 in
theorem ok_62 : xmOK 62 := ⟨wk_62, by decide +kernel, by decide +kernel, (fun h => by cases h), Or.inr (Or.inr (Or.inl ⟨rfl, rfl⟩))⟩
set_option maxRecDepth 20000 in
theorem ok_63 : xmOK 63 := ⟨wk_63, by decide +kernel, by decide +kernel, (fun h => by cases h), Or.inr (Or.inr (Or.inl ⟨rfl, rfl⟩))⟩
set_option maxRecDepth 20000 in
theorem ok_64 : xmOK 64 := ⟨wk_64, by decide +kernel, by decide +kernel, (fun h => by cases h), Or.inr (Or.inr (Or.inl ⟨rfl, rfl⟩))⟩
set_option maxRecDepth 20000 in
theorem ok_65 : xmOK 65 := ⟨wk_65, by decide +kernel, by decide +kernel, (fun h => by cases h), Or.inr (Or.inl ⟨rfl, rfl⟩)⟩
set_option maxRecDepth 20000 in
theorem ok_66 : xmOK 66 := ⟨wk_66, by decide +kernel, by decide +kernel, (fun h => by cases h), Or.inr (Or.inr (Or.inl ⟨rfl, rfl⟩))⟩
set_option maxRecDepth 20000 in
theorem ok_67 : xmOK 67 := ⟨wk_67, by decide +kernel, by decide +kernel, (fun h => by cases h), Or.inr (Or.inr (Or.inl ⟨rfl, rfl⟩))⟩
set_option maxRecDepth 20000 in
theorem ok_68 : xmOK 68 := ⟨wk_68, by decide +kernel, by decide +kernel, (fun h => by cases h), Or.inr (Or.inr (Or.inl ⟨rfl, rfl⟩))⟩
set_option maxRecDepth 20000 in
theorem ok_69 : xmOK 69 := ⟨wk_69, by decide +kernel, by decide +kernel, (fun h => by cases h), Or.inr (Or.inr (Or.inl ⟨rfl, rfl⟩))⟩
set_option maxRecDepth 20000 in
theorem ok_70 : xmOK 70 := ⟨wk_70, by decide +kernel, by decide +kernel, (fun h => by cases h), Or.inr (Or.inr (Or.inl ⟨rfl, rfl⟩))⟩
set_option maxRecDepth 20000 in
theorem ok_71 : xmOK 71 := ⟨wk_71, by decide +kernel, by decide +kernel, (fun h => by cases h), Or.inr (Or.inr (Or.inl ⟨rfl, rfl⟩))⟩
set_option maxRecDepth 20000 in
theorem ok_72 : xmOK 72 := ⟨wk_72, by decide +kernel, by decide +kernel, fun _ => rfl, Or.inl ⟨rfl, rfl⟩⟩
set_option maxRecDepth 20000 in
theorem ok_73 : xmOK 73 := ⟨wk_73, by decide +kernel, by decide +kernel, (fun h => by cases h), Or.inr (Or.inr (Or.inl ⟨rfl, rfl⟩))⟩
set_option maxRecDepth 20000 in
theorem ok_74 : xmOK 74 := ⟨wk_74, by decide +kernel, by decide +kernel, (fun h => by cases h), Or.inr (Or.inr (Or.inl ⟨rfl, rfl⟩))⟩
set_option maxRecDepth 20000 in
theorem ok_75 : xmOK 75 := ⟨wk_75, by decide +kernel, by decide +kernel, (fun h => by cases h), Or.inr (Or.inl ⟨rfl, rfl⟩)⟩
set_option maxRecDepth 20000 in
theorem ok_76 : xmOK 76 := ⟨wk_76, by decide +kernel, by decide +kernel, (fun h => by cases h), Or.inr (Or.inl ⟨rfl, rfl⟩)⟩
set_option maxRecDepth 20000 in
theorem ok_77 : xmOK 77 := ⟨wk_77, by decide +kernel, by decide +kernel, (fun h => by cases h), Or.inr (Or.inl ⟨rfl, rfl⟩)⟩
set_option maxRecDepth 20000 in
theorem ok_78 : xmOK 78 := ⟨wk_78, by decide +kernel, by decide +kernel, (fun h => by cases h), Or.inr (Or.inl ⟨rfl, rfl⟩)⟩
set_option maxRecDepth 20000 in
theorem ok_79 : xmOK 79 := ⟨wk_79, by decide +kernel, by decide +kernel, (fun h => by cases h), Or.inr (Or.inl ⟨rfl, rfl⟩)⟩
set_option maxRecDepth 20000 in
theorem ok_80 : xmOK 80 := ⟨wk_80, by decide +kernel, by decide +kernel, fun _ => rfl, Or.inl ⟨rfl, rfl⟩⟩
set_option maxRecDepth 20000 in
theorem ok_81 : xmOK 81 := ⟨wk_81, by decide +kernel, by decide +kernel, (fun h => by cases h), Or.inl ⟨rfl, rfl⟩⟩
set_option maxRecDepth 20000 in
theorem ok_82 : xmOK 82 := ⟨wk_82, by decide +kernel, by decide +kernel, (fun h => by cases h), Or.inr (Or.inr (Or.inl ⟨rfl, rfl⟩))⟩
set_option maxRecDepth 20000 in
theorem ok_83 : xmOK 83 := ⟨wk_83, by decide +kernel, by decide +kernel, (fun h => by cases h), Or.inr (Or.inr (Or.inl ⟨rfl, rfl⟩))⟩
set_option maxRecDepth 20000 in
theorem ok_84 : xmOK 84 := ⟨wk_84, by decide +kernel, by decide +kernel, (fun h => by cases h), Or.inr (Or.inl ⟨rfl, rfl⟩)⟩
set_option maxRecDepth 20000 in
theorem ok_85 : xmOK 85 := ⟨wk_85, by decide +kernel, by decide +kernel, (fun h => by cases h), Or.inr (Or.inl ⟨rfl, rfl⟩)⟩
set_option maxRecDepth 20000 in
theorem ok_86 : xmOK 86 := ⟨wk_86, by decide +kernel, by decide +kernel, (fun h => by cases h), Or.inr (Or.inl ⟨rfl, rfl⟩)⟩
set_option maxRecDepth 20000 in
theorem ok_87 : xmOK 87 := ⟨wk_87, by decide +kernel, by decide +kernel, (fun h => by cases h), Or.inl ⟨rfl, rfl⟩⟩
set_option maxRecDepth 20000 in
theorem ok_88 : xmOK 88 := ⟨wk_88, by decide +kernel, by decide +kernel, (fun h => by cases h), Or.inl ⟨rfl, rfl⟩⟩
set_option maxRecDepth 20000 in
theorem ok_89 : xmOK 89 := ⟨wk_89, by decide +kernel, by decide +kernel, (fun h => by cases h), Or.inl ⟨rfl, rfl⟩⟩
set_option maxRecDepth 20000 in
theorem ok_90 : xmOK 90 := ⟨wk_90, by decide +kernel, by decide +kernel, (fun h => by cases h), Or.inl ⟨rfl, rfl⟩⟩
set_option maxRecDepth 20000 in
theorem ok_91 : xmOK 91 := ⟨wk_91, by decide +kernel, by decide +kernel, (fun h => by cases h), Or.inl ⟨rfl, rfl⟩⟩
set_option maxRecDepth 20000 in
theorem ok_92 : xmOK 92 := ⟨wk_92, by decide +kernel, by decide +kernel, (fun h => by cases h), Or.inl ⟨rfl, rfl⟩⟩
set_option maxRecDepth 20000 in
theorem ok_93 : xmOK 93 := ⟨wk_93, by decide +kernel, by decide +kernel, (fun h => by cases h), Or.inr (Or.inl ⟨rfl, rfl⟩)⟩
set_option maxRecDepth 20000 in
theorem ok_94 : xmOK 94 := ⟨wk_94, by decide +kernel, by decide +kernel, (fun h => by cases h), Or.inr (Or.inl ⟨rfl, rfl⟩)⟩
set_option maxRecDepth 20000 in
theorem ok_95 : xmOK 95 := ⟨wk_95, by decide +kernel, by decide +kernel, (fun h => by cases h), Or.inr (Or.inl ⟨rfl, rfl⟩)⟩
set_option maxRecDepth 20000 in
theorem ok_96 : xmOK 96 := ⟨wk_96, by decide +kernel, by decide +kernel, (fun h => by cases h), Or.inr (Or.inl ⟨rfl, rfl⟩)⟩
set_option maxRecDepth 20000 in
theorem ok_97 : xmOK 97 := ⟨wk_97, by decide +kernel, by decide +kernel, (fun h => by cases h), Or.inr (Or.inl ⟨rfl, rfl⟩)⟩
set_option maxRecDepth 20000 in
theorem ok_98 : xmOK 98 := ⟨wk_98, by decide +kernel, by decide +kernel, (fun h => by cases h), Or.inr (Or.inl ⟨rfl, rfl⟩)⟩
set_option maxRecDepth 20000 in
theorem ok_99 : xmOK 99 := ⟨wk_99, by decide +kernel, by decide +kernel, (fun h => by cases h), Or.inr (Or.inr (Or.inl ⟨rfl, rfl⟩))⟩
set_option maxRecDepth 20000 in
theorem ok_100 : xmOK 100 := ⟨wk_100, by decide +kernel, by decide +kernel, (fun h => by cases h), Or.inr (Or.inr (Or.inl ⟨rfl, rfl⟩))⟩
set_option maxRecDepth 20000 in
theorem ok_101 : xmOK 101 := ⟨wk_101, by decide +kernel, by decide +kernel, (fun h => by cases h), Or.inl ⟨rfl, rfl⟩⟩
set_option maxRecDepth 20000 in
theorem ok_102 : xmOK 102 := ⟨wk_102, by decide +kernel, by decide +kernel, (fun h => by cases h), Or.inr (Or.inl ⟨rfl, rfl⟩)⟩
set_option maxRecDepth 20000 in
theorem ok_103 : xmOK 103 := ⟨wk_103, by decide +kernel, by decide +kernel, (fun h => by cases h), Or.inr (Or.inl ⟨rfl, rfl⟩)⟩
set_option maxRecDepth 20000 in
theorem ok_104 : xmOK 104 := ⟨wk_104, by decide +kernel, by decide +kernel, (fun h => by cases h), Or.inr (Or.inl ⟨rfl, rfl⟩)⟩
set_option maxRecDepth 20000 in
theorem ok_105 : xmOK 105 := ⟨wk_105, by decide +kernel, by decide +kernel, (fun h => by cases h), Or.inr (Or.inl ⟨rfl, rfl⟩)⟩
set_option maxRecDepth 20000 in
theorem ok_106 : xmOK 106 := ⟨wk_106, by decide +kernel, by decide +kernel, (fun h => by cases h), Or.inr (Or.inl ⟨rfl, rfl⟩)⟩
set_option maxRecDepth 20000 in
theorem ok_107 : xmOK 107 := ⟨wk_107, by decide +kernel, by decide +kernel, (fun h => by cases h), Or.inr (Or.inr (Or.inl ⟨rfl, rfl⟩))⟩
set_option maxRecDepth 20000 in
theorem ok_108 : xmOK 108 := ⟨wk_108, by decide +kernel, by decide +kernel, (fun h => by cases h), Or.inr (Or.inl ⟨rfl, rfl⟩)⟩
set_option maxRecDepth 20000 in
theorem ok_109 : xmOK 109 := ⟨wk_109, by decide +kernel, by decide +kernel, (fun h => by cases h), Or.inr (Or.inl ⟨rfl, rfl⟩)⟩
set_option maxRecDepth 20000 in
theorem ok_110 : xmOK 110 := ⟨wk_110, by decide +kernel, by decide +kernel, fun _ => rfl, Or.inl ⟨rfl, rfl⟩⟩
set_option maxRecDepth 20000 in
theorem ok_111 : xmOK 111 := ⟨wk_111, by decide +kernel, by decide +kernel, (fun h => by cases h), Or.inr (Or.inl ⟨rfl, rfl⟩)⟩
set_option maxRecDepth 20000 in
theorem ok_112 : xmOK 112 := ⟨wk_112, by decide +kernel, by decide +kernel, (fun h => by cases h), Or.inr (Or.inl ⟨rfl, rfl⟩)⟩
set_option maxRecDepth 20000 in
theorem ok_113 : xmOK 113 := ⟨wk_113, by decide +kernel, by decide +kernel, (fun h => by cases h), Or.inr (Or.inl ⟨rfl, rfl⟩)⟩
set_option maxRecDepth 20000 in
theorem ok_114 : xmOK 114 := ⟨wk_114, by decide +kernel, by decide +kernel, (fun h => by cases h), Or.inl ⟨rfl, rfl⟩⟩
set_option maxRecDepth 20000 in
theorem ok_115 : xmOK 115 := ⟨wk_115, by decide +kernel, by decide +kernel, (fun h => by cases h), Or.inl ⟨rfl, rfl⟩⟩
set_option maxRecDepth 20000 in
theorem ok_116 : xmOK 116 := ⟨wk_116, by decide +kernel, by decide +kernel, (fun h => by cases h), Or.inr (Or.inr (Or.inl ⟨rfl, rfl⟩))⟩
set_option maxRecDepth 20000 in
theorem ok_117 : xmOK 117 := ⟨wk_117, by decide +kernel, by decide +kernel, (fun h => by cases h), Or.inl ⟨rfl, rfl⟩⟩
set_option maxRecDepth 20000 in
theorem ok_118 : xmOK 118 := ⟨wk_118, by decide +kernel, by decide +kernel, (fun h => by cases h), Or.inl ⟨rfl, rfl⟩⟩
set_option maxRecDepth 20000 in
theorem ok_119 : xmOK 119 := ⟨wk_119, by decide +kernel, by decide +kernel, (fun h => by cases h), Or.inl ⟨rfl, rfl⟩⟩
set_option maxRecDepth 20000 in
theorem ok_120 : xmOK 120 := ⟨wk_120, by decide +kernel, by decide +kernel, (fun h => by cases h), Or.inr (Or.inr (Or.inl ⟨rfl, rfl⟩))⟩
set_option maxRecDepth 20000 in
theorem ok_121 : xmOK 121 := ⟨wk_121, by decide +kernel, by decide +kernel, (fun h => by cases h), Or.inl ⟨rfl, rfl⟩⟩
set_option maxRecDepth 20000 in
theorem ok_122 : xmOK 122 := ⟨wk_122, by decide +kernel, by decide +kernel, (fun h => by cases h), Or.inr (Or.inl ⟨rfl, rfl⟩)⟩
set_option maxRecDepth 20000 in
theorem ok_123 : xmOK 123 := ⟨wk_123, by decide +kernel, by decide +kernel, (fun h => by cases h), Or.inr (Or.inl ⟨rfl, rfl⟩)⟩
set_option maxRecDepth 20000 in
theorem ok_124 : xmOK 124 := ⟨wk_124, by decide +kernel, by decide +kernel, (fun h => by cases h), Or.inr (Or.inr (Or.inl ⟨rfl, rfl⟩))⟩
set_option maxRecDepth 20000 in
theorem ok_125 : xmOK 125 := ⟨wk_125, by decide +kernel, by decide +kernel, (fun h => by cases h), Or.inr (Or.inl ⟨rfl, rfl⟩)⟩
set_option maxRecDepth 20000 in
theorem ok_126 : xmOK 126 := ⟨wk_126, by decide +kernel, by decide +kernel, (fun h => by cases h), Or.inr (Or.inl ⟨rfl, rfl⟩)⟩
set_option maxRecDepth 20000 in
theorem ok_127 : xmOK 127 := ⟨wk_127, by decide +kernel, by decide +kernel, (fun h => by cases h), Or.inr (Or.inl ⟨rfl, rfl⟩)⟩
set_option maxRecDepth 20000 in
theorem ok_128 : xmOK 128 := ⟨wk_128, by decide +kernel, by decide +kernel, (fun h => by cases h), Or.inr (Or.inl ⟨rfl, rfl⟩)⟩
set_option maxRecDepth 20000 in
theorem ok_129 : xmOK 129 := ⟨wk_129, by decide +kernel, by decide +kernel, (fun h => by cases h), Or.inr (Or.inr (Or.inl ⟨rfl, rfl⟩))⟩
set_option maxRecDepth 20000 in
theorem ok_130 : xmOK 130 := ⟨wk_130, by decide +kernel, by decide +kernel, (fun h => by cases h), Or.inr (Or.inl ⟨rfl, rfl⟩)⟩
set_option maxRecDepth 20000 in
theorem ok_131 : xmOK 131 := ⟨wk_131, by decide +kernel, by decide +kernel, (fun h => by cases h), Or.inr (Or.inl ⟨rfl, rfl⟩)⟩
set_option maxRecDepth 20000 in
theorem ok_132 : xmOK 132 := ⟨wk_132, by decide +kernel, by decide +kernel, fun _ => rfl, Or.inl ⟨rfl, rfl⟩⟩
set_option maxRecDepth 20000 in
theorem ok_133 : xmOK 133 := ⟨wk_133, by decide +kernel, by decide +kernel, (fun h => by cases h), Or.inr (Or.inl ⟨rfl, rfl⟩)⟩
set_option maxRecDepth 20000 in
theorem ok_134 : xmOK 134 := ⟨wk_134, by decide +kernel, by decide +kernel, (fun h => by cases h), Or.inr (Or.inl ⟨rfl, rfl⟩)⟩
set_option maxRecDepth 20000 in
theorem ok_135 : xmOK 135 := ⟨wk_135, by decide +kernel, by decide +kernel, (fun h => by cases h), Or.inr (Or.inl ⟨rfl, rfl⟩)⟩
set_option maxRecDepth 20000 in
theorem ok_136 : xmOK 136 := ⟨wk_136, by decide +kernel, by decide +kernel, (fun h => by cases h), Or.inr (Or.inr (Or.inr (Or.inl ⟨rfl, rfl⟩)))⟩
set_option maxRecDepth 20000 in
theorem ok_137 : xmOK 137 := ⟨wk_137, by decide +kernel, by decide +kernel, (fun h => by cases h), Or.inr (Or.inl ⟨rfl, rfl⟩)⟩
set_option maxRecDepth 20000 in
theorem ok_138 : xmOK 138 := ⟨wk_138, by decide +kernel, by decide +kernel, (fun h => by cases h), Or.inr (Or.inl ⟨rfl, rfl⟩)⟩
set_option maxRecDepth 20000 in
theorem ok_139 : xmOK 139 := ⟨wk_139, by decide +kernel, by decide +kernel, (fun h => by cases h), Or.inr (Or.inl ⟨rfl, rfl⟩)⟩
set_option maxRecDepth 20000 in
theorem ok_140 : xmOK 140 := ⟨wk_140, by decide +kernel, by decide +kernel, (fun h => by cases h), Or.inr (Or.inl ⟨rfl, rfl⟩)⟩
set_option maxRecDepth 20000 in
theorem ok_141 : xmOK 141 := ⟨wk_141, by decide +kernel, by decide +kernel, (fun h => by cases h), Or.inr (Or.inl ⟨rfl, rfl⟩)⟩
set_option maxRecDepth 20000 in
theorem ok_142 : xmOK 142 := ⟨wk_142, by decide +kernel, by decide +kernel, (fun h => by cases h), Or.inr (Or.inl ⟨rfl, rfl⟩)⟩
set_option maxRecDepth 20000 in
theorem ok_143 : xmOK 143 := ⟨wk_143, by decide +kernel, by decide +kernel, (fun h => by cases h), Or.inr (Or.inl ⟨rfl, rfl⟩)⟩
set_option maxRecDepth 20000 in
theorem ok_144 : xmOK 144 := ⟨wk_144, by decide +kernel, by decide +kernel, (fun h => by cases h), Or.inr (Or.inl ⟨rfl, rfl⟩)⟩
set_option maxRecDepth 20000 in
theorem ok_145 : xmOK 145 := ⟨wk_145, by decide +kernel, by decide +kernel, (fun h => by cases h), Or.inr (Or.inl ⟨rfl, rfl⟩)⟩
set_option maxRecDepth 20000 in
theorem ok_146 : xmOK 146 := ⟨wk_146, by decide +kernel, by decide +kernel, (fun h => by cases h), Or.inr (Or.inl ⟨rfl, rfl⟩)⟩
set_option maxRecDepth 20000 in
theorem ok_147 : xmOK 147 := ⟨wk_147, by decide +kernel, by decide +kernel, (fun h => by cases h), Or.inr (Or.inl ⟨rfl, rfl⟩)⟩
set_option maxRecDepth 20000 in
theorem ok_148 : xmOK 148 := ⟨wk_148, by decide +kernel, by decide +kernel, (fun h => by cases h), Or.inr (Or.inl ⟨rfl, rfl⟩)⟩
set_option maxRecDepth 20000 in
theorem ok_149 : xmOK 149 := ⟨wk_149, by decide +kernel, by decide +kernel, (fun h => by cases h), Or.inr (Or.inl ⟨rfl, rfl⟩)⟩
set_option maxRecDepth 20000 in
theorem ok_150 : xmOK 150 := ⟨wk_150, by decide +kernel, by decide +kernel, (fun h => by cases h), Or.inr (Or.inl ⟨rfl, rfl⟩)⟩
set_option maxRecDepth 20000 in
theorem ok_151 : xmOK 151 := ⟨wk_151, by decide +kernel, by decide +kernel, (fun h => by cases h), Or.inr (Or.inl ⟨rfl, rfl⟩)⟩
set_option maxRecDepth 20000 in
theorem ok_152 : xmOK 152 := ⟨wk_152, by decide +kernel, by decide +kernel, (fun h => by cases h), Or.inr (Or.inl ⟨rfl, rfl⟩)⟩
set_option maxRecDepth 20000 in
theorem ok_153 : xmOK 153 := ⟨wk_153, by decide +kernel, by decide +kernel, (fun h => by cases h), Or.inr (Or.inl ⟨rfl, rfl⟩)⟩
set_option maxRecDepth 20000 in
theorem ok_154 : xmOK 154 := ⟨wk_154, by decide +kernel, by decide +kernel, (fun h => by cases h), Or.inr (Or.inl ⟨rfl, rfl⟩)⟩
set_option maxRecDepth 20000 in
theorem ok_155 : xmOK 155 := ⟨wk_155, by decide +kernel, by decide +kernel, (fun h => by cases h), Or.inr (Or.inl ⟨rfl, rfl⟩)⟩
set_option maxRecDepth 20000 in
theorem ok_156 : xmOK 156 := ⟨wk_156, by decide +kernel, by decide +kernel, (fun h => by cases h), Or.inr (Or.inl ⟨rfl, rfl⟩)⟩
set_option maxRecDepth 20000 in
theorem ok_157 : xmOK 157 := ⟨wk_157, by decide +kernel, by decide +kernel, (fun h => by cases h), Or.inr (Or.inl ⟨rfl, rfl⟩)⟩
set_option maxRecDepth 20000 in
theorem ok_158 : xmOK 158 := ⟨wk_158, by decide +kernel, by decide +kernel, (fun h => by cases h), Or.inr (Or.inl ⟨rfl, rfl⟩)⟩
set_option maxRecDepth 20000 in
theorem ok_159 : xmOK 159 := ⟨wk_159, by decide +kernel, by decide +kernel, (fun h => by cases h), Or.inr (Or.inl ⟨rfl, rfl⟩)⟩
set_option maxRecDepth 20000 in
theorem ok_160 : xmOK 160 := ⟨wk_160, by decide +kernel, by decide +kernel, (fun h => by cases h), Or.inr (Or.inl ⟨rfl, rfl⟩)⟩
set_option maxRecDepth 20000 in
theorem ok_161 : xmOK 161 := ⟨wk_161, by decide +kernel, by decide +kernel, (fun h => by cases h), Or.inr (Or.inl ⟨rfl, rfl⟩)⟩
set_option maxRecDepth 20000 in
theorem ok_162 : xmOK 162 := ⟨wk_162, by decide +kernel, by decide +kernel, (fun h => by cases h), Or.inr (Or.inl ⟨rfl, rfl⟩)⟩
set_option maxRecDepth 20000 in
theorem ok_163 : xmOK 163 := ⟨wk_163, by decide +kernel, by decide +kernel, (fun h => by cases h), Or.inr (Or.inl ⟨rfl, rfl⟩)⟩
set_option maxRecDepth 20000 in
theorem ok_164 : xmOK 164 := ⟨wk_164, by decide +kernel, by decide +kernel, (fun h => by cases h), Or.inr (Or.inl ⟨rfl, rfl⟩)⟩
set_option maxRecDepth 20000 in
theorem ok_165 : xmOK 165 := ⟨wk_165, by decide +kernel, by decide +kernel, (fun h => by cases h), Or.inr (Or.inl ⟨rfl, rfl⟩)⟩
set_option maxRecDepth 20000 in
theorem ok_166 : xmOK 166 := ⟨wk_166, by decide +kernel, by decide +kernel, (fun h => by cases h), Or.inr (Or.inl ⟨rfl, rfl⟩)⟩
set_option maxRecDepth 20000 in
theorem ok_167 : xmOK 167 := ⟨wk_167, by decide +kernel, by decide +kernel, (fun h => by cases h), Or.inr (Or.inl ⟨rfl, rfl⟩)⟩
set_option maxRecDepth 20000 in
theorem ok_168 : xmOK 168 := ⟨wk_168, by decide +kernel, by decide +kernel, (fun h => by cases h), Or.inr (Or.inl ⟨rfl, rfl⟩)⟩
set_option maxRecDepth 20000 in
theorem ok_169 : xmOK 169 := ⟨wk_169, by decide +kernel, by decide +kernel, (fun h => by cases h), Or.inr (Or.inl ⟨rfl, rfl⟩)⟩
set_option maxRecDepth 20000 in
theorem ok_170 : xmOK 170 := ⟨wk_170, by decide +kernel, by decide +kernel, (fun h => by cases h), Or.inr (Or.inl ⟨rfl, rfl⟩)⟩
set_option maxRecDepth 20000 in
theorem ok_171 : xmOK 171 := ⟨wk_171, by decide +kernel, by decide +kernel, (fun h => by cases h), Or.inr (Or.inl ⟨rfl, rfl⟩)⟩
set_option maxRecDepth 20000 in
theorem ok_172 : xmOK 172 := ⟨wk_172, by decide +kernel, by decide +kernel, (fun h => by cases h), Or.inr (Or.inl ⟨rfl, rfl⟩)⟩
set_option maxRecDepth 20000 in
theorem ok_173 : xmOK 173 := ⟨wk_173, by decide +kernel, by decide +kernel, (fun h => by cases h), Or.inr (Or.inl ⟨rfl, rfl⟩)⟩
set_option maxRecDepth 20000 in
theorem ok_174 : xmOK 174 := ⟨wk_174, by decide +kernel, by decide +kernel, (fun h => by cases h), Or.inr (Or.inl ⟨rfl, rfl⟩)⟩
set_option maxRecDepth 20000 in
theorem ok_175 : xmOK 175 := ⟨wk_175, by decide +kernel, by decide +kernel, (fun h => by cases h), Or.inr (Or.inl ⟨rfl, rfl⟩)⟩
set_option maxRecDepth 20000 in
theorem ok_176 : xmOK 176 := ⟨wk_176, by decide +kernel, by decide +kernel, (fun h => by cases h), Or.inr (Or.inl ⟨rfl, rfl⟩)⟩
set_option maxRecDepth 20000 in
theorem ok_177 : xmOK 177 := ⟨wk_177, by decide +kernel, by decide +kernel, (fun h => by cases h), Or.inr (Or.inl ⟨rfl, rfl⟩)⟩
set_option maxRecDepth 20000 in
theorem ok_178 : xmOK 178 := ⟨wk_178, by decide +kernel, by decide +kernel, (fun h => by cases h), Or.inr (Or.inl ⟨rfl, rfl⟩)⟩
set_option maxRecDepth 20000 in
theorem ok_179 : xmOK 179 := ⟨wk_179, by decide +kernel, by decide +kernel, (fun h => by cases h), Or.inr (Or.inl ⟨rfl, rfl⟩)⟩
set_option maxRecDepth 20000 in
theorem ok_180 : xmOK 180 := ⟨wk_180, by decide +kernel, by decide +kernel, (fun h => by cases h), Or.inr (Or.inr (Or.inl ⟨rfl, rfl⟩))⟩
set_option maxRecDepth 20000 in
theorem ok_181 : xmOK 181 := ⟨wk_181, by decide +kernel, by decide +kernel, (fun h => by cases h), Or.inr (Or.inr (Or.inl ⟨rfl, rfl⟩))⟩
set_option maxRecDepth 20000 in
theorem ok_182 : xmOK 182 := ⟨wk_182, by decide +kernel, by decide +kernel, (fun h => by cases h), Or.inr (Or.inr (Or.inl ⟨rfl, rfl⟩))⟩
set_option maxRecDepth 20000 in
theorem ok_183 : xmOK 183 := ⟨wk_183, by decide +kernel, by decide +kernel, (fun h => by cases h), Or.inr (Or.inr (Or.inl ⟨rfl, rfl⟩))⟩
set_option maxRecDepth 20000 in
theorem ok_184 : xmOK 184 := ⟨wk_184, by decide +kernel, by decide +kernel, (fun h => by cases h), Or.inr (Or.inr (Or.inl ⟨rfl, rfl⟩))⟩
set_option maxRecDepth 20000 in
theorem ok_185 : xmOK 185 := ⟨wk_185, by decide +kernel, by decide +kernel, (fun h => by cases h), Or.inr (Or.inr (Or.inl ⟨rfl, rfl⟩))⟩
set_option maxRecDepth 20000 in
theorem ok_186 : xmOK 186 := ⟨wk_186, by decide +kernel, by decide +kernel, fun _ => rfl, Or.inl ⟨rfl, rfl⟩⟩
set_option maxRecDepth 20000 in
theorem ok_187 : xmOK 187 := ⟨wk_187, by decide +kernel, by decide +kernel, (fun h => by cases h), Or.inr (Or.inl ⟨rfl, rfl⟩)⟩
set_option maxRecDepth 20000 in
theorem ok_188 : xmOK 188 := ⟨wk_188, by decide +kernel, by decide +kernel, (fun h => by cases h), Or.inr (Or.inr (Or.inl ⟨rfl, rfl⟩))⟩
set_option maxRecDepth 20000 in
theorem ok_189 : xmOK 189 := ⟨wk_189, by decide +kernel, by decide +kernel, (fun h => by cases h), Or.inr (Or.inr (Or.inl ⟨rfl, rfl⟩))⟩
set_option maxRecDepth 20000 in
theorem ok_190 : xmOK 190 := ⟨wk_190, by decide +kernel, by decide +kernel, (fun h => by cases h), Or.inr (Or.inr (Or.inl ⟨rfl, rfl⟩))⟩
set_option maxRecDepth 20000 in
theorem ok_191 : xmOK 191 := ⟨wk_191, by decide +kernel, by decide +kernel, (fun h => by cases h), Or.inr (Or.inr (Or.inl ⟨rfl, rfl⟩))⟩
set_option maxRecDepth 20000 in
theorem ok_192 : xmOK 192 := ⟨wk_192, by decide +kernel, by decide +kernel, (fun h => by cases h), Or.inr (Or.inl ⟨rfl, rfl⟩)⟩
set_option maxRecDepth 20000 in
theorem ok_193 : xmOK 193 := ⟨wk_193, by decide +kernel, by decide +kernel, (fun h => by cases h), Or.inr (Or.inl ⟨rfl, rfl⟩)⟩
set_option maxRecDepth 20000 in
theorem ok_194 : xmOK 194 := ⟨wk_194, by decide +kernel, by decide +kernel, (fun h => by cases h), Or.inr (Or.inr (Or.inr (Or.inl ⟨rfl, rfl⟩)))⟩
set_option maxRecDepth 20000 in
theorem ok_195 : xmOK 195 := ⟨wk_195, by decide +kernel, by decide +kernel, (fun h => by cases h), Or.inr (Or.inl ⟨rfl, rfl⟩)⟩
set_option maxRecDepth 20000 in
theorem ok_196 : xmOK 196 := ⟨wk_196, by decide +kernel, by decide +kernel, (fun h => by cases h), Or.inr (Or.inl ⟨rfl, rfl⟩)⟩
set_option maxRecDepth 20000 in
theorem ok_197 : xmOK 197 := ⟨wk_197, by decide +kernel, by decide +kernel, (fun h => by cases h), Or.inr (Or.inl ⟨rfl, rfl⟩)⟩
set_option maxRecDepth 20000 in
theorem ok_198 : xmOK 198 := ⟨wk_198, by decide +kernel, by decide +kernel, (fun h => by cases h), Or.inr (Or.inr (Or.inr (Or.inl ⟨rfl, rfl⟩)))⟩
set_option maxRecDepth 20000 in
theorem ok_199 : xmOK 199 := ⟨wk_199, by decide +kernel, by decide +kernel, (fun h => by cases h), Or.inr (Or.inl ⟨rfl, rfl⟩)⟩
set_option maxRecDepth 20000 in
theorem ok_200 : xmOK 200 := ⟨wk_200, by decide +kernel, by decide +kernel, (fun h => by cases h), Or.inr (Or.inl ⟨rfl, rfl⟩)⟩
set_option maxRecDepth 20000 in
theorem ok_201 : xmOK 201 := ⟨wk_201, by decide +kernel, by decide +kernel, (fun h => by cases h), Or.inr (Or.inr (Or.inl ⟨rfl, rfl⟩))⟩
set_option maxRecDepth 20000 in
theorem ok_202 : xmOK 202 := ⟨wk_202, by decide +kernel, by decide +kernel, (fun h => by cases h), Or.inr (Or.inl ⟨rfl, rfl⟩)⟩
set_option maxRecDepth 20000 in
theorem ok_203 : xmOK 203 := ⟨wk_203, by decide +kernel, by decide +kernel, (fun h => by cases h), Or.inl ⟨rfl, rfl⟩⟩
set_option maxRecDepth 20000 in
theorem ok_204 : xmOK 204 := ⟨wk_204, by decide +kernel, by decide +kernel, (fun h => by cases h), Or.inr (Or.inl ⟨rfl, rfl⟩)⟩
set_option maxRecDepth 20000 in
theorem ok_205 : xmOK 205 := ⟨wk_205, by decide +kernel, by decide +kernel, (fun h => by cases h), Or.inl ⟨rfl, rfl⟩⟩
set_option maxRecDepth 20000 in
theorem ok_206 : xmOK 206 := ⟨wk_206, by decide +kernel, by decide +kernel, (fun h => by cases h), Or.inr (Or.inl ⟨rfl, rfl⟩)⟩
set_option maxRecDepth 20000 in
theorem ok_207 : xmOK 207 := ⟨wk_207, by decide +kernel, by decide +kernel, (fun h => by cases h), Or.inr (Or.inl ⟨rfl, rfl⟩)⟩
set_option maxRecDepth 20000 in
theorem ok_208 : xmOK 208 := ⟨wk_208, by decide +kernel, by decide +kernel, (fun h => by cases h), Or.inr (Or.inr (Or.inl ⟨rfl, rfl⟩))⟩
set_option maxRecDepth 20000 in
theorem ok_209 : xmOK 209 := ⟨wk_209, by decide +kernel, by decide +kernel, (fun h => by cases h), Or.inl ⟨rfl, rfl⟩⟩
set_option maxRecDepth 20000 in
theorem ok_210 : xmOK 210 := ⟨wk_210, by decide +kernel, by decide +kernel, (fun h => by cases h), Or.inr (Or.inl ⟨rfl, rfl⟩)⟩
set_option maxRecDepth 20000 in
theorem ok_211 : xmOK 211 := ⟨wk_211, by decide +kernel, by decide +kernel, (fun h => by cases h), Or.inr (Or.inl ⟨rfl, rfl⟩)⟩
set_option maxRecDepth 20000 in
theorem ok_212 : xmOK 212 := ⟨wk_212, by decide +kernel, by decide +kernel, (fun h => by cases h), Or.inr (Or.inl ⟨rfl, rfl⟩)⟩
set_option maxRecDepth 20000 in
theorem ok_213 : xmOK 213 := ⟨wk_213, by decide +kernel, by decide +kernel, (fun h => by cases h), Or.inr (Or.inl ⟨rfl, rfl⟩)⟩
set_option maxRecDepth 20000 in
theorem ok_214 : xmOK 214 := ⟨wk_214, by decide +kernel, by decide +kernel, (fun h => by cases h), Or.inl ⟨rfl, rfl⟩⟩
set_option maxRecDepth 20000 in
theorem ok_215 : xmOK 215 := ⟨wk_215, by decide +kernel, by decide +kernel, (fun h => by cases h), Or.inr (Or.inl ⟨rfl, rfl⟩)⟩
set_option maxRecDepth 20000 in
theorem ok_216 : xmOK 216 := ⟨wk_216, by decide +kernel, by decide +kernel, (fun h => by cases h), Or.inr (Or.inr (Or.inl ⟨rfl, rfl⟩))⟩
set_option maxRecDepth 20000 in
theorem ok_217 : xmOK 217 := ⟨wk_217, by decide +kernel, by decide +kernel, (fun h => by cases h), Or.inr (Or.inr (Or.inl ⟨rfl, rfl⟩))⟩
set_option maxRecDepth 20000 in
theorem ok_218 : xmOK 218 := ⟨wk_218, by decide +kernel, by decide +kernel, (fun h => by cases h), Or.inr (Or.inl ⟨rfl, rfl⟩)⟩
set_option maxRecDepth 20000 in
theorem ok_219 : xmOK 219 := ⟨wk_219, by decide +kernel, by decide +kernel, (fun h => by cases h), Or.inr (Or.inl ⟨rfl, rfl⟩)⟩
set_option maxRecDepth 20000 in
theorem ok_220 : xmOK 220 := ⟨wk_220, by decide +kernel, by decide +kernel, (fun h => by cases h), Or.inr (Or.inl ⟨rfl, rfl⟩)⟩
set_option maxRecDepth 20000 in
theorem ok_221 : xmOK 221 := ⟨wk_221, by decide +kernel, by decide +kernel, (fun h => by cases h), Or.inr (Or.inl ⟨rfl, rfl⟩)⟩
set_option maxRecDepth 20000 in
theorem ok_222 : xmOK 222 := ⟨wk_222, by decide +kernel, by decide +kernel, (fun h => by cases h), Or.inr (Or.inr (Or.inl ⟨rfl, rfl⟩))⟩
set_option maxRecDepth 20000 in
theorem ok_223 : xmOK 223 := ⟨wk_223, by decide +kernel, by decide +kernel, (fun h => by cases h), Or.inr (Or.inr (Or.inl ⟨rfl, rfl⟩))⟩
set_option maxRecDepth 20000 in
theorem ok_224 : xmOK 224 := ⟨wk_224, by decide +kernel, by decide +kernel, (fun h => by cases h), Or.inl ⟨rfl, rfl⟩⟩
set_option maxRecDepth 20000 in
theorem ok_225 : xmOK 225 := ⟨wk_225, by decide +kernel, by decide +kernel, (fun h => by cases h), Or.inr (Or.inr (Or.inl ⟨rfl, rfl⟩))⟩
set_option maxRecDepth 20000 in
theorem ok_226 : xmOK 226 := ⟨wk_226, by decide +kernel, by decide +kernel, (fun h => by cases h), Or.inr (Or.inr (Or.inl ⟨rfl, rfl⟩))⟩
set_option maxRecDepth 20000 in
theorem ok_227 : xmOK 227 := ⟨wk_227, by decide +kernel, by decide +kernel, (fun h => by cases h), Or.inr (Or.inr (Or.inl ⟨rfl, rfl⟩))⟩
set_option maxRecDepth 20000 in
theorem ok_228 : xmOK 228 := ⟨wk_228, by decide +kernel, by decide +kernel, (fun h => by cases h), Or.inr (Or.inr (Or.inl ⟨rfl, rfl⟩))⟩
set_option maxRecDepth 20000 in
theorem ok_229 : xmOK 229 := ⟨wk_229, by decide +kernel, by decide +kernel, (fun h => by cases h), Or.inr (Or.inr (Or.inl ⟨rfl, rfl⟩))⟩
set_option maxRecDepth 20000 in
theorem ok_230 : xmOK 230 := ⟨wk_230, by decide +kernel, by decide +kernel, (fun h => by cases h), Or.inr (Or.inr (Or.inl ⟨rfl, rfl⟩))⟩
set_option maxRecDepth 20000 in
theorem ok_231 : xmOK 231 := ⟨wk_231, by decide +kernel, by decide +kernel, (fun h => by cases h), Or.inr (Or.inr (Or.inl ⟨rfl, rfl⟩))⟩
set_option maxRecDepth 20000 in
theorem ok_232 : xmOK 232 := ⟨wk_232, by decide +kernel, by decide +kernel, (fun h => by cases h), Or.inr (Or.inr (Or.inl ⟨rfl, rfl⟩))⟩
set_option maxRecDepth 20000 in
theorem ok_233 : xmOK 233 := ⟨wk_233, by decide +kernel, by decide +kernel, (fun h => by cases h), Or.inr (Or.inr (Or.inr (Or.inr ⟨rfl, _, rfl⟩)))⟩
set_option maxRecDepth 20000 in
theorem ok_234 : xmOK 234 := ⟨wk_234, by decide +kernel, by decide +kernel, (fun h => by cases h), Or.inr (Or.inl ⟨rfl, rfl⟩)⟩
set_option maxRecDepth 20000 in
theorem ok_235 : xmOK 235 := ⟨wk_235, by decide +kernel, by decide +kernel, (fun h => by cases h), Or.inr (Or.inl ⟨rfl, rfl⟩)⟩
set_option maxRecDepth 20000 in
theorem ok_236 : xmOK 236 := ⟨wk_236, by decide +kernel, by decide +kernel, (fun h => by cases h), Or.inl ⟨rfl, rfl⟩⟩
set_option maxRecDepth 20000 in
theorem ok_237 : xmOK 237 := ⟨wk_237, by decide +kernel, by decide +kernel, (fun h => by cases h), Or.inl ⟨rfl, rfl⟩⟩
set_option maxRecDepth 20000 in
theorem ok_238 : xmOK 238 := ⟨wk_238, by decide +kernel, by decide +kernel, (fun h => by cases h), Or.inr (Or.inl ⟨rfl, rfl⟩)⟩
set_option maxRecDepth 20000 in
theorem ok_239 : xmOK 239 := ⟨wk_239, by decide +kernel, by decide +kernel, (fun h => by cases h), Or.inl ⟨rfl, rfl⟩⟩
set_option maxRecDepth 20000 in
theorem ok_240 : xmOK 240 := ⟨wk_240, by decide +kernel, by decide +kernel, (fun h => by cases h), Or.inl ⟨rfl, rfl⟩⟩
set_option maxRecDepth 20000 in
theorem ok_241 : xmOK 241 := ⟨wk_241, by decide +kernel, by decide +kernel, (fun h => by cases h), Or.inl ⟨rfl, rfl⟩⟩
set_option maxRecDepth 20000 in
theorem ok_242 : xmOK 242 := ⟨wk_242, by decide +kernel, by decide +kernel, (fun h => by cases h), Or.inr (Or.inl ⟨rfl, rfl⟩)⟩
set_option maxRecDepth 20000 in
theorem ok_243 : xmOK 243 := ⟨wk_243, by decide +kernel, by decide +kernel, (fun h => by cases h), Or.inr (Or.inr (Or.inl ⟨rfl, rfl⟩))⟩
set_option maxRecDepth 20000 in
theorem ok_244 : xmOK 244 := ⟨wk_244, by decide +kernel, by decide +kernel, (fun h => by cases h), Or.inl ⟨rfl, rfl⟩⟩
set_option maxRecDepth 20000 in
theorem ok_245 : xmOK 245 := ⟨wk_245, by decide +kernel, by decide +kernel, (fun h => by cases h), Or.inr (Or.inl ⟨rfl, rfl⟩)⟩
set_option maxRecDepth 20000 in
theorem ok_246 : xmOK 246 := ⟨wk_246, by decide +kernel, by decide +kernel, (fun h => by cases h), Or.inr (Or.inl ⟨rfl, rfl⟩)⟩
set_option maxRecDepth 20000 in
theorem ok_247 : xmOK 247 := ⟨wk_247, by decide +kernel, by decide +kernel, (fun h => by cases h), Or.inr (Or.inl ⟨rfl, rfl⟩)⟩
set_option maxRecDepth 20000 in
theorem ok_248 : xmOK 248 := ⟨wk_248, by decide +kernel, by decide +kernel, (fun h => by cases h), Or.inr (Or.inl ⟨rfl, rfl⟩)⟩
set_option maxRecDepth 20000 in
theorem ok_249 : xmOK 249 := ⟨wk_249, by decide +kernel, by decide +kernel, (fun h => by cases h), Or.inr (Or.inl ⟨rfl, rfl⟩)⟩
set_option maxRecDepth 20000 in
theorem ok_250 : xmOK 250 := ⟨wk_250, by decide +kernel, by decide +kernel, (fun h => by cases h), Or.inr (Or.inr (Or.inl ⟨rfl, rfl⟩))⟩
set_option maxRecDepth 20000 in
theorem ok_251 : xmOK 251 := ⟨wk_251, by decide +kernel, by decide +kernel, (fun h => by cases h), Or.inr (Or.inl ⟨rfl, rfl⟩)⟩
set_option maxRecDepth 20000 in
theorem ok_252 : xmOK 252 := ⟨wk_252, by decide +kernel, by decide +kernel, (fun h => by cases h), Or.inr (Or.inl ⟨rfl, rfl⟩)⟩
set_option maxRecDepth 20000 in
theorem ok_253 : xmOK 253 := ⟨wk_253, by decide +kernel, by decide +kernel, (fun h => by cases h), Or.inr (Or.inl ⟨rfl, rfl⟩)⟩
set_option maxRecDepth 20000 in
theorem ok_254 : xmOK 254 := ⟨wk_254, by decide +kernel, by decide +kernel, (fun h => by cases h), Or.inr (Or.inl ⟨rfl, rfl⟩)⟩
set_option maxRecDepth 20000 in
theorem ok_255 : xmOK 255 := ⟨wk_255, by decide +kernel, by decide +kernel, (fun h => by cases h), Or.inr (Or.inl ⟨rfl, rfl⟩)⟩
set_option maxRecDepth 20000 in
theorem ok_256 : xmOK 256 := ⟨wk_256, by decide +kernel, by decide +kernel, (fun h => by cases h), Or.inr (Or.inl ⟨rfl, rfl⟩)⟩
set_option maxRecDepth 20000 in
theorem ok_257 : xmOK 257 := ⟨wk_257, by decide +kernel, by decide +kernel, (fun h => by cases h), Or.inr (Or.inl ⟨rfl, rfl⟩)⟩
set_option maxRecDepth 20000 in
theorem ok_258 : xmOK 258 := ⟨wk_258, by decide +kernel, by decide +kernel, (fun h => by cases h), Or.inr (Or.inr (Or.inl ⟨rfl, rfl⟩))⟩
set_option maxRecDepth 20000 in
theorem ok_259 : xmOK 259 := ⟨wk_259, by decide +kernel, by decide +kernel, (fun h => by cases h), Or.inr (Or.inr (Or.inl ⟨rfl, rfl⟩))⟩
set_option maxRecDepth 20000 in
theorem ok_260 : xmOK 260 := ⟨wk_260, by decide +kernel, by decide +kernel, (fun h => by cases h), Or.inr (Or.inr (Or.inl ⟨rfl, rfl⟩))⟩
set_option maxRecDepth 20000 in
theorem ok_261 : xmOK 261 := ⟨wk_261, by decide +kernel, by decide +kernel, (fun h => by cases h), Or.inr (Or.inr (Or.inl ⟨rfl, rfl⟩))⟩
set_option maxRecDepth 20000 in
theorem ok_262 : xmOK 262 := ⟨wk_262, by decide +kernel, by decide +kernel, (fun h => by cases h), Or.inr (Or.inl ⟨rfl, rfl⟩)⟩
set_option maxRecDepth 20000 in
theorem ok_263 : xmOK 263 := ⟨wk_263, by decide +kernel, by decide +kernel, (fun h => by cases h), Or.inr (Or.inr (Or.inl ⟨rfl, rfl⟩))⟩
set_option maxRecDepth 20000 in
theorem ok_264 : xmOK 264 := ⟨wk_264, by decide +kernel, by decide +kernel, (fun h => by cases h), Or.inr (Or.inl ⟨rfl, rfl⟩)⟩
set_option maxRecDepth 20000 in
theorem ok_265 : xmOK 265 := ⟨wk_265, by decide +kernel, by decide +kernel, (fun h => by cases h), Or.inr (Or.inl ⟨rfl, rfl⟩)⟩
set_option maxRecDepth 20000 in
theorem ok_266 : xmOK 266 := ⟨wk_266, by decide +kernel, by decide +kernel, (fun h => by cases h), Or.inr (Or.inr (Or.inl ⟨rfl, rfl⟩))⟩
set_option maxRecDepth 20000 in
theorem ok_267 : xmOK 267 := ⟨wk_267, by decide +kernel, by decide +kernel, (fun h => by cases h), Or.inr (Or.inl ⟨rfl, rfl⟩)⟩
set_option maxRecDepth 20000 in
theorem ok_268 : xmOK 268 := ⟨wk_268, by decide +kernel, by decide +kernel, (fun h => by cases h), Or.inr (Or.inl ⟨rfl, rfl⟩)⟩
set_option maxRecDepth 20000 in
theorem ok_269 : xmOK 269 := ⟨wk_269, by decide +kernel, by decide +kernel, (fun h => by cases h), Or.inl ⟨rfl, rfl⟩⟩
set_option maxRecDepth 20000 in
theorem ok_270 : xmOK 270 := ⟨wk_270, by decide +kernel, by decide +kernel, (fun h => by cases h), Or.inl ⟨rfl, rfl⟩⟩
set_option maxRecDepth 20000 in
theorem ok_271 : xmOK 271 := ⟨wk_271, by decide +kernel, by decide +kernel, (fun h => by cases h), Or.inr (Or.inl ⟨rfl, rfl⟩)⟩
set_option maxRecDepth 20000 in
theorem ok_272 : xmOK 272 := ⟨wk_272, by decide +kernel, by decide +kernel, (fun h => by cases h), Or.inr (Or.inl ⟨rfl, rfl⟩)⟩
set_option maxRecDepth 20000 in
theorem ok_273 : xmOK 273 := ⟨wk_273, by decide +kernel, by decide +kernel, (fun h => by cases h), Or.inr (Or.inl ⟨rfl, rfl⟩)⟩
set_option maxRecDepth 20000 in
theorem ok_274 : xmOK 274 := ⟨wk_274, by decide +kernel, by decide +kernel, (fun h => by cases h), Or.inr (Or.inl ⟨rfl, rfl⟩)⟩
set_option maxRecDepth 20000 in
theorem ok_275 : xmOK 275 := ⟨wk_275, by decide +kernel, by decide +kernel, (fun h => by cases h), Or.inl ⟨rfl, rfl⟩⟩
set_option maxRecDepth 20000 in
theorem ok_276 : xmOK 276 := ⟨wk_276, by decide +kernel, by decide +kernel, (fun h => by cases h), Or.inr (Or.inl ⟨rfl, rfl⟩)⟩
set_option maxRecDepth 20000 in
theorem ok_277 : xmOK 277 := ⟨wk_277, by decide +kernel, by decide +kernel, (fun h => by cases h), Or.inr (Or.inl ⟨rfl, rfl⟩)⟩
set_option maxRecDepth 20000 in
theorem ok_278 : xmOK 278 := ⟨wk_278, by decide +kernel, by decide +kernel, (fun h => by cases h), Or.inr (Or.inl ⟨rfl, rfl⟩)⟩
set_option maxRecDepth 20000 in
theorem ok_279 : xmOK 279 := ⟨wk_279, by decide +kernel, by decide +kernel, (fun h => by cases h), Or.inr (Or.inl ⟨rfl, rfl⟩)⟩
set_option maxRecDepth 20000 in
theorem ok_280 : xmOK 280 := ⟨wk_280, by decide +kernel, by decide +kernel, (fun h => by cases h), Or.inr (Or.inl ⟨rfl, rfl⟩)⟩
set_option maxRecDepth 20000 in
theorem ok_281 : xmOK 281 := ⟨wk_281, by decide +kernel, by decide +kernel, (fun h => by cases h), Or.inr (Or.inl ⟨rfl, rfl⟩)⟩
set_option maxRecDepth 20000 in
theorem ok_282 : xmOK 282 := ⟨wk_282, by decide +kernel, by decide +kernel, (fun h => by cases h), Or.inr (Or.inl ⟨rfl, rfl⟩)⟩
set_option maxRecDepth 20000 in
theorem ok_283 : xmOK 283 := ⟨wk_283, by decide +kernel, by decide +kernel, (fun h => by cases h), Or.inr (Or.inl ⟨rfl, rfl⟩)⟩
set_option maxRecDepth 20000 in
theorem ok_284 : xmOK 284 := ⟨wk_284, by decide +kernel, by decide +kernel, (fun h => by cases h), Or.inr (Or.inl ⟨rfl, rfl⟩)⟩
set_option maxRecDepth 20000 in
theorem ok_285 : xmOK 285 := ⟨wk_285, by decide +kernel, by decide +kernel, (fun h => by cases h), Or.inr (Or.inl ⟨rfl, rfl⟩)⟩
set_option maxRecDepth 20000 in
theorem ok_286 : xmOK 286 := ⟨wk_286, by decide +kernel, by decide +kernel, (fun h => by cases h), Or.inr (Or.inl ⟨rfl, rfl⟩)⟩
set_option maxRecDepth 20000 in
theorem ok_287 : xmOK 287 := ⟨wk_287, by decide +kernel, by decide +kernel, (fun h => by cases h), Or.inr (Or.inl ⟨rfl, rfl⟩)⟩
set_option maxRecDepth 20000 in
theorem ok_288 : xmOK 288 := ⟨wk_288, by decide +kernel, by decide +kernel, (fun h => by cases h), Or.inr (Or.inl ⟨rfl, rfl⟩)⟩
set_option maxRecDepth 20000 in
theorem ok_289 : xmOK 289 := ⟨wk_289, by decide +kernel, by decide +kernel, (fun h => by cases h), Or.inr (Or.inl ⟨rfl, rfl⟩)⟩
set_option maxRecDepth 20000 in
theorem ok_290 : xmOK 290 := ⟨wk_290, by decide +kernel, by decide +kernel, (fun h => by cases h), Or.inr (Or.inl ⟨rfl, rfl⟩)⟩
set_option maxRecDepth 20000 in
theorem ok_291 : xmOK 291 := ⟨wk_291, by decide +kernel, by decide +kernel, (fun h => by cases h), Or.inr (Or.inl ⟨rfl, rfl⟩)⟩
set_option maxRecDepth 20000 in
theorem ok_292 : xmOK 292 := ⟨wk_292, by decide +kernel, by decide +kernel, (fun h => by cases h), Or.inr (Or.inl ⟨rfl, rfl⟩)⟩
set_option maxRecDepth 20000 in
theorem ok_293 : xmOK 293 := ⟨wk_293, by decide +kernel, by decide +kernel, (fun h => by cases h), Or.inr (Or.inl ⟨rfl, rfl⟩)⟩
set_option maxRecDepth 20000 in
theorem ok_294 : xmOK 294 := ⟨wk_294, by decide +kernel, by decide +kernel, (fun h => by cases h), Or.inl ⟨rfl, rfl⟩⟩
set_option maxRecDepth 20000 in
theorem ok_295 : xmOK 295 := ⟨wk_295, by decide +kernel, by decide +kernel, (fun h => by cases h), Or.inl ⟨rfl, rfl⟩⟩
set_option maxRecDepth 20000 in
theorem ok_296 : xmOK 296 := ⟨wk_296, by decide +kernel, by decide +kernel, (fun h => by cases h), Or.inr (Or.inl ⟨rfl, rfl⟩)⟩
set_option maxRecDepth 20000 in
theorem ok_297 : xmOK 297 := ⟨wk_297, by decide +kernel, by decide +kernel, (fun h => by cases h), Or.inr (Or.inl ⟨rfl, rfl⟩)⟩
set_option maxRecDepth 20000 in
theorem ok_298 : xmOK 298 := ⟨wk_298, by decide +kernel, by decide +kernel, (fun h => by cases h), Or.inr (Or.inl ⟨rfl, rfl⟩)⟩
set_option maxRecDepth 20000 in
theorem ok_299 : xmOK 299 := ⟨wk_299, by decide +kernel, by decide +kernel, (fun h => by cases h), Or.inr (Or.inl ⟨rfl, rfl⟩)⟩
set_option maxRecDepth 20000 in
theorem ok_300 : xmOK 300 := ⟨wk_300, by decide +kernel, by decide +kernel, (fun h => by cases h), Or.inr (Or.inl ⟨rfl, rfl⟩)⟩
set_option maxRecDepth 20000 in
theorem ok_301 : xmOK 301 := ⟨wk_301, by decide +kernel, by decide +kernel, (fun h => by cases h), Or.inr (Or.inl ⟨rfl, rfl⟩)⟩
set_option maxRecDepth 20000 in
theorem ok_302 : xmOK 302 := ⟨wk_302, by decide +kernel, by decide +kernel, (fun h => by cases h), Or.inl ⟨rfl, rfl⟩⟩
set_option maxRecDepth 20000 in
theorem ok_303 : xmOK 303 := ⟨wk_303, by decide +kernel, by decide +kernel, (fun h => by cases h), Or.inr (Or.inr (Or.inl ⟨rfl, rfl⟩))⟩

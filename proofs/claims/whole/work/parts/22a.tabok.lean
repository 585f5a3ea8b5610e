set_option maxRecDepth 20000 in
theorem ok_0 : xmOK 0 := ⟨wk_0, by decide +kernel, by decide +kernel, fun _ => rfl, Or.inl ⟨rfl, rfl⟩⟩
set_option maxRecDepth 20000 in
theorem ok_1 : xmOK 1 := ⟨wk_1, by decide +kernel, by decide +kernel, (fun h => by cases h), Or.inr (Or.inl ⟨rfl, rfl⟩)⟩
set_option maxRecDepth 20000 in
theorem ok_2 : xmOK 2 := ⟨wk_2, by decide +kernel, by decide +kernel, (fun h => by cases h), Or.inr (Or.inl ⟨rfl, rfl⟩)⟩
set_option maxRecDepth 20000 in
theorem ok_3 : xmOK 3 := ⟨wk_3, by decide +kernel, by decide +kernel, (fun h => by cases h), Or.inr (Or.inr (Or.inl ⟨rfl, rfl⟩))⟩
set_option maxRecDepth 20000 in
theorem ok_4 : xmOK 4 := ⟨wk_4, by decide +kernel, by decide +kernel, (fun h => by cases h), Or.inr (Or.inl ⟨rfl, rfl⟩)⟩
set_option maxRecDepth 20000 in
theorem ok_5 : xmOK 5 := ⟨wk_5, by decide +kernel, by decide +kernel, (fun h => by cases h), Or.inr (Or.inl ⟨rfl, rfl⟩)⟩
set_option maxRecDepth 20000 in
theorem ok_6 : xmOK 6 := ⟨wk_6, by decide +kernel, by decide +kernel, (fun h => by cases h), Or.inr (Or.inl ⟨rfl, rfl⟩)⟩
set_option maxRecDepth 20000 in
theorem ok_7 : xmOK 7 := ⟨wk_7, by decide +kernel, by decide +kernel, (fun h => by cases h), Or.inl ⟨rfl, rfl⟩⟩
set_option maxRecDepth 20000 in
theorem ok_8 : xmOK 8 := ⟨wk_8, by decide +kernel, by decide +kernel, (fun h => by cases h), Or.inr (Or.inl ⟨rfl, rfl⟩)⟩
set_option maxRecDepth 20000 in
theorem ok_9 : xmOK 9 := ⟨wk_9, by decide +kernel, by decide +kernel, (fun h => by cases h), Or.inr (Or.inl ⟨rfl, rfl⟩)⟩
set_option maxRecDepth 20000 in
theorem ok_10 : xmOK 10 := ⟨wk_10, by decide +kernel, by decide +kernel, (fun h => by cases h), Or.inl ⟨rfl, rfl⟩⟩
set_option maxRecDepth 20000 in
theorem ok_11 : xmOK 11 := ⟨wk_11, by decide +kernel, by decide +kernel, (fun h => by cases h), Or.inl ⟨rfl, rfl⟩⟩
set_option maxRecDepth 20000 in
theorem ok_12 : xmOK 12 := ⟨wk_12, by decide +kernel, by decide +kernel, (fun h => by cases h), Or.inr (Or.inl ⟨rfl, rfl⟩)⟩
set_option maxRecDepth 20000 in
theorem ok_13 : xmOK 13 := ⟨wk_13, by decide +kernel, by decide +kernel, (fun h => by cases h), Or.inr (Or.inl ⟨rfl, rfl⟩)⟩
set_option maxRecDepth 20000 in
theorem ok_14 : xmOK 14 := ⟨wk_14, by decide +kernel, by decide +kernel, (fun h => by cases h), Or.inr (Or.inl ⟨rfl, rfl⟩)⟩
set_option maxRecDepth 20000 in
theorem ok_15 : xmOK 15 := ⟨wk_15, by decide +kernel, by decide +kernel, (fun h => by cases h), Or.inr (Or.inl ⟨rfl, rfl⟩)⟩
set_option maxRecDepth 20000 in
theorem ok_16 : xmOK 16 := ⟨wk_16, by decide +kernel, by decide +kernel, (fun h => by cases h), Or.inr (Or.inl ⟨rfl, rfl⟩)⟩
set_option maxRecDepth 20000 in
theorem ok_17 : xmOK 17 := ⟨wk_17, by decide +kernel, by decide +kernel, fun _ => rfl, Or.inl ⟨rfl, rfl⟩⟩
set_option maxRecDepth 20000 in
theorem ok_18 : xmOK 18 := ⟨wk_18, by decide +kernel, by decide +kernel, (fun h => by cases h), Or.inr (Or.inl ⟨rfl, rfl⟩)⟩
set_option maxRecDepth 20000 in
theorem ok_19 : xmOK 19 := ⟨wk_19, by decide +kernel, by decide +kernel, (fun h => by cases h), Or.inr (Or.inl ⟨rfl, rfl⟩)⟩
set_option maxRecDepth 20000 in
theorem ok_20 : xmOK 20 := ⟨wk_20, by decide +kernel, by decide +kernel, (fun h => by cases h), Or.inr (Or.inl ⟨rfl, rfl⟩)⟩
set_option maxRecDepth 20000 in
theorem ok_21 : xmOK 21 := ⟨wk_21, by decide +kernel, by decide +kernel, (fun h => by cases h), Or.inr (Or.inl ⟨rfl, rfl⟩)⟩
set_option maxRecDepth 20000 in
theorem ok_22 : xmOK 22 := ⟨wk_22, by decide +kernel, by decide +kernel, (fun h => by cases h), Or.inr (Or.inr (Or.inl ⟨rfl, rfl⟩))⟩
set_option maxRecDepth 20000 in
theorem ok_23 : xmOK 23 := ⟨wk_23, by decide +kernel, by decide +kernel, (fun h => by cases h), Or.inr (Or.inl ⟨rfl, rfl⟩)⟩
set_option maxRecDepth 20000 in
theorem ok_24 : xmOK 24 := ⟨wk_24, by decide +kernel, by decide +kernel, (fun h => by cases h), Or.inl ⟨rfl, rfl⟩⟩
set_option maxRecDepth 20000 in
theorem ok_25 : xmOK 25 := ⟨wk_25, by decide +kernel, by decide +kernel, (fun h => by cases h), Or.inr (Or.inr (Or.inl ⟨rfl, rfl⟩))⟩
set_option maxRecDepth 20000 in
theorem ok_26 : xmOK 26 := ⟨wk_26, by decide +kernel, by decide +kernel, (fun h => by cases h), Or.inr (Or.inl ⟨rfl, rfl⟩)⟩
set_option maxRecDepth 20000 in
theorem ok_27 : xmOK 27 := ⟨wk_27, by decide +kernel, by decide +kernel, (fun h => by cases h), Or.inr (Or.inl ⟨rfl, rfl⟩)⟩
set_option maxRecDepth 20000 in
theorem ok_28 : xmOK 28 := ⟨wk_28, by decide +kernel, by decide +kernel, (fun h => by cases h), Or.inr (Or.inr (Or.inl ⟨rfl, rfl⟩))⟩
set_option maxRecDepth 20000 in
theorem ok_29 : xmOK 29 := ⟨wk_29, by decide +kernel, by decide +kernel, (fun h => by cases h), Or.inl ⟨rfl, rfl⟩⟩
set_option maxRecDepth 20000 in
theorem ok_30 : xmOK 30 := ⟨wk_30, by decide +kernel, by decide +kernel, (fun h => by cases h), Or.inl ⟨rfl, rfl⟩⟩
set_option maxRecDepth 20000 in
theorem ok_31 : xmOK 31 := ⟨wk_31, by decide +kernel, by decide +kernel, (fun h => by cases h), Or.inr (Or.inr (Or.inl ⟨rfl, rfl⟩))⟩
set_option maxRecDepth 20000 in
theorem ok_32 : xmOK 32 := ⟨wk_32, by decide +kernel, by decide +kernel, (fun h => by cases h), Or.inr (Or.inl ⟨rfl, rfl⟩)⟩
set_option maxRecDepth 20000 in
theorem ok_33 : xmOK 33 := ⟨wk_33, by decide +kernel, by decide +kernel, (fun h => by cases h), Or.inr (Or.inr (Or.inl ⟨rfl, rfl⟩))⟩
set_option maxRecDepth 20000 in
theorem ok_34 : xmOK 34 := ⟨wk_34, by decide +kernel, by decide +kernel, fun _ => rfl, Or.inl ⟨rfl, rfl⟩⟩
set_option maxRecDepth 20000 in
theorem ok_35 : xmOK 35 := ⟨wk_35, by decide +kernel, by decide +kernel, (fun h => by cases h), Or.inr (Or.inr (Or.inl ⟨rfl, rfl⟩))⟩
set_option maxRecDepth 20000 in
theorem ok_36 : xmOK 36 := ⟨wk_36, by decide +kernel, by decide +kernel, (fun h => by cases h), Or.inr (Or.inr (Or.inl ⟨rfl, rfl⟩))⟩
set_option maxRecDepth 20000 in
theorem ok_37 : xmOK 37 := ⟨wk_37, by decide +kernel, by decide +kernel, (fun h => by cases h), Or.inr (Or.inr (Or.inl ⟨rfl, rfl⟩))⟩
set_option maxRecDepth 20000 in
theorem ok_38 : xmOK 38 := ⟨wk_38, by decide +kernel, by decide +kernel, (fun h => by cases h), Or.inr (Or.inl ⟨rfl, rfl⟩)⟩
set_option maxRecDepth 20000 in
theorem ok_39 : xmOK 39 := ⟨wk_39, by decide +kernel, by decide +kernel, (fun h => by cases h), Or.inr (Or.inr (Or.inl ⟨rfl, rfl⟩))⟩
set_option maxRecDepth 20000 in
theorem ok_40 : xmOK 40 := ⟨wk_40, by decide +kernel, by decide +kernel, (fun h => by cases h), Or.inr (Or.inl ⟨rfl, rfl⟩)⟩
set_option maxRecDepth 20000 in
theorem ok_41 : xmOK 41 := ⟨wk_41, by decide +kernel, by decide +kernel, (fun h => by cases h), Or.inr (Or.inl ⟨rfl, rfl⟩)⟩
set_option maxRecDepth 20000 in
theorem ok_42 : xmOK 42 := ⟨wk_42, by decide +kernel, by decide +kernel, (fun h => by cases h), Or.inr (Or.inr (Or.inl ⟨rfl, rfl⟩))⟩
set_option maxRecDepth 20000 in
theorem ok_43 : xmOK 43 := ⟨wk_43, by decide +kernel, by decide +kernel, (fun h => by cases h), Or.inr (Or.inr (Or.inl ⟨rfl, rfl⟩))⟩
set_option maxRecDepth 20000 in
theorem ok_44 : xmOK 44 := ⟨wk_44, by decide +kernel, by decide +kernel, (fun h => by cases h), Or.inl ⟨rfl, rfl⟩⟩
set_option maxRecDepth 20000 in
theorem ok_45 : xmOK 45 := ⟨wk_45, by decide +kernel, by decide +kernel, (fun h => by cases h), Or.inl ⟨rfl, rfl⟩⟩
set_option maxRecDepth 20000 in
theorem ok_46 : xmOK 46 := ⟨wk_46, by decide +kernel, by decide +kernel, (fun h => by cases h), Or.inl ⟨rfl, rfl⟩⟩
set_option maxRecDepth 20000 in
theorem ok_47 : xmOK 47 := ⟨wk_47, by decide +kernel, by decide +kernel, (fun h => by cases h), Or.inr (Or.inr (Or.inr (Or.inl ⟨rfl, rfl⟩)))⟩
set_option maxRecDepth 20000 in
theorem ok_48 : xmOK 48 := ⟨wk_48, by decide +kernel, by decide +kernel, (fun h => by cases h), Or.inr (Or.inr (Or.inr (Or.inl ⟨rfl, rfl⟩)))⟩
set_option maxRecDepth 20000 in
theorem ok_49 : xmOK 49 := ⟨wk_49, by decide +kernel, by decide +kernel, (fun h => by cases h), Or.inl ⟨rfl, rfl⟩⟩
set_option maxRecDepth 20000 in
theorem ok_50 : xmOK 50 := ⟨wk_50, by decide +kernel, by decide +kernel, (fun h => by cases h), Or.inl ⟨rfl, rfl⟩⟩
set_option maxRecDepth 20000 in
theorem ok_51 : xmOK 51 := ⟨wk_51, by decide +kernel, by decide +kernel, (fun h => by cases h), Or.inr (Or.inl ⟨rfl, rfl⟩)⟩
set_option maxRecDepth 20000 in
theorem ok_52 : xmOK 52 := ⟨wk_52, by decide +kernel, by decide +kernel, fun _ => rfl, Or.inl ⟨rfl, rfl⟩⟩
set_option maxRecDepth 20000 in
theorem ok_53 : xmOK 53 := ⟨wk_53, by decide +kernel, by decide +kernel, (fun h => by cases h), Or.inl ⟨rfl, rfl⟩⟩
set_option maxRecDepth 20000 in
theorem ok_54 : xmOK 54 := ⟨wk_54, by decide +kernel, by decide +kernel, (fun h => by cases h), Or.inr (Or.inl ⟨rfl, rfl⟩)⟩
set_option maxRecDepth 20000 in
theorem ok_55 : xmOK 55 := ⟨wk_55, by decide +kernel, by decide +kernel, fun _ => rfl, Or.inl ⟨rfl, rfl⟩⟩
set_option maxRecDepth 20000 in
theorem ok_56 : xmOK 56 := ⟨wk_56, by decide +kernel, by decide +kernel, (fun h => by cases h), Or.inr (Or.inr (Or.inl ⟨rfl, rfl⟩))⟩
set_option maxRecDepth 20000 in
theorem ok_57 : xmOK 57 := ⟨wk_57, by decide +kernel, by decide +kernel, (fun h => by cases h), Or.inr (Or.inl ⟨rfl, rfl⟩)⟩
set_option maxRecDepth 20000 in
theorem ok_58 : xmOK 58 := ⟨wk_58, by decide +kernel, by decide +kernel, (fun h => by cases h), Or.inr (Or.inl ⟨rfl, rfl⟩)⟩
set_option maxRecDepth 20000 in
theorem ok_59 : xmOK 59 := ⟨wk_59, by decide +kernel, by decide +kernel, (fun h => by cases h), Or.inr (Or.inr (Or.inl ⟨rfl, rfl⟩))⟩
set_option maxRecDepth 20000 in
theorem ok_60 : xmOK 60 := ⟨wk_60, by decide +kernel, by decide +kernel, (fun h => by cases h), Or.inr (Or.inr (Or.inl ⟨rfl, rfl⟩))⟩
set_option maxRecDepth 20000 in
theorem ok_61 : xmOK 61 := ⟨wk_61, by decide +kernel, by decide +kernel, (fun h => by cases h), Or.inl ⟨rfl, rfl⟩⟩
set_option maxRecDepth 20000 in
theorem ok_62 : xmOK 62 := ⟨wk_62, by decide +kernel, by decide +kernel, (fun h => by cases h), Or.inr (Or.inr (Or.inl ⟨rfl, rfl⟩))⟩
set_option maxRecDepth 20000 in
theorem ok_63 : xmOK 63 := ⟨wk_63, by decide +kernel, by decide +kernel, (fun h => by cases h), Or.inr (Or.inr (Or.inl ⟨rfl, rfl⟩))⟩
set_option maxRecDepth 20000 in
theorem ok_64 : xmOK 64 := ⟨wk_64, by decide +kernel, by decide +kernel, (fun h => by cases h), Or.inr (Or.inr (Or.inl ⟨rfl, rfl⟩))⟩
set_option maxRecDepth 20000 in
theorem ok_65 : xmOK 65 := ⟨wk_65, by decide +kernel, by decide +kernel, (fun h => by cases h), Or.inr (Or.inl ⟨rfl, rfl⟩)⟩
set_option maxRecDepth 20000 in
theorem ok_66 : xmOK 66 := ⟨wk_66, by decide +kernel, by decide +kernel, (fun h => by cases h), Or.inr (Or.inr (Or.inl ⟨rfl, rfl⟩))⟩
set_option maxRecDepth 20000 in
theorem ok_67 : xmOK 67 := ⟨wk_67, by decide +kernel, by decide +kernel, (fun h => by cases h), Or.inr (Or.inr (Or.inl ⟨rfl, rfl⟩))⟩
set_option maxRecDepth 20000 in
theorem ok_68 : xmOK 68 := ⟨wk_68, by decide +kernel, by decide +kernel, (fun h => by cases h), Or.inr (Or.inr (Or.inl ⟨rfl, rfl⟩))⟩
set_option maxRecDepth 20000 in
theorem ok_69 : xmOK 69 := ⟨wk_69, by decide +kernel, by decide +kernel, (fun h => by cases h), Or.inr (Or.inr (Or.inl ⟨rfl, rfl⟩))⟩
set_option maxRecDepth 20000 in
theorem ok_70 : xmOK 70 := ⟨wk_70, by decide +kernel, by decide +kernel, (fun h => by cases h), Or.inr (Or.inr (Or.inl ⟨rfl, rfl⟩))⟩
set_option maxRecDepth 20000 in
theorem ok_71 : xmOK 71 := ⟨wk_71, by decide +kernel, by decide +kernel, (fun h => by cases h), Or.inr (Or.inr (Or.inl ⟨rfl, rfl⟩))⟩
set_option maxRecDepth 20000 in
theorem ok_72 : xmOK 72 := ⟨wk_72, by decide +kernel, by decide +kernel, fun _ => rfl, Or.inl ⟨rfl, rfl⟩⟩
set_option maxRecDepth 20000 in
theorem ok_73 : xmOK 73 := ⟨wk_73, by decide +kernel, by decide +kernel, (fun h => by cases h), Or.inr (Or.inr (Or.inl ⟨rfl, rfl⟩))⟩
set_option maxRecDepth 20000 in
theorem ok_74 : xmOK 74 := ⟨wk_74, by decide +kernel, by decide +kernel, (fun h => by cases h), Or.inr (Or.inr (Or.inl ⟨rfl, rfl⟩))⟩
set_option maxRecDepth 20000 in
theorem ok_75 : xmOK 75 := ⟨wk_75, by decide +kernel, by decide +kernel, (fun h => by cases h), Or.inr (Or.inl ⟨rfl, rfl⟩)⟩
set_option maxRecDepth 20000 in
theorem ok_76 : xmOK 76 := ⟨wk_76, by decide +kernel, by decide +kernel, (fun h => by cases h), Or.inr (Or.inl ⟨rfl, rfl⟩)⟩
set_option maxRecDepth 20000 in
theorem ok_77 : xmOK 77 := ⟨wk_77, by decide +kernel, by decide +kernel, (fun h => by cases h), Or.inr (Or.inl ⟨rfl, rfl⟩)⟩
set_option maxRecDepth 20000 in
theorem ok_78 : xmOK 78 := ⟨wk_78, by decide +kernel, by decide +kernel, (fun h => by cases h), Or.inr (Or.inl ⟨rfl, rfl⟩)⟩
set_option maxRecDepth 20000 in
theorem ok_79 : xmOK 79 := ⟨wk_79, by decide +kernel, by decide +kernel, (fun h => by cases h), Or.inr (Or.inl ⟨rfl, rfl⟩)⟩
set_option maxRecDepth 20000 in
theorem ok_80 : xmOK 80 := ⟨wk_80, by decide +kernel, by decide +kernel, fun _ => rfl, Or.inl ⟨rfl, rfl⟩⟩
set_option maxRecDepth 20000 in
theorem ok_81 : xmOK 81 := ⟨wk_81, by decide +kernel, by decide +kernel, (fun h => by cases h), Or.inl ⟨rfl, rfl⟩⟩
set_option maxRecDepth 20000 in
theorem ok_82 : xmOK 82 := ⟨wk_82, by decide +kernel, by decide +kernel, (fun h => by cases h), Or.inr (Or.inr (Or.inl ⟨rfl, rfl⟩))⟩
set_option maxRecDepth 20000 in
theorem ok_83 : xmOK 83 := ⟨wk_83, by decide +kernel, by decide +kernel, (fun h => by cases h), Or.inr (Or.inr (Or.inl ⟨rfl, rfl⟩))⟩
set_option maxRecDepth 20000 in
theorem ok_84 : xmOK 84 := ⟨wk_84, by decide +kernel, by decide +kernel, (fun h => by cases h), Or.inr (Or.inl ⟨rfl, rfl⟩)⟩
set_option maxRecDepth 20000 in
theorem ok_85 : xmOK 85 := ⟨wk_85, by decide +kernel, by decide +kernel, (fun h => by cases h), Or.inr (Or.inl ⟨rfl, rfl⟩)⟩
set_option maxRecDepth 20000 in
theorem ok_86 : xmOK 86 := ⟨wk_86, by decide +kernel, by decide +kernel, (fun h => by cases h), Or.inr (Or.inl ⟨rfl, rfl⟩)⟩
set_option maxRecDepth 20000 in
theorem ok_87 : xmOK 87 := ⟨wk_87, by decide +kernel, by decide +kernel, (fun h => by cases h), Or.inl ⟨rfl, rfl⟩⟩
set_option maxRecDepth 20000 in
theorem ok_88 : xmOK 88 := ⟨wk_88, by decide +kernel, by decide +kernel, (fun h => by cases h), Or.inl ⟨rfl, rfl⟩⟩
set_option maxRecDepth 20000 in
theorem ok_89 : xmOK 89 := ⟨wk_89, by decide +kernel, by decide +kernel, (fun h => by cases h), Or.inl ⟨rfl, rfl⟩⟩
set_option maxRecDepth 20000 in
theorem ok_90 : xmOK 90 := ⟨wk_90, by decide +kernel, by decide +kernel, (fun h => by cases h), Or.inl ⟨rfl, rfl⟩⟩
set_option maxRecDepth 20000 in
theorem ok_91 : xmOK 91 := ⟨wk_91, by decide +kernel, by decide +kernel, (fun h => by cases h), Or.inl ⟨rfl, rfl⟩⟩
set_option maxRecDepth 20000 in
theorem ok_92 : xmOK 92 := ⟨wk_92, by decide +kernel, by decide +kernel, (fun h => by cases h), Or.inl ⟨rfl, rfl⟩⟩
set_option maxRecDepth 20000 in
theorem ok_93 : xmOK 93 := ⟨wk_93, by decide +kernel, by decide +kernel, (fun h => by cases h), Or.inr (Or.inl ⟨rfl, rfl⟩)⟩
set_option maxRecDepth 20000 in
theorem ok_94 : xmOK 94 := ⟨wk_94, by decide +kernel, by decide +kernel, (fun h => by cases h), Or.inr (Or.inl ⟨rfl, rfl⟩)⟩
set_option maxRecDepth 20000 in
theorem ok_95 : xmOK 95 := ⟨wk_95, by decide +kernel, by decide +kernel, (fun h => by cases h), Or.inr (Or.inl ⟨rfl, rfl⟩)⟩
set_option maxRecDepth 20000 in
theorem ok_96 : xmOK 96 := ⟨wk_96, by decide +kernel, by decide +kernel, (fun h => by cases h), Or.inr (Or.inl ⟨rfl, rfl⟩)⟩
set_option maxRecDepth 20000 in
theorem ok_97 : xmOK 97 := ⟨wk_97, by decide +kernel, by decide +kernel, (fun h => by cases h), Or.inr (Or.inl ⟨rfl, rfl⟩)⟩
set_option maxRecDepth 20000 in
theorem ok_98 : xmOK 98 := ⟨wk_98, by decide +kernel, by decide +kernel, (fun h => by cases h), Or.inr (Or.inl ⟨rfl, rfl⟩)⟩
set_option maxRecDepth 20000 in
theorem ok_99 : xmOK 99 := ⟨wk_99, by decide +kernel, by decide +kernel, (fun h => by cases h), Or.inr (Or.inr (Or.inl ⟨rfl, rfl⟩))⟩
set_option maxRecDepth 20000 in
theorem ok_100 : xmOK 100 := ⟨wk_100, by decide +kernel, by decide +kernel, (fun h => by cases h), Or.inr (Or.inr (Or.inl ⟨rfl, rfl⟩))⟩
set_option maxRecDepth 20000 in
theorem ok_101 : xmOK 101 := ⟨wk_101, by decide +kernel, by decide +kernel, (fun h => by cases h), Or.inl ⟨rfl, rfl⟩⟩
set_option maxRecDepth 20000 in
theorem ok_102 : xmOK 102 := ⟨wk_102, by decide +kernel, by decide +kernel, (fun h => by cases h), Or.inr (Or.inl ⟨rfl, rfl⟩)⟩
set_option maxRecDepth 20000 in
theorem ok_103 : xmOK 103 := ⟨wk_103, by decide +kernel, by decide +kernel, (fun h => by cases h), Or.inr (Or.inl ⟨rfl, rfl⟩)⟩
set_option maxRecDepth 20000 in
theorem ok_104 : xmOK 104 := ⟨wk_104, by decide +kernel, by decide +kernel, (fun h => by cases h), Or.inr (Or.inl ⟨rfl, rfl⟩)⟩
set_option maxRecDepth 20000 in
theorem ok_105 : xmOK 105 := ⟨wk_105, by decide +kernel, by decide +kernel, (fun h => by cases h), Or.inr (Or.inl ⟨rfl, rfl⟩)⟩
set_option maxRecDepth 20000 in
theorem ok_106 : xmOK 106 := ⟨wk_106, by decide +kernel, by decide +kernel, (fun h => by cases h), Or.inr (Or.inl ⟨rfl, rfl⟩)⟩
set_option maxRecDepth 20000 in
theorem ok_107 : xmOK 107 := ⟨wk_107, by decide +kernel, by decide +kernel, (fun h => by cases h), Or.inr (Or.inr (Or.inl ⟨rfl, rfl⟩))⟩
set_option maxRecDepth 20000 in
theorem ok_108 : xmOK 108 := ⟨wk_108, by decide +kernel, by decide +kernel, (fun h => by cases h), Or.inr (Or.inl ⟨rfl, rfl⟩)⟩
set_option maxRecDepth 20000 in
theorem ok_109 : xmOK 109 := ⟨wk_109, by decide +kernel, by decide +kernel, (fun h => by cases h), Or.inr (Or.inl ⟨rfl, rfl⟩)⟩
set_option maxRecDepth 20000 in
theorem ok_110 : xmOK 110 := ⟨wk_110, by decide +kernel, by decide +kernel, fun _ => rfl, Or.inl ⟨rfl, rfl⟩⟩
set_option maxRecDepth 20000 in
theorem ok_111 : xmOK 111 := ⟨wk_111, by decide +kernel, by decide +kernel, (fun h => by cases h), Or.inr (Or.inl ⟨rfl, rfl⟩)⟩
set_option maxRecDepth 20000 in
theorem ok_112 : xmOK 112 := ⟨wk_112, by decide +kernel, by decide +kernel, (fun h => by cases h), Or.inr (Or.inl ⟨rfl, rfl⟩)⟩
set_option maxRecDepth 20000 in
theorem ok_113 : xmOK 113 := ⟨wk_113, by decide +kernel, by decide +kernel, (fun h => by cases h), Or.inr (Or.inl ⟨rfl, rfl⟩)⟩
set_option maxRecDepth 20000 in
theorem ok_114 : xmOK 114 := ⟨wk_114, by decide +kernel, by decide +kernel, (fun h => by cases h), Or.inl ⟨rfl, rfl⟩⟩
set_option maxRecDepth 20000 in
theorem ok_115 : xmOK 115 := ⟨wk_115, by decide +kernel, by decide +kernel, (fun h => by cases h), Or.inl ⟨rfl, rfl⟩⟩
set_option maxRecDepth 20000 in
theorem ok_116 : xmOK 116 := ⟨wk_116, by decide +kernel, by decide +kernel, (fun h => by cases h), Or.inr (Or.inr (Or.inl ⟨rfl, rfl⟩))⟩
set_option maxRecDepth 20000 in
theorem ok_117 : xmOK 117 := ⟨wk_117, by decide +kernel, by decide +kernel, (fun h => by cases h), Or.inl ⟨rfl, rfl⟩⟩
set_option maxRecDepth 20000 in
theorem ok_118 : xmOK 118 := ⟨wk_118, by decide +kernel, by decide +kernel, (fun h => by cases h), Or.inl ⟨rfl, rfl⟩⟩
set_option maxRecDepth 20000 in
theorem ok_119 : xmOK 119 := ⟨wk_119, by decide +kernel, by decide +kernel, (fun h => by cases h), Or.inl ⟨rfl, rfl⟩⟩
set_option maxRecDepth 20000 in
theorem ok_120 : xmOK 120 := ⟨wk_120, by decide +kernel, by decide +kernel, (fun h => by cases h), Or.inr (Or.inr (Or.inl ⟨rfl, rfl⟩))⟩
set_option maxRecDepth 20000 in
theorem ok_121 : xmOK 121 := ⟨wk_121, by decide +kernel, by decide +kernel, (fun h => by cases h), Or.inl ⟨rfl, rfl⟩⟩
set_option maxRecDepth 20000 in
theorem ok_122 : xmOK 122 := ⟨wk_122, by decide +kernel, by decide +kernel, (fun h => by cases h), Or.inr (Or.inl ⟨rfl, rfl⟩)⟩
set_option maxRecDepth 20000 in
theorem ok_123 : xmOK 123 := ⟨wk_123, by decide +kernel, by decide +kernel, (fun h => by cases h), Or.inr (Or.inl ⟨rfl, rfl⟩)⟩
set_option maxRecDepth 20000 in
theorem ok_124 : xmOK 124 := ⟨wk_124, by decide +kernel, by decide +kernel, (fun h => by cases h), Or.inr (Or.inr (Or.inl ⟨rfl, rfl⟩))⟩
set_option maxRecDepth 20000 in
theorem ok_125 : xmOK 125 := ⟨wk_125, by decide +kernel, by decide +kernel, (fun h => by cases h), Or.inr (Or.inl ⟨rfl, rfl⟩)⟩
set_option maxRecDepth 20000 in
theorem ok_126 : xmOK 126 := ⟨wk_126, by decide +kernel, by decide +kernel, (fun h => by cases h), Or.inr (Or.inl ⟨rfl, rfl⟩)⟩
set_option maxRecDepth 20000 in
theorem ok_127 : xmOK 127 := ⟨wk_127, by decide +kernel, by decide +kernel, (fun h => by cases h), Or.inr (Or.inl ⟨rfl, rfl⟩)⟩
set_option maxRecDepth 20000 in
theorem ok_128 : xmOK 128 := ⟨wk_128, by decide +kernel, by decide +kernel, (fun h => by cases h), Or.inr (Or.inl ⟨rfl, rfl⟩)⟩
set_option maxRecDepth 20000 in
theorem ok_129 : xmOK 129 := ⟨wk_129, by decide +kernel, by decide +kernel, (fun h => by cases h), Or.inr (Or.inr (Or.inl ⟨rfl, rfl⟩))⟩
set_option maxRecDepth 20000 in
theorem ok_130 : xmOK 130 := ⟨wk_130, by decide +kernel, by decide +kernel, (fun h => by cases h), Or.inr (Or.inl ⟨rfl, rfl⟩)⟩
set_option maxRecDepth 20000 in
theorem ok_131 : xmOK 131 := ⟨wk_131, by decide +kernel, by decide +kernel, (fun h => by cases h), Or.inr (Or.inl ⟨rfl, rfl⟩)⟩
set_option maxRecDepth 20000 in
theorem ok_132 : xmOK 132 := ⟨wk_132, by decide +kernel, by decide +kernel, fun _ => rfl, Or.inl ⟨rfl, rfl⟩⟩
set_option maxRecDepth 20000 in
theorem ok_133 : xmOK 133 := ⟨wk_133, by decide +kernel, by decide +kernel, (fun h => by cases h), Or.inr (Or.inl ⟨rfl, rfl⟩)⟩
set_option maxRecDepth 20000 in
theorem ok_134 : xmOK 134 := ⟨wk_134, by decide +kernel, by decide +kernel, (fun h => by cases h), Or.inr (Or.inl ⟨rfl, rfl⟩)⟩
set_option maxRecDepth 20000 in
theorem ok_135 : xmOK 135 := ⟨wk_135, by decide +kernel, by decide +kernel, (fun h => by cases h), Or.inr (Or.inl ⟨rfl, rfl⟩)⟩
set_option maxRecDepth 20000 in
theorem ok_136 : xmOK 136 := ⟨wk_136, by decide +kernel, by decide +kernel, (fun h => by cases h), Or.inr (Or.inr (Or.inr (Or.inl ⟨rfl, rfl⟩)))⟩
set_option maxRecDepth 20000 in
theorem ok_137 : xmOK 137 := ⟨wk_137, by decide +kernel, by decide +kernel, (fun h => by cases h), Or.inr (Or.inl ⟨rfl, rfl⟩)⟩
set_option maxRecDepth 20000 in
theorem ok_138 : xmOK 138 := ⟨wk_138, by decide +kernel, by decide +kernel, (fun h => by cases h), Or.inr (Or.inl ⟨rfl, rfl⟩)⟩
set_option maxRecDepth 20000 in
theorem ok_139 : xmOK 139 := ⟨wk_139, by decide +kernel, by decide +kernel, (fun h => by cases h), Or.inr (Or.inl ⟨rfl, rfl⟩)⟩
set_option maxRecDepth 20000 in
theorem ok_140 : xmOK 140 := ⟨wk_140, by decide +kernel, by decide +kernel, (fun h => by cases h), Or.inr (Or.inl ⟨rfl, rfl⟩)⟩
set_option maxRecDepth 20000 in
theorem ok_141 : xmOK 141 := ⟨wk_141, by decide +kernel, by decide +kernel, (fun h => by cases h), Or.inr (Or.inl ⟨rfl, rfl⟩)⟩
set_option maxRecDepth 20000 in
theorem ok_142 : xmOK 142 := ⟨wk_142, by decide +kernel, by decide +kernel, (fun h => by cases h), Or.inr (Or.inl ⟨rfl, rfl⟩)⟩
set_option maxRecDepth 20000 in
theorem ok_143 : xmOK 143 := ⟨wk_143, by decide +kernel, by decide +kernel, (fun h => by cases h), Or.inr (Or.inl ⟨rfl, rfl⟩)⟩
set_option maxRecDepth 20000 in
theorem ok_144 : xmOK 144 := ⟨wk_144, by decide +kernel, by decide +kernel, (fun h => by cases h), Or.inr (Or.inl ⟨rfl, rfl⟩)⟩
set_option maxRecDepth 20000 in
theorem ok_145 : xmOK 145 := ⟨wk_145, by decide +kernel, by decide +kernel, (fun h => by cases h), Or.inr (Or.inl ⟨rfl, rfl⟩)⟩
set_option maxRecDepth 20000 in
theorem ok_146 : xmOK 146 := ⟨wk_146, by decide +kernel, by decide +kernel, (fun h => by cases h), Or.inr (Or.inl ⟨rfl, rfl⟩)⟩
set_option maxRecDepth 20000 in
theorem ok_147 : xmOK 147 := ⟨wk_147, by decide +kernel, by decide +kernel, (fun h => by cases h), Or.inr (Or.inl ⟨rfl, rfl⟩)⟩
set_option maxRecDepth 20000 in
theorem ok_148 : xmOK 148 := ⟨wk_148, by decide +kernel, by decide +kernel, (fun h => by cases h), Or.inr (Or.inl ⟨rfl, rfl⟩)⟩
set_option maxRecDepth 20000 in
theorem ok_149 : xmOK 149 := ⟨wk_149, by decide +kernel, by decide +kernel, (fun h => by cases h), Or.inr (Or.inl ⟨rfl, rfl⟩)⟩

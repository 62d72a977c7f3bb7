/-! the table of the methods is sound -/
theorem okm_0 : okMb 0 = true := by decide +kernel
theorem okA_1 : ∀ a, a < 1 → okMb a = true := lt_s okA_0 okm_0
theorem okm_1 : okMb 1 = true := by decide +kernel
theorem okA_2 : ∀ a, a < 2 → okMb a = true := lt_s okA_1 okm_1
theorem okm_2 : okMb 2 = true := by decide +kernel
theorem okA_3 : ∀ a, a < 3 → okMb a = true := lt_s okA_2 okm_2
theorem okm_3 : okMb 3 = true := by decide +kernel
theorem okA_4 : ∀ a, a < 4 → okMb a = true := lt_s okA_3 okm_3
theorem okm_4 : okMb 4 = true := by decide +kernel
theorem okA_5 : ∀ a, a < 5 → okMb a = true := lt_s okA_4 okm_4
theorem okm_5 : okMb 5 = true := by decide +kernel
theorem okA_6 : ∀ a, a < 6 → okMb a = true := lt_s okA_5 okm_5
theorem okm_6 : okMb 6 = true := by decide +kernel
theorem okA_7 : ∀ a, a < 7 → okMb a = true := lt_s okA_6 okm_6
theorem okm_7 : okMb 7 = true := by decide +kernel
theorem okA_8 : ∀ a, a < 8 → okMb a = true := lt_s okA_7 okm_7
theorem okm_8 : okMb 8 = true := by decide +kernel
theorem okA_9 : ∀ a, a < 9 → okMb a = true := lt_s okA_8 okm_8
theorem okm_9 : okMb 9 = true := by decide +kernel
theorem okA_10 : ∀ a, a < 10 → okMb a = true := lt_s okA_9 okm_9
theorem okm_10 : okMb 10 = true := by decide +kernel
theorem okA_11 : ∀ a, a < 11 → okMb a = true := lt_s okA_10 okm_10
theorem okm_11 : okMb 11 = true := by decide +kernel
theorem okA_12 : ∀ a, a < 12 → okMb a = true := lt_s okA_11 okm_11
theorem okm_12 : okMb 12 = true := by decide +kernel
theorem okA_13 : ∀ a, a < 13 → okMb a = true := lt_s okA_12 okm_12
theorem okm_13 : okMb 13 = true := by decide +kernel
theorem okA_14 : ∀ a, a < 14 → okMb a = true := lt_s okA_13 okm_13
theorem okm_14 : okMb 14 = true := by decide +kernel
theorem okA_15 : ∀ a, a < 15 → okMb a = true := lt_s okA_14 okm_14
theorem okm_15 : okMb 15 = true := by decide +kernel
theorem okA_16 : ∀ a, a < 16 → okMb a = true := lt_s okA_15 okm_15
theorem okm_16 : okMb 16 = true := by decide +kernel
theorem okA_17 : ∀ a, a < 17 → okMb a = true := lt_s okA_16 okm_16
theorem okm_17 : okMb 17 = true := by decide +kernel
theorem okA_18 : ∀ a, a < 18 → okMb a = true := lt_s okA_17 okm_17
theorem okm_18 : okMb 18 = true := by decide +kernel
theorem okA_19 : ∀ a, a < 19 → okMb a = true := lt_s okA_18 okm_18
theorem okm_19 : okMb 19 = true := by decide +kernel
theorem okA_20 : ∀ a, a < 20 → okMb a = true := lt_s okA_19 okm_19
theorem okm_20 : okMb 20 = true := by decide +kernel
theorem okA_21 : ∀ a, a < 21 → okMb a = true := lt_s okA_20 okm_20
theorem okm_21 : okMb 21 = true := by decide +kernel
theorem okA_22 : ∀ a, a < 22 → okMb a = true := lt_s okA_21 okm_21
theorem okm_22 : okMb 22 = true := by decide +kernel
theorem okA_23 : ∀ a, a < 23 → okMb a = true := lt_s okA_22 okm_22
theorem okm_23 : okMb 23 = true := by decide +kernel
theorem okA_24 : ∀ a, a < 24 → okMb a = true := lt_s okA_23 okm_23
theorem okm_24 : okMb 24 = true := by decide +kernel
theorem okA_25 : ∀ a, a < 25 → okMb a = true := lt_s okA_24 okm_24
theorem okm_25 : okMb 25 = true := by decide +kernel
theorem okA_26 : ∀ a, a < 26 → okMb a = true := lt_s okA_25 okm_25
theorem okm_26 : okMb 26 = true := by decide +kernel
theorem okA_27 : ∀ a, a < 27 → okMb a = true := lt_s okA_26 okm_26
theorem okm_27 : okMb 27 = true := by decide +kernel
theorem okA_28 : ∀ a, a < 28 → okMb a = true := lt_s okA_27 okm_27
theorem okm_28 : okMb 28 = true := by decide +kernel
theorem okA_29 : ∀ a, a < 29 → okMb a = true := lt_s okA_28 okm_28
theorem okm_29 : okMb 29 = true := by decide +kernel
theorem okA_30 : ∀ a, a < 30 → okMb a = true := lt_s okA_29 okm_29
theorem okm_30 : okMb 30 = true := by decide +kernel
theorem okA_31 : ∀ a, a < 31 → okMb a = true := lt_s okA_30 okm_30
theorem okm_31 : okMb 31 = true := by decide +kernel
theorem okA_32 : ∀ a, a < 32 → okMb a = true := lt_s okA_31 okm_31
theorem okm_32 : okMb 32 = true := by decide +kernel
theorem okA_33 : ∀ a, a < 33 → okMb a = true := lt_s okA_32 okm_32
theorem okm_33 : okMb 33 = true := by decide +kernel
theorem okA_34 : ∀ a, a < 34 → okMb a = true := lt_s okA_33 okm_33
theorem okm_34 : okMb 34 = true := by decide +kernel
theorem okA_35 : ∀ a, a < 35 → okMb a = true := lt_s okA_34 okm_34
theorem okm_35 : okMb 35 = true := by decide +kernel
theorem okA_36 : ∀ a, a < 36 → okMb a = true := lt_s okA_35 okm_35
theorem okm_36 : okMb 36 = true := by decide +kernel
theorem okA_37 : ∀ a, a < 37 → okMb a = true := lt_s okA_36 okm_36
theorem okm_37 : okMb 37 = true := by decide +kernel
theorem okA_38 : ∀ a, a < 38 → okMb a = true := lt_s okA_37 okm_37
theorem okm_38 : okMb 38 = true := by decide +kernel
theorem okA_39 : ∀ a, a < 39 → okMb a = true := lt_s okA_38 okm_38
theorem okm_39 : okMb 39 = true := by decide +kernel
theorem okA_40 : ∀ a, a < 40 → okMb a = true := lt_s okA_39 okm_39
theorem okm_40 : okMb 40 = true := by decide +kernel
theorem okA_41 : ∀ a, a < 41 → okMb a = true := lt_s okA_40 okm_40
theorem okm_41 : okMb 41 = true := by decide +kernel
theorem okA_42 : ∀ a, a < 42 → okMb a = true := lt_s okA_41 okm_41
theorem okm_42 : okMb 42 = true := by decide +kernel
theorem okA_43 : ∀ a, a < 43 → okMb a = true := lt_s okA_42 okm_42
theorem okm_43 : okMb 43 = true := by decide +kernel
theorem okA_44 : ∀ a, a < 44 → okMb a = true := lt_s okA_43 okm_43
theorem okm_44 : okMb 44 = true := by decide +kernel
theorem okA_45 : ∀ a, a < 45 → okMb a = true := lt_s okA_44 okm_44
theorem okm_45 : okMb 45 = true := by decide +kernel
theorem okA_46 : ∀ a, a < 46 → okMb a = true := lt_s okA_45 okm_45
theorem okm_46 : okMb 46 = true := by decide +kernel
theorem okA_47 : ∀ a, a < 47 → okMb a = true := lt_s okA_46 okm_46
theorem okm_47 : okMb 47 = true := by decide +kernel
theorem okA_48 : ∀ a, a < 48 → okMb a = true := lt_s okA_47 okm_47
theorem okm_48 : okMb 48 = true := by decide +kernel
theorem okA_49 : ∀ a, a < 49 → okMb a = true := lt_s okA_48 okm_48
theorem okm_49 : okMb 49 = true := by decide +kernel
theorem okA_50 : ∀ a, a < 50 → okMb a = true := lt_s okA_49 okm_49
theorem okm_50 : okMb 50 = true := by decide +kernel
theorem okA_51 : ∀ a, a < 51 → okMb a = true := lt_s okA_50 okm_50
theorem okm_51 : okMb 51 = true := by decide +kernel
theorem okA_52 : ∀ a, a < 52 → okMb a = true := lt_s okA_51 okm_51
theorem okm_52 : okMb 52 = true := by decide +kernel
theorem okA_53 : ∀ a, a < 53 → okMb a = true := lt_s okA_52 okm_52
theorem okm_53 : okMb 53 = true := by decide +kernel
theorem okA_54 : ∀ a, a < 54 → okMb a = true := lt_s okA_53 okm_53
theorem okm_54 : okMb 54 = true := by decide +kernel
theorem okA_55 : ∀ a, a < 55 → okMb a = true := lt_s okA_54 okm_54
theorem okm_55 : okMb 55 = true := by decide +kernel
theorem okA_56 : ∀ a, a < 56 → okMb a = true := lt_s okA_55 okm_55
theorem okm_56 : okMb 56 = true := by decide +kernel
theorem okA_57 : ∀ a, a < 57 → okMb a = true := lt_s okA_56 okm_56
theorem okm_57 : okMb 57 = true := by decide +kernel
theorem okA_58 : ∀ a, a < 58 → okMb a = true := lt_s okA_57 okm_57
theorem okm_58 : okMb 58 = true := by decide +kernel
theorem okA_59 : ∀ a, a < 59 → okMb a = true := lt_s okA_58 okm_58
theorem okm_59 : okMb 59 = true := by decide +kernel
theorem okA_60 : ∀ a, a < 60 → okMb a = true := lt_s okA_59 okm_59
theorem okm_60 : okMb 60 = true := by decide +kernel
theorem okA_61 : ∀ a, a < 61 → okMb a = true := lt_s okA_60 okm_60
theorem okm_61 : okMb 61 = true := by decide +kernel
theorem okA_62 : ∀ a, a < 62 → okMb a = true := lt_s okA_61 okm_61
theorem okm_62 : okMb 62 = true := by decide +kernel
theorem okA_63 : ∀ a, a < 63 → okMb a = true := lt_s okA_62 okm_62
theorem okm_63 : okMb 63 = true := by decide +kernel
theorem okA_64 : ∀ a, a < 64 → okMb a = true := lt_s okA_63 okm_63
theorem okm_64 : okMb 64 = true := by decide +kernel
theorem okA_65 : ∀ a, a < 65 → okMb a = true := lt_s okA_64 okm_64
theorem okm_65 : okMb 65 = true := by decide +kernel
theorem okA_66 : ∀ a, a < 66 → okMb a = true := lt_s okA_65 okm_65
theorem okm_66 : okMb 66 = true := by decide +kernel
theorem okA_67 : ∀ a, a < 67 → okMb a = true := lt_s okA_66 okm_66
theorem okm_67 : okMb 67 = true := by decide +kernel
theorem okA_68 : ∀ a, a < 68 → okMb a = true := lt_s okA_67 okm_67
theorem okm_68 : okMb 68 = true := by decide +kernel
theorem okA_69 : ∀ a, a < 69 → okMb a = true := lt_s okA_68 okm_68
theorem okm_69 : okMb 69 = true := by decide +kernel
theorem okA_70 : ∀ a, a < 70 → okMb a = true := lt_s okA_69 okm_69
theorem okm_70 : okMb 70 = true := by decide +kernel
theorem okA_71 : ∀ a, a < 71 → okMb a = true := lt_s okA_70 okm_70
theorem okm_71 : okMb 71 = true := by decide +kernel
theorem okA_72 : ∀ a, a < 72 → okMb a = true := lt_s okA_71 okm_71
theorem okm_72 : okMb 72 = true := by decide +kernel
theorem okA_73 : ∀ a, a < 73 → okMb a = true := lt_s okA_72 okm_72
theorem okm_73 : okMb 73 = true := by decide +kernel
theorem okA_74 : ∀ a, a < 74 → okMb a = true := lt_s okA_73 okm_73
theorem okm_74 : okMb 74 = true := by decide +kernel
theorem okA_75 : ∀ a, a < 75 → okMb a = true := lt_s okA_74 okm_74
theorem okm_75 : okMb 75 = true := by decide +kernel
theorem okA_76 : ∀ a, a < 76 → okMb a = true := lt_s okA_75 okm_75
theorem okm_76 : okMb 76 = true := by decide +kernel
theorem okA_77 : ∀ a, a < 77 → okMb a = true := lt_s okA_76 okm_76
theorem okm_77 : okMb 77 = true := by decide +kernel
theorem okA_78 : ∀ a, a < 78 → okMb a = true := lt_s okA_77 okm_77
theorem okm_78 : okMb 78 = true := by decide +kernel
theorem okA_79 : ∀ a, a < 79 → okMb a = true := lt_s okA_78 okm_78
theorem okm_79 : okMb 79 = true := by decide +kernel
theorem okA_80 : ∀ a, a < 80 → okMb a = true := lt_s okA_79 okm_79
theorem okm_80 : okMb 80 = true := by decide +kernel
theorem okA_81 : ∀ a, a < 81 → okMb a = true := lt_s okA_80 okm_80
theorem okm_81 : okMb 81 = true := by decide +kernel
theorem okA_82 : ∀ a, a < 82 → okMb a = true := lt_s okA_81 okm_81
theorem okm_82 : okMb 82 = true := by decide +kernel
theorem okA_83 : ∀ a, a < 83 → okMb a = true := lt_s okA_82 okm_82
theorem okm_83 : okMb 83 = true := by decide +kernel
theorem okA_84 : ∀ a, a < 84 → okMb a = true := lt_s okA_83 okm_83
theorem okm_84 : okMb 84 = true := by decide +kernel
theorem okA_85 : ∀ a, a < 85 → okMb a = true := lt_s okA_84 okm_84
theorem okm_85 : okMb 85 = true := by decide +kernel
theorem okA_86 : ∀ a, a < 86 → okMb a = true := lt_s okA_85 okm_85
theorem okm_86 : okMb 86 = true := by decide +kernel
theorem okA_87 : ∀ a, a < 87 → okMb a = true := lt_s okA_86 okm_86
theorem okm_87 : okMb 87 = true := by decide +kernel
theorem okA_88 : ∀ a, a < 88 → okMb a = true := lt_s okA_87 okm_87
theorem okm_88 : okMb 88 = true := by decide +kernel
theorem okA_89 : ∀ a, a < 89 → okMb a = true := lt_s okA_88 okm_88
theorem okm_89 : okMb 89 = true := by decide +kernel
theorem okA_90 : ∀ a, a < 90 → okMb a = true := lt_s okA_89 okm_89
theorem okm_90 : okMb 90 = true := by decide +kernel
theorem okA_91 : ∀ a, a < 91 → okMb a = true := lt_s okA_90 okm_90
theorem okm_91 : okMb 91 = true := by decide +kernel
theorem okA_92 : ∀ a, a < 92 → okMb a = true := lt_s okA_91 okm_91
theorem okm_92 : okMb 92 = true := by decide +kernel
theorem okA_93 : ∀ a, a < 93 → okMb a = true := lt_s okA_92 okm_92
theorem okm_93 : okMb 93 = true := by decide +kernel
theorem okA_94 : ∀ a, a < 94 → okMb a = true := lt_s okA_93 okm_93
theorem okm_94 : okMb 94 = true := by decide +kernel
theorem okA_95 : ∀ a, a < 95 → okMb a = true := lt_s okA_94 okm_94

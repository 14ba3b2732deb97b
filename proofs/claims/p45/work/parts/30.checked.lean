set_option maxRecDepth 1000000 in
theorem ck_0 : cdOk 0 = true := by decide +kernel
set_option maxRecDepth 1000000 in
theorem ck_1 : cdOk 1 = true := by decide +kernel
set_option maxRecDepth 1000000 in
theorem ck_2 : cdOk 2 = true := by decide +kernel
set_option maxRecDepth 1000000 in
theorem ck_3 : cdOk 3 = true := by decide +kernel
set_option maxRecDepth 1000000 in
theorem ck_4 : cdOk 4 = true := by decide +kernel
set_option maxRecDepth 1000000 in
theorem ck_5 : cdOk 5 = true := by decide +kernel
set_option maxRecDepth 1000000 in
theorem ck_6 : cdOk 6 = true := by decide +kernel
set_option maxRecDepth 1000000 in
theorem ck_7 : cdOk 7 = true := by decide +kernel
set_option maxRecDepth 1000000 in
theorem ck_8 : cdOk 8 = true := by decide +kernel
set_option maxRecDepth 1000000 in
theorem ck_9 : cdOk 9 = true := by decide +kernel
set_option maxRecDepth 1000000 in
theorem ck_10 : cdOk 10 = true := by decide +kernel
set_option maxRecDepth 1000000 in
theorem ck_11 : cdOk 11 = true := by decide +kernel
set_option maxRecDepth 1000000 in
theorem ck_12 : cdOk 12 = true := by decide +kernel
set_option maxRecDepth 1000000 in
theorem ck_13 : cdOk 13 = true := by decide +kernel
set_option maxRecDepth 1000000 in
theorem ck_14 : cdOk 14 = true := by decide +kernel
set_option maxRecDepth 1000000 in
theorem ck_15 : cdOk 15 = true := by decide +kernel
set_option maxRecDepth 1000000 in
theorem ck_16 : cdOk 16 = true := by decide +kernel
set_option maxRecDepth 1000000 in
theorem ck_17 : cdOk 17 = true := by decide +kernel
set_option maxRecDepth 1000000 in
theorem ck_18 : cdOk 18 = true := by decide +kernel
set_option maxRecDepth 1000000 in
theorem ck_19 : cdOk 19 = true := by decide +kernel
set_option maxRecDepth 1000000 in
theorem ck_20 : cdOk 20 = true := by decide +kernel
set_option maxRecDepth 1000000 in
theorem ck_21 : cdOk 21 = true := by decide +kernel
set_option maxRecDepth 1000000 in
theorem ck_22 : cdOk 22 = true := by decide +kernel
set_option maxRecDepth 1000000 in
theorem ck_23 : cdOk 23 = true := by decide +kernel
set_option maxRecDepth 1000000 in
theorem ck_24 : cdOk 24 = true := by decide +kernel
set_option maxRecDepth 1000000 in
theorem ck_25 : cdOk 25 = true := by decide +kernel
set_option maxRecDepth 1000000 in
theorem ck_26 : cdOk 26 = true := by decide +kernel
set_option maxRecDepth 1000000 in
theorem ck_27 : cdOk 27 = true := by decide +kernel
set_option maxRecDepth 1000000 in
theorem ck_28 : cdOk 28 = true := by decide +kernel
set_option maxRecDepth 1000000 in
theorem ck_29 : cdOk 29 = true := by decide +kernel
set_option maxRecDepth 1000000 in
theorem ck_30 : cdOk 30 = true := by decide +kernel
set_option maxRecDepth 1000000 in
theorem ck_31 : cdOk 31 = true := by decide +kernel
set_option maxRecDepth 1000000 in
theorem ck_32 : cdOk 32 = true := by decide +kernel
set_option maxRecDepth 1000000 in
theorem ck_33 : cdOk 33 = true := by decide +kernel
set_option maxRecDepth 1000000 in
theorem ck_34 : cdOk 34 = true := by decide +kernel
set_option maxRecDepth 1000000 in
theorem ck_35 : cdOk 35 = true := by decide +kernel
set_option maxRecDepth 1000000 in
theorem ck_36 : cdOk 36 = true := by decide +kernel
set_option maxRecDepth 1000000 in
theorem ck_37 : cdOk 37 = true := by decide +kernel
set_option maxRecDepth 1000000 in
theorem ck_38 : cdOk 38 = true := by decide +kernel
set_option maxRecDepth 1000000 in
theorem ck_39 : cdOk 39 = true := by decide +kernel
set_option maxRecDepth 1000000 in
theorem ck_40 : cdOk 40 = true := by decide +kernel
set_option maxRecDepth 1000000 in
theorem ck_41 : cdOk 41 = true := by decide +kernel
set_option maxRecDepth 1000000 in
theorem ck_42 : cdOk 42 = true := by decide +kernel
set_option maxRecDepth 1000000 in
theorem ck_43 : cdOk 43 = true := by decide +kernel
set_option maxRecDepth 1000000 in
theorem ck_44 : cdOk 44 = true := by decide +kernel
set_option maxRecDepth 1000000 in
theorem ck_45 : cdOk 45 = true := by decide +kernel
set_option maxRecDepth 1000000 in
theorem ck_46 : cdOk 46 = true := by decide +kernel
set_option maxRecDepth 1000000 in
theorem ck_47 : cdOk 47 = true := by decide +kernel
set_option maxRecDepth 1000000 in
theorem ck_48 : cdOk 48 = true := by decide +kernel
set_option maxRecDepth 1000000 in
theorem ck_49 : cdOk 49 = true := by decide +kernel
set_option maxRecDepth 1000000 in
theorem ck_50 : cdOk 50 = true := by decide +kernel
set_option maxRecDepth 1000000 in
theorem ck_51 : cdOk 51 = true := by decide +kernel
set_option maxRecDepth 1000000 in
theorem ck_52 : cdOk 52 = true := by decide +kernel
set_option maxRecDepth 1000000 in
theorem ck_53 : cdOk 53 = true := by decide +kernel
set_option maxRecDepth 1000000 in
theorem ck_54 : cdOk 54 = true := by decide +kernel
set_option maxRecDepth 1000000 in
theorem ck_55 : cdOk 55 = true := by decide +kernel
set_option maxRecDepth 1000000 in
theorem ck_56 : cdOk 56 = true := by decide +kernel
set_option maxRecDepth 1000000 in
theorem ck_57 : cdOk 57 = true := by decide +kernel
set_option maxRecDepth 1000000 in
theorem ck_58 : cdOk 58 = true := by decide +kernel
set_option maxRecDepth 1000000 in
theorem ck_59 : cdOk 59 = true := by decide +kernel
set_option maxRecDepth 1000000 in
theorem ck_60 : cdOk 60 = true := by decide +kernel
set_option maxRecDepth 1000000 in
theorem ck_61 : cdOk 61 = true := by decide +kernel
set_option maxRecDepth 1000000 in
theorem ck_62 : cdOk 62 = true := by decide +kernel
set_option maxRecDepth 1000000 in
theorem ck_63 : cdOk 63 = true := by decide +kernel
set_option maxRecDepth 1000000 in
theorem ck_64 : cdOk 64 = true := by decide +kernel
set_option maxRecDepth 1000000 in
theorem ck_65 : cdOk 65 = true := by decide +kernel
set_option maxRecDepth 1000000 in
theorem ck_66 : cdOk 66 = true := by decide +kernel
set_option maxRecDepth 1000000 in
theorem ck_67 : cdOk 67 = true := by decide +kernel
set_option maxRecDepth 1000000 in
theorem ck_68 : cdOk 68 = true := by decide +kernel
set_option maxRecDepth 1000000 in
theorem ck_69 : cdOk 69 = true := by decide +kernel
set_option maxRecDepth 1000000 in
theorem ck_70 : cdOk 70 = true := by decide +kernel
set_option maxRecDepth 1000000 in
theorem ck_71 : cdOk 71 = true := by decide +kernel
set_option maxRecDepth 1000000 in
theorem ck_72 : cdOk 72 = true := by decide +kernel
set_option maxRecDepth 1000000 in
theorem ck_73 : cdOk 73 = true := by decide +kernel
set_option maxRecDepth 1000000 in
theorem ck_74 : cdOk 74 = true := by decide +kernel
set_option maxRecDepth 1000000 in
theorem ck_75 : cdOk 75 = true := by decide +kernel
set_option maxRecDepth 1000000 in
theorem ck_76 : cdOk 76 = true := by decide +kernel
set_option maxRecDepth 1000000 in
theorem ck_77 : cdOk 77 = true := by decide +kernel
set_option maxRecDepth 1000000 in
theorem ck_78 : cdOk 78 = true := by decide +kernel
set_option maxRecDepth 1000000 in
theorem ck_79 : cdOk 79 = true := by decide +kernel
set_option maxRecDepth 1000000 in
theorem ck_80 : cdOk 80 = true := by decide +kernel
set_option maxRecDepth 1000000 in
theorem ck_81 : cdOk 81 = true := by decide +kernel
set_option maxRecDepth 1000000 in
theorem ck_82 : cdOk 82 = true := by decide +kernel
set_option maxRecDepth 1000000 in
theorem ck_83 : cdOk 83 = true := by decide +kernel
set_option maxRecDepth 1000000 in
theorem ck_84 : cdOk 84 = true := by decide +kernel
set_option maxRecDepth 1000000 in
theorem ck_85 : cdOk 85 = true := by decide +kernel
set_option maxRecDepth 1000000 in
theorem ck_86 : cdOk 86 = true := by decide +kernel
set_option maxRecDepth 1000000 in
theorem ck_87 : cdOk 87 = true := by decide +kernel
set_option maxRecDepth 1000000 in
theorem ck_88 : cdOk 88 = true := by decide +kernel
set_option maxRecDepth 1000000 in
theorem ck_89 : cdOk 89 = true := by decide +kernel
set_option maxRecDepth 1000000 in
theorem ck_90 : cdOk 90 = true := by decide +kernel
set_option maxRecDepth 1000000 in
theorem ck_91 : cdOk 91 = true := by decide +kernel
set_option maxRecDepth 1000000 in
theorem ck_92 : cdOk 92 = true := by decide +kernel
set_option maxRecDepth 1000000 in
theorem ck_93 : cdOk 93 = true := by decide +kernel
set_option maxRecDepth 1000000 in
theorem ck_94 : cdOk 94 = true := by decide +kernel
set_option maxRecDepth 1000000 in
theorem ck_95 : cdOk 95 = true := by decide +kernel
set_option maxRecDepth 1000000 in
theorem ck_96 : cdOk 96 = true := by decide +kernel
set_option maxRecDepth 1000000 in
theorem ck_97 : cdOk 97 = true := by decide +kernel
set_option maxRecDepth 1000000 in
theorem ck_98 : cdOk 98 = true := by decide +kernel
set_option maxRecDepth 1000000 in
theorem ck_99 : cdOk 99 = true := by decide +kernel
set_option maxRecDepth 1000000 in
theorem ck_100 : cdOk 100 = true := by decide +kernel
set_option maxRecDepth 1000000 in
theorem ck_101 : cdOk 101 = true := by decide +kernel
set_option maxRecDepth 1000000 in
theorem ck_102 : cdOk 102 = true := by decide +kernel
set_option maxRecDepth 1000000 in
theorem ck_103 : cdOk 103 = true := by decide +kernel
set_option maxRecDepth 1000000 in
theorem ck_104 : cdOk 104 = true := by decide +kernel
set_option maxRecDepth 1000000 in
theorem ck_105 : cdOk 105 = true := by decide +kernel
set_option maxRecDepth 1000000 in
theorem ck_106 : cdOk 106 = true := by decide +kernel
set_option maxRecDepth 1000000 in
theorem ck_107 : cdOk 107 = true := by decide +kernel
set_option maxRecDepth 1000000 in
theorem ck_108 : cdOk 108 = true := by decide +kernel
set_option maxRecDepth 1000000 in
theorem ck_109 : cdOk 109 = true := by decide +kernel
set_option maxRecDepth 1000000 in
theorem ck_110 : cdOk 110 = true := by decide +kernel
set_option maxRecDepth 1000000 in
theorem ck_111 : cdOk 111 = true := by decide +kernel
set_option maxRecDepth 1000000 in
theorem ck_112 : cdOk 112 = true := by decide +kernel
set_option maxRecDepth 1000000 in
theorem ck_113 : cdOk 113 = true := by decide +kernel
theorem ck_all : ∀ k, 0 ≤ k → k < 114 → cdOk k = true := (bt (bt (bt (bt (bt (bt (b1 ck_0) (bt (b1 ck_1) (b1 ck_2))) (bt (bt (b1 ck_3) (b1 ck_4)) (bt (b1 ck_5) (b1 ck_6)))) (bt (bt (b1 ck_7) (bt (b1 ck_8) (b1 ck_9))) (bt (bt (b1 ck_10) (b1 ck_11)) (bt (b1 ck_12) (b1 ck_13))))) (bt (bt (bt (b1 ck_14) (bt (b1 ck_15) (b1 ck_16))) (bt (bt (b1 ck_17) (b1 ck_18)) (bt (b1 ck_19) (b1 ck_20)))) (bt (bt (b1 ck_21) (bt (b1 ck_22) (b1 ck_23))) (bt (bt (b1 ck_24) (b1 ck_25)) (bt (b1 ck_26) (b1 ck_27)))))) (bt (bt (bt (bt (b1 ck_28) (bt (b1 ck_29) (b1 ck_30))) (bt (bt (b1 ck_31) (b1 ck_32)) (bt (b1 ck_33) (b1 ck_34)))) (bt (bt (b1 ck_35) (bt (b1 ck_36) (b1 ck_37))) (bt (bt (b1 ck_38) (b1 ck_39)) (bt (b1 ck_40) (b1 ck_41))))) (bt (bt (bt (b1 ck_42) (bt (b1 ck_43) (b1 ck_44))) (bt (bt (b1 ck_45) (b1 ck_46)) (bt (b1 ck_47) (b1 ck_48)))) (bt (bt (bt (b1 ck_49) (b1 ck_50)) (bt (b1 ck_51) (b1 ck_52))) (bt (bt (b1 ck_53) (b1 ck_54)) (bt (b1 ck_55) (b1 ck_56))))))) (bt (bt (bt (bt (bt (b1 ck_57) (bt (b1 ck_58) (b1 ck_59))) (bt (bt (b1 ck_60) (b1 ck_61)) (bt (b1 ck_62) (b1 ck_63)))) (bt (bt (b1 ck_64) (bt (b1 ck_65) (b1 ck_66))) (bt (bt (b1 ck_67) (b1 ck_68)) (bt (b1 ck_69) (b1 ck_70))))) (bt (bt (bt (b1 ck_71) (bt (b1 ck_72) (b1 ck_73))) (bt (bt (b1 ck_74) (b1 ck_75)) (bt (b1 ck_76) (b1 ck_77)))) (bt (bt (b1 ck_78) (bt (b1 ck_79) (b1 ck_80))) (bt (bt (b1 ck_81) (b1 ck_82)) (bt (b1 ck_83) (b1 ck_84)))))) (bt (bt (bt (bt (b1 ck_85) (bt (b1 ck_86) (b1 ck_87))) (bt (bt (b1 ck_88) (b1 ck_89)) (bt (b1 ck_90) (b1 ck_91)))) (bt (bt (b1 ck_92) (bt (b1 ck_93) (b1 ck_94))) (bt (bt (b1 ck_95) (b1 ck_96)) (bt (b1 ck_97) (b1 ck_98))))) (bt (bt (bt (b1 ck_99) (bt (b1 ck_100) (b1 ck_101))) (bt (bt (b1 ck_102) (b1 ck_103)) (bt (b1 ck_104) (b1 ck_105)))) (bt (bt (bt (b1 ck_106) (b1 ck_107)) (bt (b1 ck_108) (b1 ck_109))) (bt (bt (b1 ck_110) (b1 ck_111)) (bt (b1 ck_112) (b1 ck_113))))))))

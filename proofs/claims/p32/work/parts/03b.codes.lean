set_option maxRecDepth 100000 in
theorem mco_0 : Cond.code (mY 0) (mB 0) (mX 0) (mR 0) ∈ lw_tbl := List.mem_of_getElem? (i := 386) rfl
set_option maxRecDepth 100000 in
theorem mco_1 : Cond.code (mY 1) (mB 1) (mX 1) (mR 1) ∈ lw_tbl := List.mem_of_getElem? (i := 1080) rfl
set_option maxRecDepth 100000 in
theorem mco_2 : Cond.code (mY 2) (mB 2) (mX 2) (mR 2) ∈ lw_tbl := List.mem_of_getElem? (i := 1084) rfl
set_option maxRecDepth 100000 in
theorem mco_3 : Cond.code (mY 3) (mB 3) (mX 3) (mR 3) ∈ lw_tbl := List.mem_of_getElem? (i := 1088) rfl
set_option maxRecDepth 100000 in
theorem mco_4 : Cond.code (mY 4) (mB 4) (mX 4) (mR 4) ∈ lw_tbl := List.mem_of_getElem? (i := 1141) rfl
set_option maxRecDepth 100000 in
theorem mco_5 : Cond.code (mY 5) (mB 5) (mX 5) (mR 5) ∈ lw_tbl := List.mem_of_getElem? (i := 1170) rfl
set_option maxRecDepth 100000 in
theorem mco_6 : Cond.code (mY 6) (mB 6) (mX 6) (mR 6) ∈ lw_tbl := List.mem_of_getElem? (i := 1123) rfl
set_option maxRecDepth 100000 in
theorem mco_7 : Cond.code (mY 7) (mB 7) (mX 7) (mR 7) ∈ lw_tbl := List.mem_of_getElem? (i := 406) rfl
set_option maxRecDepth 100000 in
theorem mco_8 : Cond.code (mY 8) (mB 8) (mX 8) (mR 8) ∈ lw_tbl := List.mem_of_getElem? (i := 944) rfl
set_option maxRecDepth 100000 in
theorem mco_9 : Cond.code (mY 9) (mB 9) (mX 9) (mR 9) ∈ lw_tbl := List.mem_of_getElem? (i := 1104) rfl
set_option maxRecDepth 100000 in
theorem mco_10 : Cond.code (mY 10) (mB 10) (mX 10) (mR 10) ∈ lw_tbl := List.mem_of_getElem? (i := 1108) rfl
set_option maxRecDepth 100000 in
theorem mco_11 : Cond.code (mY 11) (mB 11) (mX 11) (mR 11) ∈ lw_tbl := List.mem_of_getElem? (i := 1112) rfl
set_option maxRecDepth 100000 in
theorem mco_12 : Cond.code (mY 12) (mB 12) (mX 12) (mR 12) ∈ lw_tbl := List.mem_of_getElem? (i := 1208) rfl
set_option maxRecDepth 100000 in
theorem mco_13 : Cond.code (mY 13) (mB 13) (mX 13) (mR 13) ∈ lw_tbl := List.mem_of_getElem? (i := 1116) rfl
set_option maxRecDepth 100000 in
theorem mco_14 : Cond.code (mY 14) (mB 14) (mX 14) (mR 14) ∈ lw_tbl := List.mem_of_getElem? (i := 1126) rfl
set_option maxRecDepth 100000 in
theorem mco_15 : Cond.code (mY 15) (mB 15) (mX 15) (mR 15) ∈ lw_tbl := List.mem_of_getElem? (i := 1146) rfl
set_option maxRecDepth 100000 in
theorem mco_16 : Cond.code (mY 16) (mB 16) (mX 16) (mR 16) ∈ lw_tbl := List.mem_of_getElem? (i := 1212) rfl
set_option maxRecDepth 100000 in
theorem mco_17 : Cond.code (mY 17) (mB 17) (mX 17) (mR 17) ∈ lw_tbl := List.mem_of_getElem? (i := 1166) rfl
set_option maxRecDepth 100000 in
theorem mco_18 : Cond.code (mY 18) (mB 18) (mX 18) (mR 18) ∈ lw_tbl := List.mem_of_getElem? (i := 1162) rfl
set_option maxRecDepth 100000 in
theorem mco_19 : Cond.code (mY 19) (mB 19) (mX 19) (mR 19) ∈ lw_tbl := List.mem_of_getElem? (i := 1134) rfl
set_option maxRecDepth 100000 in
theorem mco_20 : Cond.code (mY 20) (mB 20) (mX 20) (mR 20) ∈ lw_tbl := List.mem_of_getElem? (i := 1130) rfl
set_option maxRecDepth 100000 in
theorem mco_21 : Cond.code (mY 21) (mB 21) (mX 21) (mR 21) ∈ lw_tbl := List.mem_of_getElem? (i := 1151) rfl
set_option maxRecDepth 100000 in
theorem mco_22 : Cond.code (mY 22) (mB 22) (mX 22) (mR 22) ∈ lw_tbl := List.mem_of_getElem? (i := 1156) rfl
set_option maxRecDepth 100000 in
theorem mco_23 : Cond.code (mY 23) (mB 23) (mX 23) (mR 23) ∈ lw_tbl := List.mem_of_getElem? (i := 1183) rfl
set_option maxRecDepth 100000 in
theorem mco_24 : Cond.code (mY 24) (mB 24) (mX 24) (mR 24) ∈ lw_tbl := List.mem_of_getElem? (i := 1175) rfl
set_option maxRecDepth 100000 in
theorem mco_25 : Cond.code (mY 25) (mB 25) (mX 25) (mR 25) ∈ lw_tbl := List.mem_of_getElem? (i := 1179) rfl
set_option maxRecDepth 100000 in
theorem mco_26 : Cond.code (mY 26) (mB 26) (mX 26) (mR 26) ∈ lw_tbl := List.mem_of_getElem? (i := 1187) rfl
set_option maxRecDepth 100000 in
theorem mco_27 : Cond.code (mY 27) (mB 27) (mX 27) (mR 27) ∈ lw_tbl := List.mem_of_getElem? (i := 1191) rfl
set_option maxRecDepth 100000 in
theorem mco_28 : Cond.code (mY 28) (mB 28) (mX 28) (mR 28) ∈ lw_tbl := List.mem_of_getElem? (i := 1196) rfl
set_option maxRecDepth 100000 in
theorem mco_29 : Cond.code (mY 29) (mB 29) (mX 29) (mR 29) ∈ lw_tbl := List.mem_of_getElem? (i := 476) rfl
set_option maxRecDepth 100000 in
theorem mco_30 : Cond.code (mY 30) (mB 30) (mX 30) (mR 30) ∈ lw_tbl := List.mem_of_getElem? (i := 1226) rfl
set_option maxRecDepth 100000 in
theorem mco_31 : Cond.code (mY 31) (mB 31) (mX 31) (mR 31) ∈ lw_tbl := List.mem_of_getElem? (i := 1229) rfl
set_option maxRecDepth 100000 in
theorem mco_32 : Cond.code (mY 32) (mB 32) (mX 32) (mR 32) ∈ lw_tbl := List.mem_of_getElem? (i := 1238) rfl
set_option maxRecDepth 100000 in
theorem mco_33 : Cond.code (mY 33) (mB 33) (mX 33) (mR 33) ∈ lw_tbl := List.mem_of_getElem? (i := 1242) rfl
set_option maxRecDepth 100000 in
theorem mco_34 : Cond.code (mY 34) (mB 34) (mX 34) (mR 34) ∈ lw_tbl := List.mem_of_getElem? (i := 1251) rfl
set_option maxRecDepth 100000 in
theorem mco_35 : Cond.code (mY 35) (mB 35) (mX 35) (mR 35) ∈ lw_tbl := List.mem_of_getElem? (i := 357) rfl
set_option maxRecDepth 100000 in
theorem mco_36 : Cond.code (mY 36) (mB 36) (mX 36) (mR 36) ∈ lw_tbl := List.mem_of_getElem? (i := 953) rfl
set_option maxRecDepth 100000 in
theorem mco_37 : Cond.code (mY 37) (mB 37) (mX 37) (mR 37) ∈ lw_tbl := List.mem_of_getElem? (i := 974) rfl
set_option maxRecDepth 100000 in
theorem mco_38 : Cond.code (mY 38) (mB 38) (mX 38) (mR 38) ∈ lw_tbl := List.mem_of_getElem? (i := 959) rfl
set_option maxRecDepth 100000 in
theorem mco_39 : Cond.code (mY 39) (mB 39) (mX 39) (mR 39) ∈ lw_tbl := List.mem_of_getElem? (i := 963) rfl
set_option maxRecDepth 100000 in
theorem mco_40 : Cond.code (mY 40) (mB 40) (mX 40) (mR 40) ∈ lw_tbl := List.mem_of_getElem? (i := 967) rfl
set_option maxRecDepth 100000 in
theorem mco_41 : Cond.code (mY 41) (mB 41) (mX 41) (mR 41) ∈ lw_tbl := List.mem_of_getElem? (i := 978) rfl
set_option maxRecDepth 100000 in
theorem mco_42 : Cond.code (mY 42) (mB 42) (mX 42) (mR 42) ∈ lw_tbl := List.mem_of_getElem? (i := 982) rfl
set_option maxRecDepth 100000 in
theorem mco_43 : Cond.code (mY 43) (mB 43) (mX 43) (mR 43) ∈ lw_tbl := List.mem_of_getElem? (i := 986) rfl
set_option maxRecDepth 100000 in
theorem mco_44 : Cond.code (mY 44) (mB 44) (mX 44) (mR 44) ∈ lw_tbl := List.mem_of_getElem? (i := 992) rfl
set_option maxRecDepth 100000 in
theorem mco_45 : Cond.code (mY 45) (mB 45) (mX 45) (mR 45) ∈ lw_tbl := List.mem_of_getElem? (i := 1422) rfl
set_option maxRecDepth 100000 in
theorem mco_46 : Cond.code (mY 46) (mB 46) (mX 46) (mR 46) ∈ lw_tbl := List.mem_of_getElem? (i := 1425) rfl
set_option maxRecDepth 100000 in
theorem mco_47 : Cond.code (mY 47) (mB 47) (mX 47) (mR 47) ∈ lw_tbl := List.mem_of_getElem? (i := 264) rfl
set_option maxRecDepth 100000 in
theorem mco_48 : Cond.code (mY 48) (mB 48) (mX 48) (mR 48) ∈ lw_tbl := List.mem_of_getElem? (i := 698) rfl
set_option maxRecDepth 100000 in
theorem mco_49 : Cond.code (mY 49) (mB 49) (mX 49) (mR 49) ∈ lw_tbl := List.mem_of_getElem? (i := 1049) rfl
set_option maxRecDepth 100000 in
theorem mco_50 : Cond.code (mY 50) (mB 50) (mX 50) (mR 50) ∈ lw_tbl := List.mem_of_getElem? (i := 916) rfl
set_option maxRecDepth 100000 in
theorem mco_51 : Cond.code (mY 51) (mB 51) (mX 51) (mR 51) ∈ lw_tbl := List.mem_of_getElem? (i := 1411) rfl
set_option maxRecDepth 100000 in
theorem mco_52 : Cond.code (mY 52) (mB 52) (mX 52) (mR 52) ∈ lw_tbl := List.mem_of_getElem? (i := 1010) rfl
set_option maxRecDepth 100000 in
theorem mco_53 : Cond.code (mY 53) (mB 53) (mX 53) (mR 53) ∈ lw_tbl := List.mem_of_getElem? (i := 1018) rfl
set_option maxRecDepth 100000 in
theorem mco_54 : Cond.code (mY 54) (mB 54) (mX 54) (mR 54) ∈ lw_tbl := List.mem_of_getElem? (i := 1026) rfl
set_option maxRecDepth 100000 in
theorem mco_55 : Cond.code (mY 55) (mB 55) (mX 55) (mR 55) ∈ lw_tbl := List.mem_of_getElem? (i := 1378) rfl
set_option maxRecDepth 100000 in
theorem mco_56 : Cond.code (mY 56) (mB 56) (mX 56) (mR 56) ∈ lw_tbl := List.mem_of_getElem? (i := 1370) rfl
set_option maxRecDepth 100000 in
theorem mco_57 : Cond.code (mY 57) (mB 57) (mX 57) (mR 57) ∈ lw_tbl := List.mem_of_getElem? (i := 1374) rfl
set_option maxRecDepth 100000 in
theorem mco_58 : Cond.code (mY 58) (mB 58) (mX 58) (mR 58) ∈ lw_tbl := List.mem_of_getElem? (i := 1040) rfl
set_option maxRecDepth 100000 in
theorem mco_59 : Cond.code (mY 59) (mB 59) (mX 59) (mR 59) ∈ lw_tbl := List.mem_of_getElem? (i := 1057) rfl
set_option maxRecDepth 100000 in
theorem mco_60 : Cond.code (mY 60) (mB 60) (mX 60) (mR 60) ∈ lw_tbl := List.mem_of_getElem? (i := 1068) rfl
set_option maxRecDepth 100000 in
theorem mco_61 : Cond.code (mY 61) (mB 61) (mX 61) (mR 61) ∈ lw_tbl := List.mem_of_getElem? (i := 1053) rfl
set_option maxRecDepth 100000 in
theorem mco_62 : Cond.code (mY 62) (mB 62) (mX 62) (mR 62) ∈ lw_tbl := List.mem_of_getElem? (i := 1062) rfl
set_option maxRecDepth 100000 in
theorem mco_63 : Cond.code (mY 63) (mB 63) (mX 63) (mR 63) ∈ lw_tbl := List.mem_of_getElem? (i := 344) rfl
set_option maxRecDepth 100000 in
theorem mco_64 : Cond.code (mY 64) (mB 64) (mX 64) (mR 64) ∈ lw_tbl := List.mem_of_getElem? (i := 694) rfl
set_option maxRecDepth 100000 in
theorem mco_65 : Cond.code (mY 65) (mB 65) (mX 65) (mR 65) ∈ lw_tbl := List.mem_of_getElem? (i := 832) rfl
set_option maxRecDepth 100000 in
theorem mco_66 : Cond.code (mY 66) (mB 66) (mX 66) (mR 66) ∈ lw_tbl := List.mem_of_getElem? (i := 859) rfl
set_option maxRecDepth 100000 in
theorem mco_67 : Cond.code (mY 67) (mB 67) (mX 67) (mR 67) ∈ lw_tbl := List.mem_of_getElem? (i := 867) rfl
set_option maxRecDepth 100000 in
theorem mco_68 : Cond.code (mY 68) (mB 68) (mX 68) (mR 68) ∈ lw_tbl := List.mem_of_getElem? (i := 863) rfl
set_option maxRecDepth 100000 in
theorem mco_69 : Cond.code (mY 69) (mB 69) (mX 69) (mR 69) ∈ lw_tbl := List.mem_of_getElem? (i := 871) rfl
set_option maxRecDepth 100000 in
theorem mco_70 : Cond.code (mY 70) (mB 70) (mX 70) (mR 70) ∈ lw_tbl := List.mem_of_getElem? (i := 875) rfl
set_option maxRecDepth 100000 in
theorem mco_71 : Cond.code (mY 71) (mB 71) (mX 71) (mR 71) ∈ lw_tbl := List.mem_of_getElem? (i := 883) rfl
set_option maxRecDepth 100000 in
theorem mco_72 : Cond.code (mY 72) (mB 72) (mX 72) (mR 72) ∈ lw_tbl := List.mem_of_getElem? (i := 887) rfl
set_option maxRecDepth 100000 in
theorem mco_73 : Cond.code (mY 73) (mB 73) (mX 73) (mR 73) ∈ lw_tbl := List.mem_of_getElem? (i := 879) rfl
set_option maxRecDepth 100000 in
theorem mco_74 : Cond.code (mY 74) (mB 74) (mX 74) (mR 74) ∈ lw_tbl := List.mem_of_getElem? (i := 899) rfl
set_option maxRecDepth 100000 in
theorem mco_75 : Cond.code (mY 75) (mB 75) (mX 75) (mR 75) ∈ lw_tbl := List.mem_of_getElem? (i := 903) rfl
set_option maxRecDepth 100000 in
theorem mco_76 : Cond.code (mY 76) (mB 76) (mX 76) (mR 76) ∈ lw_tbl := List.mem_of_getElem? (i := 907) rfl
set_option maxRecDepth 100000 in
theorem mco_77 : Cond.code (mY 77) (mB 77) (mX 77) (mR 77) ∈ lw_tbl := List.mem_of_getElem? (i := 920) rfl
set_option maxRecDepth 100000 in
theorem mco_78 : Cond.code (mY 78) (mB 78) (mX 78) (mR 78) ∈ lw_tbl := List.mem_of_getElem? (i := 589) rfl
set_option maxRecDepth 100000 in
theorem mco_79 : Cond.code (mY 79) (mB 79) (mX 79) (mR 79) ∈ lw_tbl := List.mem_of_getElem? (i := 1395) rfl
set_option maxRecDepth 100000 in
theorem mco_80 : Cond.code (mY 80) (mB 80) (mX 80) (mR 80) ∈ lw_tbl := List.mem_of_getElem? (i := 1418) rfl
set_option maxRecDepth 100000 in
theorem mco_81 : Cond.code (mY 81) (mB 81) (mX 81) (mR 81) ∈ lw_tbl := List.mem_of_getElem? (i := 1433) rfl
set_option maxRecDepth 100000 in
theorem mco_82 : Cond.code (mY 82) (mB 82) (mX 82) (mR 82) ∈ lw_tbl := List.mem_of_getElem? (i := 223) rfl
set_option maxRecDepth 100000 in
theorem mco_83 : Cond.code (mY 83) (mB 83) (mX 83) (mR 83) ∈ lw_tbl := List.mem_of_getElem? (i := 702) rfl
set_option maxRecDepth 100000 in
theorem mco_84 : Cond.code (mY 84) (mB 84) (mX 84) (mR 84) ∈ lw_tbl := List.mem_of_getElem? (i := 709) rfl
set_option maxRecDepth 100000 in
theorem mco_85 : Cond.code (mY 85) (mB 85) (mX 85) (mR 85) ∈ lw_tbl := List.mem_of_getElem? (i := 713) rfl
set_option maxRecDepth 100000 in
theorem mco_86 : Cond.code (mY 86) (mB 86) (mX 86) (mR 86) ∈ lw_tbl := List.mem_of_getElem? (i := 770) rfl
set_option maxRecDepth 100000 in
theorem mco_87 : Cond.code (mY 87) (mB 87) (mX 87) (mR 87) ∈ lw_tbl := List.mem_of_getElem? (i := 717) rfl
set_option maxRecDepth 100000 in
theorem mco_88 : Cond.code (mY 88) (mB 88) (mX 88) (mR 88) ∈ lw_tbl := List.mem_of_getElem? (i := 911) rfl
set_option maxRecDepth 100000 in
theorem mco_89 : Cond.code (mY 89) (mB 89) (mX 89) (mR 89) ∈ lw_tbl := List.mem_of_getElem? (i := 850) rfl
set_option maxRecDepth 100000 in
theorem mco_90 : Cond.code (mY 90) (mB 90) (mX 90) (mR 90) ∈ lw_tbl := List.mem_of_getElem? (i := 854) rfl
set_option maxRecDepth 100000 in
theorem mco_91 : Cond.code (mY 91) (mB 91) (mX 91) (mR 91) ∈ lw_tbl := List.mem_of_getElem? (i := 928) rfl
set_option maxRecDepth 100000 in
theorem mco_92 : Cond.code (mY 92) (mB 92) (mX 92) (mR 92) ∈ lw_tbl := List.mem_of_getElem? (i := 895) rfl
set_option maxRecDepth 100000 in
theorem mco_93 : Cond.code (mY 93) (mB 93) (mX 93) (mR 93) ∈ lw_tbl := List.mem_of_getElem? (i := 924) rfl
set_option maxRecDepth 100000 in
theorem mco_94 : Cond.code (mY 94) (mB 94) (mX 94) (mR 94) ∈ lw_tbl := List.mem_of_getElem? (i := 891) rfl
set_option maxRecDepth 100000 in
theorem mco_95 : Cond.code (mY 95) (mB 95) (mX 95) (mR 95) ∈ lw_tbl := List.mem_of_getElem? (i := 837) rfl
set_option maxRecDepth 100000 in
theorem mco_96 : Cond.code (mY 96) (mB 96) (mX 96) (mR 96) ∈ lw_tbl := List.mem_of_getElem? (i := 841) rfl
set_option maxRecDepth 100000 in
theorem mco_97 : Cond.code (mY 97) (mB 97) (mX 97) (mR 97) ∈ lw_tbl := List.mem_of_getElem? (i := 845) rfl
set_option maxRecDepth 100000 in
theorem mco_98 : Cond.code (mY 98) (mB 98) (mX 98) (mR 98) ∈ lw_tbl := List.mem_of_getElem? (i := 558) rfl
set_option maxRecDepth 100000 in
theorem mco_99 : Cond.code (mY 99) (mB 99) (mX 99) (mR 99) ∈ lw_tbl := List.mem_of_getElem? (i := 1304) rfl
set_option maxRecDepth 100000 in
theorem mco_100 : Cond.code (mY 100) (mB 100) (mX 100) (mR 100) ∈ lw_tbl := List.mem_of_getElem? (i := 1317) rfl
set_option maxRecDepth 100000 in
theorem mco_101 : Cond.code (mY 101) (mB 101) (mX 101) (mR 101) ∈ lw_tbl := List.mem_of_getElem? (i := 1333) rfl
set_option maxRecDepth 100000 in
theorem mco_102 : Cond.code (mY 102) (mB 102) (mX 102) (mR 102) ∈ lw_tbl := List.mem_of_getElem? (i := 1313) rfl
set_option maxRecDepth 100000 in
theorem mco_103 : Cond.code (mY 103) (mB 103) (mX 103) (mR 103) ∈ lw_tbl := List.mem_of_getElem? (i := 1328) rfl
set_option maxRecDepth 100000 in
theorem mco_104 : Cond.code (mY 104) (mB 104) (mX 104) (mR 104) ∈ lw_tbl := List.mem_of_getElem? (i := 1358) rfl
set_option maxRecDepth 100000 in
theorem mco_105 : Cond.code (mY 105) (mB 105) (mX 105) (mR 105) ∈ lw_tbl := List.mem_of_getElem? (i := 1362) rfl
set_option maxRecDepth 100000 in
theorem mco_106 : Cond.code (mY 106) (mB 106) (mX 106) (mR 106) ∈ lw_tbl := List.mem_of_getElem? (i := 1349) rfl
set_option maxRecDepth 100000 in
theorem mco_107 : Cond.code (mY 107) (mB 107) (mX 107) (mR 107) ∈ lw_tbl := List.mem_of_getElem? (i := 1354) rfl
set_option maxRecDepth 100000 in
theorem mco_108 : Cond.code (mY 108) (mB 108) (mX 108) (mR 108) ∈ lw_tbl := List.mem_of_getElem? (i := 1345) rfl
set_option maxRecDepth 100000 in
theorem mco_109 : Cond.code (mY 109) (mB 109) (mX 109) (mR 109) ∈ lw_tbl := List.mem_of_getElem? (i := 1341) rfl
set_option maxRecDepth 100000 in
theorem mco_110 : Cond.code (mY 110) (mB 110) (mX 110) (mR 110) ∈ lw_tbl := List.mem_of_getElem? (i := 1366) rfl
set_option maxRecDepth 100000 in
theorem mco_111 : Cond.code (mY 111) (mB 111) (mX 111) (mR 111) ∈ lw_tbl := List.mem_of_getElem? (i := 1382) rfl
set_option maxRecDepth 100000 in
theorem mco_112 : Cond.code (mY 112) (mB 112) (mX 112) (mR 112) ∈ lw_tbl := List.mem_of_getElem? (i := 1386) rfl
set_option maxRecDepth 100000 in
theorem mco_113 : Cond.code (mY 113) (mB 113) (mX 113) (mR 113) ∈ lw_tbl := List.mem_of_getElem? (i := 511) rfl
set_option maxRecDepth 100000 in
theorem mco_114 : Cond.code (mY 114) (mB 114) (mX 114) (mR 114) ∈ lw_tbl := List.mem_of_getElem? (i := 936) rfl
set_option maxRecDepth 100000 in
theorem mco_115 : Cond.code (mY 115) (mB 115) (mX 115) (mR 115) ∈ lw_tbl := List.mem_of_getElem? (i := 1267) rfl
set_option maxRecDepth 100000 in
theorem mco_116 : Cond.code (mY 116) (mB 116) (mX 116) (mR 116) ∈ lw_tbl := List.mem_of_getElem? (i := 1259) rfl
set_option maxRecDepth 100000 in
theorem mco_117 : Cond.code (mY 117) (mB 117) (mX 117) (mR 117) ∈ lw_tbl := List.mem_of_getElem? (i := 1271) rfl
set_option maxRecDepth 100000 in
theorem mco_118 : Cond.code (mY 118) (mB 118) (mX 118) (mR 118) ∈ lw_tbl := List.mem_of_getElem? (i := 1279) rfl
set_option maxRecDepth 100000 in
theorem mco_119 : Cond.code (mY 119) (mB 119) (mX 119) (mR 119) ∈ lw_tbl := List.mem_of_getElem? (i := 1287) rfl
set_option maxRecDepth 100000 in
theorem mco_120 : Cond.code (mY 120) (mB 120) (mX 120) (mR 120) ∈ lw_tbl := List.mem_of_getElem? (i := 1309) rfl
set_option maxRecDepth 100000 in
theorem mco_121 : Cond.code (mY 121) (mB 121) (mX 121) (mR 121) ∈ lw_tbl := List.mem_of_getElem? (i := 599) rfl
set_option maxRecDepth 100000 in
theorem mco_122 : Cond.code (mY 122) (mB 122) (mX 122) (mR 122) ∈ lw_tbl := List.mem_of_getElem? (i := 940) rfl
set_option maxRecDepth 100000 in
theorem mco_123 : Cond.code (mY 123) (mB 123) (mX 123) (mR 123) ∈ lw_tbl := List.mem_of_getElem? (i := 1442) rfl
set_option maxRecDepth 100000 in
theorem mco_124 : Cond.code (mY 124) (mB 124) (mX 124) (mR 124) ∈ lw_tbl := List.mem_of_getElem? (i := 1454) rfl
set_option maxRecDepth 100000 in
theorem mco_125 : Cond.code (mY 125) (mB 125) (mX 125) (mR 125) ∈ lw_tbl := List.mem_of_getElem? (i := 1458) rfl
set_option maxRecDepth 100000 in
theorem mco_126 : Cond.code (mY 126) (mB 126) (mX 126) (mR 126) ∈ lw_tbl := List.mem_of_getElem? (i := 1472) rfl
set_option maxRecDepth 100000 in
theorem mco_127 : Cond.code (mY 127) (mB 127) (mX 127) (mR 127) ∈ lw_tbl := List.mem_of_getElem? (i := 1476) rfl
set_option maxRecDepth 100000 in
theorem mco_128 : Cond.code (mY 128) (mB 128) (mX 128) (mR 128) ∈ lw_tbl := List.mem_of_getElem? (i := 215) rfl
set_option maxRecDepth 100000 in
theorem mco_129 : Cond.code (mY 129) (mB 129) (mX 129) (mR 129) ∈ lw_tbl := List.mem_of_getElem? (i := 678) rfl
set_option maxRecDepth 100000 in
theorem mco_130 : Cond.code (mY 130) (mB 130) (mX 130) (mR 130) ∈ lw_tbl := List.mem_of_getElem? (i := 686) rfl
set_option maxRecDepth 100000 in
theorem mco_131 : Cond.code (mY 131) (mB 131) (mX 131) (mR 131) ∈ lw_tbl := List.mem_of_getElem? (i := 690) rfl
set_option maxRecDepth 100000 in
theorem mco_132 : Cond.code (mY 132) (mB 132) (mX 132) (mR 132) ∈ lw_tbl := List.mem_of_getElem? (i := 949) rfl
set_option maxRecDepth 100000 in
theorem mco_133 : Cond.code (mY 133) (mB 133) (mX 133) (mR 133) ∈ lw_tbl := List.mem_of_getElem? (i := 996) rfl
set_option maxRecDepth 100000 in
theorem mco_134 : Cond.code (mY 134) (mB 134) (mX 134) (mR 134) ∈ lw_tbl := List.mem_of_getElem? (i := 1000) rfl
set_option maxRecDepth 100000 in
theorem mco_135 : Cond.code (mY 135) (mB 135) (mX 135) (mR 135) ∈ lw_tbl := List.mem_of_getElem? (i := 1014) rfl
set_option maxRecDepth 100000 in
theorem mco_136 : Cond.code (mY 136) (mB 136) (mX 136) (mR 136) ∈ lw_tbl := List.mem_of_getElem? (i := 1022) rfl
set_option maxRecDepth 100000 in
theorem mco_137 : Cond.code (mY 137) (mB 137) (mX 137) (mR 137) ∈ lw_tbl := List.mem_of_getElem? (i := 1030) rfl
set_option maxRecDepth 100000 in
theorem mco_138 : Cond.code (mY 138) (mB 138) (mX 138) (mR 138) ∈ lw_tbl := List.mem_of_getElem? (i := 1045) rfl
set_option maxRecDepth 100000 in
theorem mco_139 : Cond.code (mY 139) (mB 139) (mX 139) (mR 139) ∈ lw_tbl := List.mem_of_getElem? (i := 1076) rfl
set_option maxRecDepth 100000 in
theorem mco_140 : Cond.code (mY 140) (mB 140) (mX 140) (mR 140) ∈ lw_tbl := List.mem_of_getElem? (i := 1092) rfl
set_option maxRecDepth 100000 in
theorem mco_141 : Cond.code (mY 141) (mB 141) (mX 141) (mR 141) ∈ lw_tbl := List.mem_of_getElem? (i := 1200) rfl
set_option maxRecDepth 100000 in
theorem mco_142 : Cond.code (mY 142) (mB 142) (mX 142) (mR 142) ∈ lw_tbl := List.mem_of_getElem? (i := 1204) rfl
set_option maxRecDepth 100000 in
theorem mco_143 : Cond.code (mY 143) (mB 143) (mX 143) (mR 143) ∈ lw_tbl := List.mem_of_getElem? (i := 1222) rfl
set_option maxRecDepth 100000 in
theorem mco_144 : Cond.code (mY 144) (mB 144) (mX 144) (mR 144) ∈ lw_tbl := List.mem_of_getElem? (i := 1234) rfl
set_option maxRecDepth 100000 in
theorem mco_145 : Cond.code (mY 145) (mB 145) (mX 145) (mR 145) ∈ lw_tbl := List.mem_of_getElem? (i := 1247) rfl
set_option maxRecDepth 100000 in
theorem mco_146 : Cond.code (mY 146) (mB 146) (mX 146) (mR 146) ∈ lw_tbl := List.mem_of_getElem? (i := 1255) rfl
set_option maxRecDepth 100000 in
theorem mco_147 : Cond.code (mY 147) (mB 147) (mX 147) (mR 147) ∈ lw_tbl := List.mem_of_getElem? (i := 1263) rfl
set_option maxRecDepth 100000 in
theorem mco_148 : Cond.code (mY 148) (mB 148) (mX 148) (mR 148) ∈ lw_tbl := List.mem_of_getElem? (i := 1275) rfl
set_option maxRecDepth 100000 in
theorem mco_149 : Cond.code (mY 149) (mB 149) (mX 149) (mR 149) ∈ lw_tbl := List.mem_of_getElem? (i := 1283) rfl
set_option maxRecDepth 100000 in
theorem mco_150 : Cond.code (mY 150) (mB 150) (mX 150) (mR 150) ∈ lw_tbl := List.mem_of_getElem? (i := 1292) rfl
set_option maxRecDepth 100000 in
theorem mco_151 : Cond.code (mY 151) (mB 151) (mX 151) (mR 151) ∈ lw_tbl := List.mem_of_getElem? (i := 1296) rfl
set_option maxRecDepth 100000 in
theorem mco_152 : Cond.code (mY 152) (mB 152) (mX 152) (mR 152) ∈ lw_tbl := List.mem_of_getElem? (i := 1337) rfl
set_option maxRecDepth 100000 in
theorem mco_153 : Cond.code (mY 153) (mB 153) (mX 153) (mR 153) ∈ lw_tbl := List.mem_of_getElem? (i := 1391) rfl
set_option maxRecDepth 100000 in
theorem mco_154 : Cond.code (mY 154) (mB 154) (mX 154) (mR 154) ∈ lw_tbl := List.mem_of_getElem? (i := 1429) rfl
set_option maxRecDepth 100000 in
theorem mco_155 : Cond.code (mY 155) (mB 155) (mX 155) (mR 155) ∈ lw_tbl := List.mem_of_getElem? (i := 1438) rfl
set_option maxRecDepth 100000 in
theorem mco_156 : Cond.code (mY 156) (mB 156) (mX 156) (mR 156) ∈ lw_tbl := List.mem_of_getElem? (i := 1446) rfl
set_option maxRecDepth 100000 in
theorem mco_157 : Cond.code (mY 157) (mB 157) (mX 157) (mR 157) ∈ lw_tbl := List.mem_of_getElem? (i := 1450) rfl
set_option maxRecDepth 100000 in
theorem mco_158 : Cond.code (mY 158) (mB 158) (mX 158) (mR 158) ∈ lw_tbl := List.mem_of_getElem? (i := 1464) rfl
set_option maxRecDepth 100000 in
theorem mco_159 : Cond.code (mY 159) (mB 159) (mX 159) (mR 159) ∈ lw_tbl := List.mem_of_getElem? (i := 1484) rfl
set_option maxRecDepth 100000 in
theorem mco_160 : Cond.code (mY 160) (mB 160) (mX 160) (mR 160) ∈ lw_tbl := List.mem_of_getElem? (i := 1488) rfl
set_option maxRecDepth 100000 in
theorem mco_161 : Cond.code (mY 161) (mB 161) (mX 161) (mR 161) ∈ lw_tbl := List.mem_of_getElem? (i := 682) rfl
set_option maxRecDepth 100000 in
theorem mco_162 : Cond.code (mY 162) (mB 162) (mX 162) (mR 162) ∈ lw_tbl := List.mem_of_getElem? (i := 932) rfl
set_option maxRecDepth 100000 in
theorem mco_163 : Cond.code (mY 163) (mB 163) (mX 163) (mR 163) ∈ lw_tbl := List.mem_of_getElem? (i := 1100) rfl
set_option maxRecDepth 100000 in
theorem mco_164 : Cond.code (mY 164) (mB 164) (mX 164) (mR 164) ∈ lw_tbl := List.mem_of_getElem? (i := 1096) rfl
set_option maxRecDepth 100000 in
theorem mco_165 : Cond.code (mY 165) (mB 165) (mX 165) (mR 165) ∈ lw_tbl := List.mem_of_getElem? (i := 1300) rfl
set_option maxRecDepth 100000 in
theorem mco_166 : Cond.code (mY 166) (mB 166) (mX 166) (mR 166) ∈ lw_tbl := List.mem_of_getElem? (i := 1468) rfl
set_option maxRecDepth 100000 in
theorem mco_167 : Cond.code (mY 167) (mB 167) (mX 167) (mR 167) ∈ lw_tbl := List.mem_of_getElem? (i := 1003) rfl
set_option maxRecDepth 100000 in
theorem mco_168 : Cond.code (mY 168) (mB 168) (mX 168) (mR 168) ∈ lw_tbl := List.mem_of_getElem? (i := 1006) rfl
set_option maxRecDepth 100000 in
theorem mco_169 : Cond.code (mY 169) (mB 169) (mX 169) (mR 169) ∈ lw_tbl := List.mem_of_getElem? (i := 1036) rfl
set_option maxRecDepth 100000 in
theorem mco_170 : Cond.code (mY 170) (mB 170) (mX 170) (mR 170) ∈ lw_tbl := List.mem_of_getElem? (i := 1033) rfl
set_option maxRecDepth 100000 in
theorem mco_171 : Cond.code (mY 171) (mB 171) (mX 171) (mR 171) ∈ lw_tbl := List.mem_of_getElem? (i := 412) rfl
set_option maxRecDepth 100000 in
theorem mco_172 : Cond.code (mY 172) (mB 172) (mX 172) (mR 172) ∈ lw_tbl := List.mem_of_getElem? (i := 1320) rfl
set_option maxRecDepth 100000 in
theorem mco_173 : Cond.code (mY 173) (mB 173) (mX 173) (mR 173) ∈ lw_tbl := List.mem_of_getElem? (i := 1824) rfl
set_option maxRecDepth 100000 in
theorem mco_174 : Cond.code (mY 174) (mB 174) (mX 174) (mR 174) ∈ lw_tbl := List.mem_of_getElem? (i := 1827) rfl
set_option maxRecDepth 100000 in
theorem mco_175 : Cond.code (mY 175) (mB 175) (mX 175) (mR 175) ∈ lw_tbl := List.mem_of_getElem? (i := 1857) rfl
set_option maxRecDepth 100000 in
theorem mco_176 : Cond.code (mY 176) (mB 176) (mX 176) (mR 176) ∈ lw_tbl := List.mem_of_getElem? (i := 1880) rfl
set_option maxRecDepth 100000 in
theorem mco_177 : Cond.code (mY 177) (mB 177) (mX 177) (mR 177) ∈ lw_tbl := List.mem_of_getElem? (i := 1864) rfl
set_option maxRecDepth 100000 in
theorem mco_178 : Cond.code (mY 178) (mB 178) (mX 178) (mR 178) ∈ lw_tbl := List.mem_of_getElem? (i := 1830) rfl
set_option maxRecDepth 100000 in
theorem mco_179 : Cond.code (mY 179) (mB 179) (mX 179) (mR 179) ∈ lw_tbl := List.mem_of_getElem? (i := 1860) rfl
set_option maxRecDepth 100000 in
theorem mco_180 : Cond.code (mY 180) (mB 180) (mX 180) (mR 180) ∈ lw_tbl := List.mem_of_getElem? (i := 1820) rfl
set_option maxRecDepth 100000 in
theorem mco_181 : Cond.code (mY 181) (mB 181) (mX 181) (mR 181) ∈ lw_tbl := List.mem_of_getElem? (i := 1944) rfl
set_option maxRecDepth 100000 in
theorem mco_182 : Cond.code (mY 182) (mB 182) (mX 182) (mR 182) ∈ lw_tbl := List.mem_of_getElem? (i := 1872) rfl
set_option maxRecDepth 100000 in
theorem mco_183 : Cond.code (mY 183) (mB 183) (mX 183) (mR 183) ∈ lw_tbl := List.mem_of_getElem? (i := 1876) rfl
set_option maxRecDepth 100000 in
theorem mco_184 : Cond.code (mY 184) (mB 184) (mX 184) (mR 184) ∈ lw_tbl := List.mem_of_getElem? (i := 1896) rfl
set_option maxRecDepth 100000 in
theorem mco_185 : Cond.code (mY 185) (mB 185) (mX 185) (mR 185) ∈ lw_tbl := List.mem_of_getElem? (i := 1892) rfl
set_option maxRecDepth 100000 in
theorem mco_186 : Cond.code (mY 186) (mB 186) (mX 186) (mR 186) ∈ lw_tbl := List.mem_of_getElem? (i := 1816) rfl
set_option maxRecDepth 100000 in
theorem mco_187 : Cond.code (mY 187) (mB 187) (mX 187) (mR 187) ∈ lw_tbl := List.mem_of_getElem? (i := 1501) rfl
set_option maxRecDepth 100000 in
theorem mco_188 : Cond.code (mY 188) (mB 188) (mX 188) (mR 188) ∈ lw_tbl := List.mem_of_getElem? (i := 1494) rfl
set_option maxRecDepth 100000 in
theorem mco_189 : Cond.code (mY 189) (mB 189) (mX 189) (mR 189) ∈ lw_tbl := List.mem_of_getElem? (i := 1812) rfl
set_option maxRecDepth 100000 in
theorem mco_190 : Cond.code (mY 190) (mB 190) (mX 190) (mR 190) ∈ lw_tbl := List.mem_of_getElem? (i := 1868) rfl
set_option maxRecDepth 100000 in
theorem mco_191 : Cond.code (mY 191) (mB 191) (mX 191) (mR 191) ∈ lw_tbl := List.mem_of_getElem? (i := 1912) rfl
set_option maxRecDepth 100000 in
theorem mco_192 : Cond.code (mY 192) (mB 192) (mX 192) (mR 192) ∈ lw_tbl := List.mem_of_getElem? (i := 1920) rfl
set_option maxRecDepth 100000 in
theorem mco_193 : Cond.code (mY 193) (mB 193) (mX 193) (mR 193) ∈ lw_tbl := List.mem_of_getElem? (i := 1916) rfl
set_option maxRecDepth 100000 in
theorem mco_194 : Cond.code (mY 194) (mB 194) (mX 194) (mR 194) ∈ lw_tbl := List.mem_of_getElem? (i := 1908) rfl
set_option maxRecDepth 100000 in
theorem mco_195 : Cond.code (mY 195) (mB 195) (mX 195) (mR 195) ∈ lw_tbl := List.mem_of_getElem? (i := 1924) rfl
set_option maxRecDepth 100000 in
theorem mco_196 : Cond.code (mY 196) (mB 196) (mX 196) (mR 196) ∈ lw_tbl := List.mem_of_getElem? (i := 1932) rfl
set_option maxRecDepth 100000 in
theorem mco_197 : Cond.code (mY 197) (mB 197) (mX 197) (mR 197) ∈ lw_tbl := List.mem_of_getElem? (i := 1928) rfl
set_option maxRecDepth 100000 in
theorem mco_198 : Cond.code (mY 198) (mB 198) (mX 198) (mR 198) ∈ lw_tbl := List.mem_of_getElem? (i := 1936) rfl
set_option maxRecDepth 100000 in
theorem mco_199 : Cond.code (mY 199) (mB 199) (mX 199) (mR 199) ∈ lw_tbl := List.mem_of_getElem? (i := 1888) rfl
set_option maxRecDepth 100000 in
theorem mco_200 : Cond.code (mY 200) (mB 200) (mX 200) (mR 200) ∈ lw_tbl := List.mem_of_getElem? (i := 1884) rfl
set_option maxRecDepth 100000 in
theorem mco_201 : Cond.code (mY 201) (mB 201) (mX 201) (mR 201) ∈ lw_tbl := List.mem_of_getElem? (i := 1940) rfl
set_option maxRecDepth 100000 in
theorem mco_202 : Cond.code (mY 202) (mB 202) (mX 202) (mR 202) ∈ lw_tbl := List.mem_of_getElem? (i := 1900) rfl
set_option maxRecDepth 100000 in
theorem mco_203 : Cond.code (mY 203) (mB 203) (mX 203) (mR 203) ∈ lw_tbl := List.mem_of_getElem? (i := 1904) rfl
set_option maxRecDepth 100000 in
theorem mco_204 : Cond.code (mY 204) (mB 204) (mX 204) (mR 204) ∈ lw_tbl := List.mem_of_getElem? (i := 1948) rfl
set_option maxRecDepth 100000 in
theorem mco_205 : Cond.code (mY 205) (mB 205) (mX 205) (mR 205) ∈ lw_tbl := List.mem_of_getElem? (i := 1955) rfl
set_option maxRecDepth 100000 in
theorem mco_206 : Cond.code (mY 206) (mB 206) (mX 206) (mR 206) ∈ lw_tbl := List.mem_of_getElem? (i := 1958) rfl
set_option maxRecDepth 100000 in
theorem mco_207 : Cond.code (mY 207) (mB 207) (mX 207) (mR 207) ∈ lw_tbl := List.mem_of_getElem? (i := 1962) rfl
set_option maxRecDepth 100000 in
theorem mco_208 : Cond.code (mY 208) (mB 208) (mX 208) (mR 208) ∈ lw_tbl := List.mem_of_getElem? (i := 1952) rfl
set_option maxRecDepth 100000 in
theorem mco_209 : Cond.code (mY 209) (mB 209) (mX 209) (mR 209) ∈ lw_tbl := List.mem_of_getElem? (i := 1974) rfl
set_option maxRecDepth 100000 in
theorem mco_210 : Cond.code (mY 210) (mB 210) (mX 210) (mR 210) ∈ lw_tbl := List.mem_of_getElem? (i := 1978) rfl
set_option maxRecDepth 100000 in
theorem mco_211 : Cond.code (mY 211) (mB 211) (mX 211) (mR 211) ∈ lw_tbl := List.mem_of_getElem? (i := 1970) rfl
set_option maxRecDepth 100000 in
theorem mco_212 : Cond.code (mY 212) (mB 212) (mX 212) (mR 212) ∈ lw_tbl := List.mem_of_getElem? (i := 1986) rfl
set_option maxRecDepth 100000 in
theorem mco_213 : Cond.code (mY 213) (mB 213) (mX 213) (mR 213) ∈ lw_tbl := List.mem_of_getElem? (i := 1966) rfl
set_option maxRecDepth 100000 in
theorem mco_214 : Cond.code (mY 214) (mB 214) (mX 214) (mR 214) ∈ lw_tbl := List.mem_of_getElem? (i := 1982) rfl
set_option maxRecDepth 100000 in
theorem mco_215 : Cond.code (mY 215) (mB 215) (mX 215) (mR 215) ∈ lw_tbl := List.mem_of_getElem? (i := 2000) rfl
set_option maxRecDepth 100000 in
theorem mco_216 : Cond.code (mY 216) (mB 216) (mX 216) (mR 216) ∈ lw_tbl := List.mem_of_getElem? (i := 1993) rfl
set_option maxRecDepth 100000 in
theorem mco_217 : Cond.code (mY 217) (mB 217) (mX 217) (mR 217) ∈ lw_tbl := List.mem_of_getElem? (i := 1996) rfl
set_option maxRecDepth 100000 in
theorem mco_218 : Cond.code (mY 218) (mB 218) (mX 218) (mR 218) ∈ lw_tbl := List.mem_of_getElem? (i := 1990) rfl
set_option maxRecDepth 100000 in
theorem mco_219 : Cond.code (mY 219) (mB 219) (mX 219) (mR 219) ∈ lw_tbl := List.mem_of_getElem? (i := 2012) rfl
set_option maxRecDepth 100000 in
theorem mco_220 : Cond.code (mY 220) (mB 220) (mX 220) (mR 220) ∈ lw_tbl := List.mem_of_getElem? (i := 2019) rfl
set_option maxRecDepth 100000 in
theorem mco_221 : Cond.code (mY 221) (mB 221) (mX 221) (mR 221) ∈ lw_tbl := List.mem_of_getElem? (i := 2022) rfl
set_option maxRecDepth 100000 in
theorem mco_222 : Cond.code (mY 222) (mB 222) (mX 222) (mR 222) ∈ lw_tbl := List.mem_of_getElem? (i := 2016) rfl
set_option maxRecDepth 100000 in
theorem mco_223 : Cond.code (mY 223) (mB 223) (mX 223) (mR 223) ∈ lw_tbl := List.mem_of_getElem? (i := 2008) rfl
set_option maxRecDepth 100000 in
theorem mco_224 : Cond.code (mY 224) (mB 224) (mX 224) (mR 224) ∈ lw_tbl := List.mem_of_getElem? (i := 2004) rfl
set_option maxRecDepth 100000 in
theorem mco_225 : Cond.code (mY 225) (mB 225) (mX 225) (mR 225) ∈ lw_tbl := List.mem_of_getElem? (i := 2026) rfl
set_option maxRecDepth 100000 in
theorem mco_226 : Cond.code (mY 226) (mB 226) (mX 226) (mR 226) ∈ lw_tbl := List.mem_of_getElem? (i := 2030) rfl
set_option maxRecDepth 100000 in
theorem mco_227 : Cond.code (mY 227) (mB 227) (mX 227) (mR 227) ∈ lw_tbl := List.mem_of_getElem? (i := 2057) rfl
set_option maxRecDepth 100000 in
theorem mco_228 : Cond.code (mY 228) (mB 228) (mX 228) (mR 228) ∈ lw_tbl := List.mem_of_getElem? (i := 2045) rfl
set_option maxRecDepth 100000 in
theorem mco_229 : Cond.code (mY 229) (mB 229) (mX 229) (mR 229) ∈ lw_tbl := List.mem_of_getElem? (i := 2053) rfl
set_option maxRecDepth 100000 in
theorem mco_230 : Cond.code (mY 230) (mB 230) (mX 230) (mR 230) ∈ lw_tbl := List.mem_of_getElem? (i := 2049) rfl
set_option maxRecDepth 100000 in
theorem mco_231 : Cond.code (mY 231) (mB 231) (mX 231) (mR 231) ∈ lw_tbl := List.mem_of_getElem? (i := 2042) rfl
set_option maxRecDepth 100000 in
theorem mco_232 : Cond.code (mY 232) (mB 232) (mX 232) (mR 232) ∈ lw_tbl := List.mem_of_getElem? (i := 2038) rfl
set_option maxRecDepth 100000 in
theorem mco_233 : Cond.code (mY 233) (mB 233) (mX 233) (mR 233) ∈ lw_tbl := List.mem_of_getElem? (i := 2034) rfl
set_option maxRecDepth 100000 in
theorem mco_234 : Cond.code (mY 234) (mB 234) (mX 234) (mR 234) ∈ lw_tbl := List.mem_of_getElem? (i := 2061) rfl
set_option maxRecDepth 100000 in
theorem mco_235 : Cond.code (mY 235) (mB 235) (mX 235) (mR 235) ∈ lw_tbl := List.mem_of_getElem? (i := 2065) rfl
set_option maxRecDepth 100000 in
theorem mco_236 : Cond.code (mY 236) (mB 236) (mX 236) (mR 236) ∈ lw_tbl := List.mem_of_getElem? (i := 2069) rfl
set_option maxRecDepth 100000 in
theorem mco_237 : Cond.code (mY 237) (mB 237) (mX 237) (mR 237) ∈ lw_tbl := List.mem_of_getElem? (i := 2073) rfl
set_option maxRecDepth 100000 in
theorem mco_238 : Cond.code (mY 238) (mB 238) (mX 238) (mR 238) ∈ lw_tbl := List.mem_of_getElem? (i := 2080) rfl
set_option maxRecDepth 100000 in
theorem mco_239 : Cond.code (mY 239) (mB 239) (mX 239) (mR 239) ∈ lw_tbl := List.mem_of_getElem? (i := 2077) rfl
set_option maxRecDepth 100000 in
theorem mco_240 : Cond.code (mY 240) (mB 240) (mX 240) (mR 240) ∈ lw_tbl := List.mem_of_getElem? (i := 2084) rfl
set_option maxRecDepth 100000 in
theorem mco_241 : Cond.code (mY 241) (mB 241) (mX 241) (mR 241) ∈ lw_tbl := List.mem_of_getElem? (i := 2088) rfl
set_option maxRecDepth 100000 in
theorem mco_242 : Cond.code (mY 242) (mB 242) (mX 242) (mR 242) ∈ lw_tbl := List.mem_of_getElem? (i := 2092) rfl
set_option maxRecDepth 100000 in
theorem mco_243 : Cond.code (mY 243) (mB 243) (mX 243) (mR 243) ∈ lw_tbl := List.mem_of_getElem? (i := 2104) rfl
set_option maxRecDepth 100000 in
theorem mco_244 : Cond.code (mY 244) (mB 244) (mX 244) (mR 244) ∈ lw_tbl := List.mem_of_getElem? (i := 2096) rfl
set_option maxRecDepth 100000 in
theorem mco_245 : Cond.code (mY 245) (mB 245) (mX 245) (mR 245) ∈ lw_tbl := List.mem_of_getElem? (i := 2100) rfl
set_option maxRecDepth 100000 in
theorem mco_246 : Cond.code (mY 246) (mB 246) (mX 246) (mR 246) ∈ lw_tbl := List.mem_of_getElem? (i := 2108) rfl
set_option maxRecDepth 100000 in
theorem mco_247 : Cond.code (mY 247) (mB 247) (mX 247) (mR 247) ∈ lw_tbl := List.mem_of_getElem? (i := 2112) rfl
set_option maxRecDepth 100000 in
theorem mco_248 : Cond.code (mY 248) (mB 248) (mX 248) (mR 248) ∈ lw_tbl := List.mem_of_getElem? (i := 2116) rfl
set_option maxRecDepth 100000 in
theorem mco_249 : Cond.code (mY 249) (mB 249) (mX 249) (mR 249) ∈ lw_tbl := List.mem_of_getElem? (i := 2138) rfl
set_option maxRecDepth 100000 in
theorem mco_250 : Cond.code (mY 250) (mB 250) (mX 250) (mR 250) ∈ lw_tbl := List.mem_of_getElem? (i := 2135) rfl
set_option maxRecDepth 100000 in
theorem mco_251 : Cond.code (mY 251) (mB 251) (mX 251) (mR 251) ∈ lw_tbl := List.mem_of_getElem? (i := 2124) rfl
set_option maxRecDepth 100000 in
theorem mco_252 : Cond.code (mY 252) (mB 252) (mX 252) (mR 252) ∈ lw_tbl := List.mem_of_getElem? (i := 2132) rfl
set_option maxRecDepth 100000 in
theorem mco_253 : Cond.code (mY 253) (mB 253) (mX 253) (mR 253) ∈ lw_tbl := List.mem_of_getElem? (i := 2146) rfl
set_option maxRecDepth 100000 in
theorem mco_254 : Cond.code (mY 254) (mB 254) (mX 254) (mR 254) ∈ lw_tbl := List.mem_of_getElem? (i := 2142) rfl
set_option maxRecDepth 100000 in
theorem mco_255 : Cond.code (mY 255) (mB 255) (mX 255) (mR 255) ∈ lw_tbl := List.mem_of_getElem? (i := 2128) rfl
set_option maxRecDepth 100000 in
theorem mco_256 : Cond.code (mY 256) (mB 256) (mX 256) (mR 256) ∈ lw_tbl := List.mem_of_getElem? (i := 2120) rfl
set_option maxRecDepth 100000 in
theorem mco_257 : Cond.code (mY 257) (mB 257) (mX 257) (mR 257) ∈ lw_tbl := List.mem_of_getElem? (i := 2158) rfl
set_option maxRecDepth 100000 in
theorem mco_258 : Cond.code (mY 258) (mB 258) (mX 258) (mR 258) ∈ lw_tbl := List.mem_of_getElem? (i := 2162) rfl
set_option maxRecDepth 100000 in
theorem mco_259 : Cond.code (mY 259) (mB 259) (mX 259) (mR 259) ∈ lw_tbl := List.mem_of_getElem? (i := 2154) rfl
set_option maxRecDepth 100000 in
theorem mco_260 : Cond.code (mY 260) (mB 260) (mX 260) (mR 260) ∈ lw_tbl := List.mem_of_getElem? (i := 2166) rfl
set_option maxRecDepth 100000 in
theorem mco_261 : Cond.code (mY 261) (mB 261) (mX 261) (mR 261) ∈ lw_tbl := List.mem_of_getElem? (i := 2170) rfl
set_option maxRecDepth 100000 in
theorem mco_262 : Cond.code (mY 262) (mB 262) (mX 262) (mR 262) ∈ lw_tbl := List.mem_of_getElem? (i := 2178) rfl
set_option maxRecDepth 100000 in
theorem mco_263 : Cond.code (mY 263) (mB 263) (mX 263) (mR 263) ∈ lw_tbl := List.mem_of_getElem? (i := 2174) rfl
set_option maxRecDepth 100000 in
theorem mco_264 : Cond.code (mY 264) (mB 264) (mX 264) (mR 264) ∈ lw_tbl := List.mem_of_getElem? (i := 2150) rfl
set_option maxRecDepth 100000 in
theorem mco_265 : Cond.code (mY 265) (mB 265) (mX 265) (mR 265) ∈ lw_tbl := List.mem_of_getElem? (i := 2182) rfl
set_option maxRecDepth 100000 in
theorem mco_266 : Cond.code (mY 266) (mB 266) (mX 266) (mR 266) ∈ lw_tbl := List.mem_of_getElem? (i := 2202) rfl
set_option maxRecDepth 100000 in
theorem mco_267 : Cond.code (mY 267) (mB 267) (mX 267) (mR 267) ∈ lw_tbl := List.mem_of_getElem? (i := 2190) rfl
set_option maxRecDepth 100000 in
theorem mco_268 : Cond.code (mY 268) (mB 268) (mX 268) (mR 268) ∈ lw_tbl := List.mem_of_getElem? (i := 2186) rfl
set_option maxRecDepth 100000 in
theorem mco_269 : Cond.code (mY 269) (mB 269) (mX 269) (mR 269) ∈ lw_tbl := List.mem_of_getElem? (i := 2198) rfl
set_option maxRecDepth 100000 in
theorem mco_270 : Cond.code (mY 270) (mB 270) (mX 270) (mR 270) ∈ lw_tbl := List.mem_of_getElem? (i := 2194) rfl
set_option maxRecDepth 100000 in
theorem mco_271 : Cond.code (mY 271) (mB 271) (mX 271) (mR 271) ∈ lw_tbl := List.mem_of_getElem? (i := 2210) rfl
set_option maxRecDepth 100000 in
theorem mco_272 : Cond.code (mY 272) (mB 272) (mX 272) (mR 272) ∈ lw_tbl := List.mem_of_getElem? (i := 2214) rfl
set_option maxRecDepth 100000 in
theorem mco_273 : Cond.code (mY 273) (mB 273) (mX 273) (mR 273) ∈ lw_tbl := List.mem_of_getElem? (i := 2206) rfl
set_option maxRecDepth 100000 in
theorem mco_274 : Cond.code (mY 274) (mB 274) (mX 274) (mR 274) ∈ lw_tbl := List.mem_of_getElem? (i := 2229) rfl
set_option maxRecDepth 100000 in
theorem mco_275 : Cond.code (mY 275) (mB 275) (mX 275) (mR 275) ∈ lw_tbl := List.mem_of_getElem? (i := 2233) rfl
set_option maxRecDepth 100000 in
theorem mco_276 : Cond.code (mY 276) (mB 276) (mX 276) (mR 276) ∈ lw_tbl := List.mem_of_getElem? (i := 2236) rfl
set_option maxRecDepth 100000 in
theorem mco_277 : Cond.code (mY 277) (mB 277) (mX 277) (mR 277) ∈ lw_tbl := List.mem_of_getElem? (i := 2222) rfl
set_option maxRecDepth 100000 in
theorem mco_278 : Cond.code (mY 278) (mB 278) (mX 278) (mR 278) ∈ lw_tbl := List.mem_of_getElem? (i := 2226) rfl
set_option maxRecDepth 100000 in
theorem mco_279 : Cond.code (mY 279) (mB 279) (mX 279) (mR 279) ∈ lw_tbl := List.mem_of_getElem? (i := 2218) rfl
set_option maxRecDepth 100000 in
theorem mco_280 : Cond.code (mY 280) (mB 280) (mX 280) (mR 280) ∈ lw_tbl := List.mem_of_getElem? (i := 2240) rfl
set_option maxRecDepth 100000 in
theorem mco_281 : Cond.code (mY 281) (mB 281) (mX 281) (mR 281) ∈ lw_tbl := List.mem_of_getElem? (i := 1505) rfl
set_option maxRecDepth 100000 in
theorem mco_282 : Cond.code (mY 282) (mB 282) (mX 282) (mR 282) ∈ lw_tbl := List.mem_of_getElem? (i := 2245) rfl
set_option maxRecDepth 100000 in
theorem mco_283 : Cond.code (mY 283) (mB 283) (mX 283) (mR 283) ∈ lw_tbl := List.mem_of_getElem? (i := 2249) rfl
set_option maxRecDepth 100000 in
theorem mco_284 : Cond.code (mY 284) (mB 284) (mX 284) (mR 284) ∈ lw_tbl := List.mem_of_getElem? (i := 2253) rfl
set_option maxRecDepth 100000 in
theorem mco_285 : Cond.code (mY 285) (mB 285) (mX 285) (mR 285) ∈ lw_tbl := List.mem_of_getElem? (i := 2261) rfl
set_option maxRecDepth 100000 in
theorem mco_286 : Cond.code (mY 286) (mB 286) (mX 286) (mR 286) ∈ lw_tbl := List.mem_of_getElem? (i := 2265) rfl
set_option maxRecDepth 100000 in
theorem mco_287 : Cond.code (mY 287) (mB 287) (mX 287) (mR 287) ∈ lw_tbl := List.mem_of_getElem? (i := 2257) rfl
set_option maxRecDepth 100000 in
theorem mco_288 : Cond.code (mY 288) (mB 288) (mX 288) (mR 288) ∈ lw_tbl := List.mem_of_getElem? (i := 2269) rfl
set_option maxRecDepth 100000 in
theorem mco_289 : Cond.code (mY 289) (mB 289) (mX 289) (mR 289) ∈ lw_tbl := List.mem_of_getElem? (i := 2273) rfl
set_option maxRecDepth 100000 in
theorem mco_290 : Cond.code (mY 290) (mB 290) (mX 290) (mR 290) ∈ lw_tbl := List.mem_of_getElem? (i := 2277) rfl
set_option maxRecDepth 100000 in
theorem mco_291 : Cond.code (mY 291) (mB 291) (mX 291) (mR 291) ∈ lw_tbl := List.mem_of_getElem? (i := 2281) rfl
set_option maxRecDepth 100000 in
theorem mco_292 : Cond.code (mY 292) (mB 292) (mX 292) (mR 292) ∈ lw_tbl := List.mem_of_getElem? (i := 820) rfl
set_option maxRecDepth 100000 in
theorem mco_293 : Cond.code (mY 293) (mB 293) (mX 293) (mR 293) ∈ lw_tbl := List.mem_of_getElem? (i := 823) rfl
set_option maxRecDepth 100000 in
theorem mco_294 : Cond.code (mY 294) (mB 294) (mX 294) (mR 294) ∈ lw_tbl := List.mem_of_getElem? (i := 827) rfl
set_option maxRecDepth 100000 in
theorem mco_295 : Cond.code (mY 295) (mB 295) (mX 295) (mR 295) ∈ lw_tbl := List.mem_of_getElem? (i := 1404) rfl
set_option maxRecDepth 100000 in
theorem mco_296 : Cond.code (mY 296) (mB 296) (mX 296) (mR 296) ∈ lw_tbl := List.mem_of_getElem? (i := 1215) rfl
set_option maxRecDepth 100000 in
theorem mco_297 : Cond.code (mY 297) (mB 297) (mX 297) (mR 297) ∈ lw_tbl := List.mem_of_getElem? (i := 1323) rfl
set_option maxRecDepth 100000 in
theorem mco_298 : Cond.code (mY 298) (mB 298) (mX 298) (mR 298) ∈ lw_tbl := List.mem_of_getElem? (i := 789) rfl
set_option maxRecDepth 100000 in
theorem mco_299 : Cond.code (mY 299) (mB 299) (mX 299) (mR 299) ∈ lw_tbl := List.mem_of_getElem? (i := 705) rfl
set_option maxRecDepth 100000 in
theorem mco_300 : Cond.code (mY 300) (mB 300) (mX 300) (mR 300) ∈ lw_tbl := List.mem_of_getElem? (i := 722) rfl
set_option maxRecDepth 100000 in
theorem mco_301 : Cond.code (mY 301) (mB 301) (mX 301) (mR 301) ∈ lw_tbl := List.mem_of_getElem? (i := 732) rfl
set_option maxRecDepth 100000 in
theorem mco_302 : Cond.code (mY 302) (mB 302) (mX 302) (mR 302) ∈ lw_tbl := List.mem_of_getElem? (i := 775) rfl
set_option maxRecDepth 100000 in
theorem mco_303 : Cond.code (mY 303) (mB 303) (mX 303) (mR 303) ∈ lw_tbl := List.mem_of_getElem? (i := 779) rfl
set_option maxRecDepth 100000 in
theorem mco_304 : Cond.code (mY 304) (mB 304) (mX 304) (mR 304) ∈ lw_tbl := List.mem_of_getElem? (i := 726) rfl
set_option maxRecDepth 100000 in
theorem mco_305 : Cond.code (mY 305) (mB 305) (mX 305) (mR 305) ∈ lw_tbl := List.mem_of_getElem? (i := 736) rfl
set_option maxRecDepth 100000 in
theorem mco_306 : Cond.code (mY 306) (mB 306) (mX 306) (mR 306) ∈ lw_tbl := List.mem_of_getElem? (i := 742) rfl
set_option maxRecDepth 100000 in
theorem mco_307 : Cond.code (mY 307) (mB 307) (mX 307) (mR 307) ∈ lw_tbl := List.mem_of_getElem? (i := 808) rfl
set_option maxRecDepth 100000 in
theorem mco_308 : Cond.code (mY 308) (mB 308) (mX 308) (mR 308) ∈ lw_tbl := List.mem_of_getElem? (i := 739) rfl
set_option maxRecDepth 100000 in
theorem mco_309 : Cond.code (mY 309) (mB 309) (mX 309) (mR 309) ∈ lw_tbl := List.mem_of_getElem? (i := 786) rfl
set_option maxRecDepth 100000 in
theorem mco_310 : Cond.code (mY 310) (mB 310) (mX 310) (mR 310) ∈ lw_tbl := List.mem_of_getElem? (i := 783) rfl
set_option maxRecDepth 100000 in
theorem mco_311 : Cond.code (mY 311) (mB 311) (mX 311) (mR 311) ∈ lw_tbl := List.mem_of_getElem? (i := 793) rfl
set_option maxRecDepth 100000 in
theorem mco_312 : Cond.code (mY 312) (mB 312) (mX 312) (mR 312) ∈ lw_tbl := List.mem_of_getElem? (i := 760) rfl
set_option maxRecDepth 100000 in
theorem mco_313 : Cond.code (mY 313) (mB 313) (mX 313) (mR 313) ∈ lw_tbl := List.mem_of_getElem? (i := 756) rfl
set_option maxRecDepth 100000 in
theorem mco_314 : Cond.code (mY 314) (mB 314) (mX 314) (mR 314) ∈ lw_tbl := List.mem_of_getElem? (i := 796) rfl
set_option maxRecDepth 100000 in
theorem mco_315 : Cond.code (mY 315) (mB 315) (mX 315) (mR 315) ∈ lw_tbl := List.mem_of_getElem? (i := 802) rfl
set_option maxRecDepth 100000 in
theorem mco_316 : Cond.code (mY 316) (mB 316) (mX 316) (mR 316) ∈ lw_tbl := List.mem_of_getElem? (i := 814) rfl
set_option maxRecDepth 100000 in
theorem mco_317 : Cond.code (mY 317) (mB 317) (mX 317) (mR 317) ∈ lw_tbl := List.mem_of_getElem? (i := 817) rfl
set_option maxRecDepth 100000 in
theorem mco_318 : Cond.code (mY 318) (mB 318) (mX 318) (mR 318) ∈ lw_tbl := List.mem_of_getElem? (i := 750) rfl
set_option maxRecDepth 100000 in
theorem mco_319 : Cond.code (mY 319) (mB 319) (mX 319) (mR 319) ∈ lw_tbl := List.mem_of_getElem? (i := 753) rfl
set_option maxRecDepth 100000 in
theorem mco_320 : Cond.code (mY 320) (mB 320) (mX 320) (mR 320) ∈ lw_tbl := List.mem_of_getElem? (i := 805) rfl
set_option maxRecDepth 100000 in
theorem mco_321 : Cond.code (mY 321) (mB 321) (mX 321) (mR 321) ∈ lw_tbl := List.mem_of_getElem? (i := 1119) rfl
set_option maxRecDepth 100000 in
theorem mco_322 : Cond.code (mY 322) (mB 322) (mX 322) (mR 322) ∈ lw_tbl := List.mem_of_getElem? (i := 268) rfl
set_option maxRecDepth 100000 in
theorem mco_323 : Cond.code (mY 323) (mB 323) (mX 323) (mR 323) ∈ lw_tbl := List.mem_of_getElem? (i := 747) rfl
set_option maxRecDepth 100000 in
theorem mco_324 : Cond.code (mY 324) (mB 324) (mX 324) (mR 324) ∈ lw_tbl := List.mem_of_getElem? (i := 811) rfl
theorem mcl_0 : ∀ j ∈ ([0, 1, 2, 3, 4] : List Nat), Cond.code (mY j) (mB j) (mX j) (mR j) ∈ lw_tbl := List.forall_mem_cons.mpr ⟨mco_0, List.forall_mem_cons.mpr ⟨mco_1, List.forall_mem_cons.mpr ⟨mco_2, List.forall_mem_cons.mpr ⟨mco_3, List.forall_mem_cons.mpr ⟨mco_4, fun _ h => absurd h List.not_mem_nil⟩⟩⟩⟩⟩
theorem mcl_1 : ∀ j ∈ ([5, 6, 7, 8, 9] : List Nat), Cond.code (mY j) (mB j) (mX j) (mR j) ∈ lw_tbl := List.forall_mem_cons.mpr ⟨mco_5, List.forall_mem_cons.mpr ⟨mco_6, List.forall_mem_cons.mpr ⟨mco_7, List.forall_mem_cons.mpr ⟨mco_8, List.forall_mem_cons.mpr ⟨mco_9, fun _ h => absurd h List.not_mem_nil⟩⟩⟩⟩⟩
theorem mcl_2 : ∀ j ∈ ([10, 11, 12, 13, 14] : List Nat), Cond.code (mY j) (mB j) (mX j) (mR j) ∈ lw_tbl := List.forall_mem_cons.mpr ⟨mco_10, List.forall_mem_cons.mpr ⟨mco_11, List.forall_mem_cons.mpr ⟨mco_12, List.forall_mem_cons.mpr ⟨mco_13, List.forall_mem_cons.mpr ⟨mco_14, fun _ h => absurd h List.not_mem_nil⟩⟩⟩⟩⟩
theorem mcl_3 : ∀ j ∈ ([15, 16, 17, 18, 19] : List Nat), Cond.code (mY j) (mB j) (mX j) (mR j) ∈ lw_tbl := List.forall_mem_cons.mpr ⟨mco_15, List.forall_mem_cons.mpr ⟨mco_16, List.forall_mem_cons.mpr ⟨mco_17, List.forall_mem_cons.mpr ⟨mco_18, List.forall_mem_cons.mpr ⟨mco_19, fun _ h => absurd h List.not_mem_nil⟩⟩⟩⟩⟩
theorem mcl_4 : ∀ j ∈ ([20, 21, 22, 23, 24] : List Nat), Cond.code (mY j) (mB j) (mX j) (mR j) ∈ lw_tbl := List.forall_mem_cons.mpr ⟨mco_20, List.forall_mem_cons.mpr ⟨mco_21, List.forall_mem_cons.mpr ⟨mco_22, List.forall_mem_cons.mpr ⟨mco_23, List.forall_mem_cons.mpr ⟨mco_24, fun _ h => absurd h List.not_mem_nil⟩⟩⟩⟩⟩
theorem mcl_5 : ∀ j ∈ ([25, 26, 27, 28, 29] : List Nat), Cond.code (mY j) (mB j) (mX j) (mR j) ∈ lw_tbl := List.forall_mem_cons.mpr ⟨mco_25, List.forall_mem_cons.mpr ⟨mco_26, List.forall_mem_cons.mpr ⟨mco_27, List.forall_mem_cons.mpr ⟨mco_28, List.forall_mem_cons.mpr ⟨mco_29, fun _ h => absurd h List.not_mem_nil⟩⟩⟩⟩⟩
theorem mcl_6 : ∀ j ∈ ([30, 31, 32, 33, 34] : List Nat), Cond.code (mY j) (mB j) (mX j) (mR j) ∈ lw_tbl := List.forall_mem_cons.mpr ⟨mco_30, List.forall_mem_cons.mpr ⟨mco_31, List.forall_mem_cons.mpr ⟨mco_32, List.forall_mem_cons.mpr ⟨mco_33, List.forall_mem_cons.mpr ⟨mco_34, fun _ h => absurd h List.not_mem_nil⟩⟩⟩⟩⟩
theorem mcl_7 : ∀ j ∈ ([35, 36, 37, 38, 39] : List Nat), Cond.code (mY j) (mB j) (mX j) (mR j) ∈ lw_tbl := List.forall_mem_cons.mpr ⟨mco_35, List.forall_mem_cons.mpr ⟨mco_36, List.forall_mem_cons.mpr ⟨mco_37, List.forall_mem_cons.mpr ⟨mco_38, List.forall_mem_cons.mpr ⟨mco_39, fun _ h => absurd h List.not_mem_nil⟩⟩⟩⟩⟩
theorem mcl_8 : ∀ j ∈ ([40, 41, 42, 43, 44] : List Nat), Cond.code (mY j) (mB j) (mX j) (mR j) ∈ lw_tbl := List.forall_mem_cons.mpr ⟨mco_40, List.forall_mem_cons.mpr ⟨mco_41, List.forall_mem_cons.mpr ⟨mco_42, List.forall_mem_cons.mpr ⟨mco_43, List.forall_mem_cons.mpr ⟨mco_44, fun _ h => absurd h List.not_mem_nil⟩⟩⟩⟩⟩
theorem mcl_9 : ∀ j ∈ ([45, 46, 47, 48, 49] : List Nat), Cond.code (mY j) (mB j) (mX j) (mR j) ∈ lw_tbl := List.forall_mem_cons.mpr ⟨mco_45, List.forall_mem_cons.mpr ⟨mco_46, List.forall_mem_cons.mpr ⟨mco_47, List.forall_mem_cons.mpr ⟨mco_48, List.forall_mem_cons.mpr ⟨mco_49, fun _ h => absurd h List.not_mem_nil⟩⟩⟩⟩⟩
theorem mcl_10 : ∀ j ∈ ([50, 51, 52, 53, 54] : List Nat), Cond.code (mY j) (mB j) (mX j) (mR j) ∈ lw_tbl := List.forall_mem_cons.mpr ⟨mco_50, List.forall_mem_cons.mpr ⟨mco_51, List.forall_mem_cons.mpr ⟨mco_52, List.forall_mem_cons.mpr ⟨mco_53, List.forall_mem_cons.mpr ⟨mco_54, fun _ h => absurd h List.not_mem_nil⟩⟩⟩⟩⟩
theorem mcl_11 : ∀ j ∈ ([55, 56, 57, 58, 59] : List Nat), Cond.code (mY j) (mB j) (mX j) (mR j) ∈ lw_tbl := List.forall_mem_cons.mpr ⟨mco_55, List.forall_mem_cons.mpr ⟨mco_56, List.forall_mem_cons.mpr ⟨mco_57, List.forall_mem_cons.mpr ⟨mco_58, List.forall_mem_cons.mpr ⟨mco_59, fun _ h => absurd h List.not_mem_nil⟩⟩⟩⟩⟩
theorem mcl_12 : ∀ j ∈ ([60, 61, 62, 63, 64] : List Nat), Cond.code (mY j) (mB j) (mX j) (mR j) ∈ lw_tbl := List.forall_mem_cons.mpr ⟨mco_60, List.forall_mem_cons.mpr ⟨mco_61, List.forall_mem_cons.mpr ⟨mco_62, List.forall_mem_cons.mpr ⟨mco_63, List.forall_mem_cons.mpr ⟨mco_64, fun _ h => absurd h List.not_mem_nil⟩⟩⟩⟩⟩
theorem mcl_13 : ∀ j ∈ ([65, 66, 67, 68, 69] : List Nat), Cond.code (mY j) (mB j) (mX j) (mR j) ∈ lw_tbl := List.forall_mem_cons.mpr ⟨mco_65, List.forall_mem_cons.mpr ⟨mco_66, List.forall_mem_cons.mpr ⟨mco_67, List.forall_mem_cons.mpr ⟨mco_68, List.forall_mem_cons.mpr ⟨mco_69, fun _ h => absurd h List.not_mem_nil⟩⟩⟩⟩⟩
theorem mcl_14 : ∀ j ∈ ([70, 71, 72, 73, 74] : List Nat), Cond.code (mY j) (mB j) (mX j) (mR j) ∈ lw_tbl := List.forall_mem_cons.mpr ⟨mco_70, List.forall_mem_cons.mpr ⟨mco_71, List.forall_mem_cons.mpr ⟨mco_72, List.forall_mem_cons.mpr ⟨mco_73, List.forall_mem_cons.mpr ⟨mco_74, fun _ h => absurd h List.not_mem_nil⟩⟩⟩⟩⟩
theorem mcl_15 : ∀ j ∈ ([75, 76, 77, 78, 79] : List Nat), Cond.code (mY j) (mB j) (mX j) (mR j) ∈ lw_tbl := List.forall_mem_cons.mpr ⟨mco_75, List.forall_mem_cons.mpr ⟨mco_76, List.forall_mem_cons.mpr ⟨mco_77, List.forall_mem_cons.mpr ⟨mco_78, List.forall_mem_cons.mpr ⟨mco_79, fun _ h => absurd h List.not_mem_nil⟩⟩⟩⟩⟩
theorem mcl_16 : ∀ j ∈ ([80, 81, 82, 83, 84] : List Nat), Cond.code (mY j) (mB j) (mX j) (mR j) ∈ lw_tbl := List.forall_mem_cons.mpr ⟨mco_80, List.forall_mem_cons.mpr ⟨mco_81, List.forall_mem_cons.mpr ⟨mco_82, List.forall_mem_cons.mpr ⟨mco_83, List.forall_mem_cons.mpr ⟨mco_84, fun _ h => absurd h List.not_mem_nil⟩⟩⟩⟩⟩
theorem mcl_17 : ∀ j ∈ ([85, 86, 87, 88, 89] : List Nat), Cond.code (mY j) (mB j) (mX j) (mR j) ∈ lw_tbl := List.forall_mem_cons.mpr ⟨mco_85, List.forall_mem_cons.mpr ⟨mco_86, List.forall_mem_cons.mpr ⟨mco_87, List.forall_mem_cons.mpr ⟨mco_88, List.forall_mem_cons.mpr ⟨mco_89, fun _ h => absurd h List.not_mem_nil⟩⟩⟩⟩⟩
theorem mcl_18 : ∀ j ∈ ([90, 91, 92, 93, 94] : List Nat), Cond.code (mY j) (mB j) (mX j) (mR j) ∈ lw_tbl := List.forall_mem_cons.mpr ⟨mco_90, List.forall_mem_cons.mpr ⟨mco_91, List.forall_mem_cons.mpr ⟨mco_92, List.forall_mem_cons.mpr ⟨mco_93, List.forall_mem_cons.mpr ⟨mco_94, fun _ h => absurd h List.not_mem_nil⟩⟩⟩⟩⟩
theorem mcl_19 : ∀ j ∈ ([95, 96, 97, 98, 99] : List Nat), Cond.code (mY j) (mB j) (mX j) (mR j) ∈ lw_tbl := List.forall_mem_cons.mpr ⟨mco_95, List.forall_mem_cons.mpr ⟨mco_96, List.forall_mem_cons.mpr ⟨mco_97, List.forall_mem_cons.mpr ⟨mco_98, List.forall_mem_cons.mpr ⟨mco_99, fun _ h => absurd h List.not_mem_nil⟩⟩⟩⟩⟩
theorem mcl_20 : ∀ j ∈ ([100, 101, 102, 103, 104] : List Nat), Cond.code (mY j) (mB j) (mX j) (mR j) ∈ lw_tbl := List.forall_mem_cons.mpr ⟨mco_100, List.forall_mem_cons.mpr ⟨mco_101, List.forall_mem_cons.mpr ⟨mco_102, List.forall_mem_cons.mpr ⟨mco_103, List.forall_mem_cons.mpr ⟨mco_104, fun _ h => absurd h List.not_mem_nil⟩⟩⟩⟩⟩
theorem mcl_21 : ∀ j ∈ ([105, 106, 107, 108, 109] : List Nat), Cond.code (mY j) (mB j) (mX j) (mR j) ∈ lw_tbl := List.forall_mem_cons.mpr ⟨mco_105, List.forall_mem_cons.mpr ⟨mco_106, List.forall_mem_cons.mpr ⟨mco_107, List.forall_mem_cons.mpr ⟨mco_108, List.forall_mem_cons.mpr ⟨mco_109, fun _ h => absurd h List.not_mem_nil⟩⟩⟩⟩⟩
theorem mcl_22 : ∀ j ∈ ([110, 111, 112, 113, 114] : List Nat), Cond.code (mY j) (mB j) (mX j) (mR j) ∈ lw_tbl := List.forall_mem_cons.mpr ⟨mco_110, List.forall_mem_cons.mpr ⟨mco_111, List.forall_mem_cons.mpr ⟨mco_112, List.forall_mem_cons.mpr ⟨mco_113, List.forall_mem_cons.mpr ⟨mco_114, fun _ h => absurd h List.not_mem_nil⟩⟩⟩⟩⟩
theorem mcl_23 : ∀ j ∈ ([115, 116, 117, 118, 119] : List Nat), Cond.code (mY j) (mB j) (mX j) (mR j) ∈ lw_tbl := List.forall_mem_cons.mpr ⟨mco_115, List.forall_mem_cons.mpr ⟨mco_116, List.forall_mem_cons.mpr ⟨mco_117, List.forall_mem_cons.mpr ⟨mco_118, List.forall_mem_cons.mpr ⟨mco_119, fun _ h => absurd h List.not_mem_nil⟩⟩⟩⟩⟩
theorem mcl_24 : ∀ j ∈ ([120, 121, 122, 123, 124] : List Nat), Cond.code (mY j) (mB j) (mX j) (mR j) ∈ lw_tbl := List.forall_mem_cons.mpr ⟨mco_120, List.forall_mem_cons.mpr ⟨mco_121, List.forall_mem_cons.mpr ⟨mco_122, List.forall_mem_cons.mpr ⟨mco_123, List.forall_mem_cons.mpr ⟨mco_124, fun _ h => absurd h List.not_mem_nil⟩⟩⟩⟩⟩
theorem mcl_25 : ∀ j ∈ ([125, 126, 127, 128, 129] : List Nat), Cond.code (mY j) (mB j) (mX j) (mR j) ∈ lw_tbl := List.forall_mem_cons.mpr ⟨mco_125, List.forall_mem_cons.mpr ⟨mco_126, List.forall_mem_cons.mpr ⟨mco_127, List.forall_mem_cons.mpr ⟨mco_128, List.forall_mem_cons.mpr ⟨mco_129, fun _ h => absurd h List.not_mem_nil⟩⟩⟩⟩⟩
theorem mcl_26 : ∀ j ∈ ([130, 131, 132, 133, 134] : List Nat), Cond.code (mY j) (mB j) (mX j) (mR j) ∈ lw_tbl := List.forall_mem_cons.mpr ⟨mco_130, List.forall_mem_cons.mpr ⟨mco_131, List.forall_mem_cons.mpr ⟨mco_132, List.forall_mem_cons.mpr ⟨mco_133, List.forall_mem_cons.mpr ⟨mco_134, fun _ h => absurd h List.not_mem_nil⟩⟩⟩⟩⟩
theorem mcl_27 : ∀ j ∈ ([135, 136, 137, 138, 139] : List Nat), Cond.code (mY j) (mB j) (mX j) (mR j) ∈ lw_tbl := List.forall_mem_cons.mpr ⟨mco_135, List.forall_mem_cons.mpr ⟨mco_136, List.forall_mem_cons.mpr ⟨mco_137, List.forall_mem_cons.mpr ⟨mco_138, List.forall_mem_cons.mpr ⟨mco_139, fun _ h => absurd h List.not_mem_nil⟩⟩⟩⟩⟩
theorem mcl_28 : ∀ j ∈ ([140, 141, 142, 143, 144] : List Nat), Cond.code (mY j) (mB j) (mX j) (mR j) ∈ lw_tbl := List.forall_mem_cons.mpr ⟨mco_140, List.forall_mem_cons.mpr ⟨mco_141, List.forall_mem_cons.mpr ⟨mco_142, List.forall_mem_cons.mpr ⟨mco_143, List.forall_mem_cons.mpr ⟨mco_144, fun _ h => absurd h List.not_mem_nil⟩⟩⟩⟩⟩
theorem mcl_29 : ∀ j ∈ ([145, 146, 147, 148, 149] : List Nat), Cond.code (mY j) (mB j) (mX j) (mR j) ∈ lw_tbl := List.forall_mem_cons.mpr ⟨mco_145, List.forall_mem_cons.mpr ⟨mco_146, List.forall_mem_cons.mpr ⟨mco_147, List.forall_mem_cons.mpr ⟨mco_148, List.forall_mem_cons.mpr ⟨mco_149, fun _ h => absurd h List.not_mem_nil⟩⟩⟩⟩⟩
theorem mcl_30 : ∀ j ∈ ([150, 151, 152, 153, 154] : List Nat), Cond.code (mY j) (mB j) (mX j) (mR j) ∈ lw_tbl := List.forall_mem_cons.mpr ⟨mco_150, List.forall_mem_cons.mpr ⟨mco_151, List.forall_mem_cons.mpr ⟨mco_152, List.forall_mem_cons.mpr ⟨mco_153, List.forall_mem_cons.mpr ⟨mco_154, fun _ h => absurd h List.not_mem_nil⟩⟩⟩⟩⟩
theorem mcl_31 : ∀ j ∈ ([155, 156, 157, 158, 159] : List Nat), Cond.code (mY j) (mB j) (mX j) (mR j) ∈ lw_tbl := List.forall_mem_cons.mpr ⟨mco_155, List.forall_mem_cons.mpr ⟨mco_156, List.forall_mem_cons.mpr ⟨mco_157, List.forall_mem_cons.mpr ⟨mco_158, List.forall_mem_cons.mpr ⟨mco_159, fun _ h => absurd h List.not_mem_nil⟩⟩⟩⟩⟩
theorem mcl_32 : ∀ j ∈ ([160, 161, 162, 163, 164] : List Nat), Cond.code (mY j) (mB j) (mX j) (mR j) ∈ lw_tbl := List.forall_mem_cons.mpr ⟨mco_160, List.forall_mem_cons.mpr ⟨mco_161, List.forall_mem_cons.mpr ⟨mco_162, List.forall_mem_cons.mpr ⟨mco_163, List.forall_mem_cons.mpr ⟨mco_164, fun _ h => absurd h List.not_mem_nil⟩⟩⟩⟩⟩
theorem mcl_33 : ∀ j ∈ ([165, 166, 167, 168, 169] : List Nat), Cond.code (mY j) (mB j) (mX j) (mR j) ∈ lw_tbl := List.forall_mem_cons.mpr ⟨mco_165, List.forall_mem_cons.mpr ⟨mco_166, List.forall_mem_cons.mpr ⟨mco_167, List.forall_mem_cons.mpr ⟨mco_168, List.forall_mem_cons.mpr ⟨mco_169, fun _ h => absurd h List.not_mem_nil⟩⟩⟩⟩⟩
theorem mcl_34 : ∀ j ∈ ([170, 171, 172, 173, 174] : List Nat), Cond.code (mY j) (mB j) (mX j) (mR j) ∈ lw_tbl := List.forall_mem_cons.mpr ⟨mco_170, List.forall_mem_cons.mpr ⟨mco_171, List.forall_mem_cons.mpr ⟨mco_172, List.forall_mem_cons.mpr ⟨mco_173, List.forall_mem_cons.mpr ⟨mco_174, fun _ h => absurd h List.not_mem_nil⟩⟩⟩⟩⟩
theorem mcl_35 : ∀ j ∈ ([175, 176, 177, 178, 179] : List Nat), Cond.code (mY j) (mB j) (mX j) (mR j) ∈ lw_tbl := List.forall_mem_cons.mpr ⟨mco_175, List.forall_mem_cons.mpr ⟨mco_176, List.forall_mem_cons.mpr ⟨mco_177, List.forall_mem_cons.mpr ⟨mco_178, List.forall_mem_cons.mpr ⟨mco_179, fun _ h => absurd h List.not_mem_nil⟩⟩⟩⟩⟩
theorem mcl_36 : ∀ j ∈ ([180, 181, 182, 183, 184] : List Nat), Cond.code (mY j) (mB j) (mX j) (mR j) ∈ lw_tbl := List.forall_mem_cons.mpr ⟨mco_180, List.forall_mem_cons.mpr ⟨mco_181, List.forall_mem_cons.mpr ⟨mco_182, List.forall_mem_cons.mpr ⟨mco_183, List.forall_mem_cons.mpr ⟨mco_184, fun _ h => absurd h List.not_mem_nil⟩⟩⟩⟩⟩
theorem mcl_37 : ∀ j ∈ ([185, 186, 187, 188, 189] : List Nat), Cond.code (mY j) (mB j) (mX j) (mR j) ∈ lw_tbl := List.forall_mem_cons.mpr ⟨mco_185, List.forall_mem_cons.mpr ⟨mco_186, List.forall_mem_cons.mpr ⟨mco_187, List.forall_mem_cons.mpr ⟨mco_188, List.forall_mem_cons.mpr ⟨mco_189, fun _ h => absurd h List.not_mem_nil⟩⟩⟩⟩⟩
theorem mcl_38 : ∀ j ∈ ([190, 191, 192, 193, 194] : List Nat), Cond.code (mY j) (mB j) (mX j) (mR j) ∈ lw_tbl := List.forall_mem_cons.mpr ⟨mco_190, List.forall_mem_cons.mpr ⟨mco_191, List.forall_mem_cons.mpr ⟨mco_192, List.forall_mem_cons.mpr ⟨mco_193, List.forall_mem_cons.mpr ⟨mco_194, fun _ h => absurd h List.not_mem_nil⟩⟩⟩⟩⟩
theorem mcl_39 : ∀ j ∈ ([195, 196, 197, 198, 199] : List Nat), Cond.code (mY j) (mB j) (mX j) (mR j) ∈ lw_tbl := List.forall_mem_cons.mpr ⟨mco_195, List.forall_mem_cons.mpr ⟨mco_196, List.forall_mem_cons.mpr ⟨mco_197, List.forall_mem_cons.mpr ⟨mco_198, List.forall_mem_cons.mpr ⟨mco_199, fun _ h => absurd h List.not_mem_nil⟩⟩⟩⟩⟩
theorem mcl_40 : ∀ j ∈ ([200, 201, 202, 203, 204] : List Nat), Cond.code (mY j) (mB j) (mX j) (mR j) ∈ lw_tbl := List.forall_mem_cons.mpr ⟨mco_200, List.forall_mem_cons.mpr ⟨mco_201, List.forall_mem_cons.mpr ⟨mco_202, List.forall_mem_cons.mpr ⟨mco_203, List.forall_mem_cons.mpr ⟨mco_204, fun _ h => absurd h List.not_mem_nil⟩⟩⟩⟩⟩
theorem mcl_41 : ∀ j ∈ ([205, 206, 207, 208, 209] : List Nat), Cond.code (mY j) (mB j) (mX j) (mR j) ∈ lw_tbl := List.forall_mem_cons.mpr ⟨mco_205, List.forall_mem_cons.mpr ⟨mco_206, List.forall_mem_cons.mpr ⟨mco_207, List.forall_mem_cons.mpr ⟨mco_208, List.forall_mem_cons.mpr ⟨mco_209, fun _ h => absurd h List.not_mem_nil⟩⟩⟩⟩⟩
theorem mcl_42 : ∀ j ∈ ([210, 211, 212, 213, 214] : List Nat), Cond.code (mY j) (mB j) (mX j) (mR j) ∈ lw_tbl := List.forall_mem_cons.mpr ⟨mco_210, List.forall_mem_cons.mpr ⟨mco_211, List.forall_mem_cons.mpr ⟨mco_212, List.forall_mem_cons.mpr ⟨mco_213, List.forall_mem_cons.mpr ⟨mco_214, fun _ h => absurd h List.not_mem_nil⟩⟩⟩⟩⟩
theorem mcl_43 : ∀ j ∈ ([215, 216, 217, 218, 219] : List Nat), Cond.code (mY j) (mB j) (mX j) (mR j) ∈ lw_tbl := List.forall_mem_cons.mpr ⟨mco_215, List.forall_mem_cons.mpr ⟨mco_216, List.forall_mem_cons.mpr ⟨mco_217, List.forall_mem_cons.mpr ⟨mco_218, List.forall_mem_cons.mpr ⟨mco_219, fun _ h => absurd h List.not_mem_nil⟩⟩⟩⟩⟩
theorem mcl_44 : ∀ j ∈ ([220, 221, 222, 223, 224] : List Nat), Cond.code (mY j) (mB j) (mX j) (mR j) ∈ lw_tbl := List.forall_mem_cons.mpr ⟨mco_220, List.forall_mem_cons.mpr ⟨mco_221, List.forall_mem_cons.mpr ⟨mco_222, List.forall_mem_cons.mpr ⟨mco_223, List.forall_mem_cons.mpr ⟨mco_224, fun _ h => absurd h List.not_mem_nil⟩⟩⟩⟩⟩
theorem mcl_45 : ∀ j ∈ ([225, 226, 227, 228, 229] : List Nat), Cond.code (mY j) (mB j) (mX j) (mR j) ∈ lw_tbl := List.forall_mem_cons.mpr ⟨mco_225, List.forall_mem_cons.mpr ⟨mco_226, List.forall_mem_cons.mpr ⟨mco_227, List.forall_mem_cons.mpr ⟨mco_228, List.forall_mem_cons.mpr ⟨mco_229, fun _ h => absurd h List.not_mem_nil⟩⟩⟩⟩⟩
theorem mcl_46 : ∀ j ∈ ([230, 231, 232, 233, 234] : List Nat), Cond.code (mY j) (mB j) (mX j) (mR j) ∈ lw_tbl := List.forall_mem_cons.mpr ⟨mco_230, List.forall_mem_cons.mpr ⟨mco_231, List.forall_mem_cons.mpr ⟨mco_232, List.forall_mem_cons.mpr ⟨mco_233, List.forall_mem_cons.mpr ⟨mco_234, fun _ h => absurd h List.not_mem_nil⟩⟩⟩⟩⟩
theorem mcl_47 : ∀ j ∈ ([235, 236, 237, 238, 239] : List Nat), Cond.code (mY j) (mB j) (mX j) (mR j) ∈ lw_tbl := List.forall_mem_cons.mpr ⟨mco_235, List.forall_mem_cons.mpr ⟨mco_236, List.forall_mem_cons.mpr ⟨mco_237, List.forall_mem_cons.mpr ⟨mco_238, List.forall_mem_cons.mpr ⟨mco_239, fun _ h => absurd h List.not_mem_nil⟩⟩⟩⟩⟩
theorem mcl_48 : ∀ j ∈ ([240, 241, 242, 243, 244] : List Nat), Cond.code (mY j) (mB j) (mX j) (mR j) ∈ lw_tbl := List.forall_mem_cons.mpr ⟨mco_240, List.forall_mem_cons.mpr ⟨mco_241, List.forall_mem_cons.mpr ⟨mco_242, List.forall_mem_cons.mpr ⟨mco_243, List.forall_mem_cons.mpr ⟨mco_244, fun _ h => absurd h List.not_mem_nil⟩⟩⟩⟩⟩
theorem mcl_49 : ∀ j ∈ ([245, 246, 247, 248, 249] : List Nat), Cond.code (mY j) (mB j) (mX j) (mR j) ∈ lw_tbl := List.forall_mem_cons.mpr ⟨mco_245, List.forall_mem_cons.mpr ⟨mco_246, List.forall_mem_cons.mpr ⟨mco_247, List.forall_mem_cons.mpr ⟨mco_248, List.forall_mem_cons.mpr ⟨mco_249, fun _ h => absurd h List.not_mem_nil⟩⟩⟩⟩⟩
theorem mcl_50 : ∀ j ∈ ([250, 251, 252, 253, 254] : List Nat), Cond.code (mY j) (mB j) (mX j) (mR j) ∈ lw_tbl := List.forall_mem_cons.mpr ⟨mco_250, List.forall_mem_cons.mpr ⟨mco_251, List.forall_mem_cons.mpr ⟨mco_252, List.forall_mem_cons.mpr ⟨mco_253, List.forall_mem_cons.mpr ⟨mco_254, fun _ h => absurd h List.not_mem_nil⟩⟩⟩⟩⟩
theorem mcl_51 : ∀ j ∈ ([255, 256, 257, 258, 259] : List Nat), Cond.code (mY j) (mB j) (mX j) (mR j) ∈ lw_tbl := List.forall_mem_cons.mpr ⟨mco_255, List.forall_mem_cons.mpr ⟨mco_256, List.forall_mem_cons.mpr ⟨mco_257, List.forall_mem_cons.mpr ⟨mco_258, List.forall_mem_cons.mpr ⟨mco_259, fun _ h => absurd h List.not_mem_nil⟩⟩⟩⟩⟩
theorem mcl_52 : ∀ j ∈ ([260, 261, 262, 263, 264] : List Nat), Cond.code (mY j) (mB j) (mX j) (mR j) ∈ lw_tbl := List.forall_mem_cons.mpr ⟨mco_260, List.forall_mem_cons.mpr ⟨mco_261, List.forall_mem_cons.mpr ⟨mco_262, List.forall_mem_cons.mpr ⟨mco_263, List.forall_mem_cons.mpr ⟨mco_264, fun _ h => absurd h List.not_mem_nil⟩⟩⟩⟩⟩
theorem mcl_53 : ∀ j ∈ ([265, 266, 267, 268, 269] : List Nat), Cond.code (mY j) (mB j) (mX j) (mR j) ∈ lw_tbl := List.forall_mem_cons.mpr ⟨mco_265, List.forall_mem_cons.mpr ⟨mco_266, List.forall_mem_cons.mpr ⟨mco_267, List.forall_mem_cons.mpr ⟨mco_268, List.forall_mem_cons.mpr ⟨mco_269, fun _ h => absurd h List.not_mem_nil⟩⟩⟩⟩⟩
theorem mcl_54 : ∀ j ∈ ([270, 271, 272, 273, 274] : List Nat), Cond.code (mY j) (mB j) (mX j) (mR j) ∈ lw_tbl := List.forall_mem_cons.mpr ⟨mco_270, List.forall_mem_cons.mpr ⟨mco_271, List.forall_mem_cons.mpr ⟨mco_272, List.forall_mem_cons.mpr ⟨mco_273, List.forall_mem_cons.mpr ⟨mco_274, fun _ h => absurd h List.not_mem_nil⟩⟩⟩⟩⟩
theorem mcl_55 : ∀ j ∈ ([275, 276, 277, 278, 279] : List Nat), Cond.code (mY j) (mB j) (mX j) (mR j) ∈ lw_tbl := List.forall_mem_cons.mpr ⟨mco_275, List.forall_mem_cons.mpr ⟨mco_276, List.forall_mem_cons.mpr ⟨mco_277, List.forall_mem_cons.mpr ⟨mco_278, List.forall_mem_cons.mpr ⟨mco_279, fun _ h => absurd h List.not_mem_nil⟩⟩⟩⟩⟩
theorem mcl_56 : ∀ j ∈ ([280, 281, 282, 283, 284] : List Nat), Cond.code (mY j) (mB j) (mX j) (mR j) ∈ lw_tbl := List.forall_mem_cons.mpr ⟨mco_280, List.forall_mem_cons.mpr ⟨mco_281, List.forall_mem_cons.mpr ⟨mco_282, List.forall_mem_cons.mpr ⟨mco_283, List.forall_mem_cons.mpr ⟨mco_284, fun _ h => absurd h List.not_mem_nil⟩⟩⟩⟩⟩
theorem mcl_57 : ∀ j ∈ ([285, 286, 287, 288, 289] : List Nat), Cond.code (mY j) (mB j) (mX j) (mR j) ∈ lw_tbl := List.forall_mem_cons.mpr ⟨mco_285, List.forall_mem_cons.mpr ⟨mco_286, List.forall_mem_cons.mpr ⟨mco_287, List.forall_mem_cons.mpr ⟨mco_288, List.forall_mem_cons.mpr ⟨mco_289, fun _ h => absurd h List.not_mem_nil⟩⟩⟩⟩⟩
theorem mcl_58 : ∀ j ∈ ([290, 291, 292, 293, 294] : List Nat), Cond.code (mY j) (mB j) (mX j) (mR j) ∈ lw_tbl := List.forall_mem_cons.mpr ⟨mco_290, List.forall_mem_cons.mpr ⟨mco_291, List.forall_mem_cons.mpr ⟨mco_292, List.forall_mem_cons.mpr ⟨mco_293, List.forall_mem_cons.mpr ⟨mco_294, fun _ h => absurd h List.not_mem_nil⟩⟩⟩⟩⟩
theorem mcl_59 : ∀ j ∈ ([295, 296, 297, 298, 299] : List Nat), Cond.code (mY j) (mB j) (mX j) (mR j) ∈ lw_tbl := List.forall_mem_cons.mpr ⟨mco_295, List.forall_mem_cons.mpr ⟨mco_296, List.forall_mem_cons.mpr ⟨mco_297, List.forall_mem_cons.mpr ⟨mco_298, List.forall_mem_cons.mpr ⟨mco_299, fun _ h => absurd h List.not_mem_nil⟩⟩⟩⟩⟩
theorem mcl_60 : ∀ j ∈ ([300, 301, 302, 303, 304] : List Nat), Cond.code (mY j) (mB j) (mX j) (mR j) ∈ lw_tbl := List.forall_mem_cons.mpr ⟨mco_300, List.forall_mem_cons.mpr ⟨mco_301, List.forall_mem_cons.mpr ⟨mco_302, List.forall_mem_cons.mpr ⟨mco_303, List.forall_mem_cons.mpr ⟨mco_304, fun _ h => absurd h List.not_mem_nil⟩⟩⟩⟩⟩
theorem mcl_61 : ∀ j ∈ ([305, 306, 307, 308, 309] : List Nat), Cond.code (mY j) (mB j) (mX j) (mR j) ∈ lw_tbl := List.forall_mem_cons.mpr ⟨mco_305, List.forall_mem_cons.mpr ⟨mco_306, List.forall_mem_cons.mpr ⟨mco_307, List.forall_mem_cons.mpr ⟨mco_308, List.forall_mem_cons.mpr ⟨mco_309, fun _ h => absurd h List.not_mem_nil⟩⟩⟩⟩⟩
theorem mcl_62 : ∀ j ∈ ([310, 311, 312, 313, 314] : List Nat), Cond.code (mY j) (mB j) (mX j) (mR j) ∈ lw_tbl := List.forall_mem_cons.mpr ⟨mco_310, List.forall_mem_cons.mpr ⟨mco_311, List.forall_mem_cons.mpr ⟨mco_312, List.forall_mem_cons.mpr ⟨mco_313, List.forall_mem_cons.mpr ⟨mco_314, fun _ h => absurd h List.not_mem_nil⟩⟩⟩⟩⟩
theorem mcl_63 : ∀ j ∈ ([315, 316, 317, 318, 319] : List Nat), Cond.code (mY j) (mB j) (mX j) (mR j) ∈ lw_tbl := List.forall_mem_cons.mpr ⟨mco_315, List.forall_mem_cons.mpr ⟨mco_316, List.forall_mem_cons.mpr ⟨mco_317, List.forall_mem_cons.mpr ⟨mco_318, List.forall_mem_cons.mpr ⟨mco_319, fun _ h => absurd h List.not_mem_nil⟩⟩⟩⟩⟩
theorem mcl_64 : ∀ j ∈ ([320, 321, 322, 323, 324] : List Nat), Cond.code (mY j) (mB j) (mX j) (mR j) ∈ lw_tbl := List.forall_mem_cons.mpr ⟨mco_320, List.forall_mem_cons.mpr ⟨mco_321, List.forall_mem_cons.mpr ⟨mco_322, List.forall_mem_cons.mpr ⟨mco_323, List.forall_mem_cons.mpr ⟨mco_324, fun _ h => absurd h List.not_mem_nil⟩⟩⟩⟩⟩
theorem mco_in : ∀ j, j < 325 → Cond.code (mY j) (mB j) (mX j) (mR j) ∈ lw_tbl := by
  intro j hj
  have h : j ∈ ([0, 1, 2, 3, 4] : List Nat) ++ [5, 6, 7, 8, 9] ++ [10, 11, 12, 13, 14] ++ [15, 16, 17, 18, 19] ++ [20, 21, 22, 23, 24] ++ [25, 26, 27, 28, 29] ++ [30, 31, 32, 33, 34] ++ [35, 36, 37, 38, 39] ++ [40, 41, 42, 43, 44] ++ [45, 46, 47, 48, 49] ++ [50, 51, 52, 53, 54] ++ [55, 56, 57, 58, 59] ++ [60, 61, 62, 63, 64] ++ [65, 66, 67, 68, 69] ++ [70, 71, 72, 73, 74] ++ [75, 76, 77, 78, 79] ++ [80, 81, 82, 83, 84] ++ [85, 86, 87, 88, 89] ++ [90, 91, 92, 93, 94] ++ [95, 96, 97, 98, 99] ++ [100, 101, 102, 103, 104] ++ [105, 106, 107, 108, 109] ++ [110, 111, 112, 113, 114] ++ [115, 116, 117, 118, 119] ++ [120, 121, 122, 123, 124] ++ [125, 126, 127, 128, 129] ++ [130, 131, 132, 133, 134] ++ [135, 136, 137, 138, 139] ++ [140, 141, 142, 143, 144] ++ [145, 146, 147, 148, 149] ++ [150, 151, 152, 153, 154] ++ [155, 156, 157, 158, 159] ++ [160, 161, 162, 163, 164] ++ [165, 166, 167, 168, 169] ++ [170, 171, 172, 173, 174] ++ [175, 176, 177, 178, 179] ++ [180, 181, 182, 183, 184] ++ [185, 186, 187, 188, 189] ++ [190, 191, 192, 193, 194] ++ [195, 196, 197, 198, 199] ++ [200, 201, 202, 203, 204] ++ [205, 206, 207, 208, 209] ++ [210, 211, 212, 213, 214] ++ [215, 216, 217, 218, 219] ++ [220, 221, 222, 223, 224] ++ [225, 226, 227, 228, 229] ++ [230, 231, 232, 233, 234] ++ [235, 236, 237, 238, 239] ++ [240, 241, 242, 243, 244] ++ [245, 246, 247, 248, 249] ++ [250, 251, 252, 253, 254] ++ [255, 256, 257, 258, 259] ++ [260, 261, 262, 263, 264] ++ [265, 266, 267, 268, 269] ++ [270, 271, 272, 273, 274] ++ [275, 276, 277, 278, 279] ++ [280, 281, 282, 283, 284] ++ [285, 286, 287, 288, 289] ++ [290, 291, 292, 293, 294] ++ [295, 296, 297, 298, 299] ++ [300, 301, 302, 303, 304] ++ [305, 306, 307, 308, 309] ++ [310, 311, 312, 313, 314] ++ [315, 316, 317, 318, 319] ++ [320, 321, 322, 323, 324] := by
    have : ∀ j, j < 325 → j ∈ ([0, 1, 2, 3, 4] : List Nat) ++ [5, 6, 7, 8, 9] ++ [10, 11, 12, 13, 14] ++ [15, 16, 17, 18, 19] ++ [20, 21, 22, 23, 24] ++ [25, 26, 27, 28, 29] ++ [30, 31, 32, 33, 34] ++ [35, 36, 37, 38, 39] ++ [40, 41, 42, 43, 44] ++ [45, 46, 47, 48, 49] ++ [50, 51, 52, 53, 54] ++ [55, 56, 57, 58, 59] ++ [60, 61, 62, 63, 64] ++ [65, 66, 67, 68, 69] ++ [70, 71, 72, 73, 74] ++ [75, 76, 77, 78, 79] ++ [80, 81, 82, 83, 84] ++ [85, 86, 87, 88, 89] ++ [90, 91, 92, 93, 94] ++ [95, 96, 97, 98, 99] ++ [100, 101, 102, 103, 104] ++ [105, 106, 107, 108, 109] ++ [110, 111, 112, 113, 114] ++ [115, 116, 117, 118, 119] ++ [120, 121, 122, 123, 124] ++ [125, 126, 127, 128, 129] ++ [130, 131, 132, 133, 134] ++ [135, 136, 137, 138, 139] ++ [140, 141, 142, 143, 144] ++ [145, 146, 147, 148, 149] ++ [150, 151, 152, 153, 154] ++ [155, 156, 157, 158, 159] ++ [160, 161, 162, 163, 164] ++ [165, 166, 167, 168, 169] ++ [170, 171, 172, 173, 174] ++ [175, 176, 177, 178, 179] ++ [180, 181, 182, 183, 184] ++ [185, 186, 187, 188, 189] ++ [190, 191, 192, 193, 194] ++ [195, 196, 197, 198, 199] ++ [200, 201, 202, 203, 204] ++ [205, 206, 207, 208, 209] ++ [210, 211, 212, 213, 214] ++ [215, 216, 217, 218, 219] ++ [220, 221, 222, 223, 224] ++ [225, 226, 227, 228, 229] ++ [230, 231, 232, 233, 234] ++ [235, 236, 237, 238, 239] ++ [240, 241, 242, 243, 244] ++ [245, 246, 247, 248, 249] ++ [250, 251, 252, 253, 254] ++ [255, 256, 257, 258, 259] ++ [260, 261, 262, 263, 264] ++ [265, 266, 267, 268, 269] ++ [270, 271, 272, 273, 274] ++ [275, 276, 277, 278, 279] ++ [280, 281, 282, 283, 284] ++ [285, 286, 287, 288, 289] ++ [290, 291, 292, 293, 294] ++ [295, 296, 297, 298, 299] ++ [300, 301, 302, 303, 304] ++ [305, 306, 307, 308, 309] ++ [310, 311, 312, 313, 314] ++ [315, 316, 317, 318, 319] ++ [320, 321, 322, 323, 324] := by decide +kernel
    exact this j hj
  simp only [List.mem_append, or_assoc] at h
  rcases h with h | h | h | h | h | h | h | h | h | h | h | h | h | h | h | h | h | h | h | h | h | h | h | h | h | h | h | h | h | h | h | h | h | h | h | h | h | h | h | h | h | h | h | h | h | h | h | h | h | h | h | h | h | h | h | h | h | h | h | h | h | h | h | h | h
  · exact mcl_0 j h
  · exact mcl_1 j h
  · exact mcl_2 j h
  · exact mcl_3 j h
  · exact mcl_4 j h
  · exact mcl_5 j h
  · exact mcl_6 j h
  · exact mcl_7 j h
  · exact mcl_8 j h
  · exact mcl_9 j h
  · exact mcl_10 j h
  · exact mcl_11 j h
  · exact mcl_12 j h
  · exact mcl_13 j h
  · exact mcl_14 j h
  · exact mcl_15 j h
  · exact mcl_16 j h
  · exact mcl_17 j h
  · exact mcl_18 j h
  · exact mcl_19 j h
  · exact mcl_20 j h
  · exact mcl_21 j h
  · exact mcl_22 j h
  · exact mcl_23 j h
  · exact mcl_24 j h
  · exact mcl_25 j h
  · exact mcl_26 j h
  · exact mcl_27 j h
  · exact mcl_28 j h
  · exact mcl_29 j h
  · exact mcl_30 j h
  · exact mcl_31 j h
  · exact mcl_32 j h
  · exact mcl_33 j h
  · exact mcl_34 j h
  · exact mcl_35 j h
  · exact mcl_36 j h
  · exact mcl_37 j h
  · exact mcl_38 j h
  · exact mcl_39 j h
  · exact mcl_40 j h
  · exact mcl_41 j h
  · exact mcl_42 j h
  · exact mcl_43 j h
  · exact mcl_44 j h
  · exact mcl_45 j h
  · exact mcl_46 j h
  · exact mcl_47 j h
  · exact mcl_48 j h
  · exact mcl_49 j h
  · exact mcl_50 j h
  · exact mcl_51 j h
  · exact mcl_52 j h
  · exact mcl_53 j h
  · exact mcl_54 j h
  · exact mcl_55 j h
  · exact mcl_56 j h
  · exact mcl_57 j h
  · exact mcl_58 j h
  · exact mcl_59 j h
  · exact mcl_60 j h
  · exact mcl_61 j h
  · exact mcl_62 j h
  · exact mcl_63 j h
  · exact mcl_64 j h

set_option maxRecDepth 100000 in
theorem cd_50 : Cond.code (ab_mn 50) (ab_by 50) (ab_mx 50) (ab_rt 50) ∈ lw_tbl := List.mem_of_getElem? (i := 851) rfl
theorem om_50 : ab_okm 50 = true := by decide +kernel
theorem ok_50 : ab_okc 50 0 (ab_code 50) = true := by decide +kernel
set_option maxRecDepth 100000 in
theorem cd_51 : Cond.code (ab_mn 51) (ab_by 51) (ab_mx 51) (ab_rt 51) ∈ lw_tbl := List.mem_of_getElem? (i := 856) rfl
theorem om_51 : ab_okm 51 = true := by decide +kernel
theorem ok_51 : ab_okc 51 0 (ab_code 51) = true := by decide +kernel
set_option maxRecDepth 100000 in
theorem cd_52 : Cond.code (ab_mn 52) (ab_by 52) (ab_mx 52) (ab_rt 52) ∈ lw_tbl := List.mem_of_getElem? (i := 868) rfl
theorem om_52 : ab_okm 52 = true := by decide +kernel
theorem ok_52 : ab_okc 52 0 (ab_code 52) = true := by decide +kernel
set_option maxRecDepth 100000 in
theorem cd_53 : Cond.code (ab_mn 53) (ab_by 53) (ab_mx 53) (ab_rt 53) ∈ lw_tbl := List.mem_of_getElem? (i := 469) rfl
theorem om_53 : ab_okm 53 = true := by decide +kernel
theorem ok_53 : ab_okc 53 0 (ab_code 53) = true := by decide +kernel
set_option maxRecDepth 100000 in
theorem cd_54 : Cond.code (ab_mn 54) (ab_by 54) (ab_mx 54) (ab_rt 54) ∈ lw_tbl := List.mem_of_getElem? (i := 923) rfl
theorem om_54 : ab_okm 54 = true := by decide +kernel
theorem ok_54 : ab_okc 54 0 (ab_code 54) = true := by decide +kernel
set_option maxRecDepth 100000 in
theorem cd_55 : Cond.code (ab_mn 55) (ab_by 55) (ab_mx 55) (ab_rt 55) ∈ lw_tbl := List.mem_of_getElem? (i := 927) rfl
theorem om_55 : ab_okm 55 = true := by decide +kernel
theorem ok_55 : ab_okc 55 0 (ab_code 55) = true := by decide +kernel
set_option maxRecDepth 100000 in
theorem cd_56 : Cond.code (ab_mn 56) (ab_by 56) (ab_mx 56) (ab_rt 56) ∈ lw_tbl := List.mem_of_getElem? (i := 931) rfl
theorem om_56 : ab_okm 56 = true := by decide +kernel
theorem ok_56 : ab_okc 56 0 (ab_code 56) = true := by decide +kernel
set_option maxRecDepth 100000 in
theorem cd_57 : Cond.code (ab_mn 57) (ab_by 57) (ab_mx 57) (ab_rt 57) ∈ lw_tbl := List.mem_of_getElem? (i := 935) rfl
theorem om_57 : ab_okm 57 = true := by decide +kernel
theorem ok_57 : ab_okc 57 0 (ab_code 57) = true := by decide +kernel
set_option maxRecDepth 100000 in
theorem cd_58 : Cond.code (ab_mn 58) (ab_by 58) (ab_mx 58) (ab_rt 58) ∈ lw_tbl := List.mem_of_getElem? (i := 939) rfl
theorem om_58 : ab_okm 58 = true := by decide +kernel
theorem ok_58 : ab_okc 58 0 (ab_code 58) = true := by decide +kernel
set_option maxRecDepth 100000 in
theorem cd_59 : Cond.code (ab_mn 59) (ab_by 59) (ab_mx 59) (ab_rt 59) ∈ lw_tbl := List.mem_of_getElem? (i := 996) rfl
theorem om_59 : ab_okm 59 = true := by decide +kernel
theorem ok_59 : ab_okc 59 0 (ab_code 59) = true := by decide +kernel
set_option maxRecDepth 100000 in
theorem cd_60 : Cond.code (ab_mn 60) (ab_by 60) (ab_mx 60) (ab_rt 60) ∈ lw_tbl := List.mem_of_getElem? (i := 1011) rfl
theorem om_60 : ab_okm 60 = true := by decide +kernel
theorem ok_60 : ab_okc 60 0 (ab_code 60) = true := by decide +kernel
set_option maxRecDepth 100000 in
theorem cd_61 : Cond.code (ab_mn 61) (ab_by 61) (ab_mx 61) (ab_rt 61) ∈ lw_tbl := List.mem_of_getElem? (i := 1015) rfl
theorem om_61 : ab_okm 61 = true := by decide +kernel
theorem ok_61 : ab_okc 61 0 (ab_code 61) = true := by decide +kernel
set_option maxRecDepth 100000 in
theorem cd_62 : Cond.code (ab_mn 62) (ab_by 62) (ab_mx 62) (ab_rt 62) ∈ lw_tbl := List.mem_of_getElem? (i := 1103) rfl
theorem om_62 : ab_okm 62 = true := by decide +kernel
theorem ok_62 : ab_okc 62 0 (ab_code 62) = true := by decide +kernel
set_option maxRecDepth 100000 in
theorem cd_63 : Cond.code (ab_mn 63) (ab_by 63) (ab_mx 63) (ab_rt 63) ∈ lw_tbl := List.mem_of_getElem? (i := 1107) rfl
theorem om_63 : ab_okm 63 = true := by decide +kernel
theorem ok_63 : ab_okc 63 0 (ab_code 63) = true := by decide +kernel
set_option maxRecDepth 100000 in
theorem cd_64 : Cond.code (ab_mn 64) (ab_by 64) (ab_mx 64) (ab_rt 64) ∈ lw_tbl := List.mem_of_getElem? (i := 317) rfl
theorem om_64 : ab_okm 64 = true := by decide +kernel
theorem ok_64 : ab_okc 64 0 (ab_code 64) = true := by decide +kernel
set_option maxRecDepth 100000 in
theorem cd_65 : Cond.code (ab_mn 65) (ab_by 65) (ab_mx 65) (ab_rt 65) ∈ lw_tbl := List.mem_of_getElem? (i := 883) rfl
theorem om_65 : ab_okm 65 = true := by decide +kernel
theorem ok_65 : ab_okc 65 0 (ab_code 65) = true := by decide +kernel
set_option maxRecDepth 100000 in
theorem cd_66 : Cond.code (ab_mn 66) (ab_by 66) (ab_mx 66) (ab_rt 66) ∈ lw_tbl := List.mem_of_getElem? (i := 888) rfl
theorem om_66 : ab_okm 66 = true := by decide +kernel
theorem ok_66 : ab_okc 66 0 (ab_code 66) = true := by decide +kernel
set_option maxRecDepth 100000 in
theorem cd_67 : Cond.code (ab_mn 67) (ab_by 67) (ab_mx 67) (ab_rt 67) ∈ lw_tbl := List.mem_of_getElem? (i := 891) rfl
theorem om_67 : ab_okm 67 = true := by decide +kernel
theorem ok_67 : ab_okc 67 0 (ab_code 67) = true := by decide +kernel
set_option maxRecDepth 100000 in
theorem cd_68 : Cond.code (ab_mn 68) (ab_by 68) (ab_mx 68) (ab_rt 68) ∈ lw_tbl := List.mem_of_getElem? (i := 895) rfl
theorem om_68 : ab_okm 68 = true := by decide +kernel
theorem ok_68 : ab_okc 68 0 (ab_code 68) = true := by decide +kernel
set_option maxRecDepth 100000 in
theorem cd_69 : Cond.code (ab_mn 69) (ab_by 69) (ab_mx 69) (ab_rt 69) ∈ lw_tbl := List.mem_of_getElem? (i := 911) rfl
theorem om_69 : ab_okm 69 = true := by decide +kernel
theorem ok_69 : ab_okc 69 0 (ab_code 69) = true := by decide +kernel
set_option maxRecDepth 100000 in
theorem cd_70 : Cond.code (ab_mn 70) (ab_by 70) (ab_mx 70) (ab_rt 70) ∈ lw_tbl := List.mem_of_getElem? (i := 915) rfl
theorem om_70 : ab_okm 70 = true := by decide +kernel
theorem ok_70 : ab_okc 70 0 (ab_code 70) = true := by decide +kernel
set_option maxRecDepth 100000 in
theorem cd_71 : Cond.code (ab_mn 71) (ab_by 71) (ab_mx 71) (ab_rt 71) ∈ lw_tbl := List.mem_of_getElem? (i := 919) rfl
theorem om_71 : ab_okm 71 = true := by decide +kernel
theorem ok_71 : ab_okc 71 0 (ab_code 71) = true := by decide +kernel
set_option maxRecDepth 100000 in
theorem cd_72 : Cond.code (ab_mn 72) (ab_by 72) (ab_mx 72) (ab_rt 72) ∈ lw_tbl := List.mem_of_getElem? (i := 1027) rfl
theorem om_72 : ab_okm 72 = true := by decide +kernel
theorem ok_72 : ab_okc 72 0 (ab_code 72) = true := by decide +kernel
set_option maxRecDepth 100000 in
theorem cd_73 : Cond.code (ab_mn 73) (ab_by 73) (ab_mx 73) (ab_rt 73) ∈ lw_tbl := List.mem_of_getElem? (i := 1053) rfl
theorem om_73 : ab_okm 73 = true := by decide +kernel
theorem ok_73 : ab_okc 73 0 (ab_code 73) = true := by decide +kernel
set_option maxRecDepth 100000 in
theorem cd_74 : Cond.code (ab_mn 74) (ab_by 74) (ab_mx 74) (ab_rt 74) ∈ lw_tbl := List.mem_of_getElem? (i := 1120) rfl
theorem om_74 : ab_okm 74 = true := by decide +kernel
theorem ok_74 : ab_okc 74 0 (ab_code 74) = true := by decide +kernel
set_option maxRecDepth 100000 in
theorem cd_75 : Cond.code (ab_mn 75) (ab_by 75) (ab_mx 75) (ab_rt 75) ∈ lw_tbl := List.mem_of_getElem? (i := 1140) rfl
theorem om_75 : ab_okm 75 = true := by decide +kernel
theorem ok_75 : ab_okc 75 0 (ab_code 75) = true := by decide +kernel
set_option maxRecDepth 100000 in
theorem cd_76 : Cond.code (ab_mn 76) (ab_by 76) (ab_mx 76) (ab_rt 76) ∈ lw_tbl := List.mem_of_getElem? (i := 131) rfl
theorem om_76 : ab_okm 76 = true := by decide +kernel
theorem ok_76 : ab_okc 76 0 (ab_code 76) = true := by decide +kernel
set_option maxRecDepth 100000 in
theorem cd_77 : Cond.code (ab_mn 77) (ab_by 77) (ab_mx 77) (ab_rt 77) ∈ lw_tbl := List.mem_of_getElem? (i := 626) rfl
theorem om_77 : ab_okm 77 = true := by decide +kernel
theorem ok_77 : ab_okc 77 0 (ab_code 77) = true := by decide +kernel
set_option maxRecDepth 100000 in
theorem cd_78 : Cond.code (ab_mn 78) (ab_by 78) (ab_mx 78) (ab_rt 78) ∈ lw_tbl := List.mem_of_getElem? (i := 646) rfl
theorem om_78 : ab_okm 78 = true := by decide +kernel
theorem ok_78 : ab_okc 78 0 (ab_code 78) = true := by decide +kernel
set_option maxRecDepth 100000 in
theorem cd_79 : Cond.code (ab_mn 79) (ab_by 79) (ab_mx 79) (ab_rt 79) ∈ lw_tbl := List.mem_of_getElem? (i := 650) rfl
theorem om_79 : ab_okm 79 = true := by decide +kernel
theorem ok_79 : ab_okc 79 0 (ab_code 79) = true := by decide +kernel
set_option maxRecDepth 100000 in
theorem cd_80 : Cond.code (ab_mn 80) (ab_by 80) (ab_mx 80) (ab_rt 80) ∈ lw_tbl := List.mem_of_getElem? (i := 654) rfl
theorem om_80 : ab_okm 80 = true := by decide +kernel
theorem ok_80 : ab_okc 80 0 (ab_code 80) = true := by decide +kernel
set_option maxRecDepth 100000 in
theorem cd_81 : Cond.code (ab_mn 81) (ab_by 81) (ab_mx 81) (ab_rt 81) ∈ lw_tbl := List.mem_of_getElem? (i := 657) rfl
theorem om_81 : ab_okm 81 = true := by decide +kernel
theorem ok_81 : ab_okc 81 0 (ab_code 81) = true := by decide +kernel
set_option maxRecDepth 100000 in
theorem cd_82 : Cond.code (ab_mn 82) (ab_by 82) (ab_mx 82) (ab_rt 82) ∈ lw_tbl := List.mem_of_getElem? (i := 660) rfl
theorem om_82 : ab_okm 82 = true := by decide +kernel
theorem ok_82 : ab_okc 82 0 (ab_code 82) = true := by decide +kernel
set_option maxRecDepth 100000 in
theorem cd_83 : Cond.code (ab_mn 83) (ab_by 83) (ab_mx 83) (ab_rt 83) ∈ lw_tbl := List.mem_of_getElem? (i := 663) rfl
theorem om_83 : ab_okm 83 = true := by decide +kernel
theorem ok_83 : ab_okc 83 0 (ab_code 83) = true := by decide +kernel
set_option maxRecDepth 100000 in
theorem cd_84 : Cond.code (ab_mn 84) (ab_by 84) (ab_mx 84) (ab_rt 84) ∈ lw_tbl := List.mem_of_getElem? (i := 667) rfl
theorem om_84 : ab_okm 84 = true := by decide +kernel
theorem ok_84 : ab_okc 84 0 (ab_code 84) = true := by decide +kernel
set_option maxRecDepth 100000 in
theorem cd_85 : Cond.code (ab_mn 85) (ab_by 85) (ab_mx 85) (ab_rt 85) ∈ lw_tbl := List.mem_of_getElem? (i := 671) rfl
theorem om_85 : ab_okm 85 = true := by decide +kernel
theorem ok_85 : ab_okc 85 0 (ab_code 85) = true := by decide +kernel
set_option maxRecDepth 100000 in
theorem cd_86 : Cond.code (ab_mn 86) (ab_by 86) (ab_mx 86) (ab_rt 86) ∈ lw_tbl := List.mem_of_getElem? (i := 676) rfl
theorem om_86 : ab_okm 86 = true := by decide +kernel
theorem ok_86 : ab_okc 86 0 (ab_code 86) = true := by decide +kernel
set_option maxRecDepth 100000 in
theorem cd_87 : Cond.code (ab_mn 87) (ab_by 87) (ab_mx 87) (ab_rt 87) ∈ lw_tbl := List.mem_of_getElem? (i := 761) rfl
theorem om_87 : ab_okm 87 = true := by decide +kernel
theorem ok_87 : ab_okc 87 0 (ab_code 87) = true := by decide +kernel
set_option maxRecDepth 100000 in
theorem cd_88 : Cond.code (ab_mn 88) (ab_by 88) (ab_mx 88) (ab_rt 88) ∈ lw_tbl := List.mem_of_getElem? (i := 821) rfl
theorem om_88 : ab_okm 88 = true := by decide +kernel
theorem ok_88 : ab_okc 88 0 (ab_code 88) = true := by decide +kernel
set_option maxRecDepth 100000 in
theorem cd_89 : Cond.code (ab_mn 89) (ab_by 89) (ab_mx 89) (ab_rt 89) ∈ lw_tbl := List.mem_of_getElem? (i := 947) rfl
theorem om_89 : ab_okm 89 = true := by decide +kernel
theorem ok_89 : ab_okc 89 0 (ab_code 89) = true := by decide +kernel
set_option maxRecDepth 100000 in
theorem cd_90 : Cond.code (ab_mn 90) (ab_by 90) (ab_mx 90) (ab_rt 90) ∈ lw_tbl := List.mem_of_getElem? (i := 377) rfl
theorem om_90 : ab_okm 90 = true := by decide +kernel
theorem ok_90 : ab_okc 90 0 (ab_code 90) = true := by decide +kernel
set_option maxRecDepth 100000 in
theorem cd_91 : Cond.code (ab_mn 91) (ab_by 91) (ab_mx 91) (ab_rt 91) ∈ lw_tbl := List.mem_of_getElem? (i := 1133) rfl
theorem om_91 : ab_okm 91 = true := by decide +kernel
theorem ok_91 : ab_okc 91 0 (ab_code 91) = true := by decide +kernel
set_option maxRecDepth 100000 in
theorem cd_92 : Cond.code (ab_mn 92) (ab_by 92) (ab_mx 92) (ab_rt 92) ∈ lw_tbl := List.mem_of_getElem? (i := 1146) rfl
theorem om_92 : ab_okm 92 = true := by decide +kernel
theorem ok_92 : ab_okc 92 0 (ab_code 92) = true := by decide +kernel
set_option maxRecDepth 100000 in
theorem cd_93 : Cond.code (ab_mn 93) (ab_by 93) (ab_mx 93) (ab_rt 93) ∈ lw_tbl := List.mem_of_getElem? (i := 1150) rfl
theorem om_93 : ab_okm 93 = true := by decide +kernel
theorem ok_93 : ab_okc 93 0 (ab_code 93) = true := by decide +kernel
set_option maxRecDepth 100000 in
theorem cd_94 : Cond.code (ab_mn 94) (ab_by 94) (ab_mx 94) (ab_rt 94) ∈ lw_tbl := List.mem_of_getElem? (i := 1154) rfl
theorem om_94 : ab_okm 94 = true := by decide +kernel
theorem ok_94 : ab_okc 94 0 (ab_code 94) = true := by decide +kernel
set_option maxRecDepth 100000 in
theorem cd_95 : Cond.code (ab_mn 95) (ab_by 95) (ab_mx 95) (ab_rt 95) ∈ lw_tbl := List.mem_of_getElem? (i := 1158) rfl
theorem om_95 : ab_okm 95 = true := by decide +kernel
theorem ok_95 : ab_okc 95 0 (ab_code 95) = true := by decide +kernel
set_option maxRecDepth 100000 in
theorem cd_96 : Cond.code (ab_mn 96) (ab_by 96) (ab_mx 96) (ab_rt 96) ∈ lw_tbl := List.mem_of_getElem? (i := 1162) rfl
theorem om_96 : ab_okm 96 = true := by decide +kernel
theorem ok_96 : ab_okc 96 0 (ab_code 96) = true := by decide +kernel
set_option maxRecDepth 100000 in
theorem cd_97 : Cond.code (ab_mn 97) (ab_by 97) (ab_mx 97) (ab_rt 97) ∈ lw_tbl := List.mem_of_getElem? (i := 1175) rfl
theorem om_97 : ab_okm 97 = true := by decide +kernel
theorem ok_97 : ab_okc 97 0 (ab_code 97) = true := by decide +kernel
set_option maxRecDepth 100000 in
theorem cd_98 : Cond.code (ab_mn 98) (ab_by 98) (ab_mx 98) (ab_rt 98) ∈ lw_tbl := List.mem_of_getElem? (i := 1179) rfl
theorem om_98 : ab_okm 98 = true := by decide +kernel
theorem ok_98 : ab_okc 98 0 (ab_code 98) = true := by decide +kernel
set_option maxRecDepth 100000 in
theorem cd_99 : Cond.code (ab_mn 99) (ab_by 99) (ab_mx 99) (ab_rt 99) ∈ lw_tbl := List.mem_of_getElem? (i := 1184) rfl
theorem om_99 : ab_okm 99 = true := by decide +kernel
theorem ok_99 : ab_okc 99 0 (ab_code 99) = true := by decide +kernel

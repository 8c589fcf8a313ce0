set_option maxRecDepth 100000 in
theorem cd_0 : Cond.code (ab_mn 0) (ab_by 0) (ab_mx 0) (ab_rt 0) ∈ lw_tbl := List.mem_of_getElem? (i := 429) rfl
theorem om_0 : ab_okm 0 = true := by decide +kernel
theorem ok_0 : ab_okc 0 0 (ab_code 0) = true := by decide +kernel
set_option maxRecDepth 100000 in
theorem cd_1 : Cond.code (ab_mn 1) (ab_by 1) (ab_mx 1) (ab_rt 1) ∈ lw_tbl := List.mem_of_getElem? (i := 1202) rfl
theorem om_1 : ab_okm 1 = true := by decide +kernel
theorem ok_1 : ab_okc 1 0 (ab_code 1) = true := by decide +kernel
set_option maxRecDepth 100000 in
theorem cd_2 : Cond.code (ab_mn 2) (ab_by 2) (ab_mx 2) (ab_rt 2) ∈ lw_tbl := List.mem_of_getElem? (i := 1215) rfl
theorem om_2 : ab_okm 2 = true := by decide +kernel
theorem ok_2 : ab_okc 2 0 (ab_code 2) = true := by decide +kernel
set_option maxRecDepth 100000 in
theorem cd_3 : Cond.code (ab_mn 3) (ab_by 3) (ab_mx 3) (ab_rt 3) ∈ lw_tbl := List.mem_of_getElem? (i := 1219) rfl
theorem om_3 : ab_okm 3 = true := by decide +kernel
theorem ok_3 : ab_okc 3 0 (ab_code 3) = true := by decide +kernel
set_option maxRecDepth 100000 in
theorem cd_4 : Cond.code (ab_mn 4) (ab_by 4) (ab_mx 4) (ab_rt 4) ∈ lw_tbl := List.mem_of_getElem? (i := 1228) rfl
theorem om_4 : ab_okm 4 = true := by decide +kernel
theorem ok_4 : ab_okc 4 0 (ab_code 4) = true := by decide +kernel
set_option maxRecDepth 100000 in
theorem cd_5 : Cond.code (ab_mn 5) (ab_by 5) (ab_mx 5) (ab_rt 5) ∈ lw_tbl := List.mem_of_getElem? (i := 493) rfl
theorem om_5 : ab_okm 5 = true := by decide +kernel
theorem ok_5 : ab_okc 5 0 (ab_code 5) = true := by decide +kernel
set_option maxRecDepth 100000 in
theorem cd_6 : Cond.code (ab_mn 6) (ab_by 6) (ab_mx 6) (ab_rt 6) ∈ lw_tbl := List.mem_of_getElem? (i := 642) rfl
theorem om_6 : ab_okm 6 = true := by decide +kernel
theorem ok_6 : ab_okc 6 0 (ab_code 6) = true := by decide +kernel
set_option maxRecDepth 100000 in
theorem cd_7 : Cond.code (ab_mn 7) (ab_by 7) (ab_mx 7) (ab_rt 7) ∈ lw_tbl := List.mem_of_getElem? (i := 749) rfl
theorem om_7 : ab_okm 7 = true := by decide +kernel
theorem ok_7 : ab_okc 7 0 (ab_code 7) = true := by decide +kernel
set_option maxRecDepth 100000 in
theorem cd_8 : Cond.code (ab_mn 8) (ab_by 8) (ab_mx 8) (ab_rt 8) ∈ lw_tbl := List.mem_of_getElem? (i := 765) rfl
theorem om_8 : ab_okm 8 = true := by decide +kernel
theorem ok_8 : ab_okc 8 0 (ab_code 8) = true := by decide +kernel
set_option maxRecDepth 100000 in
theorem cd_9 : Cond.code (ab_mn 9) (ab_by 9) (ab_mx 9) (ab_rt 9) ∈ lw_tbl := List.mem_of_getElem? (i := 769) rfl
theorem om_9 : ab_okm 9 = true := by decide +kernel
theorem ok_9 : ab_okc 9 0 (ab_code 9) = true := by decide +kernel
set_option maxRecDepth 100000 in
theorem cd_10 : Cond.code (ab_mn 10) (ab_by 10) (ab_mx 10) (ab_rt 10) ∈ lw_tbl := List.mem_of_getElem? (i := 809) rfl
theorem om_10 : ab_okm 10 = true := by decide +kernel
theorem ok_10 : ab_okc 10 0 (ab_code 10) = true := by decide +kernel
set_option maxRecDepth 100000 in
theorem cd_11 : Cond.code (ab_mn 11) (ab_by 11) (ab_mx 11) (ab_rt 11) ∈ lw_tbl := List.mem_of_getElem? (i := 817) rfl
theorem om_11 : ab_okm 11 = true := by decide +kernel
theorem ok_11 : ab_okc 11 0 (ab_code 11) = true := by decide +kernel
set_option maxRecDepth 100000 in
theorem cd_12 : Cond.code (ab_mn 12) (ab_by 12) (ab_mx 12) (ab_rt 12) ∈ lw_tbl := List.mem_of_getElem? (i := 168) rfl
theorem om_12 : ab_okm 12 = true := by decide +kernel
theorem ok_12 : ab_okc 12 0 (ab_code 12) = true := by decide +kernel
set_option maxRecDepth 100000 in
theorem cd_13 : Cond.code (ab_mn 13) (ab_by 13) (ab_mx 13) (ab_rt 13) ∈ lw_tbl := List.mem_of_getElem? (i := 638) rfl
theorem om_13 : ab_okm 13 = true := by decide +kernel
theorem ok_13 : ab_okc 13 0 (ab_code 13) = true := by decide +kernel
set_option maxRecDepth 100000 in
theorem cd_14 : Cond.code (ab_mn 14) (ab_by 14) (ab_mx 14) (ab_rt 14) ∈ lw_tbl := List.mem_of_getElem? (i := 728) rfl
theorem om_14 : ab_okm 14 = true := by decide +kernel
theorem ok_14 : ab_okc 14 0 (ab_code 14) = true := by decide +kernel
set_option maxRecDepth 100000 in
theorem cd_15 : Cond.code (ab_mn 15) (ab_by 15) (ab_mx 15) (ab_rt 15) ∈ lw_tbl := List.mem_of_getElem? (i := 732) rfl
theorem om_15 : ab_okm 15 = true := by decide +kernel
theorem ok_15 : ab_okc 15 0 (ab_code 15) = true := by decide +kernel
set_option maxRecDepth 100000 in
theorem cd_16 : Cond.code (ab_mn 16) (ab_by 16) (ab_mx 16) (ab_rt 16) ∈ lw_tbl := List.mem_of_getElem? (i := 737) rfl
theorem om_16 : ab_okm 16 = true := by decide +kernel
theorem ok_16 : ab_okc 16 0 (ab_code 16) = true := by decide +kernel
set_option maxRecDepth 100000 in
theorem cd_17 : Cond.code (ab_mn 17) (ab_by 17) (ab_mx 17) (ab_rt 17) ∈ lw_tbl := List.mem_of_getElem? (i := 740) rfl
theorem om_17 : ab_okm 17 = true := by decide +kernel
theorem ok_17 : ab_okc 17 0 (ab_code 17) = true := by decide +kernel
set_option maxRecDepth 100000 in
theorem cd_18 : Cond.code (ab_mn 18) (ab_by 18) (ab_mx 18) (ab_rt 18) ∈ lw_tbl := List.mem_of_getElem? (i := 753) rfl
theorem om_18 : ab_okm 18 = true := by decide +kernel
theorem ok_18 : ab_okc 18 0 (ab_code 18) = true := by decide +kernel
set_option maxRecDepth 100000 in
theorem cd_19 : Cond.code (ab_mn 19) (ab_by 19) (ab_mx 19) (ab_rt 19) ∈ lw_tbl := List.mem_of_getElem? (i := 757) rfl
theorem om_19 : ab_okm 19 = true := by decide +kernel
theorem ok_19 : ab_okc 19 0 (ab_code 19) = true := by decide +kernel
set_option maxRecDepth 100000 in
theorem cd_20 : Cond.code (ab_mn 20) (ab_by 20) (ab_mx 20) (ab_rt 20) ∈ lw_tbl := List.mem_of_getElem? (i := 773) rfl
theorem om_20 : ab_okm 20 = true := by decide +kernel
theorem ok_20 : ab_okc 20 0 (ab_code 20) = true := by decide +kernel
set_option maxRecDepth 100000 in
theorem cd_21 : Cond.code (ab_mn 21) (ab_by 21) (ab_mx 21) (ab_rt 21) ∈ lw_tbl := List.mem_of_getElem? (i := 777) rfl
theorem om_21 : ab_okm 21 = true := by decide +kernel
theorem ok_21 : ab_okc 21 0 (ab_code 21) = true := by decide +kernel
set_option maxRecDepth 100000 in
theorem cd_22 : Cond.code (ab_mn 22) (ab_by 22) (ab_mx 22) (ab_rt 22) ∈ lw_tbl := List.mem_of_getElem? (i := 781) rfl
theorem om_22 : ab_okm 22 = true := by decide +kernel
theorem ok_22 : ab_okc 22 0 (ab_code 22) = true := by decide +kernel
set_option maxRecDepth 100000 in
theorem cd_23 : Cond.code (ab_mn 23) (ab_by 23) (ab_mx 23) (ab_rt 23) ∈ lw_tbl := List.mem_of_getElem? (i := 796) rfl
theorem om_23 : ab_okm 23 = true := by decide +kernel
theorem ok_23 : ab_okc 23 0 (ab_code 23) = true := by decide +kernel
set_option maxRecDepth 100000 in
theorem cd_24 : Cond.code (ab_mn 24) (ab_by 24) (ab_mx 24) (ab_rt 24) ∈ lw_tbl := List.mem_of_getElem? (i := 799) rfl
theorem om_24 : ab_okm 24 = true := by decide +kernel
theorem ok_24 : ab_okc 24 0 (ab_code 24) = true := by decide +kernel
set_option maxRecDepth 100000 in
theorem cd_25 : Cond.code (ab_mn 25) (ab_by 25) (ab_mx 25) (ab_rt 25) ∈ lw_tbl := List.mem_of_getElem? (i := 813) rfl
theorem om_25 : ab_okm 25 = true := by decide +kernel
theorem ok_25 : ab_okc 25 0 (ab_code 25) = true := by decide +kernel
set_option maxRecDepth 100000 in
theorem cd_26 : Cond.code (ab_mn 26) (ab_by 26) (ab_mx 26) (ab_rt 26) ∈ lw_tbl := List.mem_of_getElem? (i := 243) rfl
theorem om_26 : ab_okm 26 = true := by decide +kernel
theorem ok_26 : ab_okc 26 0 (ab_code 26) = true := by decide +kernel
set_option maxRecDepth 100000 in
theorem cd_27 : Cond.code (ab_mn 27) (ab_by 27) (ab_mx 27) (ab_rt 27) ∈ lw_tbl := List.mem_of_getElem? (i := 955) rfl
theorem om_27 : ab_okm 27 = true := by decide +kernel
theorem ok_27 : ab_okc 27 0 (ab_code 27) = true := by decide +kernel
set_option maxRecDepth 100000 in
theorem cd_28 : Cond.code (ab_mn 28) (ab_by 28) (ab_mx 28) (ab_rt 28) ∈ lw_tbl := List.mem_of_getElem? (i := 959) rfl
theorem om_28 : ab_okm 28 = true := by decide +kernel
theorem ok_28 : ab_okc 28 0 (ab_code 28) = true := by decide +kernel
set_option maxRecDepth 100000 in
theorem cd_29 : Cond.code (ab_mn 29) (ab_by 29) (ab_mx 29) (ab_rt 29) ∈ lw_tbl := List.mem_of_getElem? (i := 965) rfl
theorem om_29 : ab_okm 29 = true := by decide +kernel
theorem ok_29 : ab_okc 29 0 (ab_code 29) = true := by decide +kernel
set_option maxRecDepth 100000 in
theorem cd_30 : Cond.code (ab_mn 30) (ab_by 30) (ab_mx 30) (ab_rt 30) ∈ lw_tbl := List.mem_of_getElem? (i := 969) rfl
theorem om_30 : ab_okm 30 = true := by decide +kernel
theorem ok_30 : ab_okc 30 0 (ab_code 30) = true := by decide +kernel
set_option maxRecDepth 100000 in
theorem cd_31 : Cond.code (ab_mn 31) (ab_by 31) (ab_mx 31) (ab_rt 31) ∈ lw_tbl := List.mem_of_getElem? (i := 973) rfl
theorem om_31 : ab_okm 31 = true := by decide +kernel
theorem ok_31 : ab_okc 31 0 (ab_code 31) = true := by decide +kernel
set_option maxRecDepth 100000 in
theorem cd_32 : Cond.code (ab_mn 32) (ab_by 32) (ab_mx 32) (ab_rt 32) ∈ lw_tbl := List.mem_of_getElem? (i := 341) rfl
theorem om_32 : ab_okm 32 = true := by decide +kernel
theorem ok_32 : ab_okc 32 0 (ab_code 32) = true := by decide +kernel
set_option maxRecDepth 100000 in
theorem cd_33 : Cond.code (ab_mn 33) (ab_by 33) (ab_mx 33) (ab_rt 33) ∈ lw_tbl := List.mem_of_getElem? (i := 1036) rfl
theorem om_33 : ab_okm 33 = true := by decide +kernel
theorem ok_33 : ab_okc 33 0 (ab_code 33) = true := by decide +kernel
set_option maxRecDepth 100000 in
theorem cd_34 : Cond.code (ab_mn 34) (ab_by 34) (ab_mx 34) (ab_rt 34) ∈ lw_tbl := List.mem_of_getElem? (i := 1040) rfl
theorem om_34 : ab_okm 34 = true := by decide +kernel
theorem ok_34 : ab_okc 34 0 (ab_code 34) = true := by decide +kernel
set_option maxRecDepth 100000 in
theorem cd_35 : Cond.code (ab_mn 35) (ab_by 35) (ab_mx 35) (ab_rt 35) ∈ lw_tbl := List.mem_of_getElem? (i := 1045) rfl
theorem om_35 : ab_okm 35 = true := by decide +kernel
theorem ok_35 : ab_okc 35 0 (ab_code 35) = true := by decide +kernel
set_option maxRecDepth 100000 in
theorem cd_36 : Cond.code (ab_mn 36) (ab_by 36) (ab_mx 36) (ab_rt 36) ∈ lw_tbl := List.mem_of_getElem? (i := 1049) rfl
theorem om_36 : ab_okm 36 = true := by decide +kernel
theorem ok_36 : ab_okc 36 0 (ab_code 36) = true := by decide +kernel
set_option maxRecDepth 100000 in
theorem cd_37 : Cond.code (ab_mn 37) (ab_by 37) (ab_mx 37) (ab_rt 37) ∈ lw_tbl := List.mem_of_getElem? (i := 1057) rfl
theorem om_37 : ab_okm 37 = true := by decide +kernel
theorem ok_37 : ab_okc 37 0 (ab_code 37) = true := by decide +kernel
set_option maxRecDepth 100000 in
theorem cd_38 : Cond.code (ab_mn 38) (ab_by 38) (ab_mx 38) (ab_rt 38) ∈ lw_tbl := List.mem_of_getElem? (i := 1061) rfl
theorem om_38 : ab_okm 38 = true := by decide +kernel
theorem ok_38 : ab_okc 38 0 (ab_code 38) = true := by decide +kernel
set_option maxRecDepth 100000 in
theorem cd_39 : Cond.code (ab_mn 39) (ab_by 39) (ab_mx 39) (ab_rt 39) ∈ lw_tbl := List.mem_of_getElem? (i := 1067) rfl
theorem om_39 : ab_okm 39 = true := by decide +kernel
theorem ok_39 : ab_okc 39 0 (ab_code 39) = true := by decide +kernel
set_option maxRecDepth 100000 in
theorem cd_40 : Cond.code (ab_mn 40) (ab_by 40) (ab_mx 40) (ab_rt 40) ∈ lw_tbl := List.mem_of_getElem? (i := 1071) rfl
theorem om_40 : ab_okm 40 = true := by decide +kernel
theorem ok_40 : ab_okc 40 0 (ab_code 40) = true := by decide +kernel
set_option maxRecDepth 100000 in
theorem cd_41 : Cond.code (ab_mn 41) (ab_by 41) (ab_mx 41) (ab_rt 41) ∈ lw_tbl := List.mem_of_getElem? (i := 1075) rfl
theorem om_41 : ab_okm 41 = true := by decide +kernel
theorem ok_41 : ab_okc 41 0 (ab_code 41) = true := by decide +kernel
set_option maxRecDepth 100000 in
theorem cd_42 : Cond.code (ab_mn 42) (ab_by 42) (ab_mx 42) (ab_rt 42) ∈ lw_tbl := List.mem_of_getElem? (i := 1079) rfl
theorem om_42 : ab_okm 42 = true := by decide +kernel
theorem ok_42 : ab_okc 42 0 (ab_code 42) = true := by decide +kernel
set_option maxRecDepth 100000 in
theorem cd_43 : Cond.code (ab_mn 43) (ab_by 43) (ab_mx 43) (ab_rt 43) ∈ lw_tbl := List.mem_of_getElem? (i := 1091) rfl
theorem om_43 : ab_okm 43 = true := by decide +kernel
theorem ok_43 : ab_okc 43 0 (ab_code 43) = true := by decide +kernel
set_option maxRecDepth 100000 in
theorem cd_44 : Cond.code (ab_mn 44) (ab_by 44) (ab_mx 44) (ab_rt 44) ∈ lw_tbl := List.mem_of_getElem? (i := 1095) rfl
theorem om_44 : ab_okm 44 = true := by decide +kernel
theorem ok_44 : ab_okc 44 0 (ab_code 44) = true := by decide +kernel
set_option maxRecDepth 100000 in
theorem cd_45 : Cond.code (ab_mn 45) (ab_by 45) (ab_mx 45) (ab_rt 45) ∈ lw_tbl := List.mem_of_getElem? (i := 1112) rfl
theorem om_45 : ab_okm 45 = true := by decide +kernel
theorem ok_45 : ab_okc 45 0 (ab_code 45) = true := by decide +kernel
set_option maxRecDepth 100000 in
theorem cd_46 : Cond.code (ab_mn 46) (ab_by 46) (ab_mx 46) (ab_rt 46) ∈ lw_tbl := List.mem_of_getElem? (i := 287) rfl
theorem om_46 : ab_okm 46 = true := by decide +kernel
theorem ok_46 : ab_okc 46 0 (ab_code 46) = true := by decide +kernel
set_option maxRecDepth 100000 in
theorem cd_47 : Cond.code (ab_mn 47) (ab_by 47) (ab_mx 47) (ab_rt 47) ∈ lw_tbl := List.mem_of_getElem? (i := 839) rfl
theorem om_47 : ab_okm 47 = true := by decide +kernel
theorem ok_47 : ab_okc 47 0 (ab_code 47) = true := by decide +kernel
set_option maxRecDepth 100000 in
theorem cd_48 : Cond.code (ab_mn 48) (ab_by 48) (ab_mx 48) (ab_rt 48) ∈ lw_tbl := List.mem_of_getElem? (i := 843) rfl
theorem om_48 : ab_okm 48 = true := by decide +kernel
theorem ok_48 : ab_okc 48 0 (ab_code 48) = true := by decide +kernel
set_option maxRecDepth 100000 in
theorem cd_49 : Cond.code (ab_mn 49) (ab_by 49) (ab_mx 49) (ab_rt 49) ∈ lw_tbl := List.mem_of_getElem? (i := 847) rfl
theorem om_49 : ab_okm 49 = true := by decide +kernel
theorem ok_49 : ab_okc 49 0 (ab_code 49) = true := by decide +kernel

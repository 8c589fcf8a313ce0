set_option maxRecDepth 100000 in
theorem cd_100 : Cond.code (ab_mn 100) (ab_by 100) (ab_mx 100) (ab_rt 100) ∈ lw_tbl := List.mem_of_getElem? (i := 1207) rfl
theorem om_100 : ab_okm 100 = true := by decide +kernel
theorem ok_100 : ab_okc 100 0 (ab_code 100) = true := by decide +kernel
set_option maxRecDepth 100000 in
theorem cd_101 : Cond.code (ab_mn 101) (ab_by 101) (ab_mx 101) (ab_rt 101) ∈ lw_tbl := List.mem_of_getElem? (i := 1211) rfl
theorem om_101 : ab_okm 101 = true := by decide +kernel
theorem ok_101 : ab_okc 101 0 (ab_code 101) = true := by decide +kernel
set_option maxRecDepth 100000 in
theorem cd_102 : Cond.code (ab_mn 102) (ab_by 102) (ab_mx 102) (ab_rt 102) ∈ lw_tbl := List.mem_of_getElem? (i := 174) rfl
theorem om_102 : ab_okm 102 = true := by decide +kernel
theorem ok_102 : ab_okc 102 0 (ab_code 102) = true := by decide +kernel
set_option maxRecDepth 100000 in
theorem cd_103 : Cond.code (ab_mn 103) (ab_by 103) (ab_mx 103) (ab_rt 103) ∈ lw_tbl := List.mem_of_getElem? (i := 785) rfl
theorem om_103 : ab_okm 103 = true := by decide +kernel
theorem ok_103 : ab_okc 103 0 (ab_code 103) = true := by decide +kernel
set_option maxRecDepth 100000 in
theorem cd_104 : Cond.code (ab_mn 104) (ab_by 104) (ab_mx 104) (ab_rt 104) ∈ lw_tbl := List.mem_of_getElem? (i := 789) rfl
theorem om_104 : ab_okm 104 = true := by decide +kernel
theorem ok_104 : ab_okc 104 0 (ab_code 104) = true := by decide +kernel
set_option maxRecDepth 100000 in
theorem cd_105 : Cond.code (ab_mn 105) (ab_by 105) (ab_mx 105) (ab_rt 105) ∈ lw_tbl := List.mem_of_getElem? (i := 803) rfl
theorem om_105 : ab_okm 105 = true := by decide +kernel
theorem ok_105 : ab_okc 105 0 (ab_code 105) = true := by decide +kernel
set_option maxRecDepth 100000 in
theorem cd_106 : Cond.code (ab_mn 106) (ab_by 106) (ab_mx 106) (ab_rt 106) ∈ lw_tbl := List.mem_of_getElem? (i := 123) rfl
theorem om_106 : ab_okm 106 = true := by decide +kernel
theorem ok_106 : ab_okc 106 0 (ab_code 106) = true := by decide +kernel
set_option maxRecDepth 100000 in
theorem cd_107 : Cond.code (ab_mn 107) (ab_by 107) (ab_mx 107) (ab_rt 107) ∈ lw_tbl := List.mem_of_getElem? (i := 622) rfl
theorem om_107 : ab_okm 107 = true := by decide +kernel
theorem ok_107 : ab_okc 107 0 (ab_code 107) = true := by decide +kernel
set_option maxRecDepth 100000 in
theorem cd_108 : Cond.code (ab_mn 108) (ab_by 108) (ab_mx 108) (ab_rt 108) ∈ lw_tbl := List.mem_of_getElem? (i := 630) rfl
theorem om_108 : ab_okm 108 = true := by decide +kernel
theorem ok_108 : ab_okc 108 0 (ab_code 108) = true := by decide +kernel
set_option maxRecDepth 100000 in
theorem cd_109 : Cond.code (ab_mn 109) (ab_by 109) (ab_mx 109) (ab_rt 109) ∈ lw_tbl := List.mem_of_getElem? (i := 634) rfl
theorem om_109 : ab_okm 109 = true := by decide +kernel
theorem ok_109 : ab_okc 109 0 (ab_code 109) = true := by decide +kernel
set_option maxRecDepth 100000 in
theorem cd_110 : Cond.code (ab_mn 110) (ab_by 110) (ab_mx 110) (ab_rt 110) ∈ lw_tbl := List.mem_of_getElem? (i := 792) rfl
theorem om_110 : ab_okm 110 = true := by decide +kernel
theorem ok_110 : ab_okc 110 0 (ab_code 110) = true := by decide +kernel
set_option maxRecDepth 100000 in
theorem cd_111 : Cond.code (ab_mn 111) (ab_by 111) (ab_mx 111) (ab_rt 111) ∈ lw_tbl := List.mem_of_getElem? (i := 826) rfl
theorem om_111 : ab_okm 111 = true := by decide +kernel
theorem ok_111 : ab_okc 111 0 (ab_code 111) = true := by decide +kernel
set_option maxRecDepth 100000 in
theorem cd_112 : Cond.code (ab_mn 112) (ab_by 112) (ab_mx 112) (ab_rt 112) ∈ lw_tbl := List.mem_of_getElem? (i := 830) rfl
theorem om_112 : ab_okm 112 = true := by decide +kernel
theorem ok_112 : ab_okc 112 0 (ab_code 112) = true := by decide +kernel
set_option maxRecDepth 100000 in
theorem cd_113 : Cond.code (ab_mn 113) (ab_by 113) (ab_mx 113) (ab_rt 113) ∈ lw_tbl := List.mem_of_getElem? (i := 834) rfl
theorem om_113 : ab_okm 113 = true := by decide +kernel
theorem ok_113 : ab_okc 113 0 (ab_code 113) = true := by decide +kernel
set_option maxRecDepth 100000 in
theorem cd_114 : Cond.code (ab_mn 114) (ab_by 114) (ab_mx 114) (ab_rt 114) ∈ lw_tbl := List.mem_of_getElem? (i := 860) rfl
theorem om_114 : ab_okm 114 = true := by decide +kernel
theorem ok_114 : ab_okc 114 0 (ab_code 114) = true := by decide +kernel
set_option maxRecDepth 100000 in
theorem cd_115 : Cond.code (ab_mn 115) (ab_by 115) (ab_mx 115) (ab_rt 115) ∈ lw_tbl := List.mem_of_getElem? (i := 864) rfl
theorem om_115 : ab_okm 115 = true := by decide +kernel
theorem ok_115 : ab_okc 115 0 (ab_code 115) = true := by decide +kernel
set_option maxRecDepth 100000 in
theorem cd_116 : Cond.code (ab_mn 116) (ab_by 116) (ab_mx 116) (ab_rt 116) ∈ lw_tbl := List.mem_of_getElem? (i := 872) rfl
theorem om_116 : ab_okm 116 = true := by decide +kernel
theorem ok_116 : ab_okc 116 0 (ab_code 116) = true := by decide +kernel
set_option maxRecDepth 100000 in
theorem cd_117 : Cond.code (ab_mn 117) (ab_by 117) (ab_mx 117) (ab_rt 117) ∈ lw_tbl := List.mem_of_getElem? (i := 875) rfl
theorem om_117 : ab_okm 117 = true := by decide +kernel
theorem ok_117 : ab_okc 117 0 (ab_code 117) = true := by decide +kernel
set_option maxRecDepth 100000 in
theorem cd_118 : Cond.code (ab_mn 118) (ab_by 118) (ab_mx 118) (ab_rt 118) ∈ lw_tbl := List.mem_of_getElem? (i := 879) rfl
theorem om_118 : ab_okm 118 = true := by decide +kernel
theorem ok_118 : ab_okc 118 0 (ab_code 118) = true := by decide +kernel
set_option maxRecDepth 100000 in
theorem cd_119 : Cond.code (ab_mn 119) (ab_by 119) (ab_mx 119) (ab_rt 119) ∈ lw_tbl := List.mem_of_getElem? (i := 898) rfl
theorem om_119 : ab_okm 119 = true := by decide +kernel
theorem ok_119 : ab_okc 119 0 (ab_code 119) = true := by decide +kernel
set_option maxRecDepth 100000 in
theorem cd_120 : Cond.code (ab_mn 120) (ab_by 120) (ab_mx 120) (ab_rt 120) ∈ lw_tbl := List.mem_of_getElem? (i := 904) rfl
theorem om_120 : ab_okm 120 = true := by decide +kernel
theorem ok_120 : ab_okc 120 0 (ab_code 120) = true := by decide +kernel
set_option maxRecDepth 100000 in
theorem cd_121 : Cond.code (ab_mn 121) (ab_by 121) (ab_mx 121) (ab_rt 121) ∈ lw_tbl := List.mem_of_getElem? (i := 943) rfl
theorem om_121 : ab_okm 121 = true := by decide +kernel
theorem ok_121 : ab_okc 121 0 (ab_code 121) = true := by decide +kernel
set_option maxRecDepth 100000 in
theorem cd_122 : Cond.code (ab_mn 122) (ab_by 122) (ab_mx 122) (ab_rt 122) ∈ lw_tbl := List.mem_of_getElem? (i := 951) rfl
theorem om_122 : ab_okm 122 = true := by decide +kernel
theorem ok_122 : ab_okc 122 0 (ab_code 122) = true := by decide +kernel
set_option maxRecDepth 100000 in
theorem cd_123 : Cond.code (ab_mn 123) (ab_by 123) (ab_mx 123) (ab_rt 123) ∈ lw_tbl := List.mem_of_getElem? (i := 983) rfl
theorem om_123 : ab_okm 123 = true := by decide +kernel
theorem ok_123 : ab_okc 123 0 (ab_code 123) = true := by decide +kernel
set_option maxRecDepth 100000 in
theorem cd_124 : Cond.code (ab_mn 124) (ab_by 124) (ab_mx 124) (ab_rt 124) ∈ lw_tbl := List.mem_of_getElem? (i := 987) rfl
theorem om_124 : ab_okm 124 = true := by decide +kernel
theorem ok_124 : ab_okc 124 0 (ab_code 124) = true := by decide +kernel
set_option maxRecDepth 100000 in
theorem cd_125 : Cond.code (ab_mn 125) (ab_by 125) (ab_mx 125) (ab_rt 125) ∈ lw_tbl := List.mem_of_getElem? (i := 991) rfl
theorem om_125 : ab_okm 125 = true := by decide +kernel
theorem ok_125 : ab_okc 125 0 (ab_code 125) = true := by decide +kernel
set_option maxRecDepth 100000 in
theorem cd_126 : Cond.code (ab_mn 126) (ab_by 126) (ab_mx 126) (ab_rt 126) ∈ lw_tbl := List.mem_of_getElem? (i := 1003) rfl
theorem om_126 : ab_okm 126 = true := by decide +kernel
theorem ok_126 : ab_okc 126 0 (ab_code 126) = true := by decide +kernel
set_option maxRecDepth 100000 in
theorem cd_127 : Cond.code (ab_mn 127) (ab_by 127) (ab_mx 127) (ab_rt 127) ∈ lw_tbl := List.mem_of_getElem? (i := 1007) rfl
theorem om_127 : ab_okm 127 = true := by decide +kernel
theorem ok_127 : ab_okc 127 0 (ab_code 127) = true := by decide +kernel
set_option maxRecDepth 100000 in
theorem cd_128 : Cond.code (ab_mn 128) (ab_by 128) (ab_mx 128) (ab_rt 128) ∈ lw_tbl := List.mem_of_getElem? (i := 1019) rfl
theorem om_128 : ab_okm 128 = true := by decide +kernel
theorem ok_128 : ab_okc 128 0 (ab_code 128) = true := by decide +kernel
set_option maxRecDepth 100000 in
theorem cd_129 : Cond.code (ab_mn 129) (ab_by 129) (ab_mx 129) (ab_rt 129) ∈ lw_tbl := List.mem_of_getElem? (i := 1023) rfl
theorem om_129 : ab_okm 129 = true := by decide +kernel
theorem ok_129 : ab_okc 129 0 (ab_code 129) = true := by decide +kernel
set_option maxRecDepth 100000 in
theorem cd_130 : Cond.code (ab_mn 130) (ab_by 130) (ab_mx 130) (ab_rt 130) ∈ lw_tbl := List.mem_of_getElem? (i := 1032) rfl
theorem om_130 : ab_okm 130 = true := by decide +kernel
theorem ok_130 : ab_okc 130 0 (ab_code 130) = true := by decide +kernel
set_option maxRecDepth 100000 in
theorem cd_131 : Cond.code (ab_mn 131) (ab_by 131) (ab_mx 131) (ab_rt 131) ∈ lw_tbl := List.mem_of_getElem? (i := 1087) rfl
theorem om_131 : ab_okm 131 = true := by decide +kernel
theorem ok_131 : ab_okc 131 0 (ab_code 131) = true := by decide +kernel
set_option maxRecDepth 100000 in
theorem cd_132 : Cond.code (ab_mn 132) (ab_by 132) (ab_mx 132) (ab_rt 132) ∈ lw_tbl := List.mem_of_getElem? (i := 1099) rfl
theorem om_132 : ab_okm 132 = true := by decide +kernel
theorem ok_132 : ab_okc 132 0 (ab_code 132) = true := by decide +kernel
set_option maxRecDepth 100000 in
theorem cd_133 : Cond.code (ab_mn 133) (ab_by 133) (ab_mx 133) (ab_rt 133) ∈ lw_tbl := List.mem_of_getElem? (i := 1116) rfl
theorem om_133 : ab_okm 133 = true := by decide +kernel
theorem ok_133 : ab_okc 133 0 (ab_code 133) = true := by decide +kernel
set_option maxRecDepth 100000 in
theorem cd_134 : Cond.code (ab_mn 134) (ab_by 134) (ab_mx 134) (ab_rt 134) ∈ lw_tbl := List.mem_of_getElem? (i := 1124) rfl
theorem om_134 : ab_okm 134 = true := by decide +kernel
theorem ok_134 : ab_okc 134 0 (ab_code 134) = true := by decide +kernel
set_option maxRecDepth 100000 in
theorem cd_135 : Cond.code (ab_mn 135) (ab_by 135) (ab_mx 135) (ab_rt 135) ∈ lw_tbl := List.mem_of_getElem? (i := 1129) rfl
theorem om_135 : ab_okm 135 = true := by decide +kernel
theorem ok_135 : ab_okc 135 0 (ab_code 135) = true := by decide +kernel
set_option maxRecDepth 100000 in
theorem cd_136 : Cond.code (ab_mn 136) (ab_by 136) (ab_mx 136) (ab_rt 136) ∈ lw_tbl := List.mem_of_getElem? (i := 1166) rfl
theorem om_136 : ab_okm 136 = true := by decide +kernel
theorem ok_136 : ab_okc 136 0 (ab_code 136) = true := by decide +kernel
set_option maxRecDepth 100000 in
theorem cd_137 : Cond.code (ab_mn 137) (ab_by 137) (ab_mx 137) (ab_rt 137) ∈ lw_tbl := List.mem_of_getElem? (i := 1170) rfl
theorem om_137 : ab_okm 137 = true := by decide +kernel
theorem ok_137 : ab_okc 137 0 (ab_code 137) = true := by decide +kernel
set_option maxRecDepth 100000 in
theorem cd_138 : Cond.code (ab_mn 138) (ab_by 138) (ab_mx 138) (ab_rt 138) ∈ lw_tbl := List.mem_of_getElem? (i := 1190) rfl
theorem om_138 : ab_okm 138 = true := by decide +kernel
theorem ok_138 : ab_okc 138 0 (ab_code 138) = true := by decide +kernel
set_option maxRecDepth 100000 in
theorem cd_139 : Cond.code (ab_mn 139) (ab_by 139) (ab_mx 139) (ab_rt 139) ∈ lw_tbl := List.mem_of_getElem? (i := 1194) rfl
theorem om_139 : ab_okm 139 = true := by decide +kernel
theorem ok_139 : ab_okc 139 0 (ab_code 139) = true := by decide +kernel
set_option maxRecDepth 100000 in
theorem cd_140 : Cond.code (ab_mn 140) (ab_by 140) (ab_mx 140) (ab_rt 140) ∈ lw_tbl := List.mem_of_getElem? (i := 1198) rfl
theorem om_140 : ab_okm 140 = true := by decide +kernel
theorem ok_140 : ab_okc 140 0 (ab_code 140) = true := by decide +kernel
set_option maxRecDepth 100000 in
theorem cd_141 : Cond.code (ab_mn 141) (ab_by 141) (ab_mx 141) (ab_rt 141) ∈ lw_tbl := List.mem_of_getElem? (i := 1232) rfl
theorem om_141 : ab_okm 141 = true := by decide +kernel
theorem ok_141 : ab_okc 141 0 (ab_code 141) = true := by decide +kernel
set_option maxRecDepth 100000 in
theorem cd_142 : Cond.code (ab_mn 142) (ab_by 142) (ab_mx 142) (ab_rt 142) ∈ lw_tbl := List.mem_of_getElem? (i := 1236) rfl
theorem om_142 : ab_okm 142 = true := by decide +kernel
theorem ok_142 : ab_okc 142 0 (ab_code 142) = true := by decide +kernel
set_option maxRecDepth 100000 in
theorem cd_143 : Cond.code (ab_mn 143) (ab_by 143) (ab_mx 143) (ab_rt 143) ∈ lw_tbl := List.mem_of_getElem? (i := 1244) rfl
theorem om_143 : ab_okm 143 = true := by decide +kernel
theorem ok_143 : ab_okc 143 0 (ab_code 143) = true := by decide +kernel
set_option maxRecDepth 100000 in
theorem cd_144 : Cond.code (ab_mn 144) (ab_by 144) (ab_mx 144) (ab_rt 144) ∈ lw_tbl := List.mem_of_getElem? (i := 1316) rfl
theorem om_144 : ab_okm 144 = true := by decide +kernel
theorem ok_144 : ab_okc 144 0 (ab_code 144) = true := by decide +kernel
set_option maxRecDepth 100000 in
theorem cd_145 : Cond.code (ab_mn 145) (ab_by 145) (ab_mx 145) (ab_rt 145) ∈ lw_tbl := List.mem_of_getElem? (i := 1325) rfl
theorem om_145 : ab_okm 145 = true := by decide +kernel
theorem ok_145 : ab_okc 145 0 (ab_code 145) = true := by decide +kernel
set_option maxRecDepth 100000 in
theorem cd_146 : Cond.code (ab_mn 146) (ab_by 146) (ab_mx 146) (ab_rt 146) ∈ lw_tbl := List.mem_of_getElem? (i := 1333) rfl
theorem om_146 : ab_okm 146 = true := by decide +kernel
theorem ok_146 : ab_okc 146 0 (ab_code 146) = true := by decide +kernel
set_option maxRecDepth 100000 in
theorem cd_147 : Cond.code (ab_mn 147) (ab_by 147) (ab_mx 147) (ab_rt 147) ∈ lw_tbl := List.mem_of_getElem? (i := 1341) rfl
theorem om_147 : ab_okm 147 = true := by decide +kernel
theorem ok_147 : ab_okc 147 0 (ab_code 147) = true := by decide +kernel
set_option maxRecDepth 100000 in
theorem cd_148 : Cond.code (ab_mn 148) (ab_by 148) (ab_mx 148) (ab_rt 148) ∈ lw_tbl := List.mem_of_getElem? (i := 1349) rfl
theorem om_148 : ab_okm 148 = true := by decide +kernel
theorem ok_148 : ab_okc 148 0 (ab_code 148) = true := by decide +kernel
set_option maxRecDepth 100000 in
theorem cd_149 : Cond.code (ab_mn 149) (ab_by 149) (ab_mx 149) (ab_rt 149) ∈ lw_tbl := List.mem_of_getElem? (i := 1355) rfl
theorem om_149 : ab_okm 149 = true := by decide +kernel
theorem ok_149 : ab_okc 149 0 (ab_code 149) = true := by decide +kernel

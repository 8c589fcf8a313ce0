set_option maxRecDepth 100000 in
theorem cd_150 : Cond.code (ab_mn 150) (ab_by 150) (ab_mx 150) (ab_rt 150) ∈ lw_tbl := List.mem_of_getElem? (i := 1559) rfl
theorem om_150 : ab_okm 150 = true := by decide +kernel
theorem ok_150 : ab_okc 150 0 (ab_code 150) = true := by decide +kernel
set_option maxRecDepth 100000 in
theorem cd_151 : Cond.code (ab_mn 151) (ab_by 151) (ab_mx 151) (ab_rt 151) ∈ lw_tbl := List.mem_of_getElem? (i := 1563) rfl
theorem om_151 : ab_okm 151 = true := by decide +kernel
theorem ok_151 : ab_okc 151 0 (ab_code 151) = true := by decide +kernel
set_option maxRecDepth 100000 in
theorem cd_152 : Cond.code (ab_mn 152) (ab_by 152) (ab_mx 152) (ab_rt 152) ∈ lw_tbl := List.mem_of_getElem? (i := 1567) rfl
theorem om_152 : ab_okm 152 = true := by decide +kernel
theorem ok_152 : ab_okc 152 0 (ab_code 152) = true := by decide +kernel
set_option maxRecDepth 100000 in
theorem cd_153 : Cond.code (ab_mn 153) (ab_by 153) (ab_mx 153) (ab_rt 153) ∈ lw_tbl := List.mem_of_getElem? (i := 1571) rfl
theorem om_153 : ab_okm 153 = true := by decide +kernel
theorem ok_153 : ab_okc 153 0 (ab_code 153) = true := by decide +kernel
set_option maxRecDepth 100000 in
theorem cd_154 : Cond.code (ab_mn 154) (ab_by 154) (ab_mx 154) (ab_rt 154) ∈ lw_tbl := List.mem_of_getElem? (i := 1575) rfl
theorem om_154 : ab_okm 154 = true := by decide +kernel
theorem ok_154 : ab_okc 154 0 (ab_code 154) = true := by decide +kernel
set_option maxRecDepth 100000 in
theorem cd_155 : Cond.code (ab_mn 155) (ab_by 155) (ab_mx 155) (ab_rt 155) ∈ lw_tbl := List.mem_of_getElem? (i := 1579) rfl
theorem om_155 : ab_okm 155 = true := by decide +kernel
theorem ok_155 : ab_okc 155 0 (ab_code 155) = true := by decide +kernel
set_option maxRecDepth 100000 in
theorem cd_156 : Cond.code (ab_mn 156) (ab_by 156) (ab_mx 156) (ab_rt 156) ∈ lw_tbl := List.mem_of_getElem? (i := 1583) rfl
theorem om_156 : ab_okm 156 = true := by decide +kernel
theorem ok_156 : ab_okc 156 0 (ab_code 156) = true := by decide +kernel
set_option maxRecDepth 100000 in
theorem cd_157 : Cond.code (ab_mn 157) (ab_by 157) (ab_mx 157) (ab_rt 157) ∈ lw_tbl := List.mem_of_getElem? (i := 1586) rfl
theorem om_157 : ab_okm 157 = true := by decide +kernel
theorem ok_157 : ab_okc 157 0 (ab_code 157) = true := by decide +kernel
set_option maxRecDepth 100000 in
theorem cd_158 : Cond.code (ab_mn 158) (ab_by 158) (ab_mx 158) (ab_rt 158) ∈ lw_tbl := List.mem_of_getElem? (i := 1589) rfl
theorem om_158 : ab_okm 158 = true := by decide +kernel
theorem ok_158 : ab_okc 158 0 (ab_code 158) = true := by decide +kernel
set_option maxRecDepth 100000 in
theorem cd_159 : Cond.code (ab_mn 159) (ab_by 159) (ab_mx 159) (ab_rt 159) ∈ lw_tbl := List.mem_of_getElem? (i := 1593) rfl
theorem om_159 : ab_okm 159 = true := by decide +kernel
theorem ok_159 : ab_okc 159 0 (ab_code 159) = true := by decide +kernel
set_option maxRecDepth 100000 in
theorem cd_160 : Cond.code (ab_mn 160) (ab_by 160) (ab_mx 160) (ab_rt 160) ∈ lw_tbl := List.mem_of_getElem? (i := 1599) rfl
theorem om_160 : ab_okm 160 = true := by decide +kernel
theorem ok_160 : ab_okc 160 0 (ab_code 160) = true := by decide +kernel
set_option maxRecDepth 100000 in
theorem cd_161 : Cond.code (ab_mn 161) (ab_by 161) (ab_mx 161) (ab_rt 161) ∈ lw_tbl := List.mem_of_getElem? (i := 1603) rfl
theorem om_161 : ab_okm 161 = true := by decide +kernel
theorem ok_161 : ab_okc 161 0 (ab_code 161) = true := by decide +kernel
set_option maxRecDepth 100000 in
theorem cd_162 : Cond.code (ab_mn 162) (ab_by 162) (ab_mx 162) (ab_rt 162) ∈ lw_tbl := List.mem_of_getElem? (i := 1606) rfl
theorem om_162 : ab_okm 162 = true := by decide +kernel
theorem ok_162 : ab_okc 162 0 (ab_code 162) = true := by decide +kernel
set_option maxRecDepth 100000 in
theorem cd_163 : Cond.code (ab_mn 163) (ab_by 163) (ab_mx 163) (ab_rt 163) ∈ lw_tbl := List.mem_of_getElem? (i := 1610) rfl
theorem om_163 : ab_okm 163 = true := by decide +kernel
theorem ok_163 : ab_okc 163 0 (ab_code 163) = true := by decide +kernel
set_option maxRecDepth 100000 in
theorem cd_164 : Cond.code (ab_mn 164) (ab_by 164) (ab_mx 164) (ab_rt 164) ∈ lw_tbl := List.mem_of_getElem? (i := 1614) rfl
theorem om_164 : ab_okm 164 = true := by decide +kernel
theorem ok_164 : ab_okc 164 0 (ab_code 164) = true := by decide +kernel
set_option maxRecDepth 100000 in
theorem cd_165 : Cond.code (ab_mn 165) (ab_by 165) (ab_mx 165) (ab_rt 165) ∈ lw_tbl := List.mem_of_getElem? (i := 1618) rfl
theorem om_165 : ab_okm 165 = true := by decide +kernel
theorem ok_165 : ab_okc 165 0 (ab_code 165) = true := by decide +kernel
set_option maxRecDepth 100000 in
theorem cd_166 : Cond.code (ab_mn 166) (ab_by 166) (ab_mx 166) (ab_rt 166) ∈ lw_tbl := List.mem_of_getElem? (i := 1622) rfl
theorem om_166 : ab_okm 166 = true := by decide +kernel
theorem ok_166 : ab_okc 166 0 (ab_code 166) = true := by decide +kernel
set_option maxRecDepth 100000 in
theorem cd_167 : Cond.code (ab_mn 167) (ab_by 167) (ab_mx 167) (ab_rt 167) ∈ lw_tbl := List.mem_of_getElem? (i := 1626) rfl
theorem om_167 : ab_okm 167 = true := by decide +kernel
theorem ok_167 : ab_okc 167 0 (ab_code 167) = true := by decide +kernel
set_option maxRecDepth 100000 in
theorem cd_168 : Cond.code (ab_mn 168) (ab_by 168) (ab_mx 168) (ab_rt 168) ∈ lw_tbl := List.mem_of_getElem? (i := 1630) rfl
theorem om_168 : ab_okm 168 = true := by decide +kernel
theorem ok_168 : ab_okc 168 0 (ab_code 168) = true := by decide +kernel
set_option maxRecDepth 100000 in
theorem cd_169 : Cond.code (ab_mn 169) (ab_by 169) (ab_mx 169) (ab_rt 169) ∈ lw_tbl := List.mem_of_getElem? (i := 1634) rfl
theorem om_169 : ab_okm 169 = true := by decide +kernel
theorem ok_169 : ab_okc 169 0 (ab_code 169) = true := by decide +kernel
set_option maxRecDepth 100000 in
theorem cd_170 : Cond.code (ab_mn 170) (ab_by 170) (ab_mx 170) (ab_rt 170) ∈ lw_tbl := List.mem_of_getElem? (i := 1638) rfl
theorem om_170 : ab_okm 170 = true := by decide +kernel
theorem ok_170 : ab_okc 170 0 (ab_code 170) = true := by decide +kernel
set_option maxRecDepth 100000 in
theorem cd_171 : Cond.code (ab_mn 171) (ab_by 171) (ab_mx 171) (ab_rt 171) ∈ lw_tbl := List.mem_of_getElem? (i := 1642) rfl
theorem om_171 : ab_okm 171 = true := by decide +kernel
theorem ok_171 : ab_okc 171 0 (ab_code 171) = true := by decide +kernel
set_option maxRecDepth 100000 in
theorem cd_172 : Cond.code (ab_mn 172) (ab_by 172) (ab_mx 172) (ab_rt 172) ∈ lw_tbl := List.mem_of_getElem? (i := 1646) rfl
theorem om_172 : ab_okm 172 = true := by decide +kernel
theorem ok_172 : ab_okc 172 0 (ab_code 172) = true := by decide +kernel
set_option maxRecDepth 100000 in
theorem cd_173 : Cond.code (ab_mn 173) (ab_by 173) (ab_mx 173) (ab_rt 173) ∈ lw_tbl := List.mem_of_getElem? (i := 1650) rfl
theorem om_173 : ab_okm 173 = true := by decide +kernel
theorem ok_173 : ab_okc 173 0 (ab_code 173) = true := by decide +kernel
set_option maxRecDepth 100000 in
theorem cd_174 : Cond.code (ab_mn 174) (ab_by 174) (ab_mx 174) (ab_rt 174) ∈ lw_tbl := List.mem_of_getElem? (i := 1654) rfl
theorem om_174 : ab_okm 174 = true := by decide +kernel
theorem ok_174 : ab_okc 174 0 (ab_code 174) = true := by decide +kernel
set_option maxRecDepth 100000 in
theorem cd_175 : Cond.code (ab_mn 175) (ab_by 175) (ab_mx 175) (ab_rt 175) ∈ lw_tbl := List.mem_of_getElem? (i := 1657) rfl
theorem om_175 : ab_okm 175 = true := by decide +kernel
theorem ok_175 : ab_okc 175 0 (ab_code 175) = true := by decide +kernel
set_option maxRecDepth 100000 in
theorem cd_176 : Cond.code (ab_mn 176) (ab_by 176) (ab_mx 176) (ab_rt 176) ∈ lw_tbl := List.mem_of_getElem? (i := 1661) rfl
theorem om_176 : ab_okm 176 = true := by decide +kernel
theorem ok_176 : ab_okc 176 0 (ab_code 176) = true := by decide +kernel
set_option maxRecDepth 100000 in
theorem cd_177 : Cond.code (ab_mn 177) (ab_by 177) (ab_mx 177) (ab_rt 177) ∈ lw_tbl := List.mem_of_getElem? (i := 1665) rfl
theorem om_177 : ab_okm 177 = true := by decide +kernel
theorem ok_177 : ab_okc 177 0 (ab_code 177) = true := by decide +kernel
set_option maxRecDepth 100000 in
theorem cd_178 : Cond.code (ab_mn 178) (ab_by 178) (ab_mx 178) (ab_rt 178) ∈ lw_tbl := List.mem_of_getElem? (i := 1669) rfl
theorem om_178 : ab_okm 178 = true := by decide +kernel
theorem ok_178 : ab_okc 178 0 (ab_code 178) = true := by decide +kernel
set_option maxRecDepth 100000 in
theorem cd_179 : Cond.code (ab_mn 179) (ab_by 179) (ab_mx 179) (ab_rt 179) ∈ lw_tbl := List.mem_of_getElem? (i := 1672) rfl
theorem om_179 : ab_okm 179 = true := by decide +kernel
theorem ok_179 : ab_okc 179 0 (ab_code 179) = true := by decide +kernel
set_option maxRecDepth 100000 in
theorem cd_180 : Cond.code (ab_mn 180) (ab_by 180) (ab_mx 180) (ab_rt 180) ∈ lw_tbl := List.mem_of_getElem? (i := 1676) rfl
theorem om_180 : ab_okm 180 = true := by decide +kernel
theorem ok_180 : ab_okc 180 0 (ab_code 180) = true := by decide +kernel
set_option maxRecDepth 100000 in
theorem cd_181 : Cond.code (ab_mn 181) (ab_by 181) (ab_mx 181) (ab_rt 181) ∈ lw_tbl := List.mem_of_getElem? (i := 1682) rfl
theorem om_181 : ab_okm 181 = true := by decide +kernel
theorem ok_181 : ab_okc 181 0 (ab_code 181) = true := by decide +kernel
set_option maxRecDepth 100000 in
theorem cd_182 : Cond.code (ab_mn 182) (ab_by 182) (ab_mx 182) (ab_rt 182) ∈ lw_tbl := List.mem_of_getElem? (i := 1686) rfl
theorem om_182 : ab_okm 182 = true := by decide +kernel
theorem ok_182 : ab_okc 182 0 (ab_code 182) = true := by decide +kernel
set_option maxRecDepth 100000 in
theorem cd_183 : Cond.code (ab_mn 183) (ab_by 183) (ab_mx 183) (ab_rt 183) ∈ lw_tbl := List.mem_of_getElem? (i := 1690) rfl
theorem om_183 : ab_okm 183 = true := by decide +kernel
theorem ok_183 : ab_okc 183 0 (ab_code 183) = true := by decide +kernel
set_option maxRecDepth 100000 in
theorem cd_184 : Cond.code (ab_mn 184) (ab_by 184) (ab_mx 184) (ab_rt 184) ∈ lw_tbl := List.mem_of_getElem? (i := 1694) rfl
theorem om_184 : ab_okm 184 = true := by decide +kernel
theorem ok_184 : ab_okc 184 0 (ab_code 184) = true := by decide +kernel
set_option maxRecDepth 100000 in
theorem cd_185 : Cond.code (ab_mn 185) (ab_by 185) (ab_mx 185) (ab_rt 185) ∈ lw_tbl := List.mem_of_getElem? (i := 1698) rfl
theorem om_185 : ab_okm 185 = true := by decide +kernel
theorem ok_185 : ab_okc 185 0 (ab_code 185) = true := by decide +kernel
set_option maxRecDepth 100000 in
theorem cd_186 : Cond.code (ab_mn 186) (ab_by 186) (ab_mx 186) (ab_rt 186) ∈ lw_tbl := List.mem_of_getElem? (i := 1702) rfl
theorem om_186 : ab_okm 186 = true := by decide +kernel
theorem ok_186 : ab_okc 186 0 (ab_code 186) = true := by decide +kernel
set_option maxRecDepth 100000 in
theorem cd_187 : Cond.code (ab_mn 187) (ab_by 187) (ab_mx 187) (ab_rt 187) ∈ lw_tbl := List.mem_of_getElem? (i := 1707) rfl
theorem om_187 : ab_okm 187 = true := by decide +kernel
theorem ok_187 : ab_okc 187 0 (ab_code 187) = true := by decide +kernel
set_option maxRecDepth 100000 in
theorem cd_188 : Cond.code (ab_mn 188) (ab_by 188) (ab_mx 188) (ab_rt 188) ∈ lw_tbl := List.mem_of_getElem? (i := 1711) rfl
theorem om_188 : ab_okm 188 = true := by decide +kernel
theorem ok_188 : ab_okc 188 0 (ab_code 188) = true := by decide +kernel
set_option maxRecDepth 100000 in
theorem cd_189 : Cond.code (ab_mn 189) (ab_by 189) (ab_mx 189) (ab_rt 189) ∈ lw_tbl := List.mem_of_getElem? (i := 1715) rfl
theorem om_189 : ab_okm 189 = true := by decide +kernel
theorem ok_189 : ab_okc 189 0 (ab_code 189) = true := by decide +kernel
set_option maxRecDepth 100000 in
theorem cd_190 : Cond.code (ab_mn 190) (ab_by 190) (ab_mx 190) (ab_rt 190) ∈ lw_tbl := List.mem_of_getElem? (i := 1719) rfl
theorem om_190 : ab_okm 190 = true := by decide +kernel
theorem ok_190 : ab_okc 190 0 (ab_code 190) = true := by decide +kernel
set_option maxRecDepth 100000 in
theorem cd_191 : Cond.code (ab_mn 191) (ab_by 191) (ab_mx 191) (ab_rt 191) ∈ lw_tbl := List.mem_of_getElem? (i := 1723) rfl
theorem om_191 : ab_okm 191 = true := by decide +kernel
theorem ok_191 : ab_okc 191 0 (ab_code 191) = true := by decide +kernel
set_option maxRecDepth 100000 in
theorem cd_192 : Cond.code (ab_mn 192) (ab_by 192) (ab_mx 192) (ab_rt 192) ∈ lw_tbl := List.mem_of_getElem? (i := 1727) rfl
theorem om_192 : ab_okm 192 = true := by decide +kernel
theorem ok_192 : ab_okc 192 0 (ab_code 192) = true := by decide +kernel
set_option maxRecDepth 100000 in
theorem cd_193 : Cond.code (ab_mn 193) (ab_by 193) (ab_mx 193) (ab_rt 193) ∈ lw_tbl := List.mem_of_getElem? (i := 1730) rfl
theorem om_193 : ab_okm 193 = true := by decide +kernel
theorem ok_193 : ab_okc 193 0 (ab_code 193) = true := by decide +kernel
set_option maxRecDepth 100000 in
theorem cd_194 : Cond.code (ab_mn 194) (ab_by 194) (ab_mx 194) (ab_rt 194) ∈ lw_tbl := List.mem_of_getElem? (i := 1734) rfl
theorem om_194 : ab_okm 194 = true := by decide +kernel
theorem ok_194 : ab_okc 194 0 (ab_code 194) = true := by decide +kernel
set_option maxRecDepth 100000 in
theorem cd_195 : Cond.code (ab_mn 195) (ab_by 195) (ab_mx 195) (ab_rt 195) ∈ lw_tbl := List.mem_of_getElem? (i := 1738) rfl
theorem om_195 : ab_okm 195 = true := by decide +kernel
theorem ok_195 : ab_okc 195 0 (ab_code 195) = true := by decide +kernel
set_option maxRecDepth 100000 in
theorem cd_196 : Cond.code (ab_mn 196) (ab_by 196) (ab_mx 196) (ab_rt 196) ∈ lw_tbl := List.mem_of_getElem? (i := 1742) rfl
theorem om_196 : ab_okm 196 = true := by decide +kernel
theorem ok_196 : ab_okc 196 0 (ab_code 196) = true := by decide +kernel
set_option maxRecDepth 100000 in
theorem cd_197 : Cond.code (ab_mn 197) (ab_by 197) (ab_mx 197) (ab_rt 197) ∈ lw_tbl := List.mem_of_getElem? (i := 1746) rfl
theorem om_197 : ab_okm 197 = true := by decide +kernel
theorem ok_197 : ab_okc 197 0 (ab_code 197) = true := by decide +kernel
set_option maxRecDepth 100000 in
theorem cd_198 : Cond.code (ab_mn 198) (ab_by 198) (ab_mx 198) (ab_rt 198) ∈ lw_tbl := List.mem_of_getElem? (i := 1750) rfl
theorem om_198 : ab_okm 198 = true := by decide +kernel
theorem ok_198 : ab_okc 198 0 (ab_code 198) = true := by decide +kernel
set_option maxRecDepth 100000 in
theorem cd_199 : Cond.code (ab_mn 199) (ab_by 199) (ab_mx 199) (ab_rt 199) ∈ lw_tbl := List.mem_of_getElem? (i := 1754) rfl
theorem om_199 : ab_okm 199 = true := by decide +kernel
theorem ok_199 : ab_okc 199 0 (ab_code 199) = true := by decide +kernel

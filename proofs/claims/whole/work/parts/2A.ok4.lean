set_option maxRecDepth 100000 in
theorem cd_200 : Cond.code (ab_mn 200) (ab_by 200) (ab_mx 200) (ab_rt 200) ∈ lw_tbl := List.mem_of_getElem? (i := 1758) rfl
theorem om_200 : ab_okm 200 = true := by decide +kernel
theorem ok_200 : ab_okc 200 0 (ab_code 200) = true := by decide +kernel
set_option maxRecDepth 100000 in
theorem cd_201 : Cond.code (ab_mn 201) (ab_by 201) (ab_mx 201) (ab_rt 201) ∈ lw_tbl := List.mem_of_getElem? (i := 1762) rfl
theorem om_201 : ab_okm 201 = true := by decide +kernel
theorem ok_201 : ab_okc 201 0 (ab_code 201) = true := by decide +kernel
set_option maxRecDepth 100000 in
theorem cd_202 : Cond.code (ab_mn 202) (ab_by 202) (ab_mx 202) (ab_rt 202) ∈ lw_tbl := List.mem_of_getElem? (i := 1766) rfl
theorem om_202 : ab_okm 202 = true := by decide +kernel
theorem ok_202 : ab_okc 202 0 (ab_code 202) = true := by decide +kernel
set_option maxRecDepth 100000 in
theorem cd_203 : Cond.code (ab_mn 203) (ab_by 203) (ab_mx 203) (ab_rt 203) ∈ lw_tbl := List.mem_of_getElem? (i := 1770) rfl
theorem om_203 : ab_okm 203 = true := by decide +kernel
theorem ok_203 : ab_okc 203 0 (ab_code 203) = true := by decide +kernel
set_option maxRecDepth 100000 in
theorem cd_204 : Cond.code (ab_mn 204) (ab_by 204) (ab_mx 204) (ab_rt 204) ∈ lw_tbl := List.mem_of_getElem? (i := 1774) rfl
theorem om_204 : ab_okm 204 = true := by decide +kernel
theorem ok_204 : ab_okc 204 0 (ab_code 204) = true := by decide +kernel
set_option maxRecDepth 100000 in
theorem cd_205 : Cond.code (ab_mn 205) (ab_by 205) (ab_mx 205) (ab_rt 205) ∈ lw_tbl := List.mem_of_getElem? (i := 1778) rfl
theorem om_205 : ab_okm 205 = true := by decide +kernel
theorem ok_205 : ab_okc 205 0 (ab_code 205) = true := by decide +kernel
set_option maxRecDepth 100000 in
theorem cd_206 : Cond.code (ab_mn 206) (ab_by 206) (ab_mx 206) (ab_rt 206) ∈ lw_tbl := List.mem_of_getElem? (i := 1782) rfl
theorem om_206 : ab_okm 206 = true := by decide +kernel
theorem ok_206 : ab_okc 206 0 (ab_code 206) = true := by decide +kernel
set_option maxRecDepth 100000 in
theorem cd_207 : Cond.code (ab_mn 207) (ab_by 207) (ab_mx 207) (ab_rt 207) ∈ lw_tbl := List.mem_of_getElem? (i := 1786) rfl
theorem om_207 : ab_okm 207 = true := by decide +kernel
theorem ok_207 : ab_okc 207 0 (ab_code 207) = true := by decide +kernel
set_option maxRecDepth 100000 in
theorem cd_208 : Cond.code (ab_mn 208) (ab_by 208) (ab_mx 208) (ab_rt 208) ∈ lw_tbl := List.mem_of_getElem? (i := 1789) rfl
theorem om_208 : ab_okm 208 = true := by decide +kernel
theorem ok_208 : ab_okc 208 0 (ab_code 208) = true := by decide +kernel
set_option maxRecDepth 100000 in
theorem cd_209 : Cond.code (ab_mn 209) (ab_by 209) (ab_mx 209) (ab_rt 209) ∈ lw_tbl := List.mem_of_getElem? (i := 1793) rfl
theorem om_209 : ab_okm 209 = true := by decide +kernel
theorem ok_209 : ab_okc 209 0 (ab_code 209) = true := by decide +kernel
set_option maxRecDepth 100000 in
theorem cd_210 : Cond.code (ab_mn 210) (ab_by 210) (ab_mx 210) (ab_rt 210) ∈ lw_tbl := List.mem_of_getElem? (i := 1797) rfl
theorem om_210 : ab_okm 210 = true := by decide +kernel
theorem ok_210 : ab_okc 210 0 (ab_code 210) = true := by decide +kernel
set_option maxRecDepth 100000 in
theorem cd_211 : Cond.code (ab_mn 211) (ab_by 211) (ab_mx 211) (ab_rt 211) ∈ lw_tbl := List.mem_of_getElem? (i := 1802) rfl
theorem om_211 : ab_okm 211 = true := by decide +kernel
theorem ok_211 : ab_okc 211 0 (ab_code 211) = true := by decide +kernel
set_option maxRecDepth 100000 in
theorem cd_212 : Cond.code (ab_mn 212) (ab_by 212) (ab_mx 212) (ab_rt 212) ∈ lw_tbl := List.mem_of_getElem? (i := 1808) rfl
theorem om_212 : ab_okm 212 = true := by decide +kernel
theorem ok_212 : ab_okc 212 0 (ab_code 212) = true := by decide +kernel
set_option maxRecDepth 100000 in
theorem cd_213 : Cond.code (ab_mn 213) (ab_by 213) (ab_mx 213) (ab_rt 213) ∈ lw_tbl := List.mem_of_getElem? (i := 1812) rfl
theorem om_213 : ab_okm 213 = true := by decide +kernel
theorem ok_213 : ab_okc 213 0 (ab_code 213) = true := by decide +kernel
set_option maxRecDepth 100000 in
theorem cd_214 : Cond.code (ab_mn 214) (ab_by 214) (ab_mx 214) (ab_rt 214) ∈ lw_tbl := List.mem_of_getElem? (i := 1816) rfl
theorem om_214 : ab_okm 214 = true := by decide +kernel
theorem ok_214 : ab_okc 214 0 (ab_code 214) = true := by decide +kernel
set_option maxRecDepth 100000 in
theorem cd_215 : Cond.code (ab_mn 215) (ab_by 215) (ab_mx 215) (ab_rt 215) ∈ lw_tbl := List.mem_of_getElem? (i := 1822) rfl
theorem om_215 : ab_okm 215 = true := by decide +kernel
theorem ok_215 : ab_okc 215 0 (ab_code 215) = true := by decide +kernel
set_option maxRecDepth 100000 in
theorem cd_216 : Cond.code (ab_mn 216) (ab_by 216) (ab_mx 216) (ab_rt 216) ∈ lw_tbl := List.mem_of_getElem? (i := 1826) rfl
theorem om_216 : ab_okm 216 = true := by decide +kernel
theorem ok_216 : ab_okc 216 0 (ab_code 216) = true := by decide +kernel
set_option maxRecDepth 100000 in
theorem cd_217 : Cond.code (ab_mn 217) (ab_by 217) (ab_mx 217) (ab_rt 217) ∈ lw_tbl := List.mem_of_getElem? (i := 1830) rfl
theorem om_217 : ab_okm 217 = true := by decide +kernel
theorem ok_217 : ab_okc 217 0 (ab_code 217) = true := by decide +kernel
set_option maxRecDepth 100000 in
theorem cd_218 : Cond.code (ab_mn 218) (ab_by 218) (ab_mx 218) (ab_rt 218) ∈ lw_tbl := List.mem_of_getElem? (i := 1834) rfl
theorem om_218 : ab_okm 218 = true := by decide +kernel
theorem ok_218 : ab_okc 218 0 (ab_code 218) = true := by decide +kernel
set_option maxRecDepth 100000 in
theorem cd_219 : Cond.code (ab_mn 219) (ab_by 219) (ab_mx 219) (ab_rt 219) ∈ lw_tbl := List.mem_of_getElem? (i := 1838) rfl
theorem om_219 : ab_okm 219 = true := by decide +kernel
theorem ok_219 : ab_okc 219 0 (ab_code 219) = true := by decide +kernel
set_option maxRecDepth 100000 in
theorem cd_220 : Cond.code (ab_mn 220) (ab_by 220) (ab_mx 220) (ab_rt 220) ∈ lw_tbl := List.mem_of_getElem? (i := 1842) rfl
theorem om_220 : ab_okm 220 = true := by decide +kernel
theorem ok_220 : ab_okc 220 0 (ab_code 220) = true := by decide +kernel
set_option maxRecDepth 100000 in
theorem cd_221 : Cond.code (ab_mn 221) (ab_by 221) (ab_mx 221) (ab_rt 221) ∈ lw_tbl := List.mem_of_getElem? (i := 1846) rfl
theorem om_221 : ab_okm 221 = true := by decide +kernel
theorem ok_221 : ab_okc 221 0 (ab_code 221) = true := by decide +kernel
set_option maxRecDepth 100000 in
theorem cd_222 : Cond.code (ab_mn 222) (ab_by 222) (ab_mx 222) (ab_rt 222) ∈ lw_tbl := List.mem_of_getElem? (i := 1850) rfl
theorem om_222 : ab_okm 222 = true := by decide +kernel
theorem ok_222 : ab_okc 222 0 (ab_code 222) = true := by decide +kernel
set_option maxRecDepth 100000 in
theorem cd_223 : Cond.code (ab_mn 223) (ab_by 223) (ab_mx 223) (ab_rt 223) ∈ lw_tbl := List.mem_of_getElem? (i := 1854) rfl
theorem om_223 : ab_okm 223 = true := by decide +kernel
theorem ok_223 : ab_okc 223 0 (ab_code 223) = true := by decide +kernel
set_option maxRecDepth 100000 in
theorem cd_224 : Cond.code (ab_mn 224) (ab_by 224) (ab_mx 224) (ab_rt 224) ∈ lw_tbl := List.mem_of_getElem? (i := 1858) rfl
theorem om_224 : ab_okm 224 = true := by decide +kernel
theorem ok_224 : ab_okc 224 0 (ab_code 224) = true := by decide +kernel
set_option maxRecDepth 100000 in
theorem cd_225 : Cond.code (ab_mn 225) (ab_by 225) (ab_mx 225) (ab_rt 225) ∈ lw_tbl := List.mem_of_getElem? (i := 1862) rfl
theorem om_225 : ab_okm 225 = true := by decide +kernel
theorem ok_225 : ab_okc 225 0 (ab_code 225) = true := by decide +kernel
set_option maxRecDepth 100000 in
theorem cd_226 : Cond.code (ab_mn 226) (ab_by 226) (ab_mx 226) (ab_rt 226) ∈ lw_tbl := List.mem_of_getElem? (i := 1866) rfl
theorem om_226 : ab_okm 226 = true := by decide +kernel
theorem ok_226 : ab_okc 226 0 (ab_code 226) = true := by decide +kernel
set_option maxRecDepth 100000 in
theorem cd_227 : Cond.code (ab_mn 227) (ab_by 227) (ab_mx 227) (ab_rt 227) ∈ lw_tbl := List.mem_of_getElem? (i := 1870) rfl
theorem om_227 : ab_okm 227 = true := by decide +kernel
theorem ok_227 : ab_okc 227 0 (ab_code 227) = true := by decide +kernel
set_option maxRecDepth 100000 in
theorem cd_228 : Cond.code (ab_mn 228) (ab_by 228) (ab_mx 228) (ab_rt 228) ∈ lw_tbl := List.mem_of_getElem? (i := 1874) rfl
theorem om_228 : ab_okm 228 = true := by decide +kernel
theorem ok_228 : ab_okc 228 0 (ab_code 228) = true := by decide +kernel
set_option maxRecDepth 100000 in
theorem cd_229 : Cond.code (ab_mn 229) (ab_by 229) (ab_mx 229) (ab_rt 229) ∈ lw_tbl := List.mem_of_getElem? (i := 1878) rfl
theorem om_229 : ab_okm 229 = true := by decide +kernel
theorem ok_229 : ab_okc 229 0 (ab_code 229) = true := by decide +kernel
set_option maxRecDepth 100000 in
theorem cd_230 : Cond.code (ab_mn 230) (ab_by 230) (ab_mx 230) (ab_rt 230) ∈ lw_tbl := List.mem_of_getElem? (i := 1882) rfl
theorem om_230 : ab_okm 230 = true := by decide +kernel
theorem ok_230 : ab_okc 230 0 (ab_code 230) = true := by decide +kernel
set_option maxRecDepth 100000 in
theorem cd_231 : Cond.code (ab_mn 231) (ab_by 231) (ab_mx 231) (ab_rt 231) ∈ lw_tbl := List.mem_of_getElem? (i := 1886) rfl
theorem om_231 : ab_okm 231 = true := by decide +kernel
theorem ok_231 : ab_okc 231 0 (ab_code 231) = true := by decide +kernel
set_option maxRecDepth 100000 in
theorem cd_232 : Cond.code (ab_mn 232) (ab_by 232) (ab_mx 232) (ab_rt 232) ∈ lw_tbl := List.mem_of_getElem? (i := 1890) rfl
theorem om_232 : ab_okm 232 = true := by decide +kernel
theorem ok_232 : ab_okc 232 0 (ab_code 232) = true := by decide +kernel
set_option maxRecDepth 100000 in
theorem cd_233 : Cond.code (ab_mn 233) (ab_by 233) (ab_mx 233) (ab_rt 233) ∈ lw_tbl := List.mem_of_getElem? (i := 1894) rfl
theorem om_233 : ab_okm 233 = true := by decide +kernel
theorem ok_233 : ab_okc 233 0 (ab_code 233) = true := by decide +kernel
set_option maxRecDepth 100000 in
theorem cd_234 : Cond.code (ab_mn 234) (ab_by 234) (ab_mx 234) (ab_rt 234) ∈ lw_tbl := List.mem_of_getElem? (i := 1898) rfl
theorem om_234 : ab_okm 234 = true := by decide +kernel
theorem ok_234 : ab_okc 234 0 (ab_code 234) = true := by decide +kernel
set_option maxRecDepth 100000 in
theorem cd_235 : Cond.code (ab_mn 235) (ab_by 235) (ab_mx 235) (ab_rt 235) ∈ lw_tbl := List.mem_of_getElem? (i := 1902) rfl
theorem om_235 : ab_okm 235 = true := by decide +kernel
theorem ok_235 : ab_okc 235 0 (ab_code 235) = true := by decide +kernel
set_option maxRecDepth 100000 in
theorem cd_236 : Cond.code (ab_mn 236) (ab_by 236) (ab_mx 236) (ab_rt 236) ∈ lw_tbl := List.mem_of_getElem? (i := 1906) rfl
theorem om_236 : ab_okm 236 = true := by decide +kernel
theorem ok_236 : ab_okc 236 0 (ab_code 236) = true := by decide +kernel
set_option maxRecDepth 100000 in
theorem cd_237 : Cond.code (ab_mn 237) (ab_by 237) (ab_mx 237) (ab_rt 237) ∈ lw_tbl := List.mem_of_getElem? (i := 1910) rfl
theorem om_237 : ab_okm 237 = true := by decide +kernel
theorem ok_237 : ab_okc 237 0 (ab_code 237) = true := by decide +kernel
set_option maxRecDepth 100000 in
theorem cd_238 : Cond.code (ab_mn 238) (ab_by 238) (ab_mx 238) (ab_rt 238) ∈ lw_tbl := List.mem_of_getElem? (i := 1914) rfl
theorem om_238 : ab_okm 238 = true := by decide +kernel
theorem ok_238 : ab_okc 238 0 (ab_code 238) = true := by decide +kernel
set_option maxRecDepth 100000 in
theorem cd_239 : Cond.code (ab_mn 239) (ab_by 239) (ab_mx 239) (ab_rt 239) ∈ lw_tbl := List.mem_of_getElem? (i := 1918) rfl
theorem om_239 : ab_okm 239 = true := by decide +kernel
theorem ok_239 : ab_okc 239 0 (ab_code 239) = true := by decide +kernel
set_option maxRecDepth 100000 in
theorem cd_240 : Cond.code (ab_mn 240) (ab_by 240) (ab_mx 240) (ab_rt 240) ∈ lw_tbl := List.mem_of_getElem? (i := 1922) rfl
theorem om_240 : ab_okm 240 = true := by decide +kernel
theorem ok_240 : ab_okc 240 0 (ab_code 240) = true := by decide +kernel
set_option maxRecDepth 100000 in
theorem cd_241 : Cond.code (ab_mn 241) (ab_by 241) (ab_mx 241) (ab_rt 241) ∈ lw_tbl := List.mem_of_getElem? (i := 1926) rfl
theorem om_241 : ab_okm 241 = true := by decide +kernel
theorem ok_241 : ab_okc 241 0 (ab_code 241) = true := by decide +kernel
set_option maxRecDepth 100000 in
theorem cd_242 : Cond.code (ab_mn 242) (ab_by 242) (ab_mx 242) (ab_rt 242) ∈ lw_tbl := List.mem_of_getElem? (i := 1932) rfl
theorem om_242 : ab_okm 242 = true := by decide +kernel
theorem ok_242 : ab_okc 242 0 (ab_code 242) = true := by decide +kernel
set_option maxRecDepth 100000 in
theorem cd_243 : Cond.code (ab_mn 243) (ab_by 243) (ab_mx 243) (ab_rt 243) ∈ lw_tbl := List.mem_of_getElem? (i := 1936) rfl
theorem om_243 : ab_okm 243 = true := by decide +kernel
theorem ok_243 : ab_okc 243 0 (ab_code 243) = true := by decide +kernel
set_option maxRecDepth 100000 in
theorem cd_250 : Cond.code (ab_mn 250) (ab_by 250) (ab_mx 250) (ab_rt 250) ∈ lw_tbl := List.mem_of_getElem? (i := 901) rfl
theorem om_250 : ab_okm 250 = true := by decide +kernel
theorem ok_250 : ab_okc 250 0 (ab_code 250) = true := by decide +kernel
set_option maxRecDepth 100000 in
theorem cd_251 : Cond.code (ab_mn 251) (ab_by 251) (ab_mx 251) (ab_rt 251) ∈ lw_tbl := List.mem_of_getElem? (i := 907) rfl
theorem om_251 : ab_okm 251 = true := by decide +kernel
theorem ok_251 : ab_okc 251 0 (ab_code 251) = true := by decide +kernel
set_option maxRecDepth 100000 in
theorem cd_252 : Cond.code (ab_mn 252) (ab_by 252) (ab_mx 252) (ab_rt 252) ∈ lw_tbl := List.mem_of_getElem? (i := 680) rfl
theorem om_252 : ab_okm 252 = true := by decide +kernel
theorem ok_252 : ab_okc 252 0 (ab_code 252) = true := by decide +kernel
set_option maxRecDepth 100000 in
theorem cd_253 : Cond.code (ab_mn 253) (ab_by 253) (ab_mx 253) (ab_rt 253) ∈ lw_tbl := List.mem_of_getElem? (i := 684) rfl
theorem om_253 : ab_okm 253 = true := by decide +kernel
theorem ok_253 : ab_okc 253 0 (ab_code 253) = true := by decide +kernel
set_option maxRecDepth 100000 in
theorem cd_254 : Cond.code (ab_mn 254) (ab_by 254) (ab_mx 254) (ab_rt 254) ∈ lw_tbl := List.mem_of_getElem? (i := 690) rfl
theorem om_254 : ab_okm 254 = true := by decide +kernel
theorem ok_254 : ab_okc 254 0 (ab_code 254) = true := by decide +kernel
set_option maxRecDepth 100000 in
theorem cd_255 : Cond.code (ab_mn 255) (ab_by 255) (ab_mx 255) (ab_rt 255) ∈ lw_tbl := List.mem_of_getElem? (i := 694) rfl
theorem om_255 : ab_okm 255 = true := by decide +kernel
theorem ok_255 : ab_okc 255 0 (ab_code 255) = true := by decide +kernel

set_option maxRecDepth 100000 in
theorem cd_256 : Cond.code (ab_mn 256) (ab_by 256) (ab_mx 256) (ab_rt 256) ∈ lw_tbl := List.mem_of_getElem? (i := 700) rfl
theorem om_256 : ab_okm 256 = true := by decide +kernel
theorem ok_256 : ab_okc 256 0 (ab_code 256) = true := by decide +kernel
set_option maxRecDepth 100000 in
theorem cd_257 : Cond.code (ab_mn 257) (ab_by 257) (ab_mx 257) (ab_rt 257) ∈ lw_tbl := List.mem_of_getElem? (i := 697) rfl
theorem om_257 : ab_okm 257 = true := by decide +kernel
theorem ok_257 : ab_okc 257 0 (ab_code 257) = true := by decide +kernel
set_option maxRecDepth 100000 in
theorem cd_258 : Cond.code (ab_mn 258) (ab_by 258) (ab_mx 258) (ab_rt 258) ∈ lw_tbl := List.mem_of_getElem? (i := 705) rfl
theorem om_258 : ab_okm 258 = true := by decide +kernel
theorem ok_258 : ab_okc 258 0 (ab_code 258) = true := by decide +kernel

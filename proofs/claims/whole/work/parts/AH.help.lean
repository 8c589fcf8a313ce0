/-! printed by wip/whole/gen/gen6.py: the law's helpers: their words, code, contracts -/
section HELP
variable {X : ab_X} {l : Launch}
theorem ok_244 : ab_okc 244 0 (ab_code 244) = true := by decide +kernel
set_option maxRecDepth 100000 in
theorem hk_244 : ab_hok 244 := ⟨⟨List.mem_of_getElem? (i := 1239) rfl, by decide +kernel⟩, by decide +kernel, by decide +kernel, by decide +kernel, List.mem_of_getElem? (i := 96) rfl, List.mem_of_getElem? (i := 1238) rfl⟩
set_option maxRecDepth 100000 in
theorem lh_244 : ab_mlw (ab_oc 259) 56 244 ∈ lw_tbl := List.mem_of_getElem? (i := 1237) rfl
set_option maxRecDepth 100000 in
theorem lv_244 : ab_mlw (ab_oc 244) 7 143 ∈ lw_tbl := List.mem_of_getElem? (i := 1241) rfl
theorem th_143 : ab_thk 143 = true := by decide +kernel
theorem ok_245 : ab_okc 245 0 (ab_code 245) = true := by decide +kernel
set_option maxRecDepth 100000 in
theorem hk_245 : ab_hok 245 := ⟨⟨List.mem_of_getElem? (i := 1312) rfl, by decide +kernel⟩, by decide +kernel, by decide +kernel, by decide +kernel, List.mem_of_getElem? (i := 96) rfl, List.mem_of_getElem? (i := 1311) rfl⟩
set_option maxRecDepth 100000 in
theorem lh_245 : ab_mlw (ab_oc 259) 74 245 ∈ lw_tbl := List.mem_of_getElem? (i := 1310) rfl
set_option maxRecDepth 100000 in
theorem lv_245 : ab_mlw (ab_oc 245) 15 144 ∈ lw_tbl := List.mem_of_getElem? (i := 1313) rfl
theorem th_144 : ab_thk 144 = true := by decide +kernel
theorem ok_246 : ab_okc 246 0 (ab_code 246) = true := by decide +kernel
set_option maxRecDepth 100000 in
theorem hk_246 : ab_hok 246 := ⟨⟨List.mem_of_getElem? (i := 1321) rfl, by decide +kernel⟩, by decide +kernel, by decide +kernel, by decide +kernel, List.mem_of_getElem? (i := 96) rfl, List.mem_of_getElem? (i := 1320) rfl⟩
set_option maxRecDepth 100000 in
theorem lh_246 : ab_mlw (ab_oc 259) 103 246 ∈ lw_tbl := List.mem_of_getElem? (i := 1319) rfl
set_option maxRecDepth 100000 in
theorem lv_246 : ab_mlw (ab_oc 246) 19 145 ∈ lw_tbl := List.mem_of_getElem? (i := 1322) rfl
theorem th_145 : ab_thk 145 = true := by decide +kernel
theorem ok_247 : ab_okc 247 0 (ab_code 247) = true := by decide +kernel
set_option maxRecDepth 100000 in
theorem hk_247 : ab_hok 247 := ⟨⟨List.mem_of_getElem? (i := 1329) rfl, by decide +kernel⟩, by decide +kernel, by decide +kernel, by decide +kernel, List.mem_of_getElem? (i := 96) rfl, List.mem_of_getElem? (i := 1328) rfl⟩
set_option maxRecDepth 100000 in
theorem lh_247 : ab_mlw (ab_oc 259) 110 247 ∈ lw_tbl := List.mem_of_getElem? (i := 1327) rfl
set_option maxRecDepth 100000 in
theorem lv_247 : ab_mlw (ab_oc 247) 22 146 ∈ lw_tbl := List.mem_of_getElem? (i := 1330) rfl
theorem th_146 : ab_thk 146 = true := by decide +kernel
theorem ok_248 : ab_okc 248 0 (ab_code 248) = true := by decide +kernel
set_option maxRecDepth 100000 in
theorem hk_248 : ab_hok 248 := ⟨⟨List.mem_of_getElem? (i := 1337) rfl, by decide +kernel⟩, by decide +kernel, by decide +kernel, by decide +kernel, List.mem_of_getElem? (i := 96) rfl, List.mem_of_getElem? (i := 1336) rfl⟩
set_option maxRecDepth 100000 in
theorem lh_248 : ab_mlw (ab_oc 259) 145 248 ∈ lw_tbl := List.mem_of_getElem? (i := 1335) rfl
set_option maxRecDepth 100000 in
theorem lv_248 : ab_mlw (ab_oc 248) 26 147 ∈ lw_tbl := List.mem_of_getElem? (i := 1338) rfl
theorem th_147 : ab_thk 147 = true := by decide +kernel
theorem ok_249 : ab_okc 249 0 (ab_code 249) = true := by decide +kernel
set_option maxRecDepth 100000 in
theorem hk_249 : ab_hok 249 := ⟨⟨List.mem_of_getElem? (i := 1345) rfl, by decide +kernel⟩, by decide +kernel, by decide +kernel, by decide +kernel, List.mem_of_getElem? (i := 96) rfl, List.mem_of_getElem? (i := 1344) rfl⟩
set_option maxRecDepth 100000 in
theorem lh_249 : ab_mlw (ab_oc 259) 157 249 ∈ lw_tbl := List.mem_of_getElem? (i := 1343) rfl
set_option maxRecDepth 100000 in
theorem lv_249 : ab_mlw (ab_oc 249) 30 148 ∈ lw_tbl := List.mem_of_getElem? (i := 1346) rfl
theorem th_148 : ab_thk 148 = true := by decide +kernel
set_option maxRecDepth 100000 in
theorem lc_13 : Cond.classLink (ab_cn 13) 13 ab_NSE ∈ lw_tbl := List.mem_of_getElem? (i := 1240) rfl
/-- what a helper leaves: 1 if the class threw, else 0 and its answer in the row -/
def hQ (P : ab_W → Nat → Prop) (t : Bool) (r : Int64) : ab_Q := fun v w' n' => v = some (.int (b01 t)) ∧ P w' n' ∧ (t = false → ∃ f : Nat → Int64, w' 134 = aJ 1 f ∧ f 0 = r)
theorem hQ_int {P : ab_W → Nat → Prop} {t : Bool} {r : Int64} : ∀ v w n, hQ P t r v w n → ∃ x : Int32, v = some (.int x) := by
  rintro _ _ _ ⟨rfl, -⟩
  exact ⟨_, rfl⟩
theorem qT_X {y : Nat} {P : ab_W → Nat → Prop} : ∀ v w n, qT P v w n → match v with
      | some (.long _) => ab_rt y = some .long
      | some (.int _) => True
      | some (.retAddr _) => True
      | _ => False := by
  rintro _ _ _ ⟨rfl, -⟩
  trivial
theorem h_spin_n (x y : Int32) (w : ab_W) (n : Nat) {P : ab_W → Nat → Prop} {kn ks : Nat} {lf : Int32} (htr : l.stackTraces = false) (h0 : w 0 = oWP kn ks lf) (hE : ab_Ev X l 143 0 (ab_en (ab_mx 143) [.ref 0, .int x, .int y]) [] w n 1 6 (qT P)) : ab_CH X l 244 [.ref 0, .int x, .int y, .ref 134] w n 1 6 (hQ P true 0) := by
  have hX : ab_CX X l 143 [.ref 0, .int x, .int y] w n 1 6 (qT P) := ab_metX htr cd_143 om_143 rfl (by decide +kernel) rfl th_143 (by decide +kernel) (by decide +kernel) qT_X hE
  obtain ⟨w, rfl⟩ := va_ex h0
  refine ab_metH hk_244 rfl hQ_int (ab_sound ok_244 [5] 30 ?_)
  refine ab_x_callVX (i := 7) (a := 143) (b := 3) (q := 0) (sl := 4) (x0 := (0, 10, 13, 13)) (z9 := 2) (by decide +kernel) lv_244 (by decide +kernel) (by decide +kernel) (by decide +kernel) rfl rfl (by decide +kernel) rfl (Nat.le_refl _) (Nat.le_refl _) hX (by decide +kernel) rfl (by decide +kernel) rfl lc_13 (by decide +kernel) (Or.inl ⟨by decide +kernel, rfl⟩) ?_ ?_
  · rintro v w' n' hv ⟨e, -⟩
    exact absurd e hv
  · rintro w' n' ⟨-, hp⟩
    refine ab_sound ok_244 [] 30 ?_
    exact ⟨rfl, hp, fun h => nomatch h⟩
theorem h_spin_y (x y : Int32) (w : ab_W) (n : Nat) (r : Int32) {P : ab_W → Nat → Prop} {kn ks : Nat} {lf : Int32} (h0 : w 0 = oWP kn ks lf) (hE : ab_Ev X l 143 0 (ab_en (ab_mx 143) [.ref 0, .int x, .int y]) [] w n 1 6 (qI r P)) (hcl : ∀ w1 n1, P w1 n1 → (∃ f, w1 134 = aJ 1 f) ∧ ∀ f, P (va_up w1 134 (aJ 1 f)) n1) : ab_CH X l 244 [.ref 0, .int x, .int y, .ref 134] w n 1 6 (hQ P false (r.toInt64)) := by
  have hC : ab_C X l 143 [.ref 0, .int x, .int y] w n 1 6 (qI r P) := ab_mqI cd_143 om_143 rfl hE
  obtain ⟨w, rfl⟩ := va_ex h0
  refine ab_metH hk_244 rfl hQ_int (ab_sound ok_244 [] 30 ?_)
  refine Exists.intro 1 ?_
  refine ⟨6, _, Nat.le_refl _, Nat.le_refl _, hC, ?_⟩
  rintro _ w1 n1 ⟨rfl, hp⟩
  obtain ⟨⟨f, e1⟩, hc⟩ := hcl w1 n1 hp
  obtain ⟨w1, rfl⟩ := va_ex e1
  refine And.intro (vp_in_nI (by omega) (by omega)) ?_
  exact ⟨rfl, hc _, fun _ => ⟨_, va_us, rfl⟩⟩
theorem h_arm_n (x y z : Int32) (w : ab_W) (n : Nat) {P : ab_W → Nat → Prop} {kn ks : Nat} {lf : Int32} (htr : l.stackTraces = false) (h0 : w 0 = oWP kn ks lf) (hE : ab_Ev X l 144 0 (ab_en (ab_mx 144) [.ref 0, .int x, .int y, .int z]) [] w n 1 6 (qT P)) : ab_CH X l 245 [.ref 0, .int x, .int y, .int z, .ref 134] w n 1 6 (hQ P true 0) := by
  have hX : ab_CX X l 144 [.ref 0, .int x, .int y, .int z] w n 1 6 (qT P) := ab_metX htr cd_144 om_144 rfl (by decide +kernel) rfl th_144 (by decide +kernel) (by decide +kernel) qT_X hE
  obtain ⟨w, rfl⟩ := va_ex h0
  refine ab_metH hk_245 rfl hQ_int (ab_sound ok_245 [7] 30 ?_)
  refine ab_x_callVX (i := 15) (a := 144) (b := 4) (q := 0) (sl := 5) (x0 := (0, 11, 14, 13)) (z9 := 2) (by decide +kernel) lv_245 (by decide +kernel) (by decide +kernel) (by decide +kernel) rfl rfl (by decide +kernel) rfl (Nat.le_refl _) (Nat.le_refl _) hX (by decide +kernel) rfl (by decide +kernel) rfl lc_13 (by decide +kernel) (Or.inl ⟨by decide +kernel, rfl⟩) ?_ ?_
  · rintro v w' n' hv ⟨e, -⟩
    exact absurd e hv
  · rintro w' n' ⟨-, hp⟩
    refine ab_sound ok_245 [] 30 ?_
    exact ⟨rfl, hp, fun h => nomatch h⟩
theorem h_arm_y (x y z : Int32) (w : ab_W) (n : Nat) (r : Int64) {P : ab_W → Nat → Prop} {kn ks : Nat} {lf : Int32} (h0 : w 0 = oWP kn ks lf) (hE : ab_Ev X l 144 0 (ab_en (ab_mx 144) [.ref 0, .int x, .int y, .int z]) [] w n 1 6 (qL r P)) (hcl : ∀ w1 n1, P w1 n1 → (∃ f, w1 134 = aJ 1 f) ∧ ∀ f, P (va_up w1 134 (aJ 1 f)) n1) : ab_CH X l 245 [.ref 0, .int x, .int y, .int z, .ref 134] w n 1 6 (hQ P false (r)) := by
  have hC : ab_C X l 144 [.ref 0, .int x, .int y, .int z] w n 1 6 (qL r P) := ab_mqL cd_144 om_144 rfl rfl hE
  obtain ⟨w, rfl⟩ := va_ex h0
  refine ab_metH hk_245 rfl hQ_int (ab_sound ok_245 [] 30 ?_)
  refine Exists.intro 1 ?_
  refine ⟨6, _, Nat.le_refl _, Nat.le_refl _, hC, ?_⟩
  rintro _ w1 n1 ⟨rfl, hp⟩
  obtain ⟨⟨f, e1⟩, hc⟩ := hcl w1 n1 hp
  obtain ⟨w1, rfl⟩ := va_ex e1
  refine And.intro (vp_in_nI (by omega) (by omega)) ?_
  exact ⟨rfl, hc _, fun _ => ⟨_, va_us, rfl⟩⟩
theorem h_point_n (x y z : Int32) (w : ab_W) (n : Nat) {P : ab_W → Nat → Prop} {kn ks : Nat} {lf : Int32} (htr : l.stackTraces = false) (h0 : w 0 = oWP kn ks lf) (hE : ab_Ev X l 145 0 (ab_en (ab_mx 145) [.ref 0, .int x, .int y, .int z]) [] w n 1 6 (qT P)) : ab_CH X l 246 [.ref 0, .int x, .int y, .int z, .ref 134] w n 1 6 (hQ P true 0) := by
  have hX : ab_CX X l 145 [.ref 0, .int x, .int y, .int z] w n 1 6 (qT P) := ab_metX htr cd_145 om_145 rfl (by decide +kernel) rfl th_145 (by decide +kernel) (by decide +kernel) qT_X hE
  obtain ⟨w, rfl⟩ := va_ex h0
  refine ab_metH hk_246 rfl hQ_int (ab_sound ok_246 [7] 30 ?_)
  refine ab_x_callVX (i := 19) (a := 145) (b := 4) (q := 0) (sl := 5) (x0 := (0, 11, 14, 13)) (z9 := 2) (by decide +kernel) lv_246 (by decide +kernel) (by decide +kernel) (by decide +kernel) rfl rfl (by decide +kernel) rfl (Nat.le_refl _) (Nat.le_refl _) hX (by decide +kernel) rfl (by decide +kernel) rfl lc_13 (by decide +kernel) (Or.inl ⟨by decide +kernel, rfl⟩) ?_ ?_
  · rintro v w' n' hv ⟨e, -⟩
    exact absurd e hv
  · rintro w' n' ⟨-, hp⟩
    refine ab_sound ok_246 [] 30 ?_
    exact ⟨rfl, hp, fun h => nomatch h⟩
theorem h_point_y (x y z : Int32) (w : ab_W) (n : Nat) (r : Int64) {P : ab_W → Nat → Prop} {kn ks : Nat} {lf : Int32} (h0 : w 0 = oWP kn ks lf) (hE : ab_Ev X l 145 0 (ab_en (ab_mx 145) [.ref 0, .int x, .int y, .int z]) [] w n 1 6 (qL r P)) (hcl : ∀ w1 n1, P w1 n1 → (∃ f, w1 134 = aJ 1 f) ∧ ∀ f, P (va_up w1 134 (aJ 1 f)) n1) : ab_CH X l 246 [.ref 0, .int x, .int y, .int z, .ref 134] w n 1 6 (hQ P false (r)) := by
  have hC : ab_C X l 145 [.ref 0, .int x, .int y, .int z] w n 1 6 (qL r P) := ab_mqL cd_145 om_145 rfl rfl hE
  obtain ⟨w, rfl⟩ := va_ex h0
  refine ab_metH hk_246 rfl hQ_int (ab_sound ok_246 [] 30 ?_)
  refine Exists.intro 1 ?_
  refine ⟨6, _, Nat.le_refl _, Nat.le_refl _, hC, ?_⟩
  rintro _ w1 n1 ⟨rfl, hp⟩
  obtain ⟨⟨f, e1⟩, hc⟩ := hcl w1 n1 hp
  obtain ⟨w1, rfl⟩ := va_ex e1
  refine And.intro (vp_in_nI (by omega) (by omega)) ?_
  exact ⟨rfl, hc _, fun _ => ⟨_, va_us, rfl⟩⟩
theorem h_area_n (x y : Int32) (w : ab_W) (n : Nat) {P : ab_W → Nat → Prop} {kn ks : Nat} {lf : Int32} (htr : l.stackTraces = false) (h0 : w 0 = oWP kn ks lf) (hE : ab_Ev X l 146 0 (ab_en (ab_mx 146) [.ref 0, .int x, .int y]) [] w n 1 6 (qT P)) : ab_CH X l 247 [.ref 0, .int x, .int y, .ref 134] w n 1 6 (hQ P true 0) := by
  have hX : ab_CX X l 146 [.ref 0, .int x, .int y] w n 1 6 (qT P) := ab_metX htr cd_146 om_146 rfl (by decide +kernel) rfl th_146 (by decide +kernel) (by decide +kernel) qT_X hE
  obtain ⟨w, rfl⟩ := va_ex h0
  refine ab_metH hk_247 rfl hQ_int (ab_sound ok_247 [5] 30 ?_)
  refine ab_x_callVX (i := 22) (a := 146) (b := 3) (q := 0) (sl := 4) (x0 := (0, 9, 12, 13)) (z9 := 2) (by decide +kernel) lv_247 (by decide +kernel) (by decide +kernel) (by decide +kernel) rfl rfl (by decide +kernel) rfl (Nat.le_refl _) (Nat.le_refl _) hX (by decide +kernel) rfl (by decide +kernel) rfl lc_13 (by decide +kernel) (Or.inl ⟨by decide +kernel, rfl⟩) ?_ ?_
  · rintro v w' n' hv ⟨e, -⟩
    exact absurd e hv
  · rintro w' n' ⟨-, hp⟩
    refine ab_sound ok_247 [] 30 ?_
    exact ⟨rfl, hp, fun h => nomatch h⟩
theorem h_area_y (x y : Int32) (w : ab_W) (n : Nat) (r : Int64) {P : ab_W → Nat → Prop} {kn ks : Nat} {lf : Int32} (h0 : w 0 = oWP kn ks lf) (hE : ab_Ev X l 146 0 (ab_en (ab_mx 146) [.ref 0, .int x, .int y]) [] w n 1 6 (qL r P)) (hcl : ∀ w1 n1, P w1 n1 → (∃ f, w1 134 = aJ 1 f) ∧ ∀ f, P (va_up w1 134 (aJ 1 f)) n1) : ab_CH X l 247 [.ref 0, .int x, .int y, .ref 134] w n 1 6 (hQ P false (r)) := by
  have hC : ab_C X l 146 [.ref 0, .int x, .int y] w n 1 6 (qL r P) := ab_mqL cd_146 om_146 rfl rfl hE
  obtain ⟨w, rfl⟩ := va_ex h0
  refine ab_metH hk_247 rfl hQ_int (ab_sound ok_247 [] 30 ?_)
  refine Exists.intro 1 ?_
  refine ⟨6, _, Nat.le_refl _, Nat.le_refl _, hC, ?_⟩
  rintro _ w1 n1 ⟨rfl, hp⟩
  obtain ⟨⟨f, e1⟩, hc⟩ := hcl w1 n1 hp
  obtain ⟨w1, rfl⟩ := va_ex e1
  refine And.intro (vp_in_nI (by omega) (by omega)) ?_
  exact ⟨rfl, hc _, fun _ => ⟨_, va_us, rfl⟩⟩
theorem h_rightAt_n (x : Int32) (w : ab_W) (n : Nat) {P : ab_W → Nat → Prop} {kn ks : Nat} {lf : Int32} (htr : l.stackTraces = false) (h0 : w 0 = oWP kn ks lf) (hE : ab_Ev X l 147 0 (ab_en (ab_mx 147) [.ref 0, .int x]) [] w n 1 6 (qT P)) : ab_CH X l 248 [.ref 0, .int x, .ref 134] w n 1 6 (hQ P true 0) := by
  have hX : ab_CX X l 147 [.ref 0, .int x] w n 1 6 (qT P) := ab_metX htr cd_147 om_147 rfl (by decide +kernel) rfl th_147 (by decide +kernel) (by decide +kernel) qT_X hE
  obtain ⟨w, rfl⟩ := va_ex h0
  refine ab_metH hk_248 rfl hQ_int (ab_sound ok_248 [4] 30 ?_)
  refine ab_x_callVX (i := 26) (a := 147) (b := 2) (q := 0) (sl := 3) (x0 := (0, 8, 11, 13)) (z9 := 1) (by decide +kernel) lv_248 (by decide +kernel) (by decide +kernel) (by decide +kernel) rfl rfl (by decide +kernel) rfl (Nat.le_refl _) (Nat.le_refl _) hX (by decide +kernel) rfl (by decide +kernel) rfl lc_13 (by decide +kernel) (Or.inr ⟨3, by decide +kernel, rfl, rfl⟩) ?_ ?_
  · rintro v w' n' hv ⟨e, -⟩
    exact absurd e hv
  · rintro w' n' ⟨-, hp⟩
    refine ab_sound ok_248 [] 30 ?_
    exact ⟨rfl, hp, fun h => nomatch h⟩
theorem h_rightAt_y (x : Int32) (w : ab_W) (n : Nat) (r : Int64) {P : ab_W → Nat → Prop} {kn ks : Nat} {lf : Int32} (h0 : w 0 = oWP kn ks lf) (hE : ab_Ev X l 147 0 (ab_en (ab_mx 147) [.ref 0, .int x]) [] w n 1 6 (qL r P)) (hcl : ∀ w1 n1, P w1 n1 → (∃ f, w1 134 = aJ 1 f) ∧ ∀ f, P (va_up w1 134 (aJ 1 f)) n1) : ab_CH X l 248 [.ref 0, .int x, .ref 134] w n 1 6 (hQ P false (r)) := by
  have hC : ab_C X l 147 [.ref 0, .int x] w n 1 6 (qL r P) := ab_mqL cd_147 om_147 rfl rfl hE
  obtain ⟨w, rfl⟩ := va_ex h0
  refine ab_metH hk_248 rfl hQ_int (ab_sound ok_248 [] 30 ?_)
  refine Exists.intro 1 ?_
  refine ⟨6, _, Nat.le_refl _, Nat.le_refl _, hC, ?_⟩
  rintro _ w1 n1 ⟨rfl, hp⟩
  obtain ⟨⟨f, e1⟩, hc⟩ := hcl w1 n1 hp
  obtain ⟨w1, rfl⟩ := va_ex e1
  refine And.intro (vp_in_nI (by omega) (by omega)) ?_
  exact ⟨rfl, hc _, fun _ => ⟨_, va_us, rfl⟩⟩
theorem h_madeAt_n (x y : Int32) (w : ab_W) (n : Nat) {P : ab_W → Nat → Prop} {kn ks : Nat} {lf : Int32} (htr : l.stackTraces = false) (h0 : w 0 = oWP kn ks lf) (hE : ab_Ev X l 148 0 (ab_en (ab_mx 148) [.ref 0, .int x, .int y]) [] w n 1 6 (qT P)) : ab_CH X l 249 [.ref 0, .int x, .int y, .ref 134] w n 1 6 (hQ P true 0) := by
  have hX : ab_CX X l 148 [.ref 0, .int x, .int y] w n 1 6 (qT P) := ab_metX htr cd_148 om_148 rfl (by decide +kernel) rfl th_148 (by decide +kernel) (by decide +kernel) qT_X hE
  obtain ⟨w, rfl⟩ := va_ex h0
  refine ab_metH hk_249 rfl hQ_int (ab_sound ok_249 [5] 30 ?_)
  refine ab_x_callVX (i := 30) (a := 148) (b := 3) (q := 0) (sl := 4) (x0 := (0, 10, 13, 13)) (z9 := 2) (by decide +kernel) lv_249 (by decide +kernel) (by decide +kernel) (by decide +kernel) rfl rfl (by decide +kernel) rfl (Nat.le_refl _) (Nat.le_refl _) hX (by decide +kernel) rfl (by decide +kernel) rfl lc_13 (by decide +kernel) (Or.inl ⟨by decide +kernel, rfl⟩) ?_ ?_
  · rintro v w' n' hv ⟨e, -⟩
    exact absurd e hv
  · rintro w' n' ⟨-, hp⟩
    refine ab_sound ok_249 [] 30 ?_
    exact ⟨rfl, hp, fun h => nomatch h⟩
theorem h_madeAt_y (x y : Int32) (w : ab_W) (n : Nat) (r : Int32) {P : ab_W → Nat → Prop} {kn ks : Nat} {lf : Int32} (h0 : w 0 = oWP kn ks lf) (hE : ab_Ev X l 148 0 (ab_en (ab_mx 148) [.ref 0, .int x, .int y]) [] w n 1 6 (qI r P)) (hcl : ∀ w1 n1, P w1 n1 → (∃ f, w1 134 = aJ 1 f) ∧ ∀ f, P (va_up w1 134 (aJ 1 f)) n1) : ab_CH X l 249 [.ref 0, .int x, .int y, .ref 134] w n 1 6 (hQ P false (r.toInt64)) := by
  have hC : ab_C X l 148 [.ref 0, .int x, .int y] w n 1 6 (qI r P) := ab_mqI cd_148 om_148 rfl hE
  obtain ⟨w, rfl⟩ := va_ex h0
  refine ab_metH hk_249 rfl hQ_int (ab_sound ok_249 [] 30 ?_)
  refine Exists.intro 1 ?_
  refine ⟨6, _, Nat.le_refl _, Nat.le_refl _, hC, ?_⟩
  rintro _ w1 n1 ⟨rfl, hp⟩
  obtain ⟨⟨f, e1⟩, hc⟩ := hcl w1 n1 hp
  obtain ⟨w1, rfl⟩ := va_ex e1
  refine And.intro (vp_in_nI (by omega) (by omega)) ?_
  exact ⟨rfl, hc _, fun _ => ⟨_, va_us, rfl⟩⟩
end HELP

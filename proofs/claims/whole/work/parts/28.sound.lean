section ABD
variable {X : ab_X} {l : Launch} {y pc : Nat} {ls : ab_L} {st : List Value} {w : ab_W} {n bc bs : Nat} {Q : ab_Q}
/-- a method's link, plain or by the nest -/
def ab_mlw (own i a : Nat) : Cond := .methodLink (ab_cn own) i (ab_mn a)
def ab_mlN (own i a : Nat) : Cond := .methodLinkNest (ab_cn own) i (ab_mn a) "WheelPens"
def ab_room (y a : Nat) : Bool := Nat.ble (ab_fr a + 1) (ab_fr y) && Nat.ble (8 + (ab_mx a + 11) + ab_lo a) (ab_lo y)
theorem ab_room_spec {y a : Nat} {R : Room} (h : ab_room y a = true) (h1 : ab_fr y ≤ R.frames) (h2 : ab_lo y ≤ R.locals) : ab_fr a + 1 ≤ R.frames ∧ 8 + (ab_mx a + 11) + ab_lo a ≤ R.locals := by
  unfold ab_room at h
  simp only [Bool.and_eq_true, Nat.ble_eq] at h
  omega
theorem ab_cat_le {ad : List Nat} {r r' : List Value} (hs : ab_rs X ad r r') (h : Nat.ble (ab_cat r) 8 = true) : (r'.map fun v => v.category).sum ≤ 8 := by
  rw [hs.cats]
  exact Nat.le_of_ble_eq_true h
theorem ab_x_callV {i a b q : Nat} {av r : List Value} {fs : List Value} {mc ms : Nat} {Qy : ab_Q} (hd : decode (ab_by y) pc = .ok (.invokevirtual i, 3)) (hlk : ab_mlw (ab_oc y) i a ∈ lw_tbl ∨ ab_mlN (ab_oc y) i a ∈ lw_tbl) (hk : ab_kd a = 0) (hnp : (parseMethodDescriptor (ab_mn a).desc).map (fun d => d.parameters.length + 1) = some b) (hrm : ab_room y a = true)
    (hpop : ab_pop b st [] = some (.ref q :: av, r)) (hcat : Nat.ble (ab_cat r) 8 = true) (o9 : ab_oc a < 13) (hw : w q = .inr (ab_oc a, fs)) (h1 : mc ≤ bc) (h2 : ms ≤ bs) (hC : ab_C X l a (.ref q :: av) w n mc ms Qy)
    (h : ∀ v w' n', Qy v w' n' → ab_Ev X l y (pc + 3) ls (ab_in v r) w' n' (bc - mc) (bs - ms) Q) : ab_Ev X l y pc ls st w n bc bs Q := by
  intro p e R s m args below meth c A ad0 Z hB hF H locs cells slots ad ws lsr str hh hl hs hc hsl
  obtain ⟨hx, hb, hr, hml, hown, hts, hlocks, hnm, hK, hfr, hlo, hA, hSX⟩ := id hB
  obtain ⟨pre, rfl, hav, hpl⟩ := ab_pop_spec b st [] hpop
  rw [List.append_nil] at hav
  obtain ⟨pre', rest, rfl, hs1, hs2⟩ := hs.split
  have hre : pre = av.reverse ++ [.ref q] := by
    have := congrArg List.reverse hav
    simpa using this.symm
  subst hre
  obtain ⟨av', q', rfl, hs3, hs4⟩ := hs1.split
  match q', hs4 with
  | [_], ⟨g1, _⟩ =>
    obtain ⟨z, g3, rfl⟩ := g1
    obtain ⟨⟨hcd, hok⟩, hM⟩ := hC
    obtain ⟨o1, o2, o3, o4, o5, o6, -, -⟩ := ab_okm_spec hok
    obtain ⟨o7, o8⟩ := o6 hk
    have hs5 : ab_rs X ad (.ref q :: av) (.ref z :: av'.reverse) := ⟨⟨z, g3, rfl⟩, by simpa using hs3.rev⟩
    obtain ⟨e', w1, w2⟩ := hh.2.2.1.2 q z g3
    rw [hw] at w2
    obtain ⟨fs', rfl, w3⟩ := w2
    have hrec := va_recv hK hh.2.2.2.1 (ab_c3 o9) w1
    have hCn : (ab_C3 (ab_oc a)).1 = (ab_mn a).cls := by
      rw [o2]
      rcases (show ab_oc a = 0 ∨ ab_oc a = 1 ∨ ab_oc a = 2 ∨ ab_oc a = 3 ∨ ab_oc a = 4 ∨ ab_oc a = 5 ∨ ab_oc a = 6 ∨ ab_oc a = 7 ∨ ab_oc a = 8 ∨ ab_oc a = 9 ∨ ab_oc a = 10 ∨ ab_oc a = 11 ∨ ab_oc a = 12 by omega) with g | g | g | g | g | g | g | g | g | g | g | g | g <;> rw [g] <;> rfl
    rw [hCn] at hrec
    have hlen : av'.reverse.length + 1 = b := by
      have := hs3.len
      simp at this hpl
      simp
      omega
    have hnp2 : (parseMethodDescriptor (ab_mn a).desc).map (fun d => d.parameters.length) = some av'.reverse.length := by
      cases hz : parseMethodDescriptor (ab_mn a).desc with
      | none => rw [hz] at hnp; simp at hnp
      | some d =>
        rw [hz] at hnp
        simp only [Option.map_some, Option.some.injEq] at hnp ⊢
        omega
    have hPre : PreV s H (ab_mn a).cls z (va_Pc (.ref z :: av'.reverse) (ab_Pc X ad w ws H.size)) av'.reverse := ⟨ab_blind, hrec, fun U hU hW => ⟨rfl, ab_pre hB hh U hU hW⟩⟩
    have hstk : (av' ++ [Value.ref z]) ++ rest = av'.reverse.reverse ++ .ref z :: rest := by simp
    rcases hlk with hlk | hlk
    · refine ab_run hB hF hh hl hs2 hc hsl h1 h2 (va_runV (As := av'.reverse) (rest := rest) (ret := ab_rt a) (bytes := ab_by a) (maxL := ab_mx a) ⟨hx, hb, hml, hown, hts⟩ (hM ad _ ws H.size hh.2.1 hs5) (cwV av'.reverse.length hts (ab_good4 (ab_good a hcd) [.methodLink (ab_cn (ab_oc y)) i (ab_mn a), .instanceMethod (ab_mn a), .selects (ab_mn a).cls (ab_mn a) (ab_mn a), .initialized (ab_mn a).cls] ?_) rfl rfl rfl ⟨rfl, o3, o4, hnp2⟩ (ab_room_spec hrm hfr hlo)) hPre rfl rfl hl.size hstk ?_ hd ⟨by omega, by omega⟩) h
      · intro w9 hw9
        simp only [List.mem_cons, List.not_mem_nil, or_false] at hw9
        rcases hw9 with rfl | rfl | rfl | rfl
        · exact ⟨hlk, rfl⟩
        · exact ⟨o7, rfl⟩
        · exact ⟨o8, rfl⟩
        · exact ⟨o5, rfl⟩
      · exact lv_room (ab_cat_le hs2 hcat)
    · refine ab_run hB hF hh hl hs2 hc hsl h1 h2 (va_runVN (As := av'.reverse) (rest := rest) (ret := ab_rt a) (bytes := ab_by a) (maxL := ab_mx a) ⟨hx, hb, hml, hown, hts⟩ (hM ad _ ws H.size hh.2.1 hs5) ⟨va_cnB av'.reverse.length hts (ab_good a hcd) rfl rfl rfl (hSX.2.1.1 _ hlk rfl) (hts _ (ab_tbm o5 rfl)) ⟨o3, o4, hnp2⟩ (ab_room_spec hrm hfr hlo), hts _ (ab_tbm o7 rfl), hts _ (ab_tbm o8 rfl)⟩ hPre rfl rfl hl.size hstk ?_ hd ⟨by omega, by omega⟩) h
      exact lv_room (ab_cat_le hs2 hcat)
theorem ab_x_callVS {i a b q : Nat} {av r : List Value} {mc ms : Nat} {Qy : ab_Q} (hd : decode (ab_by y) pc = .ok (.invokevirtual i, 3)) (hlk : ab_mlw (ab_oc y) i a ∈ lw_tbl ∨ ab_mlN (ab_oc y) i a ∈ lw_tbl) (hk : ab_kd a = 0) (hnp : (parseMethodDescriptor (ab_mn a).desc).map (fun d => d.parameters.length + 1) = some b) (hrm : ab_room y a = true)
    (hpop : ab_pop b st [] = some (.retAddr q :: av, r)) (hcat : Nat.ble (ab_cat r) 8 = true) (hw : ab_oc a = 15) (hq17 : q < 17) (h1 : mc ≤ bc) (h2 : ms ≤ bs) (hC : ab_C X l a (.retAddr q :: av) w n mc ms Qy)
    (h : ∀ v w' n', Qy v w' n' → ab_Ev X l y (pc + 3) ls (ab_in v r) w' n' (bc - mc) (bs - ms) Q) : ab_Ev X l y pc ls st w n bc bs Q := by
  intro p e R s m args below meth c A ad0 Z hB hF H locs cells slots ad ws lsr str hh hl hs hc hsl
  obtain ⟨hx, hb, hr, hml, hown, hts, hlocks, hnm, hK, hfr, hlo, hA, hSX⟩ := id hB
  obtain ⟨pre, rfl, hav, hpl⟩ := ab_pop_spec b st [] hpop
  rw [List.append_nil] at hav
  obtain ⟨pre', rest, rfl, hs1, hs2⟩ := hs.split
  have hre : pre = av.reverse ++ [.retAddr q] := by
    have := congrArg List.reverse hav
    simpa using this.symm
  subst hre
  obtain ⟨av', q', rfl, hs3, hs4⟩ := hs1.split
  match q', hs4 with
  | [_], ⟨g1, _⟩ =>
    cases g1
    obtain ⟨⟨hcd, hok⟩, hM⟩ := hC
    obtain ⟨o1, o2, o3, o4, o5, o6, -, -⟩ := ab_okm_spec hok
    obtain ⟨o7, o8⟩ := o6 hk
    have hs5 : ab_rs X ad (.retAddr q :: av) (.ref (X.2.2.1 q) :: av'.reverse) := ⟨rfl, by simpa using hs3.rev⟩
    have hrec := vk_recv hSX.2.2.1 hq17 hh.2.2.2.2.2
    have hCn : "java/lang/String" = (ab_mn a).cls := by
      rw [o2, hw]
      rfl
    rw [hCn] at hrec
    have hlen : av'.reverse.length + 1 = b := by
      have := hs3.len
      simp at this hpl
      simp
      omega
    have hnp2 : (parseMethodDescriptor (ab_mn a).desc).map (fun d => d.parameters.length) = some av'.reverse.length := by
      cases hz : parseMethodDescriptor (ab_mn a).desc with
      | none => rw [hz] at hnp; simp at hnp
      | some d =>
        rw [hz] at hnp
        simp only [Option.map_some, Option.some.injEq] at hnp ⊢
        omega
    have hPre : PreV s H (ab_mn a).cls (X.2.2.1 q) (va_Pc (.ref (X.2.2.1 q) :: av'.reverse) (ab_Pc X ad w ws H.size)) av'.reverse := ⟨ab_blind, hrec, fun U hU hW => ⟨rfl, ab_pre hB hh U hU hW⟩⟩
    have hstk : (av' ++ [Value.ref (X.2.2.1 q)]) ++ rest = av'.reverse.reverse ++ .ref (X.2.2.1 q) :: rest := by simp
    rcases hlk with hlk | hlk
    · refine ab_run hB hF hh hl hs2 hc hsl h1 h2 (va_runV (As := av'.reverse) (rest := rest) (ret := ab_rt a) (bytes := ab_by a) (maxL := ab_mx a) ⟨hx, hb, hml, hown, hts⟩ (hM ad _ ws H.size hh.2.1 hs5) (cwV av'.reverse.length hts (ab_good4 (ab_good a hcd) [.methodLink (ab_cn (ab_oc y)) i (ab_mn a), .instanceMethod (ab_mn a), .selects (ab_mn a).cls (ab_mn a) (ab_mn a), .initialized (ab_mn a).cls] ?_) rfl rfl rfl ⟨rfl, o3, o4, hnp2⟩ (ab_room_spec hrm hfr hlo)) hPre rfl rfl hl.size hstk ?_ hd ⟨by omega, by omega⟩) h
      · intro w9 hw9
        simp only [List.mem_cons, List.not_mem_nil, or_false] at hw9
        rcases hw9 with rfl | rfl | rfl | rfl
        · exact ⟨hlk, rfl⟩
        · exact ⟨o7, rfl⟩
        · exact ⟨o8, rfl⟩
        · exact ⟨o5, rfl⟩
      · exact lv_room (ab_cat_le hs2 hcat)
    · refine ab_run hB hF hh hl hs2 hc hsl h1 h2 (va_runVN (As := av'.reverse) (rest := rest) (ret := ab_rt a) (bytes := ab_by a) (maxL := ab_mx a) ⟨hx, hb, hml, hown, hts⟩ (hM ad _ ws H.size hh.2.1 hs5) ⟨va_cnB av'.reverse.length hts (ab_good a hcd) rfl rfl rfl (hSX.2.1.1 _ hlk rfl) (hts _ (ab_tbm o5 rfl)) ⟨o3, o4, hnp2⟩ (ab_room_spec hrm hfr hlo), hts _ (ab_tbm o7 rfl), hts _ (ab_tbm o8 rfl)⟩ hPre rfl rfl hl.size hstk ?_ hd ⟨by omega, by omega⟩) h
      exact lv_room (ab_cat_le hs2 hcat)
theorem ab_x_callS {i a b : Nat} {av r : List Value} {mc ms : Nat} {Qy : ab_Q} (hd : decode (ab_by y) pc = .ok (.invokestatic i, 3)) (hlk : ab_mlw (ab_oc y) i a ∈ lw_tbl ∨ ab_mlN (ab_oc y) i a ∈ lw_tbl) (hk : ab_kd a = 1) (hnp : (parseMethodDescriptor (ab_mn a).desc).map (fun d => d.parameters.length) = some b) (hrm : ab_room y a = true)
    (hpop : ab_pop b st [] = some (av, r)) (hcat : Nat.ble (ab_cat r) 8 = true) (h1 : mc ≤ bc) (h2 : ms ≤ bs) (hC : ab_C X l a av w n mc ms Qy)
    (h : ∀ v w' n', Qy v w' n' → ab_Ev X l y (pc + 3) ls (ab_in v r) w' n' (bc - mc) (bs - ms) Q) : ab_Ev X l y pc ls st w n bc bs Q := by
  intro p e R s m args below meth c A ad0 Z hB hF H locs cells slots ad ws lsr str hh hl hs hc hsl
  obtain ⟨hx, hb, hr, hml, hown, hts, hlocks, hnm, hK, hfr, hlo, hA, hSX⟩ := id hB
  obtain ⟨pre, rfl, hav, hpl⟩ := ab_pop_spec b st [] hpop
  rw [List.append_nil] at hav
  obtain ⟨pre', rest, rfl, hs1, hs2⟩ := hs.split
  obtain ⟨⟨hcd, hok⟩, hM⟩ := hC
  obtain ⟨o1, o2, o3, o4, o5, -, o7, -⟩ := ab_okm_spec hok
  have o8 := o7 hk
  have hs5 : ab_rs X ad av pre'.reverse := by
    rw [hav]
    exact hs1.rev
  have hlen : pre'.reverse.length = b := by
    have := hs1.len
    simp
    omega
  have hPre : PreS s H (va_Pc pre'.reverse (ab_Pc X ad w ws H.size)) pre'.reverse := ⟨ab_blind, fun U hU hW => ⟨rfl, ab_pre hB hh U hU hW⟩⟩
  have hstk : pre' ++ rest = pre'.reverse.reverse ++ rest := by simp
  rcases hlk with hlk | hlk
  · refine ab_run hB hF hh hl hs2 hc hsl h1 h2 (va_runS (As := pre'.reverse) (rest := rest) (ret := ab_rt a) (bytes := ab_by a) (maxL := ab_mx a) ⟨hx, hb, hml, hown, hts⟩ (hM ad _ ws H.size hh.2.1 hs5) (va_cwS b hts (ab_good4 (ab_good a hcd) [.methodLink (ab_cn (ab_oc y)) i (ab_mn a), .static (ab_mn a), .initialized (ab_mn a).cls] ?_) rfl rfl rfl ⟨o3, o4, hnp⟩ (ab_room_spec hrm hfr hlo)) hPre rfl hlen hl.size hstk ?_ hd ⟨by omega, by omega⟩) h
    · intro w9 hw9
      simp only [List.mem_cons, List.not_mem_nil, or_false] at hw9
      rcases hw9 with rfl | rfl | rfl
      · exact ⟨hlk, rfl⟩
      · exact ⟨o8, rfl⟩
      · exact ⟨o5, rfl⟩
    · exact lv_room (ab_cat_le hs2 hcat)
  · refine ab_run hB hF hh hl hs2 hc hsl h1 h2 (va_runSN (As := pre'.reverse) (rest := rest) (ret := ab_rt a) (bytes := ab_by a) (maxL := ab_mx a) ⟨hx, hb, hml, hown, hts⟩ (hM ad _ ws H.size hh.2.1 hs5) ⟨va_cnB b hts (ab_good a hcd) rfl rfl rfl (hSX.2.1.1 _ hlk rfl) (hts _ (ab_tbm o5 rfl)) ⟨o3, o4, hnp⟩ (ab_room_spec hrm hfr hlo), hts _ (ab_tbm o8 rfl), trivial⟩ hPre rfl hlen hl.size hstk ?_ hd ⟨by omega, by omega⟩) h
    exact lv_room (ab_cat_le hs2 hcat)
theorem ab_x_callI {i a b q : Nat} {av r : List Value} {mc ms : Nat} {Qy : ab_Q} (hd : decode (ab_by y) pc = .ok (.invokespecial i, 3)) (hlk : ab_mlw (ab_oc y) i a ∈ lw_tbl ∨ ab_mlN (ab_oc y) i a ∈ lw_tbl) (hk : ab_kd a = 2) (hnp : (parseMethodDescriptor (ab_mn a).desc).map (fun d => d.parameters.length + 1) = some b) (hrm : ab_room y a = true)
    (hpop : ab_pop b st [] = some (.ref q :: av, r)) (hcat : Nat.ble (ab_cat r) 8 = true) (h1 : mc ≤ bc) (h2 : ms ≤ bs) (hC : ab_C X l a (.ref q :: av) w n mc ms Qy)
    (h : ∀ v w' n', Qy v w' n' → ab_Ev X l y (pc + 3) ls (ab_in v r) w' n' (bc - mc) (bs - ms) Q) : ab_Ev X l y pc ls st w n bc bs Q := by
  intro p e R s m args below meth c A ad0 Z hB hF H locs cells slots ad ws lsr str hh hl hs hc hsl
  obtain ⟨hx, hb, hr, hml, hown, hts, hlocks, hnm, hK, hfr, hlo, hA, hSX⟩ := id hB
  obtain ⟨pre, rfl, hav, hpl⟩ := ab_pop_spec b st [] hpop
  rw [List.append_nil] at hav
  obtain ⟨pre', rest, rfl, hs1, hs2⟩ := hs.split
  have hre : pre = av.reverse ++ [.ref q] := by
    have := congrArg List.reverse hav
    simpa using this.symm
  subst hre
  obtain ⟨av', q', rfl, hs3, hs4⟩ := hs1.split
  match q', hs4 with
  | [_], ⟨g1, _⟩ =>
    obtain ⟨z, g3, rfl⟩ := g1
    obtain ⟨⟨hcd, hok⟩, hM⟩ := hC
    obtain ⟨o1, o2, o3, o4, o5, -, -, o6⟩ := ab_okm_spec hok
    obtain ⟨o7, o8, o9⟩ := o6 hk
    have hs5 : ab_rs X ad (.ref q :: av) (.ref z :: av'.reverse) := ⟨⟨z, g3, rfl⟩, by simpa using hs3.rev⟩
    have hlen : av'.reverse.length + 1 = b := by
      have := hs3.len
      simp at this hpl
      simp
      omega
    have hnp2 : (parseMethodDescriptor (ab_mn a).desc).map (fun d => d.parameters.length) = some av'.reverse.length := by
      cases hz : parseMethodDescriptor (ab_mn a).desc with
      | none => rw [hz] at hnp; simp at hnp
      | some d =>
        rw [hz] at hnp
        simp only [Option.map_some, Option.some.injEq] at hnp ⊢
        omega
    have hPre : PreS s H (va_Pc (.ref z :: av'.reverse) (ab_Pc X ad w ws H.size)) (.ref z :: av'.reverse) := ⟨ab_blind, fun U hU hW => ⟨rfl, ab_pre hB hh U hU hW⟩⟩
    have hstk : (av' ++ [Value.ref z]) ++ rest = av'.reverse.reverse ++ .ref z :: rest := by simp
    have hws : ab_ws a = Cond.code (ab_mn a) (ab_by a) (ab_mx a) none :: ab_tb := by
      unfold ab_ws
      rw [o9]
    rcases hlk with hlk | hlk
    · refine ab_run hB hF hh hl hs2 hc hsl h1 h2 (va_runI (As := av'.reverse) (rest := rest) (bytes := ab_by a) (maxL := ab_mx a) ⟨hx, hb, hml, hown, hts⟩ (hM ad _ ws H.size hh.2.1 hs5) (cwI av'.reverse.length hts (ab_good a hcd) hws rfl rfl (hts _ (ab_tbm o5 rfl)) (hts _ (ab_tbm hlk rfl)) (hts _ (ab_tbm o7 rfl)) o8 ⟨o3, o4, hnp2⟩ (ab_room_spec hrm hfr hlo)) hPre rfl rfl hl.size hstk ?_ hd ⟨by omega, by omega⟩) h
      exact lv_room (ab_cat_le hs2 hcat)
    · refine ab_run hB hF hh hl hs2 hc hsl h1 h2 (va_runIN (As := av'.reverse) (rest := rest) (bytes := ab_by a) (maxL := ab_mx a) ⟨hx, hb, hml, hown, hts⟩ (hM ad _ ws H.size hh.2.1 hs5) ⟨va_cnB av'.reverse.length hts (ab_good a hcd) hws rfl rfl (hSX.2.1.1 _ hlk rfl) (hts _ (ab_tbm o5 rfl)) ⟨o3, o4, hnp2⟩ (ab_room_spec hrm hfr hlo), o8, hts _ (ab_tbm o7 rfl)⟩ hPre rfl rfl hl.size hstk ?_ hd ⟨by omega, by omega⟩) h
      exact lv_room (ab_cat_le hs2 hcat)
theorem ab_x_objInit {i q : Nat} (hd : decode (ab_by y) pc = .ok (.invokespecial i, 3)) (hlk : Cond.methodLink (ab_cn (ab_oc y)) i objectInit ∈ lw_tbl) (ho1 : Cond.instanceMethod objectInit ∈ lw_tbl) (ho2 : Cond.code objectInit ⟨#[0xb1]⟩ 1 none ∈ lw_tbl) (hf1 : 1 ≤ ab_fr y) (hl1 : 20 ≤ ab_lo y) (hcat : Nat.ble (ab_cat st) 8 = true)
    (h : ab_Ev X l y (pc + 3) ls st w n bc bs Q) : ab_Ev X l y pc ls (.ref q :: st) w n bc bs Q := by
  intro p e R s m args below meth c A ad0 Z hB hF H locs cells slots ad ws lsr str hh hl hs hc hsl
  obtain ⟨hx, hb, hr, hml, hown, hts, hlocks, hnm, hK, hfr, hlo, hA, hSX⟩ := id hB
  match str, hs with
  | _ :: str, ⟨g1, hs⟩ =>
    obtain ⟨z, g3, rfl⟩ := g1
    have h8 := ab_cat_le hs hcat
    refine W.objInit hx hb hown (hts _ (ab_tbm hlk rfl)) (hts _ (ab_tbm ho1 rfl)) (hts _ (ab_tbm ho2 rfl)) rfl (by rw [hml]; exact hl.size) rfl hd (by omega) ?_ ?_
    · show 2 * 0 + _ + 12 ≤ _
      omega
    · exact h p e R s m args below meth c A ad0 Z hB hF H locs cells slots ad ws lsr _ hh hl hs hc hsl
end ABD

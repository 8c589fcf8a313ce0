section ABC
variable {X : ab_X} {l : Launch} {y pc : Nat} {ls : ab_L} {st : List Value} {w : ab_W} {n bc bs : Nat} {Q : ab_Q}
theorem ab_tcp {X : ab_X} {s : State} {cA : ClassId} {t : Nat} {ty : FieldType} (hK : va_K X.1 vwCl (ab_tys X.2.1) s) (hK1 : va_K X.1 vwCl (ab_tys X.2.1 ++ [(cA, ty)]) s) (ht : (ab_tys X.2.1)[t]? = some (X.2.1 t, ty)) : cA = X.2.1 t := by
  have h1 := (hK.2 t _ ht).2
  have h2 := (hK1.2 4 (cA, ty) rfl).2
  unfold va_RA at h1 h2
  cases ty with
  | object C =>
    obtain ⟨_, _, _, _, _, h4⟩ := h1
    obtain ⟨_, _, _, _, _, h5⟩ := h2
    exact Option.some.inj (h5.symm.trans h4)
  | _ => exact Option.some.inj (h2.symm.trans h1)
theorem ab_rh_push {A : Nat → Prop} {ad0 ad : List Nat} {ws : va_W} {s : State} {H H1 : Heap} {locs : List Loc} {q : Nat} {c c' : va_E} (hh : ab_rh X A ad0 ad w n ws s H locs) (hc : ab_re X (ad ++ [q]) c c') (hP : va_P X.1 vwCl (ws ++ [(q, c')]) H1) (hD : va_D A (ws ++ [(q, c')])) (hS : va_S A s.heap H1 locs) : ab_rh X A ad0 (ad ++ [q]) (va_up w n c) (n + 1) (ws ++ [(q, c')]) s H1 locs := by
  obtain ⟨⟨t, ht⟩, hn, hw, -, -, -⟩ := hh
  subst hn
  exact ⟨⟨t ++ [q], by rw [← List.append_assoc, ht]⟩, by simp, hw.push hc, hP, hD, hS⟩
theorem ab_refN {ad : List Nat} {q : Nat} (hn : ad.length = n) : ab_rv X (ad ++ [q]) (.ref n) (.ref q) := by
  subst hn
  exact ⟨q, by simp, rfl⟩
theorem ab_x_newarray {ty9 : Jvm.ClassFile.ArrayType} {t b : Nat} {x : Int32} (hd : decode (ab_by y) pc = .ok (.newarray ty9, 2)) (ht : (ty9 = .int ∧ t = 0) ∨ (ty9 = .long ∧ t = 1) ∨ (ty9 = .boolean ∧ t = 2)) (hwd : Cond.arrayClass (newarray.typeOf ty9) ∈ lw_tbl) (hx0 : ¬ x < 0) (hxb : x.toNatClampNeg = b) (hb9 : b ≤ 60000) (h1 : 1 ≤ bc) (h2 : b ≤ bs)
    (h : ab_Ev X l y (pc + 2) ls (.ref n :: st) (va_up w n (ab_arr0 t b)) (n + 1) (bc - 1) (bs - b) Q) : ab_Ev X l y pc ls (.int x :: st) w n bc bs Q := by
  intro p e R s m args below meth c A ad0 Z hB hF H locs cells slots ad ws lsr str hh hl hs hc hsl
  have hx := hB.1
  have hb := hB.2.1
  match str, hs with
  | _ :: str, ⟨g1, hs⟩ =>
    cases g1
    have hh0 := hh
    obtain ⟨hp0, hn0, hw0, hP, hD, hS⟩ := hh
    have hK := hB.2.2.2.2.2.2.2.2.1
    have hA := hB.2.2.2.2.2.2.2.2.2.2.2.1
    have harr := hB.2.2.2.2.2.1 _ (ab_tbm hwd rfl)
    rcases ht with ⟨rfl, rfl⟩ | ⟨rfl, rfl⟩ | ⟨rfl, rfl⟩
    · refine va_newa (D := X.1) (cl := vwCl) (tys := ab_tys X.2.1) (ty := .int) (a0 := (b, .inl fun _ => 0)) hx hb harr rfl hK hP hD hS hA (fun _ => rfl) hx0 hxb (by simp only [componentBytes]; omega) (by omega) (by omega) hd (fun q cA H1 hK1 hP1 hD1 hS1 => ?_)
      have e9 : cA = X.2.1 0 := ab_tcp hK hK1 rfl
      subst e9
      exact h p e R s m args below meth c A ad0 Z hB hF H1 locs (cells + 1) (slots + b) _ _ lsr _ (ab_rh_push hh0 rfl hP1 hD1 hS1) hl.mono ⟨ab_refN hn0, hs.mono⟩ (by omega) (by omega)
    · refine va_newa (D := X.1) (cl := vwCl) (tys := ab_tys X.2.1) (ty := .long) (a0 := (b, .inr (.inl fun _ => 0))) hx hb harr rfl hK hP hD hS hA (fun _ => rfl) hx0 hxb (by simp only [componentBytes]; omega) (by omega) (by omega) hd (fun q cA H1 hK1 hP1 hD1 hS1 => ?_)
      have e9 : cA = X.2.1 1 := ab_tcp hK hK1 rfl
      subst e9
      exact h p e R s m args below meth c A ad0 Z hB hF H1 locs (cells + 1) (slots + b) _ _ lsr _ (ab_rh_push hh0 rfl hP1 hD1 hS1) hl.mono ⟨ab_refN hn0, hs.mono⟩ (by omega) (by omega)
    · refine va_newa (D := X.1) (cl := vwCl) (tys := ab_tys X.2.1) (ty := .boolean) (a0 := (b, .inl fun _ => 0)) hx hb harr rfl hK hP hD hS hA (fun _ => rfl) hx0 hxb (by simp only [componentBytes]; omega) (by omega) (by omega) hd (fun q cA H1 hK1 hP1 hD1 hS1 => ?_)
      have e9 : cA = X.2.1 2 := ab_tcp hK hK1 rfl
      subst e9
      exact h p e R s m args below meth c A ad0 Z hB hF H1 locs (cells + 1) (slots + b) _ _ lsr _ (ab_rh_push hh0 rfl hP1 hD1 hS1) hl.mono ⟨ab_refN hn0, hs.mono⟩ (by omega) (by omega)
theorem ab_x_anewarray {i b : Nat} {x : Int32} (hd : decode (ab_by y) pc = .ok (.anewarray i, 3)) (hwd : Cond.classLink (ab_cn (ab_oc y)) i "WheelPens$Sheet" ∈ lw_tbl) (hx0 : ¬ x < 0) (hxb : x.toNatClampNeg = b) (hb9 : b ≤ 60000) (h1 : 1 ≤ bc) (h2 : b ≤ bs)
    (h : ab_Ev X l y (pc + 3) ls (.ref n :: st) (va_up w n (.inl (3, b, .inr (.inr (.inr (.inr fun _ => none)))))) (n + 1) (bc - 1) (bs - b) Q) : ab_Ev X l y pc ls (.int x :: st) w n bc bs Q := by
  intro p e R s m args below meth c A ad0 Z hB hF H locs cells slots ad ws lsr str hh hl hs hc hsl
  have hx := hB.1
  have hb := hB.2.1
  match str, hs with
  | _ :: str, ⟨g1, hs⟩ =>
    cases g1
    have hh0 := hh
    obtain ⟨hp0, hn0, hw0, hP, hD, hS⟩ := hh
    have hK := hB.2.2.2.2.2.2.2.2.1
    have hA := hB.2.2.2.2.2.2.2.2.2.2.2.1
    refine va_newq (D := X.1) (cl := vwCl) (tys := ab_tys X.2.1) hx hb hB.2.2.2.2.1 (hB.2.2.2.2.2.1 _ (ab_tbm hwd rfl)) hB.2.2.2.2.2.2.2.2.2.2.2.2.2.1.2.1 hK hP hD hS hA hx0 hxb (by omega) (by omega) (by omega) hd (fun q cA H1 hK1 hP1 hD1 hS1 => ?_)
    have e9 : cA = X.2.1 3 := ab_tcp hK hK1 rfl
    subst e9
    exact h p e R s m args below meth c A ad0 Z hB hF H1 locs (cells + 1) (slots + b) _ _ lsr _ (ab_rh_push hh0 ⟨_, rfl, fun j => rfl⟩ hP1 hD1 hS1) hl.mono ⟨ab_refN hn0, hs.mono⟩ (by omega) (by omega)
theorem ab_rv_df {ad : List Nat} (ty : FieldType) : ab_rv X ad (defaultValue ty) (defaultValue ty) := by
  cases ty <;> rfl
theorem ab_rs_df {ad : List Nat} : ∀ (f : Nat → FieldType) (ks : List Nat), ab_rs X ad (ks.map fun k => defaultValue (f k)) (ks.map fun k => defaultValue (f k))
  | _, [] => trivial
  | f, k :: ks => ⟨ab_rv_df (f k), ab_rs_df f ks⟩
theorem ab_x_new {i ci : Nat} (hd : decode (ab_by y) pc = .ok (.new i, 3)) (hci : ci < 13) (hwd : Cond.classLink (ab_cn (ab_oc y)) i (ab_C3 ci).1 ∈ lw_tbl) (hw2 : Cond.instantiable (ab_C3 ci).1 (ab_C3 ci).2.2 ∈ lw_tbl) (hw3 : Cond.initialized (ab_C3 ci).1 ∈ lw_tbl) (h1 : 1 ≤ bc) (h2 : (ab_C3 ci).2.2 ≤ bs)
    (h : ab_Ev X l y (pc + 3) ls (.ref n :: st) (va_up w n (.inr (ci, ab_df ci))) (n + 1) (bc - 1) (bs - (ab_C3 ci).2.2) Q) : ab_Ev X l y pc ls st w n bc bs Q := by
  intro p e R s m args below meth c A ad0 Z hB hF H locs cells slots ad ws lsr str hh hl hs hc hsl
  have hx := hB.1
  have hb := hB.2.1
  have hh0 := hh
  obtain ⟨hp0, hn0, hw0, hP, hD, hS⟩ := hh
  have hK := hB.2.2.2.2.2.2.2.2.1
  have hA := hB.2.2.2.2.2.2.2.2.2.2.2.1
  have hts := hB.2.2.2.2.2.1
  refine va_new (D := X.1) (cl := vwCl) (tys := ab_tys X.2.1) (fs := ab_df ci) hx hb hts (ab_inX hci) (ab_ty ci) (ab_tyX hci) hB.2.2.2.2.1 (hts _ (ab_tbm hwd rfl)) (hts _ (ab_tbm hw2 rfl)) (hts _ (ab_tbm hw3 rfl)) hK hP hD hS hA (ab_c3' hci) (fun j hj => ?_) (by omega) (by omega) hd (fun q H1 hP1 hD1 hS1 => ?_)
  · unfold vp_V ab_df
    rw [List.getD_eq_getElem?_getD, List.getElem?_map, List.getElem?_range hj]
    rfl
  · exact h p e R s m args below meth c A ad0 Z hB hF H1 locs (cells + 1) (slots + _) _ _ lsr _ (ab_rh_push hh0 ⟨_, rfl, ab_rs_df _ _⟩ hP1 hD1 hS1) hl.mono ⟨ab_refN hn0, hs.mono⟩ (by omega) (by omega)
theorem ab_pop_spec : ∀ (b : Nat) (st acc : List Value) {av r : List Value}, ab_pop b st acc = some (av, r) → ∃ pre, st = pre ++ r ∧ av = pre.reverse ++ acc ∧ pre.length = b
  | 0, st, acc, av, r, h => by
    simp only [ab_pop, Option.some.injEq, Prod.mk.injEq] at h
    exact ⟨[], by simp [h.2], by simp [h.1], rfl⟩
  | b + 1, [], acc, av, r, h => by simp [ab_pop] at h
  | b + 1, v :: st, acc, av, r, h => by
    simp only [ab_pop] at h
    obtain ⟨pre, h1, h2, h3⟩ := ab_pop_spec b st (v :: acc) h
    exact ⟨v :: pre, by simp [h1], by simp [h2], by simp [h3]⟩
theorem ab_rs.split {ad : List Nat} : ∀ {pre r s' : List Value}, ab_rs X ad (pre ++ r) s' → ∃ pre' r', s' = pre' ++ r' ∧ ab_rs X ad pre pre' ∧ ab_rs X ad r r'
  | [], r, s', h => ⟨[], s', rfl, trivial, h⟩
  | v :: pre, r, [], h => h.elim
  | v :: pre, r, v' :: s', h => by
    obtain ⟨p', r', h1, h2, h3⟩ := ab_rs.split (pre := pre) (r := r) h.2
    exact ⟨v' :: p', r', by rw [h1]; rfl, ⟨h.1, h2⟩, h3⟩
theorem ab_A_in {A : Nat → Prop} {ws : va_W} {s : State} {H : Heap} {locs : List Loc} (hD : va_D A ws) (hS : va_S A s.heap H locs) (hA : ∀ q, s.heap.size ≤ q → A q) : ∀ q, va_A ws H.size q → A q := by
  intro q h
  rcases h with ⟨k, e, h⟩ | h
  · exact hD.2 k _ h
  · exact hA q (Nat.le_trans hS.1 h)
/-- a call's way back -/
theorem ab_run {p : Program} {e : Env} {R : Room} {s : State} {m : MethodId} {args : Array Value} {below : List Frame} {meth : Method} {c : Code} {A : Nat → Prop} {ad0 : List Nat} {Z : State → Prop} (hB : ab_B X y p R s m args meth c A) (hF : ab_fin X l y p e R s m args below meth c A ad0 Q Z)
    {H : Heap} {locs : List Loc} {cells slots : Nat} {ad : List Nat} {ws : va_W} {lsr : Array Slot} {r rest st0 : List Value} {mc ms : Nat} {Qy : ab_Q} {a : Array Value} (hh : ab_rh X A ad0 ad w n ws s H locs) (hl : ab_rl X ad ls lsr (ab_mx y)) (hs : ab_rs X ad r rest) (hc : cells + bc ≤ R.cells) (hsl : slots + bs ≤ R.slots) (h1 : mc ≤ bc) (h2 : ms ≤ bs)
    (hr : va_Run p l e R s m args below meth c H locs cells slots mc ms (F0 m pc lsr st0) rest (ab_Qc X ad Qy (va_A ws H.size) a) (va_A ws H.size))
    (h : ∀ v w' n', Qy v w' n' → ab_Ev X l y (pc + 3) ls (ab_in v r) w' n' (bc - mc) (bs - ms) Q) : W p l e R s m args below meth c H locs cells slots Z (F0 m pc lsr st0) := by
  intro T hT Xs
  obtain ⟨v', st₀, t, T', L, h0, X', hL, e1, e2, hq, stp⟩ := hr T hT Xs
  obtain ⟨v, v'', w', n', ad', ws', ho, hro, hQ, ⟨t9, ht9⟩, hlen, hrw, hP', hD', hz, hk⟩ := hq
  cases ho
  obtain ⟨⟨t0, ht0⟩, hn0, hw0, hP, hD, hS⟩ := hh
  have hAA := ab_A_in hD hS hB.2.2.2.2.2.2.2.2.2.2.2.1
  rw [h0] at hz hk
  subst ht9
  have hS1 : va_S A s.heap T'.heap (locs ++ L) := by
    refine ⟨Nat.le_trans hS.1 (by rw [e1]; exact hz), fun q g1 g2 => ?_, fun q hq => ?_⟩
    · rw [e1, hk q (Nat.lt_of_lt_of_le g1 hS.1) (fun z => g2 (hAA q z))]
      exact hS.2.1 q g1 g2
    · rcases List.mem_append.mp hq with g | g
      · exact hS.2.2 q g
      · exact hAA _ (hL q g)
  have hst : ab_rs X (ad ++ t9) (ab_in v r) (v'.toList ++ rest) := by
    have hro' : ab_rs X (ad ++ t9) v.toList v'.toList := hro
    cases v with
    | none =>
      cases v' with
      | none => exact hs.mono
      | some b => exact hro'.elim
    | some a =>
      cases v' with
      | none => exact hro'.elim
      | some b => exact ⟨hro'.1, hs.mono⟩
  obtain ⟨t2, a1, b1⟩ := h v w' n' hQ p e R s m args below meth c A ad0 Z hB hF T'.heap (locs ++ L) (cells + mc) (slots + ms) (ad ++ t9) ws' lsr _ ⟨⟨t0 ++ t9, by rw [← List.append_assoc, ht0]⟩, hlen, hrw, by rw [e1]; exact hP', hD'.weaken (fun _ _ _ z => hAA _ z), hS1⟩ hl.mono hst (by omega) (by omega) T' rfl X'
  exact ⟨t2, stp t2 a1, b1⟩
theorem ab_good (y : Nat) (h : Cond.code (ab_mn y) (ab_by y) (ab_mx y) (ab_rt y) ∈ lw_tbl) : GoodIn ab_tb (ab_ws y) := by
  intro w hw
  rcases List.mem_cons.mp hw with rfl | hw
  · exact ⟨ab_tbm h rfl, Or.inl rfl⟩
  · exact ⟨hw, good_of_word (List.mem_filter.mp hw).2⟩
theorem ab_good4 {ws : List Cond} (h : GoodIn ab_tb ws) : ∀ (L : List Cond), (∀ w ∈ L, w ∈ lw_tbl ∧ goodWord w = true) → GoodIn ab_tb (L ++ ws) := by
  intro L hL w hw
  rcases List.mem_append.mp hw with g | g
  · exact ⟨ab_tbm (hL w g).1 (hL w g).2, good_of_word (hL w g).2⟩
  · exact h w g
/-- the callee's start -/
theorem ab_pre {p : Program} {R : Room} {s : State} {m : MethodId} {args : Array Value} {meth : Method} {c : Code} {A : Nat → Prop} {ad0 : List Nat} (hB : ab_B X y p R s m args meth c A)
    {H : Heap} {locs : List Loc} {ad : List Nat} {ws : va_W} (hh : ab_rh X A ad0 ad w n ws s H locs) : ∀ U : State, U.heap = H → s.WarmedH U.vm → ab_Pc X ad w ws H.size U := by
  intro U hU hW
  obtain ⟨hp0, hn0, hw0, hP, hD, hS⟩ := hh
  have hAA := ab_A_in hD hS hB.2.2.2.2.2.2.2.2.2.2.2.1
  refine ⟨by rw [hU], hw0, by rw [hU]; exact hP, hD.self, va_K.moved hW.alike hB.2.2.2.2.2.2.2.2.1, ?_⟩
  rw [hU]
  exact ab_SX.moved hW (((hB.2.2.2.2.2.2.2.2.2.2.2.2).kept (fun a g1 g2 => hS.2.1 a g1 g2)).narrow hAA)
theorem ab_blind {avr : List Value} {ad : List Nat} {ws : va_W} {sz : Nat} : FrameBlind (va_Pc avr (ab_Pc X ad w ws sz)) := by
  intro a U g mk hq
  obtain ⟨q0, q1, q2, q3, q4, q5, q6⟩ := hq
  exact ⟨q0, q1, q2, q3, q4, va_K.moved (u := U) (U := U.calling g mk a) (Vm.Alike.refl U.vm) q5, ab_SX.same (u := U) (U := U.calling g mk a) rfl q6⟩
/-- what the rows of methods say of a method -/
theorem ab_okm_spec {a : Nat} (h : ab_okm a = true) : plainFor (ab_mn a) = true ∧ (ab_mn a).cls = ab_cn (ab_oc a) ∧ (ab_mn a).cls ≠ "java/lang/invoke/MethodHandle" ∧ (ab_mn a).cls ≠ "java/lang/invoke/VarHandle" ∧ Cond.initialized (ab_mn a).cls ∈ lw_tbl ∧
    (ab_kd a = 0 → Cond.instanceMethod (ab_mn a) ∈ lw_tbl ∧ Cond.selects (ab_mn a).cls (ab_mn a) (ab_mn a) ∈ lw_tbl) ∧ (ab_kd a = 1 → Cond.static (ab_mn a) ∈ lw_tbl) ∧ (ab_kd a = 2 → Cond.instanceMethod (ab_mn a) ∈ lw_tbl ∧ (ab_mn a).name = "<init>" ∧ ab_rt a = none) := by
  unfold ab_okm at h
  unfold ab_kd
  split at h
  · simp at h
  · rename_i p0 p1 ps pi k hk
    simp only [Bool.and_eq_true, decide_eq_true_eq] at h
    obtain ⟨⟨⟨⟨h1, h2⟩, h3⟩, h4⟩, h5, h6⟩ := h
    refine ⟨h1, h2, h3, h4, List.mem_of_getElem? h5, ?_, ?_, ?_⟩
    · intro e
      simp only [hk] at e
      subst e
      simp only [Bool.and_eq_true, decide_eq_true_eq] at h6
      exact ⟨List.mem_of_getElem? h6.1, List.mem_of_getElem? h6.2⟩
    · intro e
      simp only [hk] at e
      subst e
      simp only [decide_eq_true_eq] at h6
      exact List.mem_of_getElem? h6
    · intro e
      simp only [hk] at e
      subst e
      simp only [Bool.and_eq_true, decide_eq_true_eq] at h6
      exact ⟨List.mem_of_getElem? h6.1.1, h6.1.2, h6.2⟩
end ABC

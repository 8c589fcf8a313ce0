/-! the law's helpers, and their calls -/
section AGX
variable {X : ab_X} {l : Launch} {y pc : Nat} {ls : ab_L} {st : List Value} {w : ab_W} {n bc bs : Nat} {Q : ab_Q}
theorem ab_MetH {l : Launch} {y : MethodName} {ws ws' : List Cond} {rm : Room} {Pc : Array Value → State → Prop} {Qc : Array Value → State → Outcome → State → Prop} {mc ms : Nat} {free : Addr → Prop} {cc : ByteArray} {maxL : Nat} {ret : Option FieldType} {hh : List (Nat × Nat × Nat × Nat)}
    (hy : plainName y.cls = true) (hw : ws = Cond.codeWith y cc maxL ret hh :: ws')
    (body : ∀ p e s m args below meth c s₁, BodyLoose p l y (headSpec ws rm) cc maxL ret e s m args below meth c s₁ → c.maxLocals = maxL → Pc args s →
      W p l e (headSpec ws rm).room s m args below meth c s.heap [] 0 0 (MQ below Qc args s mc ms free) (entryFrame m args maxL)) : Met l y ws rm Pc Qc mc ms free := by
  refine MetFree.of_bodyS (code := cc) (maxLocals := maxL) (ret := ret) hy ?_ ?_
  · intro args s m h hn
    obtain ⟨m9, meth, c, hn9, h1, h2, h3, h4, -, h5, h6, -⟩ := Cond.codeWith_spec (atoms_spec (ws := ws) h _ (by rw [hw]; exact List.mem_cons_self))
    cases hn.symm.trans hn9
    exact ⟨meth, c, h1, h2, h3, h4, h5, h6⟩
  · intro p e s m args below meth c s₁ B hml hP _
    have hh0 : s₁.heap = s.heap := by rw [B.state]; rfl
    obtain ⟨t, a1, o, b1, b2, b3⟩ := body p e s m args below meth c s₁ B hml hP s₁ hh0 (Stand.of_body B)
    exact ⟨t, o, a1, b1, b2, ⟨b3.1, b3.2⟩⟩
def ab_cw (y : Nat) : Cond := Cond.codeWith (ab_mn y) (ab_by y) (ab_mx y) (ab_rt y) (ab_hh y)
def ab_hok (y : Nat) : Prop := (ab_cw y ∈ lw_tbl ∧ plainName (ab_mn y).cls = true) ∧ (ab_mn y).cls = ab_cn (ab_oc y) ∧ (ab_mn y).cls ≠ "java/lang/invoke/MethodHandle" ∧ (ab_mn y).cls ≠ "java/lang/invoke/VarHandle" ∧ Cond.initialized (ab_mn y).cls ∈ lw_tbl ∧ Cond.static (ab_mn y) ∈ lw_tbl
/-- a helper's contract -/
def ab_CH (X : ab_X) (l : Launch) (y : Nat) (av : List Value) (w : ab_W) (n mc ms : Nat) (Q : ab_Q) : Prop :=
  ab_hok y ∧ ∀ (ad : List Nat) (avr : List Value) (ws : va_W) (sz : Nat), ad.length = n → ab_rs X ad av avr →
    Met l (ab_mn y) (ab_cw y :: ab_tb) { frames := ab_fr y, cells := mc, slots := ms, locals := ab_lo y } (va_Pc avr (ab_Pc X ad w ws sz)) (ab_Qc X ad Q (va_A ws sz)) mc ms (va_A ws sz)
theorem ab_metH {av : List Value} {mc ms : Nat} (hok : ab_hok y) (hmx : Nat.ble (ab_en0 av).length (ab_mx y) = true) (hQ : ∀ v w n, Q v w n → ∃ x : Int32, v = some (.int x)) (h : ab_Ev X l y 0 (ab_en (ab_mx y) av) [] w n mc ms Q) : ab_CH X l y av w n mc ms Q := by
  refine ⟨hok, fun ad avr ws sz hn hav => ?_⟩
  obtain ⟨⟨o0, o1⟩, o2, o3, o4, o5, o6⟩ := hok
  refine ab_MetH (cc := ab_by y) (maxL := ab_mx y) (ret := ab_rt y) (hh := ab_hh y) o1 rfl ?_
  intro p e s m args below meth c s₁ B hml hv
  obtain ⟨rfl, hsz, hrw, hP, hD, hK, hSX⟩ := hv
  subst hsz
  have hx := B.exec
  have hb := B.bytes
  have hr := B.returns
  have hts0 := atoms_spec (ws := ab_cw y :: ab_tb) B.pre
  have hts : ∀ w ∈ ab_tb, w.before avr.toArray s = true := fun w hw => hts0 w (List.mem_cons_of_mem _ hw)
  have htab : c.exceptionTable.toList = tableOf (ab_hh y) := vx_table (x := ab_mn y) B (hts0 _ List.mem_cons_self)
  have hown : s.vm.findClass (ab_mn y).cls = some m.cls := findClass_of_methodNamed B.named
  have hlocks := B.notSynchronized
  have hin : meth.name = (ab_mn y).name := (name_of_methodNamed B.named B.method).1
  rw [o2] at hown
  have hS : va_S (va_A ws s.heap.size) s.heap s.heap [] := va_S.rf
  rw [lg_entry_eq]
  refine h p e _ s m avr.toArray below meth c (va_A ws s.heap.size) ad _ ⟨hx, hb, hr, hml, hown, hts, ⟨hlocks, fun _ => htab⟩, hin, hK, Nat.le_refl _, Nat.le_refl _, fun q hq => Or.inr hq, hSX⟩ ?_ s.heap [] 0 0 ad ws _ _ ⟨⟨[], List.append_nil _⟩, hn, hrw, hP, hD, hS⟩ (ab_rl_entry hav (Nat.le_of_ble_eq_true hmx)) trivial (by show 0 + mc ≤ mc; omega) (by show 0 + ms ≤ ms; omega)
  refine ⟨?_, fun _ _ _ _ _ _ w2 n2 _ _ _ _ _ hq _ _ _ _ _ _ _ _ => ?_⟩
  · intro pc v v' H locs cells slots ad2 w2 n2 ws2 lsr hq hh hro hisr hc1 hs1
    obtain ⟨hp0, hn0, hw0, hP2, hD2, hS2⟩ := hh
    obtain ⟨x, rfl⟩ := hQ v w2 n2 hq
    have hfin : ∀ (v' : Option Value), ab_ro X ad2 (some (.int x)) v' → ∀ t : State, t.heap = H → ab_Qc X ad Q (va_A ws s.heap.size) avr.toArray s (.returned v') t := by
      intro v' hro t ht
      exact ⟨some (.int x), v', w2, n2, ad2, ws2, rfl, hro, hq, hp0, hn0, hw0, by rw [ht]; exact hP2, hD2, hS2.F ht⟩
    refine W.widen (k := mc) (n := ms) hc1 hs1 ?_
    have hro' : ab_rs X ad2 (some (Value.int x)).toList v'.toList := hro
    cases v' with
    | none => exact hro'.elim
    | some b =>
      cases hro'.1
      obtain ⟨d1, ty, d2, d3⟩ := hisr
      exact W.zret hx hb (hr.trans d2) d3 (fun t ht _ => hfin _ hro t ht) hS2.2.2 d1
  · obtain ⟨x, hx9⟩ := hQ _ w2 n2 hq
    cases hx9
/-- a call of a helper -/
theorem ab_x_callSH {i a b : Nat} {av r : List Value} {mc ms : Nat} {Qy : ab_Q} (hd : decode (ab_by y) pc = .ok (.invokestatic i, 3)) (hlk : ab_mlw (ab_oc y) i a ∈ lw_tbl) (hnp : (parseMethodDescriptor (ab_mn a).desc).map (fun d => d.parameters.length) = some b) (hrm : ab_room y a = true)
    (hpop : ab_pop b st [] = some (av, r)) (hcat : Nat.ble (ab_cat r) 8 = true) (h1 : mc ≤ bc) (h2 : ms ≤ bs) (hC : ab_CH X l a av w n mc ms Qy)
    (h : ∀ v w' n', Qy v w' n' → ab_Ev X l y (pc + 3) ls (ab_in v r) w' n' (bc - mc) (bs - ms) Q) : ab_Ev X l y pc ls st w n bc bs Q := by
  intro p e R s m args below meth c A ad0 Z hB hF H locs cells slots ad ws lsr str hh hl hs hc hsl
  obtain ⟨hx, hb, hr, hml, hown, hts, hlocks, hnm, hK, hfr, hlo, hA, hSX⟩ := id hB
  obtain ⟨pre, rfl, hav, hpl⟩ := ab_pop_spec b st [] hpop
  rw [List.append_nil] at hav
  obtain ⟨pre', rest, rfl, hs1, hs2⟩ := hs.split
  obtain ⟨⟨⟨o0, o1⟩, o2, o3, o4, o5, o8⟩, hM⟩ := hC
  have hs5 : ab_rs X ad av pre'.reverse := by
    rw [hav]
    exact hs1.rev
  have hlen : pre'.reverse.length = b := by
    have := hs1.len
    simp
    omega
  have hPre : PreS s H (va_Pc pre'.reverse (ab_Pc X ad w ws H.size)) pre'.reverse := ⟨ab_blind, fun U hU hW => ⟨rfl, ab_pre hB hh U hU hW⟩⟩
  have hstk : pre' ++ rest = pre'.reverse.reverse ++ rest := by simp
  have hg : GoodIn ab_tb (ab_cw a :: ab_tb) := by
    intro w9 hw9
    rcases List.mem_cons.mp hw9 with rfl | hw9
    · exact ⟨ab_tbm o0 rfl, Or.inl rfl⟩
    · exact ⟨hw9, good_of_word (List.mem_filter.mp hw9).2⟩
  refine ab_run hB hF hh hl hs2 hc hsl h1 h2 (vx_runSW (As := pre'.reverse) (rest := rest) (ret := ab_rt a) (bytes := ab_by a) (maxL := ab_mx a) (hh := ab_hh a) ⟨hx, hb, hml, hown, hts⟩ (hM ad _ ws H.size hh.2.1 hs5) (vx_cwSW b hts (ab_good4 hg [.methodLink (ab_cn (ab_oc y)) i (ab_mn a), .static (ab_mn a), .initialized (ab_mn a).cls] ?_) rfl rfl rfl ⟨o3, o4, hnp⟩ (ab_room_spec hrm hfr hlo)) hPre rfl hlen hl.size hstk ?_ hd ⟨by omega, by omega⟩) h
  · intro w9 hw9
    simp only [List.mem_cons, List.not_mem_nil, or_false] at hw9
    rcases hw9 with rfl | rfl | rfl
    · exact ⟨hlk, rfl⟩
    · exact ⟨o8, rfl⟩
    · exact ⟨o5, rfl⟩
  · exact lv_room (ab_cat_le hs2 hcat)
/-- a call that may throw, in a helper -/
theorem ab_x_callVX {i a b q sl : Nat} {x0 : Nat × Nat × Nat × Nat} {av r : List Value} {fs : List Value} {mc ms : Nat} {Qy : ab_Q} (hd : decode (ab_by y) pc = .ok (.invokevirtual i, 3)) (hlk : ab_mlw (ab_oc y) i a ∈ lw_tbl) (hk : ab_kd a = 0) (hnp : (parseMethodDescriptor (ab_mn a).desc).map (fun d => d.parameters.length + 1) = some b) (hrm : ab_room y a = true)
    (hpop : ab_pop b st [] = some (.ref q :: av, r)) (hcat : Nat.ble (ab_cat r) 8 = true) (o9 : ab_oc a < 13) (hw : w q = .inr (ab_oc a, fs)) (h1 : mc ≤ bc) (h2 : ms ≤ bs) (hC : ab_CX X l a (.ref q :: av) w n mc ms Qy)
    (ky : ab_kd y = 11) (hhy : ab_hh y = [x0]) (hcov : covers ⟨x0.1, x0.2.1, x0.2.2.1, x0.2.2.2⟩ pc = true) (hct : x0.2.2.2 = 13) (hcl : Cond.classLink (ab_cn (ab_oc y)) 13 ab_NSE ∈ lw_tbl) {z9 : Nat} (hsl0 : sl < ab_mx y) (hdh : (decode (ab_by y) x0.2.2.1 = .ok (.astore sl, 2) ∧ z9 = 2) ∨ ∃ j9 : Fin 4, decode (ab_by y) x0.2.2.1 = .ok (.astore_n j9, 1) ∧ (j9 : Nat) = sl ∧ z9 = 1)
    (h : ∀ v w' n', v ≠ some (.retAddr 7777) → Qy v w' n' → ab_Ev X l y (pc + 3) ls (ab_in v r) w' n' (bc - mc) (bs - ms) Q)
    (hT : ∀ w' n', Qy (some (.retAddr 7777)) w' n' → ab_Ev X l y (x0.2.2.1 + z9) (List.replicate (ab_mx y) none) [] w' n' (bc - mc) (bs - ms) Q) : ab_Ev X l y pc ls st w n bc bs Q := by
  intro p e R s m args below meth c A ad0 Z hB hF H locs cells slots ad ws lsr str hh hl hs hc hsl
  obtain ⟨hx, hb, hr, hml, hown, hts, hlocks, hnm, hK, hfr, hlo, hA, hSX⟩ := id hB
  obtain ⟨pre, rfl, hav, hpl⟩ := ab_pop_spec b st [] hpop
  rw [List.append_nil] at hav
  obtain ⟨pre', rest, rfl, hs1, hs2⟩ := hs.split
  have hre : pre = av.reverse ++ [.ref q] := by
    have := congrArg List.reverse hav
    simpa using this.symm
  subst hre
  obtain ⟨av', q', rfl, hs3, hs4⟩ := hs1.split
  match q', hs4 with
  | [_], ⟨g1, _⟩ =>
    obtain ⟨z, g3, rfl⟩ := g1
    obtain ⟨⟨hcd, hok⟩, hM⟩ := hC
    obtain ⟨o1, o2, o3, o4, o5, o6, -, -⟩ := ab_okm_spec hok
    obtain ⟨o7, o8⟩ := o6 hk
    have hs5 : ab_rs X ad (.ref q :: av) (.ref z :: av'.reverse) := ⟨⟨z, g3, rfl⟩, by simpa using hs3.rev⟩
    obtain ⟨e', w1, w2⟩ := hh.2.2.1.2 q z g3
    rw [hw] at w2
    obtain ⟨fs', rfl, w3⟩ := w2
    have hrec := va_recv hK hh.2.2.2.1 (ab_c3 o9) w1
    have hCn : (ab_C3 (ab_oc a)).1 = (ab_mn a).cls := by
      rw [o2]
      rcases (show ab_oc a = 0 ∨ ab_oc a = 1 ∨ ab_oc a = 2 ∨ ab_oc a = 3 ∨ ab_oc a = 4 ∨ ab_oc a = 5 ∨ ab_oc a = 6 ∨ ab_oc a = 7 ∨ ab_oc a = 8 ∨ ab_oc a = 9 ∨ ab_oc a = 10 ∨ ab_oc a = 11 ∨ ab_oc a = 12 by omega) with g | g | g | g | g | g | g | g | g | g | g | g | g <;> rw [g] <;> rfl
    rw [hCn] at hrec
    have hlen : av'.reverse.length + 1 = b := by
      have := hs3.len
      simp at this hpl
      simp
      omega
    have hnp2 : (parseMethodDescriptor (ab_mn a).desc).map (fun d => d.parameters.length) = some av'.reverse.length := by
      cases hz : parseMethodDescriptor (ab_mn a).desc with
      | none => rw [hz] at hnp; simp at hnp
      | some d =>
        rw [hz] at hnp
        simp only [Option.map_some, Option.some.injEq] at hnp ⊢
        omega
    have hPre : PreV s H (ab_mn a).cls z (va_Pc (.ref z :: av'.reverse) (ab_Pc X ad w ws H.size)) av'.reverse := ⟨ab_blind, hrec, fun U hU hW => ⟨rfl, ab_pre hB hh U hU hW⟩⟩
    have hstk : (av' ++ [Value.ref z]) ++ rest = av'.reverse.reverse ++ .ref z :: rest := by simp
    have hrun : vx_Run p l e R s m args below meth c H locs cells slots mc ms (F0 m pc lsr ((av' ++ [Value.ref z]) ++ rest)) rest (ab_Qc X ad (ab_Qr Qy) (va_A ws H.size) (Value.ref z :: av'.reverse).toArray) (ab_Xc X ad Qy (va_A ws H.size)) (va_A ws H.size) := by
      refine vx_runV (As := av'.reverse) (rest := rest) (ret := ab_rt a) (bytes := ab_by a) (maxL := ab_mx a) ⟨hx, hb, hml, hown, hts⟩ (hM ad _ ws H.size hh.2.1 hs5) (cwV av'.reverse.length hts (ab_good4 (ab_good a hcd) [.methodLink (ab_cn (ab_oc y)) i (ab_mn a), .instanceMethod (ab_mn a), .selects (ab_mn a).cls (ab_mn a) (ab_mn a), .initialized (ab_mn a).cls] ?_) rfl rfl rfl ⟨rfl, o3, o4, hnp2⟩ (ab_room_spec hrm hfr hlo)) hPre rfl rfl hl.size hstk ?_ hd ⟨by omega, by omega⟩
      · intro w9 hw9
        simp only [List.mem_cons, List.not_mem_nil, or_false] at hw9
        rcases hw9 with rfl | rfl | rfl | rfl
        · exact ⟨hlk, rfl⟩
        · exact ⟨o7, rfl⟩
        · exact ⟨o8, rfl⟩
        · exact ⟨o5, rfl⟩
      · exact lv_room (ab_cat_le hs2 hcat)
    intro T hT9 Xs
    obtain ⟨⟨t0, ht0⟩, hn0, hw0, hP, hD, hS⟩ := hh
    have hAA := ab_A_in hD hS hA
    rcases hrun T hT9 Xs with ⟨v', st₀, t, T', L, h0, X', hL, e1, e2, hq, stp⟩ | ⟨q9, st₀, t, T', L, E, ce, h0, X', hL, e1, e2, hq, hce, hcv, hcE, stp⟩
    · obtain ⟨v, v'', w', n', ad', ws', ho, hro, ⟨hv7, hQ⟩, ⟨t9, ht9⟩, hlen9, hrw, hP', hD', hz, hk9⟩ := hq
      cases ho
      rw [h0] at hz hk9
      subst ht9
      have hS1 : va_S A s.heap T'.heap (locs ++ L) := by
        refine ⟨Nat.le_trans hS.1 (by rw [e1]; exact hz), fun q g1 g2 => ?_, fun q hq => ?_⟩
        · rw [e1, hk9 q (Nat.lt_of_lt_of_le g1 hS.1) (fun z => g2 (hAA q z))]
          exact hS.2.1 q g1 g2
        · rcases List.mem_append.mp hq with g | g
          · exact hS.2.2 q g
          · exact hAA _ (hL q g)
      have hst : ab_rs X (ad ++ t9) (ab_in v r) (v'.toList ++ rest) := by
        have hro' : ab_rs X (ad ++ t9) v.toList v'.toList := hro
        cases v with
        | none =>
          cases v' with
          | none => exact hs2.mono
          | some b => exact hro'.elim
        | some a =>
          cases v' with
          | none => exact hro'.elim
          | some b => exact ⟨hro'.1, hs2.mono⟩
      obtain ⟨t2, a1, b1⟩ := h v w' n' hv7 hQ p e R s m args below meth c A ad0 Z hB hF T'.heap (locs ++ L) (cells + mc) (slots + ms) (ad ++ t9) ws' lsr _ ⟨⟨t0 ++ t9, by rw [← List.append_assoc, ht0]⟩, hlen9, hrw, by rw [e1]; exact hP', hD'.weaken (fun _ _ _ z => hAA _ z), hS1⟩ hl.mono hst (by omega) (by omega) T' rfl X'
      exact ⟨t2, stp t2 a1, b1⟩
    · obtain ⟨hE, w', n', ad', ws', hQ, ⟨t9, ht9⟩, hlen9, hrw, hP', hD', hz, hk9⟩ := hq
      subst hE
      rw [h0] at hz hk9
      subst ht9
      have hS1 : va_S A s.heap T'.heap (locs ++ L) := by
        refine ⟨Nat.le_trans hS.1 (by rw [e1]; exact hz), fun q g1 g2 => ?_, fun q hq => ?_⟩
        · rw [e1, hk9 q (Nat.lt_of_lt_of_le g1 hS.1) (fun z => g2 (hAA q z))]
          exact hS.2.1 q g1 g2
        · rcases List.mem_append.mp hq with g | g
          · exact hS.2.2 q g
          · exact hAA _ (hL q g)
      have hsplit : c.exceptionTable.toList = [] ++ (⟨x0.1, x0.2.1, x0.2.2.1, x0.2.2.2⟩ : ExceptionTableEntry) :: [] := by
        rw [hlocks.2 ky, hhy]
        rfl
      have kk : W p l e R s m args below meth c T'.heap (locs ++ L) (cells + mc) (slots + ms) Z (F0 m x0.2.2.1 lsr [.ref q9]) := by
        obtain ⟨h19, lv, h29, h39⟩ := id hl
        rcases hdh with ⟨hdh, rfl⟩ | ⟨j9, hdh, hj9, rfl⟩
        · refine lv_astore hx hb hdh h29 hsl0 rfl (fun ls9 h9 => ?_)
          exact hT w' n' hQ p e R s m args below meth c A ad0 Z hB hF T'.heap (locs ++ L) (cells + mc) (slots + ms) (ad ++ t9) ws' ls9 [] ⟨⟨t0 ++ t9, by rw [← List.append_assoc, ht0]⟩, hlen9, hrw, by rw [e1]; exact hP', hD'.weaken (fun _ _ _ z => hAA _ z), hS1⟩ ⟨List.length_replicate, _, h9, fun i v hi => by rw [List.getElem?_replicate] at hi; split at hi <;> cases hi⟩ trivial (by omega) (by omega)
        · refine lv_astore_n hx hb hdh hj9 h29 hsl0 rfl (fun ls9 h9 => ?_)
          exact hT w' n' hQ p e R s m args below meth c A ad0 Z hB hF T'.heap (locs ++ L) (cells + mc) (slots + ms) (ad ++ t9) ws' ls9 [] ⟨⟨t0 ++ t9, by rw [← List.append_assoc, ht0]⟩, hlen9, hrw, by rw [e1]; exact hP', hD'.weaken (fun _ _ _ z => hAA _ z), hS1⟩ ⟨List.length_replicate, _, h9, fun i v hi => by rw [List.getElem?_replicate] at hi; split at hi <;> cases hi⟩ trivial (by omega) (by omega)
      have hcw := vx_catch (E := ab_NSE) (ce := ce) (q := q9) (name := ab_NSE) (rest := rest) hown [] (⟨x0.1, x0.2.1, x0.2.2.1, x0.2.2.2⟩ : ExceptionTableEntry) [] hsplit (fun z hz => nomatch hz) hcov (by show x0.2.2.2 ≠ 0; rw [hct]; decide) (by show (Cond.classLink _ x0.2.2.2 _).before _ _ = true; rw [hct]; exact hts _ (ab_tbm hcl rfl)) (ab_cdm rfl (Vm.Alike.refl s.vm) (hSX.2.2.2.2.2.2.2 _ ab_castNSE)) (by rw [e1]; exact hce) hcv hcE kk
      obtain ⟨t2, a1, b1⟩ := hcw T' rfl X'
      exact ⟨t2, stp.trans a1, b1⟩
end AGX

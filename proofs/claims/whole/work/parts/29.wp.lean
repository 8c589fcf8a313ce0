section ABE
variable {X : ab_X} {l : Launch} {y pc : Nat} {ls : ab_L} {st : List Value} {w : ab_W} {n bc bs : Nat} {Q : ab_Q}
theorem ab_en0_len {ad : List Nat} : ∀ {av avr : List Value}, ab_rs X ad av avr → (lg_sl avr).length = (ab_en0 av).length
  | [], [], _ => rfl
  | v :: av, v' :: avr, h => by
    have ih := ab_en0_len h.2
    have hc := h.1.cat
    have e1 : (lg_sl (v' :: avr)).length = (if v'.category = 2 then 2 else 1) + (lg_sl avr).length := by
      unfold lg_sl
      rw [List.flatMap_cons, List.length_append]
      split <;> rfl
    rw [e1, ih, hc]
    cases v with
    | long x => show 2 + _ = _; simp [ab_en0]; omega
    | double x => show 2 + _ = _; simp [ab_en0]; omega
    | int x => show 1 + _ = _; simp [ab_en0]; omega
    | float x => show 1 + _ = _; simp [ab_en0]; omega
    | null => show 1 + _ = _; simp [ab_en0]; omega
    | ref x => show 1 + _ = _; simp [ab_en0]; omega
    | retAddr x => show 1 + _ = _; simp [ab_en0]; omega
  | [], _ :: _, h => h.elim
  | _ :: _, [], h => h.elim
theorem ab_en0_get {ad : List Nat} : ∀ {av avr : List Value} (off i : Nat) (v : Value), ab_rs X ad av avr → (ab_en0 av)[i]? = some (some v) → ∃ v', (off + i, v') ∈ lv_args off avr ∧ ab_rv X ad v v'
  | [], [], off, i, v, _, h => by simp [ab_en0] at h
  | u :: av, u' :: avr, off, i, v, h, hi => by
    have hc := h.1.cat
    have two : ∀ (z : Value), u = z → z.category = 2 → ab_en0 (u :: av) = some u :: none :: ab_en0 av → ∃ v', (off + i, v') ∈ lv_args off (u' :: avr) ∧ ab_rv X ad v v' := by
      intro z e1 e2 e3
      rw [e3] at hi
      have hc2 : u'.category = 2 := by rw [hc, e1]; exact e2
      unfold lv_args
      rw [if_pos hc2]
      match i, hi with
      | 0, hi =>
        simp at hi
        subst hi
        exact ⟨u', List.mem_cons_self, h.1⟩
      | 1, hi => simp at hi
      | k + 2, hi =>
        simp at hi
        obtain ⟨v', g1, g2⟩ := ab_en0_get (off + 2) k v h.2 hi
        exact ⟨v', List.mem_cons_of_mem _ (by rw [show off + (k + 2) = off + 2 + k by omega]; exact g1), g2⟩
    have one : ∀ (z : Value), u = z → ¬ z.category = 2 → ab_en0 (u :: av) = some u :: ab_en0 av → ∃ v', (off + i, v') ∈ lv_args off (u' :: avr) ∧ ab_rv X ad v v' := by
      intro z e1 e2 e3
      rw [e3] at hi
      have hc2 : ¬ u'.category = 2 := by rw [hc, e1]; exact e2
      unfold lv_args
      rw [if_neg hc2]
      match i, hi with
      | 0, hi =>
        simp at hi
        subst hi
        exact ⟨u', List.mem_cons_self, h.1⟩
      | k + 1, hi =>
        simp at hi
        obtain ⟨v', g1, g2⟩ := ab_en0_get (off + 1) k v h.2 hi
        exact ⟨v', List.mem_cons_of_mem _ (by rw [show off + (k + 1) = off + 1 + k by omega]; exact g1), g2⟩
    cases u with
    | long x => exact two _ rfl rfl rfl
    | double x => exact two _ rfl rfl rfl
    | int x => exact one _ rfl (fun z => absurd (show (1 : Nat) = 2 from z) (by decide)) rfl
    | float x => exact one _ rfl (fun z => absurd (show (1 : Nat) = 2 from z) (by decide)) rfl
    | null => exact one _ rfl (fun z => absurd (show (1 : Nat) = 2 from z) (by decide)) rfl
    | ref x => exact one _ rfl (fun z => absurd (show (1 : Nat) = 2 from z) (by decide)) rfl
    | retAddr x => exact one _ rfl (fun z => absurd (show (1 : Nat) = 2 from z) (by decide)) rfl
  | [], _ :: _, _, _, _, h, _ => h.elim
  | _ :: _, [], _, _, _, h, _ => h.elim
theorem ab_rl_entry {ad : List Nat} {av avr : List Value} {mx : Nat} (h : ab_rs X ad av avr) (hm : (ab_en0 av).length ≤ mx) : ab_rl X ad (ab_en mx av) ((lg_sl avr ++ List.replicate (mx - (lg_sl avr).length) Slot.unset).toArray) mx := by
  have hlen := ab_en0_len h
  refine ⟨by unfold ab_en; simp; omega, _, lv_entry avr (by omega), fun i v hi => ?_⟩
  unfold ab_en at hi
  by_cases g : i < (ab_en0 av).length
  · rw [List.getElem?_append_left g] at hi
    obtain ⟨v', g1, g2⟩ := ab_en0_get 0 i v h hi
    exact ⟨v', by simpa using g1, g2⟩
  · rw [List.getElem?_append_right (by omega), List.getElem?_replicate] at hi
    split at hi
    · cases hi
    · cases hi
/-- the objects' return types -/
def ab_rtA : Option FieldType → Bool
  | some (.object _) => true
  | some (.array _) => true
  | _ => false
theorem ab_okm_kd {a : Nat} (h : ab_okm a = true) : ¬ ab_kd a = 11 := by
  intro e
  unfold ab_okm at h
  unfold ab_kd at e
  split at h
  · simp at h
  · rename_i p0 p1 ps pi k hk
    simp only [hk] at e
    subst e
    simp at h
/-- a method's contract out of its walk -/
theorem ab_met {av : List Value} {mc ms : Nat} (hcd : Cond.code (ab_mn y) (ab_by y) (ab_mx y) (ab_rt y) ∈ lw_tbl) (hok : ab_okm y = true) (hmx : Nat.ble (ab_en0 av).length (ab_mx y) = true) (hQ : ∀ v w n, Q v w n → match v with
      | none => ab_rt y = none
      | some (.long _) => ab_rt y = some .long
      | some (.ref _) => ab_rtA (ab_rt y) = true
      | some .null => ab_rtA (ab_rt y) = true
      | some (.int _) => True
      | _ => False) (h : ab_Ev X l y 0 (ab_en (ab_mx y) av) [] w n mc ms Q) : ab_C X l y av w n mc ms Q := by
  refine ⟨⟨hcd, hok⟩, fun ad avr ws sz hn hav => ?_⟩
  obtain ⟨o1, o2, o3, o4, o5, -, -, -⟩ := ab_okm_spec hok
  refine va_MetF (cc := ab_by y) (maxL := ab_mx y) (ret := ab_rt y) o1 rfl ?_
  intro p e s m args below meth c s₁ B hml hv
  obtain ⟨rfl, hsz, hrw, hP, hD, hK, hSX⟩ := hv
  subst hsz
  have hx := B.exec
  have hb := B.bytes
  have hr := B.returns
  have hts0 := atoms_spec (ws := ab_ws y) B.pre
  have hts : ∀ w ∈ ab_tb, w.before avr.toArray s = true := fun w hw => hts0 w (List.mem_cons_of_mem _ hw)
  have hown : s.vm.findClass (ab_mn y).cls = some m.cls := findClass_of_methodNamed B.named
  have hlocks := B.notSynchronized
  have hin : meth.name = (ab_mn y).name := (name_of_methodNamed B.named B.method).1
  rw [o2] at hown
  have hS : va_S (va_A ws s.heap.size) s.heap s.heap [] := va_S.rf
  rw [lg_entry_eq]
  refine h p e _ s m avr.toArray below meth c (va_A ws s.heap.size) ad _ ⟨hx, hb, hr, hml, hown, hts, ⟨hlocks, fun e9 => absurd e9 (ab_okm_kd hok)⟩, hin, hK, Nat.le_refl _, Nat.le_refl _, fun q hq => Or.inr hq, hSX⟩ ?_ s.heap [] 0 0 ad ws _ _ ⟨⟨[], List.append_nil _⟩, hn, hrw, hP, hD, hS⟩ (ab_rl_entry hav (Nat.le_of_ble_eq_true hmx)) trivial (by show 0 + mc ≤ mc; omega) (by show 0 + ms ≤ ms; omega)
  refine ⟨?_, fun _ _ _ _ _ _ w2 n2 _ _ _ _ _ hq _ _ _ _ _ _ _ _ => (hQ _ w2 n2 hq).elim⟩
  intro pc v v' H locs cells slots ad2 w2 n2 ws2 lsr hq hh hro hisr hc1 hs1
  obtain ⟨hp0, hn0, hw0, hP2, hD2, hS2⟩ := hh
  have hq2 := hQ v w2 n2 hq
  have hfin : ∀ (v' : Option Value), ab_ro X ad2 v v' → ∀ t : State, t.heap = H → ab_Qc X ad Q (va_A ws s.heap.size) avr.toArray s (.returned v') t := by
    intro v' hro t ht
    exact ⟨v, v', w2, n2, ad2, ws2, rfl, hro, hq, hp0, hn0, hw0, by rw [ht]; exact hP2, hD2, hS2.F ht⟩
  refine W.widen (k := mc) (n := ms) hc1 hs1 ?_
  have hro' : ab_rs X ad2 v.toList v'.toList := hro
  cases v with
  | none =>
    cases v' with
    | none => exact W.vret hx hb (hr.trans hq2) (fun t ht _ => hfin none hro t ht) hS2.2.2 hisr
    | some b => exact hro'.elim
  | some a =>
    cases v' with
    | none => exact hro'.elim
    | some b =>
      cases a with
      | int x =>
        cases hro'.1
        obtain ⟨d1, ty, d2, d3⟩ := hisr
        exact W.zret hx hb (hr.trans d2) d3 (fun t ht _ => hfin _ hro t ht) hS2.2.2 d1
      | long x =>
        cases hro'.1
        exact W.lret hx hb (hr.trans hq2) (fun t ht _ => hfin _ hro t ht) hS2.2.2 hisr
      | ref x =>
        obtain ⟨z, -, rfl⟩ := hro'.1
        cases hrt : ab_rt y with
        | none => rw [hrt] at hq2; cases hq2
        | some rt =>
          rw [hrt] at hq2
          refine W.aret hx hb (hr.trans hrt) ?_ (Or.inr ⟨z, rfl⟩) (fun t ht _ => hfin _ hro t ht) hS2.2.2 hisr
          cases rt with
          | object nm => exact Or.inl ⟨nm, rfl⟩
          | array t => exact Or.inr ⟨t, rfl⟩
          | _ => cases hq2
      | null =>
        cases hro'.1
        cases hrt : ab_rt y with
        | none => rw [hrt] at hq2; cases hq2
        | some rt =>
          rw [hrt] at hq2
          refine W.aret hx hb (hr.trans hrt) ?_ (Or.inl rfl) (fun t ht _ => hfin _ hro t ht) hS2.2.2 hisr
          cases rt with
          | object nm => exact Or.inl ⟨nm, rfl⟩
          | array t => exact Or.inr ⟨t, rfl⟩
          | _ => cases hq2
      | _ => exact hq2.elim
/-- a method's end -/
theorem ab_x_ret {v : Option Value} {st : List Value} (hst : st = v.toList) (hi : ab_isr y pc v) (h : Q v w n) : ab_Ev X l y pc ls st w n bc bs Q := by
  intro p e R s m args below meth c A ad0 Z hB hF H locs cells slots ad ws lsr str hh hl hs hc hsl
  subst hst
  have : ∃ v' : Option Value, str = v'.toList := by
    cases v with
    | none =>
      match str, hs with
      | [], _ => exact ⟨none, rfl⟩
    | some a =>
      match str, hs with
      | [b], _ => exact ⟨some b, rfl⟩
  obtain ⟨v', rfl⟩ := this
  exact hF.1 pc v v' H locs cells slots ad w n ws lsr h hh hs hi (by omega) (by omega)
theorem ab_x_table {dflt lo hi : Int} {offs : Array Int} {len : Nat} {x : Int32} {nx : Nat → Prop} (hd : decode (ab_by y) pc = .ok (.tableswitch dflt lo hi offs, len)) (hlo : lo = 0) (hhi : hi + 1 = offs.size) (hsz : offs.size < 1000) (hneg : ∀ o ∈ dflt :: offs.toList, 0 ≤ (pc : Int) + o)
    (hn : ∀ t, nx t → ab_Ev X l y t ls st w n bc bs Q) (h : ab_sw x nx pc dflt 0 offs.toList) : ab_Ev X l y pc ls (.int x :: st) w n bc bs Q := by
  have key : ∀ (r : List Int) (v : Nat), offs.toList.drop v = r → (∀ u, u < v → ¬ x = nI u) → ab_sw x nx pc dflt v r → (∃ (v : Nat) (o : Int), offs.toList[v]? = some o ∧ x = nI v ∧ nx (((pc : Int) + o).toNat)) ∨ ((∀ u, u < offs.size → ¬ x = nI u) ∧ nx (((pc : Int) + dflt).toNat)) := by
    intro r
    induction r with
    | nil =>
      intro v hv hu hs
      right
      refine ⟨fun u hu2 => hu u ?_, hs⟩
      have := List.drop_eq_nil_iff.mp hv
      simp at this
      omega
    | cons o r ih =>
      intro v hv hu hs
      have hvo : offs.toList[v]? = some o := by
        have := congrArg (fun z => z[0]?) hv
        simpa using this
      by_cases e : x = nI v
      · left
        exact ⟨v, o, hvo, e, hs.1 e⟩
      · refine ih (v + 1) ?_ ?_ (hs.2 e)
        · rw [← List.drop_drop, hv]
          rfl
        · intro u hu2
          rcases Nat.lt_or_ge u v with g | g
          · exact hu u g
          · have : u = v := by omega
            subst this
            exact e
  have hk := key offs.toList 0 rfl (fun u hu => by omega) h
  intro p e R s m args below meth c A ad0 Z hB hF H locs cells slots ad ws lsr str hh hl hs hc hsl
  match str, hs with
  | _ :: str, ⟨g1, hs⟩ =>
    cases g1
    rcases hk with ⟨v, o, h1, h2, h3⟩ | ⟨h1, h2⟩
    · have hvs : v < offs.size := by
        have := (List.getElem?_eq_some_iff.mp h1).1
        simpa using this
      have hxi : x.toInt = (v : Int) := by rw [h2]; exact nI_toInt (by omega)
      have hge := hneg o (List.mem_cons_of_mem _ (List.mem_of_getElem? h1))
      refine lv_tableIn (tgt := ((pc : Int) + o).toNat) (off := o) hB.1 hB.2.1 hd (by rw [hxi]; omega) (by rw [hxi]; omega) ?_ (by omega) ?_
      · rw [hxi, hlo, show ((v : Int) - 0).toNat = v by omega, ← Array.getElem?_toList]
        exact h1
      · exact hn _ h3 p e R s m args below meth c A ad0 Z hB hF H locs cells slots ad ws lsr _ hh hl hs hc hsl
    · have hge := hneg dflt List.mem_cons_self
      refine lv_tableOut (tgt := ((pc : Int) + dflt).toNat) hB.1 hB.2.1 hd ?_ (by omega) ?_
      · by_cases g : x.toInt < 0
        · left
          omega
        · right
          by_cases g2 : hi < x.toInt
          · exact g2
          · exfalso
            have hxn : x = nI x.toInt.toNat := by
              have hj : x.toInt.toNat < 2 ^ 31 := by omega
              have := nI_toInt hj
              exact Int32.toInt_inj.mp (by rw [this]; omega)
            exact h1 x.toInt.toNat (by omega) hxn
      · exact hn _ h2 p e R s m args below meth c A ad0 Z hB hF H locs cells slots ad ws lsr _ hh hl hs hc hsl
end ABE

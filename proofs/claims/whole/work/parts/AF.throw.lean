/-! methods that throw, the law's helpers that catch, calls of both -/
section AFX
variable {X : ab_X} {l : Launch} {y pc : Nat} {ls : ab_L} {st : List Value} {w : ab_W} {n bc bs : Nat} {Q : ab_Q}
def ab_Xc (X : ab_X) (ad0 : List Nat) (Q : ab_Q) (A : Nat → Prop) : String → State → State → Prop := fun E st t =>
  E = ab_NSE ∧ ∃ (w : ab_W) (n : Nat) (ad : List Nat) (ws : va_W), Q (some (.retAddr 7777)) w n ∧ (∃ t, ad0 ++ t = ad) ∧ ad.length = n ∧ ab_rw X ad w ws ∧ va_P X.1 vwCl ws t.heap ∧ va_D A ws ∧ va_F A st t
def ab_Qr (Q : ab_Q) : ab_Q := fun v w n => v ≠ some (.retAddr 7777) ∧ Q v w n
/-- a method's contract: it returns, or it throws -/
def ab_CX (X : ab_X) (l : Launch) (y : Nat) (av : List Value) (w : ab_W) (n mc ms : Nat) (Q : ab_Q) : Prop :=
  (Cond.code (ab_mn y) (ab_by y) (ab_mx y) (ab_rt y) ∈ lw_tbl ∧ ab_okm y = true) ∧ ∀ (ad : List Nat) (avr : List Value) (ws : va_W) (sz : Nat), ad.length = n → ab_rs X ad av avr →
    vx_Met l (ab_mn y) (ab_ws y) { frames := ab_fr y, cells := mc, slots := ms, locals := ab_lo y } (va_Pc avr (ab_Pc X ad w ws sz)) (ab_Qc X ad (ab_Qr Q) (va_A ws sz)) (ab_Xc X ad Q (va_A ws sz)) mc ms (va_A ws sz)
def ab_strok (own : String) (j : Nat) : Bool := ab_str.any (fun q => decide (q.1 = own) && decide (q.2.1 = j))
def ab_thk1 (y pc : Nat) : Bool := match decode (ab_by y) pc with
  | .ok (.new i, 3) => (match decode (ab_by y) (pc + 4) with
    | .ok (.ldc j, 2) => (match decode (ab_by y) (pc + 6) with
      | .ok (.invokespecial c, 3) => decide (i = 117) && decide (c = 121) && ab_strok (ab_cn (ab_oc y)) j
      | _ => true)
    | .ok (.ldc_w j, 3) => (match decode (ab_by y) (pc + 7) with
      | .ok (.invokespecial c, 3) => decide (i = 117) && decide (c = 121) && ab_strok (ab_cn (ab_oc y)) j
      | _ => true)
    | _ => true)
  | _ => true
def ab_thk (y : Nat) : Bool := (List.range 100).all (ab_thk1 y)
theorem ab_strok_spec {own : String} {j : Nat} (h : ab_strok own j = true) : ∃ (k : Nat) (q : String × Nat × String), ab_str[k]? = some q ∧ q.1 = own ∧ q.2.1 = j := by
  unfold ab_strok at h
  obtain ⟨q, h1, h2⟩ := List.any_eq_true.mp h
  rw [Bool.and_eq_true] at h2
  obtain ⟨k, hk⟩ := List.getElem?_of_mem h1
  exact ⟨k, q, hk, of_decide_eq_true h2.1, of_decide_eq_true h2.2⟩
theorem ab_thk_spec (h : ab_thk y = true) (hpc : pc < 100) (ht : ab_isT y pc) : ∃ (j k : Nat) (q : String × Nat × String), ab_str[k]? = some q ∧ q.1 = ab_cn (ab_oc y) ∧ q.2.1 = j ∧ ((decode (ab_by y) pc = .ok (.new 117, 3) ∧ decode (ab_by y) (pc + 3) = .ok (.dup, 1) ∧ decode (ab_by y) (pc + 4) = .ok (.ldc j, 2) ∧ decode (ab_by y) (pc + 6) = .ok (.invokespecial 121, 3) ∧ decode (ab_by y) (pc + 9) = .ok (.athrow, 1)) ∨ (decode (ab_by y) pc = .ok (.new 117, 3) ∧ decode (ab_by y) (pc + 3) = .ok (.dup, 1) ∧ decode (ab_by y) (pc + 4) = .ok (.ldc_w j, 3) ∧ decode (ab_by y) (pc + 7) = .ok (.invokespecial 121, 3) ∧ decode (ab_by y) (pc + 10) = .ok (.athrow, 1))) := by
  have h1 := List.all_eq_true.mp h pc (List.mem_range.mpr hpc)
  unfold ab_thk1 at h1
  rcases ht with ⟨i, j, c, d0, d1, d2, d3, d4⟩ | ⟨i, j, c, d0, d1, d2, d3, d4⟩
  · simp only [d0, d2, d3, Bool.and_eq_true, decide_eq_true_eq] at h1
    obtain ⟨⟨e1, e2⟩, e3⟩ := h1
    subst e1
    subst e2
    obtain ⟨k, q, a1, a2, a3⟩ := ab_strok_spec e3
    exact ⟨j, k, q, a1, a2, a3, Or.inl ⟨d0, d1, d2, d3, d4⟩⟩
  · simp only [d0, d2, d3, Bool.and_eq_true, decide_eq_true_eq] at h1
    obtain ⟨⟨e1, e2⟩, e3⟩ := h1
    subst e1
    subst e2
    obtain ⟨k, q, a1, a2, a3⟩ := ab_strok_spec e3
    exact ⟨j, k, q, a1, a2, a3, Or.inr ⟨d0, d1, d2, d3, d4⟩⟩
theorem yx_in : ∀ w ∈ (yx_all.filter vx_no).filter goodWord, w ∈ lw_tbl := by decide +kernel
theorem yx_bad : ∀ w ∈ (yx_all.filter vx_no).filter (fun w => !goodWord w), w ∈ ab_thw := by decide +kernel
theorem ab_thx : Cond.classLink "WheelPens" 117 ab_NSE ∈ lw_tbl ∧ Cond.initialized ab_NSE ∈ lw_tbl := by decide +kernel
theorem ab_thg : (Cond.classLink "WheelPens" 117 ab_NSE :: Cond.initialized ab_NSE :: yx_all.filter vx_no).all vx_ot = true := by decide +kernel
theorem ab_castNSE : Cond.castable ab_NSE ab_NSE ∈ ab_thw := by decide +kernel
/-- the words of a throw, at a method's start -/
theorem ab_at_all {A : Nat → Prop} {s : State} {args : Array Value} (hts : ∀ w ∈ ab_tb, w.before args s = true) (hSX : ab_SX X A s s.heap) : ∀ w ∈ yx_all.filter vx_no, w.before args s = true := by
  intro w hw
  by_cases g : goodWord w = true
  · exact hts w (ab_tbm (yx_in w (List.mem_filter.mpr ⟨hw, g⟩)) g)
  · have hm : w ∈ ab_thw := yx_bad w (List.mem_filter.mpr ⟨hw, by simp [g]⟩)
    exact ab_cdm (List.all_eq_true.mp ab_thw_cd w hm) (Vm.Alike.refl s.vm) (hSX.2.2.2.2.2.2.2 w hm)
theorem ab_metX {av : List Value} {mc ms : Nat} (htr : l.stackTraces = false) (hcd : Cond.code (ab_mn y) (ab_by y) (ab_mx y) (ab_rt y) ∈ lw_tbl) (hok : ab_okm y = true) (hmx : Nat.ble (ab_en0 av).length (ab_mx y) = true) (hpl : plainName (ab_mn y).cls = true) (hoc : ab_oc y = 11) (hth : ab_thk y = true) (hfr : 6 ≤ ab_fr y) (hlo : 90 ≤ ab_lo y) (hQ : ∀ v w n, Q v w n → match v with
      | some (.long _) => ab_rt y = some .long
      | some (.int _) => True
      | some (.retAddr _) => True
      | _ => False) (h : ab_Ev X l y 0 (ab_en (ab_mx y) av) [] w n mc ms Q) : ab_CX X l y av w n mc ms Q := by
  refine ⟨⟨hcd, hok⟩, fun ad avr ws sz hn hav => ?_⟩
  obtain ⟨o1, o2, o3, o4, o5, -, -, -⟩ := ab_okm_spec hok
  refine vx_ofW (cc := ab_by y) (maxL := ab_mx y) (ret := ab_rt y) hpl rfl ?_
  intro p e s m args below meth c s₁ B hml hnt hv
  obtain ⟨rfl, hsz, hrw, hP, hD, hK, hSX⟩ := hv
  subst hsz
  have hx := B.exec
  have hb := B.bytes
  have hr := B.returns
  have hts0 := atoms_spec (ws := ab_ws y) B.pre
  have hts : ∀ w ∈ ab_tb, w.before avr.toArray s = true := fun w hw => hts0 w (List.mem_cons_of_mem _ hw)
  have hown : s.vm.findClass (ab_mn y).cls = some m.cls := findClass_of_methodNamed B.named
  have hlocks := B.notSynchronized
  have hin : meth.name = (ab_mn y).name := (name_of_methodNamed B.named B.method).1
  rw [o2] at hown
  have hS : va_S (va_A ws s.heap.size) s.heap s.heap [] := va_S.rf
  rw [lg_entry_eq]
  refine h p e _ s m avr.toArray below meth c (va_A ws s.heap.size) ad _ ⟨hx, hb, hr, hml, hown, hts, ⟨hlocks, fun e9 => absurd e9 (ab_okm_kd hok)⟩, hin, hK, Nat.le_refl _, Nat.le_refl _, fun q hq => Or.inr hq, hSX⟩ ?_ s.heap [] 0 0 ad ws _ _ ⟨⟨[], List.append_nil _⟩, hn, hrw, hP, hD, hS⟩ (ab_rl_entry hav (Nat.le_of_ble_eq_true hmx)) trivial (by show 0 + mc ≤ mc; omega) (by show 0 + ms ≤ ms; omega)
  refine ⟨?_, ?_⟩
  · intro pc v v' H locs cells slots ad2 w2 n2 ws2 lsr hq hh hro hisr hc1 hs1
    obtain ⟨hp0, hn0, hw0, hP2, hD2, hS2⟩ := hh
    have hq2 := hQ v w2 n2 hq
    have hv7 : v ≠ some (.retAddr 7777) := by
      rintro rfl
      exact (show False from hisr).elim
    have hfin : ∀ (v' : Option Value), ab_ro X ad2 v v' → ∀ t : State, t.heap = H → ab_Qc X ad (ab_Qr Q) (va_A ws s.heap.size) avr.toArray s (.returned v') t := by
      intro v' hro t ht
      exact ⟨v, v', w2, n2, ad2, ws2, rfl, hro, ⟨hv7, hq⟩, hp0, hn0, hw0, by rw [ht]; exact hP2, hD2, hS2.F ht⟩
    refine vx_ret (W.widen (k := mc) (n := ms) hc1 hs1 ?_)
    have hro' : ab_rs X ad2 v.toList v'.toList := hro
    cases v with
    | none => exact hq2.elim
    | some a =>
      cases v' with
      | none => exact hro'.elim
      | some b =>
        cases a with
        | int x =>
          cases hro'.1
          obtain ⟨d1, ty, d2, d3⟩ := hisr
          exact W.zret hx hb (hr.trans d2) d3 (fun t ht _ => hfin _ hro t ht) hS2.2.2 d1
        | long x =>
          cases hro'.1
          exact W.lret hx hb (hr.trans hq2) (fun t ht _ => hfin _ hro t ht) hS2.2.2 hisr
        | retAddr x => exact (show False from hisr).elim
        | _ => exact hq2.elim
  · intro pc H locs cells slots ad2 w2 n2 ws2 ls2 lsr st2 str2 hq hh hl2 hs2 hT hct hpc hc1 hs1
    obtain ⟨j, k, q, e1, e2, e3, hd⟩ := ab_thk_spec hth hpc hT
    obtain ⟨hp0, hn0, hw0, hP2, hD2, hS2⟩ := hh
    have hcat : (str2.map fun v => v.category).sum ≤ 8 := ab_cat_le hs2 hct
    have hxc : ∀ t : State, s.vm.Alike t.vm → H.size ≤ t.heap.size → (∀ q : Nat, q < H.size → t.heap[q]? = H[q]?) → ab_Xc X ad Q (va_A ws s.heap.size) ab_NSE s t := by
      intro t _ ht1 ht2
      refine ⟨rfl, w2, n2, ad2, ws2, hq, hp0, hn0, hw0, hP2.kept (fun k9 q9 h9 => ht2 _ (hP2 k9 q9 h9).lt), hD2, Nat.le_trans hS2.1 ht1, fun q9 g1 g2 => ?_⟩
      rw [ht2 q9 (Nat.lt_of_lt_of_le g1 hS2.1)]
      exact hS2.2.1 q9 g1 g2
    rw [hoc] at hown e2
    have hstr : vk_R "WheelPens" j q.2.2 (X.2.2.1 k) s := by
      have h9 := hSX.2.1.2.2 k q e1
      rw [e2, e3] at h9
      exact h9
    have hat := ab_at_all hts hSX
    have hgd := List.all_eq_true.mp ab_thg
    have hsize : lsr.size = c.maxLocals := hl2.size.trans hml.symm
    have hfrm : 5 < ab_fr y := by omega
    have hlcl : (str2.map fun v => v.category).sum + 82 ≤ ab_lo y := by omega
    rcases hd with ⟨d0, d3, d4, d6, d9⟩ | ⟨d0, d3, d4, d6, d9⟩
    · exact yx_throwS (text := q.2.2) (ik := 117) (is := j) (sa := X.2.2.1 k) (A := va_A ws s.heap.size) hx hb htr hown (hts _ (ab_tbm ab_thx.1 rfl)) (hts _ (ab_tbm ab_thx.2 rfl)) hstr hat hgd hSX.2.2.2.2.2.1 hSX.2.2.2.2.2.2.1 hS2 hsize d0 d3 d4 d6 d9 (fun x hx => (hnt x hx).elim) hfrm hlcl hc1 hs1 hlocks hxc hS2.2.2 hc1 hs1
    · exact yx_throwSW (text := q.2.2) (ik := 117) (is := j) (sa := X.2.2.1 k) (A := va_A ws s.heap.size) hx hb htr hown (hts _ (ab_tbm ab_thx.1 rfl)) (hts _ (ab_tbm ab_thx.2 rfl)) hstr hat hgd hSX.2.2.2.2.2.1 hSX.2.2.2.2.2.2.1 hS2 hsize d0 d3 d4 d6 d9 (fun x hx => (hnt x hx).elim) hfrm hlcl hc1 hs1 hlocks hxc hS2.2.2 hc1 hs1
end AFX

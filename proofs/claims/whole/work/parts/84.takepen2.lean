section TAKEPEN2
variable {X : ab_X} {l : Launch}
theorem chL_none (K : KA) (f : Nat) (L : List Arm) : chL K f none L = L := by cases f <;> rfl
theorem k_takePen (x : Int32) (p : Nat) (w : ab_W) (n : Nat) {s : Nat → Int32} {wd tn : Int64} {K : KA} {nr nw np : Nat} (hx : x = nI p) (hp : p < np) (hK : KAok K nw np) (h90 : w 90 = oMod s wd tn) (hC : MKit w K nr nw np) (hA : MA w) :
    ab_C X l i_Mod_takePen [.ref 90, .int x] w n 0 0 (qV fun w' n' => n = n' ∧ Fr FZ w w' ∧ w' 90 = oMod (upd s 33 (nI (PnL K p).length)) wd (lN (PnT K p)) ∧ PnM w' K p) := by
  subst hx
  obtain ⟨hok, hlen⟩ := pn_ok hK hp
  obtain ⟨-, -, -, ⟨f98, h98, g98⟩, ⟨f99, h99, g99⟩, ⟨f101, h101, g101⟩, ⟨f102, h102, g102⟩, ⟨f103, h103, g103⟩, ⟨f104, h104, g104⟩, ⟨f105, h105, g105⟩, f106, h106, g106⟩ := hC
  obtain ⟨⟨q7, k7⟩, ⟨q8, k8⟩, ⟨q9, k9⟩, q10, k10⟩ := hA
  obtain ⟨⟨hw12, hp8⟩, hW, hPn⟩ := hK
  obtain ⟨p1, p2⟩ := hPn p hp
  generalize hQ : (qV fun w' n' => n = n' ∧ Fr FZ w w' ∧ w' 90 = oMod (upd s 33 (nI (PnL K p).length)) wd (lN (PnT K p)) ∧ PnM w' K p) = Q
  have fin : ∀ w3 (L : List Arm) u d sp (z : Int32), Fr FZ w w3 → L = PnL0 K p → w3 90 = oMod (upd s 33 (nI L.length)) wd tn → w3 107 = aJ 6 u → w3 108 = aJ 6 d → w3 110 = aI 6 sp → pmI L u d sp → w3 109 = aJ 6 q9 → ab_Ev X l i_Mod_takePen 74 [some (.ref 90), some (.int (nI p)), some (.int (nI (kPw K p))), some (.int z), none, none, none, none, none, none] [] w3 n 0 0 Q := by
    intro w3 L u d sp z hf hL z90 z7 z8 z10 hpm z9
    subst hL
    have hok2 : LOk (PnL K p) := hok.flt
    have hlen2 : (PnL K p).length ≤ 5 := Nat.le_trans (flt_len _) hlen
    have f1 : Fr (fun k => k = 90) w3 (va_up w3 90 (oMod (upd s 33 (nI (PnL0 K p).length)) wd (lN 1))) := Fr.refl.up rfl
    have go := e_fltM (X := X) (l := l) (Q := Q) (l2 := nI (kPw K p)) (l3 := z) (PnL0 K p) p (va_up w3 90 (oMod (upd s 33 (nI (PnL0 K p).length)) wd (lN 1))) n hlen hok va_us upd_at (f1.get z7 (by omega)) (f1.get z8 (by omega)) (f1.get z10 (by omega)) hpm (by
      intro w4 u4 d4 s4 f4 a90 hTb a7 a8 a10 hpm4
      have a9 : w4 109 = aJ 6 q9 := f4.get (f1.get z9 (by omega)) (by omega)
      have f5 : Fr (fun k => k = 90) w4 (va_up w4 90 (oMod (upd s 33 (nI (PnL K p).length)) wd (lN (PnT K p)))) := Fr.refl.up rfl
      have go2 := e_windM (X := X) (l := l) (Q := Q) (l2 := nI (kPw K p)) (l3 := z) (PnL K p) (PnT K p) p (va_up w4 90 (oMod (upd s 33 (nI (PnL K p).length)) wd (lN (PnT K p)))) n (s := s4) hlen2 hok2 hTb va_us (f5.get a7 (by omega)) (f5.get a8 (by omega)) (f5.get a9 (by omega)) hpm4 (by
        intro w5 f6 ⟨f9, b9, b9q⟩
        have b90 : w5 90 = oMod (upd s 33 (nI (PnL K p).length)) wd (lN (PnT K p)) := f6.get va_us (by omega)
        have b10 : w5 110 = aI 6 s4 := f6.get (f5.get a10 (by omega)) (by omega)
        refine e_sortM (PnL K p).length p (PnW K p) (fun k => Int32.ofInt (PnS K p k)) w5 n hlen2 b9 b10 b90 b9q (fun k hk => (hpm4 k hk).2.2) ?_
        intro w6 f7 e1 e2
        subst hQ
        have ff : Fr FZ w w6 := (((((hf.trans (f1.mono (fun k hk => by omega))).trans (f4.mono (fun k hk => by omega))).trans (f5.mono (fun k hk => by omega))).trans (f6.mono (fun k hk => by omega))).trans (f7.mono (fun k hk => by omega)))
        exact ⟨rfl, rfl, ff, f7.get b90 (by omega), ⟨u4, f7.get (f6.get (f5.get a7 (by omega)) (by omega)) (by omega)⟩, ⟨d4, f7.get (f6.get (f5.get a8 (by omega)) (by omega)) (by omega)⟩, e1, e2⟩)
      obtain ⟨w4, rfl⟩ := va_ex a90
      refine ab_sound ok_187 [198] 80 ?_
      refine ab_ev_of go2 rfl rfl ?_
      rw [va_uu, va_uu]
      show va_up w4 90 (oMod (upd (upd s 33 (nI (PnL0 K p).length)) 33 (nI (PnL K p).length)) wd (lN (PnT K p))) = _
      rw [upd_upd])
    obtain ⟨w3, rfl⟩ := va_ex z90
    refine ab_sound ok_187 [85] 80 ?_
    exact ab_ev_of go rfl rfl rfl
  have loop : ∀ f w3 (o : Option Nat) (L : List Arm) u d sp (z : Int32), Fr FZ w w3 → (∀ v, o = some v → z = nI v ∧ v < nw ∧ kHt K v ≤ f) → (o = none → z < 0) → chL K f o L = PnL0 K p → L.length + f ≤ 5 → w3 90 = oMod (upd s 33 (nI L.length)) wd tn → w3 107 = aJ 6 u → w3 108 = aJ 6 d → w3 110 = aI 6 sp → pmI L u d sp → w3 109 = aJ 6 q9 → ab_Ev X l i_Mod_takePen 36 [some (.ref 90), some (.int (nI p)), some (.int (nI (kPw K p))), some (.int z), none, none, none, none, none, none] [] w3 n 0 0 Q := by
    have stop : ∀ f w3 (L : List Arm) u d sp (z : Int32), Fr FZ w w3 → z < 0 → chL K f none L = PnL0 K p → w3 90 = oMod (upd s 33 (nI L.length)) wd tn → w3 107 = aJ 6 u → w3 108 = aJ 6 d → w3 110 = aI 6 sp → pmI L u d sp → w3 109 = aJ 6 q9 → ab_Ev X l i_Mod_takePen 36 [some (.ref 90), some (.int (nI p)), some (.int (nI (kPw K p))), some (.int z), none, none, none, none, none, none] [] w3 n 0 0 Q := by
      intro f w3 L u d sp z hf hz hL z90 z7 z8 z10 hpm z9
      rw [chL_none] at hL
      refine ab_sound ok_187 [74] 80 ?_
      refine And.intro (fun _ => ?_) (fun h_9 => absurd (hz) h_9)
      exact fin w3 L u d sp z hf hL z90 z7 z8 z10 hpm z9
    intro f
    induction f with
    | zero =>
      intro w3 o L u d sp z hf ho hn hL hl z90 z7 z8 z10 hpm z9
      cases o with
      | none => exact stop 0 w3 L u d sp z hf (hn rfl) hL z90 z7 z8 z10 hpm z9
      | some v =>
        obtain ⟨-, hv, hh⟩ := ho v rfl
        have := (hW v hv).2.1.1
        omega
    | succ f ih =>
      intro w3 o L u d sp z hf ho hn hL hl z90 z7 z8 z10 hpm z9
      cases o with
      | none => exact stop (f + 1) w3 L u d sp z hf (hn rfl) hL z90 z7 z8 z10 hpm z9
      | some v =>
        obtain ⟨hz, hv, hh⟩ := ho v rfl
        subst hz
        obtain ⟨w1, w2, w3', w4, w5, w6, w7⟩ := hW v hv
        obtain ⟨b1, b2⟩ := g98 v hv
        have hL : chL K f (kBs K v) (jnL (kUp K v).toInt64 (kLo K v).toInt64 (kSp K v).toInt L) = PnL0 K p := hL
        have y98 := hf.get h98 (by omega)
        have y99 := hf.get h99 (by omega)
        have y103 := hf.get h103 (by omega)
        have y104 := hf.get h104 (by omega)
        have z90' := z90
        obtain ⟨w3, rfl⟩ := va_ex5 z90 y98 y99 y103 y104
        refine ab_sound ok_187 [36] 80 ?_
        refine And.intro (fun h_9 => absurd h_9 (nI_pos (by omega))) (fun _ => ?_)
        refine And.intro (vp_in_nI (by omega) (by omega)) ?_
        refine And.intro (vp_in_nI (by omega) (by omega)) ?_
        refine And.intro (vp_in_nI (by omega) (by omega)) ?_
        rw [nI_clamp (by omega), g103 v hv, g104 v hv, g99 v hv]
        (refine Exists.intro 0 ?_; refine ⟨0, _, Nat.zero_le _, Nat.zero_le _, k_addArm _ _ _ (kSp K v).toInt L _ _ (i32_of _) (by omega) z90' upd_at z7 z8 z10 hpm, ?_⟩; rintro _ w4' _ ⟨rfl, rfl, a1, a2, u4, d4, s4, a3, a4, a5, a6⟩)
        rw [upd_upd] at a2
        have y98' : w4' 98 = aI 24 f98 := a1.get rfl (by omega)
        have z9' := a1.get z9 (by omega)
        have hjl := (jn_len (a := (kUp K v).toInt64) (b := (kLo K v).toInt64) (s := (kSp K v).toInt) L).2
        have nxt : ∀ z : Int32, (∀ b, kBs K v = some b → z = nI b) → (kBs K v = none → z < 0) → ab_Ev X l i_Mod_takePen 36 [some (.ref 90), some (.int (nI p)), some (.int (nI (kPw K p))), some (.int z), none, none, none, none, none, none] [] w4' n 0 0 Q := fun z h1 h2 => ih w4' (kBs K v) _ u4 d4 s4 z (hf.trans (a1.mono (fun k hk => by omega))) (fun b hb => ⟨h1 b hb, by have := (w1 b hb).1; omega, by have := (w1 b hb).2; omega⟩) h2 hL (by omega) a2 a3 a4 a5 a6 z9'
        obtain ⟨w4', rfl⟩ := va_ex2 a2 y98'
        refine And.intro (vp_in_nI (by omega) (by omega)) ?_
        rw [nI_clamp (by omega)]
        refine ab_ev_of (nxt (f98 v - nI 4) (fun b hb => ?_) (fun hb => ?_)) rfl rfl rfl
        · rw [b1 b hb, pk_sub (by omega), show 4 + b - 4 = b by omega]
        · obtain ⟨r, hr, e⟩ := b2 hb
          rw [e, i32_lt, pk_sub_toInt (by omega) (by omega)]
          have : (0 : Int32).toInt = 0 := rfl
          omega
  have fA : Fr FZ w (va_up w 90 (oMod (upd s 33 (nI 0)) wd tn)) := Fr.refl.up (by omega)
  have first := k_addArm (X := X) (l := l) (kSu K (kPw K p)).toInt64 (kSl K (kPw K p)).toInt64 (kPo K p) (kPo K p).toInt [] (va_up w 90 (oMod (upd s 33 (nI 0)) wd tn)) n (i32_of _) (by show 0 < 6; omega) va_us upd_at ((va_un (by omega)).trans k7) ((va_un (by omega)).trans k8) ((va_un (by omega)).trans k10) (fun i hi => absurd hi (Nat.not_lt_zero _))
  have y90 : (va_up w 90 (oMod (upd s 33 (nI 0)) wd tn)) 90 = oMod (upd s 33 (nI 0)) wd tn := va_us
  have y101 := fA.get h101 (by omega)
  have y102 := fA.get h102 (by omega)
  have y105 := fA.get h105 (by omega)
  have y106 := fA.get h106 (by omega)
  have y9 := ((va_un (by omega)).trans k9 : (va_up w 90 (oMod (upd s 33 (nI 0)) wd tn)) 109 = aJ 6 q9)
  have at5 : ab_Ev X l i_Mod_takePen 5 [some (.ref 90), some (.int (nI p)), none, none, none, none, none, none, none, none] [] (va_up w 90 (oMod (upd s 33 (nI 0)) wd tn)) n 0 0 Q := by
    generalize hW9 : va_up w 90 (oMod (upd s 33 (nI 0)) wd tn) = W9 at *
    obtain ⟨W9, rfl⟩ := va_ex5 y90 y101 y102 y105 y106
    refine ab_sound ok_187 [36] 80 ?_
    refine And.intro (vp_in_nI (by omega) (by omega)) ?_
    rw [nI_clamp (by omega), g101 p hp]
    refine And.intro (vp_in_nI (by omega) (by omega)) ?_
    refine And.intro (vp_in_nI (by omega) (by omega)) ?_
    refine And.intro (vp_in_nI (by omega) (by omega)) ?_
    rw [nI_clamp (by omega), nI_clamp (by omega), g105 _ p1, g106 _ p1, g102 p hp]
    (refine Exists.intro 0 ?_; refine ⟨0, _, Nat.zero_le _, Nat.zero_le _, first, ?_⟩; rintro _ w4 _ ⟨rfl, rfl, a1, a2, u4, d4, s4, a3, a4, a5, a6⟩)
    rw [upd_upd] at a2
    exact ab_ev_of (loop 4 w4 (some (kPw K p)) _ u4 d4 s4 (nI (kPw K p)) (fA.trans (a1.mono (fun k hk => by omega))) (fun v hv => by cases hv; exact ⟨rfl, p1, (hW _ p1).2.1.2⟩) (fun z => by cases z) rfl (by have := (jn_len (a := (kSu K (kPw K p)).toInt64) (b := (kSl K (kPw K p)).toInt64) (s := (kPo K p).toInt) []).2; have h0 : ([] : List Arm).length = 0 := rfl; omega) a2 a3 a4 a5 a6 (a1.get y9 (by omega))) rfl rfl rfl
  obtain ⟨w, rfl⟩ := va_ex h90
  subst hQ
  refine ab_mqV cd_187 om_187 rfl rfl (ab_sound ok_187 [5] 80 ?_)
  exact ab_ev_of at5 rfl rfl rfl
end TAKEPEN2

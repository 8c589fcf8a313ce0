/-! a wheel's line read by the model -/
section MRWHEEL
variable {X : ab_X} {l : Launch}
theorem k_mw267 (T : TE) (c t lo p6 : Nat) (i : Bool) (o : Option (Nat × Nat)) (u : Int) (w w1 : ab_W) (n : Nat) {S : KS} {s0 s : Nat → Int32} {wd tn : Int64} {K0 : KA} {a0 b0 c0 : Nat} {O : Out} {f2 g3 g4 : Nat → Int64} {f10 : Nat → Int32} (hO : (if tkS T p6 59 = true then (if sO S o t i u lo = true then .inr (p6, adW S c t i o u lo) else .inl (5, tP T p6)) else .inl (1, tP T p6)) = O) (hS : KSok S) (hb0 : b0 ≤ 12) (h12 : sW S < 12) (hb : BsOk S o) (ht : 3 ≤ t ∧ t ≤ 200) (hu : u.natAbs ≤ 99) (hl1 : 1 ≤ lo) (hl2 : lo ≤ 99) (hp : p6 ≤ tL T) (fr : Fr FMk w w1) (frs : Fr FMr s0 s) (h90 : w1 90 = oMod s wd tn) (hA : AtM T p6 s wd) (hJ : MJr w1 K0 a0 b0 c0 S) (h92 : w1 92 = aJ 24 f2) (hN : NmM (adW S c 0 false none 0 1) f2) (h100 : w1 100 = aI 24 f10) (e10 : f10 (12 + sW S) = nI (bH S o)) (h103 : w1 103 = aJ 24 g3) (k3 : g3 (12 + sW S) = (Int32.ofInt (arU u lo)).toInt64) (h104 : w1 104 = aJ 24 g4) (k4 : g4 (12 + sW S) = (nI (arL u lo)).toInt64) :
    ab_Ev X l i_Mod_readWheel 267 [some (.ref 90), some (.int (nI (12 + sW S))), some (.int (nI t)), some (.int (b01 i)), some (.int (nI (bsN o))), some (.int (b01 (onR o))), some (.int (nI (bT S o)))] [] w1 n 0 0 (mrQ T K0 a0 b0 c0 w n s0 tn O) := by
  have hJ2 := hJ
  obtain ⟨m93, ⟨f4, h94, l4, v4⟩, m95, m96, ⟨f7, h97, v7⟩, ⟨f8, h98, l8, v8⟩, ⟨f9, h99, l9, v9⟩, m100, m101, m102, m103, m104, ⟨g5, h105, l15, v15⟩, ⟨g6, h106, l16, v16⟩⟩ := hJ2
  have tb := bT_bd hS hb
  have wn := bs_wn hS hb hu hl1 hl2 ht
  obtain ⟨ar1, ar2, ar3⟩ := ar_ok hu hl1 hl2
  have i1 : (Int32.ofInt (arU u lo)).toInt = arU u lo := o32_i (by omega)
  have i2 : (nI (arL u lo)).toInt = (arL u lo : Int) := nI_toInt (by omega)
  have hbs : bsN o < 16 := by
    have := hS.1
    unfold bsN
    rcases hb with ⟨b1, b2⟩ | ⟨b1, b2⟩
    · rw [if_pos b1]; omega
    · rw [if_neg (by omega)]; omega
  have kS := (mS_e (T := T) (p := p6) (c := 59) (s := s) (wd := wd) rfl (by omega) hp hA)
  obtain ⟨w1, rfl⟩ : ∃ w0, w1 = va_up (va_up (va_up (va_up (va_up (va_up (va_up (va_up (va_up w0 106 (aJ 24 g6)) 105 (aJ 24 g5)) 104 (aJ 24 g4)) 103 (aJ 24 g3)) 99 (aI 24 f9)) 98 (aI 24 f8)) 97 (aI 24 f7)) 94 (aI 2 f4)) 90 (oMod s wd tn) := ⟨w1, by rw [← va_self h106, ← va_self h105, ← va_self h104, ← va_self h103, ← va_self h99, ← va_self h98, ← va_self h97, ← va_self h94, ← va_self h90]⟩
  have hJ3 := ((hJ.u97 (x := nI t) rfl).u98 (f := f8) (x := nI (bsN o)) hb0 rfl).u99 (f := f9) (x := sSp S o t i) hb0 rfl
  have fr3 := ((fr.up (k := 97) (c := aI 24 (upd f7 (12 + sW S) (nI t))) (by unfold FMk; omega)).up (k := 98) (c := aI 24 (upd f8 (12 + sW S) (nI (bsN o)))) (by unfold FMk; omega)).up (k := 99) (c := aI 24 (upd f9 (12 + sW S) (sSp S o t i))) (by unfold FMk; omega)
  have h92w : w1 92 = aJ 24 f2 := h92
  have h100w : w1 100 = aI 24 f10 := h100
  have at385 : tkS T p6 59 = true → ∀ (x2 x3 : Int64), x2 = (nI (bT S o)).toInt64 → x3 = Int64.ofInt (if i = true then (t : Int) else -(t : Int)) → ab_Ev X l i_Mod_readWheel 385 [some (.ref 90), some (.int (nI (12 + sW S))), some (.int (nI t)), some (.int (b01 i)), some (.int (nI (bsN o))), some (.int (b01 (onR o))), some (.int (nI (bT S o)))] [.long x3, .long x2, .long (bL S o).toInt64, .long (bU S o).toInt64, .int (nI (12 + sW S)), .ref 90] (va_up (va_up (va_up (va_up (va_up (va_up (va_up (va_up (va_up (va_up (va_up (va_up w1 106 (aJ 24 g6)) 105 (aJ 24 g5)) 104 (aJ 24 g4)) 103 (aJ 24 g3)) 99 (aI 24 f9)) 98 (aI 24 f8)) 97 (aI 24 f7)) 94 (aI 2 f4)) 90 (oMod s wd tn)) 97 (aI 24 (upd f7 (12 + sW S) (nI t)))) 98 (aI 24 (upd f8 (12 + sW S) (nI (bsN o))))) 99 (aI 24 (upd f9 (12 + sW S) (sSp S o t i)))) n 0 0 (mrQ T K0 a0 b0 c0 w n s0 tn O) := by
    intro c9 x2 x3 hx2 hx3
    rw [if_pos c9] at hO
    have k9 := (tkS_k c9).1
    have cs := c_Mod_spins (X := X) (l := l) i (12 + sW S) t (bT S o) (va_up (va_up (va_up (va_up (va_up (va_up (va_up (va_up (va_up (va_up (va_up (va_up w1 106 (aJ 24 g6)) 105 (aJ 24 g5)) 104 (aJ 24 g4)) 103 (aJ 24 g3)) 99 (aI 24 f9)) 98 (aI 24 f8)) 97 (aI 24 f7)) 94 (aI 2 f4)) 90 (oMod s wd tn)) 97 (aI 24 (upd f7 (12 + sW S) (nI t)))) 98 (aI 24 (upd f8 (12 + sW S) (nI (bsN o))))) 99 (aI 24 (upd f9 (12 + sW S) (sSp S o t i)))) n (s := s) (wd := wd) (tn := tn) (bu := bU S o) (bl := bL S o) (au := Int32.ofInt (arU u lo)) (al := nI (arL u lo)) (f3 := g3) (f4 := g4) (f5 := g5) (f6 := g6) rfl (by omega) hx2 hx3 (by rw [i1, i2]; exact wn) rfl rfl rfl rfl rfl k3 k4
    rw [i1, i2] at cs
    have hOo : wpO i (bU S o).toInt (bL S o).toInt (arU u lo) (arL u lo : Int) t (bT S o) = sO S o t i u lo := rfl
    have hX9 : wpX i (bU S o).toInt (bL S o).toInt (arU u lo) (arL u lo : Int) t (bT S o) = sX S o t i u lo := rfl
    have hY9 : wpY i (bU S o).toInt (bL S o).toInt (arU u lo) (arL u lo : Int) t (bT S o) = sY S o t i u lo := rfl
    rw [hOo, hX9, hY9] at cs
    have hJ4 := (hJ3.u105 (f := g5) (x := Int64.ofInt (sX S o t i u lo)) hb0 rfl).u106 (f := g6) (x := Int64.ofInt (sY S o t i u lo)) hb0 rfl
    have fr4 := (fr3.up (k := 105) (c := aJ 24 (vp_updL g5 (12 + sW S) (Int64.ofInt (sX S o t i u lo)))) (by unfold FMk; omega)).up (k := 106) (c := aJ 24 (vp_updL g6 (12 + sW S) (Int64.ofInt (sY S o t i u lo)))) (by unfold FMk; omega)
    refine ab_sound ok_176 [] 80 ?_
    (refine Exists.intro 0 ?_; refine ⟨0, _, Nat.zero_le _, Nat.zero_le _, cs, ?_⟩; refine ab_q1_elim ?_)
    cases c8 : sO S o t i u lo
    · rw [c8, if_neg (by decide)] at hO
      refine And.intro (fun h_9 => absurd (rfl) h_9) (fun _ => ?_)
      (refine Exists.intro 0 ?_; refine ⟨0, _, Nat.zero_le _, Nat.zero_le _, k_bad T p6 5 _ _ rfl (Or.inr ⟨by omega, by omega⟩) rfl hA, ?_⟩; refine ab_q1_elim ?_)
      exact ⟨rfl, mrQ_l hO (fr4.up (Or.inl rfl)) rfl frs (hJ4.sh ⟨f2, h92w⟩).u90⟩
    · rw [c8, if_pos rfl] at hO
      have hz : wpX i (bU S o).toInt (bL S o).toInt (arU u lo) (arL u lo : Int) t (bT S o) ≤ 9999 ∧ -9999 ≤ wpX i (bU S o).toInt (bL S o).toInt (arU u lo) (arL u lo : Int) t (bT S o) ∧ wpY i (bU S o).toInt (bL S o).toInt (arU u lo) (arL u lo : Int) t (bT S o) ≤ 9999 := of_decide_eq_true c8
      have hy := (wp_xy (i := i) wn).2.2.2.1
      rw [hX9, hY9] at hz
      rw [hY9] at hy
      refine And.intro (fun _ => ?_) (fun h_9 => absurd h_9 ((by decide)))
      refine And.intro (vp_in_nI (show 1 < 2 by omega) (by omega)) ?_
      refine And.intro (vp_in_nI (show 1 < 2 by omega) (by omega)) ?_
      rw [nI_clamp (by omega), v4]
      have hJ5 := MJ_adW (c := c) (t := t) (i := i) (o := o) (u := u) (lo := lo) hJ4 (by omega) (by omega) hb (by have := hS.1; omega) h92w hN rfl rfl upd_at rfl upd_at rfl upd_at h100w e10 rfl k3 rfl k4 rfl pk_uLs rfl pk_uLs
      exact ⟨rfl, mrQ_r hO (fr4.up (by unfold FMk; omega)) rfl frs hA hJ5⟩
  have at326 : tkS T p6 59 = true → ab_Ev X l i_Mod_readWheel 326 [some (.ref 90), some (.int (nI (12 + sW S))), some (.int (nI t)), some (.int (b01 i)), some (.int (nI (bsN o))), some (.int (b01 (onR o))), some (.int (nI (bT S o)))] [] (va_up (va_up (va_up (va_up (va_up (va_up (va_up (va_up (va_up (va_up (va_up (va_up w1 106 (aJ 24 g6)) 105 (aJ 24 g5)) 104 (aJ 24 g4)) 103 (aJ 24 g3)) 99 (aI 24 f9)) 98 (aI 24 f8)) 97 (aI 24 f7)) 94 (aI 2 f4)) 90 (oMod s wd tn)) 97 (aI 24 (upd f7 (12 + sW S) (nI t)))) 98 (aI 24 (upd f8 (12 + sW S) (nI (bsN o))))) 99 (aI 24 (upd f9 (12 + sW S) (sSp S o t i)))) n 0 0 (mrQ T K0 a0 b0 c0 w n s0 tn O) := by
    intro c9
    have a385 := at385 c9 (nI (bT S o)).toInt64
    have at370 : ab_Ev X l i_Mod_readWheel 370 [some (.ref 90), some (.int (nI (12 + sW S))), some (.int (nI t)), some (.int (b01 i)), some (.int (nI (bsN o))), some (.int (b01 (onR o))), some (.int (nI (bT S o)))] [.long (bL S o).toInt64, .long (bU S o).toInt64, .int (nI (12 + sW S)), .ref 90] (va_up (va_up (va_up (va_up (va_up (va_up (va_up (va_up (va_up (va_up (va_up (va_up w1 106 (aJ 24 g6)) 105 (aJ 24 g5)) 104 (aJ 24 g4)) 103 (aJ 24 g3)) 99 (aI 24 f9)) 98 (aI 24 f8)) 97 (aI 24 f7)) 94 (aI 2 f4)) 90 (oMod s wd tn)) 97 (aI 24 (upd f7 (12 + sW S) (nI t)))) 98 (aI 24 (upd f8 (12 + sW S) (nI (bsN o))))) 99 (aI 24 (upd f9 (12 + sW S) (sSp S o t i)))) n 0 0 (mrQ T K0 a0 b0 c0 w n s0 tn O) := by
      refine ab_sound ok_176 [385] 80 ?_
      cases i
      · refine And.intro (fun _ => ?_) (fun h_9 => absurd (rfl) h_9)
        refine a385 (-nI t).toInt64 rfl ?_
        have z : -nI t = Int32.ofInt (sgI true t) := by rw [← sgI_32, if_pos rfl]
        rw [z, i32_64, o32_i (by rw [sgI_ab]; omega)]
        rfl
      · refine And.intro (fun h_9 => absurd h_9 ((by decide))) (fun _ => ?_)
        refine a385 (nI t).toInt64 rfl ?_
        rw [i32_64, nI_toInt (by omega)]
        rfl
    rcases hb with ⟨b1, b2⟩ | ⟨b1, b2⟩
    · have hon : onR o = true := decide_eq_true b1
      have hbu : (bU S o).toInt64 = lN 0 := by unfold bU; rw [if_pos b1]; decide
      have hbl : (bL S o).toInt64 = lN 1 := by unfold bL; rw [if_pos b1]; decide
      rw [hon, hbu, hbl] at at370
      rw [hon]
      refine ab_sound ok_176 [370] 80 ?_
      refine And.intro (fun h_9 => absurd h_9 ((by decide))) (fun _ => ?_)
      refine And.intro (fun h_9 => absurd h_9 ((by decide))) (fun _ => ?_)
      exact at370
    · have hon : onR o = false := decide_eq_false (by omega)
      have hbn : bsN o = 4 + soJ o := by unfold bsN; rw [if_neg (by omega)]
      have hbu : (bU S o).toInt64 = g5 (12 + soJ o) := by unfold bU; rw [if_neg (by omega), v15 _ b2]
      have hbl : (bL S o).toInt64 = g6 (12 + soJ o) := by unfold bL; rw [if_neg (by omega), v16 _ b2]
      have ix : nI 12 + nI (bsN o) - nI 4 = nI (12 + soJ o) := by rw [nI_add, pk_sub (by omega), hbn]; congr 1; omega
      rw [hon, hbu, hbl] at at370
      rw [hon]
      refine ab_sound ok_176 [370] 80 ?_
      refine And.intro (fun _ => ?_) (fun h_9 => absurd (rfl) h_9)
      refine And.intro ((by rw [ix]; exact vp_in_nI (show 12 + soJ o < 24 by omega) (by omega))) ?_
      rw [ix, nI_clamp (by omega)]
      refine And.intro (fun _ => ?_) (fun h_9 => absurd (rfl) h_9)
      refine And.intro ((by rw [ix]; exact vp_in_nI (show 12 + soJ o < 24 by omega) (by omega))) ?_
      rw [ix, nI_clamp (by omega)]
      exact at370
  have at302 : ab_Ev X l i_Mod_readWheel 302 [some (.ref 90), some (.int (nI (12 + sW S))), some (.int (nI t)), some (.int (b01 i)), some (.int (nI (bsN o))), some (.int (b01 (onR o))), some (.int (nI (bT S o)))] [.int (sSp S o t i), .int (nI (12 + sW S)), .ref 99] (va_up (va_up (va_up (va_up (va_up (va_up (va_up (va_up (va_up (va_up (va_up w1 106 (aJ 24 g6)) 105 (aJ 24 g5)) 104 (aJ 24 g4)) 103 (aJ 24 g3)) 99 (aI 24 f9)) 98 (aI 24 f8)) 97 (aI 24 f7)) 94 (aI 2 f4)) 90 (oMod s wd tn)) 97 (aI 24 (upd f7 (12 + sW S) (nI t)))) 98 (aI 24 (upd f8 (12 + sW S) (nI (bsN o))))) n 0 0 (mrQ T K0 a0 b0 c0 w n s0 tn O) := by
    have at320 : tkS T p6 59 = false → ab_Ev X l i_Mod_readWheel 320 [some (.ref 90), some (.int (nI (12 + sW S))), some (.int (nI t)), some (.int (b01 i)), some (.int (nI (bsN o))), some (.int (b01 (onR o))), some (.int (nI (bT S o)))] [] (va_up (va_up (va_up (va_up (va_up (va_up (va_up (va_up (va_up (va_up (va_up (va_up w1 106 (aJ 24 g6)) 105 (aJ 24 g5)) 104 (aJ 24 g4)) 103 (aJ 24 g3)) 99 (aI 24 f9)) 98 (aI 24 f8)) 97 (aI 24 f7)) 94 (aI 2 f4)) 90 (oMod s wd tn)) 97 (aI 24 (upd f7 (12 + sW S) (nI t)))) 98 (aI 24 (upd f8 (12 + sW S) (nI (bsN o))))) 99 (aI 24 (upd f9 (12 + sW S) (sSp S o t i)))) n 0 0 (mrQ T K0 a0 b0 c0 w n s0 tn O) := by
      intro c9
      rw [if_neg (by rw [c9]; decide)] at hO
      refine ab_sound ok_176 [] 80 ?_
      (refine Exists.intro 0 ?_; refine ⟨0, _, Nat.zero_le _, Nat.zero_le _, k_bad T p6 1 _ _ rfl (Or.inl rfl) rfl hA, ?_⟩; refine ab_q1_elim ?_)
      exact ⟨rfl, mrQ_l hO (fr3.up (Or.inl rfl)) rfl frs (hJ3.sh ⟨f2, h92w⟩).u90⟩
    refine ab_sound ok_176 [320, 326] 80 ?_
    refine And.intro (vp_in_nI (show 12 + sW S < 24 by omega) (by omega)) ?_
    rw [nI_clamp (by omega)]
    cases c9 : tkS T p6 59
    · rw [c9] at kS
      have kS := of_decide_eq_false kS
      by_cases z7 : s 7 = nI 4
      · refine And.intro (fun h_9 => absurd (z7) h_9) (fun _ => ?_)
        refine And.intro (fun h_9 => absurd h_9 ((fun z => kS ⟨z7, z⟩))) (fun _ => ?_)
        exact at320 c9
      · refine And.intro (fun _ => ?_) (fun h_9 => absurd h_9 (z7))
        exact at320 c9
    · rw [c9] at kS
      have kS := of_decide_eq_true kS
      refine And.intro (fun h_9 => absurd (kS.1) h_9) (fun _ => ?_)
      refine And.intro (fun _ => ?_) (fun h_9 => absurd (kS.2) h_9)
      exact at326 c9
  refine ab_sound ok_176 [302] 80 ?_
  refine And.intro (vp_in_nI (show 12 + sW S < 24 by omega) (by omega)) ?_
  rw [nI_clamp (by omega)]
  refine And.intro (vp_in_nI (show 12 + sW S < 24 by omega) (by omega)) ?_
  rw [nI_clamp (by omega)]
  cases i
  · refine And.intro (fun _ => ?_) (fun h_9 => absurd (rfl) h_9)
    exact at302
  · refine And.intro (fun h_9 => absurd h_9 ((by decide))) (fun _ => ?_)
    exact at302
end MRWHEEL

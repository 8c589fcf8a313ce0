/-! a change of a part, for the model -/
theorem md_mad {M : Nat} (hM : 0 < M) (a b : Int) : md ((md a M : Nat) + b : Int) M = md (a + b) M := by
  apply Int.ofNat.inj
  show ((md _ M : Nat) : Int) = ((md _ M : Nat) : Int)
  rw [md_cast _ hM, md_cast _ hM, md_cast _ hM, Int.emod_add_emod]
theorem md_mng {M : Nat} (hM : 0 < M) (a : Int) : md (-((md a M : Nat) : Int)) M = md (-a) M := by
  apply Int.ofNat.inj
  show ((md _ M : Nat) : Int) = ((md _ M : Nat) : Int)
  rw [md_cast _ hM, md_cast _ hM, md_cast _ hM, Int.neg_eq_neg_one_mul, Int.mul_emod, Int.emod_emod, ← Int.mul_emod, ← Int.neg_eq_neg_one_mul]
def chS (T : TE) (p : Nat) (x : Pt) : Sum (Nat × Nat) (Nat × Pt) := if tkW T p 7 = true then .inr (tX T p, (-x.1, x.2.1, x.2.2.1, !x.2.2.2)) else if tkW T p 8 = true then .inr (tX T p, (x.1, x.2.1, !x.2.2.1, x.2.2.2)) else if tkW T p 6 = true ∨ tkW T p 9 = true then (if tK T (tX T p) ≠ 3 then .inl (1, tP T (tX T p)) else .inr (tX T (tX T p), chX T p x)) else .inl (1, tP T p)
theorem chg_s {T : TE} {f p : Nat} {x : Pt} (h : tK T p = 2) : chg T (f + 1) p x = match chS T p x with
    | .inl e => .inl e
    | .inr y => chg T f y.1 y.2 := by
  show (if tK T p ≠ 2 then .inr (p, x) else if tkW T p 7 = true then chg T f (tX T p) (-x.1, x.2.1, x.2.2.1, !x.2.2.2) else if tkW T p 8 = true then chg T f (tX T p) (x.1, x.2.1, !x.2.2.1, x.2.2.2) else if tkW T p 6 = true ∨ tkW T p 9 = true then (if tK T (tX T p) ≠ 3 then .inl (1, tP T (tX T p)) else chg T f (tX T (tX T p)) (chX T p x)) else .inl (1, tP T p)) = _
  rw [if_neg (fun z => z h)]
  unfold chS
  by_cases c7 : tkW T p 7 = true
  · rw [if_pos c7, if_pos c7]
  rw [if_neg c7, if_neg c7]
  by_cases c8 : tkW T p 8 = true
  · rw [if_pos c8, if_pos c8]
  rw [if_neg c8, if_neg c8]
  by_cases c69 : tkW T p 6 = true ∨ tkW T p 9 = true
  · rw [if_pos c69, if_pos c69]
    by_cases k3 : tK T (tX T p) ≠ 3
    · rw [if_pos k3, if_pos k3]
    · rw [if_neg k3, if_neg k3]
  · rw [if_neg c69, if_neg c69]
theorem chg_0 {T : TE} {f p : Nat} {x : Pt} (h : tK T p ≠ 2) : chg T (f + 1) p x = .inr (p, x) := by
  show (if tK T p ≠ 2 then (.inr (p, x) : Sum (Nat × Nat) (Nat × Pt)) else _) = _
  rw [if_pos h]
def FCh (k : Nat) : Prop := k = 90 ∨ k = 120 ∨ k = 121 ∨ k = 123 ∨ k = 124
def chQ (T : TE) (M k : Nat) (w : ab_W) (n : Nat) (s : Nat → Int32) (tn : Int64) (f20 f21 f23 f24 : Nat → Int32) (o : Sum (Nat × Nat) (Nat × Pt)) : ab_Q := fun v w' n' => ∃ b : Bool, v = some (.int (b01 b)) ∧ n = n' ∧ Fr FCh w w' ∧ ∃ s' wd', w' 90 = oMod s' wd' tn ∧ Fr FMx s s' ∧ (∃ x, w' 120 = aI 12 (upd f20 k x)) ∧ (∃ x, w' 121 = aI 12 (upd f21 k x)) ∧ (∃ x, w' 123 = aZ 12 (upd f23 k x)) ∧ (∃ x, w' 124 = aZ 12 (upd f24 k x)) ∧ (∀ e, o = .inl e → b = false ∧ s' 10 = nI e.1 ∧ s' 11 = nI e.2) ∧ (∀ y, o = .inr y → b = true ∧ Fr FMr s s' ∧ AtM T y.1 s' wd' ∧ w' 120 = aI 12 (upd f20 k (nI (md y.2.1 M))) ∧ w' 121 = aI 12 (upd f21 k (nI (md y.2.2.1 M))) ∧ w' 123 = aZ 12 (upd f23 k (b01 y.2.2.2.2)) ∧ w' 124 = aZ 12 (upd f24 k (b01 y.2.2.2.1)))
section MCHANGE
variable {X : ab_X} {l : Launch}
theorem c_spelt_7 (w : ab_W) (n : Nat) : ab_C X l i_Mod_spelt [.int (nI 109), .int (nI 105), .int (nI 114), .int (nI 114), .int (nI 0)] w n 0 0 (ab_q1 (some (.long (spl [nI 109, nI 105, nI 114, nI 114] 0))) w n) := by
  refine ab_metL cd_162 om_162 rfl rfl (ab_sound ok_162 [] 80 ?_)
  refine And.intro (fun h_9 => absurd h_9 ((by decide))) (fun _ => ?_)
  refine And.intro (fun h_9 => absurd h_9 ((by decide))) (fun _ => ?_)
  refine And.intro (fun _ => ?_) (fun h_9 => absurd ((by decide)) h_9)
  exact ⟨congrArg (fun q => some (Value.long q)) (by decide +kernel), rfl, rfl⟩
theorem c_spelt_8 (w : ab_W) (n : Nat) : ab_C X l i_Mod_spelt [.int (nI 98), .int (nI 97), .int (nI 99), .int (nI 107), .int (nI 0)] w n 0 0 (ab_q1 (some (.long (spl [nI 98, nI 97, nI 99, nI 107] 0))) w n) := by
  refine ab_metL cd_162 om_162 rfl rfl (ab_sound ok_162 [] 80 ?_)
  refine And.intro (fun h_9 => absurd h_9 ((by decide))) (fun _ => ?_)
  refine And.intro (fun h_9 => absurd h_9 ((by decide))) (fun _ => ?_)
  refine And.intro (fun _ => ?_) (fun h_9 => absurd ((by decide)) h_9)
  exact ⟨congrArg (fun q => some (Value.long q)) (by decide +kernel), rfl, rfl⟩
theorem c_spelt_6 (w : ab_W) (n : Nat) : ab_C X l i_Mod_spelt [.int (nI 116), .int (nI 117), .int (nI 114), .int (nI 110), .int (nI 0)] w n 0 0 (ab_q1 (some (.long (spl [nI 116, nI 117, nI 114, nI 110] 0))) w n) := by
  refine ab_metL cd_162 om_162 rfl rfl (ab_sound ok_162 [] 80 ?_)
  refine And.intro (fun h_9 => absurd h_9 ((by decide))) (fun _ => ?_)
  refine And.intro (fun h_9 => absurd h_9 ((by decide))) (fun _ => ?_)
  refine And.intro (fun _ => ?_) (fun h_9 => absurd ((by decide)) h_9)
  exact ⟨congrArg (fun q => some (Value.long q)) (by decide +kernel), rfl, rfl⟩
theorem c_spelt_9 (w : ab_W) (n : Nat) : ab_C X l i_Mod_spelt [.int (nI 102), .int (nI 114), .int (nI 111), .int (nI 109), .int (nI 0)] w n 0 0 (ab_q1 (some (.long (spl [nI 102, nI 114, nI 111, nI 109] 0))) w n) := by
  refine ab_metL cd_162 om_162 rfl rfl (ab_sound ok_162 [] 80 ?_)
  refine And.intro (fun h_9 => absurd h_9 ((by decide))) (fun _ => ?_)
  refine And.intro (fun h_9 => absurd h_9 ((by decide))) (fun _ => ?_)
  refine And.intro (fun _ => ?_) (fun h_9 => absurd ((by decide)) h_9)
  exact ⟨congrArg (fun q => some (Value.long q)) (by decide +kernel), rfl, rfl⟩
theorem k_isKey (T : TE) (p j : Nat) (w : ab_W) (n : Nat) {s : Nat → Int32} {wd tn v : Int64} (hj : j < 10) (hv : v = lN (cv (KW j))) (hp : p ≤ tL T) (h90 : w 90 = oMod s wd tn) (h : AtM T p s wd) : ab_C X l i_Mod_isKey [.ref 90, .long v] w n 0 0 (ab_q1 (some (.int (b01 (tkW T p j)))) w n) := by
  have key := c_Mod_isKey (X := X) (l := l) v w n h90
  rw [mW_e hj hv hp h] at key
  exact key
theorem k_readChange (T : TE) (k p M : Nat) (x : Pt) (w : ab_W) (n : Nat) {s : Nat → Int32} {wd tn : Int64} {f20 f21 f23 f24 : Nat → Int32} (hk : k < 12) (hk2 : tK T p = 2) (hMM : 3 ≤ M ∧ M ≤ 60) (hs38 : s 38 = nI M) (hL : tL T ≤ 640) (hM : tM T ≤ 640) (hp : p ≤ tL T) (h90 : w 90 = oMod s wd tn) (h91 : w 91 = aI 640 (tB T)) (h3 : s 3 = nI (tL T)) (h4 : s 4 = nI (tM T)) (hA : AtM T p s wd) (h120 : w 120 = aI 12 (upd f20 k (nI (md x.1 M)))) (h121 : w 121 = aI 12 (upd f21 k (nI (md x.2.1 M)))) (h123 : w 123 = aZ 12 (upd f23 k (b01 x.2.2.2))) (h124 : w 124 = aZ 12 (upd f24 k (b01 x.2.2.1))) :
    ab_C X l i_Mod_readChange [.ref 90, .int (nI k)] w n 0 0 (chQ T M k w n s tn f20 f21 f23 f24 (chS T p x)) := by
  obtain ⟨tu, fm, bk, mi⟩ := x
  generalize hO : chS T p (tu, fm, bk, mi) = O
  unfold chS at hO
  have hx := tX_le hp (by omega) (by omega)
  have h120 : w 120 = aI 12 (upd f20 k (nI (md tu M))) := h120
  have h121 : w 121 = aI 12 (upd f21 k (nI (md fm M))) := h121
  have h123 : w 123 = aZ 12 (upd f23 k (b01 mi)) := h123
  have h124 : w 124 = aZ 12 (upd f24 k (b01 bk)) := h124
  have mt := md_lt tu (show 0 < M by omega)
  have mf := md_lt fm (show 0 < M by omega)
  have cg := fun (w9 : ab_W) (a : w9 90 = oMod s wd tn) (b : w9 91 = aI 640 (tB T)) => k_mgo (X := X) (l := l) T p w9 n hL hM hp (by omega) (by omega) a b h3 h4 hA
  obtain ⟨w, rfl⟩ : ∃ w0, w = va_up (va_up (va_up (va_up (va_up (va_up w0 124 (aZ 12 (upd f24 k (b01 bk)))) 123 (aZ 12 (upd f23 k (b01 mi)))) 121 (aI 12 (upd f21 k (nI (md fm M))))) 120 (aI 12 (upd f20 k (nI (md tu M))))) 91 (aI 640 (tB T))) 90 (oMod s wd tn) := ⟨w, by rw [← va_self h124, ← va_self h123, ← va_self h121, ← va_self h120, ← va_self h91, ← va_self h90]⟩
  generalize hW : va_up (va_up (va_up (va_up (va_up (va_up w 124 (aZ 12 (upd f24 k (b01 bk)))) 123 (aZ 12 (upd f23 k (b01 mi)))) 121 (aI 12 (upd f21 k (nI (md fm M))))) 120 (aI 12 (upd f20 k (nI (md tu M))))) 91 (aI 640 (tB T))) 90 (oMod s wd tn) = W0
  have fin : ∀ (w9 : ab_W) (s9 : Nat → Int32) (wd9 : Int64) (q : Nat) (y : Pt), .inr (q, y) = O → Fr FCh W0 w9 → w9 90 = oMod s9 wd9 tn → Fr FMr s s9 → AtM T q s9 wd9 → w9 120 = aI 12 (upd f20 k (nI (md y.1 M))) → w9 121 = aI 12 (upd f21 k (nI (md y.2.1 M))) → w9 123 = aZ 12 (upd f23 k (b01 y.2.2.2)) → w9 124 = aZ 12 (upd f24 k (b01 y.2.2.1)) → chQ T M k W0 n s tn f20 f21 f23 f24 O (some (.int (nI 1))) w9 n := by
    intro w9 s9 wd9 q y ho fr y90 frs a9 z20 z21 z23 z24
    refine ⟨true, rfl, rfl, fr, s9, wd9, y90, fmr_x frs, ⟨_, z20⟩, ⟨_, z21⟩, ⟨_, z23⟩, ⟨_, z24⟩, fun e he => ?_, fun y2 hy => ?_⟩
    · have z := ho.trans he
      cases z
    · have z : (q, y) = y2 := Sum.inr.inj (ho.trans hy)
      subst z
      exact ⟨rfl, frs, a9, z20, z21, z23, z24⟩
  have bad1 : ∀ (w9 : ab_W) (s9 : Nat → Int32) (wd9 : Int64) (q : Nat), .inl (1, tP T q) = O → Fr FCh W0 w9 → w9 90 = oMod (upd (upd s9 10 (nI 1)) 11 (nI (tP T q))) wd9 tn → Fr FMr s s9 → w9 120 = aI 12 (upd f20 k (nI (md tu M))) → w9 121 = aI 12 (upd f21 k (nI (md fm M))) → w9 123 = aZ 12 (upd f23 k (b01 mi)) → w9 124 = aZ 12 (upd f24 k (b01 bk)) → chQ T M k W0 n s tn f20 f21 f23 f24 O (some (.int (nI 0))) w9 n := by
    intro w9 s9 wd9 q ho fr y90 frs z20 z21 z23 z24
    refine ⟨false, rfl, rfl, fr, _, wd9, y90, ((fmr_x frs).us (Or.inl ⟨by omega, by omega⟩)).us (Or.inl ⟨by omega, by omega⟩), ⟨_, z20⟩, ⟨_, z21⟩, ⟨_, z23⟩, ⟨_, z24⟩, fun e he => ?_, fun y2 hy => ?_⟩
    · have z : (1, tP T q) = e := Sum.inl.inj (ho.trans he)
      subst z
      exact ⟨rfl, by rw [upd_ne (by omega), upd_at], by rw [upd_at]⟩
    · have z := ho.trans hy
      cases z
  subst hW
  have key7 : lN 729 * spl [nI 109, nI 105, nI 114, nI 114] 0 + lN 405 + lN 114 - lN 96 = lN (cv (KW 7)) := by decide +kernel
  have key8 : spl [nI 98, nI 97, nI 99, nI 107] 0 = lN (cv (KW 8)) := by decide +kernel
  have key6 : spl [nI 116, nI 117, nI 114, nI 110] 0 = lN (cv (KW 6)) := by decide +kernel
  have key9 : spl [nI 102, nI 114, nI 111, nI 109] 0 = lN (cv (KW 9)) := by decide +kernel
  have at79 : tkW T p 7 = false → ab_Ev X l i_Mod_readChange 79 [some (.ref 90), some (.int (nI k)), none] [] (va_up (va_up (va_up (va_up (va_up (va_up w 124 (aZ 12 (upd f24 k (b01 bk)))) 123 (aZ 12 (upd f23 k (b01 mi)))) 121 (aI 12 (upd f21 k (nI (md fm M))))) 120 (aI 12 (upd f20 k (nI (md tu M))))) 91 (aI 640 (tB T))) 90 (oMod s wd tn)) n 0 0 (chQ T M k (va_up (va_up (va_up (va_up (va_up (va_up w 124 (aZ 12 (upd f24 k (b01 bk)))) 123 (aZ 12 (upd f23 k (b01 mi)))) 121 (aI 12 (upd f21 k (nI (md fm M))))) 120 (aI 12 (upd f20 k (nI (md tu M))))) 91 (aI 640 (tB T))) 90 (oMod s wd tn)) n s tn f20 f21 f23 f24 O) := by
    intro c7
    rw [if_neg (by rw [c7]; decide)] at hO
    have at170 : tkW T p 6 = true ∨ tkW T p 9 = true → tkW T p 8 = false → ab_Ev X l i_Mod_readChange 170 [some (.ref 90), some (.int (nI k)), some (.int (b01 (tkW T p 6)))] [] (va_up (va_up (va_up (va_up (va_up (va_up w 124 (aZ 12 (upd f24 k (b01 bk)))) 123 (aZ 12 (upd f23 k (b01 mi)))) 121 (aI 12 (upd f21 k (nI (md fm M))))) 120 (aI 12 (upd f20 k (nI (md tu M))))) 91 (aI 640 (tB T))) 90 (oMod s wd tn)) n 0 0 (chQ T M k (va_up (va_up (va_up (va_up (va_up (va_up w 124 (aZ 12 (upd f24 k (b01 bk)))) 123 (aZ 12 (upd f23 k (b01 mi)))) 121 (aI 12 (upd f21 k (nI (md fm M))))) 120 (aI 12 (upd f20 k (nI (md tu M))))) 91 (aI 640 (tB T))) 90 (oMod s wd tn)) n s tn f20 f21 f23 f24 O) := by
      intro c69 c8
      rw [if_neg (by rw [c8]; decide), if_pos c69] at hO
      refine ab_sound ok_211 [249] 80 ?_
      (refine Exists.intro 0 ?_; refine ⟨0, _, Nat.zero_le _, Nat.zero_le _, cg _ rfl rfl, ?_⟩; rintro _ _ _ ⟨rfl, rfl, s1, wd1, rfl, g1, a1⟩)
      have g1 := fgo_fmr g1
      by_cases k3 : tK T (tX T p) = 3
      · rw [if_neg (fun z => z k3)] at hO
        have vl := tk_nlt hx.2 k3
        have e2 : qNum T 0 999 (tX T p) = .inr (tX T (tX T p)) := by unfold qNum; rw [if_neg (fun z => z k3), if_neg (by omega)]
        (refine Exists.intro 0 ?_; refine ⟨0, _, Nat.zero_le _, Nat.zero_le _, k_readNumber_y T 0 999 (tX T p) (tX T (tX T p)) _ _ e2 rfl rfl (by omega) (by omega) hL hM hx.2 rfl rfl (fr3 g1 h3) (fr4 g1 h4) a1, ?_⟩; rintro _ _ _ ⟨rfl, rfl, s2, wd2, rfl, g2, a2, t2⟩)
        have g12 := g1.trans g2
        have n38 : s2 38 = nI M := by rw [g12 38 (by unfold FMr; omega), hs38]
        refine And.intro (fun _ => ?_) (fun h_9 => absurd h_9 ((by decide)))
        cases c6 : tkW T p 6
        · have c9 := c69.resolve_left (by rw [c6]; decide)
          have hch : chX T p (tu, fm, bk, mi) = (tu, fm + wyI bk (tV T (tX T p) : Int), bk, mi) := by unfold chX; rw [if_neg (by rw [c6]; decide)]
          rw [hch] at hO
          refine And.intro (fun _ => ?_) (fun h_9 => absurd (rfl) h_9)
          refine And.intro (vp_in_nI hk (by omega)) ?_
          rw [nI_clamp (by omega), upd_at]
          refine And.intro (vp_in_nI hk (by omega)) ?_
          rw [nI_clamp (by omega), upd_at]
          have at249 : ∀ z : Int32, (nI (md fm M) + z).toInt = (md fm M : Int) + wyI bk (tV T (tX T p) : Int) → ab_Ev X l i_Mod_readChange 249 [some (.ref 90), some (.int (nI k)), some (.int (b01 false))] [.int z, .int (nI (md fm M)), .ref 90, .int (nI k), .ref 121] (va_up (va_up (va_up (va_up (va_up (va_up (va_up (va_up w 124 (aZ 12 (upd f24 k (b01 bk)))) 123 (aZ 12 (upd f23 k (b01 mi)))) 121 (aI 12 (upd f21 k (nI (md fm M))))) 120 (aI 12 (upd f20 k (nI (md tu M))))) 91 (aI 640 (tB T))) 90 (oMod s wd tn)) 90 (oMod s1 wd1 tn)) 90 (oMod s2 wd2 tn)) n 0 0 (chQ T M k (va_up (va_up (va_up (va_up (va_up (va_up w 124 (aZ 12 (upd f24 k (b01 bk)))) 123 (aZ 12 (upd f23 k (b01 mi)))) 121 (aI 12 (upd f21 k (nI (md fm M))))) 120 (aI 12 (upd f20 k (nI (md tu M))))) 91 (aI 640 (tB T))) 90 (oMod s wd tn)) n s tn f20 f21 f23 f24 O) := by
            intro z hz
            refine ab_sound ok_211 [] 80 ?_
            (refine Exists.intro 0 ?_; refine ⟨0, _, Nat.zero_le _, Nat.zero_le _, c_Mod_by _ M (by omega) (by omega) _ _ rfl n38, ?_⟩; refine ab_q1_elim ?_)
            rw [Int32.toInt_toInt64, hz, md_mad (by omega)]
            refine And.intro (vp_in_nI hk (by omega)) ?_
            rw [nI_clamp (by omega), upd_upd]
            exact ⟨rfl, fin _ s2 wd2 _ _ hO (((Fr.refl.up (Or.inl rfl)).up (Or.inl rfl)).up (by unfold FCh; omega)) rfl g12 a2 rfl rfl rfl rfl⟩
          cases bk
          · refine And.intro (fun _ => ?_) (fun h_9 => absurd (rfl) h_9)
            refine at249 _ ?_
            rw [t2, nI_add, nI_toInt (by omega)]
            show _ = (md fm M : Int) + (tV T (tX T p) : Int)
            omega
          · refine And.intro (fun h_9 => absurd h_9 ((by decide))) (fun _ => ?_)
            refine at249 _ ?_
            rw [t2, Int32.toInt_add, nI_toInt (by omega), Int32.toInt_neg, nI_toInt (by omega)]
            show _ = (md fm M : Int) + -(tV T (tX T p) : Int)
            rw [Int.bmod_eq_of_le_mul_two (by rw [Int.bmod_eq_of_le_mul_two (by omega) (by omega)]; omega) (by rw [Int.bmod_eq_of_le_mul_two (by omega) (by omega)]; omega), Int.bmod_eq_of_le_mul_two (by omega) (by omega)]
        · have hch : chX T p (tu, fm, bk, mi) = (tu + (tV T (tX T p) : Int), fm, bk, mi) := by unfold chX; rw [if_pos c6]
          rw [hch] at hO
          refine And.intro (fun h_9 => absurd h_9 ((by decide))) (fun _ => ?_)
          refine And.intro (vp_in_nI hk (by omega)) ?_
          rw [nI_clamp (by omega), upd_at]
          (refine Exists.intro 0 ?_; refine ⟨0, _, Nat.zero_le _, Nat.zero_le _, c_Mod_by _ M (by omega) (by omega) _ _ rfl n38, ?_⟩; refine ab_q1_elim ?_)
          have hz : (nI (md tu M) + s2 13).toInt64.toInt = (md tu M : Int) + (tV T (tX T p) : Int) := by
            rw [t2, nI_add, Int32.toInt_toInt64, nI_toInt (by omega)]
            omega
          rw [hz, md_mad (by omega)]
          refine And.intro (vp_in_nI hk (by omega)) ?_
          rw [nI_clamp (by omega), upd_upd]
          exact ⟨rfl, fin _ s2 wd2 _ _ hO (((Fr.refl.up (Or.inl rfl)).up (Or.inl rfl)).up (by unfold FCh; omega)) rfl g12 a2 rfl rfl rfl rfl⟩
      · rw [if_pos k3] at hO
        have e2 : qNum T 0 999 (tX T p) = .inl (1, tP T (tX T p)) := by unfold qNum; rw [if_pos k3]
        (refine Exists.intro 0 ?_; refine ⟨0, _, Nat.zero_le _, Nat.zero_le _, k_readNumber_n T 0 999 (tX T p) 1 (tP T (tX T p)) _ _ e2 rfl rfl (by omega) (by omega) hx.2 rfl a1, ?_⟩; refine ab_q1_elim ?_)
        refine And.intro (fun h_9 => absurd (rfl) h_9) (fun _ => ?_)
        exact ⟨rfl, bad1 _ s1 wd1 _ hO ((Fr.refl.up (Or.inl rfl)).up (Or.inl rfl)) rfl g1 rfl rfl rfl rfl⟩
    refine ab_sound ok_211 [117, 170] 80 ?_
    (refine Exists.intro 0 ?_; refine ⟨0, _, Nat.zero_le _, Nat.zero_le _, c_spelt_8 _ _, ?_⟩; refine ab_q1_elim ?_)
    (refine Exists.intro 0 ?_; refine ⟨0, _, Nat.zero_le _, Nat.zero_le _, k_isKey T p 8 _ _ (by omega) key8 hp rfl hA, ?_⟩; refine ab_q1_elim ?_)
    cases c8 : tkW T p 8
    · refine And.intro (fun _ => ?_) (fun h_9 => absurd (rfl) h_9)
      (refine Exists.intro 0 ?_; refine ⟨0, _, Nat.zero_le _, Nat.zero_le _, c_spelt_6 _ _, ?_⟩; refine ab_q1_elim ?_)
      (refine Exists.intro 0 ?_; refine ⟨0, _, Nat.zero_le _, Nat.zero_le _, k_isKey T p 6 _ _ (by omega) key6 hp rfl hA, ?_⟩; refine ab_q1_elim ?_)
      cases c6 : tkW T p 6
      · refine And.intro (fun h_9 => absurd (rfl) h_9) (fun _ => ?_)
        (refine Exists.intro 0 ?_; refine ⟨0, _, Nat.zero_le _, Nat.zero_le _, c_spelt_9 _ _, ?_⟩; refine ab_q1_elim ?_)
        (refine Exists.intro 0 ?_; refine ⟨0, _, Nat.zero_le _, Nat.zero_le _, k_isKey T p 9 _ _ (by omega) key9 hp rfl hA, ?_⟩; refine ab_q1_elim ?_)
        cases c9 : tkW T p 9
        · rw [if_neg (by rw [c8]; decide), if_neg (by rw [c6, c9]; decide)] at hO
          refine And.intro (fun h_9 => absurd (rfl) h_9) (fun _ => ?_)
          (refine Exists.intro 0 ?_; refine ⟨0, _, Nat.zero_le _, Nat.zero_le _, k_bad T p 1 _ _ rfl (Or.inl rfl) rfl hA, ?_⟩; refine ab_q1_elim ?_)
          exact ⟨rfl, bad1 _ s wd _ hO (Fr.refl.up (Or.inl rfl)) rfl Fr.refl rfl rfl rfl rfl⟩
        · have a := at170 (Or.inr c9) c8
          rw [c6] at a
          refine And.intro (fun _ => ?_) (fun h_9 => absurd h_9 ((by decide)))
          exact a
      · have a := at170 (Or.inl c6) c8
        rw [c6] at a
        refine And.intro (fun _ => ?_) (fun h_9 => absurd h_9 ((by decide)))
        exact a
    · rw [if_pos c8] at hO
      refine And.intro (fun h_9 => absurd h_9 ((by decide))) (fun _ => ?_)
      refine And.intro (vp_in_nI hk (by omega)) ?_
      rw [nI_clamp (by omega), upd_at]
      have at117 : ∀ v : Bool, v = !bk → ab_Ev X l i_Mod_readChange 117 [some (.ref 90), some (.int (nI k)), none] [.int (b01 v), .int (nI k), .ref 124] (va_up (va_up (va_up (va_up (va_up (va_up w 124 (aZ 12 (upd f24 k (b01 bk)))) 123 (aZ 12 (upd f23 k (b01 mi)))) 121 (aI 12 (upd f21 k (nI (md fm M))))) 120 (aI 12 (upd f20 k (nI (md tu M))))) 91 (aI 640 (tB T))) 90 (oMod s wd tn)) n 0 0 (chQ T M k (va_up (va_up (va_up (va_up (va_up (va_up w 124 (aZ 12 (upd f24 k (b01 bk)))) 123 (aZ 12 (upd f23 k (b01 mi)))) 121 (aI 12 (upd f21 k (nI (md fm M))))) 120 (aI 12 (upd f20 k (nI (md tu M))))) 91 (aI 640 (tB T))) 90 (oMod s wd tn)) n s tn f20 f21 f23 f24 O) := by
        intro v hv
        subst hv
        refine ab_sound ok_211 [] 80 ?_
        refine And.intro (vp_in_nI hk (by omega)) ?_
        rw [nI_clamp (by omega), upd_upd, narB]
        (refine Exists.intro 0 ?_; refine ⟨0, _, Nat.zero_le _, Nat.zero_le _, cg _ rfl rfl, ?_⟩; rintro _ _ _ ⟨rfl, rfl, s1, wd1, rfl, g1, a1⟩)
        exact ⟨rfl, fin _ s1 wd1 _ _ hO ((Fr.refl.up (by unfold FCh; omega)).up (Or.inl rfl)) rfl (fgo_fmr g1) a1 rfl rfl rfl rfl⟩
      cases bk
      · refine And.intro (fun h_9 => absurd (rfl) h_9) (fun _ => ?_)
        exact at117 true rfl
      · refine And.intro (fun _ => ?_) (fun h_9 => absurd h_9 ((by decide)))
        exact at117 false rfl
  refine ab_met cd_211 om_211 rfl (by rintro _ _ _ ⟨b, rfl, -⟩; trivial) (ab_sound ok_211 [72, 79] 80 ?_)
  (refine Exists.intro 0 ?_; refine ⟨0, _, Nat.zero_le _, Nat.zero_le _, c_spelt_7 _ _, ?_⟩; refine ab_q1_elim ?_)
  (refine Exists.intro 0 ?_; refine ⟨0, _, Nat.zero_le _, Nat.zero_le _, k_isKey T p 7 _ _ (by omega) key7 hp rfl hA, ?_⟩; refine ab_q1_elim ?_)
  cases c7 : tkW T p 7
  · refine And.intro (fun _ => ?_) (fun h_9 => absurd (rfl) h_9)
    exact at79 c7
  · rw [if_pos c7] at hO
    refine And.intro (fun h_9 => absurd h_9 ((by decide))) (fun _ => ?_)
    refine And.intro (vp_in_nI hk (by omega)) ?_
    rw [nI_clamp (by omega), upd_at]
    (refine Exists.intro 0 ?_; refine ⟨0, _, Nat.zero_le _, Nat.zero_le _, c_Mod_by _ M (by omega) (by omega) _ _ rfl hs38, ?_⟩; refine ab_q1_elim ?_)
    have hz : (-nI (md tu M)).toInt64.toInt = -(md tu M : Int) := by
      rw [Int32.toInt_toInt64, Int32.toInt_neg, nI_toInt (by omega), Int.bmod_eq_of_le_mul_two (by omega) (by omega)]
    rw [hz, md_mng (by omega)]
    refine And.intro (vp_in_nI hk (by omega)) ?_
    rw [nI_clamp (by omega), upd_upd]
    refine And.intro (vp_in_nI hk (by omega)) ?_
    rw [nI_clamp (by omega), upd_at]
    have at72 : ∀ v : Bool, v = !mi → ab_Ev X l i_Mod_readChange 72 [some (.ref 90), some (.int (nI k)), none] [.int (b01 v), .int (nI k), .ref 123] (va_up (va_up (va_up (va_up (va_up (va_up (va_up w 124 (aZ 12 (upd f24 k (b01 bk)))) 123 (aZ 12 (upd f23 k (b01 mi)))) 121 (aI 12 (upd f21 k (nI (md fm M))))) 120 (aI 12 (upd f20 k (nI (md tu M))))) 91 (aI 640 (tB T))) 90 (oMod s wd tn)) 120 (aI 12 (upd f20 k (nI (md (-tu) M))))) n 0 0 (chQ T M k (va_up (va_up (va_up (va_up (va_up (va_up w 124 (aZ 12 (upd f24 k (b01 bk)))) 123 (aZ 12 (upd f23 k (b01 mi)))) 121 (aI 12 (upd f21 k (nI (md fm M))))) 120 (aI 12 (upd f20 k (nI (md tu M))))) 91 (aI 640 (tB T))) 90 (oMod s wd tn)) n s tn f20 f21 f23 f24 O) := by
      intro v hv
      subst hv
      refine ab_sound ok_211 [] 80 ?_
      refine And.intro (vp_in_nI hk (by omega)) ?_
      rw [nI_clamp (by omega), upd_upd, narB]
      (refine Exists.intro 0 ?_; refine ⟨0, _, Nat.zero_le _, Nat.zero_le _, cg _ rfl rfl, ?_⟩; rintro _ _ _ ⟨rfl, rfl, s1, wd1, rfl, g1, a1⟩)
      exact ⟨rfl, fin _ s1 wd1 _ _ hO (((Fr.refl.up (by unfold FCh; omega)).up (by unfold FCh; omega)).up (Or.inl rfl)) rfl (fgo_fmr g1) a1 rfl rfl rfl rfl⟩
    cases mi
    · refine And.intro (fun h_9 => absurd (rfl) h_9) (fun _ => ?_)
      exact at72 true rfl
    · refine And.intro (fun _ => ?_) (fun h_9 => absurd h_9 ((by decide)))
      exact at72 false rfl
end MCHANGE

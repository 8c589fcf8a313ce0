/-! the model's reading: numbers, names -/
def FMr (k : Nat) : Prop := (5 ≤ k ∧ k ≤ 9) ∨ k = 13
def FMx (k : Nat) : Prop := (5 ≤ k ∧ k ≤ 11) ∨ k = 13
def offI (s : Nat) : Nat := if s = 0 then 0 else if s = 1 then 4 else 16
def NmM (S : KS) (f : Nat → Int64) : Prop := (∀ c x, sLo S c = some x → f (offI x.1 + x.2) = lN (cv c)) ∧ (∀ j, j < sR S → ∃ c, sLo S c = some (0, j)) ∧ (∀ j, j < sW S → ∃ c, sLo S c = some (1, j)) ∧ (∀ j, j < sP S → ∃ c, sLo S c = some (2, j))
def fiV : Option (Nat × Nat) → Int32
  | none => -nI 1
  | some x => nI (offI x.1 + x.2)
theorem fgo_fmr {s s' : Nat → Int32} (h : Fr FGo s s') : Fr FMr s s' := h.mono (fun k hk => Or.inl hk)
theorem NmM_up {S : KS} {f : Nat → Int64} {s : Nat} {v : Int64} (h : NmM S f) (hS : KSok S) (hs : (s = 0 ∧ sR S < 4) ∨ (s = 1 ∧ sW S < 12) ∨ (s = 2 ∧ sP S < 8)) : NmM S (vp_updL f (offI s + (if s = 0 then sR S else if s = 1 then sW S else sP S)) v) := by
  refine ⟨fun c x hx => ?_, h.2⟩
  have g := (hS.2.2.2.2 c x hx).2
  have := hS.1
  rw [pk_uLn, h.1 c x hx]
  unfold offI
  rcases hs with ⟨rfl, hs⟩ | ⟨rfl, hs⟩ | ⟨rfl, hs⟩ <;> rcases g with ⟨g1, g2⟩ | ⟨g1, g2⟩ | ⟨g1, g2⟩ <;> rw [g1] <;> simp <;> omega
theorem NmM_ad {S S2 : KS} {f : Nat → Int64} {s c : Nat} (h : NmM S f) (hS : KSok S) (hc : sLo S c = none) (hs : (s = 0 ∧ sR S < 4 ∧ sR S2 = sR S + 1 ∧ sW S2 = sW S ∧ sP S2 = sP S) ∨ (s = 1 ∧ sW S < 12 ∧ sR S2 = sR S ∧ sW S2 = sW S + 1 ∧ sP S2 = sP S) ∨ (s = 2 ∧ sP S < 8 ∧ sR S2 = sR S ∧ sW S2 = sW S ∧ sP S2 = sP S + 1)) (hl : sLo S2 = va_up (sLo S) c (some (s, if s = 0 then sR S else if s = 1 then sW S else sP S))) : NmM S2 (vp_updL f (offI s + (if s = 0 then sR S else if s = 1 then sW S else sP S)) (lN (cv c))) := by
  have hu := NmM_up (v := lN (cv c)) (s := s) h hS (by omega)
  have old : ∀ (s9 j : Nat), (∃ d, sLo S d = some (s9, j)) → ∃ d, sLo S2 d = some (s9, j) := fun s9 j ⟨d, hd⟩ => ⟨d, by
    rw [hl, va_un (fun z => by rw [z, hc] at hd; cases hd)]
    exact hd⟩
  have new : ∃ d, sLo S2 d = some (s, if s = 0 then sR S else if s = 1 then sW S else sP S) := ⟨c, by rw [hl, va_us]⟩
  refine ⟨fun d x hx => ?_, fun j hj => ?_, fun j hj => ?_, fun j hj => ?_⟩
  · rw [hl] at hx
    rcases upL hx with ⟨e1, e2⟩ | ⟨e1, e2⟩
    · rw [e1, e2]
      exact pk_uLs
    · exact hu.1 d x e2
  · by_cases e : j < sR S
    · exact old 0 j (h.2.1 j e)
    · rcases hs with hs | hs | hs
      · obtain ⟨rfl, hs⟩ := hs
        rw [if_pos rfl] at new
        rw [show j = sR S by omega]
        exact new
      · omega
      · omega
  · by_cases e : j < sW S
    · exact old 1 j (h.2.2.1 j e)
    · rcases hs with hs | hs | hs
      · omega
      · obtain ⟨rfl, hs⟩ := hs
        rw [if_neg (by omega), if_pos rfl] at new
        rw [show j = sW S by omega]
        exact new
      · omega
  · by_cases e : j < sP S
    · exact old 2 j (h.2.2.2 j e)
    · rcases hs with hs | hs | hs
      · omega
      · omega
      · obtain ⟨rfl, hs⟩ := hs
        rw [if_neg (by omega), if_neg (by omega)] at new
        rw [show j = sP S by omega]
        exact new
section MREAD
variable {X : ab_X} {l : Launch}
theorem k_bad (T : TE) (p k : Nat) (w : ab_W) (n : Nat) {s : Nat → Int32} {wd tn : Int64} {x : Int32} (hx : x = nI k) (hk : k = 1 ∨ (2 ≤ tK T p ∧ tK T p ≤ 4)) (h90 : w 90 = oMod s wd tn) (h : AtM T p s wd) : ab_C X l i_Mod_bad [.ref 90, .int x] w n 0 0 (ab_q1 (some (.int (nI 0))) (va_up w 90 (oMod (upd (upd s 10 (nI k)) 11 (nI (tP T p))) wd tn)) n) := by
  have c := c_Mod_bad (X := X) (l := l) x w n h90
  have e : (if s 7 = nI 1 then nI 1 else x) = nI k := by
    by_cases z : s 7 = nI 1
    · rw [if_pos z]
      rcases hk with hk | hk
      · rw [hk]
      · rw [h.2.1] at z
        unfold mK at z
        rw [if_neg (by omega), nI_eq (by omega) (by omega)] at z
        omega
    · rw [if_neg z, hx]
  rw [e, h.1] at c
  exact c
theorem k_isIn (v a b : Nat) (w : ab_W) (n : Nat) {x : Int32} (hx : x = nI v) (hv : v < 1000) (ha : a < 1000) (hb : b < 1000) : ab_C X l i_Mod_isIn [.int x, .int (nI a), .int (nI b)] w n 0 0 (ab_q1 (some (.int (b01 (decide (a ≤ v ∧ v ≤ b))))) w n) := by
  subst hx
  refine ab_metI cd_175 om_175 rfl (ab_sound ok_175 [] 80 ?_)
  by_cases c1 : a ≤ v
  · refine And.intro (fun h_9 => absurd h_9 (nI_nlt c1 (by omega))) (fun _ => ?_)
    by_cases c2 : v ≤ b
    · refine And.intro (fun h_9 => absurd h_9 ((fun z => by have z : nI b < nI v := z; rw [nI_ltI (by omega) (by omega)] at z; omega))) (fun _ => ?_)
      rw [decide_eq_true ⟨c1, c2⟩]
      exact ⟨rfl, rfl, rfl, rfl⟩
    · refine And.intro (fun _ => ?_) (fun h_9 => absurd (nI_lt (by omega) (by omega)) h_9)
      rw [decide_eq_false (fun z => c2 z.2)]
      exact ⟨rfl, rfl, rfl, rfl⟩
  · refine And.intro (fun _ => ?_) (fun h_9 => absurd (nI_lt (by omega) (by omega)) h_9)
    rw [decide_eq_false (fun z => c1 z.1)]
    exact ⟨rfl, rfl, rfl, rfl⟩
theorem k_mgo (T : TE) (p : Nat) (w : ab_W) (n : Nat) {s : Nat → Int32} {wd tn : Int64} (hL : tL T ≤ 640) (hM : tM T ≤ 640) (hp : p ≤ tL T) (hk2 : 2 ≤ tK T p) (hk4 : tK T p ≤ 4) (h90 : w 90 = oMod s wd tn) (h91 : w 91 = aI 640 (tB T)) (h3 : s 3 = nI (tL T)) (h4 : s 4 = nI (tM T)) (h : AtM T p s wd) :
    ab_C X l i_Mod_go [.ref 90] w n 0 0 (qV (goQ T (tX T p) w n s tn)) :=
  k_go T (tX T p) w n hL hM (tX_le hp (by omega) (by omega)).2 h90 h91 h3 h4 (h.2.2.1 hk2 hk4)
theorem k_readNumber_y (T : TE) (a b p q : Nat) (w : ab_W) (n : Nat) {s : Nat → Int32} {wd tn : Int64} {xa xb : Int32} (hq : qNum T a b p = .inr q) (hxa : xa = nI a) (hxb : xb = nI b) (ha : a < 1000) (hb : b < 1000) (hL : tL T ≤ 640) (hM : tM T ≤ 640) (hp : p ≤ tL T) (h90 : w 90 = oMod s wd tn) (h91 : w 91 = aI 640 (tB T)) (h3 : s 3 = nI (tL T)) (h4 : s 4 = nI (tM T)) (h : AtM T p s wd) :
    ab_C X l i_Mod_readNumber [.ref 90, .int xa, .int xb] w n 0 0 (qI (nI 1) (fun w' n' => n = n' ∧ ∃ s' wd', w' = va_up w 90 (oMod s' wd' tn) ∧ Fr FMr s s' ∧ AtM T q s' wd' ∧ s' 13 = nI (tV T p))) := by
  subst hxa hxb
  obtain ⟨rfl, e2, e3, e4, e5⟩ := qNum_r hp hq
  have v := tk_nlt hp e2
  have e8 := h.2.2.2.2.1 e2
  have m7 := (mK_k h (by omega) (by omega)).mpr e2
  have ha' : AtM T p (upd s 13 (s 8)) wd := h
  obtain ⟨w, rfl⟩ := va_ex2 h90 h91
  refine ab_mqI cd_174 om_174 rfl (ab_sound ok_174 [] 80 ?_)
  refine And.intro (fun _ => ?_) (fun h_9 => absurd (m7) h_9)
  (refine Exists.intro 0 ?_; refine ⟨0, _, Nat.zero_le _, Nat.zero_le _, k_isIn (tV T p) a b _ _ e8 v ha hb, ?_⟩; refine ab_q1_elim ?_)
  refine And.intro (fun _ => ?_) (fun h_9 => absurd h_9 ((by rw [decide_eq_true ⟨e3, e4⟩]; decide)))
  (refine Exists.intro 0 ?_; refine ⟨0, _, Nat.zero_le _, Nat.zero_le _, k_mgo T p (va_up (va_up (va_up w 91 (aI 640 (tB T))) 90 (oMod s wd tn)) 90 (oMod (upd s 13 (s 8)) wd tn)) n hL hM hp (by omega) (by omega) rfl rfl h3 h4 ha', ?_⟩; rintro _ _ _ ⟨rfl, rfl, s2, wd2, rfl, f2, a2⟩)
  refine ⟨rfl, rfl, rfl, s2, wd2, by rw [va_uu], (Fr.refl.us (Or.inr rfl)).trans (fgo_fmr f2), a2, ?_⟩
  rw [f2 13 (by unfold FGo; omega), upd_at, e8]
theorem k_readNumber_n (T : TE) (a b p k pl : Nat) (w : ab_W) (n : Nat) {s : Nat → Int32} {wd tn : Int64} {xa xb : Int32} (hq : qNum T a b p = .inl (k, pl)) (hxa : xa = nI a) (hxb : xb = nI b) (ha : a < 1000) (hb : b < 1000) (hp : p ≤ tL T) (h90 : w 90 = oMod s wd tn) (h : AtM T p s wd) :
    ab_C X l i_Mod_readNumber [.ref 90, .int xa, .int xb] w n 0 0 (ab_q1 (some (.int (nI 0))) (va_up w 90 (oMod (upd (upd s 10 (nI k)) 11 (nI pl)) wd tn)) n) := by
  subst hxa hxb
  obtain ⟨rfl, e⟩ := qNum_l hq
  obtain ⟨w, rfl⟩ := va_ex h90
  rcases e with ⟨e1, rfl⟩ | ⟨e1, e2, rfl⟩
  · refine ab_metI cd_174 om_174 rfl (ab_sound ok_174 [] 80 ?_)
    refine And.intro (fun h_9 => absurd h_9 ((fun z => e1 ((mK_k h (by omega) (by omega)).mp z)))) (fun _ => ?_)
    (refine Exists.intro 0 ?_; refine ⟨0, _, Nat.zero_le _, Nat.zero_le _, k_bad T p 1 _ _ rfl (Or.inl rfl) rfl h, ?_⟩; refine ab_q1_elim ?_)
    exact ⟨rfl, rfl, rfl, rfl⟩
  · have v := tk_nlt hp e1
    have e8 := h.2.2.2.2.1 e1
    refine ab_metI cd_174 om_174 rfl (ab_sound ok_174 [] 80 ?_)
    refine And.intro (fun _ => ?_) (fun h_9 => absurd (((mK_k h (by omega) (by omega)).mpr e1)) h_9)
    (refine Exists.intro 0 ?_; refine ⟨0, _, Nat.zero_le _, Nat.zero_le _, k_isIn (tV T p) a b _ _ e8 v ha hb, ?_⟩; refine ab_q1_elim ?_)
    refine And.intro (fun h_9 => absurd ((by rw [decide_eq_false (fun z => by omega)]; rfl)) h_9) (fun _ => ?_)
    (refine Exists.intro 0 ?_; refine ⟨0, _, Nat.zero_le _, Nat.zero_le _, k_bad T p 2 _ _ rfl (Or.inr ⟨by omega, by omega⟩) rfl h, ?_⟩; refine ab_q1_elim ?_)
    exact ⟨rfl, rfl, rfl, rfl⟩
theorem k_find (c : Nat) (w : ab_W) (n : Nat) {S : KS} {s : Nat → Int32} {wd tn : Int64} {f : Nat → Int64} {f3 f4 f5 : Nat → Int32} (hS : KSok S) (hv : vd c) (hw : wd = lN (cv c)) (h90 : w 90 = oMod s wd tn) (h92 : w 92 = aJ 24 f) (h93 : w 93 = aI 2 f3) (h94 : w 94 = aI 2 f4) (h95 : w 95 = aI 2 f5) (e3 : f3 1 = nI (sR S)) (e4 : f4 1 = nI (sW S)) (e5 : f5 1 = nI (sP S)) (hN : NmM S f) : ab_C X l i_Mod_find [.ref 90] w n 0 0 (ab_q1 (some (.int (fiV (sLo S c)))) w n) := by
  have hk := hS.1
  have yes : ∀ (s9 j : Nat), (∃ d, sLo S d = some (s9, j)) → (f (offI s9 + j) = wd ↔ sLo S c = some (s9, j)) := fun s9 j ⟨d, hd⟩ => by
    have g := hN.1 d _ hd
    have hvd := (hS.2.2.2.2 d _ hd).1
    have g : f (offI s9 + j) = lN (cv d) := g
    rw [g, hw, pk_lEQ (Nat.lt_trans (vd_lt hvd).2 (by omega)) (Nat.lt_trans (vd_lt hv).2 (by omega)), vd_inj hvd hv]
    refine ⟨fun z => by rw [← z]; exact hd, fun z => ?_⟩
    have g2 : f (offI s9 + j) = lN (cv c) := hN.1 c _ z
    rw [g2, pk_lEQ (Nat.lt_trans (vd_lt hv).2 (by omega)) (Nat.lt_trans (vd_lt hvd).2 (by omega)), vd_inj hv hvd] at g
    exact g.symm
  obtain ⟨w, rfl⟩ : ∃ w0, w = va_up (va_up (va_up (va_up (va_up w0 95 (aI 2 f5)) 94 (aI 2 f4)) 93 (aI 2 f3)) 92 (aJ 24 f)) 90 (oMod s wd tn) := ⟨w, by rw [← va_self h95, ← va_self h94, ← va_self h93, ← va_self h92, ← va_self h90]⟩
  have pens : ∀ j, j ≤ sP S → (∀ i, i < j → sLo S c ≠ some (2, i)) → (∀ i, sLo S c ≠ some (0, i)) → (∀ i, sLo S c ≠ some (1, i)) → ab_Ev X l i_Mod_find 74 [some (.ref 90), some (.int (nI j))] [] (va_up (va_up (va_up (va_up (va_up w 95 (aI 2 f5)) 94 (aI 2 f4)) 93 (aI 2 f3)) 92 (aJ 24 f)) 90 (oMod s wd tn)) n 0 0 (ab_q1 (some (.int (fiV (sLo S c)))) (va_up (va_up (va_up (va_up (va_up w 95 (aI 2 f5)) 94 (aI 2 f4)) 93 (aI 2 f3)) 92 (aJ 24 f)) 90 (oMod s wd tn)) n) := by
    refine ab_up (sP S) ?_ (fun j hj ih => ?_)
    · intro g1 g2 g3
      have e : sLo S c = none := by
        cases ee : sLo S c with
        | none => rfl
        | some x =>
          obtain ⟨x1, x2⟩ := x
          exfalso
          rcases (hS.2.2.2.2 c _ ee).2 with ⟨z1, z2⟩ | ⟨z1, z2⟩ | ⟨z1, z2⟩
          · have z1 : x1 = 0 := z1
            subst z1; exact g2 x2 ee
          · have z1 : x1 = 1 := z1
            subst z1; exact g3 x2 ee
          · have z1 : x1 = 2 := z1
            subst z1; exact g1 x2 z2 ee
      refine ab_sound ok_173 [74] 80 ?_
      refine And.intro (vp_in_nI (show 1 < 2 by omega) (by omega)) ?_
      refine And.intro (fun _ => ?_) (fun h_9 => absurd ((by rw [nI_clamp (by omega)]; show f5 1 ≤ nI (sP S); rw [e5]; exact nI_le (Nat.le_refl _) (by omega))) h_9)
      rw [e]
      exact ⟨rfl, rfl, rfl⟩
    · intro g1 g2 g3
      refine ab_sound ok_173 [74] 80 ?_
      refine And.intro (vp_in_nI (show 1 < 2 by omega) (by omega)) ?_
      refine And.intro (fun h_9 => absurd h_9 ((by rw [nI_clamp (by omega)]; show ¬ f5 1 ≤ nI j; rw [e5]; exact nI_ge hj (by omega)))) (fun _ => ?_)
      refine And.intro ((by rw [nI_add]; exact vp_in_nI (show 16 + j < 24 by omega) (by omega))) ?_
      have y := yes 2 j (hN.2.2.2 j hj)
      rw [nI_add, nI_clamp (by omega)]
      by_cases q : sLo S c = some (2, j)
      · refine And.intro (fun h_9 => absurd ((lg_eq.mpr (y.mpr q))) h_9) (fun _ => ?_)
        rw [q]
        exact ⟨by rw [nI_add]; rfl, rfl, rfl⟩
      · refine And.intro (fun _ => ?_) (fun h_9 => absurd h_9 ((fun z => q (y.mp (lg_eq.mp z)))))
        exact ab_ev_of (ih (fun i hi => by
          by_cases e : i = j
          · rw [e]; exact q
          · exact g1 i (by omega)) g2 g3) (by rw [nI_s j]; rfl) rfl rfl
  have wheels : ∀ j, j ≤ sW S → (∀ i, i < j → sLo S c ≠ some (1, i)) → (∀ i, sLo S c ≠ some (0, i)) → ab_Ev X l i_Mod_find 36 [some (.ref 90), some (.int (nI j))] [] (va_up (va_up (va_up (va_up (va_up w 95 (aI 2 f5)) 94 (aI 2 f4)) 93 (aI 2 f3)) 92 (aJ 24 f)) 90 (oMod s wd tn)) n 0 0 (ab_q1 (some (.int (fiV (sLo S c)))) (va_up (va_up (va_up (va_up (va_up w 95 (aI 2 f5)) 94 (aI 2 f4)) 93 (aI 2 f3)) 92 (aJ 24 f)) 90 (oMod s wd tn)) n) := by
    refine ab_up (sW S) ?_ (fun j hj ih => ?_)
    · intro g1 g2
      refine ab_sound ok_173 [74] 80 ?_
      refine And.intro (vp_in_nI (show 1 < 2 by omega) (by omega)) ?_
      refine And.intro (fun _ => ?_) (fun h_9 => absurd ((by rw [nI_clamp (by omega)]; show f4 1 ≤ nI (sW S); rw [e4]; exact nI_le (Nat.le_refl _) (by omega))) h_9)
      refine ab_ev_of (pens 0 (by omega) (fun i hi => absurd hi (by omega)) g2 (fun i hi => ?_)) rfl rfl rfl
      rcases (hS.2.2.2.2 c _ hi).2 with z | z | z
      · have z : (1 : Nat) = 0 := z.1
        omega
      · exact g1 i z.2 hi
      · have z : (1 : Nat) = 2 := z.1
        omega
    · intro g1 g2
      refine ab_sound ok_173 [36] 80 ?_
      refine And.intro (vp_in_nI (show 1 < 2 by omega) (by omega)) ?_
      refine And.intro (fun h_9 => absurd h_9 ((by rw [nI_clamp (by omega)]; show ¬ f4 1 ≤ nI j; rw [e4]; exact nI_ge hj (by omega)))) (fun _ => ?_)
      refine And.intro ((by rw [nI_add]; exact vp_in_nI (show 4 + j < 24 by omega) (by omega))) ?_
      have y := yes 1 j (hN.2.2.1 j hj)
      rw [nI_add, nI_clamp (by omega)]
      by_cases q : sLo S c = some (1, j)
      · refine And.intro (fun h_9 => absurd ((lg_eq.mpr (y.mpr q))) h_9) (fun _ => ?_)
        rw [q]
        exact ⟨by rw [nI_add]; rfl, rfl, rfl⟩
      · refine And.intro (fun _ => ?_) (fun h_9 => absurd h_9 ((fun z => q (y.mp (lg_eq.mp z)))))
        exact ab_ev_of (ih (fun i hi => by
          by_cases e : i = j
          · rw [e]; exact q
          · exact g1 i (by omega)) g2) (by rw [nI_s j]; rfl) rfl rfl
  have rings : ∀ j, j ≤ sR S → (∀ i, i < j → sLo S c ≠ some (0, i)) → ab_Ev X l i_Mod_find 2 [some (.ref 90), some (.int (nI j))] [] (va_up (va_up (va_up (va_up (va_up w 95 (aI 2 f5)) 94 (aI 2 f4)) 93 (aI 2 f3)) 92 (aJ 24 f)) 90 (oMod s wd tn)) n 0 0 (ab_q1 (some (.int (fiV (sLo S c)))) (va_up (va_up (va_up (va_up (va_up w 95 (aI 2 f5)) 94 (aI 2 f4)) 93 (aI 2 f3)) 92 (aJ 24 f)) 90 (oMod s wd tn)) n) := by
    refine ab_up (sR S) ?_ (fun j hj ih => ?_)
    · intro g1
      refine ab_sound ok_173 [36] 80 ?_
      refine And.intro (vp_in_nI (show 1 < 2 by omega) (by omega)) ?_
      refine And.intro (fun _ => ?_) (fun h_9 => absurd ((by rw [nI_clamp (by omega)]; show f3 1 ≤ nI (sR S); rw [e3]; exact nI_le (Nat.le_refl _) (by omega))) h_9)
      refine ab_ev_of (wheels 0 (by omega) (fun i hi => absurd hi (by omega)) (fun i hi => ?_)) rfl rfl rfl
      rcases (hS.2.2.2.2 c _ hi).2 with z | z | z
      · exact g1 i z.2 hi
      · have z : (0 : Nat) = 1 := z.1
        omega
      · have z : (0 : Nat) = 2 := z.1
        omega
    · intro g1
      refine ab_sound ok_173 [2] 80 ?_
      refine And.intro (vp_in_nI (show 1 < 2 by omega) (by omega)) ?_
      refine And.intro (fun h_9 => absurd h_9 ((by rw [nI_clamp (by omega)]; show ¬ f3 1 ≤ nI j; rw [e3]; exact nI_ge hj (by omega)))) (fun _ => ?_)
      refine And.intro ((vp_in_nI (show j < 24 by omega) (by omega))) ?_
      have y := yes 0 j (hN.2.1 j hj)
      rw [show offI 0 + j = j by unfold offI; rw [if_pos rfl]; omega] at y
      rw [nI_clamp (by omega)]
      by_cases q : sLo S c = some (0, j)
      · refine And.intro (fun h_9 => absurd ((lg_eq.mpr (y.mpr q))) h_9) (fun _ => ?_)
        rw [q]
        exact ⟨by show some (Value.int (nI j)) = some (Value.int (nI (offI 0 + j))); rw [show offI 0 + j = j by unfold offI; rw [if_pos rfl]; omega], rfl, rfl⟩
      · refine And.intro (fun _ => ?_) (fun h_9 => absurd h_9 ((fun z => q (y.mp (lg_eq.mp z)))))
        exact ab_ev_of (ih (fun i hi => by
          by_cases e : i = j
          · rw [e]; exact q
          · exact g1 i (by omega))) (by rw [nI_s j]; rfl) rfl rfl
  refine ab_metI cd_173 om_173 rfl (ab_sound ok_173 [2] 80 ?_)
  exact ab_ev_of (rings 0 (by omega) (fun i hi => absurd hi (by omega))) rfl rfl rfl
end MREAD

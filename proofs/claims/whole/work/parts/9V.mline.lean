/-! a line and the whole text, for the model -/
def fin59 (T : TE) : Out → Out
  | .inl e => .inl e
  | .inr x => bnd (qSig T 59 x.1) fun q => .inr (q, x.2)
def rdL' (T : TE) (S : KS) (p : Nat) : Out := if tkW T p 0 = true then rdR' T S p else if tkW T p 1 = true then rdW' T S p else if tkW T p 2 = true then rdP' T S p else .inl (1, tP T p)
theorem fin_b {T : TE} {x : Er} {k : Nat → Out} : fin59 T (bnd x k) = bnd x (fun p => fin59 T (k p)) := by
  cases x <;> rfl
theorem rdR_fin {T : TE} {S : KS} {p : Nat} : rdR T S p = fin59 T (rdR' T S p) := by
  unfold rdR rdR'
  by_cases c : 4 ≤ sR S
  · rw [if_pos c, if_pos c]; rfl
  · rw [if_neg c, if_neg c, fin_b]
    congr 1
    funext p2
    rw [fin_b]
    rfl
theorem rdP_fin {T : TE} {S : KS} {p : Nat} : rdP T S p = fin59 T (rdP' T S p) := by
  unfold rdP rdP'
  by_cases c : 8 ≤ sP S
  · rw [if_pos c, if_pos c]; rfl
  · rw [if_neg c, if_neg c, fin_b]
    congr 1
    funext p2
    rw [fin_b]
    congr 1
    funext p3
    rw [fin_b]
    rfl
theorem rdW_fin {T : TE} {S : KS} {p : Nat} : rdW T S p = fin59 T (rdW' T S p) := by
  unfold rdW rdW'
  by_cases c : 12 ≤ sW S
  · rw [if_pos c, if_pos c]; rfl
  · rw [if_neg c, if_neg c, fin_b]
    congr 1
    funext p2
    rw [fin_b]
    congr 1
    funext p3
    rw [fin_b]
    congr 1
    funext p4
    rw [fin_b]
    congr 1
    funext p5
    rw [fin_b]
    congr 1
    funext p6
    by_cases c9 : tkS T p6 59 = true
    · rw [if_pos c9, if_pos c9]
      by_cases c8 : sO S (sLo S (tV T p4)) (tV T p2) (tkW T p3 3) (atU T p5) (atL T p5) = true
      · rw [if_pos c8, if_pos c8]
        show _ = bnd (qSig T 59 p6) _
        have e : qSig T 59 p6 = .inr (tX T p6) := by unfold qSig; rw [if_pos c9]
        rw [bnd_r e]
      · rw [if_neg c8, if_neg c8]; rfl
    · rw [if_neg c9, if_neg c9]; rfl
theorem rdL_fin {T : TE} {S : KS} {p : Nat} : rdL T S p = fin59 T (rdL' T S p) := by
  unfold rdL rdL'
  by_cases c0 : tkW T p 0 = true
  · rw [if_pos c0, if_pos c0]; exact rdR_fin
  rw [if_neg c0, if_neg c0]
  by_cases c1 : tkW T p 1 = true
  · rw [if_pos c1, if_pos c1]; exact rdW_fin
  rw [if_neg c1, if_neg c1]
  by_cases c2 : tkW T p 2 = true
  · rw [if_pos c2, if_pos c2]; exact rdP_fin
  rw [if_neg c2, if_neg c2]
  rfl
theorem bnd_le {T : TE} {p q : Nat} {S2 : KS} {x : Er} (hx : ∀ a, x = .inr a → a ≤ tL T) {k : Nat → Out} (hk : ∀ a, a ≤ tL T → k a = .inr (q, S2) → q ≤ tL T) (h : bnd x k = .inr (q, S2)) : q ≤ tL T := by
  cases x with
  | inl e => cases h
  | inr a => exact hk a (hx a rfl) h
theorem rdL'_le {T : TE} {S : KS} {p q : Nat} {S2 : KS} (hp : p ≤ tL T) (h : rdL' T S p = .inr (q, S2)) : q ≤ tL T := by
  unfold rdL' at h
  have N : ∀ {a b c : Nat} {w : Nat}, a ≤ tL T → qNum T b c a = .inr w → w ≤ tL T := fun ha hw => (qNum_r ha hw).2.2.2.2
  have W : ∀ {a w : Nat}, a ≤ tL T → qNew T S a = .inr w → w ≤ tL T := fun ha hw => (qNew_r ha hw).2.2.2.1
  by_cases c0 : tkW T p 0 = true
  · rw [if_pos c0] at h
    have k := (tkW_k c0).1
    have k1 := (tX_le hp (by omega) (by omega)).2
    unfold rdR' at h
    split at h
    · cases h
    · refine bnd_le (p := p) (fun a ha => W k1 ha) (fun a ha h => ?_) h
      refine bnd_le (p := p) (fun b hb => N ha hb) (fun b hb h => ?_) h
      have z : b = q := congrArg Prod.fst (Sum.inr.inj h)
      omega
  rw [if_neg c0] at h
  by_cases c1 : tkW T p 1 = true
  · rw [if_pos c1] at h
    have k := (tkW_k c1).1
    have k1 := (tX_le hp (by omega) (by omega)).2
    unfold rdW' at h
    split at h
    · cases h
    · refine bnd_le (p := p) (fun a ha => W k1 ha) (fun a ha h => ?_) h
      refine bnd_le (p := p) (fun b hb => N ha hb) (fun b hb h => ?_) h
      refine bnd_le (p := p) (fun c hc => (qIO_r hb hc).2) (fun c hc h => ?_) h
      refine bnd_le (p := p) (fun d hd => (qBs_r hc hd).2.2.2.2.2.1) (fun d hd h => ?_) h
      refine bnd_le (p := p) (fun e he => (qAt_ok hd he).2.2.2) (fun e he h => ?_) h
      split at h
      · split at h
        · have z : e = q := congrArg Prod.fst (Sum.inr.inj h)
          omega
        · cases h
      · cases h
  rw [if_neg c1] at h
  by_cases c2 : tkW T p 2 = true
  · rw [if_pos c2] at h
    have k := (tkW_k c2).1
    have k1 := (tX_le hp (by omega) (by omega)).2
    unfold rdP' at h
    split at h
    · cases h
    · refine bnd_le (p := p) (fun a ha => W k1 ha) (fun a ha h => ?_) h
      refine bnd_le (p := p) (fun b hb => (qWh_r ha hb).2.2.2.1) (fun b hb h => ?_) h
      refine bnd_le (p := p) (fun c hc => N (qMin_le hb) hc) (fun c hc h => ?_) h
      have z : c = q := congrArg Prod.fst (Sum.inr.inj h)
      omega
  rw [if_neg c2] at h
  cases h
section MLINE
variable {X : ab_X} {l : Launch}
theorem k_mReadLine (T : TE) (p : Nat) (w : ab_W) (n : Nat) {S : KS} {s : Nat → Int32} {wd tn : Int64} {K0 : KA} {a0 b0 c0 : Nat} (hb0 : b0 ≤ 12) (hc0 : c0 ≤ 8) (hS : KSok S) (hL : tL T ≤ 640) (hM : tM T ≤ 640) (hp : p ≤ tL T) (h90 : w 90 = oMod s wd tn) (h91 : w 91 = aI 640 (tB T)) (h3 : s 3 = nI (tL T)) (h4 : s 4 = nI (tM T)) (hA : AtM T p s wd) (hJ : MJ w K0 a0 b0 c0 S) :
    ab_C X l i_Mod_readLine [.ref 90] w n 0 0 (mrQ T K0 a0 b0 c0 w n s tn (rdL T S p)) := by
  have hJs := hJ.sh
  have at47 : ∀ (b : Bool) (w1 : ab_W), Fr FMk w w1 → (∃ s1 wd1, w1 90 = oMod s1 wd1 tn ∧ Fr FMx s s1 ∧ MKs w1 K0 a0 b0 c0 ∧ (∀ e, rdL' T S p = .inl e → b = false ∧ s1 10 = nI e.1 ∧ s1 11 = nI e.2) ∧ (∀ x, rdL' T S p = .inr x → b = true ∧ Fr FMr s s1 ∧ AtM T x.1 s1 wd1 ∧ MJ w1 K0 a0 b0 c0 x.2)) → ab_Ev X l i_Mod_readLine 47 [some (.ref 90), none] [.int (b01 b)] w1 n 0 0 (mrQ T K0 a0 b0 c0 w n s tn (rdL T S p)) := by
    intro b w1 fr ⟨s1, wd1, m90, g1, mS, hl, hr⟩
    rw [rdL_fin]
    cases hq : rdL' T S p with
    | inl e =>
      obtain ⟨rfl, z1, z2⟩ := hl e hq
      refine ab_sound ok_160 [] 80 ?_
      refine And.intro (fun h_9 => absurd (rfl) h_9) (fun _ => ?_)
      refine ⟨rfl, false, rfl, rfl, fr, s1, wd1, m90, g1, mS, fun e9 he => ?_, fun x hx => ?_⟩
      · have z : e = e9 := Sum.inl.inj he
        subst z
        exact ⟨rfl, z1, z2⟩
      · have z : (Sum.inl e : Out) = .inr x := hx
        cases z
    | inr x =>
      obtain ⟨p1, S1⟩ := x
      obtain ⟨rfl, g2, a1, hJ1⟩ := hr _ hq
      have hp1 : p1 ≤ tL T := rdL'_le hp hq
      have h91w : w1 91 = aI 640 (tB T) := by rw [fr 91 (by unfold FMk; omega), h91]
      generalize hO : fin59 T (.inr (p1, S1)) = O
      have hO : (bnd (qSig T 59 p1) fun q => (.inr (q, S1) : Out)) = O := hO
      have hJ1s := hJ1.sh
      have hJ2 : ∀ x : va_E, MJ (va_up w1 90 x) K0 a0 b0 c0 S1 := fun x => ⟨hJ1.1, MJr.u90 (S := S1) hJ1.2⟩
      obtain ⟨w1, rfl⟩ := va_ex2 m90 h91w
      refine ab_sound ok_160 [] 80 ?_
      refine And.intro (fun _ => ?_) (fun h_9 => absurd h_9 ((by decide)))
      (refine Exists.intro 0 ?_; refine ⟨0, _, Nat.zero_le _, Nat.zero_le _, k_Mod_isSign T p1 59 _ _ rfl (by omega) hp1 rfl a1, ?_⟩; refine ab_q1_elim ?_)
      cases c9 : tkS T p1 59
      · have e : qSig T 59 p1 = .inl (1, tP T p1) := by unfold qSig; rw [if_neg (by rw [c9]; decide)]
        rw [bnd_l e] at hO
        refine And.intro (fun h_9 => absurd (rfl) h_9) (fun _ => ?_)
        (refine Exists.intro 0 ?_; refine ⟨0, _, Nat.zero_le _, Nat.zero_le _, k_bad T p1 1 _ _ rfl (Or.inl rfl) rfl a1, ?_⟩; refine ab_q1_elim ?_)
        exact ⟨rfl, mrQ_l hO (fr.up (Or.inl rfl)) rfl g2 hJ1s.u90⟩
      · have e : qSig T 59 p1 = .inr (tX T p1) := by unfold qSig; rw [if_pos c9]
        rw [bnd_r e] at hO
        have k9 := (tkS_k c9).1
        refine And.intro (fun _ => ?_) (fun h_9 => absurd h_9 ((by decide)))
        (refine Exists.intro 0 ?_; refine ⟨0, _, Nat.zero_le _, Nat.zero_le _, k_mgo T p1 _ _ hL hM hp1 (by omega) (by omega) rfl rfl (fr3 g2 h3) (fr4 g2 h4) a1, ?_⟩; rintro _ _ _ ⟨rfl, rfl, s4, wd4, rfl, g4, a4⟩)
        exact ⟨rfl, mrQ_r hO (fr.up (Or.inl rfl)) rfl (g2.trans (fgo_fmr g4)) a4 (hJ2 _)⟩
  have cR := fun h => k_mReadRing (X := X) (l := l) T p w n (S := S) (s := s) (wd := wd) (tn := tn) (K0 := K0) (a0 := a0) (b0 := b0) (c0 := c0) h hS hL hM hp h90 h91 h3 h4 hA hJ
  have cW := fun h => k_mReadWheel (X := X) (l := l) T p w n (S := S) (s := s) (wd := wd) (tn := tn) (K0 := K0) (a0 := a0) (b0 := b0) (c0 := c0) h hb0 hS hL hM hp h90 h91 h3 h4 hA hJ
  have cP := fun h => k_mReadPen (X := X) (l := l) T p w n (S := S) (s := s) (wd := wd) (tn := tn) (K0 := K0) (a0 := a0) (b0 := b0) (c0 := c0) h hc0 hS hL hM hp h90 h91 h3 h4 hA hJ
  obtain ⟨w, rfl⟩ := va_ex2 h90 h91
  refine ab_met cd_160 om_160 rfl (by rintro _ _ _ ⟨b, rfl, -⟩; trivial) (ab_sound ok_160 [47] 80 ?_)
  (refine Exists.intro 0 ?_; refine ⟨0, _, Nat.zero_le _, Nat.zero_le _, k_Mod_isRing T p _ _ hp rfl hA, ?_⟩; refine ab_q1_elim ?_)
  cases t0 : tkW T p 0
  · refine And.intro (fun _ => ?_) (fun h_9 => absurd (rfl) h_9)
    (refine Exists.intro 0 ?_; refine ⟨0, _, Nat.zero_le _, Nat.zero_le _, k_Mod_isWheel T p _ _ hp rfl hA, ?_⟩; refine ab_q1_elim ?_)
    cases t1 : tkW T p 1
    · refine And.intro (fun _ => ?_) (fun h_9 => absurd (rfl) h_9)
      (refine Exists.intro 0 ?_; refine ⟨0, _, Nat.zero_le _, Nat.zero_le _, k_Mod_isPen T p _ _ hp rfl hA, ?_⟩; refine ab_q1_elim ?_)
      cases t2 : tkW T p 2
      · have hq : rdL' T S p = .inl (1, tP T p) := by unfold rdL'; rw [if_neg (by rw [t0]; decide), if_neg (by rw [t1]; decide), if_neg (by rw [t2]; decide)]
        refine And.intro (fun _ => ?_) (fun h_9 => absurd (rfl) h_9)
        (refine Exists.intro 0 ?_; refine ⟨0, _, Nat.zero_le _, Nat.zero_le _, k_bad T p 1 _ _ rfl (Or.inl rfl) rfl hA, ?_⟩; refine ab_q1_elim ?_)
        refine at47 false _ (Fr.refl.up (Or.inl rfl)) ⟨upd (upd s 10 (nI 1)) 11 (nI (tP T p)), wd, rfl, (Fr.refl.us (Or.inl ⟨by omega, by omega⟩)).us (Or.inl ⟨by omega, by omega⟩), hJs.u90, fun e he => ?_, fun x hx => ?_⟩
        · have z : (1, tP T p) = e := Sum.inl.inj (hq.symm.trans he)
          subst z
          exact ⟨rfl, by rw [upd_ne (by omega), upd_at], by rw [upd_at]⟩
        · rw [hq] at hx; cases hx
      · have hq : rdL' T S p = rdP' T S p := by unfold rdL'; rw [if_neg (by rw [t0]; decide), if_neg (by rw [t1]; decide), if_pos t2]
        refine And.intro (fun h_9 => absurd h_9 ((by decide))) (fun _ => ?_)
        (refine Exists.intro 0 ?_; refine ⟨0, _, Nat.zero_le _, Nat.zero_le _, cP t2, ?_⟩; rintro _ w2 _ ⟨v, rfl, rfl, f2, hh⟩)
        exact at47 v w2 f2 (by rw [hq]; exact hh)
    · have hq : rdL' T S p = rdW' T S p := by unfold rdL'; rw [if_neg (by rw [t0]; decide), if_pos t1]
      refine And.intro (fun h_9 => absurd h_9 ((by decide))) (fun _ => ?_)
      (refine Exists.intro 0 ?_; refine ⟨0, _, Nat.zero_le _, Nat.zero_le _, cW t1, ?_⟩; rintro _ w2 _ ⟨v, rfl, rfl, f2, hh⟩)
      exact at47 v w2 f2 (by rw [hq]; exact hh)
  · have hq : rdL' T S p = rdR' T S p := by unfold rdL'; rw [if_pos t0]
    refine And.intro (fun h_9 => absurd h_9 ((by decide))) (fun _ => ?_)
    (refine Exists.intro 0 ?_; refine ⟨0, _, Nat.zero_le _, Nat.zero_le _, cR t0, ?_⟩; rintro _ w2 _ ⟨v, rfl, rfl, f2, hh⟩)
    exact at47 v w2 f2 (by rw [hq]; exact hh)
end MLINE

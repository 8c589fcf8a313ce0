/-! a wheel's line, for the class -/
def F134 (k : Nat) : Prop := k = 1 ∨ k = 3 ∨ k = 4
theorem qIO_r {T : TE} {p q : Nat} (hp : p ≤ tL T) (h : qIO T p = .inr q) : q = tX T p ∧ q ≤ tL T := by
  unfold qIO at h
  by_cases c : tkW T p 3 = true ∨ tkW T p 4 = true
  · rw [if_pos c] at h
    have e : tX T p = q := Sum.inr.inj h
    have k : tK T p = 2 := c.elim (fun z => (tkW_k z).1) (fun z => (tkW_k z).1)
    have g := tX_le hp (by omega) (by omega)
    omega
  · rw [if_neg c] at h; cases h
section RWHEEL
variable {X : ab_X} {l : Launch}
theorem F134_44 : ∀ k, F134 k → ¬ FKt 44 k := fun k hk => by unfold F134 at hk; unfold FKt; omega
theorem k_rw106_44 (T : TE) (c t lo p6 : Nat) (i : Bool) (o : Option (Nat × Nat)) (u : Int) (w w1 : ab_W) (n : Nat) {S : KS} {f6 r1 r2 r3 : Int32} {su sl : Int64} {O : Out} (hO : (if tkS T p6 59 = true then (if sO S o t i u lo = true then .inr (tX T p6, adW S c t i o u lo) else .inl (5, tP T p6)) else .inl (1, tP T p6)) = O) (hS : KSok S) (hc : sLo S c = none) (h12 : sW S < 12) (hb : BsOk S o) (ht : 3 ≤ t ∧ t ≤ 200) (hu : u.natAbs ≤ 99) (hl1 : 1 ≤ lo) (hl2 : lo ≤ 99) (hL : tL T ≤ 640) (hp : p6 ≤ tL T) (fr : Fr F134 w w1) (hC : CRd w 44 S) (h1 : w1 1 = oTk T p6 f6) (h2 : w1 2 = aI 640 (tB T)) (h3 : w1 3 = oKR r1 r2 r3) (hr1 : r1 = nI 0) (h4 : w1 4 = oWL (nI t) (b01 i) (bsI o) (nI (bT S o)) (nI (bH S o)) (bU S o) (bL S o) (Int32.ofInt (arU u lo)) (nI (arL u lo)) su sl) :
    ab_Ev X l i_KR_readWheel 106 [some (.ref 3), some (.ref 1), some (.ref 44), some (.int (nI c))] [] w1 n 0 0 (rdQ 44 T w n r3 O) := by
  have hC1 := hC.fr fr F134_44
  have fr2 := fr.mono (G := FRd 44) (fun k hk => by unfold F134 at hk; unfold FRd; omega)
  have h0 := hC1.1
  have wn := bs_wn hS hb hu hl1 hl2 ht
  obtain ⟨g1, g2, g3⟩ := ar_ok hu hl1 hl2
  have i1 : (Int32.ofInt (arU u lo)).toInt = arU u lo := o32_i (by omega)
  have i2 : (nI (arL u lo)).toInt = (arL u lo : Int) := nI_toInt (by omega)
  have cf := c_WL_findSpin (X := X) (l := l) i t (bT S o) w1 n (bw := bsI o) (ht := nI (bH S o)) (bu := bU S o) (bl := bL S o) (au := Int32.ofInt (arU u lo)) (al := nI (arL u lo)) (su := su) (sl := sl) (by rw [i1, i2]; exact wn) h4
  rw [i1, i2] at cf
  obtain ⟨w1, rfl⟩ : ∃ w0, w1 = va_up (va_up (va_up (va_up (va_up w0 44 (oKit 44 (nI (sR S)) (nI (sW S)) (nI (sP S)) (nI (sN S)))) 4 (oWL (nI t) (b01 i) (bsI o) (nI (bT S o)) (nI (bH S o)) (bU S o) (bL S o) (Int32.ofInt (arU u lo)) (nI (arL u lo)) su sl)) 3 (oKR r1 r2 r3)) 2 (aI 640 (tB T))) 1 (oTk T p6 f6) := ⟨w1, by rw [← va_self h0, ← va_self h4, ← va_self h3, ← va_self h2, ← va_self h1]⟩
  refine ab_sound ok_20 [] 80 ?_
  (refine Exists.intro 0 ?_; refine ⟨0, _, Nat.zero_le _, Nat.zero_le _, k_isSign T p6 59 _ _ rfl (by omega) hp rfl, ?_⟩; refine ab_q1_elim ?_)
  by_cases c9 : tkS T p6 59 = true
  · rw [if_pos c9] at hO
    refine And.intro (fun _ => ?_) (fun h_9 => absurd h_9 ((by rw [c9]; decide)))
    (refine Exists.intro 0 ?_; refine ⟨0, _, Nat.zero_le _, Nat.zero_le _, cf, ?_⟩; refine ab_q1_elim ?_)
    have hOo : wpO i (bU S o).toInt (bL S o).toInt (arU u lo) (arL u lo : Int) t (bT S o) = sO S o t i u lo := rfl
    rw [hOo]
    have k9 := (tkS_k c9).1
    cases c8 : sO S o t i u lo
    · rw [c8, if_neg (by decide)] at hO
      refine And.intro (fun h_9 => absurd (rfl) h_9) (fun _ => ?_)
      (refine Exists.intro 0 ?_; refine ⟨0, _, Nat.zero_le _, Nat.zero_le _, k_fail T p6 5 _ _ rfl rfl rfl, ?_⟩; refine ab_q1_elim ?_)
      exact ⟨rfl, rdQ_l hO ((fr2.up (by unfold FRd; omega)).up (by unfold FRd; omega)) rfl ⟨tk_isTp, rfl, ⟨_, _, _, _, _, _, _, _, _, _, _, rfl⟩, ((hC1.up n4_44).up n3_44).sh⟩⟩
    · rw [c8, if_pos rfl] at hO
      refine And.intro (fun _ => ?_) (fun h_9 => absurd h_9 ((by decide)))
      (refine Exists.intro 0 ?_; refine ⟨0, _, Nat.zero_le _, Nat.zero_le _, k_adv T p6 _ _ hL hp (by omega) (by omega) rfl rfl, ?_⟩; refine ab_q1_elim ?_)
      have hz : wpX i (bU S o).toInt (bL S o).toInt (arU u lo) (arL u lo : Int) t (bT S o) ≤ 9999 ∧ -9999 ≤ wpX i (bU S o).toInt (bL S o).toInt (arU u lo) (arL u lo : Int) t (bT S o) ∧ wpY i (bU S o).toInt (bL S o).toInt (arU u lo) (arL u lo : Int) t (bT S o) ≤ 9999 := of_decide_eq_true c8
      have hy := (wp_xy (i := i) wn).2.2.2.1
      (refine Exists.intro 0 ?_; refine ⟨0, _, Nat.zero_le _, Nat.zero_le _, k_Kit_addWheel_44 c t lo i o u _ _ rfl hS hc h12 hb (by unfold sX; omega) (by unfold sY; omega) ((hC1.up n4_44).up n1_44) rfl, ?_⟩; rintro _ w2 _ ⟨rfl, rfl, f1, hC5⟩)
      have f2 := f1.mono (G := FRd 44) (fun k hk => Or.inr (Or.inr (Or.inr hk)))
      exact ⟨rfl, rdQ_r hO (((fr2.up (by unfold FRd; omega)).up (by unfold FRd; omega)).trans f2) ⟨⟨_, f1.get rfl n1_44⟩, f1.get rfl (by unfold FKt; omega), ⟨r1, r2, f1.get rfl n3_44, hr1⟩, by rw [f1 4 n4_44]; exact ⟨_, _, _, _, _, _, _, _, _, _, _, rfl⟩, hC5⟩⟩
  · rw [if_neg c9] at hO
    refine And.intro (fun h_9 => absurd ((by rw [Bool.eq_false_iff.mpr c9]; rfl)) h_9) (fun _ => ?_)
    (refine Exists.intro 0 ?_; refine ⟨0, _, Nat.zero_le _, Nat.zero_le _, k_fail T p6 1 _ _ rfl rfl rfl, ?_⟩; refine ab_q1_elim ?_)
    exact ⟨rfl, rdQ_l hO (fr2.up (by unfold FRd; omega)) rfl ⟨tk_isTp, rfl, ⟨_, _, _, _, _, _, _, _, _, _, _, rfl⟩, (hC1.up n3_44).sh⟩⟩
theorem k_readWheel_44 (T : TE) (p : Nat) (w : ab_W) (n : Nat) {S : KS} {r3 : Int32} (hk : tkW T p 1 = true) (hS : KSok S) (hL : tL T ≤ 640) (hp : p ≤ tL T) (h : RdI w 44 T S p r3) : ab_C X l i_KR_readWheel [.ref 3, .ref 1, .ref 44] w n 0 0 (rdQ 44 T w n r3 (rdW T S p)) := by
  obtain ⟨⟨f, h1⟩, h2, ⟨r1, r2, h3, hr1⟩, ⟨t0, i0, bw, bt, ht, bu, bl, au, al, su, sl, h4⟩, hC⟩ := h
  have h0 := hC.1
  have kk := (tkW_k hk).1
  have k1 := (tX_le hp (by omega) (by omega)).2
  have hr := hS.1
  generalize hO : rdW T S p = O
  unfold rdW at hO
  have lf : ∀ (w1 : ab_W) (k pl : Nat), Fr F134 w w1 → .inl (k, pl) = O → w1 3 = oKR (nI k) (nI pl) r3 → isTp T (w1 1) → w1 2 = aI 640 (tB T) → isWL (w1 4) → rdQ 44 T w n r3 O (some (.int (nI 0))) w1 n := fun w1 k pl a b c d e g => rdQ_l b (a.mono (G := FRd 44) (fun k hk => by unfold F134 at hk; unfold FRd; omega)) c ⟨d, e, g, (hC.fr a F134_44).sh⟩
  have m106 := fun (c t lo p6 : Nat) (i : Bool) (o : Option (Nat × Nat)) (u : Int) (w1 : ab_W) (f6 : Int32) (su sl : Int64) => k_rw106_44 (X := X) (l := l) T c t lo p6 i o u w w1 n (S := S) (f6 := f6) (r1 := r1) (r2 := r2) (r3 := r3) (su := su) (sl := sl) (O := O)
  have hCw := fun (w1 : ab_W) (a : Fr F134 w w1) => hC.fr a F134_44
  obtain ⟨w, rfl⟩ : ∃ w0, w = va_up (va_up (va_up (va_up (va_up w0 44 (oKit 44 (nI (sR S)) (nI (sW S)) (nI (sP S)) (nI (sN S)))) 4 (oWL t0 i0 bw bt ht bu bl au al su sl)) 3 (oKR r1 r2 r3)) 2 (aI 640 (tB T))) 1 (oTk T p f) := ⟨w, by rw [← va_self h0, ← va_self h4, ← va_self h3, ← va_self h2, ← va_self h1]⟩
  refine ab_met cd_20 om_20 rfl (by rintro _ _ _ ⟨b, rfl, -⟩; trivial) (ab_sound ok_20 [106] 120 ?_)
  by_cases c : 12 ≤ sW S
  · refine And.intro (fun h_9 => absurd h_9 (nI_nlt c (by omega))) (fun _ => ?_)
    (refine Exists.intro 0 ?_; refine ⟨0, _, Nat.zero_le _, Nat.zero_le _, k_fail T p 4 _ _ rfl rfl rfl, ?_⟩; refine ab_q1_elim ?_)
    rw [if_pos c] at hO
    exact ⟨rfl, lf _ _ _ (Fr.refl.up (by unfold F134; omega)) hO rfl tk_isTp rfl ⟨_, _, _, _, _, _, _, _, _, _, _, rfl⟩⟩
  refine And.intro (fun _ => ?_) (fun h_9 => absurd (nI_lt (by omega) (by omega)) h_9)
  rw [if_neg c] at hO
  (refine Exists.intro 0 ?_; refine ⟨0, _, Nat.zero_le _, Nat.zero_le _, k_adv T p _ _ hL hp (by omega) (by omega) rfl rfl, ?_⟩; refine ab_q1_elim ?_)
  have fr1 := (Fr.refl (w := va_up (va_up (va_up (va_up (va_up w 44 (oKit 44 (nI (sR S)) (nI (sW S)) (nI (sP S)) (nI (sN S)))) 4 (oWL t0 i0 bw bt ht bu bl au al su sl)) 3 (oKR r1 r2 r3)) 2 (aI 640 (tB T))) 1 (oTk T p f)) (F := F134)).up (k := 1) (c := oTk T (tX T p) (cV T p f)) (by unfold F134; omega)
  cases e1 : qNew T S (tX T p) with
  | inl e =>
    obtain ⟨k, pl⟩ := e
    rw [bnd_l e1] at hO
    (refine Exists.intro 0 ?_; refine ⟨0, _, Nat.zero_le _, Nat.zero_le _, k_passNewName_n_44 T (tX T p) k pl _ _ e1 hS hL k1 rfl rfl rfl (hCw _ fr1), ?_⟩; refine ab_q1_elim ?_)
    refine And.intro (fun h_9 => absurd (rfl) h_9) (fun _ => ?_)
    exact ⟨rfl, lf _ _ _ (fr1.up (by unfold F134; omega)) hO rfl tk_isTp rfl ⟨_, _, _, _, _, _, _, _, _, _, _, rfl⟩⟩
  | inr p2 =>
  rw [bnd_r e1] at hO
  obtain ⟨a1, a2, a3, a4, a5⟩ := qNew_r k1 e1
  (refine Exists.intro 0 ?_; refine ⟨0, _, Nat.zero_le _, Nat.zero_le _, k_passNewName_y_44 T (tX T p) p2 _ _ e1 hS hL k1 rfl rfl rfl (hCw _ fr1), ?_⟩; refine ab_q1_elim ?_)
  refine And.intro (fun _ => ?_) (fun h_9 => absurd h_9 ((by decide)))
  have fr2 := (fr1.up (k := 1) (c := oTk T p2 (cV T (tX T p) (cV T p f))) (by unfold F134; omega)).up (k := 4) (c := oWL (cV T p2 (cV T (tX T p) (cV T p f))) i0 bw bt ht bu bl au al su sl) (by unfold F134; omega)
  cases e2 : qNum T 3 200 p2 with
  | inl e =>
    obtain ⟨k, pl⟩ := e
    rw [bnd_l e2] at hO
    (refine Exists.intro 0 ?_; refine ⟨0, _, Nat.zero_le _, Nat.zero_le _, k_passNumber_n T 3 200 p2 k pl _ _ e2 rfl rfl (by omega) (by omega) a4 rfl rfl, ?_⟩; refine ab_q1_elim ?_)
    refine And.intro (fun _ => ?_) (fun h_9 => absurd (rfl) h_9)
    exact ⟨rfl, lf _ _ _ (fr2.up (by unfold F134; omega)) hO rfl tk_isTp rfl ⟨_, _, _, _, _, _, _, _, _, _, _, rfl⟩⟩
  | inr p3 =>
  rw [bnd_r e2] at hO
  obtain ⟨b1, b2, b3, b4, b5⟩ := qNum_r a4 e2
  (refine Exists.intro 0 ?_; refine ⟨0, _, Nat.zero_le _, Nat.zero_le _, k_passNumber_y T 3 200 p2 p3 _ _ e2 rfl rfl (by omega) (by omega) hL a4 rfl rfl rfl, ?_⟩; refine ab_q1_elim ?_)
  refine And.intro (fun h_9 => absurd h_9 ((by decide))) (fun _ => ?_)
  have v1 : cV T (tX T p) (cV T p f) = nI (tV T (tX T p)) := cV_eq k1 (by omega) (by omega)
  have v2 : cV T p2 (cV T (tX T p) (cV T p f)) = nI (tV T p2) := cV_eq a4 (by omega) (by omega)
  rw [v2] at fr2
  rw [v2]
  have fr3 := fr2.up (k := 1) (c := oTk T p3 (nI (tV T p2))) (by unfold F134; omega)
  cases e3 : qIO T p3 with
  | inl e =>
    obtain ⟨k, pl⟩ := e
    rw [bnd_l e3] at hO
    (refine Exists.intro 0 ?_; refine ⟨0, _, Nat.zero_le _, Nat.zero_le _, k_passInOrOn_n T p3 k pl _ _ e3 hL b5 rfl rfl rfl rfl, ?_⟩; refine ab_q1_elim ?_)
    refine And.intro (fun _ => ?_) (fun h_9 => absurd (rfl) h_9)
    exact ⟨rfl, lf _ _ _ ((fr3.up (by unfold F134; omega)).up (by unfold F134; omega)) hO rfl tk_isTp rfl ⟨_, _, _, _, _, _, _, _, _, _, _, rfl⟩⟩
  | inr p4 =>
  rw [bnd_r e3] at hO
  obtain ⟨d1, d2⟩ := qIO_r b5 e3
  (refine Exists.intro 0 ?_; refine ⟨0, _, Nat.zero_le _, Nat.zero_le _, k_passInOrOn_y T p3 p4 _ _ e3 hL b5 rfl rfl rfl rfl, ?_⟩; refine ab_q1_elim ?_)
  refine And.intro (fun h_9 => absurd h_9 ((by decide))) (fun _ => ?_)
  have fr4 := (fr3.up (k := 1) (c := oTk T p4 (cV T p3 (nI (tV T p2)))) (by unfold F134; omega)).up (k := 4) (c := oWL (nI (tV T p2)) (b01 (tkW T p3 3)) bw bt ht bu bl au al su sl) (by unfold F134; omega)
  cases e4 : qBs T S (tV T p2) (tkW T p3 3) p4 with
  | inl e =>
    obtain ⟨k, pl⟩ := e
    rw [bnd_l e4] at hO
    (refine Exists.intro 0 ?_; refine ⟨0, _, Nat.zero_le _, Nat.zero_le _, k_passBase_n_44 T (tV T p2) p4 k pl (tkW T p3 3) _ _ (by omega) e4 hS hL d2 rfl rfl rfl rfl (hCw _ fr4), ?_⟩; rintro _ _ _ ⟨rfl, rfl, c4, hc4, rfl⟩)
    refine And.intro (fun h_9 => absurd (rfl) h_9) (fun _ => ?_)
    exact ⟨rfl, lf _ _ _ ((fr4.up (by unfold F134; omega)).up (by unfold F134; omega)) hO rfl tk_isTp rfl hc4⟩
  | inr p5 =>
  rw [bnd_r e4] at hO
  obtain ⟨x1, x2, x3, x4, x5, x6, x7⟩ := qBs_r d2 e4
  have ho := bs_lo hS.2.2.2.2 x3
  (refine Exists.intro 0 ?_; refine ⟨0, _, Nat.zero_le _, Nat.zero_le _, k_passBase_y_44 T (tV T p2) p4 p5 (tkW T p3 3) _ _ (by omega) e4 hS hL d2 rfl rfl rfl rfl (hCw _ fr4), ?_⟩; refine ab_q1_elim ?_)
  refine And.intro (fun _ => ?_) (fun h_9 => absurd h_9 ((by decide)))
  have fr5 := (fr4.up (k := 4) (c := oWL (nI (tV T p2)) (b01 (tkW T p3 3)) (bsI (sLo S (tV T p4))) (nI (bT S (sLo S (tV T p4)))) (nI (bH S (sLo S (tV T p4)))) (bU S (sLo S (tV T p4))) (bL S (sLo S (tV T p4))) au al su sl) (by unfold F134; omega)).up (k := 1) (c := oTk T p5 (cV T p4 (cV T p3 (nI (tV T p2))))) (by unfold F134; omega)
  (refine Exists.intro 0 ?_; refine ⟨0, _, Nat.zero_le _, Nat.zero_le _, c_WL_turnAt 1 1 _ _ rfl rfl (by omega) (by omega) (by omega) rfl, ?_⟩; refine ab_q1_elim ?_)
  have fr6 := fr5.up (k := 4) (c := oWL (nI (tV T p2)) (b01 (tkW T p3 3)) (bsI (sLo S (tV T p4))) (nI (bT S (sLo S (tV T p4)))) (nI (bH S (sLo S (tV T p4)))) (bU S (sLo S (tV T p4))) (bL S (sLo S (tV T p4))) (Int32.ofInt (arU 1 1)) (nI (arL 1 1)) su sl) (by unfold F134; omega)
  (refine Exists.intro 0 ?_; refine ⟨0, _, Nat.zero_le _, Nat.zero_le _, k_isWord_5 T p5 _ _ hL x6 rfl rfl, ?_⟩; refine ab_q1_elim ?_)
  have hcn := (lo_none hS.2.2.2.2).mp a3
  cases e5 : tkW T p5 5
  · have e6 : qAt T p5 = .inr p5 := by unfold qAt; rw [if_neg (by rw [e5]; decide)]
    have u1 : atU T p5 = 1 := by unfold atU; rw [if_neg (by rw [e5]; decide)]
    have u2 : atL T p5 = 1 := by unfold atL; rw [if_neg (by rw [e5]; decide)]
    rw [bnd_r e6, u1, u2] at hO
    refine And.intro (fun _ => ?_) (fun h_9 => absurd (rfl) h_9)
    refine ab_ev_of (m106 (tV T (tX T p)) (tV T p2) 1 p5 (tkW T p3 3) (sLo S (tV T p4)) 1 _ _ _ _ hO hS hcn (by omega) ho ⟨b3, b4⟩ (by omega) (by omega) (by omega) hL x6 fr6 hC rfl rfl rfl hr1 rfl) ?_ rfl rfl
    rw [← v1]
    rfl
  · refine And.intro (fun h_9 => absurd h_9 ((by decide))) (fun _ => ?_)
    cases e6 : qAt T p5 with
    | inl e =>
      obtain ⟨k, pl⟩ := e
      rw [bnd_l e6] at hO
      (refine Exists.intro 0 ?_; refine ⟨0, _, Nat.zero_le _, Nat.zero_le _, k_passAt_n T p5 k pl _ _ e5 e6 hL x6 rfl rfl rfl rfl, ?_⟩; rintro _ _ _ ⟨rfl, rfl, c1, hc1, rfl⟩)
      refine And.intro (fun h_9 => absurd (rfl) h_9) (fun _ => ?_)
      exact ⟨rfl, lf _ _ _ ((fr6.up (by unfold F134; omega)).up (by unfold F134; omega)) hO rfl hc1 rfl ⟨_, _, _, _, _, _, _, _, _, _, _, rfl⟩⟩
    | inr p6 =>
      rw [bnd_r e6] at hO
      obtain ⟨q1, q2, q3, q4⟩ := qAt_ok x6 e6
      (refine Exists.intro 0 ?_; refine ⟨0, _, Nat.zero_le _, Nat.zero_le _, k_passAt_y T p5 p6 _ _ e5 e6 hL x6 rfl rfl rfl rfl, ?_⟩; rintro _ _ _ ⟨rfl, rfl, f7, rfl⟩)
      refine And.intro (fun _ => ?_) (fun h_9 => absurd h_9 ((by decide)))
      refine ab_ev_of (m106 (tV T (tX T p)) (tV T p2) (atL T p5) p6 (tkW T p3 3) (sLo S (tV T p4)) (atU T p5) _ f7 _ _ hO hS hcn (by omega) ho ⟨b3, b4⟩ q1 q2 q3 hL q4 ((fr6.up (by unfold F134; omega)).up (by unfold F134; omega)) hC rfl rfl rfl hr1 rfl) ?_ rfl rfl
      rw [← v1]
      rfl
theorem F134_59 : ∀ k, F134 k → ¬ FKt 59 k := fun k hk => by unfold F134 at hk; unfold FKt; omega
theorem k_rw106_59 (T : TE) (c t lo p6 : Nat) (i : Bool) (o : Option (Nat × Nat)) (u : Int) (w w1 : ab_W) (n : Nat) {S : KS} {f6 r1 r2 r3 : Int32} {su sl : Int64} {O : Out} (hO : (if tkS T p6 59 = true then (if sO S o t i u lo = true then .inr (tX T p6, adW S c t i o u lo) else .inl (5, tP T p6)) else .inl (1, tP T p6)) = O) (hS : KSok S) (hc : sLo S c = none) (h12 : sW S < 12) (hb : BsOk S o) (ht : 3 ≤ t ∧ t ≤ 200) (hu : u.natAbs ≤ 99) (hl1 : 1 ≤ lo) (hl2 : lo ≤ 99) (hL : tL T ≤ 640) (hp : p6 ≤ tL T) (fr : Fr F134 w w1) (hC : CRd w 59 S) (h1 : w1 1 = oTk T p6 f6) (h2 : w1 2 = aI 640 (tB T)) (h3 : w1 3 = oKR r1 r2 r3) (hr1 : r1 = nI 0) (h4 : w1 4 = oWL (nI t) (b01 i) (bsI o) (nI (bT S o)) (nI (bH S o)) (bU S o) (bL S o) (Int32.ofInt (arU u lo)) (nI (arL u lo)) su sl) :
    ab_Ev X l i_KR_readWheel 106 [some (.ref 3), some (.ref 1), some (.ref 59), some (.int (nI c))] [] w1 n 0 0 (rdQ 59 T w n r3 O) := by
  have hC1 := hC.fr fr F134_59
  have fr2 := fr.mono (G := FRd 59) (fun k hk => by unfold F134 at hk; unfold FRd; omega)
  have h0 := hC1.1
  have wn := bs_wn hS hb hu hl1 hl2 ht
  obtain ⟨g1, g2, g3⟩ := ar_ok hu hl1 hl2
  have i1 : (Int32.ofInt (arU u lo)).toInt = arU u lo := o32_i (by omega)
  have i2 : (nI (arL u lo)).toInt = (arL u lo : Int) := nI_toInt (by omega)
  have cf := c_WL_findSpin (X := X) (l := l) i t (bT S o) w1 n (bw := bsI o) (ht := nI (bH S o)) (bu := bU S o) (bl := bL S o) (au := Int32.ofInt (arU u lo)) (al := nI (arL u lo)) (su := su) (sl := sl) (by rw [i1, i2]; exact wn) h4
  rw [i1, i2] at cf
  obtain ⟨w1, rfl⟩ : ∃ w0, w1 = va_up (va_up (va_up (va_up (va_up w0 59 (oKit 59 (nI (sR S)) (nI (sW S)) (nI (sP S)) (nI (sN S)))) 4 (oWL (nI t) (b01 i) (bsI o) (nI (bT S o)) (nI (bH S o)) (bU S o) (bL S o) (Int32.ofInt (arU u lo)) (nI (arL u lo)) su sl)) 3 (oKR r1 r2 r3)) 2 (aI 640 (tB T))) 1 (oTk T p6 f6) := ⟨w1, by rw [← va_self h0, ← va_self h4, ← va_self h3, ← va_self h2, ← va_self h1]⟩
  refine ab_sound ok_20 [] 80 ?_
  (refine Exists.intro 0 ?_; refine ⟨0, _, Nat.zero_le _, Nat.zero_le _, k_isSign T p6 59 _ _ rfl (by omega) hp rfl, ?_⟩; refine ab_q1_elim ?_)
  by_cases c9 : tkS T p6 59 = true
  · rw [if_pos c9] at hO
    refine And.intro (fun _ => ?_) (fun h_9 => absurd h_9 ((by rw [c9]; decide)))
    (refine Exists.intro 0 ?_; refine ⟨0, _, Nat.zero_le _, Nat.zero_le _, cf, ?_⟩; refine ab_q1_elim ?_)
    have hOo : wpO i (bU S o).toInt (bL S o).toInt (arU u lo) (arL u lo : Int) t (bT S o) = sO S o t i u lo := rfl
    rw [hOo]
    have k9 := (tkS_k c9).1
    cases c8 : sO S o t i u lo
    · rw [c8, if_neg (by decide)] at hO
      refine And.intro (fun h_9 => absurd (rfl) h_9) (fun _ => ?_)
      (refine Exists.intro 0 ?_; refine ⟨0, _, Nat.zero_le _, Nat.zero_le _, k_fail T p6 5 _ _ rfl rfl rfl, ?_⟩; refine ab_q1_elim ?_)
      exact ⟨rfl, rdQ_l hO ((fr2.up (by unfold FRd; omega)).up (by unfold FRd; omega)) rfl ⟨tk_isTp, rfl, ⟨_, _, _, _, _, _, _, _, _, _, _, rfl⟩, ((hC1.up n4_59).up n3_59).sh⟩⟩
    · rw [c8, if_pos rfl] at hO
      refine And.intro (fun _ => ?_) (fun h_9 => absurd h_9 ((by decide)))
      (refine Exists.intro 0 ?_; refine ⟨0, _, Nat.zero_le _, Nat.zero_le _, k_adv T p6 _ _ hL hp (by omega) (by omega) rfl rfl, ?_⟩; refine ab_q1_elim ?_)
      have hz : wpX i (bU S o).toInt (bL S o).toInt (arU u lo) (arL u lo : Int) t (bT S o) ≤ 9999 ∧ -9999 ≤ wpX i (bU S o).toInt (bL S o).toInt (arU u lo) (arL u lo : Int) t (bT S o) ∧ wpY i (bU S o).toInt (bL S o).toInt (arU u lo) (arL u lo : Int) t (bT S o) ≤ 9999 := of_decide_eq_true c8
      have hy := (wp_xy (i := i) wn).2.2.2.1
      (refine Exists.intro 0 ?_; refine ⟨0, _, Nat.zero_le _, Nat.zero_le _, k_Kit_addWheel_59 c t lo i o u _ _ rfl hS hc h12 hb (by unfold sX; omega) (by unfold sY; omega) ((hC1.up n4_59).up n1_59) rfl, ?_⟩; rintro _ w2 _ ⟨rfl, rfl, f1, hC5⟩)
      have f2 := f1.mono (G := FRd 59) (fun k hk => Or.inr (Or.inr (Or.inr hk)))
      exact ⟨rfl, rdQ_r hO (((fr2.up (by unfold FRd; omega)).up (by unfold FRd; omega)).trans f2) ⟨⟨_, f1.get rfl n1_59⟩, f1.get rfl (by unfold FKt; omega), ⟨r1, r2, f1.get rfl n3_59, hr1⟩, by rw [f1 4 n4_59]; exact ⟨_, _, _, _, _, _, _, _, _, _, _, rfl⟩, hC5⟩⟩
  · rw [if_neg c9] at hO
    refine And.intro (fun h_9 => absurd ((by rw [Bool.eq_false_iff.mpr c9]; rfl)) h_9) (fun _ => ?_)
    (refine Exists.intro 0 ?_; refine ⟨0, _, Nat.zero_le _, Nat.zero_le _, k_fail T p6 1 _ _ rfl rfl rfl, ?_⟩; refine ab_q1_elim ?_)
    exact ⟨rfl, rdQ_l hO (fr2.up (by unfold FRd; omega)) rfl ⟨tk_isTp, rfl, ⟨_, _, _, _, _, _, _, _, _, _, _, rfl⟩, (hC1.up n3_59).sh⟩⟩
theorem k_readWheel_59 (T : TE) (p : Nat) (w : ab_W) (n : Nat) {S : KS} {r3 : Int32} (hk : tkW T p 1 = true) (hS : KSok S) (hL : tL T ≤ 640) (hp : p ≤ tL T) (h : RdI w 59 T S p r3) : ab_C X l i_KR_readWheel [.ref 3, .ref 1, .ref 59] w n 0 0 (rdQ 59 T w n r3 (rdW T S p)) := by
  obtain ⟨⟨f, h1⟩, h2, ⟨r1, r2, h3, hr1⟩, ⟨t0, i0, bw, bt, ht, bu, bl, au, al, su, sl, h4⟩, hC⟩ := h
  have h0 := hC.1
  have kk := (tkW_k hk).1
  have k1 := (tX_le hp (by omega) (by omega)).2
  have hr := hS.1
  generalize hO : rdW T S p = O
  unfold rdW at hO
  have lf : ∀ (w1 : ab_W) (k pl : Nat), Fr F134 w w1 → .inl (k, pl) = O → w1 3 = oKR (nI k) (nI pl) r3 → isTp T (w1 1) → w1 2 = aI 640 (tB T) → isWL (w1 4) → rdQ 59 T w n r3 O (some (.int (nI 0))) w1 n := fun w1 k pl a b c d e g => rdQ_l b (a.mono (G := FRd 59) (fun k hk => by unfold F134 at hk; unfold FRd; omega)) c ⟨d, e, g, (hC.fr a F134_59).sh⟩
  have m106 := fun (c t lo p6 : Nat) (i : Bool) (o : Option (Nat × Nat)) (u : Int) (w1 : ab_W) (f6 : Int32) (su sl : Int64) => k_rw106_59 (X := X) (l := l) T c t lo p6 i o u w w1 n (S := S) (f6 := f6) (r1 := r1) (r2 := r2) (r3 := r3) (su := su) (sl := sl) (O := O)
  have hCw := fun (w1 : ab_W) (a : Fr F134 w w1) => hC.fr a F134_59
  obtain ⟨w, rfl⟩ : ∃ w0, w = va_up (va_up (va_up (va_up (va_up w0 59 (oKit 59 (nI (sR S)) (nI (sW S)) (nI (sP S)) (nI (sN S)))) 4 (oWL t0 i0 bw bt ht bu bl au al su sl)) 3 (oKR r1 r2 r3)) 2 (aI 640 (tB T))) 1 (oTk T p f) := ⟨w, by rw [← va_self h0, ← va_self h4, ← va_self h3, ← va_self h2, ← va_self h1]⟩
  refine ab_met cd_20 om_20 rfl (by rintro _ _ _ ⟨b, rfl, -⟩; trivial) (ab_sound ok_20 [106] 120 ?_)
  by_cases c : 12 ≤ sW S
  · refine And.intro (fun h_9 => absurd h_9 (nI_nlt c (by omega))) (fun _ => ?_)
    (refine Exists.intro 0 ?_; refine ⟨0, _, Nat.zero_le _, Nat.zero_le _, k_fail T p 4 _ _ rfl rfl rfl, ?_⟩; refine ab_q1_elim ?_)
    rw [if_pos c] at hO
    exact ⟨rfl, lf _ _ _ (Fr.refl.up (by unfold F134; omega)) hO rfl tk_isTp rfl ⟨_, _, _, _, _, _, _, _, _, _, _, rfl⟩⟩
  refine And.intro (fun _ => ?_) (fun h_9 => absurd (nI_lt (by omega) (by omega)) h_9)
  rw [if_neg c] at hO
  (refine Exists.intro 0 ?_; refine ⟨0, _, Nat.zero_le _, Nat.zero_le _, k_adv T p _ _ hL hp (by omega) (by omega) rfl rfl, ?_⟩; refine ab_q1_elim ?_)
  have fr1 := (Fr.refl (w := va_up (va_up (va_up (va_up (va_up w 59 (oKit 59 (nI (sR S)) (nI (sW S)) (nI (sP S)) (nI (sN S)))) 4 (oWL t0 i0 bw bt ht bu bl au al su sl)) 3 (oKR r1 r2 r3)) 2 (aI 640 (tB T))) 1 (oTk T p f)) (F := F134)).up (k := 1) (c := oTk T (tX T p) (cV T p f)) (by unfold F134; omega)
  cases e1 : qNew T S (tX T p) with
  | inl e =>
    obtain ⟨k, pl⟩ := e
    rw [bnd_l e1] at hO
    (refine Exists.intro 0 ?_; refine ⟨0, _, Nat.zero_le _, Nat.zero_le _, k_passNewName_n_59 T (tX T p) k pl _ _ e1 hS hL k1 rfl rfl rfl (hCw _ fr1), ?_⟩; refine ab_q1_elim ?_)
    refine And.intro (fun h_9 => absurd (rfl) h_9) (fun _ => ?_)
    exact ⟨rfl, lf _ _ _ (fr1.up (by unfold F134; omega)) hO rfl tk_isTp rfl ⟨_, _, _, _, _, _, _, _, _, _, _, rfl⟩⟩
  | inr p2 =>
  rw [bnd_r e1] at hO
  obtain ⟨a1, a2, a3, a4, a5⟩ := qNew_r k1 e1
  (refine Exists.intro 0 ?_; refine ⟨0, _, Nat.zero_le _, Nat.zero_le _, k_passNewName_y_59 T (tX T p) p2 _ _ e1 hS hL k1 rfl rfl rfl (hCw _ fr1), ?_⟩; refine ab_q1_elim ?_)
  refine And.intro (fun _ => ?_) (fun h_9 => absurd h_9 ((by decide)))
  have fr2 := (fr1.up (k := 1) (c := oTk T p2 (cV T (tX T p) (cV T p f))) (by unfold F134; omega)).up (k := 4) (c := oWL (cV T p2 (cV T (tX T p) (cV T p f))) i0 bw bt ht bu bl au al su sl) (by unfold F134; omega)
  cases e2 : qNum T 3 200 p2 with
  | inl e =>
    obtain ⟨k, pl⟩ := e
    rw [bnd_l e2] at hO
    (refine Exists.intro 0 ?_; refine ⟨0, _, Nat.zero_le _, Nat.zero_le _, k_passNumber_n T 3 200 p2 k pl _ _ e2 rfl rfl (by omega) (by omega) a4 rfl rfl, ?_⟩; refine ab_q1_elim ?_)
    refine And.intro (fun _ => ?_) (fun h_9 => absurd (rfl) h_9)
    exact ⟨rfl, lf _ _ _ (fr2.up (by unfold F134; omega)) hO rfl tk_isTp rfl ⟨_, _, _, _, _, _, _, _, _, _, _, rfl⟩⟩
  | inr p3 =>
  rw [bnd_r e2] at hO
  obtain ⟨b1, b2, b3, b4, b5⟩ := qNum_r a4 e2
  (refine Exists.intro 0 ?_; refine ⟨0, _, Nat.zero_le _, Nat.zero_le _, k_passNumber_y T 3 200 p2 p3 _ _ e2 rfl rfl (by omega) (by omega) hL a4 rfl rfl rfl, ?_⟩; refine ab_q1_elim ?_)
  refine And.intro (fun h_9 => absurd h_9 ((by decide))) (fun _ => ?_)
  have v1 : cV T (tX T p) (cV T p f) = nI (tV T (tX T p)) := cV_eq k1 (by omega) (by omega)
  have v2 : cV T p2 (cV T (tX T p) (cV T p f)) = nI (tV T p2) := cV_eq a4 (by omega) (by omega)
  rw [v2] at fr2
  rw [v2]
  have fr3 := fr2.up (k := 1) (c := oTk T p3 (nI (tV T p2))) (by unfold F134; omega)
  cases e3 : qIO T p3 with
  | inl e =>
    obtain ⟨k, pl⟩ := e
    rw [bnd_l e3] at hO
    (refine Exists.intro 0 ?_; refine ⟨0, _, Nat.zero_le _, Nat.zero_le _, k_passInOrOn_n T p3 k pl _ _ e3 hL b5 rfl rfl rfl rfl, ?_⟩; refine ab_q1_elim ?_)
    refine And.intro (fun _ => ?_) (fun h_9 => absurd (rfl) h_9)
    exact ⟨rfl, lf _ _ _ ((fr3.up (by unfold F134; omega)).up (by unfold F134; omega)) hO rfl tk_isTp rfl ⟨_, _, _, _, _, _, _, _, _, _, _, rfl⟩⟩
  | inr p4 =>
  rw [bnd_r e3] at hO
  obtain ⟨d1, d2⟩ := qIO_r b5 e3
  (refine Exists.intro 0 ?_; refine ⟨0, _, Nat.zero_le _, Nat.zero_le _, k_passInOrOn_y T p3 p4 _ _ e3 hL b5 rfl rfl rfl rfl, ?_⟩; refine ab_q1_elim ?_)
  refine And.intro (fun h_9 => absurd h_9 ((by decide))) (fun _ => ?_)
  have fr4 := (fr3.up (k := 1) (c := oTk T p4 (cV T p3 (nI (tV T p2)))) (by unfold F134; omega)).up (k := 4) (c := oWL (nI (tV T p2)) (b01 (tkW T p3 3)) bw bt ht bu bl au al su sl) (by unfold F134; omega)
  cases e4 : qBs T S (tV T p2) (tkW T p3 3) p4 with
  | inl e =>
    obtain ⟨k, pl⟩ := e
    rw [bnd_l e4] at hO
    (refine Exists.intro 0 ?_; refine ⟨0, _, Nat.zero_le _, Nat.zero_le _, k_passBase_n_59 T (tV T p2) p4 k pl (tkW T p3 3) _ _ (by omega) e4 hS hL d2 rfl rfl rfl rfl (hCw _ fr4), ?_⟩; rintro _ _ _ ⟨rfl, rfl, c4, hc4, rfl⟩)
    refine And.intro (fun h_9 => absurd (rfl) h_9) (fun _ => ?_)
    exact ⟨rfl, lf _ _ _ ((fr4.up (by unfold F134; omega)).up (by unfold F134; omega)) hO rfl tk_isTp rfl hc4⟩
  | inr p5 =>
  rw [bnd_r e4] at hO
  obtain ⟨x1, x2, x3, x4, x5, x6, x7⟩ := qBs_r d2 e4
  have ho := bs_lo hS.2.2.2.2 x3
  (refine Exists.intro 0 ?_; refine ⟨0, _, Nat.zero_le _, Nat.zero_le _, k_passBase_y_59 T (tV T p2) p4 p5 (tkW T p3 3) _ _ (by omega) e4 hS hL d2 rfl rfl rfl rfl (hCw _ fr4), ?_⟩; refine ab_q1_elim ?_)
  refine And.intro (fun _ => ?_) (fun h_9 => absurd h_9 ((by decide)))
  have fr5 := (fr4.up (k := 4) (c := oWL (nI (tV T p2)) (b01 (tkW T p3 3)) (bsI (sLo S (tV T p4))) (nI (bT S (sLo S (tV T p4)))) (nI (bH S (sLo S (tV T p4)))) (bU S (sLo S (tV T p4))) (bL S (sLo S (tV T p4))) au al su sl) (by unfold F134; omega)).up (k := 1) (c := oTk T p5 (cV T p4 (cV T p3 (nI (tV T p2))))) (by unfold F134; omega)
  (refine Exists.intro 0 ?_; refine ⟨0, _, Nat.zero_le _, Nat.zero_le _, c_WL_turnAt 1 1 _ _ rfl rfl (by omega) (by omega) (by omega) rfl, ?_⟩; refine ab_q1_elim ?_)
  have fr6 := fr5.up (k := 4) (c := oWL (nI (tV T p2)) (b01 (tkW T p3 3)) (bsI (sLo S (tV T p4))) (nI (bT S (sLo S (tV T p4)))) (nI (bH S (sLo S (tV T p4)))) (bU S (sLo S (tV T p4))) (bL S (sLo S (tV T p4))) (Int32.ofInt (arU 1 1)) (nI (arL 1 1)) su sl) (by unfold F134; omega)
  (refine Exists.intro 0 ?_; refine ⟨0, _, Nat.zero_le _, Nat.zero_le _, k_isWord_5 T p5 _ _ hL x6 rfl rfl, ?_⟩; refine ab_q1_elim ?_)
  have hcn := (lo_none hS.2.2.2.2).mp a3
  cases e5 : tkW T p5 5
  · have e6 : qAt T p5 = .inr p5 := by unfold qAt; rw [if_neg (by rw [e5]; decide)]
    have u1 : atU T p5 = 1 := by unfold atU; rw [if_neg (by rw [e5]; decide)]
    have u2 : atL T p5 = 1 := by unfold atL; rw [if_neg (by rw [e5]; decide)]
    rw [bnd_r e6, u1, u2] at hO
    refine And.intro (fun _ => ?_) (fun h_9 => absurd (rfl) h_9)
    refine ab_ev_of (m106 (tV T (tX T p)) (tV T p2) 1 p5 (tkW T p3 3) (sLo S (tV T p4)) 1 _ _ _ _ hO hS hcn (by omega) ho ⟨b3, b4⟩ (by omega) (by omega) (by omega) hL x6 fr6 hC rfl rfl rfl hr1 rfl) ?_ rfl rfl
    rw [← v1]
    rfl
  · refine And.intro (fun h_9 => absurd h_9 ((by decide))) (fun _ => ?_)
    cases e6 : qAt T p5 with
    | inl e =>
      obtain ⟨k, pl⟩ := e
      rw [bnd_l e6] at hO
      (refine Exists.intro 0 ?_; refine ⟨0, _, Nat.zero_le _, Nat.zero_le _, k_passAt_n T p5 k pl _ _ e5 e6 hL x6 rfl rfl rfl rfl, ?_⟩; rintro _ _ _ ⟨rfl, rfl, c1, hc1, rfl⟩)
      refine And.intro (fun h_9 => absurd (rfl) h_9) (fun _ => ?_)
      exact ⟨rfl, lf _ _ _ ((fr6.up (by unfold F134; omega)).up (by unfold F134; omega)) hO rfl hc1 rfl ⟨_, _, _, _, _, _, _, _, _, _, _, rfl⟩⟩
    | inr p6 =>
      rw [bnd_r e6] at hO
      obtain ⟨q1, q2, q3, q4⟩ := qAt_ok x6 e6
      (refine Exists.intro 0 ?_; refine ⟨0, _, Nat.zero_le _, Nat.zero_le _, k_passAt_y T p5 p6 _ _ e5 e6 hL x6 rfl rfl rfl rfl, ?_⟩; rintro _ _ _ ⟨rfl, rfl, f7, rfl⟩)
      refine And.intro (fun _ => ?_) (fun h_9 => absurd h_9 ((by decide)))
      refine ab_ev_of (m106 (tV T (tX T p)) (tV T p2) (atL T p5) p6 (tkW T p3 3) (sLo S (tV T p4)) (atU T p5) _ f7 _ _ hO hS hcn (by omega) ho ⟨b3, b4⟩ q1 q2 q3 hL q4 ((fr6.up (by unfold F134; omega)).up (by unfold F134; omega)) hC rfl rfl rfl hr1 rfl) ?_ rfl rfl
      rw [← v1]
      rfl
end RWHEEL

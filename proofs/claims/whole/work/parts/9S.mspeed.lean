/-! the model's speeds -/
def spQ (T : TE) (v : Nat) (u : Int) (lo : Nat) (w : ab_W) (n : Nat) (s : Nat → Int32) (tn : Int64) (f3 f4 : Nat → Int64) (o : Er) : ab_Q := fun r w' n' => ∃ b : Bool, r = some (.int (b01 b)) ∧ n = n' ∧ ∃ s' wd', Fr FMr s s' ∧ (∀ e, o = .inl e → b = false ∧ w' = va_up w 90 (oMod (upd (upd s' 10 (nI e.1)) 11 (nI e.2)) wd' tn)) ∧ (∀ q, o = .inr q → b = true ∧ AtM T q s' wd' ∧ w' = va_up (va_up (va_up w 90 (oMod s' wd' tn)) 103 (aJ 24 (vp_updL f3 v (Int32.ofInt (arU u lo)).toInt64))) 104 (aJ 24 (vp_updL f4 v (nI (arL u lo)).toInt64)))
theorem spQ_l {T : TE} {v k pl lo : Nat} {u : Int} {w : ab_W} {n : Nat} {s s' : Nat → Int32} {wd' tn : Int64} {f3 f4 : Nat → Int64} {o : Er} (ho : .inl (k, pl) = o) (hs : Fr FMr s s') : spQ T v u lo w n s tn f3 f4 o (some (.int (nI 0))) (va_up w 90 (oMod (upd (upd s' 10 (nI k)) 11 (nI pl)) wd' tn)) n := by
  refine ⟨false, rfl, rfl, s', wd', hs, fun e he => ?_, fun x hx => ?_⟩
  · have z : (k, pl) = e := Sum.inl.inj (ho.trans he)
    subst z
    exact ⟨rfl, rfl⟩
  · have z : (Sum.inl (k, pl) : Er) = .inr x := ho.trans hx
    cases z
section MSPEED
variable {X : ab_X} {l : Launch}
theorem k_readSpeed (T : TE) (v p : Nat) (w : ab_W) (n : Nat) {s : Nat → Int32} {wd tn : Int64} {f3 f4 : Nat → Int64} (hv : v < 24) (h5 : tkW T p 5 = true) (hL : tL T ≤ 640) (hM : tM T ≤ 640) (hp : p ≤ tL T) (h90 : w 90 = oMod s wd tn) (h91 : w 91 = aI 640 (tB T)) (h3 : s 3 = nI (tL T)) (h4 : s 4 = nI (tM T)) (hA : AtM T p s wd) (h103 : w 103 = aJ 24 f3) (h104 : w 104 = aJ 24 f4) :
    ab_C X l i_Mod_readSpeed [.ref 90, .int (nI v)] w n 0 0 (spQ T v (atU T p) (atL T p) w n s tn f3 f4 (qAt T p)) := by
  have kk := (tkW_k h5).1
  have k1 := (tX_le hp (by omega) (by omega)).2
  have k2 := qMin_le k1
  have hu : atU T p = sgI (tkS T (tX T p) 45) (tV T (qMin T (tX T p))) := by unfold atU; rw [if_pos h5]
  have hl : atL T p = tV T (tX T (tX T (qMin T (tX T p)))) := by unfold atL; rw [if_pos h5]
  generalize hO : qAt T p = O
  have hOO := hO
  unfold qAt at hO
  rw [if_pos h5] at hO
  obtain ⟨w, rfl⟩ : ∃ w0, w = va_up (va_up (va_up (va_up w0 104 (aJ 24 f4)) 103 (aJ 24 f3)) 91 (aI 640 (tB T))) 90 (oMod s wd tn) := ⟨w, by rw [← va_self h104, ← va_self h103, ← va_self h91, ← va_self h90]⟩
  have at19 : ∀ (s4 : Nat → Int32) (wd4 : Int64), Fr FMr s s4 → AtM T (qMin T (tX T p)) s4 wd4 → ab_Ev X l i_Mod_readSpeed 19 [some (.ref 90), some (.int (nI v)), some (.int (b01 (tkS T (tX T p) 45))), none, none, none, none] [] (va_up (va_up (va_up (va_up (va_up w 104 (aJ 24 f4)) 103 (aJ 24 f3)) 91 (aI 640 (tB T))) 90 (oMod s wd tn)) 90 (oMod s4 wd4 tn)) n 0 0 (spQ T v (atU T p) (atL T p) (va_up (va_up (va_up (va_up w 104 (aJ 24 f4)) 103 (aJ 24 f3)) 91 (aI 640 (tB T))) 90 (oMod s wd tn)) n s tn f3 f4 O) := by
    intro s4 wd4 g4 a4
    refine ab_sound ok_177 [49] 80 ?_
    cases e1 : qNum T 0 99 (qMin T (tX T p)) with
    | inl e =>
      obtain ⟨k, pl⟩ := e
      rw [bnd_l e1] at hO
      (refine Exists.intro 0 ?_; refine ⟨0, _, Nat.zero_le _, Nat.zero_le _, k_readNumber_n T 0 99 (qMin T (tX T p)) k pl _ _ e1 rfl rfl (by omega) (by omega) k2 rfl a4, ?_⟩; refine ab_q1_elim ?_)
      refine And.intro (fun h_9 => absurd (rfl) h_9) (fun _ => ?_)
      rw [va_uu]
      exact ⟨rfl, spQ_l hO g4⟩
    | inr a =>
    rw [bnd_r e1] at hO
    obtain ⟨c1, c2, c3, c4, c5⟩ := qNum_r k2 e1
    (refine Exists.intro 0 ?_; refine ⟨0, _, Nat.zero_le _, Nat.zero_le _, k_readNumber_y T 0 99 (qMin T (tX T p)) a _ _ e1 rfl rfl (by omega) (by omega) hL hM k2 rfl rfl (fr3 g4 h3) (fr4 g4 h4) a4, ?_⟩; rintro _ _ _ ⟨rfl, rfl, s5, wd5, rfl, g5, a5, t5⟩)
    refine And.intro (fun _ => ?_) (fun h_9 => absurd h_9 ((by decide)))
    have g45 := g4.trans g5
    have at49 : ∀ y : Int64, y = Int64.ofInt (atU T p) → ab_Ev X l i_Mod_readSpeed 49 [some (.ref 90), some (.int (nI v)), some (.int (b01 (tkS T (tX T p) 45))), none, none, none, none] [.long y] (va_up (va_up (va_up (va_up (va_up w 104 (aJ 24 f4)) 103 (aJ 24 f3)) 91 (aI 640 (tB T))) 90 (oMod s wd tn)) 90 (oMod s5 wd5 tn)) n 0 0 (spQ T v (atU T p) (atL T p) (va_up (va_up (va_up (va_up w 104 (aJ 24 f4)) 103 (aJ 24 f3)) 91 (aI 640 (tB T))) 90 (oMod s wd tn)) n s tn f3 f4 O) := by
      intro y hy
      refine ab_sound ok_177 [] 80 ?_
      (refine Exists.intro 0 ?_; refine ⟨0, _, Nat.zero_le _, Nat.zero_le _, k_Mod_isSign T a 47 _ _ rfl (by omega) c5 rfl a5, ?_⟩; refine ab_q1_elim ?_)
      cases e2 : qSig T 47 a with
      | inl e =>
        obtain ⟨k, pl⟩ := e
        rw [bnd_l e2] at hO
        obtain ⟨rfl, q2, rfl⟩ := qSig_l e2
        refine And.intro (fun h_9 => absurd ((by rw [q2]; rfl)) h_9) (fun _ => ?_)
        (refine Exists.intro 0 ?_; refine ⟨0, _, Nat.zero_le _, Nat.zero_le _, k_bad T a 1 _ _ rfl (Or.inl rfl) rfl a5, ?_⟩; refine ab_q1_elim ?_)
        rw [va_uu]
        exact ⟨rfl, spQ_l hO g45⟩
      | inr b =>
      rw [bnd_r e2] at hO
      obtain ⟨d1, d2, d3⟩ := qSig_r c5 e2
      have k9 := (tkS_k d2).1
      refine And.intro (fun _ => ?_) (fun h_9 => absurd h_9 ((by rw [d2]; decide)))
      (refine Exists.intro 0 ?_; refine ⟨0, _, Nat.zero_le _, Nat.zero_le _, k_mgo T a _ _ hL hM c5 (by omega) (by omega) rfl rfl (fr3 g45 h3) (fr4 g45 h4) a5, ?_⟩; rintro _ _ _ ⟨rfl, rfl, s6, wd6, rfl, g6, a6⟩)
      have g456 := g45.trans (fgo_fmr g6)
      rw [← d1] at a6
      cases e3 : qNum T 1 99 b with
      | inl e =>
        obtain ⟨k, pl⟩ := e
        rw [e3] at hO
        (refine Exists.intro 0 ?_; refine ⟨0, _, Nat.zero_le _, Nat.zero_le _, k_readNumber_n T 1 99 b k pl _ _ e3 rfl rfl (by omega) (by omega) d3 rfl a6, ?_⟩; refine ab_q1_elim ?_)
        refine And.intro (fun h_9 => absurd (rfl) h_9) (fun _ => ?_)
        rw [va_uu, va_uu]
        exact ⟨rfl, spQ_l hO g456⟩
      | inr q =>
      rw [e3] at hO
      obtain ⟨x1, x2, x3, x4, x5⟩ := qNum_r d3 e3
      (refine Exists.intro 0 ?_; refine ⟨0, _, Nat.zero_le _, Nat.zero_le _, k_readNumber_y T 1 99 b q _ _ e3 rfl rfl (by omega) (by omega) hL hM d3 rfl rfl (fr3 g456 h3) (fr4 g456 h4) a6, ?_⟩; rintro _ _ _ ⟨rfl, rfl, s7, wd7, rfl, g7, a7, t7⟩)
      refine And.intro (fun _ => ?_) (fun h_9 => absurd h_9 ((by decide)))
      have hl2 : atL T p = tV T b := by rw [hl, d1, c1]
      have uab : (atU T p).natAbs ≤ 99 := by rw [hu, sgI_ab]; omega
      obtain ⟨r1, r2, r3⟩ := ar_ok (u := atU T p) (lo := tV T b) uab x3 x4
      have gp := gU_pos (u := atU T p) x3
      have i1 : y.toInt = atU T p := by rw [hy]; exact o64_i (by omega)
      have i2 : (s7 13).toInt64.toInt = (tV T b : Int) := by rw [t7, Int32.toInt_toInt64, nI_toInt (by omega)]
      (refine Exists.intro 0 ?_; refine ⟨0, _, Nat.zero_le _, Nat.zero_le _, c_Mod_divisor _ _ (by rw [i1]; omega) (by rw [i2]; omega) _ _, ?_⟩; refine ab_q1_elim ?_)
      rw [i1, i2, Int.natAbs_natCast]
      have hz : ¬ lN (Nat.gcd (atU T p).natAbs (tV T b)) = 0 := fun z => by
        have := lN_toI (a := gU (atU T p) (tV T b)) (by omega)
        rw [show lN (gU (atU T p) (tV T b)) = 0 from z] at this
        have this : (0 : Int) = _ := this
        omega
      refine And.intro (hz) ?_
      refine And.intro (vp_in_nI hv (by omega)) ?_
      rw [nI_clamp (by omega)]
      refine And.intro (hz) ?_
      refine And.intro (vp_in_nI hv (by omega)) ?_
      rw [nI_clamp (by omega)]
      have q1 : y / lN (Nat.gcd (atU T p).natAbs (tV T b)) = (Int32.ofInt (arU (atU T p) (atL T p))).toInt64 := by
        rw [hl2, i32_64, o32_i (by omega), hy]
        exact q64 (by omega) gp.1 (by show gU (atU T p) (tV T b) < _; omega) (Nat.gcd_dvd_left _ _)
      have q2 : (s7 13).toInt64 / lN (Nat.gcd (atU T p).natAbs (tV T b)) = (nI (arL (atU T p) (atL T p))).toInt64 := by
        have z := q64 (x := (tV T b : Int)) (g := gU (atU T p) (tV T b)) (by omega) gp.1 (by omega) (Nat.gcd_dvd_right _ _)
        rw [hl2, t7, i32_64 (nI (tV T b)), nI_toInt (by omega), i32_64, nI_toInt (by omega)]
        exact z
      rw [q1, q2]
      refine ⟨rfl, true, rfl, rfl, s7, wd7, g456.trans g7, fun e he => ?_, fun q9 hq9 => ?_⟩
      · have z : (Sum.inr q : Er) = .inl e := hO.trans he
        cases z
      · have z : q = q9 := Sum.inr.inj (hO.trans hq9)
        subst z
        refine ⟨rfl, a7, ?_⟩
        simp only [va_uu]
    cases cs : tkS T (tX T p) 45
    · refine And.intro (fun _ => ?_) (fun h_9 => absurd (rfl) h_9)
      rw [cs] at at49
      refine ab_ev_of (at49 (s5 13).toInt64 ?_) rfl rfl ?_
      · rw [hu, cs, t5, i32_64, nI_toInt (by omega)]; rfl
      · rw [va_uu]
    · refine And.intro (fun h_9 => absurd h_9 ((by decide))) (fun _ => ?_)
      rw [cs] at at49
      refine ab_ev_of (at49 (-s5 13).toInt64 ?_) rfl rfl ?_
      · have z : -nI (tV T (qMin T (tX T p))) = Int32.ofInt (sgI true (tV T (qMin T (tX T p)))) := by rw [← sgI_32, if_pos rfl]
        rw [hu, cs, t5, z, i32_64, o32_i (by rw [sgI_ab]; omega)]
      · rw [va_uu]
  refine ab_met cd_177 om_177 rfl (by rintro _ _ _ ⟨b, rfl, -⟩; trivial) (ab_sound ok_177 [19] 80 ?_)
  (refine Exists.intro 0 ?_; refine ⟨0, _, Nat.zero_le _, Nat.zero_le _, k_mgo T p _ _ hL hM hp (by omega) (by omega) rfl rfl h3 h4 hA, ?_⟩; rintro _ _ _ ⟨rfl, rfl, s1, wd1, rfl, g1, a1⟩)
  have g1 := fgo_fmr g1
  (refine Exists.intro 0 ?_; refine ⟨0, _, Nat.zero_le _, Nat.zero_le _, k_Mod_isSign T (tX T p) 45 _ _ rfl (by omega) k1 rfl a1, ?_⟩; refine ab_q1_elim ?_)
  cases cs : tkS T (tX T p) 45
  · refine And.intro (fun _ => ?_) (fun h_9 => absurd (rfl) h_9)
    rw [cs] at at19
    exact at19 s1 wd1 g1 (by unfold qMin; rw [if_neg (by rw [cs]; decide)]; exact a1)
  · refine And.intro (fun h_9 => absurd h_9 ((by decide))) (fun _ => ?_)
    rw [cs] at at19
    have k9 := (tkS_k cs).1
    (refine Exists.intro 0 ?_; refine ⟨0, _, Nat.zero_le _, Nat.zero_le _, k_mgo T (tX T p) _ _ hL hM k1 (by omega) (by omega) rfl rfl (fr3 g1 h3) (fr4 g1 h4) a1, ?_⟩; rintro _ _ _ ⟨rfl, rfl, s4, wd4, rfl, g4, a4⟩)
    refine ab_ev_of (at19 s4 wd4 (g1.trans (fgo_fmr g4)) (by unfold qMin; rw [if_pos cs]; exact a4)) rfl rfl ?_
    rw [va_uu]
end MSPEED

/-! the lines of a kit's text, for the model: rings and pens -/
theorem off0 {a b c : Nat} : offI 0 + (if (0 : Nat) = 0 then a else if (0 : Nat) = 1 then b else c) = a := by
  unfold offI
  rw [if_pos rfl, if_pos rfl]
  omega
theorem off1 {a b c : Nat} : offI 1 + (if (1 : Nat) = 0 then a else if (1 : Nat) = 1 then b else c) = 4 + b := by
  unfold offI
  rw [if_neg (by omega), if_pos rfl, if_neg (by omega), if_pos rfl]
theorem off2 {a b c : Nat} : offI 2 + (if (2 : Nat) = 0 then a else if (2 : Nat) = 1 then b else c) = 16 + c := by
  unfold offI
  rw [if_neg (by omega), if_neg (by omega), if_neg (by omega), if_neg (by omega)]
theorem up_of {α : Type} {f : Nat → Int32} {g : Nat → α} {F : α → Int32} {o v : Nat} {x : Int32} {y : α} (h : ∀ i, i < v → f (o + i) = F (g i)) (hx : x = F y) : ∀ i, i < v + 1 → upd f (o + v) x (o + i) = F (va_up g v y i) := fun i hi => by
  by_cases e : i = v
  · rw [e, upd_at, va_us, hx]
  · rw [upd_ne (by omega), va_un e]
    exact h i (by omega)
theorem fr3 {s s' : Nat → Int32} {x : Int32} (h : Fr FMr s s') (h3 : s 3 = x) : s' 3 = x := by rw [h 3 (by unfold FMr; omega), h3]
theorem fr4 {s s' : Nat → Int32} {x : Int32} (h : Fr FMr s s') (h3 : s 4 = x) : s' 4 = x := by rw [h 4 (by unfold FMr; omega), h3]
section MLINES
variable {X : ab_X} {l : Launch}
theorem k_mReadRing (T : TE) (p : Nat) (w : ab_W) (n : Nat) {S : KS} {s : Nat → Int32} {wd tn : Int64} {K0 : KA} {a0 b0 c0 : Nat} (hk : tkW T p 0 = true) (hS : KSok S) (hL : tL T ≤ 640) (hM : tM T ≤ 640) (hp : p ≤ tL T) (h90 : w 90 = oMod s wd tn) (h91 : w 91 = aI 640 (tB T)) (h3 : s 3 = nI (tL T)) (h4 : s 4 = nI (tM T)) (hA : AtM T p s wd) (hJ : MJ w K0 a0 b0 c0 S) :
    ab_C X l i_Mod_readRing [.ref 90] w n 0 0 (mrQ T K0 a0 b0 c0 w n s tn (rdR' T S p)) := by
  have kk := (tkW_k hk).1
  have k1 := (tX_le hp (by omega) (by omega)).2
  have hr := hS.1
  have hJs := hJ.sh
  obtain ⟨⟨f2, j2, hN⟩, ⟨f3, j3, l3, u3⟩, ⟨f4, j4, l4, u4⟩, ⟨f5, j5, l5, u5⟩, ⟨f6, j6, u6⟩, j7, j8, j9, j10, j11, j12, j13, j14, j15, j16⟩ := hJ
  generalize hO : rdR' T S p = O
  unfold rdR' at hO
  obtain ⟨w, rfl⟩ : ∃ w0, w = va_up (va_up (va_up (va_up (va_up w0 96 (aI 8 f6)) 93 (aI 2 f3)) 92 (aJ 24 f2)) 91 (aI 640 (tB T))) 90 (oMod s wd tn) := ⟨w, by rw [← va_self j6, ← va_self j3, ← va_self j2, ← va_self h91, ← va_self h90]⟩
  refine ab_met cd_164 om_164 rfl (by rintro _ _ _ ⟨b, rfl, -⟩; trivial) (ab_sound ok_164 [] 80 ?_)
  refine And.intro (vp_in_nI (show 1 < 2 by omega) (by omega)) ?_
  by_cases c : 4 ≤ sR S
  · refine And.intro (fun h_9 => absurd ((by rw [nI_clamp (by omega), u3, show sR S = 4 by omega])) h_9) (fun _ => ?_)
    (refine Exists.intro 0 ?_; refine ⟨0, _, Nat.zero_le _, Nat.zero_le _, k_bad T p 4 _ _ rfl (Or.inr ⟨by omega, by omega⟩) rfl hA, ?_⟩; refine ab_q1_elim ?_)
    rw [if_pos c] at hO
    exact ⟨rfl, mrQ_l hO (Fr.refl.up (Or.inl rfl)) rfl Fr.refl hJs.u90⟩
  refine And.intro (fun _ => ?_) (fun h_9 => absurd h_9 ((fun z => by rw [nI_clamp (by omega), u3, nI_eq (by omega) (by omega)] at z; omega)))
  rw [if_neg c] at hO
  (refine Exists.intro 0 ?_; refine ⟨0, _, Nat.zero_le _, Nat.zero_le _, k_mgo T p _ _ hL hM hp (by omega) (by omega) rfl rfl h3 h4 hA, ?_⟩; rintro _ _ _ ⟨rfl, rfl, s1, wd1, rfl, g1, a1⟩)
  have g1 := fgo_fmr g1
  refine And.intro (vp_in_nI (show 1 < 2 by omega) (by omega)) ?_
  rw [nI_clamp (by omega), u3]
  cases e1 : qNew T S (tX T p) with
  | inl e =>
    obtain ⟨k, pl⟩ := e
    rw [bnd_l e1] at hO
    (refine Exists.intro 0 ?_; refine ⟨0, _, Nat.zero_le _, Nat.zero_le _, k_readNew_n T (sR S) (tX T p) k pl _ _ e1 rfl hS k1 rfl a1 rfl rfl j4 j5 u3 u4 u5 hN, ?_⟩; refine ab_q1_elim ?_)
    refine And.intro (fun _ => ?_) (fun h_9 => absurd (rfl) h_9)
    exact ⟨rfl, mrQ_l hO ((Fr.refl.up (Or.inl rfl)).up (Or.inl rfl)) rfl g1 hJs.u90.u90⟩
  | inr p2 =>
  rw [bnd_r e1] at hO
  obtain ⟨b1, b2, b3, b4, b5⟩ := qNew_r k1 e1
  (refine Exists.intro 0 ?_; refine ⟨0, _, Nat.zero_le _, Nat.zero_le _, k_readNew_y T (sR S) (tX T p) p2 _ _ e1 rfl (by omega) hS hL hM k1 rfl rfl (fr3 g1 h3) (fr4 g1 h4) a1 rfl rfl j4 j5 u3 u4 u5 hN, ?_⟩; rintro _ _ _ ⟨rfl, rfl, s2, wd2, rfl, g2, a2⟩)
  refine And.intro (fun h_9 => absurd h_9 ((by decide))) (fun _ => ?_)
  have g12 := g1.trans g2
  cases e2 : qNum T 3 200 p2 with
  | inl e =>
    obtain ⟨k, pl⟩ := e
    rw [bnd_l e2] at hO
    (refine Exists.intro 0 ?_; refine ⟨0, _, Nat.zero_le _, Nat.zero_le _, k_readNumber_n T 3 200 p2 k pl _ _ e2 rfl rfl (by omega) (by omega) b4 rfl a2, ?_⟩; refine ab_q1_elim ?_)
    refine And.intro (fun h_9 => absurd (rfl) h_9) (fun _ => ?_)
    exact ⟨rfl, mrQ_l hO ((((Fr.refl.up (Or.inl rfl)).up (by unfold FMk; omega)).up (Or.inl rfl)).up (Or.inl rfl)) rfl g12 hJs.u90.u92.u90.u90⟩
  | inr p3 =>
  rw [bnd_r e2] at hO
  obtain ⟨c1, c2, c3, c4, c5⟩ := qNum_r b4 e2
  (refine Exists.intro 0 ?_; refine ⟨0, _, Nat.zero_le _, Nat.zero_le _, k_readNumber_y T 3 200 p2 p3 _ _ e2 rfl rfl (by omega) (by omega) hL hM b4 rfl rfl (fr3 g12 h3) (fr4 g12 h4) a2, ?_⟩; rintro _ _ _ ⟨rfl, rfl, s3, wd3, rfl, g3, a3, t3⟩)
  refine And.intro (fun _ => ?_) (fun h_9 => absurd h_9 ((by decide)))
  refine And.intro (vp_in_nI (show 1 < 2 by omega) (by omega)) ?_
  rw [nI_clamp (by omega), u3]
  refine And.intro ((by rw [nI_add]; exact vp_in_nI (show 4 + sR S < 8 by omega) (by omega))) ?_
  rw [nI_add, nI_clamp (by omega)]
  refine And.intro (vp_in_nI (show 1 < 2 by omega) (by omega)) ?_
  refine And.intro (vp_in_nI (show 1 < 2 by omega) (by omega)) ?_
  rw [nI_clamp (by omega), u3]
  have hN2 := NmM_ad (S2 := adR S (tV T (tX T p)) (tV T p2)) (s := 0) hN hS ((lo_none hS.2.2.2.2).mp b3) (Or.inl ⟨rfl, by omega, rfl, rfl, rfl⟩) rfl
  rw [off0] at hN2
  refine ⟨rfl, mrQ_r hO ((((((Fr.refl.up (Or.inl rfl)).up (by unfold FMk; omega)).up (Or.inl rfl)).up (Or.inl rfl)).up (by unfold FMk; omega)).up (by unfold FMk; omega)) rfl (g12.trans g3) a3 ⟨⟨_, rfl, hN2⟩, ⟨_, rfl, ?_, ?_⟩, ⟨f4, j4, l4, u4⟩, ⟨f5, j5, l5, u5⟩, ⟨_, rfl, up_of (F := nI) u6 t3⟩, j7, j8, j9, j10, j11, j12, j13, j14, j15, j16⟩⟩
  · rw [upd_ne (by omega), l3]
  · rw [upd_at]
    exact (nI_s (sR S)).symm
theorem fi_lt4 {S : KS} {c : Nat} (hS : KSok S) : (soI (sLo S c) = 1 ∧ ∃ j, j < sW S ∧ soJ (sLo S c) = j ∧ fiV (sLo S c) = nI (4 + j)) ∨ (soI (sLo S c) = 0 ∧ ∃ j, j < sR S ∧ soJ (sLo S c) = j ∧ fiV (sLo S c) = nI j) ∨ (soI (sLo S c) = 2 ∧ ∃ j, j < sP S ∧ fiV (sLo S c) = nI (16 + j)) ∨ (soI (sLo S c) = 3 ∧ fiV (sLo S c) = -nI 1) := by
  cases e : sLo S c with
  | none => exact Or.inr (Or.inr (Or.inr ⟨rfl, rfl⟩))
  | some y =>
    obtain ⟨y1, y2⟩ := y
    rcases (hS.2.2.2.2 c _ e).2 with ⟨z1, z2⟩ | ⟨z1, z2⟩ | ⟨z1, z2⟩
    · have z1 : y1 = 0 := z1
      subst z1
      refine Or.inr (Or.inl ⟨rfl, y2, z2, rfl, ?_⟩)
      show nI (offI 0 + y2) = nI y2
      unfold offI
      rw [if_pos rfl, Nat.zero_add]
    · have z1 : y1 = 1 := z1
      subst z1
      refine Or.inl ⟨rfl, y2, z2, rfl, rfl⟩
    · have z1 : y1 = 2 := z1
      subst z1
      exact Or.inr (Or.inr (Or.inl ⟨rfl, y2, z2, rfl⟩))
theorem k_mReadPen (T : TE) (p : Nat) (w : ab_W) (n : Nat) {S : KS} {s : Nat → Int32} {wd tn : Int64} {K0 : KA} {a0 b0 c0 : Nat} (hk : tkW T p 2 = true) (hc0 : c0 ≤ 8) (hS : KSok S) (hL : tL T ≤ 640) (hM : tM T ≤ 640) (hp : p ≤ tL T) (h90 : w 90 = oMod s wd tn) (h91 : w 91 = aI 640 (tB T)) (h3 : s 3 = nI (tL T)) (h4 : s 4 = nI (tM T)) (hA : AtM T p s wd) (hJ : MJ w K0 a0 b0 c0 S) :
    ab_C X l i_Mod_readPen [.ref 90] w n 0 0 (mrQ T K0 a0 b0 c0 w n s tn (rdP' T S p)) := by
  have kk := (tkW_k hk).1
  have k1 := (tX_le hp (by omega) (by omega)).2
  have hr := hS.1
  have hJs := hJ.sh
  obtain ⟨⟨f2, j2, hN⟩, ⟨f3, j3, l3, u3⟩, ⟨f4, j4, l4, u4⟩, ⟨f5, j5, l5, u5⟩, j6, j7, j8, j9, j10, ⟨f11, j11, l11, u11⟩, ⟨f12, j12, l12, u12⟩, j13, j14, j15, j16⟩ := hJ
  generalize hO : rdP' T S p = O
  unfold rdP' at hO
  obtain ⟨w, rfl⟩ : ∃ w0, w = va_up (va_up (va_up (va_up (va_up (va_up w0 102 (aI 16 f12)) 101 (aI 16 f11)) 95 (aI 2 f5)) 92 (aJ 24 f2)) 91 (aI 640 (tB T))) 90 (oMod s wd tn) := ⟨w, by rw [← va_self j12, ← va_self j11, ← va_self j5, ← va_self j2, ← va_self h91, ← va_self h90]⟩
  have j3 : w 93 = aI 2 f3 := j3
  have j4 : w 94 = aI 2 f4 := j4
  refine ab_met cd_181 om_181 rfl (by rintro _ _ _ ⟨b, rfl, -⟩; trivial) (ab_sound ok_181 [68, 93] 120 ?_)
  refine And.intro (vp_in_nI (show 1 < 2 by omega) (by omega)) ?_
  by_cases c : 8 ≤ sP S
  · refine And.intro (fun h_9 => absurd ((by rw [nI_clamp (by omega), u5, show sP S = 8 by omega])) h_9) (fun _ => ?_)
    (refine Exists.intro 0 ?_; refine ⟨0, _, Nat.zero_le _, Nat.zero_le _, k_bad T p 4 _ _ rfl (Or.inr ⟨by omega, by omega⟩) rfl hA, ?_⟩; refine ab_q1_elim ?_)
    rw [if_pos c] at hO
    exact ⟨rfl, mrQ_l hO (Fr.refl.up (Or.inl rfl)) rfl Fr.refl hJs.u90⟩
  refine And.intro (fun _ => ?_) (fun h_9 => absurd h_9 ((fun z => by rw [nI_clamp (by omega), u5, nI_eq (by omega) (by omega)] at z; omega)))
  rw [if_neg c] at hO
  (refine Exists.intro 0 ?_; refine ⟨0, _, Nat.zero_le _, Nat.zero_le _, k_mgo T p _ _ hL hM hp (by omega) (by omega) rfl rfl h3 h4 hA, ?_⟩; rintro _ _ _ ⟨rfl, rfl, s1, wd1, rfl, g1, a1⟩)
  have g1 := fgo_fmr g1
  refine And.intro (vp_in_nI (show 1 < 2 by omega) (by omega)) ?_
  rw [nI_clamp (by omega), u5]
  cases e1 : qNew T S (tX T p) with
  | inl e =>
    obtain ⟨k, pl⟩ := e
    rw [bnd_l e1] at hO
    (refine Exists.intro 0 ?_; refine ⟨0, _, Nat.zero_le _, Nat.zero_le _, k_readNew_n T (16 + sP S) (tX T p) k pl _ _ e1 (nI_add _ _) hS k1 rfl a1 rfl j3 j4 rfl u3 u4 u5 hN, ?_⟩; refine ab_q1_elim ?_)
    refine And.intro (fun h_9 => absurd (rfl) h_9) (fun _ => ?_)
    exact ⟨rfl, mrQ_l hO ((Fr.refl.up (Or.inl rfl)).up (Or.inl rfl)) rfl g1 hJs.u90.u90⟩
  | inr p2 =>
  rw [bnd_r e1] at hO
  obtain ⟨b1, b2, b3, b4, b5⟩ := qNew_r k1 e1
  (refine Exists.intro 0 ?_; refine ⟨0, _, Nat.zero_le _, Nat.zero_le _, k_readNew_y T (16 + sP S) (tX T p) p2 _ _ e1 (nI_add _ _) (by omega) hS hL hM k1 rfl rfl (fr3 g1 h3) (fr4 g1 h4) a1 rfl j3 j4 rfl u3 u4 u5 hN, ?_⟩; rintro _ _ _ ⟨rfl, rfl, s2, wd2, rfl, g2, a2⟩)
  refine And.intro (fun _ => ?_) (fun h_9 => absurd h_9 ((by decide)))
  have g12 := g1.trans g2
  have hNu := NmM_up (v := lN (cv (tV T (tX T p)))) (s := 2) hN hS (Or.inr (Or.inr ⟨rfl, by omega⟩))
  rw [off2] at hNu
  (refine Exists.intro 0 ?_; refine ⟨0, _, Nat.zero_le _, Nat.zero_le _, k_Mod_isName T p2 _ _ b4 rfl a2, ?_⟩; refine ab_q1_elim ?_)
  cases e2 : qWh T S p2 with
  | inl e =>
    obtain ⟨k, pl⟩ := e
    rw [bnd_l e2] at hO
    obtain ⟨rfl, q⟩ := qWh_l e2
    rcases q with ⟨q1, rfl⟩ | ⟨q1, q2, rfl⟩
    · refine And.intro (fun h_9 => absurd ((by rw [q1]; rfl)) h_9) (fun _ => ?_)
      (refine Exists.intro 0 ?_; refine ⟨0, _, Nat.zero_le _, Nat.zero_le _, k_bad T p2 1 _ _ rfl (Or.inl rfl) rfl a2, ?_⟩; refine ab_q1_elim ?_)
      exact ⟨rfl, mrQ_l hO ((((Fr.refl.up (Or.inl rfl)).up (by unfold FMk; omega)).up (Or.inl rfl)).up (Or.inl rfl)) rfl g12 hJs.u90.u92.u90.u90⟩
    · have b9 := tkN_k q1
      refine And.intro (fun _ => ?_) (fun h_9 => absurd h_9 ((by rw [q1]; decide)))
      have at68 : ∀ x1 : Option Value, ab_Ev X l i_Mod_readPen 68 [some (.ref 90), x1, none] [] (va_up (va_up (va_up (va_up (va_up (va_up (va_up (va_up (va_up w 102 (aI 16 f12)) 101 (aI 16 f11)) 95 (aI 2 f5)) 92 (aJ 24 f2)) 91 (aI 640 (tB T))) 90 (oMod s wd tn)) 90 (oMod s1 wd1 tn)) 92 (aJ 24 (vp_updL f2 (16 + sP S) (lN (cv (tV T (tX T p))))))) 90 (oMod s2 wd2 tn)) n 0 0 (mrQ T K0 a0 b0 c0 (va_up (va_up (va_up (va_up (va_up (va_up w 102 (aI 16 f12)) 101 (aI 16 f11)) 95 (aI 2 f5)) 92 (aJ 24 f2)) 91 (aI 640 (tB T))) 90 (oMod s wd tn)) n s tn O) := by
        intro x1
        refine ab_sound ok_181 [] 80 ?_
        (refine Exists.intro 0 ?_; refine ⟨0, _, Nat.zero_le _, Nat.zero_le _, k_bad T p2 3 _ _ rfl (Or.inr ⟨by omega, by omega⟩) rfl a2, ?_⟩; refine ab_q1_elim ?_)
        exact ⟨rfl, mrQ_l hO ((((Fr.refl.up (Or.inl rfl)).up (by unfold FMk; omega)).up (Or.inl rfl)).up (Or.inl rfl)) rfl g12 hJs.u90.u92.u90.u90⟩
      (refine Exists.intro 0 ?_; refine ⟨0, _, Nat.zero_le _, Nat.zero_le _, k_find (tV T p2) _ _ hS (tk_vd b4 b9) (a2.2.2.2.1 b9) rfl rfl j3 j4 rfl u3 u4 u5 hNu, ?_⟩; refine ab_q1_elim ?_)
      rcases fi_lt4 (c := tV T p2) hS with ⟨y1, _⟩ | ⟨y1, j, y2, y3, y4⟩ | ⟨y1, j, y2, y4⟩ | ⟨y1, y4⟩
      · exact absurd y1 q2
      · rw [y4]
        refine And.intro (fun _ => ?_) (fun h_9 => absurd (nI_lt (by omega) (by omega)) h_9)
        exact at68 _
      · rw [y4]
        refine And.intro (fun h_9 => absurd h_9 (nI_nlt (by omega) (by omega))) (fun _ => ?_)
        refine And.intro (fun h_9 => absurd h_9 (nI_nlt (by omega) (by omega))) (fun _ => ?_)
        exact at68 _
      · rw [y4]
        refine And.intro (fun _ => ?_) (fun h_9 => absurd ((by decide)) h_9)
        exact at68 _
  | inr p3 =>
  rw [bnd_r e2] at hO
  obtain ⟨d1, d2, d3, d4, d5⟩ := qWh_r b4 e2
  refine And.intro (fun _ => ?_) (fun h_9 => absurd h_9 ((by rw [d2]; decide)))
  (refine Exists.intro 0 ?_; refine ⟨0, _, Nat.zero_le _, Nat.zero_le _, k_find (tV T p2) _ _ hS (tk_vd b4 d5) (a2.2.2.2.1 d5) rfl rfl j3 j4 rfl u3 u4 u5 hNu, ?_⟩; refine ab_q1_elim ?_)
  obtain ⟨j, y2, y3, y4⟩ : ∃ j, j < sW S ∧ soJ (sLo S (tV T p2)) = j ∧ fiV (sLo S (tV T p2)) = nI (4 + j) := by
    rcases fi_lt4 (c := tV T p2) hS with ⟨y1, y⟩ | ⟨y1, y⟩ | ⟨y1, y⟩ | ⟨y1, y⟩
    · exact y
    · omega
    · omega
    · omega
  rw [y4]
  refine And.intro (fun h_9 => absurd h_9 (nI_nlt (by omega) (by omega))) (fun _ => ?_)
  refine And.intro (fun _ => ?_) (fun h_9 => absurd (nI_lt (by omega) (by omega)) h_9)
  (refine Exists.intro 0 ?_; refine ⟨0, _, Nat.zero_le _, Nat.zero_le _, k_mgo T p2 _ _ hL hM b4 (by omega) (by omega) rfl rfl (fr3 g12 h3) (fr4 g12 h4) a2, ?_⟩; rintro _ _ _ ⟨rfl, rfl, s3, wd3, rfl, g3, a3⟩)
  rw [← d1] at a3
  have g123 := g12.trans (fgo_fmr g3)
  (refine Exists.intro 0 ?_; refine ⟨0, _, Nat.zero_le _, Nat.zero_le _, k_Mod_isSign T p3 45 _ _ rfl (by omega) d4 rfl a3, ?_⟩; refine ab_q1_elim ?_)
  have m4 := qMin_le d4
  have at93 : ∀ (s4 : Nat → Int32) (wd4 : Int64) (w4 : ab_W), w4 = va_up (va_up (va_up (va_up (va_up (va_up (va_up (va_up w 102 (aI 16 f12)) 101 (aI 16 f11)) 95 (aI 2 f5)) 92 (aJ 24 f2)) 91 (aI 640 (tB T))) 90 (oMod s wd tn)) 92 (aJ 24 (vp_updL f2 (16 + sP S) (lN (cv (tV T (tX T p))))))) 90 (oMod s4 wd4 tn) → Fr FMr s s4 → AtM T (qMin T p3) s4 wd4 → ab_Ev X l i_Mod_readPen 93 [some (.ref 90), some (.int (nI (4 + j))), some (.int (b01 (tkS T p3 45)))] [] w4 n 0 0 (mrQ T K0 a0 b0 c0 (va_up (va_up (va_up (va_up (va_up (va_up w 102 (aI 16 f12)) 101 (aI 16 f11)) 95 (aI 2 f5)) 92 (aJ 24 f2)) 91 (aI 640 (tB T))) 90 (oMod s wd tn)) n s tn O) := by
    intro s4 wd4 w4 hw4 g4 a4
    subst hw4
    refine ab_sound ok_181 [] 80 ?_
    cases e3 : qNum T 0 200 (qMin T p3) with
    | inl e =>
      obtain ⟨k, pl⟩ := e
      rw [bnd_l e3] at hO
      (refine Exists.intro 0 ?_; refine ⟨0, _, Nat.zero_le _, Nat.zero_le _, k_readNumber_n T 0 200 (qMin T p3) k pl _ _ e3 rfl rfl (by omega) (by omega) m4 rfl a4, ?_⟩; refine ab_q1_elim ?_)
      refine And.intro (fun h_9 => absurd (rfl) h_9) (fun _ => ?_)
      exact ⟨rfl, mrQ_l hO (((Fr.refl.up (by unfold FMk; omega)).up (Or.inl rfl)).up (Or.inl rfl)) rfl g4 hJs.u92.u90.u90⟩
    | inr p4 =>
    rw [bnd_r e3] at hO
    obtain ⟨c1, c2, c3, c4, c5⟩ := qNum_r m4 e3
    (refine Exists.intro 0 ?_; refine ⟨0, _, Nat.zero_le _, Nat.zero_le _, k_readNumber_y T 0 200 (qMin T p3) p4 _ _ e3 rfl rfl (by omega) (by omega) hL hM m4 rfl rfl (fr3 g4 h3) (fr4 g4 h4) a4, ?_⟩; rintro _ _ _ ⟨rfl, rfl, s5, wd5, rfl, g5, a5, t5⟩)
    refine And.intro (fun _ => ?_) (fun h_9 => absurd h_9 ((by decide)))
    refine And.intro (vp_in_nI (show 1 < 2 by omega) (by omega)) ?_
    rw [nI_clamp (by omega), u5]
    refine And.intro ((by rw [nI_add]; exact vp_in_nI (show 8 + sP S < 16 by omega) (by omega))) ?_
    rw [nI_add, nI_clamp (by omega)]
    refine And.intro (vp_in_nI (show 1 < 2 by omega) (by omega)) ?_
    rw [nI_clamp (by omega), u5]
    have hN2 := NmM_ad (S2 := adP S (tV T (tX T p)) (soJ (sLo S (tV T p2))) (sgI (tkS T p3 45) (tV T (qMin T p3)))) (s := 2) hN hS ((lo_none hS.2.2.2.2).mp b3) (Or.inr (Or.inr ⟨rfl, by omega, rfl, rfl, rfl⟩)) rfl
    rw [off2] at hN2
    have sb : nI (4 + j) - nI 4 = nI (soJ (sLo S (tV T p2))) := by rw [pk_sub (by omega), y3]; congr 1; omega
    cases cs : tkS T p3 45
    · refine And.intro (fun _ => ?_) (fun h_9 => absurd (rfl) h_9)
      refine And.intro ((by rw [nI_add]; exact vp_in_nI (show 8 + sP S < 16 by omega) (by omega))) ?_
      rw [nI_add, nI_clamp (by omega)]
      refine And.intro (vp_in_nI (show 1 < 2 by omega) (by omega)) ?_
      refine And.intro (vp_in_nI (show 1 < 2 by omega) (by omega)) ?_
      rw [nI_clamp (by omega), u5]
      refine ⟨rfl, mrQ_r hO ((((((Fr.refl.up (by unfold FMk; omega)).up (Or.inl rfl)).up (Or.inl rfl)).up (by unfold FMk; omega)).up (by unfold FMk; omega)).up (by unfold FMk; omega)) rfl (g4.trans g5) a5 ⟨⟨_, rfl, hN2⟩, ⟨f3, j3, l3, u3⟩, ⟨f4, j4, l4, u4⟩, ⟨_, rfl, ?_, ?_⟩, j6, j7, j8, j9, j10, ⟨_, rfl, ?_, up_of (F := nI) u11 sb⟩, ⟨_, rfl, ?_, up_of (F := id) u12 ?_⟩, j13, j14, j15, j16⟩⟩
      · rw [upd_ne (by omega), l5]
      · rw [upd_at]
        exact (nI_s (sP S)).symm
      · intro v hv
        rw [upd_ne (by omega)]; exact l11 v hv
      · intro v hv
        rw [upd_ne (by omega)]; exact l12 v hv
      · show s5 13 = Int32.ofInt (sgI (tkS T p3 45) (tV T (qMin T p3)))
        rw [← sgI_32, cs, if_neg (by decide), t5]
    · refine And.intro (fun h_9 => absurd h_9 ((by decide))) (fun _ => ?_)
      refine And.intro ((by rw [nI_add]; exact vp_in_nI (show 8 + sP S < 16 by omega) (by omega))) ?_
      rw [nI_add, nI_clamp (by omega)]
      refine And.intro (vp_in_nI (show 1 < 2 by omega) (by omega)) ?_
      refine And.intro (vp_in_nI (show 1 < 2 by omega) (by omega)) ?_
      rw [nI_clamp (by omega), u5]
      refine ⟨rfl, mrQ_r hO ((((((Fr.refl.up (by unfold FMk; omega)).up (Or.inl rfl)).up (Or.inl rfl)).up (by unfold FMk; omega)).up (by unfold FMk; omega)).up (by unfold FMk; omega)) rfl (g4.trans g5) a5 ⟨⟨_, rfl, hN2⟩, ⟨f3, j3, l3, u3⟩, ⟨f4, j4, l4, u4⟩, ⟨_, rfl, ?_, ?_⟩, j6, j7, j8, j9, j10, ⟨_, rfl, ?_, up_of (F := nI) u11 sb⟩, ⟨_, rfl, ?_, up_of (F := id) u12 ?_⟩, j13, j14, j15, j16⟩⟩
      · rw [upd_ne (by omega), l5]
      · rw [upd_at]
        exact (nI_s (sP S)).symm
      · intro v hv
        rw [upd_ne (by omega)]; exact l11 v hv
      · intro v hv
        rw [upd_ne (by omega)]; exact l12 v hv
      · show -s5 13 = Int32.ofInt (sgI (tkS T p3 45) (tV T (qMin T p3)))
        rw [← sgI_32, cs, if_pos rfl, t5]
  have W4 : ∀ (A B C D : va_E) (w9 : ab_W), va_up (va_up (va_up (va_up w9 90 A) 92 B) 90 C) 90 D = va_up (va_up w9 92 B) 90 D := fun A B C D w9 => by
    rw [va_uu, va_uc (j := 92) (k := 90) (by omega), va_uu, ← va_uc (by omega)]
  cases cs : tkS T p3 45
  · refine And.intro (fun _ => ?_) (fun h_9 => absurd (rfl) h_9)
    rw [cs] at at93
    refine ab_ev_of (at93 s3 wd3 _ ?_ g123 (by unfold qMin; rw [if_neg (by rw [cs]; decide)]; exact a3)) rfl rfl rfl
    rw [W4]
  · refine And.intro (fun h_9 => absurd h_9 ((by decide))) (fun _ => ?_)
    rw [cs] at at93
    have k9 := (tkS_k cs).1
    (refine Exists.intro 0 ?_; refine ⟨0, _, Nat.zero_le _, Nat.zero_le _, k_mgo T p3 _ _ hL hM d4 (by omega) (by omega) rfl rfl (fr3 g123 h3) (fr4 g123 h4) a3, ?_⟩; rintro _ _ _ ⟨rfl, rfl, s4, wd4, rfl, g4, a4⟩)
    refine ab_ev_of (at93 s4 wd4 _ ?_ (g123.trans (fgo_fmr g4)) (by unfold qMin; rw [if_pos cs]; exact a4)) rfl rfl rfl
    rw [va_uu, W4]
end MLINES

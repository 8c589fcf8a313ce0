/-! a wheel's line read by the model, from its beginning -/
section MRWHEEL2
variable {X : ab_X} {l : Launch}
theorem k_mw232 (T : TE) (c t p4 : Nat) (i : Bool) (o : Option (Nat × Nat)) (w w1 : ab_W) (n : Nat) {S : KS} {s0 s : Nat → Int32} {wd tn : Int64} {K0 : KA} {a0 b0 c0 : Nat} {O : Out} {f2 : Nat → Int64} {f10 : Nat → Int32} (hO : (bnd (qAt T (tX T p4)) fun p6 => if tkS T p6 59 = true then (if sO S o t i (atU T (tX T p4)) (atL T (tX T p4)) = true then .inr (p6, adW S c t i o (atU T (tX T p4)) (atL T (tX T p4))) else .inl (5, tP T p6)) else .inl (1, tP T p6)) = O) (hS : KSok S) (hb0 : b0 ≤ 12) (h12 : sW S < 12) (hb : BsOk S o) (ht : 3 ≤ t ∧ t ≤ 200) (hL : tL T ≤ 640) (hM : tM T ≤ 640) (hp : p4 ≤ tL T) (hk : tK T p4 = 2) (fr : Fr FMk w w1) (frs : Fr FMr s0 s) (h3 : s0 3 = nI (tL T)) (h4 : s0 4 = nI (tM T)) (h90 : w1 90 = oMod s wd tn) (h91 : w1 91 = aI 640 (tB T)) (hA : AtM T p4 s wd) (hJ : MJr w1 K0 a0 b0 c0 S) (h92 : w1 92 = aJ 24 f2) (hN : NmM (adW S c 0 false none 0 1) f2) (h100 : w1 100 = aI 24 f10) (e10 : f10 (12 + sW S) = nI (bH S o)) :
    ab_Ev X l i_Mod_readWheel 232 [some (.ref 90), some (.int (nI (12 + sW S))), some (.int (nI t)), some (.int (b01 i)), some (.int (nI (bsN o))), some (.int (b01 (onR o))), some (.int (nI (bT S o)))] [] w1 n 0 0 (mrQ T K0 a0 b0 c0 w n s0 tn O) := by
  have k5 := (tX_le hp (by omega) (by omega)).2
  have hJ2 := hJ
  obtain ⟨m93, m94, m95, m96, m97, m98, m99, m100, m101, m102, ⟨g3, h103, _⟩, ⟨g4, h104, _⟩, m105, m106⟩ := hJ2
  have d267 := fun (lo p6 : Nat) (u : Int) (w9 : ab_W) (s9 : Nat → Int32) (wd9 : Int64) (q3 q4 : Nat → Int64) => k_mw267 (X := X) (l := l) T c t lo p6 i o u w w9 n (S := S) (s0 := s0) (s := s9) (wd := wd9) (tn := tn) (K0 := K0) (a0 := a0) (b0 := b0) (c0 := c0) (O := O) (f2 := f2) (g3 := q3) (g4 := q4) (f10 := f10)
  obtain ⟨w1, rfl⟩ : ∃ w0, w1 = va_up (va_up (va_up (va_up w0 104 (aJ 24 g4)) 103 (aJ 24 g3)) 91 (aI 640 (tB T))) 90 (oMod s wd tn) := ⟨w1, by rw [← va_self h104, ← va_self h103, ← va_self h91, ← va_self h90]⟩
  have h92w : w1 92 = aJ 24 f2 := h92
  have h100w : w1 100 = aI 24 f10 := h100
  refine ab_sound ok_176 [267] 80 ?_
  (refine Exists.intro 0 ?_; refine ⟨0, _, Nat.zero_le _, Nat.zero_le _, k_mgo T p4 _ _ hL hM hp (by omega) (by omega) rfl rfl (fr3 frs h3) (fr4 frs h4) hA, ?_⟩; rintro _ _ _ ⟨rfl, rfl, s1, wd1, rfl, g1, a1⟩)
  have g1 := frs.trans (fgo_fmr g1)
  refine And.intro (vp_in_nI (show 12 + sW S < 24 by omega) (by omega)) ?_
  rw [nI_clamp (by omega)]
  refine And.intro (vp_in_nI (show 12 + sW S < 24 by omega) (by omega)) ?_
  rw [nI_clamp (by omega)]
  have hJ3 := ((hJ.u90 (x := oMod s1 wd1 tn)).u103 (f := g3) (x := lN 1) hb0 rfl).u104 (f := g4) (x := lN 1) hb0 rfl
  have frw := ((fr.up (k := 90) (c := oMod s1 wd1 tn) (Or.inl rfl)).up (k := 103) (c := aJ 24 (vp_updL g3 (12 + sW S) (lN 1))) (by unfold FMk; omega)).up (k := 104) (c := aJ 24 (vp_updL g4 (12 + sW S) (lN 1))) (by unfold FMk; omega)
  (refine Exists.intro 0 ?_; refine ⟨0, _, Nat.zero_le _, Nat.zero_le _, k_Mod_isAt T (tX T p4) _ _ k5 rfl a1, ?_⟩; refine ab_q1_elim ?_)
  cases e5 : tkW T (tX T p4) 5
  · have e6 : qAt T (tX T p4) = .inr (tX T p4) := by unfold qAt; rw [if_neg (by rw [e5]; decide)]
    have u1 : atU T (tX T p4) = 1 := by unfold atU; rw [if_neg (by rw [e5]; decide)]
    have u2 : atL T (tX T p4) = 1 := by unfold atL; rw [if_neg (by rw [e5]; decide)]
    rw [bnd_r e6, u1, u2] at hO
    refine And.intro (fun _ => ?_) (fun h_9 => absurd (rfl) h_9)
    exact d267 1 (tX T p4) 1 _ s1 wd1 _ _ hO hS hb0 h12 hb ht (by omega) (by omega) (by omega) k5 frw g1 rfl a1 hJ3 h92w hN h100w e10 rfl (by rw [pk_uLs]; decide +kernel) rfl (by rw [pk_uLs]; decide +kernel)
  · refine And.intro (fun h_9 => absurd h_9 ((by decide))) (fun _ => ?_)
    (refine Exists.intro 0 ?_; refine ⟨0, _, Nat.zero_le _, Nat.zero_le _, k_readSpeed T (12 + sW S) (tX T p4) _ _ (by omega) e5 hL hM k5 rfl rfl (fr3 g1 h3) (fr4 g1 h4) a1 rfl rfl, ?_⟩; rintro _ w2 _ ⟨b, rfl, rfl, s2, wd2, g2, hl, hr⟩)
    have g12 := g1.trans g2
    cases e6 : qAt T (tX T p4) with
    | inl e =>
      obtain ⟨k, pl⟩ := e
      rw [bnd_l e6] at hO
      obtain ⟨rfl, rfl⟩ := hl _ e6
      refine And.intro (fun h_9 => absurd (rfl) h_9) (fun _ => ?_)
      exact ⟨rfl, mrQ_l hO (frw.up (Or.inl rfl)) rfl g12 (hJ3.sh ⟨f2, h92w⟩).u90⟩
    | inr p6 =>
      rw [bnd_r e6] at hO
      obtain ⟨rfl, a2, rfl⟩ := hr _ e6
      obtain ⟨q1, q2, q3, q4⟩ := qAt_ok k5 e6
      refine And.intro (fun _ => ?_) (fun h_9 => absurd h_9 ((by decide)))
      have hJ4 := ((hJ3.u90 (x := oMod s2 wd2 tn)).u103 (f := vp_updL g3 (12 + sW S) (lN 1)) (x := (Int32.ofInt (arU (atU T (tX T p4)) (atL T (tX T p4)))).toInt64) hb0 rfl).u104 (f := vp_updL g4 (12 + sW S) (lN 1)) (x := (nI (arL (atU T (tX T p4)) (atL T (tX T p4)))).toInt64) hb0 rfl
      exact d267 (atL T (tX T p4)) p6 (atU T (tX T p4)) _ s2 wd2 _ _ hO hS hb0 h12 hb ht q1 q2 q3 q4 (((frw.up (Or.inl rfl)).up (by unfold FMk; omega)).up (by unfold FMk; omega)) g12 rfl a2 hJ4 h92w hN h100w e10 rfl pk_uLs rfl pk_uLs
theorem k_mw127 (T : TE) (c t p4 : Nat) (i : Bool) (o : Option (Nat × Nat)) (w w1 : ab_W) (n : Nat) {S : KS} {s0 s : Nat → Int32} {wd tn : Int64} {K0 : KA} {a0 b0 c0 : Nat} {O : Out} {f2 : Nat → Int64} (hO : (bnd (if i = true ∧ bT S o ≤ t then .inl (2, tP T p4) else if 4 < bH S o then .inl (4, tP T p4) else .inr (tX T p4)) fun p5 => bnd (qAt T p5) fun p6 => if tkS T p6 59 = true then (if sO S o t i (atU T p5) (atL T p5) = true then .inr (p6, adW S c t i o (atU T p5) (atL T p5)) else .inl (5, tP T p6)) else .inl (1, tP T p6)) = O) (hS : KSok S) (hb0 : b0 ≤ 12) (h12 : sW S < 12) (hb : BsOk S o) (ht : 3 ≤ t ∧ t ≤ 200) (hL : tL T ≤ 640) (hM : tM T ≤ 640) (hp : p4 ≤ tL T) (hk : tK T p4 = 2) (fr : Fr FMk w w1) (frs : Fr FMr s0 s) (h3 : s0 3 = nI (tL T)) (h4 : s0 4 = nI (tM T)) (h90 : w1 90 = oMod s wd tn) (h91 : w1 91 = aI 640 (tB T)) (hA : AtM T p4 s wd) (hJ : MJr w1 K0 a0 b0 c0 S) (h92 : w1 92 = aJ 24 f2) (hN : NmM (adW S c 0 false none 0 1) f2) :
    ab_Ev X l i_Mod_readWheel 127 [some (.ref 90), some (.int (nI (12 + sW S))), some (.int (nI t)), some (.int (b01 i)), some (.int (nI (bsN o))), none, none] [] w1 n 0 0 (mrQ T K0 a0 b0 c0 w n s0 tn O) := by
  have hJ2 := hJ
  have tb := bT_bd hS hb
  have th := bH_bd hS hb
  have hr := hS.1
  obtain ⟨m93, m94, m95, ⟨f6, h96, u6⟩, ⟨f7, h97, u7⟩, m98, m99, ⟨f10, h100, u10⟩, m101, m102, m103, m104, m105, m106⟩ := hJ2
  have d232 := fun (w9 : ab_W) (f9 : Nat → Int32) => k_mw232 (X := X) (l := l) T c t p4 i o w w9 n (S := S) (s0 := s0) (s := s) (wd := wd) (tn := tn) (K0 := K0) (a0 := a0) (b0 := b0) (c0 := c0) (O := O) (f2 := f2) (f10 := f9)
  obtain ⟨w1, rfl⟩ : ∃ w0, w1 = va_up (va_up (va_up (va_up (va_up w0 100 (aI 24 f10)) 97 (aI 24 f7)) 96 (aI 8 f6)) 91 (aI 640 (tB T))) 90 (oMod s wd tn) := ⟨w1, by rw [← va_self h100, ← va_self h97, ← va_self h96, ← va_self h91, ← va_self h90]⟩
  have h92w : w1 92 = aJ 24 f2 := h92
  have at215 : ¬ (i = true ∧ bT S o ≤ t) → ab_Ev X l i_Mod_readWheel 215 [some (.ref 90), some (.int (nI (12 + sW S))), some (.int (nI t)), some (.int (b01 i)), some (.int (nI (bsN o))), some (.int (b01 (onR o))), some (.int (nI (bT S o)))] [.int (nI (bH S o)), .int (nI (12 + sW S)), .ref 100] (va_up (va_up (va_up (va_up (va_up w1 100 (aI 24 f10)) 97 (aI 24 f7)) 96 (aI 8 f6)) 91 (aI 640 (tB T))) 90 (oMod s wd tn)) n 0 0 (mrQ T K0 a0 b0 c0 w n s0 tn O) := by
    intro hn
    rw [if_neg hn] at hO
    have hJ3 := hJ.u100 (f := f10) (x := nI (bH S o)) rfl
    have fr3 := fr.up (k := 100) (c := aI 24 (upd f10 (12 + sW S) (nI (bH S o)))) (by unfold FMk; omega)
    refine ab_sound ok_176 [232] 80 ?_
    refine And.intro (vp_in_nI (show 12 + sW S < 24 by omega) (by omega)) ?_
    rw [nI_clamp (by omega)]
    refine And.intro (vp_in_nI (show 12 + sW S < 24 by omega) (by omega)) ?_
    rw [nI_clamp (by omega), upd_at]
    by_cases c4 : 4 < bH S o
    · rw [if_pos c4, bnd_l rfl] at hO
      refine And.intro (fun h_9 => absurd h_9 (nI_ge c4 (by omega))) (fun _ => ?_)
      (refine Exists.intro 0 ?_; refine ⟨0, _, Nat.zero_le _, Nat.zero_le _, k_bad T p4 4 _ _ rfl (Or.inr ⟨by omega, by omega⟩) rfl hA, ?_⟩; refine ab_q1_elim ?_)
      exact ⟨rfl, mrQ_l hO (fr3.up (Or.inl rfl)) rfl frs (hJ3.sh ⟨f2, h92w⟩).u90⟩
    · rw [if_neg c4, bnd_r rfl] at hO
      refine And.intro (fun _ => ?_) (fun h_9 => absurd (nI_le (by omega) (by omega)) h_9)
      exact d232 _ _ hO hS hb0 h12 hb ht hL hM hp hk fr3 frs h3 h4 rfl rfl hA hJ3 h92w hN rfl upd_at
  have at187 : ¬ (i = true ∧ bT S o ≤ t) → ab_Ev X l i_Mod_readWheel 187 [some (.ref 90), some (.int (nI (12 + sW S))), some (.int (nI t)), some (.int (b01 i)), some (.int (nI (bsN o))), some (.int (b01 (onR o))), some (.int (nI (bT S o)))] [] (va_up (va_up (va_up (va_up (va_up w1 100 (aI 24 f10)) 97 (aI 24 f7)) 96 (aI 8 f6)) 91 (aI 640 (tB T))) 90 (oMod s wd tn)) n 0 0 (mrQ T K0 a0 b0 c0 w n s0 tn O) := by
    intro hn
    have a215 := at215 hn
    refine ab_sound ok_176 [215] 80 ?_
    rcases hb with ⟨b1, b2⟩ | ⟨b1, b2⟩
    · have hon : onR o = true := decide_eq_true b1
      have hh : bH S o = 1 := by unfold bH; rw [if_pos b1]
      rw [hon, hh] at a215
      refine And.intro (fun h_9 => absurd h_9 ((by rw [hon]; decide))) (fun _ => ?_)
      rw [hon]
      exact a215
    · have hon : onR o = false := decide_eq_false (by omega)
      have hbn : bsN o = 4 + soJ o := by unfold bsN; rw [if_neg (by omega)]
      have hh : nI (bH S o) = f10 (12 + soJ o) + nI 1 := by unfold bH; rw [if_neg (by omega), u10 _ b2, nI_s]
      have ix : nI 12 + nI (bsN o) - nI 4 = nI (12 + soJ o) := by rw [nI_add, pk_sub (by omega), hbn]; congr 1; omega
      rw [hon, hh] at a215
      refine And.intro (fun _ => ?_) (fun h_9 => absurd ((by rw [hon]; rfl)) h_9)
      refine And.intro ((by rw [ix]; exact vp_in_nI (show 12 + soJ o < 24 by omega) (by omega))) ?_
      rw [ix, nI_clamp (by omega), hon]
      exact a215
  have at169 : ab_Ev X l i_Mod_readWheel 169 [some (.ref 90), some (.int (nI (12 + sW S))), some (.int (nI t)), some (.int (b01 i)), some (.int (nI (bsN o))), some (.int (b01 (onR o))), none] [.int (nI (bT S o))] (va_up (va_up (va_up (va_up (va_up w1 100 (aI 24 f10)) 97 (aI 24 f7)) 96 (aI 8 f6)) 91 (aI 640 (tB T))) 90 (oMod s wd tn)) n 0 0 (mrQ T K0 a0 b0 c0 w n s0 tn O) := by
    refine ab_sound ok_176 [187] 80 ?_
    cases i
    · refine And.intro (fun _ => ?_) (fun h_9 => absurd (rfl) h_9)
      exact at187 (fun z => absurd z.1 (by decide))
    · refine And.intro (fun h_9 => absurd h_9 ((by decide))) (fun _ => ?_)
      by_cases c2 : bT S o ≤ t
      · refine And.intro (fun h_9 => absurd h_9 (nI_nlt c2 (by omega))) (fun _ => ?_)
        rw [if_pos ⟨rfl, c2⟩, bnd_l rfl] at hO
        (refine Exists.intro 0 ?_; refine ⟨0, _, Nat.zero_le _, Nat.zero_le _, k_bad T p4 2 _ _ rfl (Or.inr ⟨by omega, by omega⟩) rfl hA, ?_⟩; refine ab_q1_elim ?_)
        exact ⟨rfl, mrQ_l hO (fr.up (Or.inl rfl)) rfl frs (hJ.sh ⟨f2, h92w⟩).u90⟩
      · refine And.intro (fun _ => ?_) (fun h_9 => absurd (nI_lt (by omega) (by omega)) h_9)
        exact at187 (fun z => c2 z.2)
  have at138 : ab_Ev X l i_Mod_readWheel 138 [some (.ref 90), some (.int (nI (12 + sW S))), some (.int (nI t)), some (.int (b01 i)), some (.int (nI (bsN o))), none, none] [.int (b01 (onR o))] (va_up (va_up (va_up (va_up (va_up w1 100 (aI 24 f10)) 97 (aI 24 f7)) 96 (aI 8 f6)) 91 (aI 640 (tB T))) 90 (oMod s wd tn)) n 0 0 (mrQ T K0 a0 b0 c0 w n s0 tn O) := by
    refine ab_sound ok_176 [169] 80 ?_
    rcases hb with ⟨b1, b2⟩ | ⟨b1, b2⟩
    · have hon : onR o = true := decide_eq_true b1
      have hbn : bsN o = soJ o := by unfold bsN; rw [if_pos b1]
      have hh : nI (bT S o) = f6 (4 + soJ o) := by unfold bT; rw [if_pos b1, u6 _ b2]
      rw [hon, hh] at at169
      refine And.intro (fun h_9 => absurd h_9 ((by rw [hon]; decide))) (fun _ => ?_)
      refine And.intro ((by rw [nI_add, hbn]; exact vp_in_nI (show 4 + soJ o < 8 by omega) (by omega))) ?_
      rw [nI_add, nI_clamp (by omega), hon]
      rw [← hbn] at at169
      exact at169
    · have hon : onR o = false := decide_eq_false (by omega)
      have hbn : bsN o = 4 + soJ o := by unfold bsN; rw [if_neg (by omega)]
      have hh : nI (bT S o) = f7 (12 + soJ o) := by unfold bT; rw [if_neg (by omega), u7 _ b2]
      have ix : nI 12 + nI (bsN o) - nI 4 = nI (12 + soJ o) := by rw [nI_add, pk_sub (by omega), hbn]; congr 1; omega
      rw [hon, hh] at at169
      refine And.intro (fun _ => ?_) (fun h_9 => absurd ((by rw [hon]; rfl)) h_9)
      refine And.intro ((by rw [ix]; exact vp_in_nI (show 12 + soJ o < 24 by omega) (by omega))) ?_
      rw [ix, nI_clamp (by omega), hon]
      exact at169
  refine ab_sound ok_176 [138] 80 ?_
  rcases hb with ⟨b1, b2⟩ | ⟨b1, b2⟩
  · have hon : onR o = true := decide_eq_true b1
    have hbn : bsN o = soJ o := by unfold bsN; rw [if_pos b1]
    rw [hon] at at138
    refine And.intro (fun h_9 => absurd h_9 (nI_ge (by rw [hbn]; omega) (by omega))) (fun _ => ?_)
    exact at138
  · have hon : onR o = false := decide_eq_false (by omega)
    have hbn : bsN o = 4 + soJ o := by unfold bsN; rw [if_neg (by omega)]
    rw [hon] at at138
    refine And.intro (fun _ => ?_) (fun h_9 => absurd (nI_le (by rw [hbn]; omega) (by rw [hbn]; omega)) h_9)
    exact at138
theorem k_mReadWheel (T : TE) (p : Nat) (w : ab_W) (n : Nat) {S : KS} {s : Nat → Int32} {wd tn : Int64} {K0 : KA} {a0 b0 c0 : Nat} (hk : tkW T p 1 = true) (hb0 : b0 ≤ 12) (hS : KSok S) (hL : tL T ≤ 640) (hM : tM T ≤ 640) (hp : p ≤ tL T) (h90 : w 90 = oMod s wd tn) (h91 : w 91 = aI 640 (tB T)) (h3 : s 3 = nI (tL T)) (h4 : s 4 = nI (tM T)) (hA : AtM T p s wd) (hJ : MJ w K0 a0 b0 c0 S) :
    ab_C X l i_Mod_readWheel [.ref 90] w n 0 0 (mrQ T K0 a0 b0 c0 w n s tn (rdW' T S p)) := by
  have kk := (tkW_k hk).1
  have k1 := (tX_le hp (by omega) (by omega)).2
  have hr := hS.1
  have hJs := hJ.sh
  have hJr : MJr w K0 a0 b0 c0 S := hJ.2
  obtain ⟨⟨f2, j2, hN⟩, ⟨f3, j3, l3, u3⟩, ⟨f4, j4, l4, u4⟩, ⟨f5, j5, l5, u5⟩, _⟩ := hJ
  generalize hO : rdW' T S p = O
  unfold rdW' at hO
  have d127 := fun (c t p4 : Nat) (i : Bool) (o : Option (Nat × Nat)) (w9 : ab_W) (s9 : Nat → Int32) (wd9 : Int64) (q2 : Nat → Int64) => k_mw127 (X := X) (l := l) T c t p4 i o w w9 n (S := S) (s0 := s) (s := s9) (wd := wd9) (tn := tn) (K0 := K0) (a0 := a0) (b0 := b0) (c0 := c0) (O := O) (f2 := q2)
  obtain ⟨w, rfl⟩ : ∃ w0, w = va_up (va_up (va_up (va_up w0 94 (aI 2 f4)) 92 (aJ 24 f2)) 91 (aI 640 (tB T))) 90 (oMod s wd tn) := ⟨w, by rw [← va_self j4, ← va_self j2, ← va_self h91, ← va_self h90]⟩
  have j3 : w 93 = aI 2 f3 := j3
  have j5 : w 95 = aI 2 f5 := j5
  refine ab_met cd_176 om_176 rfl (by rintro _ _ _ ⟨b, rfl, -⟩; trivial) (ab_sound ok_176 [86, 121, 127] 120 ?_)
  refine And.intro (vp_in_nI (show 1 < 2 by omega) (by omega)) ?_
  rw [nI_clamp (by omega), u4]
  refine And.intro (vp_in_nI (show 1 < 2 by omega) (by omega)) ?_
  rw [nI_clamp (by omega), u4]
  by_cases c : 12 ≤ sW S
  · refine And.intro (fun h_9 => absurd ((by rw [show sW S = 12 by omega])) h_9) (fun _ => ?_)
    (refine Exists.intro 0 ?_; refine ⟨0, _, Nat.zero_le _, Nat.zero_le _, k_bad T p 4 _ _ rfl (Or.inr ⟨by omega, by omega⟩) rfl hA, ?_⟩; refine ab_q1_elim ?_)
    rw [if_pos c] at hO
    exact ⟨rfl, mrQ_l hO (Fr.refl.up (Or.inl rfl)) rfl Fr.refl hJs.u90⟩
  refine And.intro (fun _ => ?_) (fun h_9 => absurd h_9 ((fun z => by rw [nI_eq (by omega) (by omega)] at z; omega)))
  rw [if_neg c] at hO
  (refine Exists.intro 0 ?_; refine ⟨0, _, Nat.zero_le _, Nat.zero_le _, k_mgo T p _ _ hL hM hp (by omega) (by omega) rfl rfl h3 h4 hA, ?_⟩; rintro _ _ _ ⟨rfl, rfl, s1, wd1, rfl, g1, a1⟩)
  have g1 := fgo_fmr g1
  refine And.intro (vp_in_nI (show 1 < 2 by omega) (by omega)) ?_
  rw [nI_clamp (by omega), u4]
  cases e1 : qNew T S (tX T p) with
  | inl e =>
    obtain ⟨k, pl⟩ := e
    rw [bnd_l e1] at hO
    (refine Exists.intro 0 ?_; refine ⟨0, _, Nat.zero_le _, Nat.zero_le _, k_readNew_n T (4 + sW S) (tX T p) k pl _ _ e1 (nI_add _ _) hS k1 rfl a1 rfl j3 rfl j5 u3 u4 u5 hN, ?_⟩; refine ab_q1_elim ?_)
    refine And.intro (fun _ => ?_) (fun h_9 => absurd (rfl) h_9)
    exact ⟨rfl, mrQ_l hO ((Fr.refl.up (Or.inl rfl)).up (Or.inl rfl)) rfl g1 hJs.u90.u90⟩
  | inr p2 =>
  rw [bnd_r e1] at hO
  obtain ⟨b1, b2, b3, b4, b5⟩ := qNew_r k1 e1
  (refine Exists.intro 0 ?_; refine ⟨0, _, Nat.zero_le _, Nat.zero_le _, k_readNew_y T (4 + sW S) (tX T p) p2 _ _ e1 (nI_add _ _) (by omega) hS hL hM k1 rfl rfl (fr3 g1 h3) (fr4 g1 h4) a1 rfl j3 rfl j5 u3 u4 u5 hN, ?_⟩; rintro _ _ _ ⟨rfl, rfl, s2, wd2, rfl, g2, a2⟩)
  refine And.intro (fun h_9 => absurd h_9 ((by decide))) (fun _ => ?_)
  have g12 := g1.trans g2
  have hNu := NmM_up (v := lN (cv (tV T (tX T p)))) (s := 1) hN hS (Or.inr (Or.inl ⟨rfl, by omega⟩))
  rw [off1] at hNu
  have hN2 := NmM_ad (S2 := adW S (tV T (tX T p)) 0 false none 0 1) (s := 1) hN hS ((lo_none hS.2.2.2.2).mp b3) (Or.inr (Or.inl ⟨rfl, by omega, rfl, rfl, rfl⟩)) rfl
  rw [off1] at hN2
  cases e2 : qNum T 3 200 p2 with
  | inl e =>
    obtain ⟨k, pl⟩ := e
    rw [bnd_l e2] at hO
    (refine Exists.intro 0 ?_; refine ⟨0, _, Nat.zero_le _, Nat.zero_le _, k_readNumber_n T 3 200 p2 k pl _ _ e2 rfl rfl (by omega) (by omega) b4 rfl a2, ?_⟩; refine ab_q1_elim ?_)
    refine And.intro (fun h_9 => absurd (rfl) h_9) (fun _ => ?_)
    exact ⟨rfl, mrQ_l hO ((((Fr.refl.up (Or.inl rfl)).up (by unfold FMk; omega)).up (Or.inl rfl)).up (Or.inl rfl)) rfl g12 hJs.u90.u92.u90.u90⟩
  | inr p3 =>
  rw [bnd_r e2] at hO
  obtain ⟨c1, c2, c3, c4, c5⟩ := qNum_r b4 e2
  (refine Exists.intro 0 ?_; refine ⟨0, _, Nat.zero_le _, Nat.zero_le _, k_readNumber_y T 3 200 p2 p3 _ _ e2 rfl rfl (by omega) (by omega) hL hM b4 rfl rfl (fr3 g12 h3) (fr4 g12 h4) a2, ?_⟩; rintro _ _ _ ⟨rfl, rfl, s3, wd3, rfl, g3, a3, t3⟩)
  refine And.intro (fun _ => ?_) (fun h_9 => absurd h_9 ((by decide)))
  have g13 := g12.trans g3
  (refine Exists.intro 0 ?_; refine ⟨0, _, Nat.zero_le _, Nat.zero_le _, k_Mod_isInside T p3 _ _ c5 rfl a3, ?_⟩; refine ab_q1_elim ?_)
  have at86 : qIO T p3 = .inr (tX T p3) → tX T p3 ≤ tL T → tK T p3 = 2 → ab_Ev X l i_Mod_readWheel 86 [some (.ref 90), some (.int (nI (12 + sW S))), some (.int (nI (tV T p2))), some (.int (b01 (tkW T p3 3))), none, none, none] [] (va_up (va_up (va_up (va_up (va_up (va_up (va_up (va_up w 94 (aI 2 f4)) 92 (aJ 24 f2)) 91 (aI 640 (tB T))) 90 (oMod s wd tn)) 90 (oMod s1 wd1 tn)) 92 (aJ 24 (vp_updL f2 (4 + sW S) (lN (cv (tV T (tX T p))))))) 90 (oMod s2 wd2 tn)) 90 (oMod s3 wd3 tn)) n 0 0 (mrQ T K0 a0 b0 c0 (va_up (va_up (va_up (va_up w 94 (aI 2 f4)) 92 (aJ 24 f2)) 91 (aI 640 (tB T))) 90 (oMod s wd tn)) n s tn O) := by
    intro e3 k4 kk3
    rw [bnd_r e3] at hO
    refine ab_sound ok_176 [121, 127] 80 ?_
    (refine Exists.intro 0 ?_; refine ⟨0, _, Nat.zero_le _, Nat.zero_le _, k_mgo T p3 _ _ hL hM c5 (by omega) (by omega) rfl rfl (fr3 g13 h3) (fr4 g13 h4) a3, ?_⟩; rintro _ _ _ ⟨rfl, rfl, s4, wd4, rfl, g4, a4⟩)
    have g14 := g13.trans (fgo_fmr g4)
    have frw : Fr FMk (va_up (va_up (va_up (va_up w 94 (aI 2 f4)) 92 (aJ 24 f2)) 91 (aI 640 (tB T))) 90 (oMod s wd tn)) (va_up (va_up (va_up (va_up (va_up (va_up (va_up (va_up (va_up w 94 (aI 2 f4)) 92 (aJ 24 f2)) 91 (aI 640 (tB T))) 90 (oMod s wd tn)) 90 (oMod s1 wd1 tn)) 92 (aJ 24 (vp_updL f2 (4 + sW S) (lN (cv (tV T (tX T p))))))) 90 (oMod s2 wd2 tn)) 90 (oMod s3 wd3 tn)) 90 (oMod s4 wd4 tn)) := ((((Fr.refl.up (Or.inl rfl)).up (by unfold FMk; omega)).up (Or.inl rfl)).up (Or.inl rfl)).up (Or.inl rfl)
    have hJ9 : MJr (va_up (va_up (va_up (va_up (va_up (va_up (va_up (va_up (va_up w 94 (aI 2 f4)) 92 (aJ 24 f2)) 91 (aI 640 (tB T))) 90 (oMod s wd tn)) 90 (oMod s1 wd1 tn)) 92 (aJ 24 (vp_updL f2 (4 + sW S) (lN (cv (tV T (tX T p))))))) 90 (oMod s2 wd2 tn)) 90 (oMod s3 wd3 tn)) 90 (oMod s4 wd4 tn)) K0 a0 b0 c0 S := hJr.u90.u92.u90.u90.u90
    (refine Exists.intro 0 ?_; refine ⟨0, _, Nat.zero_le _, Nat.zero_le _, k_Mod_isName T (tX T p3) _ _ k4 rfl a4, ?_⟩; refine ab_q1_elim ?_)
    cases tn9 : tkN T (tX T p3)
    · have e4 : qBs T S (tV T p2) (tkW T p3 3) (tX T p3) = .inl (1, tP T (tX T p3)) := by unfold qBs; rw [if_neg (by rw [tn9]; decide)]
      rw [bnd_l e4] at hO
      refine And.intro (fun h_9 => absurd (rfl) h_9) (fun _ => ?_)
      (refine Exists.intro 0 ?_; refine ⟨0, _, Nat.zero_le _, Nat.zero_le _, k_bad T (tX T p3) 1 _ _ rfl (Or.inl rfl) rfl a4, ?_⟩; refine ab_q1_elim ?_)
      exact ⟨rfl, mrQ_l hO (frw.up (Or.inl rfl)) rfl g14 (hJ9.sh ⟨_, rfl⟩).u90⟩
    · have kk4 := tkN_k tn9
      refine And.intro (fun _ => ?_) (fun h_9 => absurd h_9 ((by decide)))
      (refine Exists.intro 0 ?_; refine ⟨0, _, Nat.zero_le _, Nat.zero_le _, k_find (tV T (tX T p3)) _ _ hS (tk_vd k4 kk4) (a4.2.2.2.1 kk4) rfl rfl j3 rfl j5 u3 u4 u5 hNu, ?_⟩; refine ab_q1_elim ?_)
      have at121 : ¬ soI (sLo S (tV T (tX T p3))) ≤ 1 → ∀ x4 : Option Value, ab_Ev X l i_Mod_readWheel 121 [some (.ref 90), some (.int (nI (12 + sW S))), some (.int (nI (tV T p2))), some (.int (b01 (tkW T p3 3))), x4, none, none] [] (va_up (va_up (va_up (va_up (va_up (va_up (va_up (va_up (va_up w 94 (aI 2 f4)) 92 (aJ 24 f2)) 91 (aI 640 (tB T))) 90 (oMod s wd tn)) 90 (oMod s1 wd1 tn)) 92 (aJ 24 (vp_updL f2 (4 + sW S) (lN (cv (tV T (tX T p))))))) 90 (oMod s2 wd2 tn)) 90 (oMod s3 wd3 tn)) 90 (oMod s4 wd4 tn)) n 0 0 (mrQ T K0 a0 b0 c0 (va_up (va_up (va_up (va_up w 94 (aI 2 f4)) 92 (aJ 24 f2)) 91 (aI 640 (tB T))) 90 (oMod s wd tn)) n s tn O) := by
        intro hn x4
        have e4 : qBs T S (tV T p2) (tkW T p3 3) (tX T p3) = .inl (3, tP T (tX T p3)) := by unfold qBs; rw [if_pos tn9, if_neg hn]
        rw [bnd_l e4] at hO
        refine ab_sound ok_176 [] 80 ?_
        (refine Exists.intro 0 ?_; refine ⟨0, _, Nat.zero_le _, Nat.zero_le _, k_bad T (tX T p3) 3 _ _ rfl (Or.inr ⟨by omega, by omega⟩) rfl a4, ?_⟩; refine ab_q1_elim ?_)
        exact ⟨rfl, mrQ_l hO (frw.up (Or.inl rfl)) rfl g14 (hJ9.sh ⟨_, rfl⟩).u90⟩
      have at127 : soI (sLo S (tV T (tX T p3))) ≤ 1 → ab_Ev X l i_Mod_readWheel 127 [some (.ref 90), some (.int (nI (12 + sW S))), some (.int (nI (tV T p2))), some (.int (b01 (tkW T p3 3))), some (.int (nI (bsN (sLo S (tV T (tX T p3)))))), none, none] [] (va_up (va_up (va_up (va_up (va_up (va_up (va_up (va_up (va_up w 94 (aI 2 f4)) 92 (aJ 24 f2)) 91 (aI 640 (tB T))) 90 (oMod s wd tn)) 90 (oMod s1 wd1 tn)) 92 (aJ 24 (vp_updL f2 (4 + sW S) (lN (cv (tV T (tX T p))))))) 90 (oMod s2 wd2 tn)) 90 (oMod s3 wd3 tn)) 90 (oMod s4 wd4 tn)) n 0 0 (mrQ T K0 a0 b0 c0 (va_up (va_up (va_up (va_up w 94 (aI 2 f4)) 92 (aJ 24 f2)) 91 (aI 640 (tB T))) 90 (oMod s wd tn)) n s tn O) := by
        intro hy
        refine d127 (tV T (tX T p)) (tV T p2) (tX T p3) (tkW T p3 3) (sLo S (tV T (tX T p3))) _ s4 wd4 _ ?_ hS hb0 (by omega) (bs_lo hS.2.2.2.2 hy) ⟨c3, c4⟩ hL hM k4 kk4 frw g14 h3 h4 rfl rfl a4 hJ9 rfl hN2
        rw [← hO]
        unfold qBs
        rw [if_pos tn9, if_pos hy]
      rcases fi_lt4 (c := tV T (tX T p3)) hS with ⟨y1, j, y2, y3, y4⟩ | ⟨y1, j, y2, y3, y4⟩ | ⟨y1, j, y2, y4⟩ | ⟨y1, y4⟩
      · have hbn : bsN (sLo S (tV T (tX T p3))) = 4 + j := by unfold bsN; rw [if_neg (by omega), y3]
        have a127 := at127 (by omega)
        rw [hbn] at a127
        rw [y4]
        refine And.intro (fun h_9 => absurd h_9 (nI_pos (by omega))) (fun _ => ?_)
        refine And.intro (fun _ => ?_) (fun h_9 => absurd (nI_lt (by omega) (by omega)) h_9)
        exact a127
      · have hbn : bsN (sLo S (tV T (tX T p3))) = j := by unfold bsN; rw [if_pos y1, y3]
        have a127 := at127 (by omega)
        rw [hbn] at a127
        rw [y4]
        refine And.intro (fun h_9 => absurd h_9 (nI_pos (by omega))) (fun _ => ?_)
        refine And.intro (fun _ => ?_) (fun h_9 => absurd (nI_lt (by omega) (by omega)) h_9)
        exact a127
      · rw [y4]
        refine And.intro (fun h_9 => absurd h_9 (nI_pos (by omega))) (fun _ => ?_)
        refine And.intro (fun h_9 => absurd h_9 (nI_nlt (by omega) (by omega))) (fun _ => ?_)
        exact at121 (by omega) _
      · rw [y4]
        refine And.intro (fun _ => ?_) (fun h_9 => absurd ((by decide)) h_9)
        exact at121 (by omega) _
  cases i3 : tkW T p3 3
  · refine And.intro (fun h_9 => absurd (rfl) h_9) (fun _ => ?_)
    (refine Exists.intro 0 ?_; refine ⟨0, _, Nat.zero_le _, Nat.zero_le _, k_Mod_isOn T p3 _ _ c5 rfl a3, ?_⟩; refine ab_q1_elim ?_)
    cases i4 : tkW T p3 4
    · have e3 : qIO T p3 = .inl (1, tP T p3) := by unfold qIO; rw [if_neg (by rw [i3, i4]; decide)]
      rw [bnd_l e3] at hO
      refine And.intro (fun h_9 => absurd (rfl) h_9) (fun _ => ?_)
      (refine Exists.intro 0 ?_; refine ⟨0, _, Nat.zero_le _, Nat.zero_le _, k_bad T p3 1 _ _ rfl (Or.inl rfl) rfl a3, ?_⟩; refine ab_q1_elim ?_)
      exact ⟨rfl, mrQ_l hO (((((Fr.refl.up (Or.inl rfl)).up (by unfold FMk; omega)).up (Or.inl rfl)).up (Or.inl rfl)).up (Or.inl rfl)) rfl g13 hJs.u90.u92.u90.u90.u90⟩
    · have e3 : qIO T p3 = .inr (tX T p3) := by unfold qIO; rw [if_pos (Or.inr i4)]
      have k9 := (tkW_k i4).1
      have a86 := at86 e3 (tX_le c5 (by omega) (by omega)).2 k9
      rw [i3] at a86
      refine And.intro (fun _ => ?_) (fun h_9 => absurd h_9 ((by decide)))
      exact ab_ev_of a86 (by rw [← t3, ← nI_add]; rfl) rfl rfl
  · have e3 : qIO T p3 = .inr (tX T p3) := by unfold qIO; rw [if_pos (Or.inl i3)]
    have k9 := (tkW_k i3).1
    have a86 := at86 e3 (tX_le c5 (by omega) (by omega)).2 k9
    rw [i3] at a86
    refine And.intro (fun _ => ?_) (fun h_9 => absurd h_9 ((by decide)))
    exact ab_ev_of a86 (by rw [← t3, ← nI_add]; rfl) rfl rfl
end MRWHEEL2

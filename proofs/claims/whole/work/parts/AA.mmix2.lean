/-! mix of the model -/
def MXI (T : TE) (N : Nat → Nat) (R : Nat → Nat → Nat → Int64) (S : MS) (p : Nat) (w0 : ab_W) (s0 : Nat → Int32) (tn : Int64) (w1 : ab_W) (s1 : Nat → Int32) (wd1 : Int64) : Prop := Fr FMm w0 w1 ∧ MB w1 s1 wd1 tn N R ∧ w1 91 = aI 640 (tB T) ∧ (s1 3 = nI (tL T) ∧ s1 4 = nI (tM T)) ∧ s1 52 = nI S.1 ∧ (s1 0 = nI 0 ∧ s1 2 = nI 0 ∧ s1 10 = nI 0) ∧ Fr GMx s0 s1 ∧ AtM T p s1 wd1 ∧ MMx w1 N S
theorem MB.mv {w w' : ab_W} {s s' : Nat → Int32} {wd wd' tn : Int64} {N : Nat → Nat} {R : Nat → Nat → Nat → Int64} (h : MB w s wd tn N R) {F : Nat → Prop} (hf : Fr F w w') (hF : ∀ k, F k → ¬ (114 ≤ k ∧ k ≤ 118)) (h90 : w' 90 = oMod s' wd' tn) (hN : MN0 w' s') : MB w' s' wd' tn N R := by
  obtain ⟨-, -, k2, ⟨f, h3⟩, ⟨g, h4⟩, k, h5⟩ := h
  exact ⟨h90, hN, k2.fr hf (fun z => hF _ z ⟨by omega, by omega⟩) (fun z => hF _ z ⟨by omega, by omega⟩), ⟨f, hf.get h3 (fun z => hF _ z ⟨by omega, by omega⟩)⟩, ⟨g, hf.get h4 (fun z => hF _ z ⟨by omega, by omega⟩)⟩, k, hf.get h5 (fun z => hF _ z ⟨by omega, by omega⟩)⟩
theorem MXI.go {T : TE} {N : Nat → Nat} {R : Nat → Nat → Nat → Int64} {S : MS} {p q : Nat} {w0 w1 : ab_W} {s0 s1 s2 : Nat → Int32} {wd1 wd2 tn : Int64} (h : MXI T N R S p w0 s0 tn w1 s1 wd1) (g : Fr FGo s1 s2) (a : AtM T q s2 wd2) : MXI T N R S q w0 s0 tn (va_up w1 90 (oMod s2 wd2 tn)) s2 wd2 := by
  obtain ⟨h1, h2, h3, ⟨h4, h5⟩, h6, ⟨h7, h8, h9⟩, h10, h11, h12⟩ := h
  have f9 : Fr (fun j => j = 90) w1 (va_up w1 90 (oMod s2 wd2 tn)) := Fr.refl.up rfl
  refine ⟨h1.up (Or.inl rfl), h2.mv f9 (fun k hk => by omega) va_us (h2.2.1.fr f9 g (by omega) (by omega) (by omega) (by unfold FGo; omega) (by unfold FGo; omega)), h3, ⟨?_, ?_⟩, ?_, ⟨?_, ?_, ?_⟩, h10.trans (g.mono (fun k hk => by unfold FGo at hk; unfold GMx; omega)), a, h12.fr f9 (fun k hk => by omega)⟩
  · rw [g 3 (by unfold FGo; omega), h4]
  · rw [g 4 (by unfold FGo; omega), h5]
  · rw [g 52 (by unfold FGo; omega), h6]
  · rw [g 0 (by unfold FGo; omega), h7]
  · rw [g 2 (by unfold FGo; omega), h8]
  · rw [g 10 (by unfold FGo; omega), h9]
theorem MXI.bad {T : TE} {N : Nat → Nat} {R : Nat → Nat → Nat → Int64} {S : MS} {p t n kk pl : Nat} {w0 w1 : ab_W} {s0 s1 : Nat → Int32} {wd1 tn : Int64} {O : Sum (Nat × Nat) MS} (h : MXI T N R S p w0 s0 tn w1 s1 wd1) (ho : .inl (kk, pl) = O) : mxQ N R t O w0 n s0 tn (va_up w1 90 (oMod (upd (upd s1 10 (nI kk)) 11 (nI pl)) wd1 tn)) n := by
  subst ho
  obtain ⟨h1, h2, h3, ⟨h4, h5⟩, h6, ⟨h7, h8, h9⟩, h10, h11, h12⟩ := h
  have f9 : Fr (fun j => j = 90) w1 (va_up w1 90 (oMod (upd (upd s1 10 (nI kk)) 11 (nI pl)) wd1 tn)) := Fr.refl.up rfl
  have g : Fr (fun j => j = 10 ∨ j = 11) s1 (upd (upd s1 10 (nI kk)) 11 (nI pl)) := (Fr.refl.us (Or.inl rfl)).us (Or.inr rfl)
  refine ⟨rfl, h1.up (Or.inl rfl), _, wd1, h2.mv f9 (fun k hk => by omega) va_us (h2.2.1.fr f9 g (by omega) (by omega) (by omega) (by omega) (by omega)), h12.sh.fr f9 (fun k hk => by omega), ?_, ?_, ?_, h10.trans (g.mono (fun k hk => by unfold GMx; omega))⟩
  · rw [g 0 (by omega), h7]
  · rw [g 2 (by omega), h8]
  · rw [upd_ne (by omega), upd_at]
    rfl
section MMIX2
variable {X : ab_X} {l : Launch}
theorem k_mm52 (T : TE) (t q : Nat) (w w1 : ab_W) (n : Nat) {s s1 : Nat → Int32} {wd1 tn : Int64} {N : Nat → Nat} {R : Nat → Nat → Nat → Int64} {S : MS} {O : Sum (Nat × Nat) MS} {x3 : Option Value} {x4 : Option Value} (hS : S.1 ≤ 12) (hL : tL T ≤ 640) (hM : tM T ≤ 640) (hq : q ≤ tL T) (h : MXI T N R S q w s tn w1 s1 wd1) (h1 : 0 < S.1 → anS T q = false → .inl (1, tP T q) = O) (h2 : anS T q = true → S.1 = 12 → .inl (2, tP T q) = O) (h3 : S.1 < 12 → (0 < S.1 → anS T q = true) → ∀ (w2 : ab_W) (s2 : Nat → Int32) (wd2 : Int64) (x4 : Option Value), MXI T N R S (if anS T q = true then tX T q else q) w s tn w2 s2 wd2 → ab_Ev X l i_Mod_mix 139 [some (.ref 90), some (.int (nI t)), some (.int (nI 1)), some (.int (b01 (tkS T q 45))), x4] [] w2 n 0 0 (qI (mixV N R O) (mxQ N R t O w n s tn))) :
    ab_Ev X l i_Mod_mix 52 [some (.ref 90), some (.int (nI t)), some (.int (nI 1)), x3, x4] [] w1 n 0 0 (qI (mixV N R O) (mxQ N R t O w n s tn)) := by
  have hh := h
  obtain ⟨-, hB, y91, ⟨y3, y4⟩, y52, -, -, a1, -⟩ := h
  have y90 := hB.1
  have bad := fun (kk pl : Nat) (ho : .inl (kk, pl) = O) => hh.bad (t := t) (n := n) ho
  have go := fun (s2 : Nat → Int32) (wd2 : Int64) (p2 : Nat) (g : Fr FGo s1 s2) (a : AtM T p2 s2 wd2) => hh.go g a
  obtain ⟨w1, rfl⟩ := va_ex2 y90 y91
  have at81 : ab_Ev X l i_Mod_mix 81 [some (.ref 90), some (.int (nI t)), some (.int (nI 1)), some (.int (b01 (tkS T q 45))), x4] [.int (b01 (anS T q))] (va_up (va_up w1 91 (aI 640 (tB T))) 90 (oMod s1 wd1 tn)) n 0 0 (qI (mixV N R O) (mxQ N R t O w n s tn)) := by
    have at108 : (0 < S.1 → anS T q = true) → ab_Ev X l i_Mod_mix 108 [some (.ref 90), some (.int (nI t)), some (.int (nI 1)), some (.int (b01 (tkS T q 45))), some (.int (b01 (anS T q)))] [] (va_up (va_up w1 91 (aI 640 (tB T))) 90 (oMod s1 wd1 tn)) n 0 0 (qI (mixV N R O) (mxQ N R t O w n s tn)) := by
      intro ha
      refine ab_sound ok_209 [139] 80 ?_
      by_cases h12 : S.1 = 12
      · have ho := h2 (ha (by omega)) h12
        have k4 := an4 (ha (by omega))
        refine And.intro (fun h_9 => absurd ((by rw [y52, h12])) h_9) (fun _ => ?_)
        (refine Exists.intro 0 ?_; refine ⟨0, _, Nat.zero_le _, Nat.zero_le _, k_bad T q 2 _ _ rfl (Or.inr ⟨by omega, by omega⟩) rfl a1, ?_⟩; refine ab_q1_elim ?_)
        refine ⟨?_, bad 2 _ ho⟩
        rw [← ho]
        rfl
      · have a139 := h3 (by omega) ha
        refine And.intro (fun _ => ?_) (fun h_9 => absurd h_9 ((fun z => by rw [y52, nI_eq (by omega) (by omega)] at z; omega)))
        cases hs : anS T q
        · rw [if_neg (by rw [hs]; decide)] at a139
          refine And.intro (fun _ => ?_) (fun h_9 => absurd (rfl) h_9)
          exact a139 _ s1 wd1 _ hh
        · rw [if_pos hs] at a139
          have k4 := an4 hs
          refine And.intro (fun h_9 => absurd h_9 ((by decide))) (fun _ => ?_)
          (refine Exists.intro 0 ?_; refine ⟨0, _, Nat.zero_le _, Nat.zero_le _, k_mgo T q _ _ hL hM hq (by omega) (by omega) rfl rfl y3 y4 a1, ?_⟩; rintro _ _ _ ⟨rfl, rfl, s2, wd2, rfl, g2, a2⟩)
          exact a139 _ s2 wd2 _ (go s2 wd2 _ g2 a2)
    refine ab_sound ok_209 [108] 80 ?_
    by_cases h0 : S.1 = 0
    · refine And.intro (fun _ => ?_) (fun h_9 => absurd ((by rw [y52, h0]; decide)) h_9)
      exact at108 (fun z => absurd z (by omega))
    · refine And.intro (fun h_9 => absurd h_9 ((by rw [y52]; exact nI_nle (by omega) (by omega)))) (fun _ => ?_)
      cases hs : anS T q
      · have ho := h1 (by omega) hs
        refine And.intro (fun h_9 => absurd (rfl) h_9) (fun _ => ?_)
        (refine Exists.intro 0 ?_; refine ⟨0, _, Nat.zero_le _, Nat.zero_le _, k_bad T q 1 _ _ rfl (Or.inl rfl) rfl a1, ?_⟩; refine ab_q1_elim ?_)
        refine ⟨?_, bad 1 _ ho⟩
        rw [← ho]
        rfl
      · rw [hs] at at108
        refine And.intro (fun _ => ?_) (fun h_9 => absurd h_9 ((by decide)))
        exact at108 (fun _ => rfl)
  refine ab_sound ok_209 [81] 80 ?_
  refine And.intro (fun h_9 => absurd h_9 ((by decide))) (fun _ => ?_)
  (refine Exists.intro 0 ?_; refine ⟨0, _, Nat.zero_le _, Nat.zero_le _, k_Mod_isSign T q 45 _ _ rfl (by omega) hq rfl a1, ?_⟩; refine ab_q1_elim ?_)
  cases c45 : tkS T q 45
  · rw [c45] at at81
    refine And.intro (fun h_9 => absurd (rfl) h_9) (fun _ => ?_)
    (refine Exists.intro 0 ?_; refine ⟨0, _, Nat.zero_le _, Nat.zero_le _, k_Mod_isSign T q 43 _ _ rfl (by omega) hq rfl a1, ?_⟩; refine ab_q1_elim ?_)
    cases c43 : tkS T q 43
    · have e : anS T q = false := by unfold anS; rw [c43, c45]; rfl
      rw [e] at at81
      refine And.intro (fun _ => ?_) (fun h_9 => absurd (rfl) h_9)
      exact at81
    · have e : anS T q = true := by unfold anS; rw [c43]; rfl
      rw [e] at at81
      refine And.intro (fun h_9 => absurd h_9 ((by decide))) (fun _ => ?_)
      exact at81
  · have e : anS T q = true := by unfold anS; rw [c45, Bool.or_true]
    rw [c45, e] at at81
    refine And.intro (fun _ => ?_) (fun h_9 => absurd h_9 ((by decide)))
    exact at81
theorem k_mm139 (T : TE) (t : Nat) (w : ab_W) (n : Nat) {s : Nat → Int32} {tn : Int64} {N : Nat → Nat} {R : Nat → Nat → Nat → Int64} {O : Sum (Nat × Nat) MS} (ht : t < 8) (hL : tL T ≤ 640) (hM : tM T ≤ 640) : ∀ (fl p : Nat) (sg : Bool) (S : MS) (w1 : ab_W) (s1 : Nat → Int32) (wd1 : Int64) (x4 : Option Value), S.1 + fl = 13 → S.1 < 12 → MSok N S → p ≤ tL T → MXI T N R S p w s tn w1 s1 wd1 → rdM T N fl S p sg = O → ab_Ev X l i_Mod_mix 139 [some (.ref 90), some (.int (nI t)), some (.int (nI 1)), some (.int (b01 sg)), x4] [] w1 n 0 0 (qI (mixV N R O) (mxQ N R t O w n s tn)) := by
  intro fl
  induction fl with
  | zero => intro p sg S w1 s1 wd1 x4 hf h12; omega
  | succ fl ih =>
    intro p sg S w1 s1 wd1 x4 hf h12 hS hp hI ho
    have ho : (match rdPt T N S p sg with
      | .inl e => .inl e
      | .inr y => if tK T y.1 = 0 then .inr (adM S y.2) else if anS T y.1 = false then .inl (1, tP T y.1) else if S.1 + 1 = 12 then .inl (2, tP T y.1) else rdM T N fl (adM S y.2) (tX T y.1) (tkS T y.1 45)) = O := ho
    obtain ⟨fr, hB, y91, ⟨y3, y4⟩, y52, ⟨y0, y2, y10⟩, frs, a1, hX⟩ := hI
    have y90 := hB.1
    obtain ⟨pt, p1, p2⟩ := hB.2.2.1.pts
    have cp := k_mReadPart (X := X) (l := l) T p sg w1 n (N := N) (S := S) h12 (fun z => (hS.2 0 z).1.1) hB.2.2.1.1 hL hM hp y90 y91 y3 y4 y52 a1 hB.2.1 p1 p2 hX
    obtain ⟨w1, rfl⟩ := va_ex y90
    refine ab_sound ok_209 [166] 80 ?_
    (refine Exists.intro 0 ?_; refine ⟨0, _, Nat.zero_le _, Nat.zero_le _, cp, ?_⟩; rintro _ w2 _ ⟨b, rfl, rfl, f2, s2, wd2, z90, g2, zN, zM, hl, hr⟩)
    have frw := fr.trans (f2.mono (G := FMm) (fun k hk => by unfold FPt at hk; unfold FMm; omega))
    have zB := hB.mv f2 (fun k hk => by unfold FPt at hk; omega) z90 zN
    have z91 := f2.get y91 (by unfold FPt; omega)
    have v0 : s2 0 = nI 0 := by rw [g2 0 (by unfold GPx FMx; omega), y0]
    have v2 : s2 2 = nI 0 := by rw [g2 2 (by unfold GPx FMx; omega), y2]
    have frs2 : Fr GMx s s2 := frs.trans (g2.mono (fun k hk => by unfold GPx FMx at hk; unfold GMx; omega))
    cases hq : rdPt T N S p sg with
    | inl e =>
      obtain ⟨rfl, e1, e2⟩ := hl e hq
      rw [hq] at ho
      have ho : .inl e = O := ho
      subst ho
      obtain ⟨w2, rfl⟩ := va_ex z90
      refine And.intro (fun h_9 => absurd (rfl) h_9) (fun _ => ?_)
      refine ⟨?_, rfl, frw, s2, wd2, zB, zM, v0, v2, e1, frs2⟩
      show some (Value.int (-nI 1 - s2 11)) = some (Value.int (-nI 1 - nI e.2))
      rw [e2]
    | inr y =>
      obtain ⟨q, d⟩ := y
      obtain ⟨rfl, g3, v52, a3, zX⟩ := hr _ hq
      have a3 : AtM T q s2 wd2 := a3
      rw [hq] at ho
      have ho : (if tK T q = 0 then .inr (adM S d) else if anS T q = false then .inl (1, tP T q) else if S.1 + 1 = 12 then .inl (2, tP T q) else rdM T N fl (adM S d) (tX T q) (tkS T q 45)) = O := ho
      obtain ⟨u1, u2, u3, u4⟩ := rdPt_ok hL hp hq
      have uS := adM_ok hS h12 u2 u3 u4
      have v10 : s2 10 = nI 0 := by rw [g3 10 (by unfold GPs FMr; omega), y10]
      have v3 : s2 3 = nI (tL T) := by rw [g3 3 (by unfold GPs FMr; omega), y3]
      have v4 : s2 4 = nI (tM T) := by rw [g3 4 (by unfold GPs FMr; omega), y4]
      have k6 := tK_le T q
      refine And.intro (fun _ => ?_) (fun h_9 => absurd h_9 ((by decide)))
      by_cases k0 : tK T q = 0
      · rw [if_pos k0] at ho
        have a170 := k_mm170 (X := X) (l := l) t (N ((adM S d).2 0).1) w w2 n (s := s) (x2 := nI 0) (x3 := b01 sg) (x4 := x4) ho ht rfl (by show 1 ≤ S.1 + 1; omega) uS frw zB zX v52 v0 v2 v10 frs2
        have h7 : s2 7 = nI 0 := by rw [a3.2.1]; unfold mK; rw [if_neg (by omega), k0]
        obtain ⟨w2, rfl⟩ := va_ex z90
        have at166 : ab_Ev X l i_Mod_mix 166 [some (.ref 90), some (.int (nI t)), some (.int (nI 1)), some (.int (b01 sg)), x4] [.int (nI 0)] (va_up w2 90 (oMod s2 wd2 tn)) n 0 0 (qI (mixV N R O) (mxQ N R t O w n s tn)) := by
          refine ab_sound ok_209 [170] 80 ?_
          refine And.intro (fun _ => ?_) (fun h_9 => absurd (rfl) h_9)
          exact a170
        refine And.intro (fun _ => ?_) (fun h_9 => absurd (h7) h_9)
        exact at166
      · rw [if_neg k0] at ho
        have h7 : ¬ s2 7 = nI 0 := fun z => by
          rw [a3.2.1] at z
          unfold mK at z
          by_cases c : tK T q = 5
          · rw [if_pos c, nI_eq (by omega) (by omega)] at z; omega
          · rw [if_neg c, nI_eq (by omega) (by omega)] at z; omega
        have a52 := k_mm52 (X := X) (l := l) T t q w w2 n (s := s) (s1 := s2) (wd1 := wd2) (tn := tn) (N := N) (R := R) (S := adM S d) (O := O) (x3 := some (.int (b01 sg))) (x4 := x4) (by show S.1 + 1 ≤ 12; omega) hL hM u1 ⟨frw, zB, z91, ⟨v3, v4⟩, v52, ⟨v0, v2, v10⟩, frs2, a3, zX⟩ (fun _ ha => by rw [if_pos ha] at ho; exact ho) (fun ha h9 => by have h9 : S.1 + 1 = 12 := h9; rw [if_neg (by rw [ha]; decide), if_pos h9] at ho; exact ho) (fun h9 ha w3 s3 wd3 x4 hI3 => by
          have ha := ha (by show 0 < S.1 + 1; omega)
          have h9 : S.1 + 1 < 12 := h9
          have k4 := an4 ha
          rw [if_neg (by rw [ha]; decide), if_neg (by omega)] at ho
          rw [if_pos ha] at hI3
          exact ih (tX T q) (tkS T q 45) (adM S d) w3 s3 wd3 x4 (by show S.1 + 1 + fl = 13; omega) h9 uS (tX_le u1 (by omega) (by omega)).2 hI3 ho)
        obtain ⟨w2, rfl⟩ := va_ex z90
        have at166 : ab_Ev X l i_Mod_mix 166 [some (.ref 90), some (.int (nI t)), some (.int (nI 1)), some (.int (b01 sg)), x4] [.int (nI 1)] (va_up w2 90 (oMod s2 wd2 tn)) n 0 0 (qI (mixV N R O) (mxQ N R t O w n s tn)) := by
          refine ab_sound ok_209 [52] 80 ?_
          exact a52
        refine And.intro (fun h_9 => absurd h_9 (h7)) (fun _ => ?_)
        exact at166
theorem k_Mod_mix_n (x : Int32) (w : ab_W) (n : Nat) {s : Nat → Int32} {wd tn : Int64} (hx : x < 0 ∨ nI 8 ≤ x) (h90 : w 90 = oMod s wd tn) : ab_C X l i_Mod_mix [.ref 90, .int x] w n 0 0 (ab_q1 (some (.int (-nI 1000))) (va_up w 90 (oMod (upd (upd (upd s 0 (nI 0)) 2 (nI 0)) 3 (s 2)) wd tn)) n) := by
  obtain ⟨w, rfl⟩ := va_ex h90
  refine ab_metI cd_209 om_209 rfl (ab_sound ok_209 [] 80 ?_)
  (refine Exists.intro 0 ?_; refine ⟨0, _, Nat.zero_le _, Nat.zero_le _, c_Mod_take _ _ (s := upd s 0 (nI 0)) (wd := wd) (tn := tn) rfl, ?_⟩; refine ab_q1_elim ?_)
  (refine Exists.intro 0 ?_; refine ⟨0, _, Nat.zero_le _, Nat.zero_le _, c_Mod_isSheet_n _ _ _ hx, ?_⟩; refine ab_q1_elim ?_)
  refine And.intro (fun h_9 => absurd (rfl) h_9) (fun _ => ?_)
  refine ⟨rfl, ?_, rfl⟩
  simp only [va_uu]
  rfl
theorem k_Mod_mix_y (x : Int32) (t L : Nat) (tb : Nat → Int32) (w : ab_W) (n : Nat) {s : Nat → Int32} {wd tn : Int64} {N : Nat → Nat} {R : Nat → Nat → Nat → Int64} (hx : x = nI t) (ht : t < 8) (hL : L ≤ 640) (hB : MB w s wd tn N R) (h2 : s 2 = nI L) (h91 : w 91 = aI 640 tb) (hM : MMs w) :
    ab_C X l i_Mod_mix [.ref 90, .int x] w n 0 0 (qI (mixV N R (rdM0 (tb, L, 200) N)) (mxQ N R t (rdM0 (tb, L, 200) N) w n s tn)) := by
  subst hx
  generalize hO : rdM0 (tb, L, 200) N = O
  have hO : rdM (tb, L, 200) N 13 MSz (if anS (tb, L, 200) 0 = true then tX (tb, L, 200) 0 else 0) (tkS (tb, L, 200) 0 45) = O := hO
  have h90 := hB.1
  have z : ∀ {P : Nat → Prop} (i : Nat), i < 0 → P i := fun i hi => absurd hi (by omega)
  have hX : MMx w N MSz := by
    obtain ⟨⟨a1, b1⟩, ⟨a2, b2⟩, ⟨a3, b3⟩, ⟨a4, b4⟩, ⟨a5, b5⟩, ⟨a6, b6⟩⟩ := hM
    exact ⟨⟨a1, b1, z⟩, ⟨a2, b2, z⟩, ⟨a3, b3, z⟩, ⟨a4, b4, z⟩, ⟨a5, b5, z⟩, ⟨a6, b6, z⟩⟩
  have at46 : ∀ s1 : Nat → Int32, Fr GMx s s1 → s1 38 = s 38 → s1 39 = s 39 → s1 40 = s 40 → s1 0 = nI 0 → s1 2 = nI 0 → s1 3 = nI L → s1 4 = nI 200 → s1 5 = nI 0 → s1 10 = nI 0 → s1 52 = nI 0 → ab_Ev X l i_Mod_mix 46 [some (.ref 90), some (.int (nI t)), none, none, none] [] (va_up w 90 (oMod s1 wd tn)) n 0 0 (qI (mixV N R O) (mxQ N R t O w n s tn)) := by
    intro s1 frs k38 k39 k40 k0 k2 k3 k4 k5 k10 k52
    have f9 : Fr (fun j => j = 90) w (va_up w 90 (oMod s1 wd tn)) := Fr.refl.up rfl
    have g9 : Fr (fun j => ¬ (38 ≤ j ∧ j ≤ 40)) s s1 := fun j hj => by
      have hj : 38 ≤ j ∧ j ≤ 40 := Decidable.not_not.mp hj
      have : j = 38 ∨ j = 39 ∨ j = 40 := by omega
      rcases this with e | e | e
      · rw [e]; exact k38
      · rw [e]; exact k39
      · rw [e]; exact k40
    have hB1 : MB (va_up w 90 (oMod s1 wd tn)) s1 wd tn N R := hB.mv f9 (fun k hk => by omega) va_us (hB.2.1.fr f9 g9 (by omega) (by omega) (by omega) (by omega) (by omega))
    have hX1 : MMx (va_up w 90 (oMod s1 wd tn)) N MSz := hX.fr f9 (fun k hk => by omega)
    have cg := k_go (X := X) (l := l) (tb, L, 200) 0 (va_up w 90 (oMod s1 wd tn)) n hL (show 200 ≤ 640 by omega) (by omega) va_us h91 k3 k4 k5
    refine ab_sound ok_209 [52] 80 ?_
    (refine Exists.intro 0 ?_; refine ⟨0, _, Nat.zero_le _, Nat.zero_le _, cg, ?_⟩; rintro _ _ _ ⟨rfl, rfl, s2, wd2, rfl, g2, a2⟩)
    have hI : MXI (tb, L, 200) N R MSz 0 w s tn (va_up (va_up w 90 (oMod s1 wd tn)) 90 (oMod s2 wd2 tn)) s2 wd2 := by
      have f8 : Fr (fun j => j = 90) (va_up w 90 (oMod s1 wd tn)) (va_up (va_up w 90 (oMod s1 wd tn)) 90 (oMod s2 wd2 tn)) := Fr.refl.up rfl
      refine ⟨(Fr.refl.up (Or.inl rfl)).up (Or.inl rfl), hB1.mv f8 (fun k hk => by omega) va_us (hB1.2.1.fr f8 g2 (by omega) (by omega) (by omega) (by unfold FGo; omega) (by unfold FGo; omega)), h91, ⟨?_, ?_⟩, ?_, ⟨?_, ?_, ?_⟩, frs.trans (g2.mono (fun k hk => by unfold FGo at hk; unfold GMx; omega)), a2, hX1.fr f8 (fun k hk => by omega)⟩
      · rw [g2 3 (by unfold FGo; omega), k3]; rfl
      · rw [g2 4 (by unfold FGo; omega), k4]; rfl
      · rw [g2 52 (by unfold FGo; omega), k52]; rfl
      · rw [g2 0 (by unfold FGo; omega), k0]
      · rw [g2 2 (by unfold FGo; omega), k2]
      · rw [g2 10 (by unfold FGo; omega), k10]
    refine ab_ev_of (k_mm52 (X := X) (l := l) (tb, L, 200) t 0 w _ n (x3 := none) (x4 := none) (O := O) (by show 0 ≤ 12; omega) hL (show 200 ≤ 640 by omega) (by omega) hI (fun hh => absurd hh (by show ¬ 0 < 0; omega)) (fun _ hh => absurd hh (by show ¬ 0 = 12; omega)) (fun _ _ w3 s3 wd3 x4 hI3 => ?_)) rfl rfl rfl
    refine k_mm139 (X := X) (l := l) (tb, L, 200) t w n ht hL (show 200 ≤ 640 by omega) 13 _ (tkS (tb, L, 200) 0 45) MSz w3 s3 wd3 x4 rfl (by show 0 < 12; omega) MSz_ok ?_ hI3 hO
    by_cases c : anS (tb, L, 200) 0 = true
    · rw [if_pos c]
      have := an4 c
      exact (tX_le (by omega) (by omega) (by omega)).2
    · rw [if_neg c]; omega
  obtain ⟨w, rfl⟩ := va_ex h90
  have at24 : ab_Ev X l i_Mod_mix 24 [some (.ref 90), some (.int (nI t)), none, none, none] [] (va_up (va_up w 90 (oMod s wd tn)) 90 (oMod (upd (upd (upd s 0 (nI 0)) 2 (nI 0)) 3 (nI L)) wd tn)) n 0 0 (qI (mixV N R O) (mxQ N R t O (va_up w 90 (oMod s wd tn)) n s tn)) := by
    refine ab_sound ok_209 [46] 80 ?_
    refine ab_ev_of (at46 (upd (upd (upd (upd (upd (upd (upd s 0 (nI 0)) 2 (nI 0)) 3 (nI L)) 4 (nI 200)) 10 (nI 0)) 52 (nI 0)) 5 (nI 0)) (((((((Fr.refl.us (Or.inl rfl)).us (by unfold GMx; omega)).us (by unfold GMx; omega)).us (by unfold GMx; omega)).us (by unfold GMx; omega)).us (by unfold GMx; omega)).us (by unfold GMx; omega)) rfl rfl rfl rfl rfl rfl rfl rfl rfl rfl) rfl rfl ?_
    simp only [va_uu]
    rfl
  refine ab_mqI cd_209 om_209 rfl (ab_sound ok_209 [24] 80 ?_)
  (refine Exists.intro 0 ?_; refine ⟨0, _, Nat.zero_le _, Nat.zero_le _, c_Mod_take _ _ (s := upd s 0 (nI 0)) (wd := wd) (tn := tn) rfl, ?_⟩; refine ab_q1_elim ?_)
  (refine Exists.intro 0 ?_; refine ⟨0, _, Nat.zero_le _, Nat.zero_le _, c_Mod_isSheet_y _ t _ _ rfl ht, ?_⟩; refine ab_q1_elim ?_)
  refine And.intro (fun _ => ?_) (fun h_9 => absurd h_9 ((by decide)))
  refine ab_ev_of at24 rfl rfl ?_
  simp only [va_uu]
  rw [← h2]
  rfl
end MMIX2

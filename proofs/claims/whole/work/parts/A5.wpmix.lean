/-! mix of the class -/
theorem rdM_ok {T : TE} {N : Nat → Nat} (hL : tL T ≤ 640) : ∀ {f p : Nat} {S S2 : MS} {sg : Bool}, p ≤ tL T → MSok N S → S.1 < 12 → rdM T N f S p sg = .inr S2 → MSok N S2 ∧ 1 ≤ S2.1
  | 0, p, S, S2, sg, _, _, _, h => by cases h
  | f + 1, p, S, S2, sg, hp, hS, h12, h => by
    have h : (match rdPt T N S p sg with
      | .inl e => .inl e
      | .inr y => if tK T y.1 = 0 then .inr (adM S y.2) else if anS T y.1 = false then .inl (1, tP T y.1) else if S.1 + 1 = 12 then .inl (2, tP T y.1) else rdM T N f (adM S y.2) (tX T y.1) (tkS T y.1 45)) = (.inr S2 : Sum (Nat × Nat) MS) := h
    cases hq : rdPt T N S p sg with
    | inl e => rw [hq] at h; cases h
    | inr y =>
      obtain ⟨q, d⟩ := y
      rw [hq] at h
      have h : (if tK T q = 0 then .inr (adM S d) else if anS T q = false then .inl (1, tP T q) else if S.1 + 1 = 12 then .inl (2, tP T q) else rdM T N f (adM S d) (tX T q) (tkS T q 45)) = (.inr S2 : Sum (Nat × Nat) MS) := h
      obtain ⟨u1, u2, u3, u4⟩ := rdPt_ok hL hp hq
      have uS := adM_ok hS h12 u2 u3 u4
      by_cases k0 : tK T q = 0
      · rw [if_pos k0] at h
        have z : adM S d = S2 := Sum.inr.inj h
        subst z
        exact ⟨uS, by show 1 ≤ S.1 + 1; omega⟩
      · rw [if_neg k0] at h
        by_cases ha : anS T q = false
        · rw [if_pos ha] at h; cases h
        · rw [if_neg ha] at h
          by_cases h11 : S.1 + 1 = 12
          · rw [if_pos h11] at h; cases h
          · rw [if_neg h11] at h
            have k4 : tK T q = 4 := by
              have z : (tkS T q 43 || tkS T q 45) = true := by
                cases hz : (tkS T q 43 || tkS T q 45)
                · exact absurd hz ha
                · rfl
              rw [Bool.or_eq_true] at z
              exact z.elim (fun z => (tkS_k z).1) (fun z => (tkS_k z).1)
            exact rdM_ok hL (tX_le u1 (by omega) (by omega)).2 uS (by show S.1 + 1 < 12; omega) h
theorem MSz_ok {N : Nat → Nat} : MSok N MSz := ⟨by show 0 ≤ 12; omega, fun j hj => absurd hj (by show ¬ j < 0; omega)⟩
theorem an4 {T : TE} {p : Nat} (h : anS T p = true) : tK T p = 4 := by
  have z : (tkS T p 43 || tkS T p 45) = true := h
  rw [Bool.or_eq_true] at z
  exact z.elim (fun z => (tkS_k z).1) (fun z => (tkS_k z).1)
theorem rdM0_ok {T : TE} {N : Nat → Nat} {S : MS} (hL : tL T ≤ 640) (h : rdM0 T N = .inr S) : MSok N S ∧ 1 ≤ S.1 := by
  unfold rdM0 at h
  refine rdM_ok hL ?_ MSz_ok (by show 0 < 12; omega) h
  by_cases c : anS T 0 = true
  · rw [if_pos c]
    have := an4 c
    exact (tX_le (by omega) (by omega) (by omega)).2
  · rw [if_neg c]; omega
def mxB (N : Nat → Nat) (R : Nat → Nat → Nat → Int64) (S : MS) : Bool := wiB (N (S.2 0).1) (MxV (N (S.2 0).1) R S)
def mixV (N : Nat → Nat) (R : Nat → Nat → Nat → Int64) : Sum (Nat × Nat) MS → Int32
  | .inl e => -nI 1 - nI e.2
  | .inr S => if mxB N R S = true then nI S.1 else -nI 2000
def mixF : Sum (Nat × Nat) MS → Int32
  | .inl e => nI e.1
  | .inr _ => nI 0
def mixN (N : Nat → Nat) (R : Nat → Nat → Nat → Int64) (t : Nat) : Sum (Nat × Nat) MS → Nat → Nat
  | .inl _ => N
  | .inr S => if mxB N R S = true then va_up N t (N (S.2 0).1) else N
def mixR (N : Nat → Nat) (R : Nat → Nat → Nat → Int64) (t : Nat) : Sum (Nat × Nat) MS → Nat → Nat → Nat → Int64
  | .inl _ => R
  | .inr S => if mxB N R S = true then va_up R t (MxV (N (S.2 0).1) R S) else R
def FMX (k : Nat) : Prop := k = 0 ∨ F511 k ∨ FRS k
section WPMIX
variable {X : ab_X} {l : Launch}
theorem k_WP_mix_n (x : Int32) (w : ab_W) (n : Nat) {kn ks : Nat} {lf a b c d e f : Int32} (hx : x < 0 ∨ nI 8 ≤ x) (h0 : w 0 = oWP kn ks lf) (h1 : w 1 = oTape a b c d e f) : ab_C X l i_WP_mix [.ref 0, .int x] w n 0 0 (ab_q1 (some (.int (-nI 1000))) (va_up w 1 (oTape (nI 0) b c d e f)) n) := by
  obtain ⟨w, rfl⟩ := va_ex2 h0 h1
  refine ab_metI cd_122 om_122 rfl (ab_sound ok_122 [] 80 ?_)
  (refine Exists.intro 0 ?_; refine ⟨0, _, Nat.zero_le _, Nat.zero_le _, c_WP_isSheet_n _ _ _ hx, ?_⟩; rintro _ _ _ ⟨rfl, rfl, rfl⟩)
  refine And.intro (fun _ => ?_) (fun h_9 => absurd (rfl) h_9)
  exact ⟨rfl, (by first | rfl | (simp only [va_uu, va_uc, Nat.reduceLT]; done) | (simp only [va_uu, va_uc, Nat.reduceLT]; rfl)), rfl⟩
theorem k_WP_mix_y (x : Int32) (t L : Nat) (tb : Nat → Int32) (w : ab_W) (n : Nat) {N : Nat → Nat} {R : Nat → Nat → Nat → Int64} {kn ks : Nat} {lf b c d e f : Int32} (hx : x = nI t) (ht : t < 8) (hL : L ≤ 640) (hB : KB w n kn ks lf N R) (h1 : w 1 = oTape (nI L) b c d e f) (h2 : w 2 = aI 640 tb) (hC : CMs w) :
    ab_C X l i_WP_mix [.ref 0, .int x] w n 1 3480 (qI (mixV N R (rdM0 (tb, L, 200) N)) (fun w' n' => n ≤ n' ∧ Fr FMX w w' ∧ (∃ b c d e f, w' 1 = oTape (nI 0) b c d e f) ∧ CMs w' ∧ KB w' n' kn ks (mixF (rdM0 (tb, L, 200) N)) (mixN N R t (rdM0 (tb, L, 200) N)) (mixR N R t (rdM0 (tb, L, 200) N)))) := by
  subst hx
  have cr := k_MR_read (X := X) (l := l) (tb, L, 200) w n rfl hL h1 h2 hC hB.2.2.1.sn
  have hok : ∀ S, rdM0 (tb, L, 200) N = .inr S → MSok N S ∧ 1 ≤ S.1 := fun S hS => rdM0_ok (T := (tb, L, 200)) hL hS
  generalize rdM0 (tb, L, 200) N = O at cr hok ⊢
  have hC2 := hC
  obtain ⟨⟨a1, a2, a3, h5⟩, -⟩ := hC2
  obtain ⟨h0, hK, hSh, g43, h43⟩ := hB
  have hsh40 : ∃ g : Nat → Option Nat, w 40 = .inl (3, 8, .inr (.inr (.inr (.inr g)))) ∧ ∀ t, t < 8 → g t = some (74 + 2 * t) := by
    obtain ⟨b, -, ⟨g, h1, h2⟩, -⟩ := hSh
    exact ⟨g, h1, h2⟩
  obtain ⟨gg, h40, h40b⟩ := hsh40
  obtain ⟨w, rfl⟩ := va_ex4 h0 h1 h5 h40
  refine ab_mqI cd_122 om_122 rfl (ab_sound ok_122 [64] 80 ?_)
  (refine Exists.intro 0 ?_; refine ⟨0, _, Nat.zero_le _, Nat.zero_le _, c_WP_isSheet_y _ t _ _ rfl ht, ?_⟩; refine ab_q1_elim ?_)
  refine And.intro (fun h_9 => absurd h_9 ((by decide))) (fun _ => ?_)
  (refine Exists.intro 0 ?_; refine ⟨0, _, Nat.zero_le _, Nat.zero_le _, cr, ?_⟩; rintro _ w1 _ ⟨v, rfl, rfl, f1, ⟨b9, c9, d9, e9, f9, y1⟩, yC, hl, hr⟩)
  have y0 : w1 0 = oWP kn ks lf := f1.get rfl (by unfold F511; omega)
  have y40 : w1 40 = .inl (3, 8, .inr (.inr (.inr (.inr gg)))) := f1.get rfl (by unfold F511; omega)
  have yK : KS0 w1 := hK.fr f1 (by unfold F511; omega) (by unfold F511; omega) (by unfold F511; omega)
  have ySh : KSh w1 n N R := hSh.fr f1 (fun k hk => ⟨by unfold F511 at hk; omega, by unfold F511 at hk; unfold FS; omega⟩) (Nat.le_refl _)
  have y43 := f1.get h43 (by unfold F511; omega)
  have fM := f1.mono (G := FMX) (fun k hk => Or.inr (Or.inl hk))
  have y1 : w1 1 = oTape (nI L) b9 c9 d9 e9 f9 := y1
  cases O with
  | inl q =>
    obtain ⟨rfl, r3, g5⟩ := hl q rfl
    have hB9 : KB (va_up w1 0 (oWP kn ks (nI q.1))) n kn ks (nI q.1) N R := ⟨rfl, yK.fr ((Fr.refl (F := fun k => k = 0)).up rfl) (by omega) (by omega) (by omega), ySh.fr ((Fr.refl (F := fun k => k = 0)).up rfl) (fun k hk => ⟨by omega, by unfold FS; omega⟩) (Nat.le_refl _), g43, y43⟩
    have hB8 : ∀ x9 : va_E, KB (va_up (va_up w1 0 (oWP kn ks (nI q.1))) 1 x9) n kn ks (nI q.1) N R := fun x9 => ⟨rfl, hB9.2.1.fr ((Fr.refl (F := fun k => k = 1)).up rfl) (by omega) (by omega) (by omega), hB9.2.2.1.fr ((Fr.refl (F := fun k => k = 1)).up rfl) (fun k hk => ⟨by omega, by unfold FS; omega⟩) (Nat.le_refl _), g43, y43⟩
    obtain ⟨w1, rfl⟩ := va_ex3 y0 y1 g5
    have at64 : ab_Ev X l i_WP_mix 64 [some (.ref 0), some (.int (nI t)), some (.int (-nI 1000)), some (.int (b01 false))] [.int (-nI 1 - nI q.2)] (va_up (va_up (va_up (va_up w1 5 (oMR (nI q.1) (nI q.2) r3)) 1 (oTape (nI L) b9 c9 d9 e9 f9)) 0 (oWP kn ks lf)) 0 (oWP kn ks (nI q.1))) n 1 3480 (qI (mixV N R (.inl q)) (fun w' n' => n ≤ n' ∧ Fr FMX (va_up (va_up (va_up (va_up w 40 (.inl (3, 8, .inr (.inr (.inr (.inr gg)))))) 5 (oMR a1 a2 a3)) 1 (oTape (nI L) b c d e f)) 0 (oWP kn ks lf)) w' ∧ (∃ b c d e f, w' 1 = oTape (nI 0) b c d e f) ∧ CMs w' ∧ KB w' n' kn ks (mixF (.inl q)) (mixN N R t (.inl q)) (mixR N R t (.inl q)))) := by
      refine ab_sound ok_122 [] 80 ?_
      exact ⟨rfl, Nat.le_refl _, (fM.up (Or.inl rfl)).up (Or.inr (Or.inl (Or.inl rfl))), ⟨_, _, _, _, _, rfl⟩, yC, hB8 _⟩
    refine And.intro (fun _ => ?_) (fun h_9 => absurd (rfl) h_9)
    exact ab_ev_of at64 rfl rfl rfl
  | inr S =>
    obtain ⟨rfl, r2, gC⟩ := hr S rfl
    obtain ⟨uS, u1⟩ := hok S rfl
    have g5 := gC.1
    have hB9 : KB (va_up w1 0 (oWP kn ks (nI 0))) n kn ks (nI 0) N R := ⟨rfl, yK.fr ((Fr.refl (F := fun k => k = 0)).up rfl) (by omega) (by omega) (by omega), ySh.fr ((Fr.refl (F := fun k => k = 0)).up rfl) (fun k hk => ⟨by omega, by unfold FS; omega⟩) (Nat.le_refl _), g43, y43⟩
    have gC9 : CMx (va_up w1 0 (oWP kn ks (nI 0))) S (nI 0) r2 := gC.fr ((Fr.refl (F := fun k => k = 0)).up rfl) (fun k hk => by omega)
    have cm := k_mixInto (X := X) (l := l) t (N (S.2 0).1) (va_up w1 0 (oWP kn ks (nI 0))) n ht rfl u1 uS gC9 hB9
    have fM0 := fM.up (k := 0) (c := oWP kn ks (nI 0)) (Or.inl rfl)
    have y1b : va_up w1 0 (oWP kn ks (nI 0)) 1 = oTape (nI L) b9 c9 d9 e9 f9 := y1
    obtain ⟨w1, rfl⟩ := va_ex4 y0 y1 g5 y40
    have at64 : ∀ (w2 : ab_W) (n2 : Nat) (z : Int32), z = mixV N R (.inr S) → n ≤ n2 → Fr FRS (va_up (va_up (va_up (va_up (va_up w1 40 (.inl (3, 8, .inr (.inr (.inr (.inr gg)))))) 5 (oMR (nI 0) r2 (nI S.1))) 1 (oTape (nI L) b9 c9 d9 e9 f9)) 0 (oWP kn ks lf)) 0 (oWP kn ks (nI 0))) w2 → KB w2 n2 kn ks (nI 0) (mixN N R t (.inr S)) (mixR N R t (.inr S)) → ab_Ev X l i_WP_mix 64 [some (.ref 0), some (.int (nI t)), some (.int (-nI 1000)), some (.int (b01 true))] [.int z] w2 n2 0 0 (qI (mixV N R (.inr S)) (fun w' n' => n ≤ n' ∧ Fr FMX (va_up (va_up (va_up (va_up w 40 (.inl (3, 8, .inr (.inr (.inr (.inr gg)))))) 5 (oMR a1 a2 a3)) 1 (oTape (nI L) b c d e f)) 0 (oWP kn ks lf)) w' ∧ (∃ b c d e f, w' 1 = oTape (nI 0) b c d e f) ∧ CMs w' ∧ KB w' n' kn ks (mixF (.inr S)) (mixN N R t (.inr S)) (mixR N R t (.inr S)))) := by
      intro w2 n2 z hz hn f2 hB2
      have x1 : w2 1 = oTape (nI L) b9 c9 d9 e9 f9 := f2.get rfl (by unfold FRS FS; omega)
      have x0 := hB2.1
      have xC : CMs w2 := gC9.sh.fr f2 (fun k hk => by unfold FRS FS at hk; omega)
      have hB8 : KB (va_up w2 1 (oTape (nI 0) b9 c9 d9 e9 f9)) n2 kn ks (nI 0) (mixN N R t (.inr S)) (mixR N R t (.inr S)) := ⟨x0, hB2.2.1.fr ((Fr.refl (F := fun k => k = 1)).up rfl) (by omega) (by omega) (by omega), hB2.2.2.1.fr ((Fr.refl (F := fun k => k = 1)).up rfl) (fun k hk => ⟨by omega, by unfold FS; omega⟩) (Nat.le_refl _), hB2.2.2.2⟩
      have f3 := (fM0.trans (f2.mono (fun k hk => Or.inr (Or.inr hk)))).up (k := 1) (c := oTape (nI 0) b9 c9 d9 e9 f9) (Or.inr (Or.inl (Or.inl rfl)))
      obtain ⟨w2, rfl⟩ := va_ex2 x0 x1
      refine ab_sound ok_122 [] 80 ?_
      exact ⟨by rw [hz], hn, f3, ⟨_, _, _, _, _, rfl⟩, xC, hB8⟩
    refine And.intro (fun h_9 => absurd h_9 ((by decide))) (fun _ => ?_)
    refine And.intro (vp_in_nI ht (by omega)) ?_
    intro z hz
    rw [nI_clamp (by omega), h40b t ht] at hz
    subst hz
    (refine Exists.intro 1 ?_; refine ⟨3480, _, by omega, by omega, cm, ?_⟩; rintro _ w2 n2 ⟨rfl, b1, b2, b3⟩)
    exact at64 w2 n2 _ rfl b1 b2 b3
end WPMIX

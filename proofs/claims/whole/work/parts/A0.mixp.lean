/-! a mix's text, pure: the changes of a part -/
abbrev Pt : Type := Int × Int × Bool × Bool
def wyI (b : Bool) (v : Int) : Int := if b = true then -v else v
def chX (T : TE) (p : Nat) (x : Pt) : Pt := if tkW T p 6 = true then (x.1 + (tV T (tX T p) : Int), x.2.1, x.2.2.1, x.2.2.2) else (x.1, x.2.1 + wyI x.2.2.1 (tV T (tX T p) : Int), x.2.2.1, x.2.2.2)
def chg (T : TE) : Nat → Nat → Pt → Sum (Nat × Nat) (Nat × Pt)
  | 0, _, _ => .inl (0, 0)
  | f + 1, p, x => if tK T p ≠ 2 then .inr (p, x) else if tkW T p 7 = true then chg T f (tX T p) (-x.1, x.2.1, x.2.2.1, !x.2.2.2) else if tkW T p 8 = true then chg T f (tX T p) (x.1, x.2.1, !x.2.2.1, x.2.2.2) else if tkW T p 6 = true ∨ tkW T p 9 = true then (if tK T (tX T p) ≠ 3 then .inl (1, tP T (tX T p)) else chg T f (tX T (tX T p)) (chX T p x)) else .inl (1, tP T p)
theorem tq_lt {T : TE} {p : Nat} (hp : p ≤ tL T) (h5 : tK T p ≠ 5) (h0 : tK T p ≠ 0) : p ≤ tQ T p ∧ (tM T < tL T → tQ T p < tM T) ∧ tQ T p < tL T := by
  obtain ⟨a, b⟩ := tk_in hp h5 h0
  exact ⟨tQ_ge, fun z => by omega, a⟩
theorem tkW_ne {T : TE} {p i j : Nat} (hi : i < 10) (hj : j < 10) (hij : i ≠ j) (h : tkW T p i = true) : tkW T p j = false := by
  have k := tkW_k h
  apply Bool.eq_false_iff.mpr
  intro z
  have k2 := tkW_k z
  have e : KW i = KW j := by rw [← k.2, k2.2]
  have inj : ∀ i, i < 10 → ∀ j, j < 10 → KW i = KW j → i = j := by decide +kernel
  exact hij (inj i hi j hj e)
theorem narB {v : Bool} : vp_nar .boolean (b01 v) = b01 v := by cases v <;> decide +kernel
def wyV (b : Bool) : Int32 := if b = true then -nI 1 else nI 1
section MCHG
variable {X : ab_X} {l : Launch}
theorem c_MR_fail (x : Int32) (w : ab_W) (n : Nat) {a b c d e f r1 r2 r3 : Int32} (h1 : w 1 = oTape a b c d e f) (h5 : w 5 = oMR r1 r2 r3) :
    ab_C X l i_MR_fail [.ref 5, .ref 1, .int x] w n 0 0 (ab_q1 (some (.int (nI 0))) (va_up w 5 (oMR x e r3)) n) := by
  obtain ⟨w, rfl⟩ := va_ex2 h1 h5
  refine ab_metI cd_30 om_30 rfl (ab_sound ok_30 [] 80 ?_)
  exact ⟨rfl, rfl, (by first | rfl | (simp only [va_uu, va_uc, Nat.reduceLT]; done) | (simp only [va_uu, va_uc, Nat.reduceLT]; rfl)), rfl⟩
theorem k_MR_fail (T : TE) (p k : Nat) (w : ab_W) (n : Nat) {f r1 r2 r3 x : Int32} (hx : x = nI k) (h1 : w 1 = oTk T p f) (h5 : w 5 = oMR r1 r2 r3) :
    ab_C X l i_MR_fail [.ref 5, .ref 1, .int x] w n 0 0 (ab_q1 (some (.int (nI 0))) (va_up w 5 (oMR (nI k) (nI (tP T p)) r3)) n) := by
  rw [← hx]
  exact c_MR_fail x w n h1 h5
theorem k_MR_isAnySign (T : TE) (p : Nat) (w : ab_W) (n : Nat) {f : Int32} (hp : p ≤ tL T) (h1 : w 1 = oTk T p f) : ab_C X l i_MR_isAnySign [.ref 1] w n 0 0 (ab_q1 (some (.int (b01 (tkS T p 43 || tkS T p 45)))) w n) := by
  obtain ⟨w, rfl⟩ := va_ex h1
  refine ab_metI cd_28 om_28 rfl (ab_sound ok_28 [] 80 ?_)
  (refine Exists.intro 0 ?_; refine ⟨0, _, Nat.zero_le _, Nat.zero_le _, k_isSign T p 43 _ _ rfl (by omega) hp rfl, ?_⟩; refine ab_q1_elim ?_)
  cases c : tkS T p 43
  · refine And.intro (fun h_9 => absurd (rfl) h_9) (fun _ => ?_)
    (refine Exists.intro 0 ?_; refine ⟨0, _, Nat.zero_le _, Nat.zero_le _, k_isSign T p 45 _ _ rfl (by omega) hp rfl, ?_⟩; refine ab_q1_elim ?_)
    cases d : tkS T p 45
    · refine And.intro (fun _ => ?_) (fun h_9 => absurd (rfl) h_9)
      exact ⟨rfl, rfl, rfl, rfl⟩
    · refine And.intro (fun h_9 => absurd h_9 ((by decide))) (fun _ => ?_)
      exact ⟨rfl, rfl, rfl, rfl⟩
  · refine And.intro (fun _ => ?_) (fun h_9 => absurd h_9 ((by decide)))
    exact ⟨rfl, rfl, rfl, rfl⟩
def mcQ (T : TE) (k : Nat) (w : ab_W) (n : Nat) (r1 r2 : Int32) (f8 f9 f10 f11 : Nat → Int32) (o : Sum (Nat × Nat) (Nat × Pt)) : ab_Q := fun v w' n' => ∃ b : Bool, v = some (.int (b01 b)) ∧ n = n' ∧ Fr (fun j => j = 1 ∨ j = 5 ∨ (8 ≤ j ∧ j ≤ 11)) w w' ∧ (∃ x, w' 8 = aI 12 (upd f8 k x)) ∧ (∃ x, w' 9 = aI 12 (upd f9 k x)) ∧ (∃ x, w' 10 = aI 12 (upd f10 k x)) ∧ (∃ x, w' 11 = aZ 12 (upd f11 k x)) ∧ (∀ e, o = .inl e → b = false ∧ w' 5 = oMR (nI e.1) (nI e.2) (nI k) ∧ isTp T (w' 1)) ∧ (∀ y, o = .inr y → b = true ∧ w' 5 = oMR r1 r2 (nI k) ∧ (∃ g, w' 1 = oTk T y.1 g) ∧ w' 8 = aI 12 (upd f8 k (Int32.ofInt y.2.1)) ∧ w' 9 = aI 12 (upd f9 k (Int32.ofInt y.2.2.1)) ∧ w' 10 = aI 12 (upd f10 k (wyV y.2.2.2.1)) ∧ w' 11 = aZ 12 (upd f11 k (b01 y.2.2.2.2)))
theorem wy_neg {b : Bool} : -wyV b = wyV (!b) := by cases b <;> decide
theorem wy_mul {b : Bool} {v : Nat} : wyV b * nI v = Int32.ofInt (wyI b (v : Int)) := by
  unfold wyV wyI
  cases b
  · rw [if_neg (by decide), if_neg (by decide), nI_mul, Nat.one_mul, nI_ofInt]
  · rw [if_pos rfl, if_pos rfl, Int32.neg_mul, nI_mul, Nat.one_mul, nI_ofInt, Int32.ofInt_neg]
theorem k_MR_readChanges (T : TE) (k p : Nat) (x : Pt) (w : ab_W) (n : Nat) {g r1 r2 : Int32} {f8 f9 f10 f11 : Nat → Int32} (hk : k < 12) (hM : tM T ≤ 200) (hL : tL T ≤ 640) (hp : p ≤ tL T) (h1 : w 1 = oTk T p g) (h2 : w 2 = aI 640 (tB T)) (h5 : w 5 = oMR r1 r2 (nI k)) (h8 : w 8 = aI 12 (upd f8 k (Int32.ofInt x.1))) (h9 : w 9 = aI 12 (upd f9 k (Int32.ofInt x.2.1))) (h10 : w 10 = aI 12 (upd f10 k (wyV x.2.2.1))) (h11 : w 11 = aZ 12 (upd f11 k (b01 x.2.2.2))) :
    ab_C X l i_MR_readChanges [.ref 5, .ref 1] w n 0 0 (mcQ T k w n r1 r2 f8 f9 f10 f11 (chg T 700 p x)) := by
  generalize hO : chg T 700 p x = O
  have loop : ∀ (fl i p : Nat) (x : Pt) (g : Int32) (w1 : ab_W) (x3 : Option Value), i ≤ p → p + fl ≥ 641 → p ≤ tL T → Fr (fun j => j = 1 ∨ j = 5 ∨ (8 ≤ j ∧ j ≤ 11)) w w1 → w1 1 = oTk T p g → w1 2 = aI 640 (tB T) → w1 5 = oMR r1 r2 (nI k) → w1 8 = aI 12 (upd f8 k (Int32.ofInt x.1)) → w1 9 = aI 12 (upd f9 k (Int32.ofInt x.2.1)) → w1 10 = aI 12 (upd f10 k (wyV x.2.2.1)) → w1 11 = aZ 12 (upd f11 k (b01 x.2.2.2)) → chg T fl p x = O → ab_Ev X l i_MR_readChanges 2 [some (.ref 5), some (.ref 1), some (.int (nI i)), x3] [] w1 n 0 0 (mcQ T k w n r1 r2 f8 f9 f10 f11 O) := by
    intro fl
    induction fl with
    | zero => intro i p x g w1 x3 hi hf hp; omega
    | succ fl ih =>
      intro i p x g w1 x3 hi hf hp fr m1 m2 m5 m8 m9 m10 m11 ho
      obtain ⟨tu, fm, bk, mi⟩ := x
      have ho : (if tK T p ≠ 2 then .inr (p, (tu, fm, bk, mi)) else if tkW T p 7 = true then chg T fl (tX T p) (-tu, fm, bk, !mi) else if tkW T p 8 = true then chg T fl (tX T p) (tu, fm, !bk, mi) else if tkW T p 6 = true ∨ tkW T p 9 = true then (if tK T (tX T p) ≠ 3 then .inl (1, tP T (tX T p)) else chg T fl (tX T (tX T p)) (chX T p (tu, fm, bk, mi))) else .inl (1, tP T p)) = O := ho
      have m8 : w1 8 = aI 12 (upd f8 k (Int32.ofInt tu)) := m8
      have m9 : w1 9 = aI 12 (upd f9 k (Int32.ofInt fm)) := m9
      have m10 : w1 10 = aI 12 (upd f10 k (wyV bk)) := m10
      have m11 : w1 11 = aZ 12 (upd f11 k (b01 mi)) := m11
      obtain ⟨w1, rfl⟩ : ∃ w0, w1 = va_up (va_up (va_up (va_up (va_up (va_up (va_up w0 11 (aZ 12 (upd f11 k (b01 mi)))) 10 (aI 12 (upd f10 k (wyV bk)))) 9 (aI 12 (upd f9 k (Int32.ofInt fm)))) 8 (aI 12 (upd f8 k (Int32.ofInt tu)))) 5 (oMR r1 r2 (nI k))) 2 (aI 640 (tB T))) 1 (oTk T p g) := ⟨w1, by rw [← va_self m11, ← va_self m10, ← va_self m9, ← va_self m8, ← va_self m5, ← va_self m2, ← va_self m1]⟩
      by_cases hk2 : tK T p = 2
      · obtain ⟨q1, q2, q3⟩ := tq_lt hp (by omega) (by omega)
        have hx := tX_le hp (by omega) (by omega)
        have hi200 : i < 200 := by
          by_cases z : tM T < tL T
          · have := q2 z; omega
          · omega
        have ek := (tk_cell (T := T) (p := p) (by omega) (by omega)).2
        rw [if_neg (fun z => z hk2)] at ho
        have at212 : ∀ (y : Pt) (g2 : Int32) (p2 : Nat) (w2 : ab_W) (x3 : Option Value), p2 ≤ tL T → i + 1 ≤ tX T p2 → tX T p2 + fl ≥ 641 → tK T p2 ≠ 5 → tK T p2 ≠ 0 → Fr (fun j => j = 1 ∨ j = 5 ∨ (8 ≤ j ∧ j ≤ 11)) w w2 → w2 1 = oTk T p2 g2 → w2 2 = aI 640 (tB T) → w2 5 = oMR r1 r2 (nI k) → w2 8 = aI 12 (upd f8 k (Int32.ofInt y.1)) → w2 9 = aI 12 (upd f9 k (Int32.ofInt y.2.1)) → w2 10 = aI 12 (upd f10 k (wyV y.2.2.1)) → w2 11 = aZ 12 (upd f11 k (b01 y.2.2.2)) → chg T fl (tX T p2) y = O → ab_Ev X l i_MR_readChanges 212 [some (.ref 5), some (.ref 1), some (.int (nI i)), x3] [] w2 n 0 0 (mcQ T k w n r1 r2 f8 f9 f10 f11 O) := by
          intro y g2 p2 w2 x3 hp2 j1 j2 k5 k0 fr2 y1 y2 y5 y8 y9 y10 y11 hoo
          have ih := ih (i + 1) (tX T p2) y (cV T p2 g2) (va_up w2 1 (oTk T (tX T p2) (cV T p2 g2))) x3 j1 j2 (tX_le hp2 k5 k0).2 (fr2.up (Or.inl rfl)) rfl y2 y5 y8 y9 y10 y11 hoo
          obtain ⟨w2, rfl⟩ := va_ex2 y1 y2
          refine ab_sound ok_31 [2] 80 ?_
          (refine Exists.intro 0 ?_; refine ⟨0, _, Nat.zero_le _, Nat.zero_le _, k_adv T p2 _ _ hL hp2 k5 k0 rfl rfl, ?_⟩; refine ab_q1_elim ?_)
          exact ab_ev_of ih (by rw [nI_s i]; rfl) rfl rfl
        have W1 : w1 = w1 := rfl
        refine ab_sound ok_31 [58, 125, 212] 80 ?_
        refine And.intro (fun h_9 => absurd h_9 (nI_ge hi200 (by omega))) (fun _ => ?_)
        refine And.intro (fun h_9 => absurd ((by show nI (cK T p) = nI 2; rw [ek, hk2])) h_9) (fun _ => ?_)
        (refine Exists.intro 0 ?_; refine ⟨0, _, Nat.zero_le _, Nat.zero_le _, k_isWord_6 T p _ _ hL hp rfl rfl, ?_⟩; refine ab_q1_elim ?_)
        (refine Exists.intro 0 ?_; refine ⟨0, _, Nat.zero_le _, Nat.zero_le _, k_isWord_7 T p _ _ hL hp rfl rfl, ?_⟩; refine ab_q1_elim ?_)
        cases c7 : tkW T p 7
        · rw [if_neg (by rw [c7]; decide)] at ho
          refine And.intro (fun _ => ?_) (fun h_9 => absurd (rfl) h_9)
          (refine Exists.intro 0 ?_; refine ⟨0, _, Nat.zero_le _, Nat.zero_le _, k_isWord_8 T p _ _ hL hp rfl rfl, ?_⟩; refine ab_q1_elim ?_)
          cases c8 : tkW T p 8
          · rw [if_neg (by rw [c8]; decide)] at ho
            refine And.intro (fun _ => ?_) (fun h_9 => absurd (rfl) h_9)
            have at125 : tkW T p 6 = true ∨ tkW T p 9 = true → ab_Ev X l i_MR_readChanges 125 [some (.ref 5), some (.ref 1), some (.int (nI i)), some (.int (b01 (tkW T p 6)))] [] (va_up (va_up (va_up (va_up (va_up (va_up (va_up w1 11 (aZ 12 (upd f11 k (b01 mi)))) 10 (aI 12 (upd f10 k (wyV bk)))) 9 (aI 12 (upd f9 k (Int32.ofInt fm)))) 8 (aI 12 (upd f8 k (Int32.ofInt tu)))) 5 (oMR r1 r2 (nI k))) 2 (aI 640 (tB T))) 1 (oTk T p g)) n 0 0 (mcQ T k w n r1 r2 f8 f9 f10 f11 O) := by
              intro c69
              rw [if_pos c69] at ho
              refine ab_sound ok_31 [212] 80 ?_
              (refine Exists.intro 0 ?_; refine ⟨0, _, Nat.zero_le _, Nat.zero_le _, k_adv T p _ _ hL hp (by omega) (by omega) rfl rfl, ?_⟩; refine ab_q1_elim ?_)
              by_cases hk3 : tK T (tX T p) = 3
              · rw [if_neg (fun z => z hk3)] at ho
                have hx2 := tX_le hx.2 (by omega) (by omega)
                have ek3 := (tk_cell (T := T) (p := tX T p) (by omega) (by omega)).2
                have ev : cV T (tX T p) (cV T p g) = nI (tV T (tX T p)) := cV_eq hx.2 (by omega) (by omega)
                have vl := tk_nlt hx.2 hk3
                refine And.intro (fun _ => ?_) (fun h_9 => absurd ((by show nI (cK T (tX T p)) = nI 3; rw [ek3, hk3])) h_9)
                refine And.intro (vp_in_nI hk (by omega)) ?_
                rw [nI_clamp (by omega), upd_at]
                cases c6 : tkW T p 6
                · have c9 := c69.resolve_left (by rw [c6]; decide)
                  have hch : chX T p (tu, fm, bk, mi) = (tu, fm + wyI bk (tV T (tX T p) : Int), bk, mi) := by unfold chX; rw [if_neg (by rw [c6]; decide)]
                  rw [hch] at ho
                  refine And.intro (fun _ => ?_) (fun h_9 => absurd (rfl) h_9)
                  refine And.intro (vp_in_nI hk (by omega)) ?_
                  rw [nI_clamp (by omega), upd_upd]
                  refine And.intro (vp_in_nI hk (by omega)) ?_
                  rw [nI_clamp (by omega), upd_at]
                  refine And.intro (fun _ => ?_) (fun h_9 => absurd (rfl) h_9)
                  refine And.intro (vp_in_nI hk (by omega)) ?_
                  rw [nI_clamp (by omega), upd_at]
                  refine And.intro (vp_in_nI hk (by omega)) ?_
                  rw [nI_clamp (by omega), upd_upd]
                  refine at212 (tu, fm + wyI bk (tV T (tX T p) : Int), bk, mi) _ (tX T p) _ _ hx.2 (by omega) (by omega) (by omega) (by omega) (((fr.up (k := 1) (c := oTk T (tX T p) (cV T p g)) (Or.inl rfl)).up (k := 8) (c := aI 12 (upd f8 k (Int32.ofInt tu + nI 0))) (by omega)).up (k := 9) (c := aI 12 (upd f9 k (Int32.ofInt fm + wyV bk * cV T (tX T p) (cV T p g)))) (by omega)) rfl rfl rfl ?_ ?_ rfl rfl ho
                  · show aI 12 (upd f8 k (Int32.ofInt tu + nI 0)) = aI 12 (upd f8 k (Int32.ofInt tu))
                    rw [show nI 0 = (0 : Int32) from rfl, Int32.add_zero]
                  · show aI 12 (upd f9 k (Int32.ofInt fm + wyV bk * cV T (tX T p) (cV T p g))) = aI 12 (upd f9 k (Int32.ofInt (fm + wyI bk (tV T (tX T p) : Int))))
                    rw [ev, wy_mul, Int32.ofInt_add]
                · have hch : chX T p (tu, fm, bk, mi) = (tu + (tV T (tX T p) : Int), fm, bk, mi) := by unfold chX; rw [if_pos c6]
                  rw [hch] at ho
                  refine And.intro (fun h_9 => absurd h_9 ((by decide))) (fun _ => ?_)
                  refine And.intro (vp_in_nI hk (by omega)) ?_
                  rw [nI_clamp (by omega), upd_upd]
                  refine And.intro (vp_in_nI hk (by omega)) ?_
                  rw [nI_clamp (by omega), upd_at]
                  refine And.intro (fun h_9 => absurd h_9 ((by decide))) (fun _ => ?_)
                  refine And.intro (vp_in_nI hk (by omega)) ?_
                  rw [nI_clamp (by omega), upd_upd]
                  refine at212 (tu + (tV T (tX T p) : Int), fm, bk, mi) _ (tX T p) _ _ hx.2 (by omega) (by omega) (by omega) (by omega) (((fr.up (k := 1) (c := oTk T (tX T p) (cV T p g)) (Or.inl rfl)).up (k := 8) (c := aI 12 (upd f8 k (Int32.ofInt tu + cV T (tX T p) (cV T p g)))) (by omega)).up (k := 9) (c := aI 12 (upd f9 k (Int32.ofInt fm + nI 0))) (by omega)) rfl rfl rfl ?_ ?_ rfl rfl ho
                  · show aI 12 (upd f8 k (Int32.ofInt tu + cV T (tX T p) (cV T p g))) = aI 12 (upd f8 k (Int32.ofInt (tu + (tV T (tX T p) : Int))))
                    rw [ev, nI_ofInt, Int32.ofInt_add]
                  · show aI 12 (upd f9 k (Int32.ofInt fm + nI 0)) = aI 12 (upd f9 k (Int32.ofInt fm))
                    rw [show nI 0 = (0 : Int32) from rfl, Int32.add_zero]
              · rw [if_pos hk3] at ho
                refine And.intro (fun h_9 => absurd h_9 ((oTk_k hk3 (by omega) (by omega)))) (fun _ => ?_)
                (refine Exists.intro 0 ?_; refine ⟨0, _, Nat.zero_le _, Nat.zero_le _, k_MR_fail T (tX T p) 1 _ _ rfl rfl rfl, ?_⟩; refine ab_q1_elim ?_)
                refine ⟨rfl, false, rfl, rfl, (fr.up (Or.inl rfl)).up (Or.inr (Or.inl rfl)), ⟨_, rfl⟩, ⟨_, rfl⟩, ⟨_, rfl⟩, ⟨_, rfl⟩, fun e he => ?_, fun y hy => ?_⟩
                · have z : (1, tP T (tX T p)) = e := Sum.inl.inj (ho.trans he)
                  subst z
                  exact ⟨rfl, rfl, tk_isTp⟩
                · have z := ho.trans hy
                  cases z
            cases c6 : tkW T p 6
            · rw [c6] at at125
              refine And.intro (fun h_9 => absurd (rfl) h_9) (fun _ => ?_)
              (refine Exists.intro 0 ?_; refine ⟨0, _, Nat.zero_le _, Nat.zero_le _, k_isWord_9 T p _ _ hL hp rfl rfl, ?_⟩; refine ab_q1_elim ?_)
              cases c9 : tkW T p 9
              · rw [if_neg (by rw [c6, c9]; decide)] at ho
                refine And.intro (fun _ => ?_) (fun h_9 => absurd (rfl) h_9)
                (refine Exists.intro 0 ?_; refine ⟨0, _, Nat.zero_le _, Nat.zero_le _, k_MR_fail T p 1 _ _ rfl rfl rfl, ?_⟩; refine ab_q1_elim ?_)
                refine ⟨rfl, false, rfl, rfl, fr.up (Or.inr (Or.inl rfl)), ⟨_, rfl⟩, ⟨_, rfl⟩, ⟨_, rfl⟩, ⟨_, rfl⟩, fun e he => ?_, fun y hy => ?_⟩
                · have z : (1, tP T p) = e := Sum.inl.inj (ho.trans he)
                  subst z
                  exact ⟨rfl, rfl, tk_isTp⟩
                · have z := ho.trans hy
                  cases z
              · refine And.intro (fun h_9 => absurd h_9 ((by decide))) (fun _ => ?_)
                exact at125 (Or.inr c9)
            · rw [c6] at at125
              refine And.intro (fun _ => ?_) (fun h_9 => absurd h_9 ((by decide)))
              exact at125 (Or.inl rfl)
          · rw [if_pos c8] at ho
            refine And.intro (fun h_9 => absurd h_9 ((by decide))) (fun _ => ?_)
            refine And.intro (vp_in_nI hk (by omega)) ?_
            rw [nI_clamp (by omega), upd_at]
            refine And.intro (vp_in_nI hk (by omega)) ?_
            rw [nI_clamp (by omega), upd_upd, wy_neg]
            exact at212 (tu, fm, !bk, mi) _ p _ _ hp (by omega) (by omega) (by omega) (by omega) (fr.up (k := 10) (c := aI 12 (upd f10 k (wyV (!bk)))) (by omega)) rfl rfl rfl rfl rfl rfl rfl ho
        · rw [if_pos c7] at ho
          refine And.intro (fun h_9 => absurd h_9 ((by decide))) (fun _ => ?_)
          refine And.intro (vp_in_nI hk (by omega)) ?_
          rw [nI_clamp (by omega), upd_at]
          have at58 : ∀ v : Bool, v = !mi → ab_Ev X l i_MR_readChanges 58 [some (.ref 5), some (.ref 1), some (.int (nI i)), some (.int (b01 (tkW T p 6)))] [.int (b01 v), .int (nI k), .ref 11] (va_up (va_up (va_up (va_up (va_up (va_up (va_up w1 11 (aZ 12 (upd f11 k (b01 mi)))) 10 (aI 12 (upd f10 k (wyV bk)))) 9 (aI 12 (upd f9 k (Int32.ofInt fm)))) 8 (aI 12 (upd f8 k (Int32.ofInt tu)))) 5 (oMR r1 r2 (nI k))) 2 (aI 640 (tB T))) 1 (oTk T p g)) n 0 0 (mcQ T k w n r1 r2 f8 f9 f10 f11 O) := by
            intro v hv
            refine ab_sound ok_31 [212] 80 ?_
            refine And.intro (vp_in_nI hk (by omega)) ?_
            rw [nI_clamp (by omega), upd_upd, narB]
            refine And.intro (vp_in_nI hk (by omega)) ?_
            rw [nI_clamp (by omega), upd_at]
            refine And.intro (vp_in_nI hk (by omega)) ?_
            rw [nI_clamp (by omega), upd_upd]
            refine at212 (-tu, fm, bk, !mi) _ p _ _ hp (by omega) (by omega) (by omega) (by omega) ((fr.up (k := 11) (c := aZ 12 (upd f11 k (b01 v))) (by omega)).up (k := 8) (c := aI 12 (upd f8 k (-Int32.ofInt tu))) (by omega)) rfl rfl rfl ?_ rfl rfl ?_ ho
            · show aI 12 (upd f8 k (-Int32.ofInt tu)) = aI 12 (upd f8 k (Int32.ofInt (-tu)))
              rw [Int32.ofInt_neg]
            · show aZ 12 (upd f11 k (b01 v)) = aZ 12 (upd f11 k (b01 (!mi)))
              rw [hv]
          cases mi
          · refine And.intro (fun h_9 => absurd (rfl) h_9) (fun _ => ?_)
            exact at58 true rfl
          · refine And.intro (fun _ => ?_) (fun h_9 => absurd h_9 ((by decide)))
            exact at58 false rfl
      · rw [if_pos hk2] at ho
        have fin : ∀ x3 : Option Value, ab_Ev X l i_MR_readChanges 222 [some (.ref 5), some (.ref 1), some (.int (nI i)), x3] [] (va_up (va_up (va_up (va_up (va_up (va_up (va_up w1 11 (aZ 12 (upd f11 k (b01 mi)))) 10 (aI 12 (upd f10 k (wyV bk)))) 9 (aI 12 (upd f9 k (Int32.ofInt fm)))) 8 (aI 12 (upd f8 k (Int32.ofInt tu)))) 5 (oMR r1 r2 (nI k))) 2 (aI 640 (tB T))) 1 (oTk T p g)) n 0 0 (mcQ T k w n r1 r2 f8 f9 f10 f11 O) := by
          intro x3
          refine ab_sound ok_31 [] 80 ?_
          refine ⟨rfl, true, rfl, rfl, fr, ⟨_, rfl⟩, ⟨_, rfl⟩, ⟨_, rfl⟩, ⟨_, rfl⟩, fun e he => ?_, fun y hy => ?_⟩
          · have z := ho.trans he
            cases z
          · have z : (p, (tu, fm, bk, mi)) = y := Sum.inr.inj (ho.trans hy)
            subst z
            exact ⟨rfl, rfl, ⟨_, rfl⟩, rfl, rfl, rfl, rfl⟩
        refine ab_sound ok_31 [222] 80 ?_
        by_cases z : i < 200
        · refine And.intro (fun h_9 => absurd h_9 (nI_ge z (by omega))) (fun _ => ?_)
          refine And.intro (fun _ => ?_) (fun h_9 => absurd h_9 ((oTk_k hk2 (by omega) (by omega))))
          exact fin _
        · refine And.intro (fun _ => ?_) (fun h_9 => absurd (nI_le (by omega) (by omega)) h_9)
          exact fin _
  refine ab_met cd_31 om_31 rfl (by rintro _ _ _ ⟨b, rfl, -⟩; trivial) (ab_sound ok_31 [2] 80 ?_)
  exact ab_ev_of (loop 700 0 p x g w none (by omega) (by omega) hp Fr.refl h1 h2 h5 h8 h9 h10 h11 hO) rfl rfl rfl
end MCHG

/-! a mix's text read by the class -/
def anS (T : TE) (p : Nat) : Bool := tkS T p 43 || tkS T p 45
def adM (S : MS) (d : PD) : MS := (S.1 + 1, va_up S.2 S.1 d)
def rdM (T : TE) (N : Nat → Nat) : Nat → MS → Nat → Bool → Sum (Nat × Nat) MS
  | 0, _, _, _ => .inl (0, 0)
  | f + 1, S, p, sg => match rdPt T N S p sg with
    | .inl e => .inl e
    | .inr y => if tK T y.1 = 0 then .inr (adM S y.2) else if anS T y.1 = false then .inl (1, tP T y.1) else if S.1 + 1 = 12 then .inl (2, tP T y.1) else rdM T N f (adM S y.2) (tX T y.1) (tkS T y.1 45)
def MSz : MS := (0, fun _ => (0, 0, 0, 0, false, false))
def rdM0 (T : TE) (N : Nat → Nat) : Sum (Nat × Nat) MS := rdM T N 13 MSz (if anS T 0 = true then tX T 0 else 0) (tkS T 0 45)
theorem wyI_ab {b : Bool} {v : Int} : (wyI b v).natAbs = v.natAbs := by
  unfold wyI
  cases b
  · rw [if_neg (by decide)]
  · rw [if_pos rfl, Int.natAbs_neg]
theorem chg_ok {T : TE} : ∀ {f p q : Nat} {x y : Pt}, p ≤ tL T → chg T f p x = .inr (q, y) → p ≤ q ∧ q ≤ tL T ∧ y.1.natAbs ≤ x.1.natAbs + 1000 * (q - p) ∧ y.2.1.natAbs ≤ x.2.1.natAbs + 1000 * (q - p)
  | 0, p, q, x, y, _, h => by cases h
  | f + 1, p, q, x, y, hp, h => by
    have h : (if tK T p ≠ 2 then .inr (p, x) else if tkW T p 7 = true then chg T f (tX T p) (-x.1, x.2.1, x.2.2.1, !x.2.2.2) else if tkW T p 8 = true then chg T f (tX T p) (x.1, x.2.1, !x.2.2.1, x.2.2.2) else if tkW T p 6 = true ∨ tkW T p 9 = true then (if tK T (tX T p) ≠ 3 then .inl (1, tP T (tX T p)) else chg T f (tX T (tX T p)) (chX T p x)) else .inl (1, tP T p)) = (.inr (q, y) : Sum (Nat × Nat) (Nat × Pt)) := h
    by_cases k2 : tK T p = 2
    · rw [if_neg (fun z => z k2)] at h
      have hx := tX_le hp (by omega) (by omega)
      by_cases c7 : tkW T p 7 = true
      · rw [if_pos c7] at h
        obtain ⟨a, b, c, d⟩ := chg_ok hx.2 h
        have c : y.1.natAbs ≤ (-x.1).natAbs + 1000 * (q - tX T p) := c
        have d : y.2.1.natAbs ≤ x.2.1.natAbs + 1000 * (q - tX T p) := d
        rw [Int.natAbs_neg] at c
        refine ⟨by omega, b, by omega, by omega⟩
      · rw [if_neg c7] at h
        by_cases c8 : tkW T p 8 = true
        · rw [if_pos c8] at h
          obtain ⟨a, b, c, d⟩ := chg_ok hx.2 h
          have c : y.1.natAbs ≤ x.1.natAbs + 1000 * (q - tX T p) := c
          have d : y.2.1.natAbs ≤ x.2.1.natAbs + 1000 * (q - tX T p) := d
          refine ⟨by omega, b, by omega, by omega⟩
        · rw [if_neg c8] at h
          by_cases c69 : tkW T p 6 = true ∨ tkW T p 9 = true
          · rw [if_pos c69] at h
            by_cases k3 : tK T (tX T p) = 3
            · rw [if_neg (fun z => z k3)] at h
              have hx2 := tX_le hx.2 (by omega) (by omega)
              have hv := tk_nlt hx.2 k3
              obtain ⟨a, b, c, d⟩ := chg_ok hx2.2 h
              have e : (chX T p x).1.natAbs ≤ x.1.natAbs + 999 ∧ (chX T p x).2.1.natAbs ≤ x.2.1.natAbs + 999 := by
                unfold chX
                by_cases c6 : tkW T p 6 = true
                · rw [if_pos c6]
                  refine ⟨?_, by show x.2.1.natAbs ≤ _; omega⟩
                  show (x.1 + (tV T (tX T p) : Int)).natAbs ≤ _
                  omega
                · rw [if_neg c6]
                  refine ⟨by show x.1.natAbs ≤ _; omega, ?_⟩
                  show (x.2.1 + wyI x.2.2.1 (tV T (tX T p) : Int)).natAbs ≤ _
                  have := wyI_ab (b := x.2.2.1) (v := (tV T (tX T p) : Int))
                  omega
              refine ⟨by omega, b, by omega, by omega⟩
            · rw [if_pos k3] at h; cases h
          · rw [if_neg c69] at h; cases h
    · rw [if_pos k2] at h
      have z := Sum.inr.inj h
      have z1 : p = q := congrArg Prod.fst z
      have z2 : x = y := congrArg Prod.snd z
      subst z1 z2
      exact ⟨by omega, hp, by omega, by omega⟩
def PDok (N : Nat → Nat) (M : Nat) (d : PD) : Prop := d.1 < 8 ∧ N d.1 = M ∧ d.2.1.natAbs ≤ 999 ∧ d.2.2.1.natAbs ≤ 640000 ∧ d.2.2.2.1.natAbs ≤ 640000
def MSok (N : Nat → Nat) (S : MS) : Prop := S.1 ≤ 12 ∧ ∀ j, j < S.1 → PDok N (N (S.2 0).1) (S.2 j) ∧ N (S.2 0).1 ≠ 0
theorem qNo_le {T : TE} {p : Nat} (hp : p ≤ tL T) : qNo T p ≤ tL T := by
  unfold qNo
  by_cases c : tK T p = 3
  · rw [if_pos c]; exact (tX_le hp (by omega) (by omega)).2
  · rw [if_neg c]; exact hp
theorem noV_le {T : TE} {p : Nat} (hp : p ≤ tL T) : noV T p ≤ 999 := by
  unfold noV
  by_cases c : tK T p = 3
  · rw [if_pos c]; have := tk_nlt hp c; omega
  · rw [if_neg c]; omega
theorem rdPt_ok {T : TE} {N : Nat → Nat} {S : MS} {p q : Nat} {sg : Bool} {d : PD} (hL : tL T ≤ 640) (hp : p ≤ tL T) (h : rdPt T N S p sg = .inr (q, d)) : q ≤ tL T ∧ PDok N (N d.1) d ∧ N d.1 ≠ 0 ∧ (0 < S.1 → N d.1 = N (S.2 0).1) := by
  have hq := qNo_le hp
  unfold rdPt at h
  by_cases c : tK T (qNo T p) ≠ 2 ∨ tV T (qNo T p) < 1 ∨ 8 < tV T (qNo T p)
  · rw [if_pos c] at h; cases h
  · rw [if_neg c] at h
    by_cases c2 : N (tV T (qNo T p) - 1) = 0 ∨ (0 < S.1 ∧ N (tV T (qNo T p) - 1) ≠ N (S.2 0).1)
    · rw [if_pos c2] at h; cases h
    · rw [if_neg c2] at h
      have k2 : tK T (qNo T p) = 2 := by
        by_cases z : tK T (qNo T p) = 2
        · exact z
        · exact absurd (Or.inl z) c
      have hx := tX_le hq (by omega) (by omega)
      cases hc : chg T 700 (tX T (qNo T p)) (0, 0, false, false) with
      | inl e => rw [hc] at h; cases h
      | inr y =>
        rw [hc] at h
        obtain ⟨y1, y2⟩ := y
        obtain ⟨a1, a2, a3, a4⟩ := chg_ok hx.2 hc
        have z := Sum.inr.inj h
        have z1 : y1 = q := congrArg Prod.fst z
        have z2 : (tV T (qNo T p) - 1, wyI sg (noV T p : Int), y2) = d := congrArg Prod.snd z
        subst z1 z2
        have a3 : y2.1.natAbs ≤ 0 + 1000 * (y1 - tX T (qNo T p)) := a3
        have a4 : y2.2.1.natAbs ≤ 0 + 1000 * (y1 - tX T (qNo T p)) := a4
        refine ⟨a2, ⟨?_, rfl, ?_, ?_, ?_⟩, fun z => c2 (Or.inl z), fun hs => ?_⟩
        · show tV T (qNo T p) - 1 < 8
          have : ¬ 8 < tV T (qNo T p) := fun z => c (Or.inr (Or.inr z))
          omega
        · show (wyI sg (noV T p : Int)).natAbs ≤ 999
          rw [wyI_ab]
          have := noV_le hp
          omega
        · show y2.1.natAbs ≤ 640000
          omega
        · show y2.2.1.natAbs ≤ 640000
          omega
        · by_cases z : N (tV T (qNo T p) - 1) = N (S.2 0).1
          · exact z
          · exact absurd (Or.inr ⟨hs, z⟩) c2
theorem adM_ok {N : Nat → Nat} {S : MS} {d : PD} (h : MSok N S) (h12 : S.1 < 12) (h1 : PDok N (N d.1) d) (h2 : N d.1 ≠ 0) (h3 : 0 < S.1 → N d.1 = N (S.2 0).1) : MSok N (adM S d) := by
  refine ⟨by show S.1 + 1 ≤ 12; omega, fun j hj => ?_⟩
  have hj : j < S.1 + 1 := hj
  show PDok N (N (va_up S.2 S.1 d 0).1) (va_up S.2 S.1 d j) ∧ N (va_up S.2 S.1 d 0).1 ≠ 0
  by_cases z : S.1 = 0
  · rw [z, va_us, show j = 0 by omega, va_us]
    exact ⟨h1, h2⟩
  · rw [va_un (show 0 ≠ S.1 by omega)]
    have h0 := h.2 0 (by omega)
    by_cases e : j = S.1
    · rw [e, va_us, ← h3 (by omega)]
      exact ⟨h1, h2⟩
    · rw [va_un e]
      exact h.2 j (by omega)
def mmQ (T : TE) (w : ab_W) (n : Nat) (o : Sum (Nat × Nat) MS) : ab_Q := fun v w' n' => ∃ b : Bool, v = some (.int (b01 b)) ∧ n = n' ∧ Fr F511 w w' ∧ isTp T (w' 1) ∧ CMs w' ∧ (∀ e, o = .inl e → b = false ∧ ∃ r3, w' 5 = oMR (nI e.1) (nI e.2) r3) ∧ (∀ S, o = .inr S → b = true ∧ ∃ r2, CMx w' S (nI 0) r2)
theorem mmQ_l {T : TE} {w w' : ab_W} {n k pl : Nat} {r3 : Int32} {o : Sum (Nat × Nat) MS} (ho : .inl (k, pl) = o) (hf : Fr F511 w w') (h5 : w' 5 = oMR (nI k) (nI pl) r3) (h1 : isTp T (w' 1)) (hs : CMs w') : mmQ T w n o (some (.int (nI 0))) w' n := by
  refine ⟨false, rfl, rfl, hf, h1, hs, fun e he => ?_, fun y hy => ?_⟩
  · have z : (k, pl) = e := Sum.inl.inj (ho.trans he)
    subst z
    exact ⟨rfl, ⟨r3, h5⟩⟩
  · have z := ho.trans hy
    cases z
theorem CMx.up1 {w : ab_W} {S : MS} {r1 r2 : Int32} {x : va_E} (h : CMx w S r1 r2) : CMx (va_up w 1 x) S r1 r2 := h
theorem CMs.up1 {w : ab_W} {x : va_E} (h : CMs w) : CMs (va_up w 1 x) := h
section MREADC
variable {X : ab_X} {l : Launch}
theorem k_MR_read (T : TE) (w : ab_W) (n : Nat) (hM : tM T = 200) (hL : tL T ≤ 640) {b c d e f : Int32} {N : Nat → Nat} (h1 : w 1 = oTape (nI (tL T)) b c d e f) (h2 : w 2 = aI 640 (tB T)) (hC : CMs w) (hN : SN w N) : ab_C X l i_MR_read [.ref 5, .ref 1, .ref 40] w n 0 0 (mmQ T w n (rdM0 T N)) := by
  generalize hO : rdM0 T N = O
  have loop : ∀ (fl p : Nat) (sg : Bool) (S : MS) (w1 : ab_W) (g r2 : Int32), S.1 + fl = 13 → S.1 < 12 → MSok N S → p ≤ tL T → Fr F511 w w1 → w1 1 = oTk T p g → CMx w1 S (nI 0) r2 → rdM T N fl S p sg = O → ab_Ev X l i_MR_read 48 [some (.ref 5), some (.ref 1), some (.ref 40), some (.int (wyV sg)), some (.int (nI S.1))] [] w1 n 0 0 (mmQ T w n O) := by
    intro fl
    induction fl with
    | zero => intro p sg S w1 g r2 hf h12; omega
    | succ fl ih =>
      intro p sg S w1 g r2 hf h12 hS hp fr m1 mC ho
      have m2 : w1 2 = aI 640 (tB T) := fr.get h2 (by unfold F511; omega)
      have cp := k_MR_readPart (X := X) (l := l) T p sg w1 n (N := N) h12 (fun z => (hS.2 0 z).1.1) (by omega) hL hp m1 m2 mC (hN.fr fr)
      have ho : (match rdPt T N S p sg with
        | .inl e => .inl e
        | .inr y => if tK T y.1 = 0 then .inr (adM S y.2) else if anS T y.1 = false then .inl (1, tP T y.1) else if S.1 + 1 = 12 then .inl (2, tP T y.1) else rdM T N fl (adM S y.2) (tX T y.1) (tkS T y.1 45)) = O := ho
      have m5 := mC.1
      obtain ⟨w1, rfl⟩ := va_ex2 m1 m5
      refine ab_sound ok_27 [67] 80 ?_
      refine And.intro (fun h_9 => absurd h_9 (nI_ge h12 (by omega))) (fun _ => ?_)
      (refine Exists.intro 0 ?_; refine ⟨0, _, Nat.zero_le _, Nat.zero_le _, cp, ?_⟩; rintro _ w2 _ ⟨v, rfl, rfl, f2, hl, hr⟩)
      have fr2 := fr.trans f2
      cases hq : rdPt T N S p sg with
      | inl e9 =>
        obtain ⟨rfl, ⟨r3, z5⟩, z1, zs⟩ := hl e9 hq
        rw [hq] at ho
        have ho : .inl e9 = O := ho
        refine And.intro (fun h_9 => absurd (rfl) h_9) (fun _ => ?_)
        exact ⟨rfl, mmQ_l ho fr2 z5 z1 zs⟩
      | inr y =>
        obtain ⟨q, dd⟩ := y
        obtain ⟨rfl, ⟨g2, z1⟩, zC⟩ := hr _ hq
        rw [hq] at ho
        have ho : (if tK T q = 0 then .inr (adM S dd) else if anS T q = false then .inl (1, tP T q) else if S.1 + 1 = 12 then .inl (2, tP T q) else rdM T N fl (adM S dd) (tX T q) (tkS T q 45)) = O := ho
        obtain ⟨u1, u2, u3, u4⟩ := rdPt_ok hL hp hq
        have uS := adM_ok hS h12 u2 u3 u4
        refine And.intro (fun _ => ?_) (fun h_9 => absurd h_9 ((by decide)))
        have zC : CMx w2 (adM S dd) (nI 0) r2 := zC
        have zCs := zC.sh
        have z5 : w2 5 = oMR (nI 0) r2 (nI (S.1 + 1)) := zC.1
        have z2 : w2 2 = aI 640 (tB T) := fr2.get h2 (by unfold F511; omega)
        have ih := fun x => ih (tX T q) (tkS T q 45) (adM S dd) (va_up w2 1 (oTk T (tX T q) (cV T q g2))) (cV T q g2) r2 (by show S.1 + 1 + fl = 13; omega) x uS
        have at67 : ab_Ev X l i_MR_read 67 [some (.ref 5), some (.ref 1), some (.ref 40), some (.int (wyV sg)), some (.int (nI S.1))] [] w2 n 0 0 (mmQ T w n O) := by
          obtain ⟨w2, rfl⟩ := va_ex3 z1 z2 z5
          by_cases k0 : tK T q = 0 ∨ tK T q = 5
          · have hz1 : nI (cK T q) = 0 := by
              unfold cK
              rcases k0 with k | k
              · rw [if_neg (by omega), k]; rfl
              · rw [if_pos k]; rfl
            refine ab_sound ok_27 [] 80 ?_
            refine And.intro (fun h_9 => absurd (hz1) h_9) (fun _ => ?_)
            (refine Exists.intro 0 ?_; refine ⟨0, _, Nat.zero_le _, Nat.zero_le _, c_Tape_isCut _ _ rfl, ?_⟩; refine ab_q1_elim ?_)
            rcases k0 with k | k
            · have hs := tk_stop k
              rw [if_pos k] at ho
              rw [decide_eq_false (by rw [hs]; exact nI_nlt (Nat.le_refl _) (by omega))]
              refine And.intro (fun _ => ?_) (fun h_9 => absurd (rfl) h_9)
              refine ⟨rfl, true, rfl, rfl, fr2, tk_isTp, zCs, fun e9 he => ?_, fun y hy => ?_⟩
              · have z := ho.trans he
                cases z
              · have z : adM S dd = y := Sum.inr.inj (ho.trans hy)
                subst z
                exact ⟨rfl, r2, zC⟩
            · have ha : anS T q = false := by unfold anS; rw [tkS_no (by omega), tkS_no (by omega)]; rfl
              rw [if_neg (by omega), if_pos ha] at ho
              rw [decide_eq_true (nI_lt (tk_cut k) (by omega))]
              refine And.intro (fun h_9 => absurd h_9 ((by decide))) (fun _ => ?_)
              (refine Exists.intro 0 ?_; refine ⟨0, _, Nat.zero_le _, Nat.zero_le _, k_MR_fail T q 1 _ _ rfl rfl rfl, ?_⟩; refine ab_q1_elim ?_)
              refine And.intro (fun _ => ?_) (fun h_9 => absurd (rfl) h_9)
              exact ⟨rfl, mmQ_l ho (fr2.up (by unfold F511; omega)) rfl tk_isTp ⟨⟨_, _, _, rfl⟩, zCs.2⟩⟩
          · have k6 := tK_le T q
            have hz2 : ¬ nI (cK T q) = 0 := by
              unfold cK
              rw [if_neg (by omega)]
              exact nI_ne0 (by omega) (by omega)
            rw [if_neg (by omega)] at ho
            refine ab_sound ok_27 [48, 140] 80 ?_
            refine And.intro (fun _ => ?_) (fun h_9 => absurd h_9 (hz2))
            (refine Exists.intro 0 ?_; refine ⟨0, _, Nat.zero_le _, Nat.zero_le _, k_MR_isAnySign T q _ _ u1 rfl, ?_⟩; refine ab_q1_elim ?_)
            have ha : (tkS T q 43 || tkS T q 45) = anS T q := rfl
            rw [ha]
            cases hs : anS T q
            · rw [if_pos hs] at ho
              refine And.intro (fun h_9 => absurd (rfl) h_9) (fun _ => ?_)
              (refine Exists.intro 0 ?_; refine ⟨0, _, Nat.zero_le _, Nat.zero_le _, k_MR_fail T q 1 _ _ rfl rfl rfl, ?_⟩; refine ab_q1_elim ?_)
              exact ⟨rfl, mmQ_l ho (fr2.up (by unfold F511; omega)) rfl tk_isTp ⟨⟨_, _, _, rfl⟩, zCs.2⟩⟩
            · rw [if_neg (by rw [hs]; decide)] at ho
              refine And.intro (fun _ => ?_) (fun h_9 => absurd h_9 ((by decide)))
              by_cases h11 : S.1 + 1 = 12
              · rw [if_pos h11] at ho
                refine And.intro (fun h_9 => absurd ((by rw [h11])) h_9) (fun _ => ?_)
                (refine Exists.intro 0 ?_; refine ⟨0, _, Nat.zero_le _, Nat.zero_le _, k_MR_fail T q 2 _ _ rfl rfl rfl, ?_⟩; refine ab_q1_elim ?_)
                exact ⟨rfl, mmQ_l ho (fr2.up (by unfold F511; omega)) rfl tk_isTp ⟨⟨_, _, _, rfl⟩, zCs.2⟩⟩
              · rw [if_neg h11] at ho
                have k4 : tK T q = 4 := by
                  have z : (tkS T q 43 || tkS T q 45) = true := hs
                  rw [Bool.or_eq_true] at z
                  exact z.elim (fun z => (tkS_k z).1) (fun z => (tkS_k z).1)
                have ih := ih (by show S.1 + 1 < 12; omega) (tX_le u1 (by omega) (by omega)).2 (fr2.up (Or.inl rfl)) rfl zC.up1 ho
                refine And.intro (fun _ => ?_) (fun h_9 => absurd h_9 ((fun z => h11 ((nI_eq (by omega) (by omega)).mp z))))
                (refine Exists.intro 0 ?_; refine ⟨0, _, Nat.zero_le _, Nat.zero_le _, k_isSign T q 45 _ _ rfl (by omega) u1 rfl, ?_⟩; refine ab_q1_elim ?_)
                have at140 : ab_Ev X l i_MR_read 140 [some (.ref 5), some (.ref 1), some (.ref 40), some (.int (wyV sg)), some (.int (nI S.1))] [.int (wyV (tkS T q 45))] (va_up (va_up (va_up w2 5 (oMR (nI 0) r2 (nI (S.1 + 1)))) 2 (aI 640 (tB T))) 1 (oTk T q g2)) n 0 0 (mmQ T w n O) := by
                  refine ab_sound ok_27 [48] 80 ?_
                  (refine Exists.intro 0 ?_; refine ⟨0, _, Nat.zero_le _, Nat.zero_le _, k_adv T q _ _ hL u1 (by omega) (by omega) rfl rfl, ?_⟩; refine ab_q1_elim ?_)
                  exact ab_ev_of ih (by show _ = [some (Value.ref 5), some (Value.ref 1), some (Value.ref 40), some (Value.int (wyV (tkS T q 45))), some (Value.int (nI (S.1 + 1)))]; rw [nI_s S.1]; rfl) rfl rfl
                cases c45 : tkS T q 45
                · rw [c45] at at140
                  refine And.intro (fun _ => ?_) (fun h_9 => absurd (rfl) h_9)
                  exact at140
                · rw [c45] at at140
                  refine And.intro (fun h_9 => absurd h_9 ((by decide))) (fun _ => ?_)
                  exact at140
        exact at67
  obtain ⟨⟨a1, a2, a3, h5⟩, ⟨f6, h6⟩, ⟨f7, h7⟩, ⟨f8, h8⟩, ⟨f9, h9⟩, ⟨f10, h10⟩, ⟨f11, h11⟩⟩ := hC
  have z : ∀ {P : Nat → Prop} (i : Nat), i < 0 → P i := fun i hi => absurd hi (by omega)
  have cz : ∀ w1 : ab_W, w1 5 = oMR (nI 0) a2 (nI 0) → (∀ k, 6 ≤ k → k ≤ 11 → w1 k = w k) → CMx w1 MSz (nI 0) a2 := fun w1 k5 kk => ⟨k5, ⟨f6, (kk 6 (by omega) (by omega)).trans h6, z⟩, ⟨f7, (kk 7 (by omega) (by omega)).trans h7, z⟩, ⟨f8, (kk 8 (by omega) (by omega)).trans h8, z⟩, ⟨f9, (kk 9 (by omega) (by omega)).trans h9, z⟩, ⟨f10, (kk 10 (by omega) (by omega)).trans h10, z⟩, ⟨f11, (kk 11 (by omega) (by omega)).trans h11, z⟩⟩
  have okz : MSok N MSz := ⟨by show 0 ≤ 12; omega, fun j hj => absurd hj (by show ¬ j < 0; omega)⟩
  have hO : rdM T N 13 MSz (if anS T 0 = true then tX T 0 else 0) (tkS T 0 45) = O := hO
  have lp := fun (p : Nat) (sg : Bool) (w1 : ab_W) (g : Int32) a b c d e => loop 13 p sg MSz w1 g a2 rfl (by show 0 < 12; omega) okz a b c d e
  have co := fun w2 => c_Tape_open (X := X) (l := l) T w2 n (b := b) (c := c) (d := d) (e := e) (f := f) hL (by omega)
  rw [hM] at co
  obtain ⟨w, rfl⟩ := va_ex3 h1 h2 h5
  refine ab_met cd_27 om_27 rfl (by rintro _ _ _ ⟨b, rfl, -⟩; trivial) (ab_sound ok_27 [40, 48] 80 ?_)
  (refine Exists.intro 0 ?_; refine ⟨0, _, Nat.zero_le _, Nat.zero_le _, co _ rfl rfl, ?_⟩; refine ab_q1_elim ?_)
  (refine Exists.intro 0 ?_; refine ⟨0, _, Nat.zero_le _, Nat.zero_le _, k_MR_isAnySign T 0 _ _ (by omega) rfl, ?_⟩; refine ab_q1_elim ?_)
  have ha : (tkS T 0 43 || tkS T 0 45) = anS T 0 := rfl
  rw [ha]
  cases hs : anS T 0
  · have h45 : tkS T 0 45 = false := by
      unfold anS at hs
      revert hs
      cases tkS T 0 43 <;> cases tkS T 0 45 <;> decide
    rw [if_neg (by rw [hs]; decide), h45] at hO
    refine And.intro (fun _ => ?_) (fun h_9 => absurd (rfl) h_9)
    refine ab_ev_of (lp 0 false _ f (by omega) (((Fr.refl.up (k := 5) (c := oMR (nI 0) a2 a3) (by unfold F511; omega)).up (k := 5) (c := oMR (nI 0) a2 (nI 0)) (by unfold F511; omega)).up (k := 1) (c := oTk T 0 f) (Or.inl rfl)) rfl (cz _ rfl (fun k a b => ?_)) hO) rfl rfl rfl
    rw [va_un (by omega), va_un (by omega), va_un (by omega)]
  · rw [if_pos hs] at hO
    have k4 : tK T 0 = 4 := by
      have z : (tkS T 0 43 || tkS T 0 45) = true := hs
      rw [Bool.or_eq_true] at z
      exact z.elim (fun z => (tkS_k z).1) (fun z => (tkS_k z).1)
    have x0 := tX_le (T := T) (p := 0) (by omega) (by omega) (by omega)
    refine And.intro (fun h_9 => absurd h_9 ((by decide))) (fun _ => ?_)
    (refine Exists.intro 0 ?_; refine ⟨0, _, Nat.zero_le _, Nat.zero_le _, k_isSign T 0 45 _ _ rfl (by omega) (by omega) rfl, ?_⟩; refine ab_q1_elim ?_)
    have at40 : ab_Ev X l i_MR_read 40 [some (.ref 5), some (.ref 1), some (.ref 40), some (.int (nI 1)), none] [.int (wyV (tkS T 0 45))] (va_up (va_up (va_up (va_up (va_up (va_up w 5 (oMR a1 a2 a3)) 2 (aI 640 (tB T))) 1 (oTape (nI (tL T)) b c d e f)) 5 (oMR (nI 0) a2 a3)) 5 (oMR (nI 0) a2 (nI 0))) 1 (oTk T 0 f)) n 0 0 (mmQ T (va_up (va_up (va_up w 5 (oMR a1 a2 a3)) 2 (aI 640 (tB T))) 1 (oTape (nI (tL T)) b c d e f)) n O) := by
      refine ab_sound ok_27 [48] 80 ?_
      (refine Exists.intro 0 ?_; refine ⟨0, _, Nat.zero_le _, Nat.zero_le _, k_adv T 0 _ _ hL (by omega) (by omega) (by omega) rfl rfl, ?_⟩; refine ab_q1_elim ?_)
      refine ab_ev_of (lp (tX T 0) (tkS T 0 45) _ (cV T 0 f) x0.2 ((((Fr.refl.up (k := 5) (c := oMR (nI 0) a2 a3) (by unfold F511; omega)).up (k := 5) (c := oMR (nI 0) a2 (nI 0)) (by unfold F511; omega)).up (k := 1) (c := oTk T 0 f) (Or.inl rfl)).up (k := 1) (c := oTk T (tX T 0) (cV T 0 f)) (Or.inl rfl)) rfl (cz _ rfl (fun k a b => ?_)) hO) rfl rfl rfl
      rw [va_un (by omega), va_un (by omega), va_un (by omega), va_un (by omega)]
    cases c45 : tkS T 0 45
    · rw [c45] at at40
      refine And.intro (fun _ => ?_) (fun h_9 => absurd (rfl) h_9)
      exact at40
    · rw [c45] at at40
      refine And.intro (fun h_9 => absurd h_9 ((by decide))) (fun _ => ?_)
      exact at40
end MREADC

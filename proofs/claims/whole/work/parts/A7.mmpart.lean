/-! a part of a mix, for the model -/
def MMx (w : ab_W) (N : Nat → Nat) (S : MS) : Prop := (∃ f, w 119 = aI 12 f ∧ ∀ j, j < S.1 → f j = nI (S.2 j).1) ∧ (∃ f, w 120 = aI 12 f ∧ ∀ j, j < S.1 → f j = nI (md (S.2 j).2.2.1 (N (S.2 j).1))) ∧ (∃ f, w 121 = aI 12 f ∧ ∀ j, j < S.1 → f j = nI (md (S.2 j).2.2.2.1 (N (S.2 j).1))) ∧ (∃ f, w 122 = aJ 12 f ∧ ∀ j, j < S.1 → f j = Int64.ofInt (S.2 j).2.1) ∧ (∃ f, w 123 = aZ 12 f ∧ ∀ j, j < S.1 → f j = b01 (S.2 j).2.2.2.2.2) ∧ ∃ f, w 124 = aZ 12 f ∧ ∀ j, j < S.1 → f j = b01 (S.2 j).2.2.2.2.1
def MMs (w : ab_W) : Prop := (∃ f, w 119 = aI 12 f) ∧ (∃ f, w 120 = aI 12 f) ∧ (∃ f, w 121 = aI 12 f) ∧ (∃ f, w 122 = aJ 12 f) ∧ (∃ f, w 123 = aZ 12 f) ∧ ∃ f, w 124 = aZ 12 f
theorem MMx.sh {w : ab_W} {N : Nat → Nat} {S : MS} (h : MMx w N S) : MMs w := by
  obtain ⟨⟨_, h1, _⟩, ⟨_, h2, _⟩, ⟨_, h3, _⟩, ⟨_, h4, _⟩, ⟨_, h5, _⟩, ⟨_, h6, _⟩⟩ := h
  exact ⟨⟨_, h1⟩, ⟨_, h2⟩, ⟨_, h3⟩, ⟨_, h4⟩, ⟨_, h5⟩, ⟨_, h6⟩⟩
def FPt (k : Nat) : Prop := k = 90 ∨ (111 ≤ k ∧ k ≤ 113) ∨ (119 ≤ k ∧ k ≤ 124)
def GPs (k : Nat) : Prop := FMr k ∨ (38 ≤ k ∧ k ≤ 40) ∨ k = 52
def GPx (k : Nat) : Prop := FMx k ∨ (38 ≤ k ∧ k ≤ 40) ∨ k = 52
theorem gps_x {s s' : Nat → Int32} (h : Fr GPs s s') : Fr GPx s s' := h.mono (fun k hk => by unfold GPs FMr at hk; unfold GPx FMx; omega)
theorem fmr_s {s s' : Nat → Int32} (h : Fr FMr s s') : Fr GPs s s' := h.mono (fun k hk => Or.inl hk)
def mtQ (T : TE) (N : Nat → Nat) (S : MS) (w : ab_W) (n : Nat) (s : Nat → Int32) (tn : Int64) (o : Sum (Nat × Nat) (Nat × PD)) : ab_Q := fun v w' n' => ∃ b : Bool, v = some (.int (b01 b)) ∧ n = n' ∧ Fr FPt w w' ∧ ∃ s' wd', w' 90 = oMod s' wd' tn ∧ Fr GPx s s' ∧ MN0 w' s' ∧ MMs w' ∧ (∀ e, o = .inl e → b = false ∧ s' 10 = nI e.1 ∧ s' 11 = nI e.2) ∧ (∀ y, o = .inr y → b = true ∧ Fr GPs s s' ∧ s' 52 = nI (S.1 + 1) ∧ AtM T y.1 s' wd' ∧ MMx w' N (adM S y.2))
theorem mtQ_l {T : TE} {N : Nat → Nat} {S : MS} {w w' : ab_W} {n k pl : Nat} {s s9 : Nat → Int32} {wd9 tn : Int64} {o : Sum (Nat × Nat) (Nat × PD)} (ho : .inl (k, pl) = o) (hf : Fr FPt w w') (h90 : w' 90 = oMod (upd (upd s9 10 (nI k)) 11 (nI pl)) wd9 tn) (hs : Fr GPs s s9) (hN : MN0 w' s9) (hM : MMs w') : mtQ T N S w n s tn o (some (.int (nI 0))) w' n := by
  refine ⟨false, rfl, rfl, hf, _, wd9, h90, ((gps_x hs).us (Or.inl (Or.inl ⟨by omega, by omega⟩))).us (Or.inl (Or.inl ⟨by omega, by omega⟩)), hN.fr (Fr.refl (F := fun _ => False)) ((Fr.refl (F := fun k => k = 10 ∨ k = 11)).us (Or.inl rfl) |>.us (Or.inr rfl)) id id id (by omega) (by omega), hM, fun e he => ?_, fun y hy => ?_⟩
  · have z : (k, pl) = e := Sum.inl.inj (ho.trans he)
    subst z
    exact ⟨rfl, by rw [upd_ne (by omega), upd_at], by rw [upd_at]⟩
  · have z := ho.trans hy
    cases z
theorem cv_id {c : Nat} (h : c < 32) : cv c = c := by
  unfold cv
  show (if c = 0 then 0 else 27 * cvF 5 (c / 32) + c % 32) = c
  by_cases z : c = 0
  · rw [if_pos z, z]
  · rw [if_neg z, Nat.div_eq_of_lt h, Nat.mod_eq_of_lt h]
    show 27 * (if (0 : Nat) = 0 then 0 else _) + c = c
    rw [if_pos rfl]
    omega
theorem vd_1 {c : Nat} (h1 : 1 ≤ c) (h2 : c ≤ 26) : vd c := by
  refine ⟨fun _ => nI (96 + c), 0, 1, by omega, fun i hi => ?_, ?_⟩
  · rw [leB_i, nI_toInt (by omega)]
    omega
  · show c = 32 * 0 + ((nI (96 + c)).toInt.toNat - 96)
    rw [nI_toInt (by omega)]
    omega
theorem cv_8 {c : Nat} (h : vd c) : (1 ≤ cv c ∧ cv c ≤ 8) ↔ (1 ≤ c ∧ c ≤ 8) := by
  refine ⟨fun ⟨a, b⟩ => ?_, fun ⟨a, b⟩ => by rw [cv_id (by omega)]; exact ⟨a, b⟩⟩
  have e := (vd_inj (vd_1 a (by omega)) h).mp (cv_id (by omega))
  omega
section MMPART
variable {X : ab_X} {l : Launch}
theorem k_mp182 (T : TE) (k M : Nat) (sg : Bool) (num : Int) (t : Nat) (w : ab_W) (n : Nat) {s0 : Nat → Int32} {tn : Int64} {N : Nat → Nat} {S : MS} {O : Sum (Nat × Nat) (Nat × PD)} {f19 f20 f21 f23 f24 : Nat → Int32} {f22 : Nat → Int64} {x3 : Int32} (hk : k = S.1) (hk12 : k < 12) (hMe : N t = M) (hMM : 3 ≤ M ∧ M ≤ 60) (hL : tL T ≤ 640) (hM : tM T ≤ 640) (u19 : ∀ j, j < k → f19 j = nI (S.2 j).1) (u20 : ∀ j, j < k → f20 j = nI (md (S.2 j).2.2.1 (N (S.2 j).1))) (u21 : ∀ j, j < k → f21 j = nI (md (S.2 j).2.2.2.1 (N (S.2 j).1))) (u22 : ∀ j, j < k → f22 j = Int64.ofInt (S.2 j).2.1) (u23 : ∀ j, j < k → f23 j = b01 (S.2 j).2.2.2.2.2) (u24 : ∀ j, j < k → f24 j = b01 (S.2 j).2.2.2.2.1) : ∀ (fl p : Nat) (x : Pt) (w1 : ab_W) (s1 : Nat → Int32) (wd1 : Int64), p + fl ≥ 641 → p ≤ tL T → Fr FPt w w1 → w1 90 = oMod s1 wd1 tn → w1 91 = aI 640 (tB T) → Fr GPs s0 s1 → s1 3 = nI (tL T) → s1 4 = nI (tM T) → s1 52 = nI k → MN w1 s1 M → AtM T p s1 wd1 → w1 119 = aI 12 (upd f19 k (nI t)) → w1 120 = aI 12 (upd f20 k (nI (md x.1 M))) → w1 121 = aI 12 (upd f21 k (nI (md x.2.1 M))) → w1 122 = aJ 12 (vp_updL f22 k (Int64.ofInt num)) → w1 123 = aZ 12 (upd f23 k (b01 x.2.2.2)) → w1 124 = aZ 12 (upd f24 k (b01 x.2.2.1)) → (match chg T fl p x with
    | .inl e => .inl e
    | .inr y => .inr (y.1, (t, num, y.2))) = O → ab_Ev X l i_Mod_readPart 182 [some (.ref 90), some (.int (b01 sg)), some (.int (nI k)), some (.int x3)] [] w1 n 0 0 (mtQ T N S w n s0 tn O) := by
  intro fl
  induction fl with
  | zero => intro p x w1 s1 wd1 hf hp; omega
  | succ fl ih =>
    intro p x w1 s1 wd1 hf hp fr y90 y91 frs y3 y4 y52 yN hA y119 y120 y121 y122 y123 y124 ho
    by_cases hk2 : tK T p = 2
    · rw [chg_s hk2] at ho
      have cc := k_readChange (X := X) (l := l) T k p M x w1 n hk12 hk2 hMM yN.2.1.1 hL hM hp y90 y91 y3 y4 hA y120 y121 y123 y124
      obtain ⟨w1, rfl⟩ := va_ex y90
      refine ab_sound ok_210 [182] 80 ?_
      refine And.intro (fun h_9 => absurd (((mK_k hA (by omega) (by omega)).mpr hk2)) h_9) (fun _ => ?_)
      (refine Exists.intro 0 ?_; refine ⟨0, _, Nat.zero_le _, Nat.zero_le _, cc, ?_⟩; rintro _ w2 _ ⟨b, rfl, rfl, f2, s2, wd2, z90, g2, ⟨x20, z120⟩, ⟨x21, z121⟩, ⟨x23, z123⟩, ⟨x24, z124⟩, hl, hr⟩)
      have z119 : w2 119 = aI 12 (upd f19 k (nI t)) := f2.get y119 (by unfold FCh; omega)
      have z122 : w2 122 = aJ 12 (vp_updL f22 k (Int64.ofInt num)) := f2.get y122 (by unfold FCh; omega)
      have z91 := f2.get y91 (by unfold FCh; omega)
      have frw := fr.trans (f2.mono (G := FPt) (fun k hk => by unfold FCh at hk; unfold FPt; omega))
      cases hc : chS T p x with
      | inl e =>
        obtain ⟨rfl, e1, e2⟩ := hl e hc
        rw [hc] at ho
        have ho : .inl e = O := ho
        refine And.intro (fun h_9 => absurd h_9 ((fun z => absurd rfl z))) (fun _ => ?_)
        refine ⟨rfl, false, rfl, rfl, frw, s2, wd2, z90, (gps_x frs).trans (g2.mono (fun k hk => Or.inl hk)), Or.inr ⟨M, yN.fr f2 g2 (by unfold FCh; omega) (by unfold FCh; omega) (by unfold FCh; omega) (by unfold FMx; omega) (by unfold FMx; omega)⟩, ⟨⟨_, z119⟩, ⟨_, z120⟩, ⟨_, z121⟩, ⟨_, z122⟩, ⟨_, z123⟩, ⟨_, z124⟩⟩, fun e9 he => ?_, fun y hy => ?_⟩
        · have z : e = e9 := Sum.inl.inj (ho.trans he)
          subst z
          exact ⟨rfl, e1, e2⟩
        · have z := ho.trans hy
          cases z
      | inr y =>
        obtain ⟨q, y⟩ := y
        obtain ⟨rfl, g3, a3, v120, v121, v123, v124⟩ := hr _ hc
        rw [hc] at ho
        have hq : p + 1 ≤ q ∧ q ≤ tL T := by
          have hx := tX_le hp (by omega) (by omega)
          unfold chS at hc
          by_cases c7 : tkW T p 7 = true
          · rw [if_pos c7] at hc
            have z : tX T p = q := congrArg Prod.fst (Sum.inr.inj hc)
            omega
          rw [if_neg c7] at hc
          by_cases c8 : tkW T p 8 = true
          · rw [if_pos c8] at hc
            have z : tX T p = q := congrArg Prod.fst (Sum.inr.inj hc)
            omega
          rw [if_neg c8] at hc
          by_cases c69 : tkW T p 6 = true ∨ tkW T p 9 = true
          · rw [if_pos c69] at hc
            by_cases k3 : tK T (tX T p) = 3
            · rw [if_neg (fun z => z k3)] at hc
              have hx2 := tX_le hx.2 (by omega) (by omega)
              have z : tX T (tX T p) = q := congrArg Prod.fst (Sum.inr.inj hc)
              omega
            · rw [if_pos k3] at hc; cases hc
          · rw [if_neg c69] at hc; cases hc
        have ih := ih q y w2 s2 wd2 (by omega) hq.2 frw z90 z91 (frs.trans (fmr_s g3)) (fr3 g3 y3) (fr4 g3 y4) (by rw [g3 52 (by unfold FMr; omega), y52]) (yN.fr f2 g3 (by unfold FCh; omega) (by unfold FCh; omega) (by unfold FCh; omega) (by unfold FMr; omega) (by unfold FMr; omega)) a3 z119 v120 v121 z122 v123 v124 ho
        refine And.intro (fun _ => ?_) (fun h_9 => absurd h_9 ((by decide)))
        exact ih
    · rw [chg_0 hk2] at ho
      have ho : .inr (p, (t, num, x)) = O := ho
      have hMs : MMs w1 := ⟨⟨_, y119⟩, ⟨_, y120⟩, ⟨_, y121⟩, ⟨_, y122⟩, ⟨_, y123⟩, ⟨_, y124⟩⟩
      have hMx : MMx w1 N (adM S (t, num, x)) := by
        subst hk
        refine ⟨⟨_, y119, up_ex (F := fun d : PD => nI d.1) u19 rfl⟩, ⟨_, y120, up_ex (F := fun d : PD => nI (md d.2.2.1 (N d.1))) u20 ?_⟩, ⟨_, y121, up_ex (F := fun d : PD => nI (md d.2.2.2.1 (N d.1))) u21 ?_⟩, ⟨_, y122, ?_⟩, ⟨_, y123, up_ex (F := fun d : PD => b01 d.2.2.2.2.2) u23 rfl⟩, ⟨_, y124, up_ex (F := fun d : PD => b01 d.2.2.2.2.1) u24 rfl⟩⟩
        · show nI (md x.1 M) = nI (md x.1 (N t))
          rw [hMe]
        · show nI (md x.2.1 M) = nI (md x.2.1 (N t))
          rw [hMe]
        · intro j hj
          have hj : j < S.1 + 1 := hj
          show vp_updL f22 S.1 (Int64.ofInt num) j = Int64.ofInt (va_up S.2 S.1 (t, num, x) j).2.1
          by_cases e : j = S.1
          · rw [e, pk_uLs, va_us]
          · rw [pk_uLn e, va_un e]
            exact u22 j (by omega)
      have hMx2 : MMx (va_up w1 90 (oMod (upd s1 52 (s1 52 + nI 1)) wd1 tn)) N (adM S (t, num, x)) := hMx
      have hMN2 : MN (va_up w1 90 (oMod (upd s1 52 (s1 52 + nI 1)) wd1 tn)) (upd s1 52 (s1 52 + nI 1)) M := yN.fr ((Fr.refl (F := fun j => j = 90)).up rfl) ((Fr.refl (F := fun j => j = 52)).us rfl) (by omega) (by omega) (by omega) (by omega) (by omega)
      have hA2 : AtM T p (upd s1 52 (s1 52 + nI 1)) wd1 := hA
      have frw := fr.up (k := 90) (c := oMod (upd s1 52 (s1 52 + nI 1)) wd1 tn) (Or.inl rfl)
      obtain ⟨w1, rfl⟩ := va_ex y90
      refine ab_sound ok_210 [] 80 ?_
      refine And.intro (fun _ => ?_) (fun h_9 => absurd h_9 ((fun z => hk2 ((mK_k hA (by omega) (by omega)).mp z))))
      refine ⟨rfl, true, rfl, rfl, frw, upd s1 52 (s1 52 + nI 1), wd1, rfl, (gps_x frs).us (Or.inr (Or.inr rfl)), Or.inr ⟨M, hMN2⟩, hMs, fun e he => ?_, fun y hy => ?_⟩
      · have z := ho.trans he
        cases z
      · have z : (p, (t, num, x)) = y := Sum.inr.inj (ho.trans hy)
        subst z
        refine ⟨rfl, frs.us (Or.inr (Or.inr rfl)), ?_, hA2, hMx2⟩
        rw [upd_at, y52, hk]
        exact (nI_s S.1).symm
end MMPART

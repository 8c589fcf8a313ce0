section POLY
variable {X : ab_X} {l : Launch}
def tI (L : List Int) (g : Nat → Int32) : Nat → Int32 := fun j => if j < L.length then Int32.ofInt (L.getD j 0) else g j
theorem tI_set (L : List Int) (g : Nat → Int32) {i : Nat} (v : Int) (h : i < L.length) : upd (tI L g) i (Int32.ofInt v) = tI (L.set i v) g := by
  funext j
  unfold upd tI
  rw [List.length_set]
  by_cases e : j = i
  · subst e
    rw [if_pos rfl, if_pos h]
    simp [List.getD_eq_getElem?_getD, h]
  · rw [if_neg e]
    by_cases h2 : j < L.length
    · rw [if_pos h2, if_pos h2]
      simp [List.getD_eq_getElem?_getD, List.getElem?_set_ne (fun z => e z.symm)]
    · rw [if_neg h2, if_neg h2]
theorem tI_at (L : List Int) (g : Nat → Int32) {i : Nat} (h : i < L.length) : tI L g i = Int32.ofInt (L.getD i 0) := by
  unfold tI
  rw [if_pos h]
theorem tI_nil (g : Nat → Int32) : tI [] g = g := by
  funext j
  unfold tI
  simp
theorem tI_take (L : List Int) (g : Nat → Int32) {i : Nat} (h : i < L.length) : upd (tI (L.take i) g) i (Int32.ofInt (L.getD i 0)) = tI (L.take (i + 1)) g := by
  have e1 : (L.take i).length = i := by rw [List.length_take]; omega
  have e2 : (L.take (i + 1)).length = i + 1 := by rw [List.length_take]; omega
  funext j
  unfold upd tI
  rw [e1, e2]
  by_cases e : j = i
  · rw [if_pos e, if_pos (by omega), e]
    simp [List.getD_eq_getElem?_getD, List.getElem?_take]
  · rw [if_neg e]
    by_cases h2 : j < i
    · rw [if_pos h2, if_pos (by omega)]
      simp [List.getD_eq_getElem?_getD, List.getElem?_take, h2, show j < i + 1 by omega]
    · rw [if_neg h2, if_neg (by omega)]
def z64 : List Int := List.replicate 64 0
def wdR (q p : Nat) (L : List Int) : Nat → List Int → List Int
  | 0, W => W
  | r + 1, W => wdR q p L r (W.set (q * (p - r)) (L.getD (p - r) 0))
theorem wdR_len (q p : Nat) (L : List Int) : ∀ (r : Nat) (W : List Int), (wdR q p L r W).length = W.length
  | 0, _ => rfl
  | r + 1, W => by unfold wdR; rw [wdR_len q p L r, List.length_set]
def wdL (q p : Nat) (L : List Int) : List Int := wdR q p L (p + 1) z64
theorem wdL_len (q p : Nat) (L : List Int) : (wdL q p L).length = 64 := by unfold wdL; rw [wdR_len]; rfl
theorem c_Mod_widen (x : Int32) (q p : Nat) (L : List Int) (w : ab_W) (n : Nat) {s : Nat → Int32} {wd tn : Int64} {f g : Nat → Int32} (hx : x = nI q) (hq : q ≤ 60) (hqp : q * p ≤ 60) (hp : p ≤ 60) (hs : s 39 = nI p) (h0 : w 90 = oMod s wd tn) (h1 : w 111 = aI 64 f) (hf : ∀ i, i ≤ p → f i = Int32.ofInt (L.getD i 0)) (h2 : w 112 = aI 64 g) : ab_C X l i_Mod_widen [.ref 90, .int x] w n 0 0 (ab_q1 none (va_up (va_up w 90 (oMod (upd s 40 (nI (q * p))) wd tn)) 112 (aI 64 (tI (wdL q p L) g))) n) := by
  subst hx
  obtain ⟨w, rfl⟩ := va_ex3 h2 h1 h0
  refine ab_metV cd_196 om_196 rfl rfl (ab_sound ok_196 [2] 50 ?_)
  have lp2 : ∀ (r : Nat) (W : List Int), r ≤ p + 1 → W.length = 64 → wdR q p L r W = wdL q p L → ab_Ev X l i_Mod_widen 23 [some (.ref 90), some (.int (nI q)), some (.int (nI (p + 1 - r)))] [] (va_up (va_up (va_up w 90 (oMod s wd tn)) 111 (aI 64 f)) 112 (aI 64 (tI W g))) n 0 0 (ab_q1 none (va_up (va_up (va_up (va_up (va_up w 90 (oMod s wd tn)) 111 (aI 64 f)) 112 (aI 64 g)) 90 (oMod (upd s 40 (nI (q * p))) wd tn)) 112 (aI 64 (tI (wdL q p L) g))) n) := by
    intro r
    induction r with
    | zero =>
      intro W hr hW he
      refine ab_sound ok_196 [23] 50 ?_
      refine And.intro (fun _ => ?_) (fun h_9 => absurd ((by rw [hs]; exact nI_lt (by omega) (by omega))) h_9)
      refine ⟨rfl, ?_, rfl⟩
      have he : W = wdL q p L := he
      have e40 : nI q * s 39 = nI (q * p) := by rw [hs, pk_mul]
      rw [he, e40]
      exact (by first | rfl | (simp only [va_uu, va_uc, Nat.reduceLT]; done) | (simp only [va_uu, va_uc, Nat.reduceLT]; rfl))
    | succ r ih =>
      intro W hr hW he
      rw [show p + 1 - (r + 1) = p - r by omega]
      have hm : q * (p - r) ≤ q * p := Nat.mul_le_mul_left q (by omega)
      refine ab_sound ok_196 [23] 50 ?_
      refine And.intro (fun h_9 => absurd h_9 ((by rw [hs]; exact nI_nlt (by omega) (by omega)))) (fun _ => ?_)
      refine And.intro (vp_in_nI (by omega) (by omega)) ?_
      refine And.intro ((by rw [pk_mul]; exact vp_in_nI (by omega) (by omega))) ?_
      refine ab_ev_of (ih (W.set (q * (p - r)) (L.getD (p - r) 0)) (by omega) (by rw [List.length_set]; exact hW) he) ?_ rfl ?_
      · rw [show p + 1 - r = p - r + 1 by omega, nI_s (p - r)]
        rfl
      · rw [va_uu, pk_mul, nI_clamp (by omega), nI_clamp (by omega), hf _ (by omega), tI_set _ _ _ (by omega)]
  have lp1 : ∀ i, i ≤ 64 → ab_Ev X l i_Mod_widen 2 [some (.ref 90), some (.int (nI q)), some (.int (nI i))] [] (va_up (va_up (va_up w 90 (oMod s wd tn)) 111 (aI 64 f)) 112 (aI 64 (tI (z64.take i) g))) n 0 0 (ab_q1 none (va_up (va_up (va_up (va_up (va_up w 90 (oMod s wd tn)) 111 (aI 64 f)) 112 (aI 64 g)) 90 (oMod (upd s 40 (nI (q * p))) wd tn)) 112 (aI 64 (tI (wdL q p L) g))) n) := by
    refine ab_up 64 ?_ (fun i hi ih => ?_)
    · refine ab_sound ok_196 [2, 23] 50 ?_
      refine And.intro (fun _ => ?_) (fun h_9 => absurd (nI_le (Nat.le_refl _) (by omega)) h_9)
      refine ab_ev_of (lp2 (p + 1) z64 (Nat.le_refl _) rfl rfl) ?_ rfl rfl
      rw [show p + 1 - (p + 1) = 0 by omega]
      rfl
    · refine ab_sound ok_196 [2, 23] 50 ?_
      refine And.intro (fun h_9 => absurd h_9 (nI_ge hi (by omega))) (fun _ => ?_)
      refine And.intro (vp_in_nI hi (by omega)) ?_
      refine ab_ev_of ih (by rw [nI_s i]; rfl) rfl ?_
      rw [va_uu, nI_clamp (by omega)]
      refine congrArg (fun z => va_up _ 112 (aI 64 z)) ?_
      rw [← tI_take z64 g (i := i) (by show i < 64; omega)]
      congr 1
      unfold z64
      rw [List.getD_eq_getElem?_getD, List.getElem?_replicate, if_pos hi]
      rfl
  exact ab_ev_of (lp1 0 (by omega)) rfl rfl (by rw [show z64.take 0 = [] from rfl, tI_nil])
theorem c_Mod_keepWide (W : List Int) (w : ab_W) (n : Nat) {s : Nat → Int32} {wd tn : Int64} {f g : Nat → Int32} (hW : W.length = 64) (h0 : w 90 = oMod s wd tn) (h1 : w 111 = aI 64 f) (h2 : w 112 = aI 64 (tI W g)) : ab_C X l i_Mod_keepWide [.ref 90] w n 0 0 (ab_q1 none (va_up (va_up w 90 (oMod (upd s 39 (s 40)) wd tn)) 111 (aI 64 (tI W f))) n) := by
  obtain ⟨w, rfl⟩ := va_ex3 h2 h1 h0
  refine ab_metV cd_198 om_198 rfl rfl (ab_sound ok_198 [2] 50 ?_)
  have lp1 : ∀ i, i ≤ 64 → ab_Ev X l i_Mod_keepWide 2 [some (.ref 90), some (.int (nI i))] [] (va_up (va_up (va_up w 90 (oMod s wd tn)) 111 (aI 64 (tI (W.take i) f))) 112 (aI 64 (tI W g))) n 0 0 (ab_q1 none (va_up (va_up (va_up (va_up (va_up w 90 (oMod s wd tn)) 111 (aI 64 f)) 112 (aI 64 (tI W g))) 90 (oMod (upd s 39 (s 40)) wd tn)) 111 (aI 64 (tI W f))) n) := by
    refine ab_up 64 ?_ (fun i hi ih => ?_)
    · refine ab_sound ok_198 [2] 50 ?_
      refine And.intro (fun _ => ?_) (fun h_9 => absurd (nI_le (Nat.le_refl _) (by omega)) h_9)
      refine ⟨rfl, ?_, rfl⟩
      rw [List.take_of_length_le (by omega)]
      exact (by first | rfl | (simp only [va_uu, va_uc, Nat.reduceLT]; done) | (simp only [va_uu, va_uc, Nat.reduceLT]; rfl))
    · refine ab_sound ok_198 [2] 50 ?_
      refine And.intro (fun h_9 => absurd h_9 (nI_ge hi (by omega))) (fun _ => ?_)
      refine And.intro (vp_in_nI hi (by omega)) ?_
      refine And.intro (vp_in_nI hi (by omega)) ?_
      refine ab_ev_of ih (by rw [nI_s i]; rfl) rfl ?_
      rw [nI_clamp (by omega), tI_at W g (by omega), tI_take W f (by omega)]
      exact (by first | rfl | (simp only [va_uu, va_uc, Nat.reduceLT]; done) | (simp only [va_uu, va_uc, Nat.reduceLT]; rfl))
  exact ab_ev_of (lp1 0 (by omega)) rfl rfl (by rw [List.take_zero, tI_nil])
/-- one step of dividing, and all -/
def diR (k o : Nat) (c : Int) (L : List Int) : Nat → List Int → List Int
  | 0, W => W
  | r + 1, W => diR k o c L r (W.set (k + (o - r)) (W.getD (k + (o - r)) 0 - c * L.getD (o - r) 0))
theorem diR_len (k o : Nat) (c : Int) (L : List Int) : ∀ (r : Nat) (W : List Int), (diR k o c L r W).length = W.length
  | 0, _ => rfl
  | r + 1, W => by unfold diR; rw [diR_len k o c L r, List.length_set]
def dvS (k o : Nat) (L W : List Int) : List Int := (diR k o (W.getD (k + o) 0) L (o + 1) W).set (k + o) (W.getD (k + o) 0)
theorem dvS_len (k o : Nat) (L W : List Int) : (dvS k o L W).length = W.length := by
  unfold dvS
  rw [List.length_set, diR_len]
def dvR (o : Nat) (L : List Int) : Nat → List Int → List Int
  | 0, W => W
  | r + 1, W => dvR o L r (dvS r o L W)
theorem dvR_len (o : Nat) (L : List Int) : ∀ (r : Nat) (W : List Int), (dvR o L r W).length = W.length
  | 0, _ => rfl
  | r + 1, W => by unfold dvR; rw [dvR_len o L r, dvS_len]
/-- the quotient's row: the part from o on, then noughts -/
def dvP (o d : Nat) (W : List Int) : List Int := (List.range 64).map (fun k => if k ≤ d then W.getD (k + o) 0 else 0)
theorem dvP_len (o d : Nat) (W : List Int) : (dvP o d W).length = 64 := by unfold dvP; simp
theorem dvP_at (o d : Nat) (W : List Int) {k : Nat} (h : k < 64) : (dvP o d W).getD k 0 = if k ≤ d then W.getD (k + o) 0 else 0 := by
  unfold dvP
  rw [List.getD_eq_getElem?_getD, List.getElem?_map, List.getElem?_range h]
  rfl
set_option maxHeartbeats 1000000 in
theorem c_Mod_divide (o D : Nat) (L W : List Int) (w : ab_W) (n : Nat) {s : Nat → Int32} {wd tn : Int64} {f g : Nat → Int32} (hW : W.length = 64) (ho : o ≤ D) (hD : D ≤ 60) (hs : s 39 = nI o) (hs4 : s 40 = nI D) (h0 : w 90 = oMod s wd tn) (h1 : w 111 = aI 64 f) (hf : ∀ i, i ≤ o → f i = Int32.ofInt (L.getD i 0)) (h2 : w 112 = aI 64 (tI W g)) : ab_C X l i_Mod_divide [.ref 90] w n 0 0 (ab_q1 none (va_up (va_up (va_up w 90 (oMod (upd s 39 (nI (D - o))) wd tn)) 111 (aI 64 (tI (dvP o (D - o) (dvR o L (D - o + 1) W)) f))) 112 (aI 64 (tI (dvR o L (D - o + 1) W) g))) n) := by
  obtain ⟨w, rfl⟩ := va_ex3 h2 h1 h0
  refine ab_metV cd_197 om_197 rfl rfl (ab_sound ok_197 [17] 50 ?_)
  generalize hd : D - o = d
  generalize hW9 : dvR o L (d + 1) W = W9
  have hW9l : W9.length = 64 := by rw [← hW9, dvR_len]; exact hW
  have e39 : s 40 - s 39 = nI d := by rw [hs, hs4, pk_sub ho, hd]
  generalize hQ9 : ab_q1 none (va_up (va_up (va_up (va_up (va_up (va_up w 90 (oMod s wd tn)) 111 (aI 64 f)) 112 (aI 64 (tI W g))) 90 (oMod (upd s 39 (nI d)) wd tn)) 111 (aI 64 (tI (dvP o d W9) f))) 112 (aI 64 (tI W9 g))) n = Q9
  have lp4 : ∀ (k : Nat) (l4 l5 : Option Value), d + 1 ≤ k → k ≤ 64 → ab_Ev X l i_Mod_divide 115 [some (.ref 90), some (.int (nI d)), some (.int (nI o)), some (.int (nI k)), l4, l5] [] (va_up (va_up (va_up w 90 (oMod s wd tn)) 111 (aI 64 (tI ((dvP o d W9).take k) f))) 112 (aI 64 (tI W9 g))) n 0 0 Q9 := by
    intro k l4 l5 hk1 hk2
    revert hk1
    refine ab_up (P := fun k => d + 1 ≤ k → ab_Ev X l i_Mod_divide 115 [some (.ref 90), some (.int (nI d)), some (.int (nI o)), some (.int (nI k)), l4, l5] [] (va_up (va_up (va_up w 90 (oMod s wd tn)) 111 (aI 64 (tI ((dvP o d W9).take k) f))) 112 (aI 64 (tI W9 g))) n 0 0 Q9) 64 ?_ (fun k hk ih => ?_) k hk2
    · intro _
      refine ab_sound ok_197 [115] 50 ?_
      refine And.intro (fun _ => ?_) (fun h_9 => absurd (nI_le (Nat.le_refl _) (by omega)) h_9)
      subst hQ9
      refine ⟨rfl, ?_, rfl⟩
      rw [List.take_of_length_le (by rw [dvP_len]; omega)]
      exact (by first | rfl | (simp only [va_uu, va_uc, Nat.reduceLT]; done) | (simp only [va_uu, va_uc, Nat.reduceLT]; rfl))
    · intro hk1
      refine ab_sound ok_197 [115] 50 ?_
      refine And.intro (fun h_9 => absurd h_9 (nI_ge hk (by omega))) (fun _ => ?_)
      refine And.intro (vp_in_nI hk (by omega)) ?_
      refine ab_ev_of (ih (by omega)) (by rw [nI_s k]; rfl) rfl ?_
      rw [nI_clamp (by omega), ← tI_take _ f (i := k) (by rw [dvP_len]; exact hk), dvP_at _ _ _ hk, if_neg (by omega)]
      exact (by first | rfl | (simp only [va_uu, va_uc, Nat.reduceLT]; done) | (simp only [va_uu, va_uc, Nat.reduceLT]; rfl))
  have lp3 : ∀ (k : Nat) (l4 l5 : Option Value), k ≤ d + 1 → ab_Ev X l i_Mod_divide 86 [some (.ref 90), some (.int (nI d)), some (.int (nI o)), some (.int (nI k)), l4, l5] [] (va_up (va_up (va_up w 90 (oMod s wd tn)) 111 (aI 64 (tI ((dvP o d W9).take k) f))) 112 (aI 64 (tI W9 g))) n 0 0 Q9 := by
    intro k l4 l5 hk2
    refine ab_up (P := fun k => ab_Ev X l i_Mod_divide 86 [some (.ref 90), some (.int (nI d)), some (.int (nI o)), some (.int (nI k)), l4, l5] [] (va_up (va_up (va_up w 90 (oMod s wd tn)) 111 (aI 64 (tI ((dvP o d W9).take k) f))) 112 (aI 64 (tI W9 g))) n 0 0 Q9) (d + 1) ?_ (fun k hk ih => ?_) k hk2
    · refine ab_sound ok_197 [86, 115] 50 ?_
      refine And.intro (fun _ => ?_) (fun h_9 => absurd (nI_lt (by omega) (by omega)) h_9)
      refine ab_ev_of (lp4 (d + 1) l4 l5 (by omega) (by omega)) (by rw [nI_s d]; rfl) rfl rfl
    · refine ab_sound ok_197 [86, 115] 50 ?_
      refine And.intro (fun h_9 => absurd h_9 (nI_nlt (by omega) (by omega))) (fun _ => ?_)
      refine And.intro ((by rw [nI_add]; exact vp_in_nI (by omega) (by omega))) ?_
      refine And.intro (vp_in_nI (by omega) (by omega)) ?_
      refine ab_ev_of ih (by rw [nI_s k]; rfl) rfl ?_
      rw [nI_add, nI_clamp (by omega), nI_clamp (by omega), tI_at W9 g (by omega), ← tI_take _ f (i := k) (by rw [dvP_len]; omega), dvP_at _ _ _ (by omega), if_pos (by omega)]
      exact (by first | rfl | (simp only [va_uu, va_uc, Nat.reduceLT]; done) | (simp only [va_uu, va_uc, Nat.reduceLT]; rfl))
  have lp1 : ∀ (r : Nat) (V : List Int) (l4 l5 : Option Value), r ≤ d + 1 → V.length = 64 → dvR o L r V = W9 → ab_Ev X l i_Mod_divide 17 [some (.ref 90), some (.int (nI d)), some (.int (nI o)), some (.int (nI r - nI 1)), l4, l5] [] (va_up (va_up (va_up w 90 (oMod s wd tn)) 111 (aI 64 f)) 112 (aI 64 (tI V g))) n 0 0 Q9 := by
    intro r
    induction r with
    | zero =>
      intro V l4 l5 hr hV he
      have he : V = W9 := he
      subst he
      refine ab_sound ok_197 [17, 86] 50 ?_
      refine And.intro (fun _ => ?_) (fun h_9 => absurd ((by decide)) h_9)
      refine ab_ev_of (lp3 0 l4 l5 (by omega)) rfl rfl ?_
      rw [List.take_zero, tI_nil]
    | succ k ih =>
      intro V l4 l5 hr hV he
      rw [pk_sub (by omega), show k + 1 - 1 = k by omega]
      refine ab_sound ok_197 [17, 34] 50 ?_
      refine And.intro (fun h_9 => absurd h_9 (nI_pos (by omega))) (fun _ => ?_)
      refine And.intro ((by rw [nI_add]; exact vp_in_nI (by omega) (by omega))) ?_
      rw [nI_add, nI_clamp (by omega), tI_at V g (by omega)]
      have inn : ∀ (r : Nat) (V2 : List Int), r ≤ o + 1 → V2.length = 64 → diR k o (V.getD (k + o) 0) L r V2 = diR k o (V.getD (k + o) 0) L (o + 1) V → ab_Ev X l i_Mod_divide 34 [some (.ref 90), some (.int (nI d)), some (.int (nI o)), some (.int (nI k)), some (.int (Int32.ofInt (V.getD (k + o) 0))), some (.int (nI (o + 1 - r)))] [] (va_up (va_up (va_up w 90 (oMod s wd tn)) 111 (aI 64 f)) 112 (aI 64 (tI V2 g))) n 0 0 Q9 := by
        intro r
        induction r with
        | zero =>
          intro V2 hr2 hV2 he2
          have he2 : V2 = diR k o (V.getD (k + o) 0) L (o + 1) V := he2
          refine ab_sound ok_197 [17, 34] 50 ?_
          refine And.intro (fun _ => ?_) (fun h_9 => absurd (nI_lt (by omega) (by omega)) h_9)
          refine And.intro ((by rw [nI_add]; exact vp_in_nI (by omega) (by omega))) ?_
          refine ab_ev_of (ih (dvS k o L V) (some (.int (Int32.ofInt (V.getD (k + o) 0)))) (some (.int (nI (o + 1 - 0)))) (by omega) (by rw [dvS_len]; exact hV) he) rfl rfl ?_
          rw [nI_add, nI_clamp (by omega), tI_set _ _ _ (by omega), he2]
          exact (by first | rfl | (simp only [va_uu, va_uc, Nat.reduceLT]; done) | (simp only [va_uu, va_uc, Nat.reduceLT]; rfl))
        | succ r ih2 =>
          intro V2 hr2 hV2 he2
          rw [show o + 1 - (r + 1) = o - r by omega]
          refine ab_sound ok_197 [17, 34] 50 ?_
          refine And.intro (fun h_9 => absurd h_9 (nI_nlt (by omega) (by omega))) (fun _ => ?_)
          refine And.intro ((by rw [nI_add]; exact vp_in_nI (by omega) (by omega))) ?_
          refine And.intro (vp_in_nI (by omega) (by omega)) ?_
          refine And.intro ((by rw [nI_add]; exact vp_in_nI (by omega) (by omega))) ?_
          refine ab_ev_of (ih2 (V2.set (k + (o - r)) (V2.getD (k + (o - r)) 0 - V.getD (k + o) 0 * L.getD (o - r) 0)) (by omega) (by rw [List.length_set]; exact hV2) he2) ?_ rfl ?_
          · rw [show o + 1 - r = o - r + 1 by omega, nI_s (o - r)]
            rfl
          · rw [nI_add, nI_clamp (by omega), nI_clamp (by omega), tI_at V2 g (by omega), hf _ (by omega), ← Int32.ofInt_mul, ← Int32.ofInt_sub, tI_set _ _ _ (by omega)]
            exact (by first | rfl | (simp only [va_uu, va_uc, Nat.reduceLT]; done) | (simp only [va_uu, va_uc, Nat.reduceLT]; rfl))
      refine ab_ev_of (inn (o + 1) V (Nat.le_refl _) hV rfl) ?_ rfl rfl
      rw [show o + 1 - (o + 1) = 0 by omega]
      rfl
  refine ab_ev_of (lp1 (d + 1) W none none (Nat.le_refl _) hW hW9) ?_ rfl rfl
  rw [pk_sub (by omega), show d + 1 - 1 = d by omega, ← e39, ← hs]
  rfl
/-- the model's way to the polynomial: rest, q, whether q is new, the row, its degree -/
def lpF : Nat → Nat → Nat → Bool → List Int → Nat → List Int × Nat
  | 0, _, _, _, L, p => (L, p)
  | k + 1, rest, q, first, L, p =>
    if rest % q = 0 then
      (if first = true then lpF k (rest / q) q false (dvP p (q * p - p) (dvR p L (q * p - p + 1) (wdL q p L))) (q * p - p) else lpF k (rest / q) q false (wdL q p L) (q * p))
    else if rest ≤ 1 then (L, p) else lpF k rest (q + 1) true L p
def pl0 : List Int := -1 :: 1 :: List.replicate 62 0
def poly (N : Nat) : List Int × Nat := lpF 130 N 2 true pl0 1
/-- both ways to the polynomial come to the same, for every N -/
theorem poly_least : ∀ N, N ≤ 60 → 3 ≤ N → (poly N).2 = phi N ∧ ∀ i, i < 59 → i ≤ phi N → (poly N).1.getD i 0 = (least N).getD i 0 := by decide +kernel
end POLY

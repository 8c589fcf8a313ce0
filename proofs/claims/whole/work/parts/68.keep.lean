/-! what is kept of the arms; the most that are alike -/
theorem va_ex5 {w : ab_W} {k1 k2 k3 k4 k5 : Nat} {c1 c2 c3 c4 c5 : va_E} (h1 : w k1 = c1) (h2 : w k2 = c2) (h3 : w k3 = c3) (h4 : w k4 = c4) (h5 : w k5 = c5) : ∃ w0, w = va_up (va_up (va_up (va_up (va_up w0 k5 c5) k4 c4) k3 c3) k2 c2) k1 c1 := by
  refine ⟨w, ?_⟩
  rw [← va_self h5, ← va_self h4, ← va_self h3, ← va_self h2, ← va_self h1]
theorem cnt_s (P : Nat → Bool) (f : Nat) : cnt P (f + 1) = cnt P f + (if P f = true then 1 else 0) := rfl
theorem cnt_mono (P : Nat → Bool) {a : Nat} : ∀ b, a ≤ b → cnt P a ≤ cnt P b
  | 0, h => by rw [show a = 0 by omega]; exact Nat.le_refl _
  | b + 1, h => by
    by_cases e : a = b + 1
    · rw [e]; exact Nat.le_refl _
    · have := cnt_mono P (a := a) b (by omega)
      rw [cnt_s]
      omega
theorem cnt_lt {P : Nat → Bool} {a b : Nat} (h : a < b) (hp : P a = true) : cnt P a < cnt P b := by
  have h1 := cnt_mono P b (show a + 1 ≤ b by omega)
  rw [cnt_s, if_pos hp] at h1
  omega
theorem cnt_ex {P : Nat → Bool} : ∀ {N i : Nat}, i < cnt P N → ∃ f, f < N ∧ P f = true ∧ cnt P f = i
  | 0, i, h => absurd h (Nat.not_lt_zero _)
  | N + 1, i, h => by
    rw [cnt_s] at h
    by_cases e : i < cnt P N
    · obtain ⟨f, h1, h2, h3⟩ := cnt_ex e
      exact ⟨f, by omega, h2, h3⟩
    · by_cases hp : P N = true
      · rw [if_pos hp] at h
        exact ⟨N, by omega, hp, by omega⟩
      · rw [if_neg hp] at h
        omega
def KeptIs (N : Nat) (A : Nat → Nat → Int64) (m : Nat) (arm : Nat → Int32) (sp : Nat → Int64) (pl : Nat → Int32) : Prop := ∀ f, f < m → thB N (A f) = true → arm (cnt (fun f => thB N (A f)) f) = nI f ∧ sp (cnt (fun f => thB N (A f)) f) = spV N (A f) ∧ pl (cnt (fun f => thB N (A f)) f) = b01 (plB N (A f))
theorem vp_ne {f : Nat → Int64} {i j : Nat} {x : Int64} (h : j ≠ i) : vp_updL f i x j = f j := by simp [vp_updL, h]
theorem vp_at {f : Nat → Int64} {i : Nat} {x : Int64} : vp_updL f i x i = x := by simp [vp_updL]
theorem KeptIs.no {N : Nat} {A : Nat → Nat → Int64} {m : Nat} {arm : Nat → Int32} {sp : Nat → Int64} {pl : Nat → Int32} (h : KeptIs N A m arm sp pl) (hm : thB N (A m) = false) : KeptIs N A (m + 1) arm sp pl := fun f hf ht => by
  by_cases e : f = m
  · rw [e, hm] at ht; cases ht
  · exact h f (by omega) ht
theorem KeptIs.yes {N : Nat} {A : Nat → Nat → Int64} {m : Nat} {arm : Nat → Int32} {sp : Nat → Int64} {pl : Nat → Int32} (h : KeptIs N A m arm sp pl) : KeptIs N A (m + 1) (upd arm (cnt (fun f => thB N (A f)) m) (nI m)) (vp_updL sp (cnt (fun f => thB N (A f)) m) (spV N (A m))) (upd pl (cnt (fun f => thB N (A f)) m) (b01 (plB N (A m)))) := fun f hf ht => by
  by_cases e : f = m
  · subst e
    exact ⟨upd_at, vp_at, upd_at⟩
  · have := cnt_lt (P := fun f => thB N (A f)) (show f < m by omega) ht
    rw [upd_ne (by omega), vp_ne (by omega), upd_ne (by omega)]
    exact h f (by omega) ht
/-- two rows that were kept of the same arms answer the same -/
theorem kept_eq {N : Nat} {A : Nat → Nat → Int64} {arm arm2 : Nat → Int32} {sp sp2 : Nat → Int64} {pl pl2 : Nat → Int32} (h : KeptIs N A N arm sp pl) (h2 : KeptIs N A N arm2 sp2 pl2) (i : Nat) (hi : i < cnt (fun f => thB N (A f)) N) : arm i = arm2 i ∧ sp i = sp2 i ∧ pl i = pl2 i ∧ ∃ b, pl i = b01 b := by
  obtain ⟨f, h3, h4, h5⟩ := cnt_ex hi
  obtain ⟨a1, a2, a3⟩ := h f h3 h4
  obtain ⟨b1, b2, b3⟩ := h2 f h3 h4
  rw [h5] at a1 a2 a3 b1 b2 b3
  exact ⟨a1.trans b1.symm, a2.trans b2.symm, a3.trans b3.symm, _, a3⟩
/-- a scan for the first greatest above g0 -/
def ScIs (g0 : Nat) (a : Nat → Nat) (m best : Nat) (o : Option Nat) : Prop := match o with
  | none => best = g0 ∧ ∀ x, x < m → a x ≤ g0
  | some y => y < m ∧ best = a y ∧ g0 < best ∧ (∀ x, x < m → a x ≤ best) ∧ ∀ x, x < y → a x < best
theorem ScIs.nil (g0 : Nat) (a : Nat → Nat) : ScIs g0 a 0 g0 none := ⟨rfl, fun x hx => by omega⟩
theorem ScIs.uniq {g0 m b1 b2 : Nat} {a : Nat → Nat} {o1 o2 : Option Nat} (h1 : ScIs g0 a m b1 o1) (h2 : ScIs g0 a m b2 o2) : b1 = b2 ∧ o1 = o2 := by
  cases o1 with
  | none =>
    cases o2 with
    | none => exact ⟨h1.1.trans h2.1.symm, rfl⟩
    | some y =>
      obtain ⟨q1, q2, q3, -⟩ := h2
      have := h1.2 y q1
      omega
  | some x =>
    obtain ⟨p1, p2, p3, p4, p5⟩ := h1
    cases o2 with
    | none =>
      have := h2.2 x p1
      omega
    | some y =>
      obtain ⟨q1, q2, q3, q4, q5⟩ := h2
      have e1 := p4 y q1
      have e2 := q4 x p1
      have e : x = y := by
        rcases Nat.lt_trichotomy x y with e | e | e
        · have := q5 x e; omega
        · exact e
        · have := p5 y e; omega
      exact ⟨by omega, by rw [e]⟩
theorem ScIs.keep {g0 m b : Nat} {a : Nat → Nat} {o : Option Nat} (h : ScIs g0 a m b o) (hb : a m ≤ b) : ScIs g0 a (m + 1) b o := by
  cases o with
  | none => exact ⟨h.1, fun x hx => by
      by_cases e : x = m
      · rw [e]; have := h.1; omega
      · exact h.2 x (by omega)⟩
  | some y =>
    obtain ⟨p1, p2, p3, p4, p5⟩ := h
    exact ⟨by omega, p2, p3, fun x hx => by
      by_cases e : x = m
      · rw [e]; exact hb
      · exact p4 x (by omega), p5⟩
theorem ScIs.up {g0 m b : Nat} {a : Nat → Nat} {o : Option Nat} (h : ScIs g0 a m b o) (hb : b < a m) : ScIs g0 a (m + 1) (a m) (some m) := by
  cases o with
  | none => exact ⟨by omega, rfl, by have := h.1; omega, fun x hx => by
      by_cases e : x = m
      · rw [e]; exact Nat.le_refl _
      · have := h.2 x (by omega); have := h.1; omega, fun x hx => by have := h.2 x hx; have := h.1; omega⟩
  | some y =>
    obtain ⟨p1, p2, p3, p4, p5⟩ := h
    exact ⟨by omega, rfl, by omega, fun x hx => by
      by_cases e : x = m
      · rw [e]; exact Nat.le_refl _
      · have := p4 x (by omega); omega, fun x hx => by have := p4 x hx; omega⟩
/-- a whole row of a scan, by its own scan from nothing -/
theorem ScIs.row {g0 m N b b2 : Nat} {a : Nat → Nat} {o o2 : Option Nat} (h : ScIs g0 a m b o) (h2 : ScIs 0 (fun f => a (m + f)) N b2 o2) : ScIs g0 a (m + N) (if b2 ≤ b then b else b2) (if b2 ≤ b then o else o2.map (m + ·)) := by
  have hall : ∀ x, x < m + N → m ≤ x → a x ≤ b2 := by
    intro x hx hm
    obtain ⟨d, rfl⟩ := Nat.le.dest hm
    cases o2 with
    | none =>
      have h9 : a (m + d) ≤ 0 := h2.2 d (by omega)
      have := h2.1
      omega
    | some y =>
      have h9 : a (m + d) ≤ b2 := h2.2.2.2.1 d (by omega)
      exact h9
  by_cases e : b2 ≤ b
  · rw [if_pos e, if_pos e]
    cases o with
    | none => exact ⟨h.1, fun x hx => by
        by_cases e2 : x < m
        · exact h.2 x e2
        · have := hall x hx (by omega); have := h.1; omega⟩
    | some y =>
      obtain ⟨p1, p2, p3, p4, p5⟩ := h
      exact ⟨by omega, p2, p3, fun x hx => by
        by_cases e2 : x < m
        · exact p4 x e2
        · have := hall x hx (by omega); omega, p5⟩
  · rw [if_neg e, if_neg e]
    cases o2 with
    | none => have := h2.1; omega
    | some y =>
      obtain ⟨q1, q2, q3, q4, q5⟩ := h2
      have q2 : b2 = a (m + y) := q2
      have q5 : ∀ x, x < y → a (m + x) < b2 := q5
      show ScIs g0 a (m + N) b2 (some (m + y))
      have hold : ∀ x, x < m → a x ≤ b ∧ g0 ≤ b := by
        intro x hx
        cases o with
        | none => have := h.2 x hx; have := h.1; omega
        | some z => exact ⟨h.2.2.2.1 x hx, by have := h.2.2.1; omega⟩
      have hg : g0 ≤ b := by
        cases o with
        | none => have := h.1; omega
        | some z => have := h.2.2.1; omega
      refine ⟨by omega, q2, by omega, fun x hx => ?_, fun x hx => ?_⟩
      · by_cases e2 : x < m
        · have := hold x e2; omega
        · exact hall x hx (by omega)
      · by_cases e2 : x < m
        · have := hold x e2; omega
        · obtain ⟨d, rfl⟩ := Nat.le.dest (show m ≤ x by omega)
          exact q5 d (by omega)
def aX (N : Nat) (al : Nat → Nat → Nat) (x : Nat) : Nat := al (x / N) (x % N)
theorem dm_at {N k f : Nat} (hf : f < N) : (k * N + f) / N = k ∧ (k * N + f) % N = f := by
  have h1 : (k * N + f) % N = f := by rw [Nat.mul_comm, Nat.mul_add_mod, Nat.mod_eq_of_lt hf]
  refine ⟨?_, h1⟩
  have h2 := Nat.div_add_mod (k * N + f) N
  rw [h1] at h2
  have h3 : N * ((k * N + f) / N) = N * k := by rw [Nat.mul_comm N k]; omega
  exact Nat.eq_of_mul_eq_mul_left (by omega) h3
theorem aX_at {N k f : Nat} (al : Nat → Nat → Nat) (hf : f < N) : aX N al (k * N + f) = al k f := by
  unfold aX
  rw [(dm_at hf).1, (dm_at hf).2]
def chV (N : Nat) (o : Option Nat) : Int32 := match o with
  | none => -nI 1
  | some y => nI (y / N)
def alV (N : Nat) (kd td : Nat → Int32) (k f : Nat) : Nat := if kd f = nI 0 then 0 else cnt (fun g => itB N kd td f g ((nI g - nI f) * nI k)) N
theorem alV_le (N : Nat) (kd td : Nat → Int32) (k f : Nat) : alV N kd td k f ≤ N := by
  unfold alV
  split
  · omega
  · exact cnt_le _ _
section KEEP
variable {X : ab_X} {l : Launch}
theorem k_keep (N : Nat) (w : ab_W) (n : Nat) {A : Nat → Nat → Int64} {kp ch cs mo ma : Int32} {g sp : Nat → Int64} {arm pl : Nat → Int32} (hM : 3 ≤ N ∧ N ≤ 60) (h27 : w 27 = oTold (nI N) (nI (phi N)) kp ch cs mo ma) (h28 : w 28 = aJ 3480 g) (hg : Rw N g A) (h29 : w 29 = aI 60 arm) (h30 : w 30 = aJ 60 sp) (h31 : w 31 = aI 60 pl) :
    ab_C X l i_Told_keep [.ref 27] w n 0 0 (qV fun w' n' => n = n' ∧ Fr (fun k => k = 27 ∨ (29 ≤ k ∧ k ≤ 31)) w w' ∧ w' 27 = oTold (nI N) (nI (phi N)) (nI (cnt (fun f => thB N (A f)) N)) ch cs mo ma ∧ ∃ arm' sp' pl', w' 29 = aI 60 arm' ∧ w' 30 = aJ 60 sp' ∧ w' 31 = aI 60 pl' ∧ KeptIs N A N arm' sp' pl') := by
  have loop : ∀ f, f ≤ N → ∀ w3 arm sp pl, Fr (fun k => k = 27 ∨ (29 ≤ k ∧ k ≤ 31)) w w3 → w3 27 = oTold (nI N) (nI (phi N)) (nI (cnt (fun f => thB N (A f)) f)) ch cs mo ma → w3 29 = aI 60 arm → w3 30 = aJ 60 sp → w3 31 = aI 60 pl → KeptIs N A f arm sp pl → ab_Ev X l i_Told_keep 7 [some (.ref 27), some (.int (nI f))] [] w3 n 0 0 (qV fun w' n' => n = n' ∧ Fr (fun k => k = 27 ∨ (29 ≤ k ∧ k ≤ 31)) w w' ∧ w' 27 = oTold (nI N) (nI (phi N)) (nI (cnt (fun f => thB N (A f)) N)) ch cs mo ma ∧ ∃ arm' sp' pl', w' 29 = aI 60 arm' ∧ w' 30 = aJ 60 sp' ∧ w' 31 = aI 60 pl' ∧ KeptIs N A N arm' sp' pl') := by
    refine ab_up N ?_ (fun f hf ih => ?_)
    · intro w3 arm sp pl hf h27 h29 h30 h31 hk
      obtain ⟨w3, rfl⟩ := va_ex h27
      refine ab_sound ok_92 [7] 80 ?_
      refine And.intro (fun _ => ?_) (fun h_9 => absurd (nI_le (Nat.le_refl _) (by omega)) h_9)
      exact ⟨rfl, rfl, hf, rfl, arm, sp, pl, h29, h30, h31, hk⟩
    · intro w3 arm sp pl hfr h27 h29 h30 h31 hk
      have hcf := cnt_le (fun f => thB N (A f)) f
      have h28 := hfr.get h28 (by omega)
      rw [cnt_s] at ih
      generalize hc : cnt (fun f => thB N (A f)) f = c at *
      obtain ⟨w3, rfl⟩ := va_ex5 h27 h28 h29 h30 h31
      refine ab_sound ok_92 [7, 68] 80 ?_
      refine And.intro (fun h_9 => absurd h_9 (nI_ge hf (by omega))) (fun _ => ?_)
      (refine Exists.intro 0 ?_; refine ⟨0, _, Nat.zero_le _, Nat.zero_le _, c_isThere _ f N _ _ rfl hf hM rfl rfl hg, ?_⟩; refine ab_q1_elim ?_)
      cases hb : thB N (A f)
      · refine And.intro (fun _ => ?_) (fun h_9 => absurd (rfl) h_9)
        rw [hb] at ih
        exact ab_ev_of (ih _ arm sp pl hfr rfl rfl rfl rfl (hk.no hb)) (by rw [nI_s f]; rfl) rfl rfl
      · refine And.intro (fun h_9 => absurd h_9 ((by decide))) (fun _ => ?_)
        refine And.intro (vp_in_nI (by omega) (by omega)) ?_
        (refine Exists.intro 0 ?_; refine ⟨0, _, Nat.zero_le _, Nat.zero_le _, c_spanOf _ f N _ _ rfl hf hM rfl rfl hg, ?_⟩; refine ab_q1_elim ?_)
        refine And.intro (vp_in_nI (by omega) (by omega)) ?_
        (refine Exists.intro 0 ?_; refine ⟨0, _, Nat.zero_le _, Nat.zero_le _, c_isPlain _ f N _ _ rfl hf hM rfl rfl hg, ?_⟩; refine ab_q1_elim ?_)
        rw [hb, if_pos rfl] at ih
        have hk2 := hk.yes
        rw [hc] at hk2
        have go : ∀ z : Int32, z = b01 (plB N (A f)) → ab_Ev X l i_Told_keep 68 [some (.ref 27), some (.int (nI f))] [.int z, .int (nI c), .ref 31] (va_up (va_up (va_up (va_up (va_up (va_up (va_up w3 31 (aI 60 pl)) 30 (aJ 60 sp)) 29 (aI 60 arm)) 28 (aJ 3480 g)) 27 (oTold (nI N) (nI (phi N)) (nI c) ch cs mo ma)) 29 (aI 60 (upd arm c (nI f)))) 30 (aJ 60 (vp_updL sp c (spV N (A f))))) n 0 0 (qV fun w' n' => n = n' ∧ Fr (fun k => k = 27 ∨ (29 ≤ k ∧ k ≤ 31)) w w' ∧ w' 27 = oTold (nI N) (nI (phi N)) (nI (cnt (fun f => thB N (A f)) N)) ch cs mo ma ∧ ∃ arm' sp' pl', w' 29 = aI 60 arm' ∧ w' 30 = aJ 60 sp' ∧ w' 31 = aI 60 pl' ∧ KeptIs N A N arm' sp' pl') := by
          intro z hz
          subst hz
          refine ab_sound ok_92 [7] 80 ?_
          refine And.intro (vp_in_nI (by omega) (by omega)) ?_
          rw [nI_clamp (by omega)]
          refine ab_ev_of (ih _ _ _ _ ((((hfr.up (by omega)).up (by omega)).up (by omega)).up (by omega)) ?_ rfl rfl rfl hk2) (by rw [nI_s f]; rfl) rfl rfl
          rw [nI_s c]
          rfl
        rw [nI_clamp (by omega)]
        cases hb2 : plB N (A f)
        · refine And.intro (fun _ => ?_) (fun h_9 => absurd (rfl) h_9)
          exact go _ (by rw [hb2]; rfl)
        · refine And.intro (fun h_9 => absurd h_9 ((by decide))) (fun _ => ?_)
          exact go _ (by rw [hb2]; rfl)
  obtain ⟨w9, rfl⟩ := va_ex h27
  refine ab_mqV cd_92 om_92 rfl rfl (ab_sound ok_92 [7] 80 ?_)
  exact ab_ev_of (loop 0 (by omega) _ arm sp pl (Fr.refl.up (by omega)) va_us ((va_un (by omega)).trans h29) ((va_un (by omega)).trans h30) ((va_un (by omega)).trans h31) (fun f hf => by omega)) rfl rfl rfl
theorem k_findMostAlike (x : Int32) (k N : Nat) (w : ab_W) (n : Nat) {kp ch cs mo ma K : Int32} {kd td : Nat → Int32} (hx : x = nI k) (hk : k < N) (hM : 3 ≤ N ∧ N ≤ 60) (h27 : w 27 = oTold (nI N) (nI (phi N)) kp ch cs mo ma) (h20 : w 20 = oOrb (nI N) (nI (phi N)) K) (h25 : w 25 = aI 120 kd) (h26 : w 26 = aI 120 td) :
    ab_C X l i_Told_findMostAlike [.ref 27, .ref 20, .int x] w n 0 0 (qV fun w' n' => n = n' ∧ ∃ (b : Nat) (o : Option Nat) (ma' : Int32), w' = va_up w 27 (oTold (nI N) (nI (phi N)) kp ch cs (nI b) ma') ∧ ScIs 0 (alV N kd td k) N b o ∧ ∀ y, o = some y → ma' = nI y) := by
  subst hx
  obtain ⟨w, rfl⟩ := va_ex4 h27 h20 h25 h26
  refine ab_mqV cd_98 om_98 rfl rfl (ab_sound ok_98 [7] 80 ?_)
  generalize hW : va_up (va_up (va_up w 26 (aI 120 td)) 25 (aI 120 kd)) 20 (oOrb (nI N) (nI (phi N)) K) = W
  have loop : ∀ f, f ≤ N → ∀ (b : Nat) (o : Option Nat) (ma2 : Int32), ScIs 0 (alV N kd td k) f b o → (∀ y, o = some y → ma2 = nI y) → ∀ l4 l5 : Option Value, ab_Ev X l i_Told_findMostAlike 7 [some (.ref 27), some (.ref 20), some (.int (nI k)), some (.int (nI f)), l4, l5] [] (va_up W 27 (oTold (nI N) (nI (phi N)) kp ch cs (nI b) ma2)) n 0 0 (qV fun w' n' => n = n' ∧ ∃ (b : Nat) (o : Option Nat) (ma' : Int32), w' = va_up (va_up W 27 (oTold (nI N) (nI (phi N)) kp ch cs mo ma)) 27 (oTold (nI N) (nI (phi N)) kp ch cs (nI b) ma') ∧ ScIs 0 (alV N kd td k) N b o ∧ ∀ y, o = some y → ma' = nI y) := by
    subst hW
    refine ab_up N ?_ (fun f hf ih => ?_)
    · intro b o ma2 hs ho l4 l5
      refine ab_sound ok_98 [7] 80 ?_
      refine And.intro (fun _ => ?_) (fun h_9 => absurd (nI_le (Nat.le_refl _) (by omega)) h_9)
      exact ⟨rfl, rfl, b, o, ma2, by rw [va_uu], hs, ho⟩
    · intro b o ma2 hs ho l4 l5
      have hbN : b ≤ N := by
        cases o with
        | none => have := hs.1; omega
        | some y => have := hs.2.1; rw [this]; exact alV_le _ _ _ _ _
      have haN := alV_le N kd td k f
      have fin : ∀ l5 : Option Value, ab_Ev X l i_Told_findMostAlike 64 [some (.ref 27), some (.ref 20), some (.int (nI k)), some (.int (nI f)), some (.int (nI (alV N kd td k f))), l5] [] (va_up (va_up (va_up (va_up w 26 (aI 120 td)) 25 (aI 120 kd)) 20 (oOrb (nI N) (nI (phi N)) K)) 27 (oTold (nI N) (nI (phi N)) kp ch cs (nI b) ma2)) n 0 0 (qV fun w' n' => n = n' ∧ ∃ (b : Nat) (o : Option Nat) (ma' : Int32), w' = va_up (va_up (va_up (va_up (va_up w 26 (aI 120 td)) 25 (aI 120 kd)) 20 (oOrb (nI N) (nI (phi N)) K)) 27 (oTold (nI N) (nI (phi N)) kp ch cs mo ma)) 27 (oTold (nI N) (nI (phi N)) kp ch cs (nI b) ma') ∧ ScIs 0 (alV N kd td k) N b o ∧ ∀ y, o = some y → ma' = nI y) := by
        intro l5
        refine ab_sound ok_98 [7] 80 ?_
        by_cases e : alV N kd td k f ≤ b
        · refine And.intro (fun _ => ?_) (fun h_9 => absurd (nI_le e (by omega)) h_9)
          exact ab_ev_of (ih b o ma2 (hs.keep e) ho (some (.int (nI (alV N kd td k f)))) l5) (by rw [nI_s f]; rfl) rfl rfl
        · refine And.intro (fun h_9 => absurd h_9 (nI_ge (by omega) (by omega))) (fun _ => ?_)
          exact ab_ev_of (ih (alV N kd td k f) (some f) (nI f) (hs.up (by omega)) (fun y hy => by cases hy; rfl) (some (.int (nI (alV N kd td k f)))) l5) (by rw [nI_s f]; rfl) rfl (by rw [va_uu, va_uu]; rfl)
      refine ab_sound ok_98 [7, 21, 64] 80 ?_
      refine And.intro (fun h_9 => absurd h_9 (nI_ge hf (by omega))) (fun _ => ?_)
      by_cases hz : kd f = nI 0
      · have e0 : alV N kd td k f = 0 := by unfold alV; rw [if_pos hz]
        rw [e0] at fin
        refine ab_sound ok_98 [7, 64] 80 ?_
        refine And.intro (fun h_9 => absurd h_9 (nI_ge (show 0 < N by omega) (by omega))) (fun _ => ?_)
        refine And.intro (vp_in_nI (by omega) (by omega)) ?_
        rw [nI_clamp (by omega)]
        refine And.intro (fun _ => ?_) (fun h_9 => absurd (hz) h_9)
        exact fin _
      · have e0 : alV N kd td k f = cnt (fun g => itB N kd td f g ((nI g - nI f) * nI k)) N := by unfold alV; rw [if_neg hz]
        rw [e0] at fin
        have inn : ∀ g, g ≤ N → ab_Ev X l i_Told_findMostAlike 21 [some (.ref 27), some (.ref 20), some (.int (nI k)), some (.int (nI f)), some (.int (nI (cnt (fun g => itB N kd td f g ((nI g - nI f) * nI k)) g))), some (.int (nI g))] [] (va_up (va_up (va_up (va_up w 26 (aI 120 td)) 25 (aI 120 kd)) 20 (oOrb (nI N) (nI (phi N)) K)) 27 (oTold (nI N) (nI (phi N)) kp ch cs (nI b) ma2)) n 0 0 (qV fun w' n' => n = n' ∧ ∃ (b : Nat) (o : Option Nat) (ma' : Int32), w' = va_up (va_up (va_up (va_up (va_up w 26 (aI 120 td)) 25 (aI 120 kd)) 20 (oOrb (nI N) (nI (phi N)) K)) 27 (oTold (nI N) (nI (phi N)) kp ch cs mo ma)) 27 (oTold (nI N) (nI (phi N)) kp ch cs (nI b) ma') ∧ ScIs 0 (alV N kd td k) N b o ∧ ∀ y, o = some y → ma' = nI y) := by
          refine ab_up N ?_ (fun g hg ih2 => ?_)
          · refine ab_sound ok_98 [21, 64] 80 ?_
            refine And.intro (fun _ => ?_) (fun h_9 => absurd (nI_le (Nat.le_refl _) (by omega)) h_9)
            exact fin _
          · rw [cnt_s] at ih2
            refine ab_sound ok_98 [21, 64] 80 ?_
            refine And.intro (fun h_9 => absurd h_9 (nI_ge hg (by omega))) (fun _ => ?_)
            refine And.intro (vp_in_nI (by omega) (by omega)) ?_
            rw [nI_clamp (by omega)]
            refine And.intro (fun h_9 => absurd h_9 (hz)) (fun _ => ?_)
            (refine Exists.intro 0 ?_; refine ⟨0, _, Nat.zero_le _, Nat.zero_le _, c_isTurned _ _ _ f g N _ _ rfl rfl (by omega) (by omega) hM rfl rfl rfl, ?_⟩; refine ab_q1_elim ?_)
            cases hc : itB N kd td f g ((nI g - nI f) * nI k)
            · refine And.intro (fun _ => ?_) (fun h_9 => absurd (rfl) h_9)
              rw [hc] at ih2
              exact ab_ev_of ih2 (by rw [nI_s g]; rfl) rfl rfl
            · refine And.intro (fun h_9 => absurd h_9 ((by decide))) (fun _ => ?_)
              rw [hc, if_pos rfl] at ih2
              exact ab_ev_of ih2 (by rw [nI_s g, nI_s (cnt _ g)]; rfl) rfl rfl
        exact ab_ev_of (inn 0 (by omega)) rfl rfl rfl
  subst hW
  exact ab_ev_of (loop 0 (by omega) 0 none ma (ScIs.nil 0 _) (fun y hy => by cases hy) none none) rfl rfl (by rw [va_uu]; rfl)
end KEEP

/-! the box, and ways in which a sheet is made -/
def upZ (G T on : Nat) : Int := if on = 0 then (T : Int) - (G : Int) else (T : Int) + (G : Int)
def spZ (G T on : Nat) : Int := if on = 0 then (G : Int) - (T : Int) else (G : Int) + (T : Int)
def aAt (N G T : Nat) : Nat := md ((T / Nat.gcd G T : Nat) : Int) N
def oAt (N G T on : Nat) : Nat := md (upZ G T on / ((Nat.gcd G T : Nat) : Int)) N
def hitB (N : Nat) (A : Nat → Nat → Int64) (G T on : Nat) : Bool := decide ((on = 0 → T < G) ∧ aAt N G T ≠ oAt N G T on ∧ spV N (A (aAt N G T)) = Int64.ofInt (spZ G T on) ∧ spV N (A (oAt N G T on)) ≠ 0 ∧ spV N (A (oAt N G T on)) ≤ 200 ∧ -200 ≤ spV N (A (oAt N G T on)))
def MkIs (P : Nat → Bool) (r w o : Nat → Nat) (z : Nat → Int32) (m : Nat) (a1 a2 a3 a4 : Nat → Int32) : Prop := ∀ x, x < m → P x = true → cnt P x < 40 → a1 (cnt P x) = nI (r x) ∧ a2 (cnt P x) = nI (w x) ∧ a3 (cnt P x) = nI (o x) ∧ a4 (cnt P x) = z x
theorem MkIs.no {P : Nat → Bool} {r w o : Nat → Nat} {z : Nat → Int32} {m : Nat} {a1 a2 a3 a4 : Nat → Int32} (h : MkIs P r w o z m a1 a2 a3 a4) (hp : P m = false) : MkIs P r w o z (m + 1) a1 a2 a3 a4 := fun x hx h1 h2 => by
  by_cases e : x = m
  · rw [e, hp] at h1; cases h1
  · exact h x (by omega) h1 h2
theorem MkIs.full {P : Nat → Bool} {r w o : Nat → Nat} {z : Nat → Int32} {m : Nat} {a1 a2 a3 a4 : Nat → Int32} (h : MkIs P r w o z m a1 a2 a3 a4) (hp : 40 ≤ cnt P m) : MkIs P r w o z (m + 1) a1 a2 a3 a4 := fun x hx h1 h2 => by
  by_cases e : x = m
  · rw [e] at h2; omega
  · exact h x (by omega) h1 h2
theorem MkIs.yes {P : Nat → Bool} {r w o : Nat → Nat} {z : Nat → Int32} {m : Nat} {a1 a2 a3 a4 : Nat → Int32} (h : MkIs P r w o z m a1 a2 a3 a4) : MkIs P r w o z (m + 1) (upd a1 (cnt P m) (nI (r m))) (upd a2 (cnt P m) (nI (w m))) (upd a3 (cnt P m) (nI (o m))) (upd a4 (cnt P m) (z m)) := fun x hx h1 h2 => by
  by_cases e : x = m
  · subst e
    exact ⟨upd_at, upd_at, upd_at, upd_at⟩
  · have := cnt_lt (show x < m by omega) h1
    rw [upd_ne (by omega), upd_ne (by omega), upd_ne (by omega), upd_ne (by omega)]
    exact h x (by omega) h1 h2
theorem mk_eq {P : Nat → Bool} {r w o : Nat → Nat} {z : Nat → Int32} {m : Nat} {a1 a2 a3 a4 b1 b2 b3 b4 : Nat → Int32} (h : MkIs P r w o z m a1 a2 a3 a4) (h2 : MkIs P r w o z m b1 b2 b3 b4) (i : Nat) (hi : i < cnt P m) (hi2 : i < 40) : a1 i = b1 i ∧ a2 i = b2 i ∧ a3 i = b3 i ∧ a4 i = b4 i := by
  obtain ⟨x, h3, h4, h5⟩ := cnt_ex hi
  obtain ⟨q1, q2, q3, q4⟩ := h x h3 h4 (by omega)
  obtain ⟨p1, p2, p3, p4⟩ := h2 x h3 h4 (by omega)
  rw [h5] at q1 q2 q3 q4 p1 p2 p3 p4
  exact ⟨q1.trans p1.symm, q2.trans p2.symm, q3.trans p3.symm, q4.trans p4.symm⟩
def wR (W x : Nat) : Nat := x / 2 / W
def wW (W x : Nat) : Nat := x / 2 % W
def wO (x : Nat) : Nat := x % 2
def hP (N W : Nat) (A : Nat → Nat → Int64) (Gf Tf : Nat → Nat) (x : Nat) : Bool := hitB N A (Gf (wR W x)) (Tf (wW W x)) (wO x)
def hZ (N W : Nat) (A : Nat → Nat → Int64) (Gf Tf : Nat → Nat) (x : Nat) : Int32 := (spV N (A (oAt N (Gf (wR W x)) (Tf (wW W x)) (wO x)))).toInt32
theorem wx_at {W r w on : Nat} (hw : w < W) (ho : on < 2) : wR W ((r * W + w) * 2 + on) = r ∧ wW W ((r * W + w) * 2 + on) = w ∧ wO ((r * W + w) * 2 + on) = on := by
  unfold wR wW wO
  have h1 : ((r * W + w) * 2 + on) / 2 = r * W + w := by omega
  rw [h1]
  exact ⟨(dm_at hw).1, (dm_at hw).2, by omega⟩
theorem gcd_up (G T on : Nat) (h : on = 0 → T < G) : Nat.gcd (upZ G T on).natAbs T = Nat.gcd G T := by
  unfold upZ
  by_cases e : on = 0
  · have h9 := h e
    rw [if_pos e, show ((T : Int) - (G : Int)).natAbs = G - T by omega]
    rw [Nat.gcd_comm (G - T) T, Nat.gcd_comm G T]
    have : G = (G - T) + T := by omega
    rw [this, Nat.add_sub_cancel]
    exact (Nat.gcd_add_self_right T (G - T)).symm
  · rw [if_neg e, show ((T : Int) + (G : Int)).natAbs = G + T by omega]
    rw [Nat.gcd_comm (G + T) T, Nat.gcd_comm G T]
    exact Nat.gcd_add_self_right T G
theorem lg_ne0 {x z : Int64} : lg_cmp x z ≠ 0 ↔ x ≠ z := not_congr lg_eq
section BOX
variable {X : ab_X} {l : Launch}
theorem k_keepWay (x1 x2 x3 x4 : Int32) (m : Nat) (w : ab_W) (n : Nat) {P : Nat → Bool} {r v o : Nat → Nat} {z : Nat → Int32} {rg wl : Int32} {a1 a2 a3 a4 : Nat → Int32} (hp : P m = true) (h1 : x1 = nI (r m)) (h2 : x2 = nI (v m)) (h3 : x3 = nI (o m)) (h4 : x4 = z m) (hm : m < 1000) (h33 : w 33 = oBox rg wl (nI (cnt P m))) (h36 : w 36 = aI 40 a1) (h37 : w 37 = aI 40 a2) (h38 : w 38 = aI 40 a3) (h39 : w 39 = aI 40 a4) (hk : MkIs P r v o z m a1 a2 a3 a4) :
    ab_C X l i_Box_keepWay [.ref 33, .int x1, .int x2, .int x3, .int x4] w n 0 0 (qV fun w' n' => n = n' ∧ Fr (fun k => k = 33 ∨ (36 ≤ k ∧ k ≤ 39)) w w' ∧ w' 33 = oBox rg wl (nI (cnt P (m + 1))) ∧ ∃ b1 b2 b3 b4, w' 36 = aI 40 b1 ∧ w' 37 = aI 40 b2 ∧ w' 38 = aI 40 b3 ∧ w' 39 = aI 40 b4 ∧ MkIs P r v o z (m + 1) b1 b2 b3 b4) := by
  subst h1 h2 h3 h4
  have hc := cnt_le P m
  have hc2 : cnt P (m + 1) = cnt P m + 1 := by rw [cnt_s, if_pos hp]
  rw [hc2]
  have hy := hk.yes
  have hf := fun q => hk.full (by exact q)
  generalize cnt P m = c at *
  obtain ⟨w, rfl⟩ := va_ex5 h33 h36 h37 h38 h39
  refine ab_mqV cd_4 om_4 rfl rfl (ab_sound ok_4 [50] 80 ?_)
  by_cases e : c < 40
  · refine And.intro (fun h_9 => absurd h_9 (nI_ge e (by omega))) (fun _ => ?_)
    refine And.intro (vp_in_nI e (by omega)) ?_
    refine And.intro (vp_in_nI e (by omega)) ?_
    refine And.intro (vp_in_nI e (by omega)) ?_
    refine And.intro (vp_in_nI e (by omega)) ?_
    rw [nI_clamp (by omega)]
    refine ab_sound ok_4 [] 80 ?_
    exact ⟨rfl, rfl, ((((Fr.refl.up (by omega)).up (by omega)).up (by omega)).up (by omega)).up (by omega), by rw [nI_s c]; rfl, _, _, _, _, rfl, rfl, rfl, rfl, hy⟩
  · refine And.intro (fun _ => ?_) (fun h_9 => absurd (nI_le (by omega) (by omega)) h_9)
    refine ab_sound ok_4 [] 80 ?_
    exact ⟨rfl, rfl, Fr.refl.up (by omega), by rw [nI_s c]; rfl, a1, a2, a3, a4, rfl, rfl, rfl, rfl, hf (by omega)⟩
theorem k_tryWay (x y z : Int32) (i j on m R W N : Nat) (w : ab_W) (n : Nat) {A : Nat → Nat → Int64} {Gf Tf : Nat → Nat} {kp ch cs mo ma : Int32} {g : Nat → Int64} {rg wl : Int32} {ra wa a1 a2 a3 a4 : Nat → Int32} (hx : x = nI i) (hy : y = nI j) (hz : z = nI on) (hi : i < R) (hj : j < W) (hR : R ≤ 12) (hW : W ≤ 12) (ho : on < 2) (hm : m = (i * W + j) * 2 + on) (hM : 3 ≤ N ∧ N ≤ 60) (h27 : w 27 = oTold (nI N) (nI (phi N)) kp ch cs mo ma) (h28 : w 28 = aJ 3480 g) (hg : Rw N g A) (h34 : w 34 = aI 12 ra) (h35 : w 35 = aI 12 wa) (hra : ∀ i, i < R → ra i = nI (Gf i) ∧ 3 ≤ Gf i ∧ Gf i ≤ 200) (hwa : ∀ j, j < W → wa j = nI (Tf j) ∧ 3 ≤ Tf j ∧ Tf j ≤ 200) (hsk : on = 0 → Tf j < Gf i)
    (h33 : w 33 = oBox rg wl (nI (cnt (hP N W A Gf Tf) m))) (h36 : w 36 = aI 40 a1) (h37 : w 37 = aI 40 a2) (h38 : w 38 = aI 40 a3) (h39 : w 39 = aI 40 a4) (hk : MkIs (hP N W A Gf Tf) (wR W) (wW W) wO (hZ N W A Gf Tf) m a1 a2 a3 a4) :
    ab_C X l i_Box_tryWay [.ref 33, .ref 27, .int x, .int y, .int z] w n 0 0 (qV fun w' n' => n = n' ∧ Fr (fun k => k = 33 ∨ (36 ≤ k ∧ k ≤ 39)) w w' ∧ w' 33 = oBox rg wl (nI (cnt (hP N W A Gf Tf) (m + 1))) ∧ ∃ b1 b2 b3 b4, w' 36 = aI 40 b1 ∧ w' 37 = aI 40 b2 ∧ w' 38 = aI 40 b3 ∧ w' 39 = aI 40 b4 ∧ MkIs (hP N W A Gf Tf) (wR W) (wW W) wO (hZ N W A Gf Tf) (m + 1) b1 b2 b3 b4) := by
  subst hx hy hz
  obtain ⟨q1, q2, q3⟩ := wx_at (r := i) hj ho
  rw [← hm] at q1 q2 q3
  have hm9 : m < 1000 := by
    have : i * W ≤ 11 * 12 := Nat.mul_le_mul (by omega) hW
    omega
  have hPm : hP N W A Gf Tf m = hitB N A (Gf i) (Tf j) on := by unfold hP; rw [q1, q2, q3]
  have hZm : hZ N W A Gf Tf m = (spV N (A (oAt N (Gf i) (Tf j) on))).toInt32 := by unfold hZ; rw [q1, q2, q3]
  obtain ⟨r1, r2, r3⟩ := hra i hi
  obtain ⟨t1, t2, t3⟩ := hwa j hj
  have hgc := gcd_up (Gf i) (Tf j) on hsk
  generalize hG : Gf i = G at *
  generalize hT : Tf j = T at *
  have hup : -400 < upZ G T on ∧ upZ G T on < 401 ∧ upZ G T on ≠ 0 := by
    unfold upZ
    by_cases e : on = 0
    · have := hsk e; rw [if_pos e]; omega
    · rw [if_neg e]; omega
  have hd1 : 1 ≤ Nat.gcd G T := Nat.gcd_pos_of_pos_left _ (by omega)
  have hd2 : Nat.gcd G T ≤ 200 := Nat.le_trans (Nat.gcd_le_left _ (by omega)) r3
  have hdG : Nat.gcd G T ∣ G := Nat.gcd_dvd_left G T
  have hdT : Nat.gcd G T ∣ T := Nat.gcd_dvd_right G T
  have hdU : ((Nat.gcd G T : Nat) : Int) ∣ upZ G T on := by
    have a1 : ((Nat.gcd G T : Nat) : Int) ∣ (G : Int) := Int.natCast_dvd_natCast.mpr hdG
    have a2 : ((Nat.gcd G T : Nat) : Int) ∣ (T : Int) := Int.natCast_dvd_natCast.mpr hdT
    unfold upZ
    by_cases e : on = 0
    · rw [if_pos e]; exact Int.dvd_sub a2 a1
    · rw [if_neg e]; exact Int.dvd_add a2 a1
  have ha : aAt N G T < N := md_lt ((T / Nat.gcd G T : Nat) : Int) (show 0 < N by omega)
  have hob : oAt N G T on < N := md_lt (upZ G T on / ((Nat.gcd G T : Nat) : Int)) (show 0 < N by omega)
  obtain ⟨w, rfl⟩ := va_ex4 h33 h27 h34 h35
  generalize hQ : (qV fun w' n' => n = n' ∧ Fr (fun k => k = 33 ∨ (36 ≤ k ∧ k ≤ 39)) (va_up (va_up (va_up (va_up w 35 (aI 12 wa)) 34 (aI 12 ra)) 27 (oTold (nI N) (nI (phi N)) kp ch cs mo ma)) 33 (oBox rg wl (nI (cnt (hP N W A Gf Tf) m)))) w' ∧ w' 33 = oBox rg wl (nI (cnt (hP N W A Gf Tf) (m + 1))) ∧ ∃ b1 b2 b3 b4, w' 36 = aI 40 b1 ∧ w' 37 = aI 40 b2 ∧ w' 38 = aI 40 b3 ∧ w' 39 = aI 40 b4 ∧ MkIs (hP N W A Gf Tf) (wR W) (wW W) wO (hZ N W A Gf Tf) (m + 1) b1 b2 b3 b4) = Q
  have noQ : hitB N A G T on = false → Q none (va_up (va_up (va_up (va_up w 35 (aI 12 wa)) 34 (aI 12 ra)) 27 (oTold (nI N) (nI (phi N)) kp ch cs mo ma)) 33 (oBox rg wl (nI (cnt (hP N W A Gf Tf) m)))) n := by
    intro hb
    rw [hb] at hPm
    subst hQ
    exact ⟨rfl, rfl, Fr.refl, by rw [cnt_s, hPm]; rfl, a1, a2, a3, a4, h36, h37, h38, h39, hk.no hPm⟩
  have tail : ∀ sm : Bool, (sm = true ↔ spV N (A (oAt N G T on)) ≠ 0 ∧ spV N (A (oAt N G T on)) ≤ 200 ∧ -200 ≤ spV N (A (oAt N G T on))) → ∀ (u d : Int32), ab_Ev X l i_Box_tryWay 151 [some (.ref 33), some (.ref 27), some (.int (nI i)), some (.int (nI j)), some (.int (nI on)), some (.int (nI T)), some (.int u), some (.int d), some (.int (nI (aAt N G T))), some (.int (nI (oAt N G T on))), some (.long (Int64.ofInt (spZ G T on))), none, some (.long (spV N (A (oAt N G T on)))), none, none] [.int (b01 sm)] (va_up (va_up (va_up (va_up w 35 (aI 12 wa)) 34 (aI 12 ra)) 27 (oTold (nI N) (nI (phi N)) kp ch cs mo ma)) 33 (oBox rg wl (nI (cnt (hP N W A Gf Tf) m)))) n 0 0 Q := by
    intro sm hsm u d
    refine ab_sound ok_3 [] 80 ?_
    refine And.intro (fun e1 => ?_) (fun e1 => ?_)
    · have e9 : aAt N G T = oAt N G T on := (nI_eq (by omega) (by omega)).mp e1
      exact noQ (decide_eq_false (fun z => z.2.1 e9))
    · have e9 : aAt N G T ≠ oAt N G T on := fun z => e1 (by rw [z])
      (refine Exists.intro 0 ?_; refine ⟨0, _, Nat.zero_le _, Nat.zero_le _, c_spanOf _ (aAt N G T) N _ _ rfl ha hM rfl h28 hg, ?_⟩; refine ab_q1_elim ?_)
      refine And.intro (fun e2 => ?_) (fun e2 => ?_)
      · rw [lg_ne0] at e2
        exact noQ (decide_eq_false (fun z => e2 z.2.2.1))
      · rw [lg_eq] at e2
        cases sm
        · refine And.intro (fun _ => ?_) (fun h_9 => absurd (rfl) h_9)
          exact noQ (decide_eq_false (fun z => by have := hsm.mpr z.2.2.2; cases this))
        · refine And.intro (fun h_9 => absurd h_9 ((by decide))) (fun _ => ?_)
          have hh := hsm.mp rfl
          have hb : hitB N A G T on = true := decide_eq_true ⟨hsk, e9, e2, hh⟩
          rw [hb] at hPm
          (refine Exists.intro 0 ?_; refine ⟨0, _, Nat.zero_le _, Nat.zero_le _, k_keepWay _ _ _ _ m _ _ hPm (by rw [q1]) (by rw [q2]) (by rw [q3]) hZm.symm hm9 rfl h36 h37 h38 h39 hk, ?_⟩; rintro _ w4 _ ⟨rfl, rfl, f1, f2, f3⟩)
          subst hQ
          exact ⟨rfl, rfl, f1, f2, f3⟩
  have third : ∀ (u d : Int32) (s : Int64), s = Int64.ofInt (spZ G T on) → ab_Ev X l i_Box_tryWay 111 [some (.ref 33), some (.ref 27), some (.int (nI i)), some (.int (nI j)), some (.int (nI on)), some (.int (nI T)), some (.int u), some (.int d), some (.int (nI (aAt N G T))), some (.int (nI (oAt N G T on))), none, none, none, none, none] [.long s] (va_up (va_up (va_up (va_up w 35 (aI 12 wa)) 34 (aI 12 ra)) 27 (oTold (nI N) (nI (phi N)) kp ch cs mo ma)) 33 (oBox rg wl (nI (cnt (hP N W A Gf Tf) m)))) n 0 0 Q := by
    intro u d s hs
    subst hs
    refine ab_sound ok_3 [151] 80 ?_
    (refine Exists.intro 0 ?_; refine ⟨0, _, Nat.zero_le _, Nat.zero_le _, c_spanOf _ (oAt N G T on) N _ _ rfl hob hM rfl h28 hg, ?_⟩; refine ab_q1_elim ?_)
    refine And.intro (fun e1 => ?_) (fun e1 => ?_)
    · rw [lz_eq] at e1
      exact tail false ⟨fun z => (by cases z), fun z => absurd e1 z.1⟩ u d
    · rw [lz_eq] at e1
      refine And.intro (fun e2 => ?_) (fun e2 => ?_)
      · have e2 := lg_gt.mp e2
        refine tail false ⟨fun z => (by cases z), fun z => ?_⟩ u d
        have := z.2.1
        rw [i64_le] at this
        have e2' : (200 : Int64) < spV N (A (oAt N G T on)) := e2
        rw [i64_lt] at e2'
        omega
      · have e2 : ¬ (200 : Int64) < spV N (A (oAt N G T on)) := fun z => e2 (lg_gt.mpr z)
        refine And.intro (fun e3 => ?_) (fun e3 => ?_)
        · have e3 := lg_lt.mp e3
          refine tail false ⟨fun z => (by cases z), fun z => ?_⟩ u d
          have := z.2.2
          rw [i64_le] at this
          have e3' : spV N (A (oAt N G T on)) < (-200 : Int64) := e3
          rw [i64_lt] at e3'
          omega
        · have e3 : ¬ spV N (A (oAt N G T on)) < (-200 : Int64) := fun z => e3 (lg_lt.mpr z)
          refine tail true ⟨fun _ => ⟨e1, ?_, ?_⟩, fun _ => rfl⟩ u d
          · rw [i64_lt] at e2
            rw [i64_le]
            omega
          · rw [i64_lt] at e3
            rw [i64_le]
            omega
  have mid : ∀ u : Int32, u.toInt = upZ G T on → ab_Ev X l i_Box_tryWay 34 [some (.ref 33), some (.ref 27), some (.int (nI i)), some (.int (nI j)), some (.int (nI on)), some (.int (nI T)), none, none, none, none, none, none, none, none, none] [.int u] (va_up (va_up (va_up (va_up w 35 (aI 12 wa)) 34 (aI 12 ra)) 27 (oTold (nI N) (nI (phi N)) kp ch cs mo ma)) 33 (oBox rg wl (nI (cnt (hP N W A Gf Tf) m)))) n 0 0 Q := by
    intro u hu
    have hT64 : (nI T).toInt64.toInt = (T : Int) := by rw [Int32.toInt_toInt64, nI_toInt (by omega)]
    have hu64 : u.toInt64.toInt = upZ G T on := by rw [Int32.toInt_toInt64, hu]
    refine ab_sound ok_3 [111] 80 ?_
    (refine Exists.intro 0 ?_; refine ⟨0, _, Nat.zero_le _, Nat.zero_le _, c_commonDivisor _ _ (by rw [hu64]; omega) (by rw [hT64]; omega) _ _, ?_⟩; refine ab_q1_elim ?_)
    rw [hu64, hT64, Int.natAbs_natCast, hgc]
    refine And.intro (fun _ => ?_) (fun h_9 => absurd ((by rw [lN_i]; exact nI_le hd1 (by omega))) h_9)
    rw [lN_i]
    have hdn : ¬ nI (Nat.gcd G T) = 0 := nI_ne0 (by omega) (by omega)
    have hdI : (nI (Nat.gcd G T)).toInt = ((Nat.gcd G T : Nat) : Int) := nI_toInt (by omega)
    have e1 : md (nI T / nI (Nat.gcd G T)).toInt N = aAt N G T := by
      unfold aAt
      congr 1
      rw [Int32.toInt_div, nI_toInt (by omega), hdI]
      have h1 : ((T : Int).tdiv ((Nat.gcd G T : Nat) : Int)) = ((T / Nat.gcd G T : Nat) : Int) := by
        rw [Int.tdiv_eq_ediv_of_nonneg (by omega)]
        rfl
      rw [h1]
      have h2 : T / Nat.gcd G T ≤ T := Nat.div_le_self _ _
      generalize T / Nat.gcd G T = c9 at h2 ⊢
      exact Int.bmod_eq_of_le_mul_two (by omega) (by omega)
    have e2 : md (u / nI (Nat.gcd G T)).toInt N = oAt N G T on := by
      unfold oAt
      congr 1
      rw [Int32.toInt_div, hu, hdI]
      obtain ⟨k, hk9⟩ := hdU
      have hdp : (0 : Int) < ((Nat.gcd G T : Nat) : Int) := by omega
      rw [hk9, Int.mul_tdiv_cancel_left _ (by omega), Int.mul_ediv_cancel_left _ (by omega)]
      have hk2 : k.natAbs ≤ (upZ G T on).natAbs := by
        rw [hk9, Int.natAbs_mul, Int.natAbs_natCast]
        exact Nat.le_mul_of_pos_left _ hd1
      exact Int.bmod_eq_of_le_mul_two (by omega) (by omega)
    refine And.intro (hdn) ?_
    (refine Exists.intro 0 ?_; refine ⟨0, _, Nat.zero_le _, Nat.zero_le _, c_WP_wrap _ N (by omega) (by omega) _ _, ?_⟩; refine ab_q1_elim ?_)
    rw [e1]
    refine And.intro (hdn) ?_
    (refine Exists.intro 0 ?_; refine ⟨0, _, Nat.zero_le _, Nat.zero_le _, c_WP_wrap _ N (by omega) (by omega) _ _, ?_⟩; refine ab_q1_elim ?_)
    rw [e2]
    by_cases e : on = 0
    · subst e
      have hlt := hsk rfl
      refine And.intro (fun h_9 => absurd (rfl) h_9) (fun _ => ?_)
      refine And.intro (vp_in_nI (by omega) (by omega)) ?_
      rw [nI_clamp (by omega), r1]
      refine third _ _ _ ?_
      unfold spZ
      rw [if_pos rfl, pk_sub (by omega), nI_l (by omega)]
      have : (G : Int) - (T : Int) = ((G - T : Nat) : Int) := by omega
      rw [this]
      rfl
    · refine And.intro (fun _ => ?_) (fun h_9 => absurd h_9 (nI_ne0 (by omega) (by omega)))
      refine And.intro (vp_in_nI (by omega) (by omega)) ?_
      rw [nI_clamp (by omega), r1]
      refine third _ _ _ ?_
      unfold spZ
      rw [if_neg e, nI_add, nI_l (by omega)]
      rfl
  subst hQ
  refine ab_mqV cd_3 om_3 rfl rfl (ab_sound ok_3 [34] 80 ?_)
  refine And.intro (vp_in_nI (by omega) (by omega)) ?_
  rw [nI_clamp (by omega), t1]
  by_cases e : on = 0
  · subst e
    refine And.intro (fun h_9 => absurd (rfl) h_9) (fun _ => ?_)
    refine And.intro (vp_in_nI (by omega) (by omega)) ?_
    rw [nI_clamp (by omega), r1]
    refine mid _ ?_
    rw [pk_sub_toInt (by omega) (by omega)]
    unfold upZ
    rw [if_pos rfl]
  · refine And.intro (fun _ => ?_) (fun h_9 => absurd h_9 (nI_ne0 (by omega) (by omega)))
    refine And.intro (vp_in_nI (by omega) (by omega)) ?_
    rw [nI_clamp (by omega), r1]
    refine mid _ ?_
    rw [nI_add, nI_toInt (by omega)]
    unfold upZ
    rw [if_neg e]
    omega
theorem k_findWays (R W N : Nat) (w : ab_W) (n : Nat) {A : Nat → Nat → Int64} {Gf Tf : Nat → Nat} {kp ch cs mo ma wy : Int32} {g : Nat → Int64} {ra wa a1 a2 a3 a4 : Nat → Int32} (hR : R ≤ 12) (hW : W ≤ 12) (hM : 3 ≤ N ∧ N ≤ 60) (h27 : w 27 = oTold (nI N) (nI (phi N)) kp ch cs mo ma) (h28 : w 28 = aJ 3480 g) (hg : Rw N g A) (h34 : w 34 = aI 12 ra) (h35 : w 35 = aI 12 wa) (hra : ∀ i, i < R → ra i = nI (Gf i) ∧ 3 ≤ Gf i ∧ Gf i ≤ 200) (hwa : ∀ j, j < W → wa j = nI (Tf j) ∧ 3 ≤ Tf j ∧ Tf j ≤ 200)
    (h33 : w 33 = oBox (nI R) (nI W) wy) (h36 : w 36 = aI 40 a1) (h37 : w 37 = aI 40 a2) (h38 : w 38 = aI 40 a3) (h39 : w 39 = aI 40 a4) :
    ab_C X l i_Box_findWays [.ref 33, .ref 27] w n 0 0 (qV fun w' n' => n = n' ∧ Fr (fun k => k = 33 ∨ (36 ≤ k ∧ k ≤ 39)) w w' ∧ w' 33 = oBox (nI R) (nI W) (nI (cnt (hP N W A Gf Tf) (R * W * 2))) ∧ ∃ b1 b2 b3 b4, w' 36 = aI 40 b1 ∧ w' 37 = aI 40 b2 ∧ w' 38 = aI 40 b3 ∧ w' 39 = aI 40 b4 ∧ MkIs (hP N W A Gf Tf) (wR W) (wW W) wO (hZ N W A Gf Tf) (R * W * 2) b1 b2 b3 b4) := by
  generalize hQ : (qV fun w' n' => n = n' ∧ Fr (fun k => k = 33 ∨ (36 ≤ k ∧ k ≤ 39)) w w' ∧ w' 33 = oBox (nI R) (nI W) (nI (cnt (hP N W A Gf Tf) (R * W * 2))) ∧ ∃ b1 b2 b3 b4, w' 36 = aI 40 b1 ∧ w' 37 = aI 40 b2 ∧ w' 38 = aI 40 b3 ∧ w' 39 = aI 40 b4 ∧ MkIs (hP N W A Gf Tf) (wR W) (wW W) wO (hZ N W A Gf Tf) (R * W * 2) b1 b2 b3 b4) = Q
  have outer : ∀ i, i ≤ R → ∀ w3 a1 a2 a3 a4, Fr (fun k => k = 33 ∨ (36 ≤ k ∧ k ≤ 39)) w w3 → w3 33 = oBox (nI R) (nI W) (nI (cnt (hP N W A Gf Tf) (i * W * 2))) → w3 36 = aI 40 a1 → w3 37 = aI 40 a2 → w3 38 = aI 40 a3 → w3 39 = aI 40 a4 → MkIs (hP N W A Gf Tf) (wR W) (wW W) wO (hZ N W A Gf Tf) (i * W * 2) a1 a2 a3 a4 → ∀ l3 : Option Value, ab_Ev X l i_Box_findWays 7 [some (.ref 33), some (.ref 27), some (.int (nI i)), l3] [] w3 n 0 0 Q := by
    refine ab_up R ?_ (fun i hi ih => ?_)
    · intro w3 a1 a2 a3 a4 hf h33 h36 h37 h38 h39 hk l3
      obtain ⟨w3, rfl⟩ := va_ex h33
      refine ab_sound ok_2 [7] 80 ?_
      refine And.intro (fun _ => ?_) (fun h_9 => absurd (nI_le (Nat.le_refl _) (by omega)) h_9)
      subst hQ
      exact ⟨rfl, rfl, hf, rfl, a1, a2, a3, a4, h36, h37, h38, h39, hk⟩
    · intro w3 a1 a2 a3 a4 hf h33 h36 h37 h38 h39 hk l3
      have inner : ∀ j, j ≤ W → ∀ w4 a1 a2 a3 a4, Fr (fun k => k = 33 ∨ (36 ≤ k ∧ k ≤ 39)) w w4 → w4 33 = oBox (nI R) (nI W) (nI (cnt (hP N W A Gf Tf) ((i * W + j) * 2))) → w4 36 = aI 40 a1 → w4 37 = aI 40 a2 → w4 38 = aI 40 a3 → w4 39 = aI 40 a4 → MkIs (hP N W A Gf Tf) (wR W) (wW W) wO (hZ N W A Gf Tf) ((i * W + j) * 2) a1 a2 a3 a4 → ab_Ev X l i_Box_findWays 17 [some (.ref 33), some (.ref 27), some (.int (nI i)), some (.int (nI j))] [] w4 n 0 0 Q := by
        refine ab_up W ?_ (fun j hj ih2 => ?_)
        · intro w4 a1 a2 a3 a4 hf h33 h36 h37 h38 h39 hk
          rw [show (i * W + W) * 2 = (i + 1) * W * 2 by rw [Nat.add_mul i 1 W, Nat.one_mul]] at h33 hk
          have ih3 := ih w4 a1 a2 a3 a4 hf h33 h36 h37 h38 h39 hk (some (.int (nI W)))
          obtain ⟨w4, rfl⟩ := va_ex h33
          refine ab_sound ok_2 [7] 80 ?_
          refine And.intro (fun _ => ?_) (fun h_9 => absurd (nI_le (Nat.le_refl _) (by omega)) h_9)
          exact ab_ev_of ih3 (by rw [nI_s i]; rfl) rfl rfl
        · intro w4 a1 a2 a3 a4 hf h33 h36 h37 h38 h39 hk
          have k27 := hf.get h27 (by omega)
          have k28 := hf.get h28 (by omega)
          have k34 := hf.get h34 (by omega)
          have k35 := hf.get h35 (by omega)
          obtain ⟨q1, q2, q3⟩ := wx_at (r := i) (on := 0) hj (by omega)
          obtain ⟨r1, r2, r3⟩ := hra i hi
          obtain ⟨t1, t2, t3⟩ := hwa j hj
          have second : ∀ w5 a1 a2 a3 a4, Fr (fun k => k = 33 ∨ (36 ≤ k ∧ k ≤ 39)) w w5 → w5 33 = oBox (nI R) (nI W) (nI (cnt (hP N W A Gf Tf) ((i * W + j) * 2 + 1))) → w5 36 = aI 40 a1 → w5 37 = aI 40 a2 → w5 38 = aI 40 a3 → w5 39 = aI 40 a4 → MkIs (hP N W A Gf Tf) (wR W) (wW W) wO (hZ N W A Gf Tf) ((i * W + j) * 2 + 1) a1 a2 a3 a4 → ab_Ev X l i_Box_findWays 48 [some (.ref 33), some (.ref 27), some (.int (nI i)), some (.int (nI j))] [] w5 n 0 0 Q := by
            intro w5 a1 a2 a3 a4 hf5 h33 h36 h37 h38 h39 hk
            have z27 := hf5.get h27 (by omega)
            have z28 := hf5.get h28 (by omega)
            have z34 := hf5.get h34 (by omega)
            have z35 := hf5.get h35 (by omega)
            obtain ⟨w5, rfl⟩ := va_ex h33
            refine ab_sound ok_2 [17] 80 ?_
            (refine Exists.intro 0 ?_; refine ⟨0, _, Nat.zero_le _, Nat.zero_le _, k_tryWay _ _ _ i j 1 ((i * W + j) * 2 + 1) R W N _ _ rfl rfl rfl hi hj hR hW (by omega) rfl hM z27 z28 hg z34 z35 hra hwa (fun z => by omega) h33 h36 h37 h38 h39 hk, ?_⟩; rintro _ w6 _ ⟨rfl, rfl, f1, f2, b1, b2, b3, b4, f3, f4, f5, f6, f7⟩)
            rw [show (i * W + j) * 2 + 1 + 1 = (i * W + (j + 1)) * 2 by omega] at f2 f7
            exact ab_ev_of (ih2 w6 b1 b2 b3 b4 (hf5.trans f1) f2 f3 f4 f5 f6 f7) (by rw [nI_s j]; rfl) rfl rfl
          by_cases e : Tf j < Gf i
          · obtain ⟨w4, rfl⟩ := va_ex3 h33 k34 k35
            refine ab_sound ok_2 [48] 80 ?_
            refine And.intro (fun h_9 => absurd h_9 (nI_ge hj (by omega))) (fun _ => ?_)
            refine And.intro (vp_in_nI (by omega) (by omega)) ?_
            refine And.intro (vp_in_nI (by omega) (by omega)) ?_
            rw [nI_clamp (by omega), nI_clamp (by omega), r1, t1]
            refine And.intro (fun h_9 => absurd h_9 (nI_ge e (by omega))) (fun _ => ?_)
            (refine Exists.intro 0 ?_; refine ⟨0, _, Nat.zero_le _, Nat.zero_le _, k_tryWay _ _ _ i j 0 ((i * W + j) * 2) R W N _ _ rfl rfl rfl hi hj hR hW (by omega) rfl hM k27 k28 hg k34 k35 hra hwa (fun _ => e) h33 h36 h37 h38 h39 hk, ?_⟩; rintro _ w6 _ ⟨rfl, rfl, f1, f2, b1, b2, b3, b4, f3, f4, f5, f6, f7⟩)
            exact ab_ev_of (second w6 b1 b2 b3 b4 (hf.trans f1) f2 f3 f4 f5 f6 f7) rfl rfl rfl
          · have hPf : hP N W A Gf Tf ((i * W + j) * 2) = false := by
              rw [Nat.add_zero] at q1 q2 q3
              unfold hP
              rw [q1, q2, q3]
              exact decide_eq_false (fun z => e (z.1 rfl))
            have sc := second w4 a1 a2 a3 a4 hf (by rw [cnt_s, hPf]; exact h33) h36 h37 h38 h39 (hk.no hPf)
            obtain ⟨w4, rfl⟩ := va_ex3 h33 k34 k35
            refine ab_sound ok_2 [48] 80 ?_
            refine And.intro (fun h_9 => absurd h_9 (nI_ge hj (by omega))) (fun _ => ?_)
            refine And.intro (vp_in_nI (by omega) (by omega)) ?_
            refine And.intro (vp_in_nI (by omega) (by omega)) ?_
            rw [nI_clamp (by omega), nI_clamp (by omega), r1, t1]
            refine And.intro (fun _ => ?_) (fun h_9 => absurd (nI_le (by omega) (by omega)) h_9)
            exact sc
      obtain ⟨w3, rfl⟩ := va_ex h33
      refine ab_sound ok_2 [17] 80 ?_
      refine And.intro (fun h_9 => absurd h_9 (nI_ge hi (by omega))) (fun _ => ?_)
      exact ab_ev_of (inner 0 (by omega) _ a1 a2 a3 a4 hf rfl h36 h37 h38 h39 hk) rfl rfl rfl
  have fin := outer 0 (by omega) (va_up w 33 (oBox (nI R) (nI W) (nI 0))) a1 a2 a3 a4 (Fr.refl.up (by omega)) (by rw [va_us, Nat.zero_mul, Nat.zero_mul]; rfl) ((va_un (by omega)).trans h36) ((va_un (by omega)).trans h37) ((va_un (by omega)).trans h38) ((va_un (by omega)).trans h39) (fun x hx => by omega) none
  obtain ⟨w9, rfl⟩ := va_ex h33
  subst hQ
  refine ab_mqV cd_2 om_2 rfl rfl (ab_sound ok_2 [7] 80 ?_)
  exact ab_ev_of fin rfl rfl rfl
end BOX

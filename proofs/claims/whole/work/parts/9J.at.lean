/-! the arm's speed, for the class -/
theorem sgI_32 {b : Bool} {v : Nat} : (if b = true then -nI v else nI v) = Int32.ofInt (sgI b v) := by
  unfold sgI
  cases b
  · rw [if_neg (by decide), if_neg (by decide), nI_ofInt]
  · rw [if_pos rfl, if_pos rfl, nI_ofInt, Int32.ofInt_neg]
theorem sgI_ab {b : Bool} {v : Nat} : (sgI b v).natAbs = v := by
  unfold sgI
  cases b
  · rw [if_neg (by decide)]; omega
  · rw [if_pos rfl]; omega
theorem qAt_y {T : TE} {p q : Nat} (hp : p ≤ tL T) (h5 : tkW T p 5 = true) (h : qAt T p = .inr q) : ∃ a b, qNum T 0 99 (qMin T (tX T p)) = .inr a ∧ qSig T 47 a = .inr b ∧ qNum T 1 99 b = .inr q ∧ tX T p ≤ tL T ∧ qMin T (tX T p) ≤ tL T ∧ a ≤ tL T ∧ b ≤ tL T ∧ q ≤ tL T ∧ b = tX T (tX T (qMin T (tX T p))) := by
  unfold qAt at h
  rw [if_pos h5] at h
  have k := (tkW_k h5).1
  have g1 := (tX_le hp (by omega) (by omega)).2
  have g2 := qMin_le g1
  cases e1 : qNum T 0 99 (qMin T (tX T p)) with
  | inl e => rw [bnd_l e1] at h; cases h
  | inr a =>
    rw [bnd_r e1] at h
    obtain ⟨a1, a2, a3, a4, a5⟩ := qNum_r g2 e1
    cases e2 : qSig T 47 a with
    | inl e => rw [bnd_l e2] at h; cases h
    | inr b =>
      rw [bnd_r e2] at h
      obtain ⟨b1, b2, b3⟩ := qSig_r a5 e2
      obtain ⟨c1, c2, c3, c4, c5⟩ := qNum_r b3 h
      exact ⟨a, b, rfl, e2, h, g1, g2, a5, b3, c5, by rw [b1, a1]⟩
theorem qAt_ok {T : TE} {p q : Nat} (hp : p ≤ tL T) (h : qAt T p = .inr q) : (atU T p).natAbs ≤ 99 ∧ 1 ≤ atL T p ∧ atL T p ≤ 99 ∧ q ≤ tL T := by
  unfold atU atL
  by_cases c : tkW T p 5 = true
  · obtain ⟨a, b, e1, e2, e3, g1, g2, g3, g4, g5, g6⟩ := qAt_y hp c h
    rw [if_pos c, if_pos c, sgI_ab, ← g6]
    have h1 := qNum_r g2 e1
    have h2 := qNum_r g4 e3
    omega
  · rw [if_neg c, if_neg c]
    unfold qAt at h
    rw [if_neg c] at h
    have e : p = q := Sum.inr.inj h
    exact ⟨by omega, by omega, by omega, by omega⟩
section AT
variable {X : ab_X} {l : Launch}
theorem k_passAt_y (T : TE) (p q : Nat) (w : ab_W) (n : Nat) {f r1 r2 r3 t i bw bt ht bu bl au al : Int32} {su sl : Int64} (h5 : tkW T p 5 = true) (hq : qAt T p = .inr q) (hL : tL T ≤ 640) (hp : p ≤ tL T) (h1 : w 1 = oTk T p f) (h2 : w 2 = aI 640 (tB T)) (h3 : w 3 = oKR r1 r2 r3) (h4 : w 4 = oWL t i bw bt ht bu bl au al su sl) :
    ab_C X l i_KR_passAt [.ref 3, .ref 1] w n 0 0 (qI (nI 1) (fun w' n' => n = n' ∧ ∃ f', w' = va_up (va_up w 1 (oTk T q f')) 4 (oWL t i bw bt ht bu bl (Int32.ofInt (arU (atU T p) (atL T p))) (nI (arL (atU T p) (atL T p))) su sl))) := by
  obtain ⟨g1, g2, g3, g4⟩ := qAt_ok hp hq
  obtain ⟨a, b, e1, e2, e3, k1, k2, k3, k4, k5, k6⟩ := qAt_y hp h5 hq
  have kk := (tkW_k h5).1
  have n1 := (qNum_r k2 e1).2.1
  have n2 := (qNum_r k4 e3).2.1
  have hu : atU T p = sgI (tkS T (tX T p) 45) (tV T (qMin T (tX T p))) := by unfold atU; rw [if_pos h5]
  have hl : atL T p = tV T b := by unfold atL; rw [if_pos h5, k6]
  obtain ⟨w, rfl⟩ := va_ex4 h1 h2 h3 h4
  have at70 : ∀ (w1 : ab_W) (v : Int32) (x2 x3 : Option Value), w1 4 = oWL t i bw bt ht bu bl au al su sl → w1 3 = oKR r1 r2 r3 → v = Int32.ofInt (atU T p) → (∃ f', w1 = va_up (va_up (va_up (va_up (va_up w 4 (oWL t i bw bt ht bu bl au al su sl)) 3 (oKR r1 r2 r3)) 2 (aI 640 (tB T))) 1 (oTk T p f)) 1 (oTk T q f')) → ab_Ev X l i_KR_passAt 70 [some (.ref 3), some (.ref 1), x2, x3, some (.int (nI (atL T p)))] [.int v, .ref 4] w1 n 0 0 (qI (nI 1) (fun w' n' => n = n' ∧ ∃ f', w' = va_up (va_up (va_up (va_up (va_up (va_up w 4 (oWL t i bw bt ht bu bl au al su sl)) 3 (oKR r1 r2 r3)) 2 (aI 640 (tB T))) 1 (oTk T p f)) 1 (oTk T q f')) 4 (oWL t i bw bt ht bu bl (Int32.ofInt (arU (atU T p) (atL T p))) (nI (arL (atU T p) (atL T p))) su sl))) := by
    intro w1 v x2 x3 m4 m3 hv hw
    have ct := c_WL_turnAt (X := X) (l := l) (atU T p) (atL T p) w1 n (x := v) hv rfl g1 g2 g3 m4
    obtain ⟨f', rfl⟩ := hw
    refine ab_sound ok_23 [] 80 ?_
    (refine Exists.intro 0 ?_; refine ⟨0, _, Nat.zero_le _, Nat.zero_le _, ct, ?_⟩; refine ab_q1_elim ?_)
    exact ⟨rfl, rfl, rfl, f', rfl⟩
  refine ab_mqI cd_23 om_23 rfl (ab_sound ok_23 [70] 80 ?_)
  (refine Exists.intro 0 ?_; refine ⟨0, _, Nat.zero_le _, Nat.zero_le _, k_adv T p _ _ hL hp (by omega) (by omega) rfl rfl, ?_⟩; refine ab_q1_elim ?_)
  (refine Exists.intro 0 ?_; refine ⟨0, _, Nat.zero_le _, Nat.zero_le _, k_passMinus T (tX T p) _ _ hL k1 rfl rfl, ?_⟩; refine ab_q1_elim ?_)
  (refine Exists.intro 0 ?_; refine ⟨0, _, Nat.zero_le _, Nat.zero_le _, k_passNumber_y T 0 99 (qMin T (tX T p)) a _ _ e1 rfl rfl (by omega) (by omega) hL k2 rfl rfl rfl, ?_⟩; refine ab_q1_elim ?_)
  refine And.intro (fun h_9 => absurd h_9 ((by decide))) (fun _ => ?_)
  (refine Exists.intro 0 ?_; refine ⟨0, _, Nat.zero_le _, Nat.zero_le _, k_passSign_y T 47 a b _ _ e2 rfl (by omega) hL k3 rfl rfl rfl, ?_⟩; refine ab_q1_elim ?_)
  refine And.intro (fun _ => ?_) (fun h_9 => absurd h_9 ((by decide)))
  (refine Exists.intro 0 ?_; refine ⟨0, _, Nat.zero_le _, Nat.zero_le _, k_passNumber_y T 1 99 b q _ _ e3 rfl rfl (by omega) (by omega) hL k4 rfl rfl rfl, ?_⟩; refine ab_q1_elim ?_)
  refine And.intro (fun _ => ?_) (fun h_9 => absurd h_9 ((by decide)))
  have v1 : cV T (qMin T (tX T p)) (vMin T (tX T p) (cV T p f)) = nI (tV T (qMin T (tX T p))) := cV_eq k2 (by omega) (by omega)
  have v2 : cV T b (cV T a (cV T (qMin T (tX T p)) (vMin T (tX T p) (cV T p f)))) = nI (tV T b) := cV_eq k4 (by omega) (by omega)
  cases c : tkS T (tX T p) 45
  · refine And.intro (fun _ => ?_) (fun h_9 => absurd (rfl) h_9)
    refine ab_ev_of (at70 _ (nI (tV T (qMin T (tX T p)))) (some (.int (b01 false))) (some (.int (nI (tV T (qMin T (tX T p)))))) rfl rfl (by rw [hu, c, ← sgI_32, if_neg (by decide)]) ⟨_, by simp only [va_uu]; rfl⟩) ?_ ?_ rfl
    · rw [hl, ← v1, ← v2]; rfl
    · rw [← v1]; rfl
  · refine And.intro (fun h_9 => absurd h_9 ((by decide))) (fun _ => ?_)
    refine ab_ev_of (at70 _ (-nI (tV T (qMin T (tX T p)))) (some (.int (b01 true))) (some (.int (nI (tV T (qMin T (tX T p)))))) rfl rfl (by rw [hu, c, ← sgI_32, if_pos rfl]) ⟨_, by simp only [va_uu]; rfl⟩) ?_ ?_ rfl
    · rw [hl, ← v1, ← v2]; rfl
    · rw [← v1]; rfl
theorem k_passAt_n (T : TE) (p k pl : Nat) (w : ab_W) (n : Nat) {f r1 r2 r3 t i bw bt ht bu bl au al : Int32} {su sl : Int64} (h5 : tkW T p 5 = true) (hq : qAt T p = .inl (k, pl)) (hL : tL T ≤ 640) (hp : p ≤ tL T) (h1 : w 1 = oTk T p f) (h2 : w 2 = aI 640 (tB T)) (h3 : w 3 = oKR r1 r2 r3) (h4 : w 4 = oWL t i bw bt ht bu bl au al su sl) :
    ab_C X l i_KR_passAt [.ref 3, .ref 1] w n 0 0 (qI (nI 0) (fun w' n' => n = n' ∧ ∃ c1, isTp T c1 ∧ w' = va_up (va_up w 1 c1) 3 (oKR (nI k) (nI pl) r3))) := by
  unfold qAt at hq
  rw [if_pos h5] at hq
  have kk := (tkW_k h5).1
  have k1 := (tX_le hp (by omega) (by omega)).2
  have k2 := qMin_le k1
  obtain ⟨w, rfl⟩ := va_ex4 h1 h2 h3 h4
  refine ab_mqI cd_23 om_23 rfl (ab_sound ok_23 [] 80 ?_)
  (refine Exists.intro 0 ?_; refine ⟨0, _, Nat.zero_le _, Nat.zero_le _, k_adv T p _ _ hL hp (by omega) (by omega) rfl rfl, ?_⟩; refine ab_q1_elim ?_)
  (refine Exists.intro 0 ?_; refine ⟨0, _, Nat.zero_le _, Nat.zero_le _, k_passMinus T (tX T p) _ _ hL k1 rfl rfl, ?_⟩; refine ab_q1_elim ?_)
  cases e1 : qNum T 0 99 (qMin T (tX T p)) with
  | inl e =>
    rw [bnd_l e1] at hq
    have hq : e = (k, pl) := Sum.inl.inj hq
    subst hq
    (refine Exists.intro 0 ?_; refine ⟨0, _, Nat.zero_le _, Nat.zero_le _, k_passNumber_n T 0 99 (qMin T (tX T p)) k pl _ _ e1 rfl rfl (by omega) (by omega) k2 rfl rfl, ?_⟩; refine ab_q1_elim ?_)
    refine And.intro (fun _ => ?_) (fun h_9 => absurd (rfl) h_9)
    exact ⟨rfl, rfl, rfl, _, tk_isTp, by simp only [va_uu]; rfl⟩
  | inr a =>
    rw [bnd_r e1] at hq
    obtain ⟨a1, a2, a3, a4, a5⟩ := qNum_r k2 e1
    (refine Exists.intro 0 ?_; refine ⟨0, _, Nat.zero_le _, Nat.zero_le _, k_passNumber_y T 0 99 (qMin T (tX T p)) a _ _ e1 rfl rfl (by omega) (by omega) hL k2 rfl rfl rfl, ?_⟩; refine ab_q1_elim ?_)
    refine And.intro (fun h_9 => absurd h_9 ((by decide))) (fun _ => ?_)
    cases e2 : qSig T 47 a with
    | inl e =>
      rw [bnd_l e2] at hq
      have hq : e = (k, pl) := Sum.inl.inj hq
      subst hq
      (refine Exists.intro 0 ?_; refine ⟨0, _, Nat.zero_le _, Nat.zero_le _, k_passSign_n T 47 a k pl _ _ e2 rfl (by omega) a5 rfl rfl, ?_⟩; refine ab_q1_elim ?_)
      refine And.intro (fun h_9 => absurd (rfl) h_9) (fun _ => ?_)
      exact ⟨rfl, rfl, rfl, _, tk_isTp, by simp only [va_uu]; rfl⟩
    | inr b =>
      rw [bnd_r e2] at hq
      obtain ⟨b1, b2, b3⟩ := qSig_r a5 e2
      (refine Exists.intro 0 ?_; refine ⟨0, _, Nat.zero_le _, Nat.zero_le _, k_passSign_y T 47 a b _ _ e2 rfl (by omega) hL a5 rfl rfl rfl, ?_⟩; refine ab_q1_elim ?_)
      refine And.intro (fun _ => ?_) (fun h_9 => absurd h_9 ((by decide)))
      (refine Exists.intro 0 ?_; refine ⟨0, _, Nat.zero_le _, Nat.zero_le _, k_passNumber_n T 1 99 b k pl _ _ hq rfl rfl (by omega) (by omega) b3 rfl rfl, ?_⟩; refine ab_q1_elim ?_)
      refine And.intro (fun h_9 => absurd (rfl) h_9) (fun _ => ?_)
      exact ⟨rfl, rfl, rfl, _, tk_isTp, by simp only [va_uu]; rfl⟩
end AT

section TAPE
variable {X : ab_X} {l : Launch}
/-- a byte of a fed number -/
def byt (x : Int32) (k : Nat) : Int32 := (x.toUInt32 >>> ((nI k).toUInt32 &&& Int32.toUInt32 31)).toInt32 &&& nI 255
def put4 (b : Nat → Int32) (L : Nat) (x : Int32) : Nat → Int32 := upd (upd (upd (upd b L (byt x 24)) (L + 1) (byt x 16)) (L + 2) (byt x 8)) (L + 3) (byt x 0)
theorem c_Tape_append (x : Int32) (w : ab_W) (n L : Nat) {s ne k p v : Int32} {b : Nat → Int32} (hL : L + 4 ≤ 640) (h1 : w 1 = oTape (nI L) s ne k p v) (h2 : w 2 = aI 640 b) : ab_C X l i_Tape_append [.ref 1, .int x] w n 0 0 (ab_q1 none (va_up (va_up w 1 (oTape (nI (L + 4)) s ne k p v)) 2 (aI 640 (put4 b L x))) n) := by
  obtain ⟨w, rfl⟩ := va_ex2 h2 h1
  refine ab_metV cd_77 om_77 rfl rfl (ab_sound ok_77 [3] 50 ?_)
  have step : ∀ (L sh : Nat) (b : Nat → Int32) (Q : ab_Q), L < 640 → sh < 32 → ab_Ev X l i_Tape_append 3 [some (.ref 1), some (.int x), some (.int (nI sh - nI 8))] [] (va_up (va_up w 1 (oTape (nI (L + 1)) s ne k p v)) 2 (aI 640 (upd b L (byt x sh)))) n 0 0 Q → ab_Ev X l i_Tape_append 3 [some (.ref 1), some (.int x), some (.int (nI sh))] [] (va_up (va_up w 1 (oTape (nI L) s ne k p v)) 2 (aI 640 b)) n 0 0 Q := by
    intro L sh b Q hL hs h
    refine ab_sound ok_77 [3] 50 ?_
    refine And.intro (fun h_9 => absurd h_9 (nI_pos (by omega))) (fun _ => ?_)
    refine And.intro (fun h_9 => absurd h_9 (nI_pos (by omega))) (fun _ => ?_)
    refine And.intro (fun h_9 => absurd h_9 (nI_ge hL (by omega))) (fun _ => ?_)
    refine And.intro (vp_in_nI hL (by omega)) ?_
    refine ab_ev_of h rfl rfl ?_
    rw [nI_clamp (by omega), nI_add]
    simp only [va_uu, va_uc, Nat.reduceLT]
    rfl
  refine step L 24 b _ (by omega) (by omega) (step (L + 1) 16 _ _ (by omega) (by omega) (step (L + 2) 8 _ _ (by omega) (by omega) (step (L + 3) 0 _ _ (by omega) (by omega) ?_)))
  refine ab_sound ok_77 [3] 50 ?_
  refine And.intro (fun _ => ?_) (fun h_9 => absurd ((by decide)) h_9)
  refine ⟨rfl, ?_, rfl⟩
  simp only [va_uu, va_uc, Nat.reduceLT]
  rfl
theorem c_Mod_come (x : Int32) (w : ab_W) (n L : Nat) {s : Nat → Int32} {wd tn : Int64} {b : Nat → Int32} (hL : L + 4 ≤ 640) (h1 : w 90 = oMod s wd tn) (hs : s 2 = nI L) (h2 : w 91 = aI 640 b) : ab_C X l i_Mod_come [.ref 90, .int x] w n 0 0 (ab_q1 none (va_up (va_up w 90 (oMod (upd s 2 (nI (L + 4))) wd tn)) 91 (aI 640 (put4 b L x))) n) := by
  obtain ⟨w, rfl⟩ := va_ex2 h2 h1
  refine ab_metV cd_152 om_152 rfl rfl (ab_sound ok_152 [3] 50 ?_)
  have step : ∀ (L sh : Nat) (s : Nat → Int32) (b : Nat → Int32) (Q : ab_Q), L < 640 → sh < 32 → s 2 = nI L → ab_Ev X l i_Mod_come 3 [some (.ref 90), some (.int x), some (.int (nI sh - nI 8))] [] (va_up (va_up w 90 (oMod (upd s 2 (nI (L + 1))) wd tn)) 91 (aI 640 (upd b L (byt x sh)))) n 0 0 Q → ab_Ev X l i_Mod_come 3 [some (.ref 90), some (.int x), some (.int (nI sh))] [] (va_up (va_up w 90 (oMod s wd tn)) 91 (aI 640 b)) n 0 0 Q := by
    intro L sh s b Q hL hs hs2 h
    refine ab_sound ok_152 [3] 50 ?_
    refine And.intro (fun h_9 => absurd h_9 (nI_pos (by omega))) (fun _ => ?_)
    refine And.intro ((by rw [hs2]; exact vp_in_nI hL (by omega))) ?_
    refine ab_ev_of h rfl rfl ?_
    rw [hs2, nI_clamp (by omega), nI_add]
    simp only [va_uu, va_uc, Nat.reduceLT]
    rfl
  refine step L 24 _ b _ (by omega) (by omega) hs (step (L + 1) 16 _ _ _ (by omega) (by omega) rfl (step (L + 2) 8 _ _ _ (by omega) (by omega) rfl (step (L + 3) 0 _ _ _ (by omega) (by omega) rfl ?_)))
  refine ab_sound ok_152 [3] 50 ?_
  refine And.intro (fun _ => ?_) (fun h_9 => absurd ((by decide)) h_9)
  refine ⟨rfl, ?_, rfl⟩
  simp only [va_uu, va_uc, Nat.reduceLT]
  rfl
def put20 (t : Nat → Int32) (L : Nat) (a b c d e : Int32) : Nat → Int32 := put4 (put4 (put4 (put4 (put4 t L a) (L + 4) b) (L + 4 + 4) c) (L + 4 + 4 + 4) d) (L + 4 + 4 + 4 + 4) e
theorem c_WP_feed_no (a b c d e : Int32) (w : ab_W) (n L : Nat) {kn ks : Nat} {lf s ne k p v : Int32} (hL : 620 < L) (hL2 : L ≤ 640) (h0 : w 0 = oWP kn ks lf) (h1 : w 1 = oTape (nI L) s ne k p v) : ab_C X l i_WP_feed [.ref 0, .int a, .int b, .int c, .int d, .int e] w n 0 0 (ab_q1 (some (.int (-nI 1))) w n) := by
  obtain ⟨w, rfl⟩ := va_ex2 h1 h0
  refine ab_metI cd_107 om_107 rfl (ab_sound ok_107 [] 50 ?_)
  refine And.intro (fun h_9 => absurd h_9 (nI_ge hL (by omega))) (fun _ => ?_)
  exact ⟨rfl, rfl, rfl⟩
theorem c_WP_feed (a b c d e : Int32) (w : ab_W) (n L : Nat) {kn ks : Nat} {lf s ne k p v : Int32} {t : Nat → Int32} (hL : L ≤ 620) (h0 : w 0 = oWP kn ks lf) (h1 : w 1 = oTape (nI L) s ne k p v) (h2 : w 2 = aI 640 t) : ab_C X l i_WP_feed [.ref 0, .int a, .int b, .int c, .int d, .int e] w n 0 0 (ab_q1 (some (.int (nI (L + 20)))) (va_up (va_up w 1 (oTape (nI (L + 20)) s ne k p v)) 2 (aI 640 (put20 t L a b c d e))) n) := by
  obtain ⟨w, rfl⟩ := va_ex3 h2 h1 h0
  refine ab_metI cd_107 om_107 rfl (ab_sound ok_107 [] 100 ?_)
  refine And.intro (fun _ => ?_) (fun h_9 => absurd (nI_le hL (by omega)) h_9)
  (refine Exists.intro 0 ?_; refine ⟨0, _, Nat.zero_le _, Nat.zero_le _, c_Tape_append a _ _ L (by omega) rfl rfl, ?_⟩; rintro _ _ _ ⟨rfl, rfl, rfl⟩)
  (refine Exists.intro 0 ?_; refine ⟨0, _, Nat.zero_le _, Nat.zero_le _, c_Tape_append b _ _ (L + 4) (by omega) rfl rfl, ?_⟩; rintro _ _ _ ⟨rfl, rfl, rfl⟩)
  (refine Exists.intro 0 ?_; refine ⟨0, _, Nat.zero_le _, Nat.zero_le _, c_Tape_append c _ _ (L + 4 + 4) (by omega) rfl rfl, ?_⟩; rintro _ _ _ ⟨rfl, rfl, rfl⟩)
  (refine Exists.intro 0 ?_; refine ⟨0, _, Nat.zero_le _, Nat.zero_le _, c_Tape_append d _ _ (L + 4 + 4 + 4) (by omega) rfl rfl, ?_⟩; rintro _ _ _ ⟨rfl, rfl, rfl⟩)
  (refine Exists.intro 0 ?_; refine ⟨0, _, Nat.zero_le _, Nat.zero_le _, c_Tape_append e _ _ (L + 4 + 4 + 4 + 4) (by omega) rfl rfl, ?_⟩; rintro _ _ _ ⟨rfl, rfl, rfl⟩)
  refine ⟨rfl, ?_, rfl⟩
  simp only [va_uu, va_uc, Nat.reduceLT]
  rfl
theorem c_Mod_feed_no (a b c d e : Int32) (w : ab_W) (n L : Nat) {s : Nat → Int32} {wd tn : Int64} (hL : 620 < L) (hL2 : L ≤ 640) (h1 : w 90 = oMod s wd tn) (hs : s 2 = nI L) : ab_C X l i_Mod_feed [.ref 90, .int a, .int b, .int c, .int d, .int e] w n 0 0 (ab_q1 (some (.int (-nI 1))) (va_up w 90 (oMod (upd s 0 (nI 0)) wd tn)) n) := by
  obtain ⟨w, rfl⟩ := va_ex h1
  refine ab_metI cd_151 om_151 rfl (ab_sound ok_151 [] 50 ?_)
  refine And.intro (fun h_9 => absurd h_9 ((by rw [hs, nI_add]; exact nI_ge (by omega) (by omega)))) (fun _ => ?_)
  refine ⟨rfl, ?_, rfl⟩
  simp only [va_uu, va_uc, Nat.reduceLT]
  rfl
theorem c_Mod_feed (a b c d e : Int32) (w : ab_W) (n L : Nat) {s : Nat → Int32} {wd tn : Int64} {t : Nat → Int32} (hL : L ≤ 620) (h1 : w 90 = oMod s wd tn) (hs : s 2 = nI L) (h2 : w 91 = aI 640 t) : ab_C X l i_Mod_feed [.ref 90, .int a, .int b, .int c, .int d, .int e] w n 0 0 (ab_q1 (some (.int (nI (L + 20)))) (va_up (va_up w 90 (oMod (upd (upd s 0 (nI 0)) 2 (nI (L + 20))) wd tn)) 91 (aI 640 (put20 t L a b c d e))) n) := by
  obtain ⟨w, rfl⟩ := va_ex2 h2 h1
  refine ab_metI cd_151 om_151 rfl (ab_sound ok_151 [] 100 ?_)
  refine And.intro (fun _ => ?_) (fun h_9 => absurd ((by rw [hs, nI_add]; exact nI_le (by omega) (by omega))) h_9)
  (refine Exists.intro 0 ?_; refine ⟨0, _, Nat.zero_le _, Nat.zero_le _, c_Mod_come a _ _ L (s := upd s 0 (nI 0)) (by omega) rfl hs rfl, ?_⟩; rintro _ _ _ ⟨rfl, rfl, rfl⟩)
  (refine Exists.intro 0 ?_; refine ⟨0, _, Nat.zero_le _, Nat.zero_le _, c_Mod_come b _ _ (L + 4) (by omega) rfl rfl rfl, ?_⟩; rintro _ _ _ ⟨rfl, rfl, rfl⟩)
  (refine Exists.intro 0 ?_; refine ⟨0, _, Nat.zero_le _, Nat.zero_le _, c_Mod_come c _ _ (L + 4 + 4) (by omega) rfl rfl rfl, ?_⟩; rintro _ _ _ ⟨rfl, rfl, rfl⟩)
  (refine Exists.intro 0 ?_; refine ⟨0, _, Nat.zero_le _, Nat.zero_le _, c_Mod_come d _ _ (L + 4 + 4 + 4) (by omega) rfl rfl rfl, ?_⟩; rintro _ _ _ ⟨rfl, rfl, rfl⟩)
  (refine Exists.intro 0 ?_; refine ⟨0, _, Nat.zero_le _, Nat.zero_le _, c_Mod_come e _ _ (L + 4 + 4 + 4 + 4) (by omega) rfl rfl rfl, ?_⟩; rintro _ _ _ ⟨rfl, rfl, rfl⟩)
  refine ⟨rfl, ?_, rfl⟩
  simp only [va_uu, va_uc, Nat.reduceLT]
  rfl
theorem c_WP_end_no (x : Int32) (w : ab_W) (n L : Nat) {kn ks : Nat} {lf s ne k p v : Int32} (hL2 : L ≤ 640) (hx : x < 0 ∨ nI L < x) (h0 : w 0 = oWP kn ks lf) (h1 : w 1 = oTape (nI L) s ne k p v) : ab_C X l i_WP_end [.ref 0, .int x] w n 0 0 (ab_q1 (some (.int (nI 0))) w n) := by
  obtain ⟨w, rfl⟩ := va_ex2 h1 h0
  refine ab_metI cd_108 om_108 rfl (ab_sound ok_108 [] 50 ?_)
  refine And.intro (fun h => ?_) (fun h => ?_)
  · exact ⟨rfl, rfl, rfl, rfl⟩
  · refine And.intro (fun h_9 => absurd h_9 ((by rw [i32_le]; have := hx.resolve_left h; rw [i32_lt] at this; omega))) (fun _ => ?_)
    exact ⟨rfl, rfl, rfl, rfl⟩
theorem c_WP_end (x : Int32) (w : ab_W) (n L : Nat) {kn ks : Nat} {lf s ne k p v : Int32} (hx0 : ¬ x < 0) (hx : ¬ nI L < x) (h0 : w 0 = oWP kn ks lf) (h1 : w 1 = oTape (nI L) s ne k p v) : ab_C X l i_WP_end [.ref 0, .int x] w n 0 0 (ab_q1 (some (.int (nI 1))) (va_up w 1 (oTape x s ne k p v)) n) := by
  obtain ⟨w, rfl⟩ := va_ex2 h1 h0
  refine ab_metI cd_108 om_108 rfl (ab_sound ok_108 [] 50 ?_)
  refine And.intro (fun h_9 => absurd h_9 (hx0)) (fun _ => ?_)
  refine And.intro (fun _ => ?_) (fun h_9 => absurd ((by rw [i32_le]; rw [i32_lt] at hx; omega)) h_9)
  exact ⟨rfl, rfl, (by first | rfl | (simp only [va_uu, va_uc, Nat.reduceLT]; rfl)), rfl⟩
theorem c_Mod_end_no (x : Int32) (w : ab_W) (n L : Nat) {s : Nat → Int32} {wd tn : Int64} (hx : x < 0 ∨ nI L < x) (h1 : w 90 = oMod s wd tn) (hs : s 2 = nI L) : ab_C X l i_Mod_end [.ref 90, .int x] w n 0 0 (ab_q1 (some (.int (nI 0))) (va_up w 90 (oMod (upd s 0 (nI 0)) wd tn)) n) := by
  obtain ⟨w, rfl⟩ := va_ex h1
  refine ab_metI cd_153 om_153 rfl (ab_sound ok_153 [] 50 ?_)
  refine And.intro (fun h => ?_) (fun h => ?_)
  · exact ⟨rfl, rfl, (by first | rfl | (simp only [va_uu, va_uc, Nat.reduceLT]; rfl)), rfl⟩
  · refine And.intro (fun h_9 => absurd h_9 ((by rw [hs, i32_le]; have := hx.resolve_left h; rw [i32_lt] at this; omega))) (fun _ => ?_)
    exact ⟨rfl, rfl, (by first | rfl | (simp only [va_uu, va_uc, Nat.reduceLT]; rfl)), rfl⟩
theorem c_Mod_end (x : Int32) (w : ab_W) (n L : Nat) {s : Nat → Int32} {wd tn : Int64} (hx0 : ¬ x < 0) (hx : ¬ nI L < x) (h1 : w 90 = oMod s wd tn) (hs : s 2 = nI L) : ab_C X l i_Mod_end [.ref 90, .int x] w n 0 0 (ab_q1 (some (.int (nI 1))) (va_up w 90 (oMod (upd (upd s 0 (nI 0)) 2 x) wd tn)) n) := by
  obtain ⟨w, rfl⟩ := va_ex h1
  refine ab_metI cd_153 om_153 rfl (ab_sound ok_153 [] 50 ?_)
  refine And.intro (fun h_9 => absurd h_9 (hx0)) (fun _ => ?_)
  refine And.intro (fun _ => ?_) (fun h_9 => absurd ((by rw [hs, i32_le]; rw [i32_lt] at hx; omega)) h_9)
  exact ⟨rfl, rfl, (by first | rfl | (simp only [va_uu, va_uc, Nat.reduceLT]; rfl)), rfl⟩
theorem c_Mod_take (w : ab_W) (n : Nat) {s : Nat → Int32} {wd tn : Int64} (h1 : w 90 = oMod s wd tn) : ab_C X l i_Mod_take [.ref 90] w n 0 0 (ab_q1 (some (.int (s 2))) (va_up w 90 (oMod (upd s 2 (nI 0)) wd tn)) n) := by
  obtain ⟨w, rfl⟩ := va_ex h1
  refine ab_metI cd_155 om_155 rfl (ab_sound ok_155 [] 50 ?_)
  exact ⟨rfl, (by first | rfl | (simp only [va_uu, va_uc, Nat.reduceLT]; rfl)), rfl⟩
end TAPE

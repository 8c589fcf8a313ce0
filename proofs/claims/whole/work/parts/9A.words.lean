/-! what a token is: words, signs, names -/
def KW (j : Nat) : Nat := cdB 32 (ab_sby j) 0 (ab_sln j)
def tkW (T : TE) (p j : Nat) : Bool := decide (tK T p = 2 ∧ tV T p = KW j)
def tkS (T : TE) (p c : Nat) : Bool := decide (tK T p = 4 ∧ tV T p = c)
def kwd (v : Nat) : Bool := decide (v = KW 0) || decide (v = KW 1) || decide (v = KW 2) || decide (v = KW 3) || decide (v = KW 4) || decide (v = KW 5)
def tkN (T : TE) (p : Nat) : Bool := decide (tK T p = 2) && !kwd (tV T p)
theorem kw_al : ∀ j, j < 10 → alL (ab_sby j) 0 (ab_sln j) ∧ ab_sln j ≤ 6 := by decide +kernel
theorem kw_vd {j : Nat} (hj : j < 10) : vd (KW j) := ⟨_, _, _, (kw_al j hj).2, (kw_al j hj).1, rfl⟩
theorem tK_le (T : TE) (p : Nat) : tK T p ≤ 5 := by
  unfold tK
  have := @rK_123 (tB T) (tQ T p) (tR T (tQ T p) - tQ T p)
  split
  · omega
  · split
    · omega
    · split
      · omega
      · split <;> omega
theorem tk_kw {T : TE} {p j m : Nat} (hj : j < 10) (hm : m ≤ 6) (ha : alL (tB T) (tQ T p) m) (hv : tV T p = cdB 32 (tB T) (tQ T p) m) (hk : tK T p = 2) : wdB j (tB T) (tQ T p) m = tkW T p j := by
  unfold wdB tkW
  refine decide_eq_decide.mpr ⟨fun ⟨e1, e2⟩ => ⟨hk, ?_⟩, fun ⟨_, e⟩ => ?_⟩
  · rw [hv, e1]
    exact cd_ext (fun i hi => by rw [e2 i hi, Nat.zero_add])
  · rw [hv] at e
    obtain ⟨e1, e2⟩ := cd_inj (by omega) ha (kw_al j hj).1 e
    exact ⟨e1, fun i hi => by rw [e2 i (by omega), Nat.zero_add]⟩
theorem oTk_word {T : TE} {p : Nat} {f : Int32} (hp : p ≤ tL T) (hk : tK T p = 2) : ∃ m, m ≤ 6 ∧ tQ T p + m ≤ tL T ∧ alL (tB T) (tQ T p) m ∧ tV T p = cdB 32 (tB T) (tQ T p) m ∧ oTk T p f = oTape (nI (tL T)) (nI (tE T)) (nI (tQ T p + m)) (nI 2) (nI (tQ T p)) (cV T p f) := by
  obtain ⟨m, a1, a2, a3, a4, a5, a6, a7⟩ := tk_word hp hk
  have b := tX_le hp (by omega) (by omega)
  obtain ⟨c1, c2⟩ := tk_cell (T := T) (p := p) (by omega) (by omega)
  refine ⟨m, a2, by omega, a3, a4, ?_⟩
  unfold oTk
  rw [c1, c2, a6, a7, hk]
theorem oTk_k {T : TE} {p : Nat} {k : Nat} (hk : tK T p ≠ k) (hk1 : 1 ≤ k) (hk6 : k < 6) : nI (cK T p) ≠ nI k := fun z => by
  have a := tK_le T p
  unfold cK at z
  by_cases c : tK T p = 5
  · rw [if_pos c, nI_eq (by omega) (by omega)] at z
    omega
  · rw [if_neg c, nI_eq (by omega) (by omega)] at z
    omega
theorem tkW_no {T : TE} {p j : Nat} (h : tK T p ≠ 2) : tkW T p j = false := decide_eq_false (fun z => h z.1)
theorem tkS_no {T : TE} {p c : Nat} (h : tK T p ≠ 4) : tkS T p c = false := decide_eq_false (fun z => h z.1)
theorem tkN_no {T : TE} {p : Nat} (h : tK T p ≠ 2) : tkN T p = false := by unfold tkN; rw [decide_eq_false h]; rfl
section WORDS
variable {X : ab_X} {l : Launch}
theorem k_isWord_0 (T : TE) (p : Nat) (w : ab_W) (n : Nat) {f : Int32} (hL : tL T ≤ 640) (hp : p ≤ tL T) (h1 : w 1 = oTk T p f) (h2 : w 2 = aI 640 (tB T)) : ab_C X l i_Tape_isWord [.ref 1, .retAddr 0] w n 0 0 (ab_q1 (some (.int (b01 (tkW T p 0)))) w n) := by
  by_cases c : tK T p = 2
  · obtain ⟨m, a1, a2, a3, a4, a5⟩ := oTk_word (f := f) hp c
    rw [← tk_kw (by omega) a1 a3 a4 c]
    exact c_Tape_isWord_0 (tQ T p) m w n (by omega) (h1.trans a5) h2
  · rw [tkW_no c]
    exact c_Tape_isWord_n_0 w n (oTk_k c (by omega) (by omega)) h1
theorem k_isWord_1 (T : TE) (p : Nat) (w : ab_W) (n : Nat) {f : Int32} (hL : tL T ≤ 640) (hp : p ≤ tL T) (h1 : w 1 = oTk T p f) (h2 : w 2 = aI 640 (tB T)) : ab_C X l i_Tape_isWord [.ref 1, .retAddr 1] w n 0 0 (ab_q1 (some (.int (b01 (tkW T p 1)))) w n) := by
  by_cases c : tK T p = 2
  · obtain ⟨m, a1, a2, a3, a4, a5⟩ := oTk_word (f := f) hp c
    rw [← tk_kw (by omega) a1 a3 a4 c]
    exact c_Tape_isWord_1 (tQ T p) m w n (by omega) (h1.trans a5) h2
  · rw [tkW_no c]
    exact c_Tape_isWord_n_1 w n (oTk_k c (by omega) (by omega)) h1
theorem k_isWord_2 (T : TE) (p : Nat) (w : ab_W) (n : Nat) {f : Int32} (hL : tL T ≤ 640) (hp : p ≤ tL T) (h1 : w 1 = oTk T p f) (h2 : w 2 = aI 640 (tB T)) : ab_C X l i_Tape_isWord [.ref 1, .retAddr 2] w n 0 0 (ab_q1 (some (.int (b01 (tkW T p 2)))) w n) := by
  by_cases c : tK T p = 2
  · obtain ⟨m, a1, a2, a3, a4, a5⟩ := oTk_word (f := f) hp c
    rw [← tk_kw (by omega) a1 a3 a4 c]
    exact c_Tape_isWord_2 (tQ T p) m w n (by omega) (h1.trans a5) h2
  · rw [tkW_no c]
    exact c_Tape_isWord_n_2 w n (oTk_k c (by omega) (by omega)) h1
theorem k_isWord_3 (T : TE) (p : Nat) (w : ab_W) (n : Nat) {f : Int32} (hL : tL T ≤ 640) (hp : p ≤ tL T) (h1 : w 1 = oTk T p f) (h2 : w 2 = aI 640 (tB T)) : ab_C X l i_Tape_isWord [.ref 1, .retAddr 3] w n 0 0 (ab_q1 (some (.int (b01 (tkW T p 3)))) w n) := by
  by_cases c : tK T p = 2
  · obtain ⟨m, a1, a2, a3, a4, a5⟩ := oTk_word (f := f) hp c
    rw [← tk_kw (by omega) a1 a3 a4 c]
    exact c_Tape_isWord_3 (tQ T p) m w n (by omega) (h1.trans a5) h2
  · rw [tkW_no c]
    exact c_Tape_isWord_n_3 w n (oTk_k c (by omega) (by omega)) h1
theorem k_isWord_4 (T : TE) (p : Nat) (w : ab_W) (n : Nat) {f : Int32} (hL : tL T ≤ 640) (hp : p ≤ tL T) (h1 : w 1 = oTk T p f) (h2 : w 2 = aI 640 (tB T)) : ab_C X l i_Tape_isWord [.ref 1, .retAddr 4] w n 0 0 (ab_q1 (some (.int (b01 (tkW T p 4)))) w n) := by
  by_cases c : tK T p = 2
  · obtain ⟨m, a1, a2, a3, a4, a5⟩ := oTk_word (f := f) hp c
    rw [← tk_kw (by omega) a1 a3 a4 c]
    exact c_Tape_isWord_4 (tQ T p) m w n (by omega) (h1.trans a5) h2
  · rw [tkW_no c]
    exact c_Tape_isWord_n_4 w n (oTk_k c (by omega) (by omega)) h1
theorem k_isWord_5 (T : TE) (p : Nat) (w : ab_W) (n : Nat) {f : Int32} (hL : tL T ≤ 640) (hp : p ≤ tL T) (h1 : w 1 = oTk T p f) (h2 : w 2 = aI 640 (tB T)) : ab_C X l i_Tape_isWord [.ref 1, .retAddr 5] w n 0 0 (ab_q1 (some (.int (b01 (tkW T p 5)))) w n) := by
  by_cases c : tK T p = 2
  · obtain ⟨m, a1, a2, a3, a4, a5⟩ := oTk_word (f := f) hp c
    rw [← tk_kw (by omega) a1 a3 a4 c]
    exact c_Tape_isWord_5 (tQ T p) m w n (by omega) (h1.trans a5) h2
  · rw [tkW_no c]
    exact c_Tape_isWord_n_5 w n (oTk_k c (by omega) (by omega)) h1
theorem k_isWord_6 (T : TE) (p : Nat) (w : ab_W) (n : Nat) {f : Int32} (hL : tL T ≤ 640) (hp : p ≤ tL T) (h1 : w 1 = oTk T p f) (h2 : w 2 = aI 640 (tB T)) : ab_C X l i_Tape_isWord [.ref 1, .retAddr 6] w n 0 0 (ab_q1 (some (.int (b01 (tkW T p 6)))) w n) := by
  by_cases c : tK T p = 2
  · obtain ⟨m, a1, a2, a3, a4, a5⟩ := oTk_word (f := f) hp c
    rw [← tk_kw (by omega) a1 a3 a4 c]
    exact c_Tape_isWord_6 (tQ T p) m w n (by omega) (h1.trans a5) h2
  · rw [tkW_no c]
    exact c_Tape_isWord_n_6 w n (oTk_k c (by omega) (by omega)) h1
theorem k_isWord_7 (T : TE) (p : Nat) (w : ab_W) (n : Nat) {f : Int32} (hL : tL T ≤ 640) (hp : p ≤ tL T) (h1 : w 1 = oTk T p f) (h2 : w 2 = aI 640 (tB T)) : ab_C X l i_Tape_isWord [.ref 1, .retAddr 7] w n 0 0 (ab_q1 (some (.int (b01 (tkW T p 7)))) w n) := by
  by_cases c : tK T p = 2
  · obtain ⟨m, a1, a2, a3, a4, a5⟩ := oTk_word (f := f) hp c
    rw [← tk_kw (by omega) a1 a3 a4 c]
    exact c_Tape_isWord_7 (tQ T p) m w n (by omega) (h1.trans a5) h2
  · rw [tkW_no c]
    exact c_Tape_isWord_n_7 w n (oTk_k c (by omega) (by omega)) h1
theorem k_isWord_8 (T : TE) (p : Nat) (w : ab_W) (n : Nat) {f : Int32} (hL : tL T ≤ 640) (hp : p ≤ tL T) (h1 : w 1 = oTk T p f) (h2 : w 2 = aI 640 (tB T)) : ab_C X l i_Tape_isWord [.ref 1, .retAddr 8] w n 0 0 (ab_q1 (some (.int (b01 (tkW T p 8)))) w n) := by
  by_cases c : tK T p = 2
  · obtain ⟨m, a1, a2, a3, a4, a5⟩ := oTk_word (f := f) hp c
    rw [← tk_kw (by omega) a1 a3 a4 c]
    exact c_Tape_isWord_8 (tQ T p) m w n (by omega) (h1.trans a5) h2
  · rw [tkW_no c]
    exact c_Tape_isWord_n_8 w n (oTk_k c (by omega) (by omega)) h1
theorem k_isWord_9 (T : TE) (p : Nat) (w : ab_W) (n : Nat) {f : Int32} (hL : tL T ≤ 640) (hp : p ≤ tL T) (h1 : w 1 = oTk T p f) (h2 : w 2 = aI 640 (tB T)) : ab_C X l i_Tape_isWord [.ref 1, .retAddr 9] w n 0 0 (ab_q1 (some (.int (b01 (tkW T p 9)))) w n) := by
  by_cases c : tK T p = 2
  · obtain ⟨m, a1, a2, a3, a4, a5⟩ := oTk_word (f := f) hp c
    rw [← tk_kw (by omega) a1 a3 a4 c]
    exact c_Tape_isWord_9 (tQ T p) m w n (by omega) (h1.trans a5) h2
  · rw [tkW_no c]
    exact c_Tape_isWord_n_9 w n (oTk_k c (by omega) (by omega)) h1
theorem k_isSign (T : TE) (p c : Nat) (w : ab_W) (n : Nat) {f x : Int32} (hx : x = nI c) (hc : c < 100) (hp : p ≤ tL T) (h1 : w 1 = oTk T p f) : ab_C X l i_Tape_isSign [.ref 1, .int x] w n 0 0 (ab_q1 (some (.int (b01 (tkS T p c)))) w n) := by
  have h := c_Tape_isSign (X := X) (l := l) x w n h1
  have e : decide (nI (cK T p) = nI 4 ∧ cV T p f = x) = tkS T p c := by
    unfold tkS
    by_cases k : tK T p = 4
    · have a := (tk_sgn hp k).2.2.2.1
      obtain ⟨c1, c2⟩ := tk_cell (T := T) (p := p) (by omega) (by omega)
      refine decide_eq_decide.mpr ⟨fun z => ⟨k, ?_⟩, fun z => ⟨by rw [c2, k], ?_⟩⟩
      · have z := z.2
        rw [cV_eq hp (by omega) (by omega), hx, nI_eq (by omega) (by omega)] at z
        exact z
      · rw [cV_eq hp (by omega) (by omega), hx, z.2]
    · rw [decide_eq_false (fun z => oTk_k k (by omega) (by omega) z.1), decide_eq_false (fun z => k z.1)]
  rw [← e]
  exact h
theorem k_isName (T : TE) (p : Nat) (w : ab_W) (n : Nat) {f : Int32} (hL : tL T ≤ 640) (hp : p ≤ tL T) (h1 : w 1 = oTk T p f) (h2 : w 2 = aI 640 (tB T)) : ab_C X l i_KR_isName [.ref 1] w n 0 0 (ab_q1 (some (.int (b01 (tkN T p)))) w n) := by
  by_cases c : tK T p = 2
  · obtain ⟨m, a1, a2, a3, a4, a5⟩ := oTk_word (f := f) hp c
    have e : tkN T p = !kwC (tB T) (tQ T p) m := by
      have e0 : ∀ j, tkW T p j = decide (tV T p = KW j) := fun j => decide_eq_decide.mpr ⟨fun z => z.2, fun z => ⟨c, z⟩⟩
      unfold tkN kwC kwd
      rw [tk_kw (by omega) a1 a3 a4 c, tk_kw (by omega) a1 a3 a4 c, tk_kw (by omega) a1 a3 a4 c, tk_kw (by omega) a1 a3 a4 c, tk_kw (by omega) a1 a3 a4 c, tk_kw (by omega) a1 a3 a4 c, e0, e0, e0, e0, e0, e0, decide_eq_true c, Bool.true_and]
    rw [e]
    exact c_KR_isName (tQ T p) m w n (by omega) (h1.trans a5) h2
  · rw [tkN_no c]
    exact c_KR_isName_n w n (oTk_k c (by omega) (by omega)) h1
/-! the model's side -/
theorem mK_k {T : TE} {p k : Nat} {s : Nat → Int32} {wd : Int64} (h : AtM T p s wd) (hk2 : 2 ≤ k) (hk6 : k ≤ 4) : s 7 = nI k ↔ tK T p = k := by
  have a := tK_le T p
  rw [h.2.1]
  unfold mK
  by_cases c : tK T p = 5
  · rw [if_pos c, nI_eq (by omega) (by omega)]
    omega
  · rw [if_neg c, nI_eq (by omega) (by omega)]
theorem mW_e {T : TE} {p j : Nat} {s : Nat → Int32} {wd v : Int64} (hj : j < 10) (hv : v = lN (cv (KW j))) (hp : p ≤ tL T) (h : AtM T p s wd) : decide (s 7 = nI 2 ∧ wd = v) = tkW T p j := by
  unfold tkW
  rw [hv]
  refine decide_eq_decide.mpr ⟨fun z => ?_, fun z => ?_⟩
  · have k := (mK_k h (by omega) (by omega)).mp z.1
    have e := h.2.2.2.1 k
    rw [z.2, pk_lEQ (Nat.lt_trans (vd_lt (kw_vd hj)).2 (by omega)) (Nat.lt_trans (vd_lt (tk_vd hp k)).2 (by omega)), vd_inj (kw_vd hj) (tk_vd hp k)] at e
    exact ⟨k, e.symm⟩
  · exact ⟨(mK_k h (by omega) (by omega)).mpr z.1, by rw [h.2.2.2.1 z.1, z.2]⟩
theorem mS_e {T : TE} {p c : Nat} {s : Nat → Int32} {wd : Int64} {x : Int32} (hx : x = nI c) (hc : c < 100) (hp : p ≤ tL T) (h : AtM T p s wd) : decide (s 7 = nI 4 ∧ s 9 = x) = tkS T p c := by
  unfold tkS
  rw [hx]
  refine decide_eq_decide.mpr ⟨fun z => ?_, fun z => ?_⟩
  · have k := (mK_k h (by omega) (by omega)).mp z.1
    have e := h.2.2.2.2.2 k
    have a := (tk_sgn hp k).2.2.2.1
    rw [z.2, nI_eq (by omega) (by omega)] at e
    exact ⟨k, e.symm⟩
  · exact ⟨(mK_k h (by omega) (by omega)).mpr z.1, by rw [h.2.2.2.2.2 z.1, z.2]⟩
theorem k_Mod_isSign (T : TE) (p c : Nat) (w : ab_W) (n : Nat) {s : Nat → Int32} {wd tn : Int64} {x : Int32} (hx : x = nI c) (hc : c < 100) (hp : p ≤ tL T) (h90 : w 90 = oMod s wd tn) (h : AtM T p s wd) : ab_C X l i_Mod_isSign [.ref 90, .int x] w n 0 0 (ab_q1 (some (.int (b01 (tkS T p c)))) w n) := by
  rw [← mS_e hx hc hp h]
  exact c_Mod_isSign x w n h90
theorem k_Mod_isRing (T : TE) (p : Nat) (w : ab_W) (n : Nat) {s : Nat → Int32} {wd tn : Int64} (hp : p ≤ tL T) (h90 : w 90 = oMod s wd tn) (h : AtM T p s wd) : ab_C X l i_Mod_isRing [.ref 90] w n 0 0 (ab_q1 (some (.int (b01 (tkW T p 0)))) w n) := by
  have key := c_Mod_isRing (X := X) (l := l) w n h90
  rw [mW_e (j := 0) (by omega) (by decide +kernel) hp h] at key
  exact key
theorem k_Mod_isWheel (T : TE) (p : Nat) (w : ab_W) (n : Nat) {s : Nat → Int32} {wd tn : Int64} (hp : p ≤ tL T) (h90 : w 90 = oMod s wd tn) (h : AtM T p s wd) : ab_C X l i_Mod_isWheel [.ref 90] w n 0 0 (ab_q1 (some (.int (b01 (tkW T p 1)))) w n) := by
  have key := c_Mod_isWheel (X := X) (l := l) w n h90
  rw [mW_e (j := 1) (by omega) (by decide +kernel) hp h] at key
  exact key
theorem k_Mod_isPen (T : TE) (p : Nat) (w : ab_W) (n : Nat) {s : Nat → Int32} {wd tn : Int64} (hp : p ≤ tL T) (h90 : w 90 = oMod s wd tn) (h : AtM T p s wd) : ab_C X l i_Mod_isPen [.ref 90] w n 0 0 (ab_q1 (some (.int (b01 (tkW T p 2)))) w n) := by
  have key := c_Mod_isPen (X := X) (l := l) w n h90
  rw [mW_e (j := 2) (by omega) (by decide +kernel) hp h] at key
  exact key
theorem k_Mod_isInside (T : TE) (p : Nat) (w : ab_W) (n : Nat) {s : Nat → Int32} {wd tn : Int64} (hp : p ≤ tL T) (h90 : w 90 = oMod s wd tn) (h : AtM T p s wd) : ab_C X l i_Mod_isInside [.ref 90] w n 0 0 (ab_q1 (some (.int (b01 (tkW T p 3)))) w n) := by
  have key := c_Mod_isInside (X := X) (l := l) w n h90
  rw [mW_e (j := 3) (by omega) (by decide +kernel) hp h] at key
  exact key
theorem k_Mod_isOn (T : TE) (p : Nat) (w : ab_W) (n : Nat) {s : Nat → Int32} {wd tn : Int64} (hp : p ≤ tL T) (h90 : w 90 = oMod s wd tn) (h : AtM T p s wd) : ab_C X l i_Mod_isOn [.ref 90] w n 0 0 (ab_q1 (some (.int (b01 (tkW T p 4)))) w n) := by
  have key := c_Mod_isOn (X := X) (l := l) w n h90
  rw [mW_e (j := 4) (by omega) (by decide +kernel) hp h] at key
  exact key
theorem k_Mod_isAt (T : TE) (p : Nat) (w : ab_W) (n : Nat) {s : Nat → Int32} {wd tn : Int64} (hp : p ≤ tL T) (h90 : w 90 = oMod s wd tn) (h : AtM T p s wd) : ab_C X l i_Mod_isAt [.ref 90] w n 0 0 (ab_q1 (some (.int (b01 (tkW T p 5)))) w n) := by
  have key := c_Mod_isAt (X := X) (l := l) w n h90
  rw [mW_e (j := 5) (by omega) (by decide +kernel) hp h] at key
  exact key
theorem k_Mod_isName (T : TE) (p : Nat) (w : ab_W) (n : Nat) {s : Nat → Int32} {wd tn : Int64} (hp : p ≤ tL T) (h90 : w 90 = oMod s wd tn) (h : AtM T p s wd) : ab_C X l i_Mod_isName [.ref 90] w n 0 0 (ab_q1 (some (.int (b01 (tkN T p)))) w n) := by
  by_cases c : tK T p = 2
  · have hd := (mK_k h (by omega) (by omega)).mpr c
    have e : tkN T p = !kwM wd := by
      have e0 : ∀ v, decide (wd = v) = decide (s 7 = nI 2 ∧ wd = v) := fun v => decide_eq_decide.mpr ⟨fun z => ⟨hd, z⟩, fun z => z.2⟩
      have e1 : ∀ j, tkW T p j = decide (tV T p = KW j) := fun j => decide_eq_decide.mpr ⟨fun z => z.2, fun z => ⟨c, z⟩⟩
      unfold tkN kwM kwd
      rw [decide_eq_true c, Bool.true_and]
      rw [e0, e0, e0, e0, e0, e0]
      rw [mW_e (j := 0) (by omega) (by decide +kernel) hp h, mW_e (j := 1) (by omega) (by decide +kernel) hp h, mW_e (j := 2) (by omega) (by decide +kernel) hp h, mW_e (j := 3) (by omega) (by decide +kernel) hp h, mW_e (j := 4) (by omega) (by decide +kernel) hp h, mW_e (j := 5) (by omega) (by decide +kernel) hp h, e1, e1, e1, e1, e1, e1]
    rw [e]
    exact c_Mod_isName w n hd h90
  · rw [tkN_no c]
    exact c_Mod_isName_n w n (fun z => c ((mK_k h (by omega) (by omega)).mp z)) h90
end WORDS

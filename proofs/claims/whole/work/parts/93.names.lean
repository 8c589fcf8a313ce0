/-! names -/
def kwC (tb : Nat → Int32) (p m : Nat) : Bool := wdB 0 tb p m || wdB 1 tb p m || wdB 2 tb p m || wdB 3 tb p m || wdB 4 tb p m || wdB 5 tb p m
def kwM (wd : Int64) : Bool := decide (wd = spl [nI 114, nI 105, nI 110, nI 103] 0) || decide (wd = spl [nI 119, nI 104, nI 101, nI 101, nI 108] 0) || decide (wd = spl [nI 112, nI 101, nI 110] 0) || decide (wd = spl [nI 105, nI 110] 0) || decide (wd = spl [nI 111, nI 110] 0) || decide (wd = spl [nI 97, nI 116] 0)
section NAMES
variable {X : ab_X} {l : Launch}
theorem c_KR_isName_n (w : ab_W) (n : Nat) {a b c d e f : Int32} (hd : d ≠ nI 2) (h1 : w 1 = oTape a b c d e f) : ab_C X l i_KR_isName [.ref 1] w n 0 0 (ab_q1 (some (.int (b01 false))) w n) := by
  obtain ⟨w, rfl⟩ := va_ex h1
  refine ab_metI cd_17 om_17 rfl (ab_sound ok_17 [] 80 ?_)
  refine And.intro (fun _ => ?_) (fun h_9 => absurd h_9 (hd))
  exact ⟨rfl, rfl, rfl, rfl⟩
theorem c_KR_isName (p m : Nat) (w : ab_W) (n : Nat) {a b f : Int32} {tb : Nat → Int32} (hpm : p + m ≤ 640) (h1 : w 1 = oTape a b (nI (p + m)) (nI 2) (nI p) f) (h2 : w 2 = aI 640 tb) : ab_C X l i_KR_isName [.ref 1] w n 0 0 (ab_q1 (some (.int (b01 (!kwC tb p m)))) w n) := by
  obtain ⟨w, rfl⟩ := va_ex2 h1 h2
  unfold kwC
  refine ab_metI cd_17 om_17 rfl (ab_sound ok_17 [] 150 ?_)
  refine And.intro (fun h_9 => absurd (rfl) h_9) (fun _ => ?_)
  (refine Exists.intro 0 ?_; refine ⟨0, _, Nat.zero_le _, Nat.zero_le _, c_Tape_isWord_0 p m _ _ hpm rfl rfl, ?_⟩; refine ab_q1_elim ?_)
  cases h0 : wdB 0 tb p m
  case true =>
    refine And.intro (fun _ => ?_) (fun h_9 => absurd h_9 ((by decide)))
    exact ⟨rfl, by simp only [Bool.true_or, Bool.or_true, Bool.false_or, Bool.not_true]; rfl, rfl, rfl⟩
  refine And.intro (fun h_9 => absurd (rfl) h_9) (fun _ => ?_)
  (refine Exists.intro 0 ?_; refine ⟨0, _, Nat.zero_le _, Nat.zero_le _, c_Tape_isWord_1 p m _ _ hpm rfl rfl, ?_⟩; refine ab_q1_elim ?_)
  cases h1 : wdB 1 tb p m
  case true =>
    refine And.intro (fun _ => ?_) (fun h_9 => absurd h_9 ((by decide)))
    exact ⟨rfl, by simp only [Bool.true_or, Bool.or_true, Bool.false_or, Bool.not_true]; rfl, rfl, rfl⟩
  refine And.intro (fun h_9 => absurd (rfl) h_9) (fun _ => ?_)
  (refine Exists.intro 0 ?_; refine ⟨0, _, Nat.zero_le _, Nat.zero_le _, c_Tape_isWord_2 p m _ _ hpm rfl rfl, ?_⟩; refine ab_q1_elim ?_)
  cases h2 : wdB 2 tb p m
  case true =>
    refine And.intro (fun _ => ?_) (fun h_9 => absurd h_9 ((by decide)))
    exact ⟨rfl, by simp only [Bool.true_or, Bool.or_true, Bool.false_or, Bool.not_true]; rfl, rfl, rfl⟩
  refine And.intro (fun h_9 => absurd (rfl) h_9) (fun _ => ?_)
  (refine Exists.intro 0 ?_; refine ⟨0, _, Nat.zero_le _, Nat.zero_le _, c_Tape_isWord_3 p m _ _ hpm rfl rfl, ?_⟩; refine ab_q1_elim ?_)
  cases h3 : wdB 3 tb p m
  case true =>
    refine And.intro (fun _ => ?_) (fun h_9 => absurd h_9 ((by decide)))
    exact ⟨rfl, by simp only [Bool.true_or, Bool.or_true, Bool.false_or, Bool.not_true]; rfl, rfl, rfl⟩
  refine And.intro (fun h_9 => absurd (rfl) h_9) (fun _ => ?_)
  (refine Exists.intro 0 ?_; refine ⟨0, _, Nat.zero_le _, Nat.zero_le _, c_Tape_isWord_4 p m _ _ hpm rfl rfl, ?_⟩; refine ab_q1_elim ?_)
  cases h4 : wdB 4 tb p m
  case true =>
    refine And.intro (fun _ => ?_) (fun h_9 => absurd h_9 ((by decide)))
    exact ⟨rfl, by simp only [Bool.true_or, Bool.or_true, Bool.false_or, Bool.not_true]; rfl, rfl, rfl⟩
  refine And.intro (fun h_9 => absurd (rfl) h_9) (fun _ => ?_)
  (refine Exists.intro 0 ?_; refine ⟨0, _, Nat.zero_le _, Nat.zero_le _, c_Tape_isWord_5 p m _ _ hpm rfl rfl, ?_⟩; refine ab_q1_elim ?_)
  cases h5 : wdB 5 tb p m
  case true =>
    refine And.intro (fun _ => ?_) (fun h_9 => absurd h_9 ((by decide)))
    exact ⟨rfl, by simp only [Bool.true_or, Bool.or_true, Bool.false_or, Bool.not_true]; rfl, rfl, rfl⟩
  refine And.intro (fun h_9 => absurd (rfl) h_9) (fun _ => ?_)
  exact ⟨rfl, rfl, rfl, rfl⟩
theorem c_Mod_isName_n (w : ab_W) (n : Nat) {s : Nat → Int32} {wd tn : Int64} (hd : s 7 ≠ nI 2) (h90 : w 90 = oMod s wd tn) : ab_C X l i_Mod_isName [.ref 90] w n 0 0 (ab_q1 (some (.int (b01 false))) w n) := by
  obtain ⟨w, rfl⟩ := va_ex h90
  refine ab_metI cd_167 om_167 rfl (ab_sound ok_167 [] 80 ?_)
  refine And.intro (fun _ => ?_) (fun h_9 => absurd h_9 (hd))
  exact ⟨rfl, rfl, rfl, rfl⟩
theorem c_Mod_isName (w : ab_W) (n : Nat) {s : Nat → Int32} {wd tn : Int64} (hd : s 7 = nI 2) (h90 : w 90 = oMod s wd tn) : ab_C X l i_Mod_isName [.ref 90] w n 0 0 (ab_q1 (some (.int (b01 (!kwM wd)))) w n) := by
  have e0 : ∀ v, decide (s 7 = nI 2 ∧ wd = v) = decide (wd = v) := fun v => decide_eq_decide.mpr ⟨fun z => z.2, fun z => ⟨hd, z⟩⟩
  obtain ⟨w, rfl⟩ := va_ex h90
  unfold kwM
  refine ab_metI cd_167 om_167 rfl (ab_sound ok_167 [] 150 ?_)
  refine And.intro (fun h_9 => absurd (hd) h_9) (fun _ => ?_)
  (refine Exists.intro 0 ?_; refine ⟨0, _, Nat.zero_le _, Nat.zero_le _, c_Mod_isRing _ _ rfl, ?_⟩; refine ab_q1_elim ?_)
  rw [e0]
  cases h0 : decide (wd = spl [nI 114, nI 105, nI 110, nI 103] 0)
  case true =>
    refine And.intro (fun _ => ?_) (fun h_9 => absurd h_9 ((by decide)))
    exact ⟨rfl, by simp only [Bool.true_or, Bool.or_true, Bool.false_or, Bool.not_true]; rfl, rfl, rfl⟩
  refine And.intro (fun h_9 => absurd (rfl) h_9) (fun _ => ?_)
  (refine Exists.intro 0 ?_; refine ⟨0, _, Nat.zero_le _, Nat.zero_le _, c_Mod_isWheel _ _ rfl, ?_⟩; refine ab_q1_elim ?_)
  rw [e0]
  cases h1 : decide (wd = spl [nI 119, nI 104, nI 101, nI 101, nI 108] 0)
  case true =>
    refine And.intro (fun _ => ?_) (fun h_9 => absurd h_9 ((by decide)))
    exact ⟨rfl, by simp only [Bool.true_or, Bool.or_true, Bool.false_or, Bool.not_true]; rfl, rfl, rfl⟩
  refine And.intro (fun h_9 => absurd (rfl) h_9) (fun _ => ?_)
  (refine Exists.intro 0 ?_; refine ⟨0, _, Nat.zero_le _, Nat.zero_le _, c_Mod_isPen _ _ rfl, ?_⟩; refine ab_q1_elim ?_)
  rw [e0]
  cases h2 : decide (wd = spl [nI 112, nI 101, nI 110] 0)
  case true =>
    refine And.intro (fun _ => ?_) (fun h_9 => absurd h_9 ((by decide)))
    exact ⟨rfl, by simp only [Bool.true_or, Bool.or_true, Bool.false_or, Bool.not_true]; rfl, rfl, rfl⟩
  refine And.intro (fun h_9 => absurd (rfl) h_9) (fun _ => ?_)
  (refine Exists.intro 0 ?_; refine ⟨0, _, Nat.zero_le _, Nat.zero_le _, c_Mod_isInside _ _ rfl, ?_⟩; refine ab_q1_elim ?_)
  rw [e0]
  cases h3 : decide (wd = spl [nI 105, nI 110] 0)
  case true =>
    refine And.intro (fun _ => ?_) (fun h_9 => absurd h_9 ((by decide)))
    exact ⟨rfl, by simp only [Bool.true_or, Bool.or_true, Bool.false_or, Bool.not_true]; rfl, rfl, rfl⟩
  refine And.intro (fun h_9 => absurd (rfl) h_9) (fun _ => ?_)
  (refine Exists.intro 0 ?_; refine ⟨0, _, Nat.zero_le _, Nat.zero_le _, c_Mod_isOn _ _ rfl, ?_⟩; refine ab_q1_elim ?_)
  rw [e0]
  cases h4 : decide (wd = spl [nI 111, nI 110] 0)
  case true =>
    refine And.intro (fun _ => ?_) (fun h_9 => absurd h_9 ((by decide)))
    exact ⟨rfl, by simp only [Bool.true_or, Bool.or_true, Bool.false_or, Bool.not_true]; rfl, rfl, rfl⟩
  refine And.intro (fun h_9 => absurd (rfl) h_9) (fun _ => ?_)
  (refine Exists.intro 0 ?_; refine ⟨0, _, Nat.zero_le _, Nat.zero_le _, c_Mod_isAt _ _ rfl, ?_⟩; refine ab_q1_elim ?_)
  rw [e0]
  cases h5 : decide (wd = spl [nI 97, nI 116] 0)
  case true =>
    refine And.intro (fun _ => ?_) (fun h_9 => absurd h_9 ((by decide)))
    exact ⟨rfl, by simp only [Bool.true_or, Bool.or_true, Bool.false_or, Bool.not_true]; rfl, rfl, rfl⟩
  refine And.intro (fun h_9 => absurd (rfl) h_9) (fun _ => ?_)
  exact ⟨rfl, rfl, rfl, rfl⟩
end NAMES

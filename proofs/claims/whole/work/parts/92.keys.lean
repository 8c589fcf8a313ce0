/-! the model's words -/
/-- a word's number, letter by letter -/
def spl : List Int32 → Int64 → Int64
  | [], v => v
  | c :: r, v => spl r (27 * v + c.toInt64 - 96)
section KEYS
variable {X : ab_X} {l : Launch}
theorem c_Mod_isKey (v : Int64) (w : ab_W) (n : Nat) {s : Nat → Int32} {wd tn : Int64} (h90 : w 90 = oMod s wd tn) : ab_C X l i_Mod_isKey [.ref 90, .long v] w n 0 0 (ab_q1 (some (.int (b01 (decide (s 7 = nI 2 ∧ wd = v))))) w n) := by
  obtain ⟨w, rfl⟩ := va_ex h90
  refine ab_metI cd_163 om_163 rfl (ab_sound ok_163 [] 80 ?_)
  refine And.intro (fun e1 => ?_) (fun e1 => ?_)
  · rw [decide_eq_false (fun z => e1 z.1)]
    exact ⟨rfl, rfl, rfl, rfl⟩
  refine And.intro (fun e2 => ?_) (fun e2 => ?_)
  · rw [decide_eq_false (fun z => e2 (lg_eq.mpr z.2))]
    exact ⟨rfl, rfl, rfl, rfl⟩
  · rw [decide_eq_true ⟨e1, lg_eq.mp e2⟩]
    exact ⟨rfl, rfl, rfl, rfl⟩
theorem c_Mod_bad (x : Int32) (w : ab_W) (n : Nat) {s : Nat → Int32} {wd tn : Int64} (h90 : w 90 = oMod s wd tn) : ab_C X l i_Mod_bad [.ref 90, .int x] w n 0 0 (ab_q1 (some (.int (nI 0))) (va_up w 90 (oMod (upd (upd s 10 (if s 7 = nI 1 then nI 1 else x)) 11 (s 6)) wd tn)) n) := by
  obtain ⟨w, rfl⟩ := va_ex h90
  refine ab_metI cd_165 om_165 rfl (ab_sound ok_165 [] 80 ?_)
  refine And.intro (fun e1 => ?_) (fun e1 => ?_)
  · rw [if_neg e1]
    exact ⟨rfl, rfl, (by first | rfl | (simp only [va_uu, va_uc, Nat.reduceLT]; done) | (simp only [va_uu, va_uc, Nat.reduceLT]; rfl)), rfl⟩
  · rw [if_pos e1]
    exact ⟨rfl, rfl, (by first | rfl | (simp only [va_uu, va_uc, Nat.reduceLT]; done) | (simp only [va_uu, va_uc, Nat.reduceLT]; rfl)), rfl⟩
theorem c_Mod_spelt_isRing (w : ab_W) (n : Nat) : ab_C X l i_Mod_spelt [.int (nI 114), .int (nI 105), .int (nI 110), .int (nI 103), .int (nI 0)] w n 0 0 (ab_q1 (some (.long (spl [nI 114, nI 105, nI 110, nI 103] 0))) w n) := by
  refine ab_metL cd_162 om_162 rfl rfl (ab_sound ok_162 [] 80 ?_)
  refine And.intro (fun h_9 => absurd h_9 ((by decide))) (fun _ => ?_)
  refine And.intro (fun h_9 => absurd h_9 ((by decide))) (fun _ => ?_)
  refine And.intro (fun _ => ?_) (fun h_9 => absurd ((by decide)) h_9)
  exact ⟨congrArg (fun q => some (Value.long q)) (by decide +kernel), rfl, rfl⟩
theorem c_Mod_isRing (w : ab_W) (n : Nat) {s : Nat → Int32} {wd tn : Int64} (h90 : w 90 = oMod s wd tn) : ab_C X l i_Mod_isRing [.ref 90] w n 0 0 (ab_q1 (some (.int (b01 (decide (s 7 = nI 2 ∧ wd = spl [nI 114, nI 105, nI 110, nI 103] 0))))) w n) := by
  obtain ⟨w, rfl⟩ := va_ex h90
  refine ab_metI cd_161 om_161 rfl (ab_sound ok_161 [] 80 ?_)
  (refine Exists.intro 0 ?_; refine ⟨0, _, Nat.zero_le _, Nat.zero_le _, c_Mod_spelt_isRing _ _, ?_⟩; refine ab_q1_elim ?_)
  (refine Exists.intro 0 ?_; refine ⟨0, _, Nat.zero_le _, Nat.zero_le _, c_Mod_isKey _ _ _ rfl, ?_⟩; refine ab_q1_elim ?_)
  cases (decide (s 7 = nI 2 ∧ wd = spl [nI 114, nI 105, nI 110, nI 103] 0))
  · exact ⟨rfl, rfl, rfl, rfl⟩
  · exact ⟨rfl, rfl, rfl, rfl⟩
theorem c_Mod_spelt_isWheel (w : ab_W) (n : Nat) : ab_C X l i_Mod_spelt [.int (nI 119), .int (nI 104), .int (nI 101), .int (nI 101), .int (nI 108)] w n 0 0 (ab_q1 (some (.long (spl [nI 119, nI 104, nI 101, nI 101, nI 108] 0))) w n) := by
  refine ab_metL cd_162 om_162 rfl rfl (ab_sound ok_162 [] 80 ?_)
  refine And.intro (fun h_9 => absurd h_9 ((by decide))) (fun _ => ?_)
  refine And.intro (fun h_9 => absurd h_9 ((by decide))) (fun _ => ?_)
  refine And.intro (fun h_9 => absurd h_9 ((by decide))) (fun _ => ?_)
  exact ⟨congrArg (fun q => some (Value.long q)) (by decide +kernel), rfl, rfl⟩
theorem c_Mod_isWheel (w : ab_W) (n : Nat) {s : Nat → Int32} {wd tn : Int64} (h90 : w 90 = oMod s wd tn) : ab_C X l i_Mod_isWheel [.ref 90] w n 0 0 (ab_q1 (some (.int (b01 (decide (s 7 = nI 2 ∧ wd = spl [nI 119, nI 104, nI 101, nI 101, nI 108] 0))))) w n) := by
  obtain ⟨w, rfl⟩ := va_ex h90
  refine ab_metI cd_168 om_168 rfl (ab_sound ok_168 [] 80 ?_)
  (refine Exists.intro 0 ?_; refine ⟨0, _, Nat.zero_le _, Nat.zero_le _, c_Mod_spelt_isWheel _ _, ?_⟩; refine ab_q1_elim ?_)
  (refine Exists.intro 0 ?_; refine ⟨0, _, Nat.zero_le _, Nat.zero_le _, c_Mod_isKey _ _ _ rfl, ?_⟩; refine ab_q1_elim ?_)
  cases (decide (s 7 = nI 2 ∧ wd = spl [nI 119, nI 104, nI 101, nI 101, nI 108] 0))
  · exact ⟨rfl, rfl, rfl, rfl⟩
  · exact ⟨rfl, rfl, rfl, rfl⟩
theorem c_Mod_spelt_isPen (w : ab_W) (n : Nat) : ab_C X l i_Mod_spelt [.int (nI 112), .int (nI 101), .int (nI 110), .int (nI 0), .int (nI 0)] w n 0 0 (ab_q1 (some (.long (spl [nI 112, nI 101, nI 110] 0))) w n) := by
  refine ab_metL cd_162 om_162 rfl rfl (ab_sound ok_162 [] 80 ?_)
  refine And.intro (fun h_9 => absurd h_9 ((by decide))) (fun _ => ?_)
  refine And.intro (fun _ => ?_) (fun h_9 => absurd ((by decide)) h_9)
  refine And.intro (fun _ => ?_) (fun h_9 => absurd ((by decide)) h_9)
  exact ⟨congrArg (fun q => some (Value.long q)) (by decide +kernel), rfl, rfl⟩
theorem c_Mod_isPen (w : ab_W) (n : Nat) {s : Nat → Int32} {wd tn : Int64} (h90 : w 90 = oMod s wd tn) : ab_C X l i_Mod_isPen [.ref 90] w n 0 0 (ab_q1 (some (.int (b01 (decide (s 7 = nI 2 ∧ wd = spl [nI 112, nI 101, nI 110] 0))))) w n) := by
  obtain ⟨w, rfl⟩ := va_ex h90
  refine ab_metI cd_169 om_169 rfl (ab_sound ok_169 [] 80 ?_)
  (refine Exists.intro 0 ?_; refine ⟨0, _, Nat.zero_le _, Nat.zero_le _, c_Mod_spelt_isPen _ _, ?_⟩; refine ab_q1_elim ?_)
  (refine Exists.intro 0 ?_; refine ⟨0, _, Nat.zero_le _, Nat.zero_le _, c_Mod_isKey _ _ _ rfl, ?_⟩; refine ab_q1_elim ?_)
  cases (decide (s 7 = nI 2 ∧ wd = spl [nI 112, nI 101, nI 110] 0))
  · exact ⟨rfl, rfl, rfl, rfl⟩
  · exact ⟨rfl, rfl, rfl, rfl⟩
theorem c_Mod_spelt_isInside (w : ab_W) (n : Nat) : ab_C X l i_Mod_spelt [.int (nI 105), .int (nI 110), .int (nI 0), .int (nI 0), .int (nI 0)] w n 0 0 (ab_q1 (some (.long (spl [nI 105, nI 110] 0))) w n) := by
  refine ab_metL cd_162 om_162 rfl rfl (ab_sound ok_162 [] 80 ?_)
  refine And.intro (fun _ => ?_) (fun h_9 => absurd ((by decide)) h_9)
  refine And.intro (fun _ => ?_) (fun h_9 => absurd ((by decide)) h_9)
  refine And.intro (fun _ => ?_) (fun h_9 => absurd ((by decide)) h_9)
  exact ⟨congrArg (fun q => some (Value.long q)) (by decide +kernel), rfl, rfl⟩
theorem c_Mod_isInside (w : ab_W) (n : Nat) {s : Nat → Int32} {wd tn : Int64} (h90 : w 90 = oMod s wd tn) : ab_C X l i_Mod_isInside [.ref 90] w n 0 0 (ab_q1 (some (.int (b01 (decide (s 7 = nI 2 ∧ wd = spl [nI 105, nI 110] 0))))) w n) := by
  obtain ⟨w, rfl⟩ := va_ex h90
  refine ab_metI cd_170 om_170 rfl (ab_sound ok_170 [] 80 ?_)
  (refine Exists.intro 0 ?_; refine ⟨0, _, Nat.zero_le _, Nat.zero_le _, c_Mod_spelt_isInside _ _, ?_⟩; refine ab_q1_elim ?_)
  (refine Exists.intro 0 ?_; refine ⟨0, _, Nat.zero_le _, Nat.zero_le _, c_Mod_isKey _ _ _ rfl, ?_⟩; refine ab_q1_elim ?_)
  cases (decide (s 7 = nI 2 ∧ wd = spl [nI 105, nI 110] 0))
  · exact ⟨rfl, rfl, rfl, rfl⟩
  · exact ⟨rfl, rfl, rfl, rfl⟩
theorem c_Mod_spelt_isOn (w : ab_W) (n : Nat) : ab_C X l i_Mod_spelt [.int (nI 111), .int (nI 110), .int (nI 0), .int (nI 0), .int (nI 0)] w n 0 0 (ab_q1 (some (.long (spl [nI 111, nI 110] 0))) w n) := by
  refine ab_metL cd_162 om_162 rfl rfl (ab_sound ok_162 [] 80 ?_)
  refine And.intro (fun _ => ?_) (fun h_9 => absurd ((by decide)) h_9)
  refine And.intro (fun _ => ?_) (fun h_9 => absurd ((by decide)) h_9)
  refine And.intro (fun _ => ?_) (fun h_9 => absurd ((by decide)) h_9)
  exact ⟨congrArg (fun q => some (Value.long q)) (by decide +kernel), rfl, rfl⟩
theorem c_Mod_isOn (w : ab_W) (n : Nat) {s : Nat → Int32} {wd tn : Int64} (h90 : w 90 = oMod s wd tn) : ab_C X l i_Mod_isOn [.ref 90] w n 0 0 (ab_q1 (some (.int (b01 (decide (s 7 = nI 2 ∧ wd = spl [nI 111, nI 110] 0))))) w n) := by
  obtain ⟨w, rfl⟩ := va_ex h90
  refine ab_metI cd_171 om_171 rfl (ab_sound ok_171 [] 80 ?_)
  (refine Exists.intro 0 ?_; refine ⟨0, _, Nat.zero_le _, Nat.zero_le _, c_Mod_spelt_isOn _ _, ?_⟩; refine ab_q1_elim ?_)
  (refine Exists.intro 0 ?_; refine ⟨0, _, Nat.zero_le _, Nat.zero_le _, c_Mod_isKey _ _ _ rfl, ?_⟩; refine ab_q1_elim ?_)
  cases (decide (s 7 = nI 2 ∧ wd = spl [nI 111, nI 110] 0))
  · exact ⟨rfl, rfl, rfl, rfl⟩
  · exact ⟨rfl, rfl, rfl, rfl⟩
theorem c_Mod_spelt_isAt (w : ab_W) (n : Nat) : ab_C X l i_Mod_spelt [.int (nI 97), .int (nI 116), .int (nI 0), .int (nI 0), .int (nI 0)] w n 0 0 (ab_q1 (some (.long (spl [nI 97, nI 116] 0))) w n) := by
  refine ab_metL cd_162 om_162 rfl rfl (ab_sound ok_162 [] 80 ?_)
  refine And.intro (fun _ => ?_) (fun h_9 => absurd ((by decide)) h_9)
  refine And.intro (fun _ => ?_) (fun h_9 => absurd ((by decide)) h_9)
  refine And.intro (fun _ => ?_) (fun h_9 => absurd ((by decide)) h_9)
  exact ⟨congrArg (fun q => some (Value.long q)) (by decide +kernel), rfl, rfl⟩
theorem c_Mod_isAt (w : ab_W) (n : Nat) {s : Nat → Int32} {wd tn : Int64} (h90 : w 90 = oMod s wd tn) : ab_C X l i_Mod_isAt [.ref 90] w n 0 0 (ab_q1 (some (.int (b01 (decide (s 7 = nI 2 ∧ wd = spl [nI 97, nI 116] 0))))) w n) := by
  obtain ⟨w, rfl⟩ := va_ex h90
  refine ab_metI cd_172 om_172 rfl (ab_sound ok_172 [] 80 ?_)
  (refine Exists.intro 0 ?_; refine ⟨0, _, Nat.zero_le _, Nat.zero_le _, c_Mod_spelt_isAt _ _, ?_⟩; refine ab_q1_elim ?_)
  (refine Exists.intro 0 ?_; refine ⟨0, _, Nat.zero_le _, Nat.zero_le _, c_Mod_isKey _ _ _ rfl, ?_⟩; refine ab_q1_elim ?_)
  cases (decide (s 7 = nI 2 ∧ wd = spl [nI 97, nI 116] 0))
  · exact ⟨rfl, rfl, rfl, rfl⟩
  · exact ⟨rfl, rfl, rfl, rfl⟩
end KEYS

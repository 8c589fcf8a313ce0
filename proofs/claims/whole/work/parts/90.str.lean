/-! the words of the class: length and letters -/
section STR
variable {X : ab_X} {l : Launch}
theorem c_Pre_checkIndex_0 (i m : Nat) (w : ab_W) (n : Nat) (hi : i < m) (hm : m < 100) : ab_C X l i_Pre_checkIndex [.int (nI i), .int (nI m), .null] w n 0 0 (ab_q1 (some (.int (nI i))) w n) := by
  refine ab_metI cd_258 om_258 rfl (ab_sound ok_258 [] 50 ?_)
  refine And.intro (fun h_9 => absurd h_9 (nI_pos (by omega))) (fun _ => ?_)
  refine And.intro (fun _ => ?_) (fun h_9 => absurd (nI_lt hi (by omega)) h_9)
  exact ⟨rfl, rfl, rfl⟩
theorem c_Pre_checkIndex_1 (i m : Nat) (w : ab_W) (n : Nat) (hi : i < m) (hm : m < 100) : ab_C X l i_Pre_checkIndex [.int (nI i), .int (nI m), .retAddr 3000] w n 0 0 (ab_q1 (some (.int (nI i))) w n) := by
  refine ab_metI cd_258 om_258 rfl (ab_sound ok_258 [] 50 ?_)
  refine And.intro (fun h_9 => absurd h_9 (nI_pos (by omega))) (fun _ => ?_)
  refine And.intro (fun _ => ?_) (fun h_9 => absurd (nI_lt hi (by omega)) h_9)
  exact ⟨rfl, rfl, rfl⟩
theorem c_Str_checkIndex (i m : Nat) (w : ab_W) (n : Nat) (hi : i < m) (hm : m < 100) : ab_C X l i_Str_checkIndex [.int (nI i), .int (nI m)] w n 0 0 (ab_q1 none w n) := by
  refine ab_metV cd_256 om_256 rfl rfl (ab_sound ok_256 [] 50 ?_)
  refine And.intro ?_ ?_
  · (refine Exists.intro 0 ?_; refine ⟨0, _, Nat.zero_le _, Nat.zero_le _, c_Pre_checkIndex_0 i m _ _ hi hm, ?_⟩; refine ab_q1_elim ?_)
    exact ⟨rfl, rfl, rfl⟩
  · (refine Exists.intro 0 ?_; refine ⟨0, _, Nat.zero_le _, Nat.zero_le _, c_Pre_checkIndex_1 i m _ _ hi hm, ?_⟩; refine ab_q1_elim ?_)
    exact ⟨rfl, rfl, rfl⟩
theorem c_Str_coder_0 (w : ab_W) (n : Nat) : ab_C X l i_Str_coder [.retAddr 0] w n 0 0 (ab_q1 (some (.int (nI 0))) w n) := by
  refine ab_metI cd_253 om_253 rfl (ab_sound ok_253 [] 50 ?_)
  refine And.intro (fun h_9 => absurd h_9 ((by decide))) (fun _ => ?_)
  exact ⟨rfl, rfl, rfl, rfl⟩
theorem c_Str_isLatin1_0 (w : ab_W) (n : Nat) : ab_C X l i_Str_isLatin1 [.retAddr 0] w n 0 0 (ab_q1 (some (.int (nI 1))) w n) := by
  refine ab_metI cd_255 om_255 rfl (ab_sound ok_255 [] 50 ?_)
  refine And.intro (fun h_9 => absurd h_9 ((by decide))) (fun _ => ?_)
  refine And.intro (fun h_9 => absurd (rfl) h_9) (fun _ => ?_)
  exact ⟨rfl, rfl, rfl, rfl⟩
theorem c_Str_length_0 (w : ab_W) (n : Nat) : ab_C X l i_Str_length [.retAddr 0] w n 0 0 (ab_q1 (some (.int (nI (ab_sln 0)))) w n) := by
  refine ab_metI cd_252 om_252 rfl (ab_sound ok_252 [] 50 ?_)
  (refine Exists.intro 0 ?_; refine ⟨0, _, Nat.zero_le _, Nat.zero_le _, c_Str_coder_0 _ _, ?_⟩; refine ab_q1_elim ?_)
  exact ⟨rfl, rfl, rfl⟩
theorem strN_0 : ∀ i, i < ab_sln 0 → narrow .char (.int (ab_sby 0 i)) = .int (ab_sby 0 i) := by decide +kernel
theorem strM_0 : ∀ i, i < ab_sln 0 → ((ab_sby 0 i &&& nI 255).toUInt32 % 65536).toInt32 = ab_sby 0 i := by decide +kernel
theorem c_Lat_charAt_0 (i : Nat) (w : ab_W) (n : Nat) (hi : i < ab_sln 0) : ab_C X l i_Lat_charAt [.retAddr 2000, .int (nI i)] w n 0 0 (ab_q1 (some (.int (ab_sby 0 i))) w n) := by
  have hs : ab_sln 0 < 100 := by decide
  refine ab_metI cd_257 om_257 rfl (ab_sound ok_257 [] 50 ?_)
  (refine Exists.intro 0 ?_; refine ⟨0, _, Nat.zero_le _, Nat.zero_le _, c_Str_checkIndex i (ab_sln 0) _ _ hi hs, ?_⟩; refine ab_q1_elim ?_)
  refine And.intro (vp_in_nI (show i < ab_sln (2000 - 2000) from hi) (show ab_sln 0 < 2 ^ 31 by omega)) ?_
  rw [nI_clamp (by omega)]
  have hM : ((ab_sby (2000 - 2000) i &&& nI 255).toUInt32 % 65536).toInt32 = ab_sby 0 i := strM_0 i hi
  exact ⟨by rw [hM]; exact strN_0 i hi, by rw [hM], rfl, rfl⟩
theorem c_Str_charAt_0 (i : Nat) (w : ab_W) (n : Nat) (hi : i < ab_sln 0) : ab_C X l i_Str_charAt [.retAddr 0, .int (nI i)] w n 0 0 (ab_q1 (some (.int (ab_sby 0 i))) w n) := by
  refine ab_metI cd_254 om_254 rfl (ab_sound ok_254 [] 50 ?_)
  (refine Exists.intro 0 ?_; refine ⟨0, _, Nat.zero_le _, Nat.zero_le _, c_Str_isLatin1_0 _ _, ?_⟩; refine ab_q1_elim ?_)
  refine And.intro (fun h_9 => absurd h_9 ((by decide))) (fun _ => ?_)
  (refine Exists.intro 0 ?_; refine ⟨0, _, Nat.zero_le _, Nat.zero_le _, c_Lat_charAt_0 i _ _ hi, ?_⟩; refine ab_q1_elim ?_)
  exact ⟨strN_0 i hi, rfl, rfl, rfl⟩
theorem c_Str_coder_1 (w : ab_W) (n : Nat) : ab_C X l i_Str_coder [.retAddr 1] w n 0 0 (ab_q1 (some (.int (nI 0))) w n) := by
  refine ab_metI cd_253 om_253 rfl (ab_sound ok_253 [] 50 ?_)
  refine And.intro (fun h_9 => absurd h_9 ((by decide))) (fun _ => ?_)
  exact ⟨rfl, rfl, rfl, rfl⟩
theorem c_Str_isLatin1_1 (w : ab_W) (n : Nat) : ab_C X l i_Str_isLatin1 [.retAddr 1] w n 0 0 (ab_q1 (some (.int (nI 1))) w n) := by
  refine ab_metI cd_255 om_255 rfl (ab_sound ok_255 [] 50 ?_)
  refine And.intro (fun h_9 => absurd h_9 ((by decide))) (fun _ => ?_)
  refine And.intro (fun h_9 => absurd (rfl) h_9) (fun _ => ?_)
  exact ⟨rfl, rfl, rfl, rfl⟩
theorem c_Str_length_1 (w : ab_W) (n : Nat) : ab_C X l i_Str_length [.retAddr 1] w n 0 0 (ab_q1 (some (.int (nI (ab_sln 1)))) w n) := by
  refine ab_metI cd_252 om_252 rfl (ab_sound ok_252 [] 50 ?_)
  (refine Exists.intro 0 ?_; refine ⟨0, _, Nat.zero_le _, Nat.zero_le _, c_Str_coder_1 _ _, ?_⟩; refine ab_q1_elim ?_)
  exact ⟨rfl, rfl, rfl⟩
theorem strN_1 : ∀ i, i < ab_sln 1 → narrow .char (.int (ab_sby 1 i)) = .int (ab_sby 1 i) := by decide +kernel
theorem strM_1 : ∀ i, i < ab_sln 1 → ((ab_sby 1 i &&& nI 255).toUInt32 % 65536).toInt32 = ab_sby 1 i := by decide +kernel
theorem c_Lat_charAt_1 (i : Nat) (w : ab_W) (n : Nat) (hi : i < ab_sln 1) : ab_C X l i_Lat_charAt [.retAddr 2001, .int (nI i)] w n 0 0 (ab_q1 (some (.int (ab_sby 1 i))) w n) := by
  have hs : ab_sln 1 < 100 := by decide
  refine ab_metI cd_257 om_257 rfl (ab_sound ok_257 [] 50 ?_)
  (refine Exists.intro 0 ?_; refine ⟨0, _, Nat.zero_le _, Nat.zero_le _, c_Str_checkIndex i (ab_sln 1) _ _ hi hs, ?_⟩; refine ab_q1_elim ?_)
  refine And.intro (vp_in_nI (show i < ab_sln (2001 - 2000) from hi) (show ab_sln 1 < 2 ^ 31 by omega)) ?_
  rw [nI_clamp (by omega)]
  have hM : ((ab_sby (2001 - 2000) i &&& nI 255).toUInt32 % 65536).toInt32 = ab_sby 1 i := strM_1 i hi
  exact ⟨by rw [hM]; exact strN_1 i hi, by rw [hM], rfl, rfl⟩
theorem c_Str_charAt_1 (i : Nat) (w : ab_W) (n : Nat) (hi : i < ab_sln 1) : ab_C X l i_Str_charAt [.retAddr 1, .int (nI i)] w n 0 0 (ab_q1 (some (.int (ab_sby 1 i))) w n) := by
  refine ab_metI cd_254 om_254 rfl (ab_sound ok_254 [] 50 ?_)
  (refine Exists.intro 0 ?_; refine ⟨0, _, Nat.zero_le _, Nat.zero_le _, c_Str_isLatin1_1 _ _, ?_⟩; refine ab_q1_elim ?_)
  refine And.intro (fun h_9 => absurd h_9 ((by decide))) (fun _ => ?_)
  (refine Exists.intro 0 ?_; refine ⟨0, _, Nat.zero_le _, Nat.zero_le _, c_Lat_charAt_1 i _ _ hi, ?_⟩; refine ab_q1_elim ?_)
  exact ⟨strN_1 i hi, rfl, rfl, rfl⟩
theorem c_Str_coder_2 (w : ab_W) (n : Nat) : ab_C X l i_Str_coder [.retAddr 2] w n 0 0 (ab_q1 (some (.int (nI 0))) w n) := by
  refine ab_metI cd_253 om_253 rfl (ab_sound ok_253 [] 50 ?_)
  refine And.intro (fun h_9 => absurd h_9 ((by decide))) (fun _ => ?_)
  exact ⟨rfl, rfl, rfl, rfl⟩
theorem c_Str_isLatin1_2 (w : ab_W) (n : Nat) : ab_C X l i_Str_isLatin1 [.retAddr 2] w n 0 0 (ab_q1 (some (.int (nI 1))) w n) := by
  refine ab_metI cd_255 om_255 rfl (ab_sound ok_255 [] 50 ?_)
  refine And.intro (fun h_9 => absurd h_9 ((by decide))) (fun _ => ?_)
  refine And.intro (fun h_9 => absurd (rfl) h_9) (fun _ => ?_)
  exact ⟨rfl, rfl, rfl, rfl⟩
theorem c_Str_length_2 (w : ab_W) (n : Nat) : ab_C X l i_Str_length [.retAddr 2] w n 0 0 (ab_q1 (some (.int (nI (ab_sln 2)))) w n) := by
  refine ab_metI cd_252 om_252 rfl (ab_sound ok_252 [] 50 ?_)
  (refine Exists.intro 0 ?_; refine ⟨0, _, Nat.zero_le _, Nat.zero_le _, c_Str_coder_2 _ _, ?_⟩; refine ab_q1_elim ?_)
  exact ⟨rfl, rfl, rfl⟩
theorem strN_2 : ∀ i, i < ab_sln 2 → narrow .char (.int (ab_sby 2 i)) = .int (ab_sby 2 i) := by decide +kernel
theorem strM_2 : ∀ i, i < ab_sln 2 → ((ab_sby 2 i &&& nI 255).toUInt32 % 65536).toInt32 = ab_sby 2 i := by decide +kernel
theorem c_Lat_charAt_2 (i : Nat) (w : ab_W) (n : Nat) (hi : i < ab_sln 2) : ab_C X l i_Lat_charAt [.retAddr 2002, .int (nI i)] w n 0 0 (ab_q1 (some (.int (ab_sby 2 i))) w n) := by
  have hs : ab_sln 2 < 100 := by decide
  refine ab_metI cd_257 om_257 rfl (ab_sound ok_257 [] 50 ?_)
  (refine Exists.intro 0 ?_; refine ⟨0, _, Nat.zero_le _, Nat.zero_le _, c_Str_checkIndex i (ab_sln 2) _ _ hi hs, ?_⟩; refine ab_q1_elim ?_)
  refine And.intro (vp_in_nI (show i < ab_sln (2002 - 2000) from hi) (show ab_sln 2 < 2 ^ 31 by omega)) ?_
  rw [nI_clamp (by omega)]
  have hM : ((ab_sby (2002 - 2000) i &&& nI 255).toUInt32 % 65536).toInt32 = ab_sby 2 i := strM_2 i hi
  exact ⟨by rw [hM]; exact strN_2 i hi, by rw [hM], rfl, rfl⟩
theorem c_Str_charAt_2 (i : Nat) (w : ab_W) (n : Nat) (hi : i < ab_sln 2) : ab_C X l i_Str_charAt [.retAddr 2, .int (nI i)] w n 0 0 (ab_q1 (some (.int (ab_sby 2 i))) w n) := by
  refine ab_metI cd_254 om_254 rfl (ab_sound ok_254 [] 50 ?_)
  (refine Exists.intro 0 ?_; refine ⟨0, _, Nat.zero_le _, Nat.zero_le _, c_Str_isLatin1_2 _ _, ?_⟩; refine ab_q1_elim ?_)
  refine And.intro (fun h_9 => absurd h_9 ((by decide))) (fun _ => ?_)
  (refine Exists.intro 0 ?_; refine ⟨0, _, Nat.zero_le _, Nat.zero_le _, c_Lat_charAt_2 i _ _ hi, ?_⟩; refine ab_q1_elim ?_)
  exact ⟨strN_2 i hi, rfl, rfl, rfl⟩
theorem c_Str_coder_3 (w : ab_W) (n : Nat) : ab_C X l i_Str_coder [.retAddr 3] w n 0 0 (ab_q1 (some (.int (nI 0))) w n) := by
  refine ab_metI cd_253 om_253 rfl (ab_sound ok_253 [] 50 ?_)
  refine And.intro (fun h_9 => absurd h_9 ((by decide))) (fun _ => ?_)
  exact ⟨rfl, rfl, rfl, rfl⟩
theorem c_Str_isLatin1_3 (w : ab_W) (n : Nat) : ab_C X l i_Str_isLatin1 [.retAddr 3] w n 0 0 (ab_q1 (some (.int (nI 1))) w n) := by
  refine ab_metI cd_255 om_255 rfl (ab_sound ok_255 [] 50 ?_)
  refine And.intro (fun h_9 => absurd h_9 ((by decide))) (fun _ => ?_)
  refine And.intro (fun h_9 => absurd (rfl) h_9) (fun _ => ?_)
  exact ⟨rfl, rfl, rfl, rfl⟩
theorem c_Str_length_3 (w : ab_W) (n : Nat) : ab_C X l i_Str_length [.retAddr 3] w n 0 0 (ab_q1 (some (.int (nI (ab_sln 3)))) w n) := by
  refine ab_metI cd_252 om_252 rfl (ab_sound ok_252 [] 50 ?_)
  (refine Exists.intro 0 ?_; refine ⟨0, _, Nat.zero_le _, Nat.zero_le _, c_Str_coder_3 _ _, ?_⟩; refine ab_q1_elim ?_)
  exact ⟨rfl, rfl, rfl⟩
theorem strN_3 : ∀ i, i < ab_sln 3 → narrow .char (.int (ab_sby 3 i)) = .int (ab_sby 3 i) := by decide +kernel
theorem strM_3 : ∀ i, i < ab_sln 3 → ((ab_sby 3 i &&& nI 255).toUInt32 % 65536).toInt32 = ab_sby 3 i := by decide +kernel
theorem c_Lat_charAt_3 (i : Nat) (w : ab_W) (n : Nat) (hi : i < ab_sln 3) : ab_C X l i_Lat_charAt [.retAddr 2003, .int (nI i)] w n 0 0 (ab_q1 (some (.int (ab_sby 3 i))) w n) := by
  have hs : ab_sln 3 < 100 := by decide
  refine ab_metI cd_257 om_257 rfl (ab_sound ok_257 [] 50 ?_)
  (refine Exists.intro 0 ?_; refine ⟨0, _, Nat.zero_le _, Nat.zero_le _, c_Str_checkIndex i (ab_sln 3) _ _ hi hs, ?_⟩; refine ab_q1_elim ?_)
  refine And.intro (vp_in_nI (show i < ab_sln (2003 - 2000) from hi) (show ab_sln 3 < 2 ^ 31 by omega)) ?_
  rw [nI_clamp (by omega)]
  have hM : ((ab_sby (2003 - 2000) i &&& nI 255).toUInt32 % 65536).toInt32 = ab_sby 3 i := strM_3 i hi
  exact ⟨by rw [hM]; exact strN_3 i hi, by rw [hM], rfl, rfl⟩
theorem c_Str_charAt_3 (i : Nat) (w : ab_W) (n : Nat) (hi : i < ab_sln 3) : ab_C X l i_Str_charAt [.retAddr 3, .int (nI i)] w n 0 0 (ab_q1 (some (.int (ab_sby 3 i))) w n) := by
  refine ab_metI cd_254 om_254 rfl (ab_sound ok_254 [] 50 ?_)
  (refine Exists.intro 0 ?_; refine ⟨0, _, Nat.zero_le _, Nat.zero_le _, c_Str_isLatin1_3 _ _, ?_⟩; refine ab_q1_elim ?_)
  refine And.intro (fun h_9 => absurd h_9 ((by decide))) (fun _ => ?_)
  (refine Exists.intro 0 ?_; refine ⟨0, _, Nat.zero_le _, Nat.zero_le _, c_Lat_charAt_3 i _ _ hi, ?_⟩; refine ab_q1_elim ?_)
  exact ⟨strN_3 i hi, rfl, rfl, rfl⟩
theorem c_Str_coder_4 (w : ab_W) (n : Nat) : ab_C X l i_Str_coder [.retAddr 4] w n 0 0 (ab_q1 (some (.int (nI 0))) w n) := by
  refine ab_metI cd_253 om_253 rfl (ab_sound ok_253 [] 50 ?_)
  refine And.intro (fun h_9 => absurd h_9 ((by decide))) (fun _ => ?_)
  exact ⟨rfl, rfl, rfl, rfl⟩
theorem c_Str_isLatin1_4 (w : ab_W) (n : Nat) : ab_C X l i_Str_isLatin1 [.retAddr 4] w n 0 0 (ab_q1 (some (.int (nI 1))) w n) := by
  refine ab_metI cd_255 om_255 rfl (ab_sound ok_255 [] 50 ?_)
  refine And.intro (fun h_9 => absurd h_9 ((by decide))) (fun _ => ?_)
  refine And.intro (fun h_9 => absurd (rfl) h_9) (fun _ => ?_)
  exact ⟨rfl, rfl, rfl, rfl⟩
theorem c_Str_length_4 (w : ab_W) (n : Nat) : ab_C X l i_Str_length [.retAddr 4] w n 0 0 (ab_q1 (some (.int (nI (ab_sln 4)))) w n) := by
  refine ab_metI cd_252 om_252 rfl (ab_sound ok_252 [] 50 ?_)
  (refine Exists.intro 0 ?_; refine ⟨0, _, Nat.zero_le _, Nat.zero_le _, c_Str_coder_4 _ _, ?_⟩; refine ab_q1_elim ?_)
  exact ⟨rfl, rfl, rfl⟩
theorem strN_4 : ∀ i, i < ab_sln 4 → narrow .char (.int (ab_sby 4 i)) = .int (ab_sby 4 i) := by decide +kernel
theorem strM_4 : ∀ i, i < ab_sln 4 → ((ab_sby 4 i &&& nI 255).toUInt32 % 65536).toInt32 = ab_sby 4 i := by decide +kernel
theorem c_Lat_charAt_4 (i : Nat) (w : ab_W) (n : Nat) (hi : i < ab_sln 4) : ab_C X l i_Lat_charAt [.retAddr 2004, .int (nI i)] w n 0 0 (ab_q1 (some (.int (ab_sby 4 i))) w n) := by
  have hs : ab_sln 4 < 100 := by decide
  refine ab_metI cd_257 om_257 rfl (ab_sound ok_257 [] 50 ?_)
  (refine Exists.intro 0 ?_; refine ⟨0, _, Nat.zero_le _, Nat.zero_le _, c_Str_checkIndex i (ab_sln 4) _ _ hi hs, ?_⟩; refine ab_q1_elim ?_)
  refine And.intro (vp_in_nI (show i < ab_sln (2004 - 2000) from hi) (show ab_sln 4 < 2 ^ 31 by omega)) ?_
  rw [nI_clamp (by omega)]
  have hM : ((ab_sby (2004 - 2000) i &&& nI 255).toUInt32 % 65536).toInt32 = ab_sby 4 i := strM_4 i hi
  exact ⟨by rw [hM]; exact strN_4 i hi, by rw [hM], rfl, rfl⟩
theorem c_Str_charAt_4 (i : Nat) (w : ab_W) (n : Nat) (hi : i < ab_sln 4) : ab_C X l i_Str_charAt [.retAddr 4, .int (nI i)] w n 0 0 (ab_q1 (some (.int (ab_sby 4 i))) w n) := by
  refine ab_metI cd_254 om_254 rfl (ab_sound ok_254 [] 50 ?_)
  (refine Exists.intro 0 ?_; refine ⟨0, _, Nat.zero_le _, Nat.zero_le _, c_Str_isLatin1_4 _ _, ?_⟩; refine ab_q1_elim ?_)
  refine And.intro (fun h_9 => absurd h_9 ((by decide))) (fun _ => ?_)
  (refine Exists.intro 0 ?_; refine ⟨0, _, Nat.zero_le _, Nat.zero_le _, c_Lat_charAt_4 i _ _ hi, ?_⟩; refine ab_q1_elim ?_)
  exact ⟨strN_4 i hi, rfl, rfl, rfl⟩
theorem c_Str_coder_5 (w : ab_W) (n : Nat) : ab_C X l i_Str_coder [.retAddr 5] w n 0 0 (ab_q1 (some (.int (nI 0))) w n) := by
  refine ab_metI cd_253 om_253 rfl (ab_sound ok_253 [] 50 ?_)
  refine And.intro (fun h_9 => absurd h_9 ((by decide))) (fun _ => ?_)
  exact ⟨rfl, rfl, rfl, rfl⟩
theorem c_Str_isLatin1_5 (w : ab_W) (n : Nat) : ab_C X l i_Str_isLatin1 [.retAddr 5] w n 0 0 (ab_q1 (some (.int (nI 1))) w n) := by
  refine ab_metI cd_255 om_255 rfl (ab_sound ok_255 [] 50 ?_)
  refine And.intro (fun h_9 => absurd h_9 ((by decide))) (fun _ => ?_)
  refine And.intro (fun h_9 => absurd (rfl) h_9) (fun _ => ?_)
  exact ⟨rfl, rfl, rfl, rfl⟩
theorem c_Str_length_5 (w : ab_W) (n : Nat) : ab_C X l i_Str_length [.retAddr 5] w n 0 0 (ab_q1 (some (.int (nI (ab_sln 5)))) w n) := by
  refine ab_metI cd_252 om_252 rfl (ab_sound ok_252 [] 50 ?_)
  (refine Exists.intro 0 ?_; refine ⟨0, _, Nat.zero_le _, Nat.zero_le _, c_Str_coder_5 _ _, ?_⟩; refine ab_q1_elim ?_)
  exact ⟨rfl, rfl, rfl⟩
theorem strN_5 : ∀ i, i < ab_sln 5 → narrow .char (.int (ab_sby 5 i)) = .int (ab_sby 5 i) := by decide +kernel
theorem strM_5 : ∀ i, i < ab_sln 5 → ((ab_sby 5 i &&& nI 255).toUInt32 % 65536).toInt32 = ab_sby 5 i := by decide +kernel
theorem c_Lat_charAt_5 (i : Nat) (w : ab_W) (n : Nat) (hi : i < ab_sln 5) : ab_C X l i_Lat_charAt [.retAddr 2005, .int (nI i)] w n 0 0 (ab_q1 (some (.int (ab_sby 5 i))) w n) := by
  have hs : ab_sln 5 < 100 := by decide
  refine ab_metI cd_257 om_257 rfl (ab_sound ok_257 [] 50 ?_)
  (refine Exists.intro 0 ?_; refine ⟨0, _, Nat.zero_le _, Nat.zero_le _, c_Str_checkIndex i (ab_sln 5) _ _ hi hs, ?_⟩; refine ab_q1_elim ?_)
  refine And.intro (vp_in_nI (show i < ab_sln (2005 - 2000) from hi) (show ab_sln 5 < 2 ^ 31 by omega)) ?_
  rw [nI_clamp (by omega)]
  have hM : ((ab_sby (2005 - 2000) i &&& nI 255).toUInt32 % 65536).toInt32 = ab_sby 5 i := strM_5 i hi
  exact ⟨by rw [hM]; exact strN_5 i hi, by rw [hM], rfl, rfl⟩
theorem c_Str_charAt_5 (i : Nat) (w : ab_W) (n : Nat) (hi : i < ab_sln 5) : ab_C X l i_Str_charAt [.retAddr 5, .int (nI i)] w n 0 0 (ab_q1 (some (.int (ab_sby 5 i))) w n) := by
  refine ab_metI cd_254 om_254 rfl (ab_sound ok_254 [] 50 ?_)
  (refine Exists.intro 0 ?_; refine ⟨0, _, Nat.zero_le _, Nat.zero_le _, c_Str_isLatin1_5 _ _, ?_⟩; refine ab_q1_elim ?_)
  refine And.intro (fun h_9 => absurd h_9 ((by decide))) (fun _ => ?_)
  (refine Exists.intro 0 ?_; refine ⟨0, _, Nat.zero_le _, Nat.zero_le _, c_Lat_charAt_5 i _ _ hi, ?_⟩; refine ab_q1_elim ?_)
  exact ⟨strN_5 i hi, rfl, rfl, rfl⟩
theorem c_Str_coder_6 (w : ab_W) (n : Nat) : ab_C X l i_Str_coder [.retAddr 6] w n 0 0 (ab_q1 (some (.int (nI 0))) w n) := by
  refine ab_metI cd_253 om_253 rfl (ab_sound ok_253 [] 50 ?_)
  refine And.intro (fun h_9 => absurd h_9 ((by decide))) (fun _ => ?_)
  exact ⟨rfl, rfl, rfl, rfl⟩
theorem c_Str_isLatin1_6 (w : ab_W) (n : Nat) : ab_C X l i_Str_isLatin1 [.retAddr 6] w n 0 0 (ab_q1 (some (.int (nI 1))) w n) := by
  refine ab_metI cd_255 om_255 rfl (ab_sound ok_255 [] 50 ?_)
  refine And.intro (fun h_9 => absurd h_9 ((by decide))) (fun _ => ?_)
  refine And.intro (fun h_9 => absurd (rfl) h_9) (fun _ => ?_)
  exact ⟨rfl, rfl, rfl, rfl⟩
theorem c_Str_length_6 (w : ab_W) (n : Nat) : ab_C X l i_Str_length [.retAddr 6] w n 0 0 (ab_q1 (some (.int (nI (ab_sln 6)))) w n) := by
  refine ab_metI cd_252 om_252 rfl (ab_sound ok_252 [] 50 ?_)
  (refine Exists.intro 0 ?_; refine ⟨0, _, Nat.zero_le _, Nat.zero_le _, c_Str_coder_6 _ _, ?_⟩; refine ab_q1_elim ?_)
  exact ⟨rfl, rfl, rfl⟩
theorem strN_6 : ∀ i, i < ab_sln 6 → narrow .char (.int (ab_sby 6 i)) = .int (ab_sby 6 i) := by decide +kernel
theorem strM_6 : ∀ i, i < ab_sln 6 → ((ab_sby 6 i &&& nI 255).toUInt32 % 65536).toInt32 = ab_sby 6 i := by decide +kernel
theorem c_Lat_charAt_6 (i : Nat) (w : ab_W) (n : Nat) (hi : i < ab_sln 6) : ab_C X l i_Lat_charAt [.retAddr 2006, .int (nI i)] w n 0 0 (ab_q1 (some (.int (ab_sby 6 i))) w n) := by
  have hs : ab_sln 6 < 100 := by decide
  refine ab_metI cd_257 om_257 rfl (ab_sound ok_257 [] 50 ?_)
  (refine Exists.intro 0 ?_; refine ⟨0, _, Nat.zero_le _, Nat.zero_le _, c_Str_checkIndex i (ab_sln 6) _ _ hi hs, ?_⟩; refine ab_q1_elim ?_)
  refine And.intro (vp_in_nI (show i < ab_sln (2006 - 2000) from hi) (show ab_sln 6 < 2 ^ 31 by omega)) ?_
  rw [nI_clamp (by omega)]
  have hM : ((ab_sby (2006 - 2000) i &&& nI 255).toUInt32 % 65536).toInt32 = ab_sby 6 i := strM_6 i hi
  exact ⟨by rw [hM]; exact strN_6 i hi, by rw [hM], rfl, rfl⟩
theorem c_Str_charAt_6 (i : Nat) (w : ab_W) (n : Nat) (hi : i < ab_sln 6) : ab_C X l i_Str_charAt [.retAddr 6, .int (nI i)] w n 0 0 (ab_q1 (some (.int (ab_sby 6 i))) w n) := by
  refine ab_metI cd_254 om_254 rfl (ab_sound ok_254 [] 50 ?_)
  (refine Exists.intro 0 ?_; refine ⟨0, _, Nat.zero_le _, Nat.zero_le _, c_Str_isLatin1_6 _ _, ?_⟩; refine ab_q1_elim ?_)
  refine And.intro (fun h_9 => absurd h_9 ((by decide))) (fun _ => ?_)
  (refine Exists.intro 0 ?_; refine ⟨0, _, Nat.zero_le _, Nat.zero_le _, c_Lat_charAt_6 i _ _ hi, ?_⟩; refine ab_q1_elim ?_)
  exact ⟨strN_6 i hi, rfl, rfl, rfl⟩
theorem c_Str_coder_7 (w : ab_W) (n : Nat) : ab_C X l i_Str_coder [.retAddr 7] w n 0 0 (ab_q1 (some (.int (nI 0))) w n) := by
  refine ab_metI cd_253 om_253 rfl (ab_sound ok_253 [] 50 ?_)
  refine And.intro (fun h_9 => absurd h_9 ((by decide))) (fun _ => ?_)
  exact ⟨rfl, rfl, rfl, rfl⟩
theorem c_Str_isLatin1_7 (w : ab_W) (n : Nat) : ab_C X l i_Str_isLatin1 [.retAddr 7] w n 0 0 (ab_q1 (some (.int (nI 1))) w n) := by
  refine ab_metI cd_255 om_255 rfl (ab_sound ok_255 [] 50 ?_)
  refine And.intro (fun h_9 => absurd h_9 ((by decide))) (fun _ => ?_)
  refine And.intro (fun h_9 => absurd (rfl) h_9) (fun _ => ?_)
  exact ⟨rfl, rfl, rfl, rfl⟩
theorem c_Str_length_7 (w : ab_W) (n : Nat) : ab_C X l i_Str_length [.retAddr 7] w n 0 0 (ab_q1 (some (.int (nI (ab_sln 7)))) w n) := by
  refine ab_metI cd_252 om_252 rfl (ab_sound ok_252 [] 50 ?_)
  (refine Exists.intro 0 ?_; refine ⟨0, _, Nat.zero_le _, Nat.zero_le _, c_Str_coder_7 _ _, ?_⟩; refine ab_q1_elim ?_)
  exact ⟨rfl, rfl, rfl⟩
theorem strN_7 : ∀ i, i < ab_sln 7 → narrow .char (.int (ab_sby 7 i)) = .int (ab_sby 7 i) := by decide +kernel
theorem strM_7 : ∀ i, i < ab_sln 7 → ((ab_sby 7 i &&& nI 255).toUInt32 % 65536).toInt32 = ab_sby 7 i := by decide +kernel
theorem c_Lat_charAt_7 (i : Nat) (w : ab_W) (n : Nat) (hi : i < ab_sln 7) : ab_C X l i_Lat_charAt [.retAddr 2007, .int (nI i)] w n 0 0 (ab_q1 (some (.int (ab_sby 7 i))) w n) := by
  have hs : ab_sln 7 < 100 := by decide
  refine ab_metI cd_257 om_257 rfl (ab_sound ok_257 [] 50 ?_)
  (refine Exists.intro 0 ?_; refine ⟨0, _, Nat.zero_le _, Nat.zero_le _, c_Str_checkIndex i (ab_sln 7) _ _ hi hs, ?_⟩; refine ab_q1_elim ?_)
  refine And.intro (vp_in_nI (show i < ab_sln (2007 - 2000) from hi) (show ab_sln 7 < 2 ^ 31 by omega)) ?_
  rw [nI_clamp (by omega)]
  have hM : ((ab_sby (2007 - 2000) i &&& nI 255).toUInt32 % 65536).toInt32 = ab_sby 7 i := strM_7 i hi
  exact ⟨by rw [hM]; exact strN_7 i hi, by rw [hM], rfl, rfl⟩
theorem c_Str_charAt_7 (i : Nat) (w : ab_W) (n : Nat) (hi : i < ab_sln 7) : ab_C X l i_Str_charAt [.retAddr 7, .int (nI i)] w n 0 0 (ab_q1 (some (.int (ab_sby 7 i))) w n) := by
  refine ab_metI cd_254 om_254 rfl (ab_sound ok_254 [] 50 ?_)
  (refine Exists.intro 0 ?_; refine ⟨0, _, Nat.zero_le _, Nat.zero_le _, c_Str_isLatin1_7 _ _, ?_⟩; refine ab_q1_elim ?_)
  refine And.intro (fun h_9 => absurd h_9 ((by decide))) (fun _ => ?_)
  (refine Exists.intro 0 ?_; refine ⟨0, _, Nat.zero_le _, Nat.zero_le _, c_Lat_charAt_7 i _ _ hi, ?_⟩; refine ab_q1_elim ?_)
  exact ⟨strN_7 i hi, rfl, rfl, rfl⟩
theorem c_Str_coder_8 (w : ab_W) (n : Nat) : ab_C X l i_Str_coder [.retAddr 8] w n 0 0 (ab_q1 (some (.int (nI 0))) w n) := by
  refine ab_metI cd_253 om_253 rfl (ab_sound ok_253 [] 50 ?_)
  refine And.intro (fun h_9 => absurd h_9 ((by decide))) (fun _ => ?_)
  exact ⟨rfl, rfl, rfl, rfl⟩
theorem c_Str_isLatin1_8 (w : ab_W) (n : Nat) : ab_C X l i_Str_isLatin1 [.retAddr 8] w n 0 0 (ab_q1 (some (.int (nI 1))) w n) := by
  refine ab_metI cd_255 om_255 rfl (ab_sound ok_255 [] 50 ?_)
  refine And.intro (fun h_9 => absurd h_9 ((by decide))) (fun _ => ?_)
  refine And.intro (fun h_9 => absurd (rfl) h_9) (fun _ => ?_)
  exact ⟨rfl, rfl, rfl, rfl⟩
theorem c_Str_length_8 (w : ab_W) (n : Nat) : ab_C X l i_Str_length [.retAddr 8] w n 0 0 (ab_q1 (some (.int (nI (ab_sln 8)))) w n) := by
  refine ab_metI cd_252 om_252 rfl (ab_sound ok_252 [] 50 ?_)
  (refine Exists.intro 0 ?_; refine ⟨0, _, Nat.zero_le _, Nat.zero_le _, c_Str_coder_8 _ _, ?_⟩; refine ab_q1_elim ?_)
  exact ⟨rfl, rfl, rfl⟩
theorem strN_8 : ∀ i, i < ab_sln 8 → narrow .char (.int (ab_sby 8 i)) = .int (ab_sby 8 i) := by decide +kernel
theorem strM_8 : ∀ i, i < ab_sln 8 → ((ab_sby 8 i &&& nI 255).toUInt32 % 65536).toInt32 = ab_sby 8 i := by decide +kernel
theorem c_Lat_charAt_8 (i : Nat) (w : ab_W) (n : Nat) (hi : i < ab_sln 8) : ab_C X l i_Lat_charAt [.retAddr 2008, .int (nI i)] w n 0 0 (ab_q1 (some (.int (ab_sby 8 i))) w n) := by
  have hs : ab_sln 8 < 100 := by decide
  refine ab_metI cd_257 om_257 rfl (ab_sound ok_257 [] 50 ?_)
  (refine Exists.intro 0 ?_; refine ⟨0, _, Nat.zero_le _, Nat.zero_le _, c_Str_checkIndex i (ab_sln 8) _ _ hi hs, ?_⟩; refine ab_q1_elim ?_)
  refine And.intro (vp_in_nI (show i < ab_sln (2008 - 2000) from hi) (show ab_sln 8 < 2 ^ 31 by omega)) ?_
  rw [nI_clamp (by omega)]
  have hM : ((ab_sby (2008 - 2000) i &&& nI 255).toUInt32 % 65536).toInt32 = ab_sby 8 i := strM_8 i hi
  exact ⟨by rw [hM]; exact strN_8 i hi, by rw [hM], rfl, rfl⟩
theorem c_Str_charAt_8 (i : Nat) (w : ab_W) (n : Nat) (hi : i < ab_sln 8) : ab_C X l i_Str_charAt [.retAddr 8, .int (nI i)] w n 0 0 (ab_q1 (some (.int (ab_sby 8 i))) w n) := by
  refine ab_metI cd_254 om_254 rfl (ab_sound ok_254 [] 50 ?_)
  (refine Exists.intro 0 ?_; refine ⟨0, _, Nat.zero_le _, Nat.zero_le _, c_Str_isLatin1_8 _ _, ?_⟩; refine ab_q1_elim ?_)
  refine And.intro (fun h_9 => absurd h_9 ((by decide))) (fun _ => ?_)
  (refine Exists.intro 0 ?_; refine ⟨0, _, Nat.zero_le _, Nat.zero_le _, c_Lat_charAt_8 i _ _ hi, ?_⟩; refine ab_q1_elim ?_)
  exact ⟨strN_8 i hi, rfl, rfl, rfl⟩
theorem c_Str_coder_9 (w : ab_W) (n : Nat) : ab_C X l i_Str_coder [.retAddr 9] w n 0 0 (ab_q1 (some (.int (nI 0))) w n) := by
  refine ab_metI cd_253 om_253 rfl (ab_sound ok_253 [] 50 ?_)
  refine And.intro (fun h_9 => absurd h_9 ((by decide))) (fun _ => ?_)
  exact ⟨rfl, rfl, rfl, rfl⟩
theorem c_Str_isLatin1_9 (w : ab_W) (n : Nat) : ab_C X l i_Str_isLatin1 [.retAddr 9] w n 0 0 (ab_q1 (some (.int (nI 1))) w n) := by
  refine ab_metI cd_255 om_255 rfl (ab_sound ok_255 [] 50 ?_)
  refine And.intro (fun h_9 => absurd h_9 ((by decide))) (fun _ => ?_)
  refine And.intro (fun h_9 => absurd (rfl) h_9) (fun _ => ?_)
  exact ⟨rfl, rfl, rfl, rfl⟩
theorem c_Str_length_9 (w : ab_W) (n : Nat) : ab_C X l i_Str_length [.retAddr 9] w n 0 0 (ab_q1 (some (.int (nI (ab_sln 9)))) w n) := by
  refine ab_metI cd_252 om_252 rfl (ab_sound ok_252 [] 50 ?_)
  (refine Exists.intro 0 ?_; refine ⟨0, _, Nat.zero_le _, Nat.zero_le _, c_Str_coder_9 _ _, ?_⟩; refine ab_q1_elim ?_)
  exact ⟨rfl, rfl, rfl⟩
theorem strN_9 : ∀ i, i < ab_sln 9 → narrow .char (.int (ab_sby 9 i)) = .int (ab_sby 9 i) := by decide +kernel
theorem strM_9 : ∀ i, i < ab_sln 9 → ((ab_sby 9 i &&& nI 255).toUInt32 % 65536).toInt32 = ab_sby 9 i := by decide +kernel
theorem c_Lat_charAt_9 (i : Nat) (w : ab_W) (n : Nat) (hi : i < ab_sln 9) : ab_C X l i_Lat_charAt [.retAddr 2009, .int (nI i)] w n 0 0 (ab_q1 (some (.int (ab_sby 9 i))) w n) := by
  have hs : ab_sln 9 < 100 := by decide
  refine ab_metI cd_257 om_257 rfl (ab_sound ok_257 [] 50 ?_)
  (refine Exists.intro 0 ?_; refine ⟨0, _, Nat.zero_le _, Nat.zero_le _, c_Str_checkIndex i (ab_sln 9) _ _ hi hs, ?_⟩; refine ab_q1_elim ?_)
  refine And.intro (vp_in_nI (show i < ab_sln (2009 - 2000) from hi) (show ab_sln 9 < 2 ^ 31 by omega)) ?_
  rw [nI_clamp (by omega)]
  have hM : ((ab_sby (2009 - 2000) i &&& nI 255).toUInt32 % 65536).toInt32 = ab_sby 9 i := strM_9 i hi
  exact ⟨by rw [hM]; exact strN_9 i hi, by rw [hM], rfl, rfl⟩
theorem c_Str_charAt_9 (i : Nat) (w : ab_W) (n : Nat) (hi : i < ab_sln 9) : ab_C X l i_Str_charAt [.retAddr 9, .int (nI i)] w n 0 0 (ab_q1 (some (.int (ab_sby 9 i))) w n) := by
  refine ab_metI cd_254 om_254 rfl (ab_sound ok_254 [] 50 ?_)
  (refine Exists.intro 0 ?_; refine ⟨0, _, Nat.zero_le _, Nat.zero_le _, c_Str_isLatin1_9 _ _, ?_⟩; refine ab_q1_elim ?_)
  refine And.intro (fun h_9 => absurd h_9 ((by decide))) (fun _ => ?_)
  (refine Exists.intro 0 ?_; refine ⟨0, _, Nat.zero_le _, Nat.zero_le _, c_Lat_charAt_9 i _ _ hi, ?_⟩; refine ab_q1_elim ?_)
  exact ⟨strN_9 i hi, rfl, rfl, rfl⟩
def leB (c : Int32) : Bool := decide (nI 97 ≤ c ∧ c ≤ nI 122)
def diB (c : Int32) : Bool := decide (nI 48 ≤ c ∧ c ≤ nI 57)
def blB (c : Int32) : Bool := decide (c = nI 32 ∨ c = nI 10)
theorem i32_nlt {a b : Int32} : ¬ a < b ↔ b ≤ a := by rw [i32_lt, i32_le]; omega
theorem i32_nle {a b : Int32} : ¬ a ≤ b ↔ b < a := by rw [i32_lt, i32_le]; omega
theorem c_Tape_isLetter (c : Int32) (w : ab_W) (n : Nat) : ab_C X l i_Tape_isLetter [.int c] w n 0 0 (ab_q1 (some (.int (b01 (leB c)))) w n) := by
  refine ab_metI cd_82 om_82 rfl (ab_sound ok_82 [] 50 ?_)
  unfold leB
  refine And.intro (fun e => ?_) (fun e => ?_)
  · rw [decide_eq_false (fun z => i32_nlt.mpr z.1 e)]
    exact ⟨rfl, rfl, rfl, rfl⟩
  refine And.intro (fun e2 => ?_) (fun e2 => ?_)
  · rw [decide_eq_false (fun z => i32_nlt.mpr z.2 e2)]
    exact ⟨rfl, rfl, rfl, rfl⟩
  · rw [decide_eq_true ⟨i32_nlt.mp e, i32_nlt.mp e2⟩]
    exact ⟨rfl, rfl, rfl, rfl⟩
theorem c_Mod_isLetter (c : Int32) (w : ab_W) (n : Nat) : ab_C X l i_Mod_isLetter [.int c] w n 0 0 (ab_q1 (some (.int (b01 (leB c)))) w n) := by
  refine ab_metI cd_157 om_157 rfl (ab_sound ok_157 [] 50 ?_)
  unfold leB
  refine And.intro (fun e => ?_) (fun e => ?_)
  · rw [decide_eq_false (fun z => i32_nlt.mpr z.1 e)]
    exact ⟨rfl, rfl, rfl, rfl⟩
  refine And.intro (fun e2 => ?_) (fun e2 => ?_)
  · rw [decide_eq_false (fun z => i32_nlt.mpr z.2 e2)]
    exact ⟨rfl, rfl, rfl, rfl⟩
  · rw [decide_eq_true ⟨i32_nlt.mp e, i32_nlt.mp e2⟩]
    exact ⟨rfl, rfl, rfl, rfl⟩
theorem c_Tape_isDigit (c : Int32) (w : ab_W) (n : Nat) : ab_C X l i_Tape_isDigit [.int c] w n 0 0 (ab_q1 (some (.int (b01 (diB c)))) w n) := by
  refine ab_metI cd_83 om_83 rfl (ab_sound ok_83 [] 50 ?_)
  unfold diB
  refine And.intro (fun e => ?_) (fun e => ?_)
  · rw [decide_eq_false (fun z => i32_nlt.mpr z.1 e)]
    exact ⟨rfl, rfl, rfl, rfl⟩
  refine And.intro (fun e2 => ?_) (fun e2 => ?_)
  · rw [decide_eq_false (fun z => i32_nlt.mpr z.2 e2)]
    exact ⟨rfl, rfl, rfl, rfl⟩
  · rw [decide_eq_true ⟨i32_nlt.mp e, i32_nlt.mp e2⟩]
    exact ⟨rfl, rfl, rfl, rfl⟩
theorem c_Mod_isDigit (c : Int32) (w : ab_W) (n : Nat) : ab_C X l i_Mod_isDigit [.int c] w n 0 0 (ab_q1 (some (.int (b01 (diB c)))) w n) := by
  refine ab_metI cd_158 om_158 rfl (ab_sound ok_158 [] 50 ?_)
  unfold diB
  refine And.intro (fun e => ?_) (fun e => ?_)
  · rw [decide_eq_false (fun z => i32_nlt.mpr z.1 e)]
    exact ⟨rfl, rfl, rfl, rfl⟩
  refine And.intro (fun e2 => ?_) (fun e2 => ?_)
  · rw [decide_eq_false (fun z => i32_nlt.mpr z.2 e2)]
    exact ⟨rfl, rfl, rfl, rfl⟩
  · rw [decide_eq_true ⟨i32_nlt.mp e, i32_nlt.mp e2⟩]
    exact ⟨rfl, rfl, rfl, rfl⟩
theorem c_Tape_isBlank (c : Int32) (w : ab_W) (n : Nat) : ab_C X l i_Tape_isBlank [.int c] w n 0 0 (ab_q1 (some (.int (b01 (blB c)))) w n) := by
  refine ab_metI cd_81 om_81 rfl (ab_sound ok_81 [] 50 ?_)
  unfold blB
  refine And.intro (fun e => ?_) (fun e => ?_)
  · rw [decide_eq_true (Or.inl e)]
    exact ⟨rfl, rfl, rfl, rfl⟩
  refine And.intro (fun e2 => ?_) (fun e2 => ?_)
  · rw [decide_eq_false (fun z => z.elim e e2)]
    exact ⟨rfl, rfl, rfl, rfl⟩
  · rw [decide_eq_true (Or.inr e2)]
    exact ⟨rfl, rfl, rfl, rfl⟩
end STR

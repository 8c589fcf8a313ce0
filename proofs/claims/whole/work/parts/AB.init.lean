/-! the objects made -/
section INIT
variable {X : ab_X} {l : Launch}
theorem c_Tape_init (w : ab_W) (h : w 1 = .inr (8, ab_df 8)) : ab_C X l i_Tape_init [.ref 1] w 2 1 640 (ab_q1 none (va_up (va_up w 2 (aI 640 (fun _ => 0))) 1 (oTape (nI 0) (nI 0) (nI 0) (nI 0) (nI 0) (nI 0))) 3) := by
  obtain ⟨w, rfl⟩ := va_ex h
  refine ab_metV cd_76 om_76 rfl rfl (ab_sound ok_76 [] 120 ?_)
  refine And.intro (⟨by decide +kernel, by decide +kernel, by omega, by omega⟩) ?_
  refine ⟨rfl, ?_, rfl⟩
  simp only [Nat.reduceAdd, va_uu, va_uc, Nat.reduceLT]
  rfl
theorem c_MR_init (w : ab_W) (h : w 5 = .inr (3, ab_df 3)) : ab_C X l i_MR_init [.ref 5] w 6 6 72 (ab_q1 none (va_up (va_up (va_up (va_up (va_up (va_up (va_up w 6 (aI 12 (fun _ => 0))) 7 (aI 12 (fun _ => 0))) 8 (aI 12 (fun _ => 0))) 9 (aI 12 (fun _ => 0))) 10 (aI 12 (fun _ => 0))) 11 (aZ 12 (fun _ => 0))) 5 (oMR (nI 0) (nI 0) (nI 0))) 12) := by
  obtain ⟨w, rfl⟩ := va_ex h
  refine ab_metV cd_26 om_26 rfl rfl (ab_sound ok_26 [] 120 ?_)
  refine And.intro (⟨by decide +kernel, by decide +kernel, by omega, by omega⟩) ?_
  refine And.intro (⟨by decide +kernel, by decide +kernel, by omega, by omega⟩) ?_
  refine And.intro (⟨by decide +kernel, by decide +kernel, by omega, by omega⟩) ?_
  refine And.intro (⟨by decide +kernel, by decide +kernel, by omega, by omega⟩) ?_
  refine And.intro (⟨by decide +kernel, by decide +kernel, by omega, by omega⟩) ?_
  refine And.intro (⟨by decide +kernel, by decide +kernel, by omega, by omega⟩) ?_
  refine ⟨rfl, ?_, rfl⟩
  simp only [Nat.reduceAdd, va_uu, va_uc, Nat.reduceLT]
  rfl
theorem c_PA_init (w : ab_W) (h : w 12 = .inr (5, ab_df 5)) : ab_C X l i_PA_init [.ref 12] w 13 4 20 (ab_q1 none (va_up (va_up (va_up (va_up (va_up w 13 (aJ 5 (fun _ => 0))) 14 (aJ 5 (fun _ => 0))) 15 (aJ 5 (fun _ => 0))) 16 (aJ 5 (fun _ => 0))) 12 (oPA (nI 0) 0)) 17) := by
  obtain ⟨w, rfl⟩ := va_ex h
  refine ab_metV cd_46 om_46 rfl rfl (ab_sound ok_46 [] 120 ?_)
  refine And.intro (⟨by decide +kernel, by decide +kernel, by omega, by omega⟩) ?_
  refine And.intro (⟨by decide +kernel, by decide +kernel, by omega, by omega⟩) ?_
  refine And.intro (⟨by decide +kernel, by decide +kernel, by omega, by omega⟩) ?_
  refine And.intro (⟨by decide +kernel, by decide +kernel, by omega, by omega⟩) ?_
  refine ⟨rfl, ?_, rfl⟩
  simp only [Nat.reduceAdd, va_uu, va_uc, Nat.reduceLT]
  rfl
theorem c_Sums_init (w : ab_W) (h : w 17 = .inr (7, ab_df 7)) : ab_C X l i_Sums_init [.ref 17] w 18 2 119 (ab_q1 none (va_up (va_up (va_up w 18 (aJ 59 (fun _ => 0))) 19 (aJ 60 (fun _ => 0))) 17 (oSums (nI 0) (nI 0))) 20) := by
  obtain ⟨w, rfl⟩ := va_ex h
  refine ab_metV cd_64 om_64 rfl rfl (ab_sound ok_64 [] 120 ?_)
  refine And.intro (⟨by decide +kernel, by decide +kernel, by omega, by omega⟩) ?_
  refine And.intro (⟨by decide +kernel, by decide +kernel, by omega, by omega⟩) ?_
  refine ⟨rfl, ?_, rfl⟩
  simp only [Nat.reduceAdd, va_uu, va_uc, Nat.reduceLT]
  rfl
theorem c_Orb_init (w : ab_W) (h : w 20 = .inr (4, ab_df 4)) : ab_C X l i_Orb_init [.ref 20] w 21 6 7374 (ab_q1 none (va_up (va_up (va_up (va_up (va_up (va_up (va_up w 21 (aJ 6960 (fun _ => 0))) 22 (aJ 58 (fun _ => 0))) 23 (aJ 58 (fun _ => 0))) 24 (aJ 58 (fun _ => 0))) 25 (aI 120 (fun _ => 0))) 26 (aI 120 (fun _ => 0))) 20 (oOrb (nI 0) (nI 0) (nI 0))) 27) := by
  obtain ⟨w, rfl⟩ := va_ex h
  refine ab_metV cd_32 om_32 rfl rfl (ab_sound ok_32 [] 120 ?_)
  refine And.intro (⟨by decide +kernel, by decide +kernel, by omega, by omega⟩) ?_
  refine And.intro (⟨by decide +kernel, by decide +kernel, by omega, by omega⟩) ?_
  refine And.intro (⟨by decide +kernel, by decide +kernel, by omega, by omega⟩) ?_
  refine And.intro (⟨by decide +kernel, by decide +kernel, by omega, by omega⟩) ?_
  refine And.intro (⟨by decide +kernel, by decide +kernel, by omega, by omega⟩) ?_
  refine And.intro (⟨by decide +kernel, by decide +kernel, by omega, by omega⟩) ?_
  refine ⟨rfl, ?_, rfl⟩
  simp only [Nat.reduceAdd, va_uu, va_uc, Nat.reduceLT]
  rfl
theorem c_Told_init (w : ab_W) (h : w 27 = .inr (9, ab_df 9)) : ab_C X l i_Told_init [.ref 27] w 28 5 3718 (ab_q1 none (va_up (va_up (va_up (va_up (va_up (va_up w 28 (aJ 3480 (fun _ => 0))) 29 (aI 60 (fun _ => 0))) 30 (aJ 60 (fun _ => 0))) 31 (aI 60 (fun _ => 0))) 32 (aJ 58 (fun _ => 0))) 27 (oTold (nI 0) (nI 0) (nI 0) (-nI 1) (nI 0) (nI 0) (nI 0))) 33) := by
  obtain ⟨w, rfl⟩ := va_ex h
  refine ab_metV cd_90 om_90 rfl rfl (ab_sound ok_90 [] 120 ?_)
  refine And.intro (⟨by decide +kernel, by decide +kernel, by omega, by omega⟩) ?_
  refine And.intro (⟨by decide +kernel, by decide +kernel, by omega, by omega⟩) ?_
  refine And.intro (⟨by decide +kernel, by decide +kernel, by omega, by omega⟩) ?_
  refine And.intro (⟨by decide +kernel, by decide +kernel, by omega, by omega⟩) ?_
  refine And.intro (⟨by decide +kernel, by decide +kernel, by omega, by omega⟩) ?_
  refine ⟨rfl, ?_, rfl⟩
  simp only [Nat.reduceAdd, va_uu, va_uc, Nat.reduceLT]
  rfl
theorem c_Box_init (w : ab_W) (h : w 33 = .inr (0, ab_df 0)) : ab_C X l i_Box_init [.ref 33] w 34 6 184 (ab_q1 none (va_up (va_up (va_up (va_up (va_up (va_up (va_up w 34 (aI 12 (fun _ => 0))) 35 (aI 12 (fun _ => 0))) 36 (aI 40 (fun _ => 0))) 37 (aI 40 (fun _ => 0))) 38 (aI 40 (fun _ => 0))) 39 (aI 40 (fun _ => 0))) 33 (oBox (nI 0) (nI 0) (nI 0))) 40) := by
  obtain ⟨w, rfl⟩ := va_ex h
  refine ab_metV cd_0 om_0 rfl rfl (ab_sound ok_0 [] 120 ?_)
  refine And.intro (⟨by decide +kernel, by decide +kernel, by omega, by omega⟩) ?_
  refine And.intro (⟨by decide +kernel, by decide +kernel, by omega, by omega⟩) ?_
  refine And.intro (⟨by decide +kernel, by decide +kernel, by omega, by omega⟩) ?_
  refine And.intro (⟨by decide +kernel, by decide +kernel, by omega, by omega⟩) ?_
  refine And.intro (⟨by decide +kernel, by decide +kernel, by omega, by omega⟩) ?_
  refine And.intro (⟨by decide +kernel, by decide +kernel, by omega, by omega⟩) ?_
  refine ⟨rfl, ?_, rfl⟩
  simp only [Nat.reduceAdd, va_uu, va_uc, Nat.reduceLT]
  rfl
theorem c_Kit44_init (w : ab_W) (h : w 44 = .inr (1, ab_df 1)) : ab_C X l i_Kit_init [.ref 44] w 45 14 188 (qV (fun w' n' => 59 = n' ∧ Fr (FKt 44) w w' ∧ w' 44 = oKit 44 (nI 0) (nI 0) (nI 0) (nI 0) ∧ CSh w' 44)) := by
  obtain ⟨w, rfl⟩ := va_ex h
  refine ab_mqV cd_5 om_5 rfl rfl (ab_sound ok_5 [] 120 ?_)
  refine And.intro (⟨by decide +kernel, by decide +kernel, by omega, by omega⟩) ?_
  refine And.intro (⟨by decide +kernel, by decide +kernel, by omega, by omega⟩) ?_
  refine And.intro (⟨by decide +kernel, by decide +kernel, by omega, by omega⟩) ?_
  refine And.intro (⟨by decide +kernel, by decide +kernel, by omega, by omega⟩) ?_
  refine And.intro (⟨by decide +kernel, by decide +kernel, by omega, by omega⟩) ?_
  refine And.intro (⟨by decide +kernel, by decide +kernel, by omega, by omega⟩) ?_
  refine And.intro (⟨by decide +kernel, by decide +kernel, by omega, by omega⟩) ?_
  refine And.intro (⟨by decide +kernel, by decide +kernel, by omega, by omega⟩) ?_
  refine And.intro (⟨by decide +kernel, by decide +kernel, by omega, by omega⟩) ?_
  refine And.intro (⟨by decide +kernel, by decide +kernel, by omega, by omega⟩) ?_
  refine And.intro (⟨by decide +kernel, by decide +kernel, by omega, by omega⟩) ?_
  refine And.intro (⟨by decide +kernel, by decide +kernel, by omega, by omega⟩) ?_
  refine And.intro (⟨by decide +kernel, by decide +kernel, by omega, by omega⟩) ?_
  refine And.intro (⟨by decide +kernel, by decide +kernel, by omega, by omega⟩) ?_
  refine ⟨rfl, rfl, ?_, rfl, ⟨_, _, _, _, rfl⟩, ⟨_, rfl⟩, ⟨_, rfl⟩, ⟨_, rfl⟩, ⟨_, rfl⟩, ⟨_, rfl⟩, ⟨_, rfl⟩, ⟨_, rfl⟩, ⟨_, rfl⟩, ⟨_, rfl⟩, ⟨_, rfl⟩, ⟨_, rfl⟩, ⟨_, rfl⟩, ⟨_, rfl⟩, ⟨_, rfl⟩⟩
  repeat (first | exact Fr.refl | refine Fr.up ?_ ⟨by omega, by omega⟩)
theorem c_Kit59_init (w : ab_W) (h : w 59 = .inr (1, ab_df 1)) : ab_C X l i_Kit_init [.ref 59] w 60 14 188 (qV (fun w' n' => 74 = n' ∧ Fr (FKt 59) w w' ∧ w' 59 = oKit 59 (nI 0) (nI 0) (nI 0) (nI 0) ∧ CSh w' 59)) := by
  obtain ⟨w, rfl⟩ := va_ex h
  refine ab_mqV cd_5 om_5 rfl rfl (ab_sound ok_5 [] 120 ?_)
  refine And.intro (⟨by decide +kernel, by decide +kernel, by omega, by omega⟩) ?_
  refine And.intro (⟨by decide +kernel, by decide +kernel, by omega, by omega⟩) ?_
  refine And.intro (⟨by decide +kernel, by decide +kernel, by omega, by omega⟩) ?_
  refine And.intro (⟨by decide +kernel, by decide +kernel, by omega, by omega⟩) ?_
  refine And.intro (⟨by decide +kernel, by decide +kernel, by omega, by omega⟩) ?_
  refine And.intro (⟨by decide +kernel, by decide +kernel, by omega, by omega⟩) ?_
  refine And.intro (⟨by decide +kernel, by decide +kernel, by omega, by omega⟩) ?_
  refine And.intro (⟨by decide +kernel, by decide +kernel, by omega, by omega⟩) ?_
  refine And.intro (⟨by decide +kernel, by decide +kernel, by omega, by omega⟩) ?_
  refine And.intro (⟨by decide +kernel, by decide +kernel, by omega, by omega⟩) ?_
  refine And.intro (⟨by decide +kernel, by decide +kernel, by omega, by omega⟩) ?_
  refine And.intro (⟨by decide +kernel, by decide +kernel, by omega, by omega⟩) ?_
  refine And.intro (⟨by decide +kernel, by decide +kernel, by omega, by omega⟩) ?_
  refine And.intro (⟨by decide +kernel, by decide +kernel, by omega, by omega⟩) ?_
  refine ⟨rfl, rfl, ?_, rfl, ⟨_, _, _, _, rfl⟩, ⟨_, rfl⟩, ⟨_, rfl⟩, ⟨_, rfl⟩, ⟨_, rfl⟩, ⟨_, rfl⟩, ⟨_, rfl⟩, ⟨_, rfl⟩, ⟨_, rfl⟩, ⟨_, rfl⟩, ⟨_, rfl⟩, ⟨_, rfl⟩, ⟨_, rfl⟩, ⟨_, rfl⟩, ⟨_, rfl⟩⟩
  repeat (first | exact Fr.refl | refine Fr.up ?_ ⟨by omega, by omega⟩)
end INIT

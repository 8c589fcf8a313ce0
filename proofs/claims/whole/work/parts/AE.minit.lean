/-! the model made -/
section MINIT
variable {X : ab_X} {l : Launch}
def sM0 (k : Nat) : Int32 := match k with
  | 58 => -nI 1
  | _ => nI 0
def MW00 (w : ab_W) : Prop := w 91 = aI 640 (fun _ => 0) ∧ w 92 = aJ 24 (fun _ => 0) ∧ w 93 = aI 2 (fun _ => 0) ∧ w 94 = aI 2 (fun _ => 0) ∧ w 95 = aI 2 (fun _ => 0) ∧ w 96 = aI 8 (fun _ => 0) ∧ w 97 = aI 24 (fun _ => 0) ∧ w 98 = aI 24 (fun _ => 0) ∧ w 99 = aI 24 (fun _ => 0) ∧ w 100 = aI 24 (fun _ => 0) ∧ w 101 = aI 16 (fun _ => 0)
def MW01 (w : ab_W) : Prop := w 102 = aI 16 (fun _ => 0) ∧ w 103 = aJ 24 (fun _ => 0) ∧ w 104 = aJ 24 (fun _ => 0) ∧ w 105 = aJ 24 (fun _ => 0) ∧ w 106 = aJ 24 (fun _ => 0) ∧ w 107 = aJ 6 (fun _ => 0) ∧ w 108 = aJ 6 (fun _ => 0) ∧ w 109 = aJ 6 (fun _ => 0) ∧ w 110 = aI 6 (fun _ => 0) ∧ w 111 = aI 64 (fun _ => 0) ∧ w 112 = aI 64 (fun _ => 0)
def MW02 (w : ab_W) : Prop := w 113 = aI 3600 (fun _ => 0) ∧ w 114 = aJ 60 (fun _ => 0) ∧ w 115 = aI 8 (fun _ => 0) ∧ w 116 = aJ 28800 (fun _ => 0) ∧ w 117 = aJ 3600 (fun _ => 0) ∧ w 118 = aJ 3600 (fun _ => 0) ∧ w 119 = aI 12 (fun _ => 0) ∧ w 120 = aI 12 (fun _ => 0) ∧ w 121 = aI 12 (fun _ => 0) ∧ w 122 = aJ 12 (fun _ => 0) ∧ w 123 = aZ 12 (fun _ => 0)
def MW03 (w : ab_W) : Prop := w 124 = aZ 12 (fun _ => 0) ∧ w 125 = aJ 60 (fun _ => 0) ∧ w 126 = aI 60 (fun _ => 0) ∧ w 127 = aJ 60 (fun _ => 0) ∧ w 128 = aZ 60 (fun _ => 0) ∧ w 129 = aJ 60 (fun _ => 0) ∧ w 130 = aI 40 (fun _ => 0) ∧ w 131 = aI 40 (fun _ => 0) ∧ w 132 = aI 40 (fun _ => 0) ∧ w 133 = aI 40 (fun _ => 0)
/-- what a new model holds -/
def MW0 (w : ab_W) : Prop := w 90 = oMod sM0 0 0 ∧ MW00 w ∧ MW01 w ∧ MW02 w ∧ MW03 w
theorem c_Mod_init (w : ab_W) (h : w 90 = .inr (12, ab_df 12)) : ab_C X l i_Mod_init [.ref 90] w 91 43 41254 (qV (fun w' n' => 134 = n' ∧ Fr (fun k => 90 ≤ k) w w' ∧ MW0 w')) := by
  obtain ⟨w, rfl⟩ := va_ex h
  clear h
  refine ab_mqV cd_149 om_149 rfl rfl (ab_sound ok_149 [] 220 ?_)
  refine And.intro (⟨by decide +kernel, by decide +kernel, by omega, by omega⟩) ?_
  refine And.intro (⟨by decide +kernel, by decide +kernel, by omega, by omega⟩) ?_
  refine And.intro (⟨by decide +kernel, by decide +kernel, by omega, by omega⟩) ?_
  refine And.intro (⟨by decide +kernel, by decide +kernel, by omega, by omega⟩) ?_
  refine And.intro (⟨by decide +kernel, by decide +kernel, by omega, by omega⟩) ?_
  refine And.intro (⟨by decide +kernel, by decide +kernel, by omega, by omega⟩) ?_
  refine And.intro (⟨by decide +kernel, by decide +kernel, by omega, by omega⟩) ?_
  refine And.intro (⟨by decide +kernel, by decide +kernel, by omega, by omega⟩) ?_
  refine And.intro (⟨by decide +kernel, by decide +kernel, by omega, by omega⟩) ?_
  refine And.intro (⟨by decide +kernel, by decide +kernel, by omega, by omega⟩) ?_
  refine And.intro (⟨by decide +kernel, by decide +kernel, by omega, by omega⟩) ?_
  refine And.intro (⟨by decide +kernel, by decide +kernel, by omega, by omega⟩) ?_
  refine And.intro (⟨by decide +kernel, by decide +kernel, by omega, by omega⟩) ?_
  refine And.intro (⟨by decide +kernel, by decide +kernel, by omega, by omega⟩) ?_
  refine And.intro (⟨by decide +kernel, by decide +kernel, by omega, by omega⟩) ?_
  refine And.intro (⟨by decide +kernel, by decide +kernel, by omega, by omega⟩) ?_
  refine And.intro (⟨by decide +kernel, by decide +kernel, by omega, by omega⟩) ?_
  refine And.intro (⟨by decide +kernel, by decide +kernel, by omega, by omega⟩) ?_
  refine And.intro (⟨by decide +kernel, by decide +kernel, by omega, by omega⟩) ?_
  refine And.intro (⟨by decide +kernel, by decide +kernel, by omega, by omega⟩) ?_
  refine And.intro (⟨by decide +kernel, by decide +kernel, by omega, by omega⟩) ?_
  refine And.intro (⟨by decide +kernel, by decide +kernel, by omega, by omega⟩) ?_
  refine And.intro (⟨by decide +kernel, by decide +kernel, by omega, by omega⟩) ?_
  refine And.intro (⟨by decide +kernel, by decide +kernel, by omega, by omega⟩) ?_
  refine And.intro (⟨by decide +kernel, by decide +kernel, by omega, by omega⟩) ?_
  refine And.intro (⟨by decide +kernel, by decide +kernel, by omega, by omega⟩) ?_
  refine And.intro (⟨by decide +kernel, by decide +kernel, by omega, by omega⟩) ?_
  refine And.intro (⟨by decide +kernel, by decide +kernel, by omega, by omega⟩) ?_
  refine And.intro (⟨by decide +kernel, by decide +kernel, by omega, by omega⟩) ?_
  refine And.intro (⟨by decide +kernel, by decide +kernel, by omega, by omega⟩) ?_
  refine And.intro (⟨by decide +kernel, by decide +kernel, by omega, by omega⟩) ?_
  refine And.intro (⟨by decide +kernel, by decide +kernel, by omega, by omega⟩) ?_
  refine And.intro (⟨by decide +kernel, by decide +kernel, by omega, by omega⟩) ?_
  refine And.intro (⟨by decide +kernel, by decide +kernel, by omega, by omega⟩) ?_
  refine And.intro (⟨by decide +kernel, by decide +kernel, by omega, by omega⟩) ?_
  refine And.intro (⟨by decide +kernel, by decide +kernel, by omega, by omega⟩) ?_
  refine And.intro (⟨by decide +kernel, by decide +kernel, by omega, by omega⟩) ?_
  refine And.intro (⟨by decide +kernel, by decide +kernel, by omega, by omega⟩) ?_
  refine And.intro (⟨by decide +kernel, by decide +kernel, by omega, by omega⟩) ?_
  refine And.intro (⟨by decide +kernel, by decide +kernel, by omega, by omega⟩) ?_
  refine And.intro (⟨by decide +kernel, by decide +kernel, by omega, by omega⟩) ?_
  refine And.intro (⟨by decide +kernel, by decide +kernel, by omega, by omega⟩) ?_
  refine And.intro (⟨by decide +kernel, by decide +kernel, by omega, by omega⟩) ?_
  refine ⟨rfl, rfl, ?_, ?_, ?_, ?_, ?_, ?_⟩
  · repeat (first | exact Fr.refl | refine Fr.up ?_ (by omega))
  · rfl
  · exact ⟨rfl, rfl, rfl, rfl, rfl, rfl, rfl, rfl, rfl, rfl, rfl⟩
  · exact ⟨rfl, rfl, rfl, rfl, rfl, rfl, rfl, rfl, rfl, rfl, rfl⟩
  · exact ⟨rfl, rfl, rfl, rfl, rfl, rfl, rfl, rfl, rfl, rfl, rfl⟩
  · exact ⟨rfl, rfl, rfl, rfl, rfl, rfl, rfl, rfl, rfl, rfl⟩
end MINIT

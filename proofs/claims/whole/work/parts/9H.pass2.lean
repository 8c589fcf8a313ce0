/-! names, bases and arms passed, for the class -/
def isWL (x : va_E) : Prop := ∃ t i bw bt ht bu bl au al su sl, x = oWL t i bw bt ht bu bl au al su sl
def isTp (T : TE) (x : va_E) : Prop := ∃ b c d e f, x = oTape (nI (tL T)) b c d e f
theorem tk_isTp {T : TE} {p : Nat} {f : Int32} : isTp T (oTk T p f) := ⟨_, _, _, _, _, rfl⟩
theorem lo_none {S : KS} {c : Nat} (h : LoOk S) : soI (sLo S c) = 3 ↔ sLo S c = none := by
  cases e : sLo S c with
  | none => exact ⟨fun _ => rfl, fun _ => rfl⟩
  | some x =>
    obtain ⟨_, g⟩ := h c x e
    refine ⟨fun z => ?_, fun z => by cases z⟩
    have z : x.1 = 3 := z
    omega
theorem lo_some {S : KS} {c : Nat} (h : soI (sLo S c) ≠ 3) : ∃ x, sLo S c = some x := by
  cases e : sLo S c with
  | none => rw [e] at h; exact absurd rfl h
  | some x => exact ⟨x, rfl⟩
theorem inlE {a b c d : Nat} (h : (Sum.inl (a, b) : Er) = .inl (c, d)) : a = c ∧ b = d := by
  have e := Sum.inl.inj h
  exact ⟨congrArg Prod.fst e, congrArg Prod.snd e⟩
theorem qNew_r {T : TE} {S : KS} {p q : Nat} (hp : p ≤ tL T) (h : qNew T S p = .inr q) : q = tX T p ∧ tkN T p = true ∧ soI (sLo S (tV T p)) = 3 ∧ q ≤ tL T ∧ tK T p = 2 := by
  unfold qNew at h
  by_cases c : tkN T p = true
  · rw [if_pos c] at h
    by_cases d : soI (sLo S (tV T p)) = 3
    · rw [if_pos d] at h
      have e : tX T p = q := Sum.inr.inj h
      have k := tkN_k c
      have g := tX_le hp (by omega) (by omega)
      exact ⟨e.symm, c, d, by omega, k⟩
    · rw [if_neg d] at h; cases h
  · rw [if_neg c] at h; cases h
theorem qNew_l {T : TE} {S : KS} {p k pl : Nat} (h : qNew T S p = .inl (k, pl)) : pl = tP T p ∧ ((tkN T p = false ∧ k = 1) ∨ (tkN T p = true ∧ soI (sLo S (tV T p)) ≠ 3 ∧ k = 3)) := by
  unfold qNew at h
  by_cases c : tkN T p = true
  · rw [if_pos c] at h
    by_cases d : soI (sLo S (tV T p)) = 3
    · rw [if_pos d] at h; cases h
    · rw [if_neg d] at h
      obtain ⟨e1, e2⟩ := inlE h
      exact ⟨e2.symm, Or.inr ⟨c, d, e1.symm⟩⟩
  · rw [if_neg c] at h
    obtain ⟨e1, e2⟩ := inlE h
    exact ⟨e2.symm, Or.inl ⟨Bool.eq_false_iff.mpr c, e1.symm⟩⟩
theorem sN_le {S : KS} (h : KSok S) : sN S ≤ 24 := by have := h.1; unfold sN; omega
section PASSN
variable {X : ab_X} {l : Launch}
theorem k_entryOf_y_44 (c : Nat) (w : ab_W) (n : Nat) {S : KS} {x : Int32} {y : Nat × Nat} {fn fo fu : Nat → Int32} (hx : x = nI c) (hS : KSok S) (hc : sLo S c = some y) (h0 : w 44 = oKit 44 (nI (sR S)) (nI (sW S)) (nI (sP S)) (nI (sN S))) (h1 : w 45 = aI 24 fn) (hn : NmP (sLo S) (sN S) fn fo fu) : ∃ i, i < 24 ∧ fo i = nI y.1 ∧ fu i = nI y.2 ∧ ab_C X l i_Kit_entryOf [.ref 44, .int x] w n 0 0 (ab_q1 (some (.int (nI i))) w n) := by
  obtain ⟨i, g1, g2, g3, g4, g5⟩ := nm_find hn (fun c x h => (hS.2.2.2.2 c x h).1) hc
  have := sN_le hS
  exact ⟨i, by omega, g4, g5, c_Kit_entryOf_y_44 x i (sN S) w n g1 this (by rw [g2, hx]) (fun j hj => by rw [hx]; exact g3 j hj) h0 h1⟩
theorem k_entryOf_n_44 (c : Nat) (w : ab_W) (n : Nat) {S : KS} {x : Int32} {fn fo fu : Nat → Int32} (hx : x = nI c) (hS : KSok S) (hv : vd c) (hc : sLo S c = none) (h0 : w 44 = oKit 44 (nI (sR S)) (nI (sW S)) (nI (sP S)) (nI (sN S))) (h1 : w 45 = aI 24 fn) (hn : NmP (sLo S) (sN S) fn fo fu) : ab_C X l i_Kit_entryOf [.ref 44, .int x] w n 0 0 (ab_q1 (some (.int (-nI 1))) w n) :=
  c_Kit_entryOf_n_44 x (sN S) w n (sN_le hS) (by rw [hx]; exact nm_none hn (fun c x h => (hS.2.2.2.2 c x h).1) hc hv) h0 h1
theorem k_passNewName_y_44 (T : TE) (p q : Nat) (w : ab_W) (n : Nat) {f r1 r2 r3 : Int32} {S : KS} (hq : qNew T S p = .inr q) (hS : KSok S) (hL : tL T ≤ 640) (hp : p ≤ tL T) (h1 : w 1 = oTk T p f) (h2 : w 2 = aI 640 (tB T)) (h3 : w 3 = oKR r1 r2 r3) (hC : CRd w 44 S) :
    ab_C X l i_KR_passNewName [.ref 3, .ref 1, .ref 44] w n 0 0 (ab_q1 (some (.int (nI 1))) (va_up w 1 (oTk T q (cV T p f))) n) := by
  obtain ⟨rfl, e2, e3, e4, e5⟩ := qNew_r hp hq
  have ev := cV_eq (f := f) hp (by omega) (by omega)
  have h0 := hC.1
  obtain ⟨-, ⟨fn, fo, fu, g1, -, -, g4⟩, -⟩ := hC
  have ce := k_entryOf_n_44 (X := X) (l := l) (tV T p) w n ev hS (tk_vd hp e5) ((lo_none hS.2.2.2.2).mp e3) h0 g1 g4
  obtain ⟨w, rfl⟩ := va_ex4 h1 h2 h3 h0
  refine ab_metI cd_16 om_16 rfl (ab_sound ok_16 [] 80 ?_)
  (refine Exists.intro 0 ?_; refine ⟨0, _, Nat.zero_le _, Nat.zero_le _, k_isName T p _ _ hL hp rfl rfl, ?_⟩; refine ab_q1_elim ?_)
  refine And.intro (fun _ => ?_) (fun h_9 => absurd h_9 ((by rw [e2]; decide)))
  (refine Exists.intro 0 ?_; refine ⟨0, _, Nat.zero_le _, Nat.zero_le _, ce, ?_⟩; refine ab_q1_elim ?_)
  refine And.intro (fun _ => ?_) (fun h_9 => absurd (rfl) h_9)
  (refine Exists.intro 0 ?_; refine ⟨0, _, Nat.zero_le _, Nat.zero_le _, k_adv T p _ _ hL hp (by omega) (by omega) rfl rfl, ?_⟩; refine ab_q1_elim ?_)
  exact ⟨rfl, rfl, rfl, rfl⟩
theorem k_passNewName_n_44 (T : TE) (p k pl : Nat) (w : ab_W) (n : Nat) {f r1 r2 r3 : Int32} {S : KS} (hq : qNew T S p = .inl (k, pl)) (hS : KSok S) (hL : tL T ≤ 640) (hp : p ≤ tL T) (h1 : w 1 = oTk T p f) (h2 : w 2 = aI 640 (tB T)) (h3 : w 3 = oKR r1 r2 r3) (hC : CRd w 44 S) :
    ab_C X l i_KR_passNewName [.ref 3, .ref 1, .ref 44] w n 0 0 (ab_q1 (some (.int (nI 0))) (va_up w 3 (oKR (nI k) (nI pl) r3)) n) := by
  obtain ⟨rfl, e⟩ := qNew_l hq
  rcases e with ⟨e1, rfl⟩ | ⟨e1, e2, rfl⟩
  · obtain ⟨w, rfl⟩ := va_ex3 h1 h2 h3
    refine ab_metI cd_16 om_16 rfl (ab_sound ok_16 [] 80 ?_)
    (refine Exists.intro 0 ?_; refine ⟨0, _, Nat.zero_le _, Nat.zero_le _, k_isName T p _ _ hL hp rfl rfl, ?_⟩; refine ab_q1_elim ?_)
    refine And.intro (fun h_9 => absurd ((by rw [e1]; rfl)) h_9) (fun _ => ?_)
    (refine Exists.intro 0 ?_; refine ⟨0, _, Nat.zero_le _, Nat.zero_le _, k_fail T p 1 _ _ rfl rfl rfl, ?_⟩; refine ab_q1_elim ?_)
    exact ⟨rfl, rfl, rfl, rfl⟩
  · have e5 := tkN_k e1
    have ev := cV_eq (f := f) hp (by omega) (by omega)
    obtain ⟨y, hy⟩ := lo_some e2
    have h0 := hC.1
    obtain ⟨-, ⟨fn, fo, fu, g1, -, -, g4⟩, -⟩ := hC
    obtain ⟨i, b1, -, -, ce⟩ := k_entryOf_y_44 (X := X) (l := l) (tV T p) w n ev hS hy h0 g1 g4
    obtain ⟨w, rfl⟩ := va_ex4 h1 h2 h3 h0
    refine ab_metI cd_16 om_16 rfl (ab_sound ok_16 [] 80 ?_)
    (refine Exists.intro 0 ?_; refine ⟨0, _, Nat.zero_le _, Nat.zero_le _, k_isName T p _ _ hL hp rfl rfl, ?_⟩; refine ab_q1_elim ?_)
    refine And.intro (fun _ => ?_) (fun h_9 => absurd h_9 ((by rw [e1]; decide)))
    (refine Exists.intro 0 ?_; refine ⟨0, _, Nat.zero_le _, Nat.zero_le _, ce, ?_⟩; refine ab_q1_elim ?_)
    refine And.intro (fun h_9 => absurd h_9 ((nI_nn (by omega)))) (fun _ => ?_)
    (refine Exists.intro 0 ?_; refine ⟨0, _, Nat.zero_le _, Nat.zero_le _, k_fail T p 3 _ _ rfl rfl rfl, ?_⟩; refine ab_q1_elim ?_)
    exact ⟨rfl, rfl, rfl, rfl⟩
theorem k_entryOf_y_59 (c : Nat) (w : ab_W) (n : Nat) {S : KS} {x : Int32} {y : Nat × Nat} {fn fo fu : Nat → Int32} (hx : x = nI c) (hS : KSok S) (hc : sLo S c = some y) (h0 : w 59 = oKit 59 (nI (sR S)) (nI (sW S)) (nI (sP S)) (nI (sN S))) (h1 : w 60 = aI 24 fn) (hn : NmP (sLo S) (sN S) fn fo fu) : ∃ i, i < 24 ∧ fo i = nI y.1 ∧ fu i = nI y.2 ∧ ab_C X l i_Kit_entryOf [.ref 59, .int x] w n 0 0 (ab_q1 (some (.int (nI i))) w n) := by
  obtain ⟨i, g1, g2, g3, g4, g5⟩ := nm_find hn (fun c x h => (hS.2.2.2.2 c x h).1) hc
  have := sN_le hS
  exact ⟨i, by omega, g4, g5, c_Kit_entryOf_y_59 x i (sN S) w n g1 this (by rw [g2, hx]) (fun j hj => by rw [hx]; exact g3 j hj) h0 h1⟩
theorem k_entryOf_n_59 (c : Nat) (w : ab_W) (n : Nat) {S : KS} {x : Int32} {fn fo fu : Nat → Int32} (hx : x = nI c) (hS : KSok S) (hv : vd c) (hc : sLo S c = none) (h0 : w 59 = oKit 59 (nI (sR S)) (nI (sW S)) (nI (sP S)) (nI (sN S))) (h1 : w 60 = aI 24 fn) (hn : NmP (sLo S) (sN S) fn fo fu) : ab_C X l i_Kit_entryOf [.ref 59, .int x] w n 0 0 (ab_q1 (some (.int (-nI 1))) w n) :=
  c_Kit_entryOf_n_59 x (sN S) w n (sN_le hS) (by rw [hx]; exact nm_none hn (fun c x h => (hS.2.2.2.2 c x h).1) hc hv) h0 h1
theorem k_passNewName_y_59 (T : TE) (p q : Nat) (w : ab_W) (n : Nat) {f r1 r2 r3 : Int32} {S : KS} (hq : qNew T S p = .inr q) (hS : KSok S) (hL : tL T ≤ 640) (hp : p ≤ tL T) (h1 : w 1 = oTk T p f) (h2 : w 2 = aI 640 (tB T)) (h3 : w 3 = oKR r1 r2 r3) (hC : CRd w 59 S) :
    ab_C X l i_KR_passNewName [.ref 3, .ref 1, .ref 59] w n 0 0 (ab_q1 (some (.int (nI 1))) (va_up w 1 (oTk T q (cV T p f))) n) := by
  obtain ⟨rfl, e2, e3, e4, e5⟩ := qNew_r hp hq
  have ev := cV_eq (f := f) hp (by omega) (by omega)
  have h0 := hC.1
  obtain ⟨-, ⟨fn, fo, fu, g1, -, -, g4⟩, -⟩ := hC
  have ce := k_entryOf_n_59 (X := X) (l := l) (tV T p) w n ev hS (tk_vd hp e5) ((lo_none hS.2.2.2.2).mp e3) h0 g1 g4
  obtain ⟨w, rfl⟩ := va_ex4 h1 h2 h3 h0
  refine ab_metI cd_16 om_16 rfl (ab_sound ok_16 [] 80 ?_)
  (refine Exists.intro 0 ?_; refine ⟨0, _, Nat.zero_le _, Nat.zero_le _, k_isName T p _ _ hL hp rfl rfl, ?_⟩; refine ab_q1_elim ?_)
  refine And.intro (fun _ => ?_) (fun h_9 => absurd h_9 ((by rw [e2]; decide)))
  (refine Exists.intro 0 ?_; refine ⟨0, _, Nat.zero_le _, Nat.zero_le _, ce, ?_⟩; refine ab_q1_elim ?_)
  refine And.intro (fun _ => ?_) (fun h_9 => absurd (rfl) h_9)
  (refine Exists.intro 0 ?_; refine ⟨0, _, Nat.zero_le _, Nat.zero_le _, k_adv T p _ _ hL hp (by omega) (by omega) rfl rfl, ?_⟩; refine ab_q1_elim ?_)
  exact ⟨rfl, rfl, rfl, rfl⟩
theorem k_passNewName_n_59 (T : TE) (p k pl : Nat) (w : ab_W) (n : Nat) {f r1 r2 r3 : Int32} {S : KS} (hq : qNew T S p = .inl (k, pl)) (hS : KSok S) (hL : tL T ≤ 640) (hp : p ≤ tL T) (h1 : w 1 = oTk T p f) (h2 : w 2 = aI 640 (tB T)) (h3 : w 3 = oKR r1 r2 r3) (hC : CRd w 59 S) :
    ab_C X l i_KR_passNewName [.ref 3, .ref 1, .ref 59] w n 0 0 (ab_q1 (some (.int (nI 0))) (va_up w 3 (oKR (nI k) (nI pl) r3)) n) := by
  obtain ⟨rfl, e⟩ := qNew_l hq
  rcases e with ⟨e1, rfl⟩ | ⟨e1, e2, rfl⟩
  · obtain ⟨w, rfl⟩ := va_ex3 h1 h2 h3
    refine ab_metI cd_16 om_16 rfl (ab_sound ok_16 [] 80 ?_)
    (refine Exists.intro 0 ?_; refine ⟨0, _, Nat.zero_le _, Nat.zero_le _, k_isName T p _ _ hL hp rfl rfl, ?_⟩; refine ab_q1_elim ?_)
    refine And.intro (fun h_9 => absurd ((by rw [e1]; rfl)) h_9) (fun _ => ?_)
    (refine Exists.intro 0 ?_; refine ⟨0, _, Nat.zero_le _, Nat.zero_le _, k_fail T p 1 _ _ rfl rfl rfl, ?_⟩; refine ab_q1_elim ?_)
    exact ⟨rfl, rfl, rfl, rfl⟩
  · have e5 := tkN_k e1
    have ev := cV_eq (f := f) hp (by omega) (by omega)
    obtain ⟨y, hy⟩ := lo_some e2
    have h0 := hC.1
    obtain ⟨-, ⟨fn, fo, fu, g1, -, -, g4⟩, -⟩ := hC
    obtain ⟨i, b1, -, -, ce⟩ := k_entryOf_y_59 (X := X) (l := l) (tV T p) w n ev hS hy h0 g1 g4
    obtain ⟨w, rfl⟩ := va_ex4 h1 h2 h3 h0
    refine ab_metI cd_16 om_16 rfl (ab_sound ok_16 [] 80 ?_)
    (refine Exists.intro 0 ?_; refine ⟨0, _, Nat.zero_le _, Nat.zero_le _, k_isName T p _ _ hL hp rfl rfl, ?_⟩; refine ab_q1_elim ?_)
    refine And.intro (fun _ => ?_) (fun h_9 => absurd h_9 ((by rw [e1]; decide)))
    (refine Exists.intro 0 ?_; refine ⟨0, _, Nat.zero_le _, Nat.zero_le _, ce, ?_⟩; refine ab_q1_elim ?_)
    refine And.intro (fun h_9 => absurd h_9 ((nI_nn (by omega)))) (fun _ => ?_)
    (refine Exists.intro 0 ?_; refine ⟨0, _, Nat.zero_le _, Nat.zero_le _, k_fail T p 3 _ _ rfl rfl rfl, ?_⟩; refine ab_q1_elim ?_)
    exact ⟨rfl, rfl, rfl, rfl⟩
theorem k_passInOrOn_y (T : TE) (p q : Nat) (w : ab_W) (n : Nat) {f r1 r2 r3 t i bw bt ht bu bl au al : Int32} {su sl : Int64} (hq : qIO T p = .inr q) (hL : tL T ≤ 640) (hp : p ≤ tL T) (h1 : w 1 = oTk T p f) (h2 : w 2 = aI 640 (tB T)) (h3 : w 3 = oKR r1 r2 r3) (h4 : w 4 = oWL t i bw bt ht bu bl au al su sl) :
    ab_C X l i_KR_passInOrOn [.ref 3, .ref 1] w n 0 0 (ab_q1 (some (.int (nI 1))) (va_up (va_up w 1 (oTk T q (cV T p f))) 4 (oWL t (b01 (tkW T p 3)) bw bt ht bu bl au al su sl)) n) := by
  have e : q = tX T p ∧ (tkW T p 3 = true ∨ tkW T p 4 = true) := by
    unfold qIO at hq
    by_cases c : tkW T p 3 = true ∨ tkW T p 4 = true
    · rw [if_pos c] at hq
      exact ⟨(Sum.inr.inj hq).symm, c⟩
    · rw [if_neg c] at hq; cases hq
  obtain ⟨rfl, e2⟩ := e
  have k : tK T p = 2 := e2.elim (fun z => (tkW_k z).1) (fun z => (tkW_k z).1)
  obtain ⟨w, rfl⟩ := va_ex4 h1 h2 h3 h4
  have at39 : ab_Ev X l i_KR_passInOrOn 39 [some (.ref 3), some (.ref 1)] [] (va_up (va_up (va_up (va_up (va_up w 4 (oWL t i bw bt ht bu bl au al su sl)) 3 (oKR r1 r2 r3)) 2 (aI 640 (tB T))) 1 (oTk T p f)) 4 (oWL t (b01 (tkW T p 3)) bw bt ht bu bl au al su sl)) n 0 0 (ab_q1 (some (.int (nI 1))) (va_up (va_up (va_up (va_up (va_up (va_up w 4 (oWL t i bw bt ht bu bl au al su sl)) 3 (oKR r1 r2 r3)) 2 (aI 640 (tB T))) 1 (oTk T p f)) 1 (oTk T (tX T p) (cV T p f))) 4 (oWL t (b01 (tkW T p 3)) bw bt ht bu bl au al su sl)) n) := by
    refine ab_sound ok_21 [] 80 ?_
    (refine Exists.intro 0 ?_; refine ⟨0, _, Nat.zero_le _, Nat.zero_le _, k_adv T p _ _ hL hp (by omega) (by omega) rfl rfl, ?_⟩; refine ab_q1_elim ?_)
    refine ⟨rfl, rfl, ?_, rfl⟩
    exact va_uc (by omega)
  refine ab_metI cd_21 om_21 rfl (ab_sound ok_21 [39] 80 ?_)
  (refine Exists.intro 0 ?_; refine ⟨0, _, Nat.zero_le _, Nat.zero_le _, k_isWord_3 T p _ _ hL hp rfl rfl, ?_⟩; refine ab_q1_elim ?_)
  cases c : tkW T p 3
  · rw [c] at at39
    refine And.intro (rfl) ?_
    refine And.intro (fun h_9 => absurd (rfl) h_9) (fun _ => ?_)
    (refine Exists.intro 0 ?_; refine ⟨0, _, Nat.zero_le _, Nat.zero_le _, k_isWord_4 T p _ _ hL hp rfl rfl, ?_⟩; refine ab_q1_elim ?_)
    refine And.intro (fun _ => ?_) (fun h_9 => absurd h_9 ((by rw [e2.resolve_left (by rw [c]; decide)]; decide)))
    exact at39
  · rw [c] at at39
    refine And.intro (rfl) ?_
    refine And.intro (fun _ => ?_) (fun h_9 => absurd h_9 ((by decide)))
    exact at39
theorem k_passInOrOn_n (T : TE) (p k pl : Nat) (w : ab_W) (n : Nat) {f r1 r2 r3 t i bw bt ht bu bl au al : Int32} {su sl : Int64} (hq : qIO T p = .inl (k, pl)) (hL : tL T ≤ 640) (hp : p ≤ tL T) (h1 : w 1 = oTk T p f) (h2 : w 2 = aI 640 (tB T)) (h3 : w 3 = oKR r1 r2 r3) (h4 : w 4 = oWL t i bw bt ht bu bl au al su sl) :
    ab_C X l i_KR_passInOrOn [.ref 3, .ref 1] w n 0 0 (ab_q1 (some (.int (nI 0))) (va_up (va_up w 3 (oKR (nI k) (nI pl) r3)) 4 (oWL t (nI 0) bw bt ht bu bl au al su sl)) n) := by
  have e : k = 1 ∧ pl = tP T p ∧ tkW T p 3 = false ∧ tkW T p 4 = false := by
    unfold qIO at hq
    by_cases c : tkW T p 3 = true ∨ tkW T p 4 = true
    · rw [if_pos c] at hq; cases hq
    · rw [if_neg c] at hq
      obtain ⟨e1, e2⟩ := inlE hq
      exact ⟨e1.symm, e2.symm, Bool.eq_false_iff.mpr (fun z => c (Or.inl z)), Bool.eq_false_iff.mpr (fun z => c (Or.inr z))⟩
  obtain ⟨rfl, rfl, e3, e4⟩ := e
  obtain ⟨w, rfl⟩ := va_ex4 h1 h2 h3 h4
  refine ab_metI cd_21 om_21 rfl (ab_sound ok_21 [] 80 ?_)
  (refine Exists.intro 0 ?_; refine ⟨0, _, Nat.zero_le _, Nat.zero_le _, k_isWord_3 T p _ _ hL hp rfl rfl, ?_⟩; refine ab_q1_elim ?_)
  rw [e3]
  refine And.intro (rfl) ?_
  refine And.intro (fun h_9 => absurd (rfl) h_9) (fun _ => ?_)
  (refine Exists.intro 0 ?_; refine ⟨0, _, Nat.zero_le _, Nat.zero_le _, k_isWord_4 T p _ _ hL hp rfl rfl, ?_⟩; refine ab_q1_elim ?_)
  refine And.intro (fun h_9 => absurd ((by rw [e4]; rfl)) h_9) (fun _ => ?_)
  (refine Exists.intro 0 ?_; refine ⟨0, _, Nat.zero_le _, Nat.zero_le _, k_fail T p 1 _ _ rfl rfl rfl, ?_⟩; refine ab_q1_elim ?_)
  refine ⟨rfl, rfl, ?_, rfl⟩
  exact va_uc (by omega)
end PASSN

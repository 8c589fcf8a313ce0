/-! a wheel put into the class's kit -/
def bsI (o : Option (Nat × Nat)) : Int32 := bsV (bB o)
theorem o64_32 {x : Int} (h : x.natAbs < 2 ^ 31) : (Int64.ofInt x).toInt32 = Int32.ofInt x := by
  apply Int32.toInt_inj.mp
  rw [Int64.toInt_toInt32, o64_i (by omega), o32_i h]
  exact Int.bmod_eq_of_le_mul_two (by omega) (by omega)
section CWHEEL
variable {X : ab_X} {l : Launch}
theorem k_Kit_addWheel_44 (c t lo : Nat) (i : Bool) (o : Option (Nat × Nat)) (u : Int) (w : ab_W) (n : Nat) {x ab_ al_ : Int32} {S : KS} (hx : x = nI c) (hS : KSok S) (hc : sLo S c = none) (h4 : sW S < 12) (ho : BsOk S o) (hX : (sX S o t i u lo).natAbs < 2 ^ 31) (hY : (sY S o t i u lo).natAbs < 2 ^ 31) (h : CRd w 44 S) (hw4 : w 4 = oWL (nI t) (b01 i) (bsI o) (nI (bT S o)) (nI (bH S o)) ab_ al_ (Int32.ofInt (arU u lo)) (nI (arL u lo)) (Int64.ofInt (sX S o t i u lo)) (Int64.ofInt (sY S o t i u lo))) : ab_C X l i_Kit_addWheel [.ref 44, .int x, .ref 4] w n 0 0 (qV (fun w' n' => n = n' ∧ Fr (FKt 44) w w' ∧ CRd w' 44 (adW S c t i o u lo))) := by
  subst hx
  have hN : sN S < 24 := by have := hS.1; unfold sN; omega
  obtain ⟨h0, ⟨fn, fo, fu, h1, h2, h3, hn⟩, h4a, ⟨f5, h5, h5b⟩, ⟨f7, h7, h7b⟩, -, ⟨f6, k6, k6b⟩, ⟨f8, k8, k8b⟩, ⟨f9, k9, k9b⟩, ⟨f10, k10, k10b⟩, ⟨f11, k11, k11b⟩, ⟨f12, k12, k12b⟩, k13, k14⟩ := h
  have e0 : sN (adW S c t i o u lo) = sN S + 1 := by unfold sN; show sR S + (sW S + 1) + sP S = _; omega
  obtain ⟨w, rfl⟩ : ∃ w0, w = va_up (va_up (va_up (va_up (va_up (va_up (va_up (va_up (va_up (va_up (va_up (va_up (va_up w0 56 (aI 12 f12)) 55 (aI 12 f11)) 54 (aI 12 f10)) 53 (aI 12 f9)) 52 (aI 12 f8)) 51 (aI 12 f7)) 50 (aI 12 f6)) 49 (aI 12 f5)) 47 (aI 24 fu)) 46 (aI 24 fo)) 45 (aI 24 fn)) 44 (oKit 44 (nI (sR S)) (nI (sW S)) (nI (sP S)) (nI (sN S)))) 4 (oWL (nI t) (b01 i) (bsI o) (nI (bT S o)) (nI (bH S o)) ab_ al_ (Int32.ofInt (arU u lo)) (nI (arL u lo)) (Int64.ofInt (sX S o t i u lo)) (Int64.ofInt (sY S o t i u lo))) := ⟨w, by rw [← va_self k12, ← va_self k11, ← va_self k10, ← va_self k9, ← va_self k8, ← va_self h7, ← va_self k6, ← va_self h5, ← va_self h3, ← va_self h2, ← va_self h1, ← va_self h0, ← va_self hw4]⟩
  have hv : sW S < 12 := h4
  have at94 : ∀ w1 : ab_W, w1 44 = oKit 44 (nI (sR S)) (nI (sW S)) (nI (sP S)) (nI (sN S + 1)) → w1 4 = oWL (nI t) (b01 i) (bsI o) (nI (bT S o)) (nI (bH S o)) ab_ al_ (Int32.ofInt (arU u lo)) (nI (arL u lo)) (Int64.ofInt (sX S o t i u lo)) (Int64.ofInt (sY S o t i u lo)) → w1 52 = aI 12 f8 → w1 53 = aI 12 f9 → w1 54 = aI 12 f10 → w1 55 = aI 12 f11 → w1 56 = aI 12 f12 → ∀ Q : ab_W → Nat → Prop, (∀ w2 : ab_W, Fr (FKt 44) w1 w2 → w2 44 = oKit 44 (nI (sR S)) (nI (sW S) + nI 1) (nI (sP S)) (nI (sN S + 1)) → (∀ j, (1 ≤ j ∧ j ≤ 7) ∨ j = 13 ∨ j = 14 → w2 (44 + j) = w1 (44 + j)) → w2 52 = aI 12 (upd f8 (sW S) (sSp S o t i)) → w2 53 = aI 12 (upd f9 (sW S) (Int32.ofInt (arU u lo))) → w2 54 = aI 12 (upd f10 (sW S) (nI (arL u lo))) → w2 55 = aI 12 (upd f11 (sW S) (Int32.ofInt (sX S o t i u lo))) → w2 56 = aI 12 (upd f12 (sW S) (Int32.ofInt (sY S o t i u lo))) → Q w2 n) → ab_Ev X l i_Kit_addWheel 94 [some (.ref 44), some (.int (nI c)), some (.ref 4)] [.int (sSp S o t i), .int (nI (sW S)), .ref 52] w1 n 0 0 (qV Q) := by
    intro w1 g0 g4 g8 g9 g10 g11 g12 Q hQ
    obtain ⟨w1, rfl⟩ : ∃ w0, w1 = va_up (va_up (va_up (va_up (va_up (va_up (va_up w0 56 (aI 12 f12)) 55 (aI 12 f11)) 54 (aI 12 f10)) 53 (aI 12 f9)) 52 (aI 12 f8)) 44 (oKit 44 (nI (sR S)) (nI (sW S)) (nI (sP S)) (nI (sN S + 1)))) 4 (oWL (nI t) (b01 i) (bsI o) (nI (bT S o)) (nI (bH S o)) ab_ al_ (Int32.ofInt (arU u lo)) (nI (arL u lo)) (Int64.ofInt (sX S o t i u lo)) (Int64.ofInt (sY S o t i u lo))) := ⟨w1, by rw [← va_self g12, ← va_self g11, ← va_self g10, ← va_self g9, ← va_self g8, ← va_self g0, ← va_self g4]⟩
    refine ab_sound ok_10 [] 80 ?_
    refine And.intro (vp_in_nI hv (by omega)) ?_
    rw [nI_clamp (by omega)]
    refine And.intro (vp_in_nI hv (by omega)) ?_
    rw [nI_clamp (by omega)]
    refine And.intro (vp_in_nI hv (by omega)) ?_
    rw [nI_clamp (by omega)]
    refine And.intro (vp_in_nI hv (by omega)) ?_
    rw [nI_clamp (by omega)]
    refine And.intro (vp_in_nI hv (by omega)) ?_
    rw [nI_clamp (by omega)]
    refine ⟨rfl, hQ _ ?_ rfl (fun j hj => ?_) rfl rfl rfl ?_ ?_⟩
    · exact (((((Fr.refl.up ⟨by omega, by omega⟩).up ⟨by omega, by omega⟩).up ⟨by omega, by omega⟩).up ⟨by omega, by omega⟩).up ⟨by omega, by omega⟩).up ⟨by omega, by omega⟩
    · rw [va_un (by omega), va_un (by omega), va_un (by omega), va_un (by omega), va_un (by omega), va_un (by omega)]
    · rw [← o64_32 hX]; rfl
    · rw [← o64_32 hY]; rfl
  refine ab_mqV cd_10 om_10 rfl rfl (ab_sound ok_10 [94] 80 ?_)
  refine And.intro (fun h_9 => absurd h_9 (nI_ge h4 (by omega))) (fun _ => ?_)
  (refine Exists.intro 0 ?_; refine ⟨0, _, Nat.zero_le _, Nat.zero_le _, c_Kit_addName_44 _ _ _ (sN S) _ _ hN rfl rfl rfl rfl, ?_⟩; refine ab_q1_elim ?_)
  refine And.intro (vp_in_nI hv (by omega)) ?_
  rw [nI_clamp (by omega)]
  refine And.intro (vp_in_nI hv (by omega)) ?_
  rw [nI_clamp (by omega)]
  refine And.intro (vp_in_nI hv (by omega)) ?_
  rw [nI_clamp (by omega)]
  have fin : ∀ w1 : ab_W, Fr (FKt 44) (va_up (va_up (va_up (va_up (va_up (va_up (va_up (va_up (va_up (va_up (va_up (va_up (va_up w 56 (aI 12 f12)) 55 (aI 12 f11)) 54 (aI 12 f10)) 53 (aI 12 f9)) 52 (aI 12 f8)) 51 (aI 12 f7)) 50 (aI 12 f6)) 49 (aI 12 f5)) 47 (aI 24 fu)) 46 (aI 24 fo)) 45 (aI 24 fn)) 44 (oKit 44 (nI (sR S)) (nI (sW S)) (nI (sP S)) (nI (sN S)))) 4 (oWL (nI t) (b01 i) (bsI o) (nI (bT S o)) (nI (bH S o)) ab_ al_ (Int32.ofInt (arU u lo)) (nI (arL u lo)) (Int64.ofInt (sX S o t i u lo)) (Int64.ofInt (sY S o t i u lo)))) w1 → w1 45 = aI 24 (upd fn (sN S) (nI c)) → w1 46 = aI 24 (upd fo (sN S) (nI 1)) → w1 47 = aI 24 (upd fu (sN S) (nI (sW S))) → w1 49 = aI 12 (upd f5 (sW S) (nI t)) → w1 50 = aI 12 (upd f6 (sW S) (bsI o)) → w1 51 = aI 12 (upd f7 (sW S) (nI (bH S o))) → (∀ j, j = 4 ∨ j = 13 ∨ j = 14 → w1 (44 + j) = w (44 + j)) → ∀ w2 : ab_W, Fr (FKt 44) w1 w2 → w2 44 = oKit 44 (nI (sR S)) (nI (sW S) + nI 1) (nI (sP S)) (nI (sN S + 1)) → (∀ j, (1 ≤ j ∧ j ≤ 7) ∨ j = 13 ∨ j = 14 → w2 (44 + j) = w1 (44 + j)) → w2 52 = aI 12 (upd f8 (sW S) (sSp S o t i)) → w2 53 = aI 12 (upd f9 (sW S) (Int32.ofInt (arU u lo))) → w2 54 = aI 12 (upd f10 (sW S) (nI (arL u lo))) → w2 55 = aI 12 (upd f11 (sW S) (Int32.ofInt (sX S o t i u lo))) → w2 56 = aI 12 (upd f12 (sW S) (Int32.ofInt (sY S o t i u lo))) → n = n ∧ Fr (FKt 44) (va_up (va_up (va_up (va_up (va_up (va_up (va_up (va_up (va_up (va_up (va_up (va_up (va_up w 56 (aI 12 f12)) 55 (aI 12 f11)) 54 (aI 12 f10)) 53 (aI 12 f9)) 52 (aI 12 f8)) 51 (aI 12 f7)) 50 (aI 12 f6)) 49 (aI 12 f5)) 47 (aI 24 fu)) 46 (aI 24 fo)) 45 (aI 24 fn)) 44 (oKit 44 (nI (sR S)) (nI (sW S)) (nI (sP S)) (nI (sN S)))) 4 (oWL (nI t) (b01 i) (bsI o) (nI (bT S o)) (nI (bH S o)) ab_ al_ (Int32.ofInt (arU u lo)) (nI (arL u lo)) (Int64.ofInt (sX S o t i u lo)) (Int64.ofInt (sY S o t i u lo)))) w2 ∧ CRd w2 44 (adW S c t i o u lo) := by
    intro w1 F1 p1 p2 p3 p5 p6 p7 pj w2 F2 q0 qj q8 q9 q10 q11 q12
    have z : ∀ j, j = 4 ∨ j = 13 ∨ j = 14 → w2 (44 + j) = w (44 + j) := fun j hj => (qj j (by omega)).trans (pj j hj)
    have z0 : w2 44 = oKit 44 (nI (sR S)) (nI (sW S + 1)) (nI (sP S)) (nI (sN S + 1)) := by rw [nI_s (sW S)]; exact q0
    refine ⟨rfl, F1.trans F2, ?_, ⟨_, _, _, (qj 1 (by omega)).trans p1, (qj 2 (by omega)).trans p2, (qj 3 (by omega)).trans p3, ?_⟩, ?_, ⟨_, (qj 5 (by omega)).trans p5, up_ex (F := nI) h5b rfl⟩, ⟨_, (qj 7 (by omega)).trans p7, up_ex (F := nI) h7b rfl⟩, ⟨_, z0⟩, ⟨_, (qj 6 (by omega)).trans p6, up_ex (F := bsV) k6b rfl⟩, ⟨_, q8, up_ex (F := id) k8b rfl⟩, ⟨_, q9, up_ex (F := id) k9b rfl⟩, ⟨_, q10, up_ex (F := id) k10b rfl⟩, ⟨_, q11, up_ex (F := id) k11b rfl⟩, ⟨_, q12, up_ex (F := id) k12b rfl⟩, ?_, ?_⟩
    · rw [e0]; exact z0
    · rw [e0]; exact nm_add hn hc
    · rw [z 4 (by omega)]; exact h4a
    · rw [z 13 (by omega)]; exact k13
    · rw [z 14 (by omega)]; exact k14
  have pjj : ∀ (g1 g2 g3 g4 g5 g6 g7 : va_E) (j : Nat), j = 4 ∨ j = 13 ∨ j = 14 → va_up (va_up (va_up (va_up (va_up (va_up (va_up (va_up (va_up (va_up (va_up (va_up (va_up (va_up (va_up (va_up (va_up (va_up (va_up (va_up w 56 (aI 12 f12)) 55 (aI 12 f11)) 54 (aI 12 f10)) 53 (aI 12 f9)) 52 (aI 12 f8)) 51 (aI 12 f7)) 50 (aI 12 f6)) 49 (aI 12 f5)) 47 (aI 24 fu)) 46 (aI 24 fo)) 45 (aI 24 fn)) 44 (oKit 44 (nI (sR S)) (nI (sW S)) (nI (sP S)) (nI (sN S)))) 4 (oWL (nI t) (b01 i) (bsI o) (nI (bT S o)) (nI (bH S o)) ab_ al_ (Int32.ofInt (arU u lo)) (nI (arL u lo)) (Int64.ofInt (sX S o t i u lo)) (Int64.ofInt (sY S o t i u lo)))) 44 g1) 45 g2) 46 g3) 47 g4) 49 g5) 50 g6) 51 g7 (44 + j) = w (44 + j) := fun g1 g2 g3 g4 g5 g6 g7 j hj => by
    rcases hj with rfl | rfl | rfl <;> rfl
  have FF : ∀ (w0 : ab_W) (g1 g2 g3 g4 g5 g6 g7 : va_E), Fr (FKt 44) w0 (va_up (va_up (va_up (va_up (va_up (va_up (va_up w0 44 g1) 45 g2) 46 g3) 47 g4) 49 g5) 50 g6) 51 g7) := fun w0 g1 g2 g3 g4 g5 g6 g7 => ((((((Fr.refl.up ⟨by omega, by omega⟩).up ⟨by omega, by omega⟩).up ⟨by omega, by omega⟩).up ⟨by omega, by omega⟩).up ⟨by omega, by omega⟩).up ⟨by omega, by omega⟩).up ⟨by omega, by omega⟩
  cases i
  · refine And.intro (fun _ => ?_) (fun h_9 => absurd (rfl) h_9)
    exact ab_ev_of (at94 _ rfl rfl rfl rfl rfl rfl rfl _ (fin _ (FF _ _ _ _ _ _ _ _) rfl rfl rfl rfl rfl rfl (pjj _ _ _ _ _ _ _))) rfl rfl rfl
  · refine And.intro (fun h_9 => absurd h_9 ((by decide))) (fun _ => ?_)
    exact ab_ev_of (at94 _ rfl rfl rfl rfl rfl rfl rfl _ (fin _ (FF _ _ _ _ _ _ _ _) rfl rfl rfl rfl rfl rfl (pjj _ _ _ _ _ _ _))) rfl rfl rfl
theorem k_Kit_addWheel_59 (c t lo : Nat) (i : Bool) (o : Option (Nat × Nat)) (u : Int) (w : ab_W) (n : Nat) {x ab_ al_ : Int32} {S : KS} (hx : x = nI c) (hS : KSok S) (hc : sLo S c = none) (h4 : sW S < 12) (ho : BsOk S o) (hX : (sX S o t i u lo).natAbs < 2 ^ 31) (hY : (sY S o t i u lo).natAbs < 2 ^ 31) (h : CRd w 59 S) (hw4 : w 4 = oWL (nI t) (b01 i) (bsI o) (nI (bT S o)) (nI (bH S o)) ab_ al_ (Int32.ofInt (arU u lo)) (nI (arL u lo)) (Int64.ofInt (sX S o t i u lo)) (Int64.ofInt (sY S o t i u lo))) : ab_C X l i_Kit_addWheel [.ref 59, .int x, .ref 4] w n 0 0 (qV (fun w' n' => n = n' ∧ Fr (FKt 59) w w' ∧ CRd w' 59 (adW S c t i o u lo))) := by
  subst hx
  have hN : sN S < 24 := by have := hS.1; unfold sN; omega
  obtain ⟨h0, ⟨fn, fo, fu, h1, h2, h3, hn⟩, h4a, ⟨f5, h5, h5b⟩, ⟨f7, h7, h7b⟩, -, ⟨f6, k6, k6b⟩, ⟨f8, k8, k8b⟩, ⟨f9, k9, k9b⟩, ⟨f10, k10, k10b⟩, ⟨f11, k11, k11b⟩, ⟨f12, k12, k12b⟩, k13, k14⟩ := h
  have e0 : sN (adW S c t i o u lo) = sN S + 1 := by unfold sN; show sR S + (sW S + 1) + sP S = _; omega
  obtain ⟨w, rfl⟩ : ∃ w0, w = va_up (va_up (va_up (va_up (va_up (va_up (va_up (va_up (va_up (va_up (va_up (va_up (va_up w0 71 (aI 12 f12)) 70 (aI 12 f11)) 69 (aI 12 f10)) 68 (aI 12 f9)) 67 (aI 12 f8)) 66 (aI 12 f7)) 65 (aI 12 f6)) 64 (aI 12 f5)) 62 (aI 24 fu)) 61 (aI 24 fo)) 60 (aI 24 fn)) 59 (oKit 59 (nI (sR S)) (nI (sW S)) (nI (sP S)) (nI (sN S)))) 4 (oWL (nI t) (b01 i) (bsI o) (nI (bT S o)) (nI (bH S o)) ab_ al_ (Int32.ofInt (arU u lo)) (nI (arL u lo)) (Int64.ofInt (sX S o t i u lo)) (Int64.ofInt (sY S o t i u lo))) := ⟨w, by rw [← va_self k12, ← va_self k11, ← va_self k10, ← va_self k9, ← va_self k8, ← va_self h7, ← va_self k6, ← va_self h5, ← va_self h3, ← va_self h2, ← va_self h1, ← va_self h0, ← va_self hw4]⟩
  have hv : sW S < 12 := h4
  have at94 : ∀ w1 : ab_W, w1 59 = oKit 59 (nI (sR S)) (nI (sW S)) (nI (sP S)) (nI (sN S + 1)) → w1 4 = oWL (nI t) (b01 i) (bsI o) (nI (bT S o)) (nI (bH S o)) ab_ al_ (Int32.ofInt (arU u lo)) (nI (arL u lo)) (Int64.ofInt (sX S o t i u lo)) (Int64.ofInt (sY S o t i u lo)) → w1 67 = aI 12 f8 → w1 68 = aI 12 f9 → w1 69 = aI 12 f10 → w1 70 = aI 12 f11 → w1 71 = aI 12 f12 → ∀ Q : ab_W → Nat → Prop, (∀ w2 : ab_W, Fr (FKt 59) w1 w2 → w2 59 = oKit 59 (nI (sR S)) (nI (sW S) + nI 1) (nI (sP S)) (nI (sN S + 1)) → (∀ j, (1 ≤ j ∧ j ≤ 7) ∨ j = 13 ∨ j = 14 → w2 (59 + j) = w1 (59 + j)) → w2 67 = aI 12 (upd f8 (sW S) (sSp S o t i)) → w2 68 = aI 12 (upd f9 (sW S) (Int32.ofInt (arU u lo))) → w2 69 = aI 12 (upd f10 (sW S) (nI (arL u lo))) → w2 70 = aI 12 (upd f11 (sW S) (Int32.ofInt (sX S o t i u lo))) → w2 71 = aI 12 (upd f12 (sW S) (Int32.ofInt (sY S o t i u lo))) → Q w2 n) → ab_Ev X l i_Kit_addWheel 94 [some (.ref 59), some (.int (nI c)), some (.ref 4)] [.int (sSp S o t i), .int (nI (sW S)), .ref 67] w1 n 0 0 (qV Q) := by
    intro w1 g0 g4 g8 g9 g10 g11 g12 Q hQ
    obtain ⟨w1, rfl⟩ : ∃ w0, w1 = va_up (va_up (va_up (va_up (va_up (va_up (va_up w0 71 (aI 12 f12)) 70 (aI 12 f11)) 69 (aI 12 f10)) 68 (aI 12 f9)) 67 (aI 12 f8)) 59 (oKit 59 (nI (sR S)) (nI (sW S)) (nI (sP S)) (nI (sN S + 1)))) 4 (oWL (nI t) (b01 i) (bsI o) (nI (bT S o)) (nI (bH S o)) ab_ al_ (Int32.ofInt (arU u lo)) (nI (arL u lo)) (Int64.ofInt (sX S o t i u lo)) (Int64.ofInt (sY S o t i u lo))) := ⟨w1, by rw [← va_self g12, ← va_self g11, ← va_self g10, ← va_self g9, ← va_self g8, ← va_self g0, ← va_self g4]⟩
    refine ab_sound ok_10 [] 80 ?_
    refine And.intro (vp_in_nI hv (by omega)) ?_
    rw [nI_clamp (by omega)]
    refine And.intro (vp_in_nI hv (by omega)) ?_
    rw [nI_clamp (by omega)]
    refine And.intro (vp_in_nI hv (by omega)) ?_
    rw [nI_clamp (by omega)]
    refine And.intro (vp_in_nI hv (by omega)) ?_
    rw [nI_clamp (by omega)]
    refine And.intro (vp_in_nI hv (by omega)) ?_
    rw [nI_clamp (by omega)]
    refine ⟨rfl, hQ _ ?_ rfl (fun j hj => ?_) rfl rfl rfl ?_ ?_⟩
    · exact (((((Fr.refl.up ⟨by omega, by omega⟩).up ⟨by omega, by omega⟩).up ⟨by omega, by omega⟩).up ⟨by omega, by omega⟩).up ⟨by omega, by omega⟩).up ⟨by omega, by omega⟩
    · rw [va_un (by omega), va_un (by omega), va_un (by omega), va_un (by omega), va_un (by omega), va_un (by omega)]
    · rw [← o64_32 hX]; rfl
    · rw [← o64_32 hY]; rfl
  refine ab_mqV cd_10 om_10 rfl rfl (ab_sound ok_10 [94] 80 ?_)
  refine And.intro (fun h_9 => absurd h_9 (nI_ge h4 (by omega))) (fun _ => ?_)
  (refine Exists.intro 0 ?_; refine ⟨0, _, Nat.zero_le _, Nat.zero_le _, c_Kit_addName_59 _ _ _ (sN S) _ _ hN rfl rfl rfl rfl, ?_⟩; refine ab_q1_elim ?_)
  refine And.intro (vp_in_nI hv (by omega)) ?_
  rw [nI_clamp (by omega)]
  refine And.intro (vp_in_nI hv (by omega)) ?_
  rw [nI_clamp (by omega)]
  refine And.intro (vp_in_nI hv (by omega)) ?_
  rw [nI_clamp (by omega)]
  have fin : ∀ w1 : ab_W, Fr (FKt 59) (va_up (va_up (va_up (va_up (va_up (va_up (va_up (va_up (va_up (va_up (va_up (va_up (va_up w 71 (aI 12 f12)) 70 (aI 12 f11)) 69 (aI 12 f10)) 68 (aI 12 f9)) 67 (aI 12 f8)) 66 (aI 12 f7)) 65 (aI 12 f6)) 64 (aI 12 f5)) 62 (aI 24 fu)) 61 (aI 24 fo)) 60 (aI 24 fn)) 59 (oKit 59 (nI (sR S)) (nI (sW S)) (nI (sP S)) (nI (sN S)))) 4 (oWL (nI t) (b01 i) (bsI o) (nI (bT S o)) (nI (bH S o)) ab_ al_ (Int32.ofInt (arU u lo)) (nI (arL u lo)) (Int64.ofInt (sX S o t i u lo)) (Int64.ofInt (sY S o t i u lo)))) w1 → w1 60 = aI 24 (upd fn (sN S) (nI c)) → w1 61 = aI 24 (upd fo (sN S) (nI 1)) → w1 62 = aI 24 (upd fu (sN S) (nI (sW S))) → w1 64 = aI 12 (upd f5 (sW S) (nI t)) → w1 65 = aI 12 (upd f6 (sW S) (bsI o)) → w1 66 = aI 12 (upd f7 (sW S) (nI (bH S o))) → (∀ j, j = 4 ∨ j = 13 ∨ j = 14 → w1 (59 + j) = w (59 + j)) → ∀ w2 : ab_W, Fr (FKt 59) w1 w2 → w2 59 = oKit 59 (nI (sR S)) (nI (sW S) + nI 1) (nI (sP S)) (nI (sN S + 1)) → (∀ j, (1 ≤ j ∧ j ≤ 7) ∨ j = 13 ∨ j = 14 → w2 (59 + j) = w1 (59 + j)) → w2 67 = aI 12 (upd f8 (sW S) (sSp S o t i)) → w2 68 = aI 12 (upd f9 (sW S) (Int32.ofInt (arU u lo))) → w2 69 = aI 12 (upd f10 (sW S) (nI (arL u lo))) → w2 70 = aI 12 (upd f11 (sW S) (Int32.ofInt (sX S o t i u lo))) → w2 71 = aI 12 (upd f12 (sW S) (Int32.ofInt (sY S o t i u lo))) → n = n ∧ Fr (FKt 59) (va_up (va_up (va_up (va_up (va_up (va_up (va_up (va_up (va_up (va_up (va_up (va_up (va_up w 71 (aI 12 f12)) 70 (aI 12 f11)) 69 (aI 12 f10)) 68 (aI 12 f9)) 67 (aI 12 f8)) 66 (aI 12 f7)) 65 (aI 12 f6)) 64 (aI 12 f5)) 62 (aI 24 fu)) 61 (aI 24 fo)) 60 (aI 24 fn)) 59 (oKit 59 (nI (sR S)) (nI (sW S)) (nI (sP S)) (nI (sN S)))) 4 (oWL (nI t) (b01 i) (bsI o) (nI (bT S o)) (nI (bH S o)) ab_ al_ (Int32.ofInt (arU u lo)) (nI (arL u lo)) (Int64.ofInt (sX S o t i u lo)) (Int64.ofInt (sY S o t i u lo)))) w2 ∧ CRd w2 59 (adW S c t i o u lo) := by
    intro w1 F1 p1 p2 p3 p5 p6 p7 pj w2 F2 q0 qj q8 q9 q10 q11 q12
    have z : ∀ j, j = 4 ∨ j = 13 ∨ j = 14 → w2 (59 + j) = w (59 + j) := fun j hj => (qj j (by omega)).trans (pj j hj)
    have z0 : w2 59 = oKit 59 (nI (sR S)) (nI (sW S + 1)) (nI (sP S)) (nI (sN S + 1)) := by rw [nI_s (sW S)]; exact q0
    refine ⟨rfl, F1.trans F2, ?_, ⟨_, _, _, (qj 1 (by omega)).trans p1, (qj 2 (by omega)).trans p2, (qj 3 (by omega)).trans p3, ?_⟩, ?_, ⟨_, (qj 5 (by omega)).trans p5, up_ex (F := nI) h5b rfl⟩, ⟨_, (qj 7 (by omega)).trans p7, up_ex (F := nI) h7b rfl⟩, ⟨_, z0⟩, ⟨_, (qj 6 (by omega)).trans p6, up_ex (F := bsV) k6b rfl⟩, ⟨_, q8, up_ex (F := id) k8b rfl⟩, ⟨_, q9, up_ex (F := id) k9b rfl⟩, ⟨_, q10, up_ex (F := id) k10b rfl⟩, ⟨_, q11, up_ex (F := id) k11b rfl⟩, ⟨_, q12, up_ex (F := id) k12b rfl⟩, ?_, ?_⟩
    · rw [e0]; exact z0
    · rw [e0]; exact nm_add hn hc
    · rw [z 4 (by omega)]; exact h4a
    · rw [z 13 (by omega)]; exact k13
    · rw [z 14 (by omega)]; exact k14
  have pjj : ∀ (g1 g2 g3 g4 g5 g6 g7 : va_E) (j : Nat), j = 4 ∨ j = 13 ∨ j = 14 → va_up (va_up (va_up (va_up (va_up (va_up (va_up (va_up (va_up (va_up (va_up (va_up (va_up (va_up (va_up (va_up (va_up (va_up (va_up (va_up w 71 (aI 12 f12)) 70 (aI 12 f11)) 69 (aI 12 f10)) 68 (aI 12 f9)) 67 (aI 12 f8)) 66 (aI 12 f7)) 65 (aI 12 f6)) 64 (aI 12 f5)) 62 (aI 24 fu)) 61 (aI 24 fo)) 60 (aI 24 fn)) 59 (oKit 59 (nI (sR S)) (nI (sW S)) (nI (sP S)) (nI (sN S)))) 4 (oWL (nI t) (b01 i) (bsI o) (nI (bT S o)) (nI (bH S o)) ab_ al_ (Int32.ofInt (arU u lo)) (nI (arL u lo)) (Int64.ofInt (sX S o t i u lo)) (Int64.ofInt (sY S o t i u lo)))) 59 g1) 60 g2) 61 g3) 62 g4) 64 g5) 65 g6) 66 g7 (59 + j) = w (59 + j) := fun g1 g2 g3 g4 g5 g6 g7 j hj => by
    rcases hj with rfl | rfl | rfl <;> rfl
  have FF : ∀ (w0 : ab_W) (g1 g2 g3 g4 g5 g6 g7 : va_E), Fr (FKt 59) w0 (va_up (va_up (va_up (va_up (va_up (va_up (va_up w0 59 g1) 60 g2) 61 g3) 62 g4) 64 g5) 65 g6) 66 g7) := fun w0 g1 g2 g3 g4 g5 g6 g7 => ((((((Fr.refl.up ⟨by omega, by omega⟩).up ⟨by omega, by omega⟩).up ⟨by omega, by omega⟩).up ⟨by omega, by omega⟩).up ⟨by omega, by omega⟩).up ⟨by omega, by omega⟩).up ⟨by omega, by omega⟩
  cases i
  · refine And.intro (fun _ => ?_) (fun h_9 => absurd (rfl) h_9)
    exact ab_ev_of (at94 _ rfl rfl rfl rfl rfl rfl rfl _ (fin _ (FF _ _ _ _ _ _ _ _) rfl rfl rfl rfl rfl rfl (pjj _ _ _ _ _ _ _))) rfl rfl rfl
  · refine And.intro (fun h_9 => absurd h_9 ((by decide))) (fun _ => ?_)
    exact ab_ev_of (at94 _ rfl rfl rfl rfl rfl rfl rfl _ (fin _ (FF _ _ _ _ _ _ _ _) rfl rfl rfl rfl rfl rfl (pjj _ _ _ _ _ _ _))) rfl rfl rfl
end CWHEEL

/-! what the Statement gives at the law's start: classes, arrays, statics -/
section WRLD
theorem ar_prim {s : State} {args : Array Value} {ty : FieldType} (h : (Cond.arrayClass ty).before args s = true) : ∃ cA, ArrOfT s cA ty ∧ s.vm.findClass ("[" ++ ty.toString) = some cA := by
  obtain ⟨cA, kA, comp, h1, h2, h3⟩ := Cond.arrayClass_spec h
  exact ⟨cA, fun n z => ⟨fun k h => (by cases h), kA, h2, comp, h3⟩, h1⟩
theorem ar_obj {s : State} {args : Array Value} {C : String} (h : (Cond.arrayOver (.object C)).before args s = true) : ∃ cA, ArrOfT s cA (.object C) ∧ va_RA s cA (.object C) := by
  obtain ⟨comp, c, k, h1, h2, h3, h4, h5⟩ := Cond.arrayOver_spec h
  exact ⟨c, fun n z => ⟨fun k h => (by cases h), k, h3, comp, h4⟩, k, comp, h3, h4, h1, h5⟩
theorem ar_K {s : State} {args : Array Value} (hts : ∀ w ∈ lw_tbl, w.before args s = true) : ∃ (D : va_G) (tc : Nat → ClassId), va_K D vwCl (ab_tys tc) s := by
  obtain ⟨n0, n1, n2, n3, n4, n5, n6, n7, n8, n9, n10, n11, n12⟩ := sx_new
  obtain ⟨c0, iS0, hK0⟩ := u_known (C := RX0) (T := TX0) (N := 9) (n := 9) hts inX0 (hts _ n0)
  obtain ⟨c1, iS1, hK1⟩ := u_known (C := RX1) (T := TX1) (N := 18) (n := 18) hts inX1 (hts _ n1)
  obtain ⟨c2, iS2, hK2⟩ := u_known (C := RX2) (T := TX2) (N := 4) (n := 4) hts inX2 (hts _ n2)
  obtain ⟨c3, iS3, hK3⟩ := u_known (C := RX3) (T := TX3) (N := 9) (n := 9) hts inX3 (hts _ n3)
  obtain ⟨c4, iS4, hK4⟩ := u_known (C := RX4) (T := TX4) (N := 9) (n := 9) hts inX4 (hts _ n4)
  obtain ⟨c5, iS5, hK5⟩ := u_known (C := RX5) (T := TX5) (N := 6) (n := 6) hts inX5 (hts _ n5)
  obtain ⟨c6, iS6, hK6⟩ := u_known (C := RX6) (T := TX6) (N := 3) (n := 3) hts inX6 (hts _ n6)
  obtain ⟨c7, iS7, hK7⟩ := u_known (C := RX7) (T := TX7) (N := 4) (n := 4) hts inX7 (hts _ n7)
  obtain ⟨c8, iS8, hK8⟩ := u_known (C := RX8) (T := TX8) (N := 7) (n := 7) hts inX8 (hts _ n8)
  obtain ⟨c9, iS9, hK9⟩ := u_known (C := RX9) (T := TX9) (N := 12) (n := 12) hts inX9 (hts _ n9)
  obtain ⟨c10, iS10, hK10⟩ := u_known (C := RX10) (T := TX10) (N := 11) (n := 11) hts inX10 (hts _ n10)
  obtain ⟨c11, iS11, hK11⟩ := u_known (C := RX11) (T := TX11) (N := 14) (n := 14) hts inX11 (hts _ n11)
  obtain ⟨c12, iS12, hK12⟩ := u_known (C := RX12) (T := TX12) (N := 66) (n := 66) hts inX12 (hts _ n12)
  obtain ⟨t0, q0, r0⟩ := ar_prim (hts _ sx_arr.1)
  obtain ⟨t1, q1, r1⟩ := ar_prim (hts _ sx_arr.2.1)
  obtain ⟨t2, q2, r2⟩ := ar_prim (hts _ sx_arr.2.2.1)
  obtain ⟨t3, q3, r3⟩ := ar_obj (hts _ sx_arr.2.2.2)
  refine ⟨(fun k => [c0, c1, c2, c3, c4, c5, c6, c7, c8, c9, c10, c11, c12].getD k c0, fun k => [iS0, iS1, iS2, iS3, iS4, iS5, iS6, iS7, iS8, iS9, iS10, iS11, iS12].getD k iS0), fun k => [t0, t1, t2, t3].getD k t0, ?_, ?_⟩
  · intro k q hq
    match k, hq with
    | 0, hq => cases hq; exact hK0
    | 1, hq => cases hq; exact hK1
    | 2, hq => cases hq; exact hK2
    | 3, hq => cases hq; exact hK3
    | 4, hq => cases hq; exact hK4
    | 5, hq => cases hq; exact hK5
    | 6, hq => cases hq; exact hK6
    | 7, hq => cases hq; exact hK7
    | 8, hq => cases hq; exact hK8
    | 9, hq => cases hq; exact hK9
    | 10, hq => cases hq; exact hK10
    | 11, hq => cases hq; exact hK11
    | 12, hq => cases hq; exact hK12
    | k + 13, hq => exact absurd hq (by simp [vwCl])
  · intro k q hq
    match k, hq with
    | 0, hq => cases hq; exact ⟨q0, r0⟩
    | 1, hq => cases hq; exact ⟨q1, r1⟩
    | 2, hq => cases hq; exact ⟨q2, r2⟩
    | 3, hq => cases hq; exact ⟨q3, r3⟩
    | k + 4, hq => exact absurd hq (by simp [ab_tys])
theorem vk_Sto {N : Nat} {len : List Nat} {byt : List (List Int32)} {adK adV aK aV : Nat → Nat} {A : Nat → Prop} {U : State} {H : Heap} (h : vk_S N len byt adK adV A U H) (h1 : ∀ i, i < N → aK i = adK i) (h2 : ∀ i, i < N → aV i = adV i) : vk_S N len byt aK aV A U H := by
  refine ⟨fun i hi => ?_, fun i j hi hj e => ?_⟩
  · rw [h1 i hi, h2 i hi]
    exact h.1 i hi
  · rw [h1 i hi, h1 j hj] at e
    exact h.2 i j hi hj e
/-- known objects: the strings, the script, the strings' bytes, a static of the JDK -/
def ab_ad (adK adV : Nat → Nat) (b t j : Nat) : Nat := if j < 17 then adK j else if j = 1000 then b else if j < 2017 then adV (j - 2000) else t
theorem ar_X {s : State} {b L : Nat} {xs : Nat → Int32} (hts : ∀ w ∈ lw_tbl, w.before #[Value.ref b] s = true) (hX : va_X b L xs s s.heap) (hbl : b < s.heap.size) (hgv : (Jvm.Cond.and given_1 narrow_1).before #[Value.ref b] s = true) :
    ∃ X : ab_X, X.2.2.2.1 = L ∧ X.2.2.1 1000 = b ∧ va_K X.1 vwCl (ab_tys X.2.1) s ∧ ab_SX X (fun q => s.heap.size ≤ q) s s.heap := by
  have hfl : ∀ w ∈ ab_fl1, w.before #[Value.ref b] s = true := flat_of_before _ hgv
  have hA : ∀ a : Nat, a < s.heap.size → ¬ (fun q : Nat => s.heap.size ≤ q) a := fun a h => Nat.not_le.mpr h
  obtain ⟨D, tc, hK⟩ := ar_K hts
  obtain ⟨adK, adV, hS, hev⟩ := vk_Sof (args := #[Value.ref b]) (s := s) (N := 17) (tm := ab_tm) (len := ab_sl) (byt := ab_sb) (A := fun q => s.heap.size ≤ q) sx_31 (fun i hi => hfl _ (sx_ex i hi)) (fun i hi => hfl _ (sx_co i hi)) (fun i hi => hfl _ (sx_ar i hi)) (fun i hi => hfl _ (sx_le i hi)) (fun i hi j hj => hfl _ (sx_el i hi j hj)) (fun i j hi hj hne => (sx_ne i hi j hj hne).imp (hfl _) (hfl _)) hA
  have hZ1 : va_Z "java/lang/String" "COMPACT_STRINGS" "Z" (.int 1) (fun q => s.heap.size ≤ q) s s.heap := va_Zof (hts _ sx_lay.1) (hts _ sx_ini.1) (va_eqi (hfl _ sx_val.1)) hA
  have hZ2 : va_Zq "jdk/internal/util/Preconditions" "SIOOBE_FORMATTER" "Ljava/util/function/BiFunction;" (fun q => s.heap.size ≤ q) s s.heap := va_Zqof (hts _ sx_lay.2.1) (hts _ sx_ini.2.1) (hfl _ sx_val.2.1) hA
  have hZ3 : vx_Zq Bundle.tN "UNASSIGNED_STACK" Bundle.steD (fun q => s.heap.size ≤ q) s s.heap := vx_Zqof (hts _ sx_lay.2.2.1) (hts _ sx_ini.2.2) (hfl _ sx_val.2.2.1) hA
  have hZ4 : vx_Zq Bundle.tN "SUPPRESSED_SENTINEL" Bundle.listD (fun q => s.heap.size ≤ q) s s.heap := vx_Zqof (hts _ sx_lay.2.2.2) (hts _ sx_ini.2.2) (hfl _ sx_val.2.2.2) hA
  obtain ⟨t, hZ2⟩ : ∃ t : Nat, va_Z "jdk/internal/util/Preconditions" "SIOOBE_FORMATTER" "Ljava/util/function/BiFunction;" .null (fun q => s.heap.size ≤ q) s s.heap ∨ va_Z "jdk/internal/util/Preconditions" "SIOOBE_FORMATTER" "Ljava/util/function/BiFunction;" (.ref t) (fun q => s.heap.size ≤ q) s s.heap := by
    rcases hZ2 with h | ⟨t, h⟩
    · exact ⟨0, Or.inl h⟩
    · exact ⟨t, Or.inr h⟩
  have a1 : ∀ i, i < 17 → ab_ad adK adV b t i = adK i := fun i hi => by unfold ab_ad; rw [if_pos hi]
  have a2 : ∀ i, i < 17 → ab_ad adK adV b t (2000 + i) = adV i := fun i hi => by unfold ab_ad; rw [if_neg (by omega), if_neg (by omega), if_pos (by omega), Nat.add_sub_cancel_left]
  refine ⟨(D, tc, ab_ad adK adV b t, L, xs), rfl, rfl, hK, ?_, ⟨?_, va_AO.of (hts _ sx_arr.2.2.2), ?_⟩, ?_, hZ1, hZ2, hZ3, hZ4, ?_⟩
  · obtain ⟨scr, h1, h2, h3, h4, h5⟩ := hX
    exact ⟨scr, h1, h2, h3, Nat.le_of_eq h4.symm, by rw [h4], h5, hA b hbl⟩
  · intro w hw hn
    have h9 := hts w hw
    cases w with
    | fieldLinkNest => exact h9
    | methodLinkNest => exact h9
    | _ => exact absurd hn (by intro z; cases z)
  · intro j q hq
    have hj : j < 17 := (List.getElem?_eq_some_iff.mp hq).1
    have h9 := hev j hj
    unfold ab_tm at h9
    rw [hq] at h9
    refine vk_R.of (A := #[Value.ref b]) (hts _ (sx_st q (List.mem_of_getElem? hq))) ?_
    show _ = some (Value.ref (ab_ad adK adV b t j))
    rw [a1 j hj]
    exact h9
  · exact vk_Sto hS a1 a2
  · exact fun w hw => ab_cdm (List.all_eq_true.mp ab_thw_cd w hw) (Vm.Alike.refl s.vm) (hts w (sx_th w hw))
end WRLD

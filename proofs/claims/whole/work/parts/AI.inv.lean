/-! the law's loop: what holds between two calls -/
abbrev TD : Type := Int32 × Int32 × Int32 × (Nat → Int32) × (Nat → Int64) × (Nat → Int32) × (Nat → Int64)
abbrev XD : Type := Int32 × (Nat → Int32) × (Nat → Int32) × (Nat → Int32) × (Nat → Int32)
def CF (k : Nat) : Prop := k < 90 ∨ 135 ≤ k
def MF (k : Nat) : Prop := 90 ≤ k ∧ k ≤ 133
def KTd (w : ab_W) (T : TD) : Prop := KT w T.1 T.2.1 T.2.2.1 T.2.2.2.1 T.2.2.2.2.1 T.2.2.2.2.2.1 T.2.2.2.2.2.2
def KXd (w : ab_W) (Y : XD) : Prop := KX w Y.1 Y.2.1 Y.2.2.1 Y.2.2.2.1 Y.2.2.2.2
/-- the class's side: L bytes tb on the tape, the sheets N, R, the kit K, what was told back and made -/
def ICl (w : ab_W) (n L : Nat) (tb : Nat → Int32) (kn ks : Nat) (lf : Int32) (N : Nat → Nat) (R : Nat → Nat → Nat → Int64) (K : KA) (nr nw np : Nat) (T : TD) (Y : XD) : Prop :=
  KC w n kn ks lf N R ∧ KTd w T ∧ KXd w Y ∧ KK w kn K nr nw np ∧ (CSh w 44 ∧ CSh w 59) ∧ (isWL (w 4) ∧ ∃ a b c, w 3 = oKR a b c) ∧ CMs w ∧ (∃ b c d e f, w 1 = oTape (nI L) b c d e f) ∧ w 2 = aI 640 tb
/-- the model's side -/
def IMs (w : ab_W) (s : Nat → Int32) (wd tn : Int64) (L : Nat) (tb : Nat → Int32) (lf : Int32) (N : Nat → Nat) (R : Nat → Nat → Nat → Int64) (K : KA) (nr nw np : Nat) (T : TD) (Y : XD) : Prop :=
  MB w s wd tn N R ∧ MKs w K nr nw np ∧ MA w ∧ MMs w ∧ w 91 = aI 640 tb ∧ (∃ g, w 125 = aJ 60 g) ∧ (w 126 = aI 60 T.2.2.2.1 ∧ w 127 = aJ 60 T.2.2.2.2.1 ∧ w 128 = aZ 60 T.2.2.2.2.2.1 ∧ w 129 = aJ 60 T.2.2.2.2.2.2) ∧ (w 130 = aI 40 Y.2.1 ∧ w 131 = aI 40 Y.2.2.1 ∧ w 132 = aI 40 Y.2.2.2.1 ∧ w 133 = aI 40 Y.2.2.2.2) ∧ (s 2 = nI L ∧ s 10 = lf ∧ s 57 = T.1 ∧ s 58 = T.2.1 ∧ s 59 = T.2.2.1 ∧ s 65 = Y.1)
/-- what was told back, on both sides -/
def RelT (T S : TD) : Prop := (∃ m, m ≤ 60 ∧ T.1 = nI m ∧ S.1 = nI m ∧ ∀ i, i < m → T.2.2.2.1 i = S.2.2.2.1 i ∧ T.2.2.2.2.1 i = S.2.2.2.2.1 i ∧ T.2.2.2.2.2.1 i = S.2.2.2.2.2.1 i ∧ ∃ b : Bool, S.2.2.2.2.2.1 i = b01 b) ∧ T.2.1 = S.2.1 ∧ (T.2.1 ≠ -nI 1 → ∃ p, p ≤ 58 ∧ T.2.2.1 = nI p ∧ S.2.2.1 = nI p ∧ ∀ i, i < p → T.2.2.2.2.2.2 i = S.2.2.2.2.2.2 i)
/-- the ways of a box, on both sides -/
def RelX (Y Z : XD) : Prop := ∃ m, m ≤ 288 ∧ Y.1 = nI m ∧ Z.1 = nI (if m < 40 then m else 40) ∧ ∀ i, i < m → i < 40 → Y.2.1 i = Z.2.1 i ∧ Y.2.2.1 i = Z.2.2.1 i ∧ Y.2.2.2.1 i = Z.2.2.2.1 i ∧ Y.2.2.2.2 i = Z.2.2.2.2 i
def Kns (kn ks : Nat) : Prop := (kn = 44 ∧ ks = 59) ∨ (kn = 59 ∧ ks = 44)
/-- between two calls -/
def IV (w : ab_W) (n : Nat) : Prop := ∃ (L : Nat) (tb : Nat → Int32) (kn ks : Nat) (lf : Int32) (N : Nat → Nat) (R : Nat → Nat → Nat → Int64) (K : KA) (nr nw np : Nat) (T S : TD) (Y Z : XD) (s : Nat → Int32) (wd tn : Int64),
  (L ≤ 640 ∧ Kns kn ks) ∧ ICl w n L tb kn ks lf N R K nr nw np T Y ∧ IMs w s wd tn L tb lf N R K nr nw np S Z ∧ RelT T S ∧ RelX Y Z ∧ ∃ f, w 134 = aJ 1 f
section INV
variable {w w' : ab_W} {n n' L L' : Nat} {tb : Nat → Int32} {kn ks : Nat} {lf lf' : Int32} {N N' : Nat → Nat} {R R' : Nat → Nat → Nat → Int64} {K : KA} {nr nw np : Nat} {T S : TD} {Y Z : XD} {s s' : Nat → Int32} {wd tn wd' tn' : Int64} {F G : Nat → Prop}
theorem KB.n135 (h : KB w n kn ks lf N R) : 135 ≤ n := by
  obtain ⟨-, -, ⟨a, h0, -⟩, -⟩ := h
  exact h0
theorem MKs.fr (h : MKs w K nr nw np) (hf : Fr F w w') (hF : ∀ k, F k → ¬ (92 ≤ k ∧ k ≤ 106)) : MKs w' K nr nw np := by
  obtain ⟨h0, ⟨f1, h1⟩, ⟨f2, h2⟩, ⟨f3, h3⟩, f4, h4⟩ := h
  exact ⟨h0.fr hf hF, ⟨f1, hf.get h1 (fun z => hF _ z ⟨by omega, by omega⟩)⟩, ⟨f2, hf.get h2 (fun z => hF _ z ⟨by omega, by omega⟩)⟩, ⟨f3, hf.get h3 (fun z => hF _ z ⟨by omega, by omega⟩)⟩, f4, hf.get h4 (fun z => hF _ z ⟨by omega, by omega⟩)⟩
theorem MB.fr (h : MB w s wd tn N R) (hf : Fr F w w') (hF : ∀ k, F k → ¬ (k = 90 ∨ (111 ≤ k ∧ k ≤ 118))) : MB w' s wd tn N R := by
  obtain ⟨h0, h1, h2, ⟨f, h3⟩, ⟨g, h4⟩, k, h5⟩ := h
  exact ⟨hf.get h0 (fun z => hF _ z (by omega)), h1.fr hf (Fr.refl (F := fun _ => False)) (fun z => hF _ z (by omega)) (fun z => hF _ z (by omega)) (fun z => hF _ z (by omega)) (fun z => z) (fun z => z), h2.fr hf (fun z => hF _ z (by omega)) (fun z => hF _ z (by omega)), ⟨f, hf.get h3 (fun z => hF _ z (by omega))⟩, ⟨g, hf.get h4 (fun z => hF _ z (by omega))⟩, k, hf.get h5 (fun z => hF _ z (by omega))⟩
/-- the model's side where the class has worked -/
theorem IMs.fr (h : IMs w s wd tn L tb lf N R K nr nw np T Y) (hf : Fr F w w') (hF : ∀ k, F k → CF k) : IMs w' s wd tn L tb lf N R K nr nw np T Y := by
  obtain ⟨h1, h2, h3, h4, h5, ⟨g, h6⟩, ⟨k6, k7, k8, k9⟩, ⟨j0, j1, j2, j3⟩, h9⟩ := h
  have o : ∀ k, F k → ¬ (90 ≤ k ∧ k ≤ 134) := fun k hk => by have := hF k hk; unfold CF at this; omega
  exact ⟨h1.fr hf (fun k hk z => o k hk (by omega)), h2.fr hf (fun k hk z => o k hk (by omega)), h3.fr hf (fun k hk z => o k hk (by omega)), h4.fr hf (fun k hk z => o k hk (by omega)), hf.get h5 (fun z => o _ z (by omega)), ⟨g, hf.get h6 (fun z => o _ z (by omega))⟩, ⟨hf.get k6 (fun z => o _ z (by omega)), hf.get k7 (fun z => o _ z (by omega)), hf.get k8 (fun z => o _ z (by omega)), hf.get k9 (fun z => o _ z (by omega))⟩, ⟨hf.get j0 (fun z => o _ z (by omega)), hf.get j1 (fun z => o _ z (by omega)), hf.get j2 (fun z => o _ z (by omega)), hf.get j3 (fun z => o _ z (by omega))⟩, h9⟩
theorem IMs.fr4 (h : IMs w s wd tn L tb lf N R K nr nw np T Y) (hf : Fr F w w') (hF : ∀ k, F k → ¬ MF k) : IMs w' s wd tn L tb lf N R K nr nw np T Y := by
  obtain ⟨h1, h2, h3, h4, h5, ⟨g, h6⟩, ⟨k6, k7, k8, k9⟩, ⟨j0, j1, j2, j3⟩, h9⟩ := h
  have o : ∀ k, F k → ¬ (90 ≤ k ∧ k ≤ 133) := fun k hk => by have := hF k hk; unfold MF at this; omega
  exact ⟨h1.fr hf (fun k hk z => o k hk (by omega)), h2.fr hf (fun k hk z => o k hk (by omega)), h3.fr hf (fun k hk z => o k hk (by omega)), h4.fr hf (fun k hk z => o k hk (by omega)), hf.get h5 (fun z => o _ z (by omega)), ⟨g, hf.get h6 (fun z => o _ z (by omega))⟩, ⟨hf.get k6 (fun z => o _ z (by omega)), hf.get k7 (fun z => o _ z (by omega)), hf.get k8 (fun z => o _ z (by omega)), hf.get k9 (fun z => o _ z (by omega))⟩, ⟨hf.get j0 (fun z => o _ z (by omega)), hf.get j1 (fun z => o _ z (by omega)), hf.get j2 (fun z => o _ z (by omega)), hf.get j3 (fun z => o _ z (by omega))⟩, h9⟩
/-- the class's side where the model has worked, or the law's row -/
theorem ICl.fr (h : ICl w n L tb kn ks lf N R K nr nw np T Y) (hk : Kns kn ks) (hf : Fr F w w') (hF : ∀ k, F k → 90 ≤ k ∧ k ≤ 134) (hn : n ≤ n') : ICl w' n' L tb kn ks lf N R K nr nw np T Y := by
  obtain ⟨⟨h1, h2⟩, h3, h4, h5, ⟨h6, h7⟩, ⟨⟨t, i, bw, bt, ht, bu, bl, au, al, su, sl, h8⟩, a, b, c, h9⟩, h10, ⟨b1, c1, d1, e1, f1, h11⟩, h12⟩ := h
  have o : ∀ k, F k → ¬ (k < 90 ∨ 135 ≤ k) := fun k hk => by have := hF k hk; omega
  have hk2 : kn = 44 ∨ kn = 59 := by unfold Kns at hk; omega
  exact ⟨⟨h1.fr hf (fun k hk => ⟨fun z => o k hk (by omega), fun z => o k hk (by omega), fun z => o k hk (by unfold FRS FR FS at z; omega)⟩) hn, h2.fr hf (fun k hk z => o k hk (by unfold FP at z; omega))⟩, KT.fr h3 hf (fun k hk z => o k hk (by omega)), KX.fr h4 hf (fun k hk z => o k hk (by omega)), h5.fr hf (fun k hk => ⟨fun z => o k hk (by omega), fun z => o k hk (by omega)⟩), ⟨h6.fr hf (fun k hk z => o k hk (by unfold FKt at z; omega)), h7.fr hf (fun k hk z => o k hk (by unfold FKt at z; omega))⟩, ⟨⟨t, i, bw, bt, ht, bu, bl, au, al, su, sl, hf.get h8 (fun z => o _ z (by omega))⟩, a, b, c, hf.get h9 (fun z => o _ z (by omega))⟩, h10.fr hf (fun k hk z => o k hk (by omega)), ⟨b1, c1, d1, e1, f1, hf.get h11 (fun z => o _ z (by omega))⟩, hf.get h12 (fun z => o _ z (by omega))⟩
/-- the class has worked: sheets, pens' arms, the tape's place, the mix's parts new; the rest as it was -/
theorem ICl.mv (h : ICl w n L tb kn ks lf N R K nr nw np T Y) (hk : Kns kn ks) (hf : Fr F w w') (hF : ∀ k, F k → k = 0 ∨ k = 1 ∨ (5 ≤ k ∧ k ≤ 26) ∨ (40 ≤ k ∧ k ≤ 43) ∨ (74 ≤ k ∧ k < 90) ∨ 135 ≤ k) (hC : KC w' n' kn ks lf' N' R') (hP : KP w') (hM : CMs w') (h1 : ∃ b c d e f, w' 1 = oTape (nI L') b c d e f) : ICl w' n' L' tb kn ks lf' N' R' K nr nw np T Y := by
  obtain ⟨-, h3, h4, ⟨h5, h5b, -⟩, ⟨h6, h7⟩, ⟨⟨t, i, bw, bt, ht, bu, bl, au, al, su, sl, h8⟩, a, b, c, h9⟩, -, -, h12⟩ := h
  have o : ∀ k, F k → ¬ ((2 ≤ k ∧ k ≤ 4) ∨ (27 ≤ k ∧ k ≤ 39) ∨ (44 ≤ k ∧ k ≤ 73)) := fun k hk => by have := hF k hk; omega
  have hk2 : kn = 44 ∨ kn = 59 := by unfold Kns at hk; omega
  exact ⟨hC, KT.fr h3 hf (fun k hk z => o k hk (by omega)), KX.fr h4 hf (fun k hk z => o k hk (by omega)), ⟨h5.fr hf (fun k hk z => o k hk (by omega)), h5b, hP⟩, ⟨h6.fr hf (fun k hk z => o k hk (by unfold FKt at z; omega)), h7.fr hf (fun k hk z => o k hk (by unfold FKt at z; omega))⟩, ⟨⟨t, i, bw, bt, ht, bu, bl, au, al, su, sl, hf.get h8 (fun z => o _ z (by omega))⟩, a, b, c, hf.get h9 (fun z => o _ z (by omega))⟩, hM, h1, hf.get h12 (fun z => o _ z (by omega))⟩
/-- the model has worked: sheets, arms, sums new; the rest as it was -/
theorem IMs.mv (h : IMs w s wd tn L tb lf N R K nr nw np T Y) (hf : Fr F w w') (hg : Fr G s s') (hF : ∀ k, F k → k = 90 ∨ (107 ≤ k ∧ k ≤ 118) ∨ k = 125) (hG : ∀ k, G k → k = 0 ∨ k = 2 ∨ k = 3 ∨ k = 33 ∨ (38 ≤ k ∧ k ≤ 40)) (hB : MB w' s' wd' tn' N' R') (hA : MA w') (h125 : ∃ g, w' 125 = aJ 60 g) (h2 : s' 2 = nI L') : IMs w' s' wd' tn' L' tb lf N' R' K nr nw np T Y := by
  obtain ⟨-, h2', -, h4, h5, -, ⟨k6, k7, k8, k9⟩, ⟨j0, j1, j2, j3⟩, -, e10, e57, e58, e59, e65⟩ := h
  have o : ∀ k, F k → ¬ ((91 ≤ k ∧ k ≤ 106) ∨ (119 ≤ k ∧ k ≤ 124) ∨ 126 ≤ k) := fun k hk => by have := hF k hk; omega
  have q : ∀ k, G k → ¬ (k = 10 ∨ 57 ≤ k) := fun k hk => by have := hG k hk; omega
  exact ⟨hB, h2'.fr hf (fun k hk z => o k hk (by omega)), hA, h4.fr hf (fun k hk z => o k hk (by omega)), hf.get h5 (fun z => o _ z (by omega)), h125, ⟨hf.get k6 (fun z => o _ z (by omega)), hf.get k7 (fun z => o _ z (by omega)), hf.get k8 (fun z => o _ z (by omega)), hf.get k9 (fun z => o _ z (by omega))⟩, ⟨hf.get j0 (fun z => o _ z (by omega)), hf.get j1 (fun z => o _ z (by omega)), hf.get j2 (fun z => o _ z (by omega)), hf.get j3 (fun z => o _ z (by omega))⟩, h2, hg.get e10 (fun z => q _ z (by omega)), hg.get e57 (fun z => q _ z (by omega)), hg.get e58 (fun z => q _ z (by omega)), hg.get e59 (fun z => q _ z (by omega)), hg.get e65 (fun z => q _ z (by omega))⟩
/-- only the model's own fields -/
theorem IMs.set (h : IMs w s wd tn L tb lf N R K nr nw np T Y) (hg : Fr G s s') (hG : ∀ k, G k → k = 0 ∨ k = 2 ∨ k = 3) (h2 : s' 2 = nI L') : IMs (va_up w 90 (oMod s' wd tn)) s' wd tn L' tb lf N R K nr nw np T Y := by
  obtain ⟨g, h6⟩ := h.2.2.2.2.2.1
  have hf : Fr (fun k => k = 90) w (va_up w 90 (oMod s' wd tn)) := Fr.refl.up rfl
  exact h.mv hf hg (fun k hk => by omega) (fun k hk => by have := hG k hk; omega) (h.1.setk hg (fun z => by have := hG _ z; omega) (fun z => by have := hG _ z; omega)) (h.2.2.1.fr hf (fun k hk => by omega)) ⟨g, hf.get h6 (by omega)⟩ h2
theorem IMs.set0 (h : IMs w s wd tn L tb lf N R K nr nw np T Y) (x : Int32) : IMs (va_up w 90 (oMod (upd s 0 x) wd tn)) (upd s 0 x) wd tn L tb lf N R K nr nw np T Y :=
  h.set (G := fun k => k = 0) (Fr.refl.us rfl) (fun k hk => by omega) ((upd_ne (by omega)).trans h.2.2.2.2.2.2.2.2.1)
theorem IMs.ofQ (h : IMs w s wd tn L tb lf N R K nr nw np T Y) {th : Int32} (hq : mQ w n s wd tn th N' R' w' n') : n = n' ∧ Fr MF w w' ∧ ∃ s', s' 0 = th ∧ IMs w' s' wd tn L tb lf N' R' K nr nw np T Y := by
  obtain ⟨e, f, s', g, e0, hB⟩ := hq
  obtain ⟨g5, h6⟩ := h.2.2.2.2.2.1
  exact ⟨e, f.mono (fun k hk => by unfold MF; omega), s', e0, h.mv f g (fun k hk => by omega) (fun k hk => by omega) hB (h.2.2.1.fr f (fun k hk => by omega)) ⟨g5, f.get h6 (by omega)⟩ (g.get h.2.2.2.2.2.2.2.2.1 (by omega))⟩
theorem IMs.ofQT (h : IMs w s wd tn L tb lf N R K nr nw np T Y) (hq : mQT w n s wd tn N' R' w' n') : n = n' ∧ Fr MF w w' ∧ ∃ s', s' 0 = nI 0 ∧ IMs w' s' wd tn 0 tb lf N' R' K nr nw np T Y := by
  obtain ⟨e, f, s', g, e0, e2, hB⟩ := hq
  obtain ⟨g5, h6⟩ := h.2.2.2.2.2.1
  exact ⟨e, f.mono (fun k hk => by unfold MF; omega), s', e0, h.mv f g (fun k hk => by omega) (fun k hk => by omega) hB (h.2.2.1.fr f (fun k hk => by omega)) ⟨g5, f.get h6 (by omega)⟩ e2⟩
theorem IMs.ofZ (h : IMs w s wd tn L tb lf N R K nr nw np T Y) {th : Int32} (hq : mZ w n s wd th w' n') : n = n' ∧ Fr MF w w' ∧ ∃ s' tn', s' 0 = th ∧ IMs w' s' wd tn' L tb lf N R K nr nw np T Y := by
  obtain ⟨e, f, hA, s', tn', h90, g, e0⟩ := hq
  obtain ⟨g5, h6⟩ := h.2.2.2.2.2.1
  obtain ⟨-, h1, h2, ⟨f3, h3⟩, ⟨f4, h4⟩, f5, h5⟩ := h.1
  have hB : MB w' s' wd tn' N R := ⟨h90, h1.fr f g (by omega) (by omega) (by omega) (by omega) (by omega), h2.fr f (by omega) (by omega), ⟨f3, f.get h3 (by omega)⟩, ⟨f4, f.get h4 (by omega)⟩, f5, f.get h5 (by omega)⟩
  exact ⟨e, f.mono (fun k hk => by unfold MF; omega), s', tn', e0, h.mv f g (fun k hk => by omega) (fun k hk => by omega) hB hA ⟨g5, f.get h6 (by omega)⟩ (g.get h.2.2.2.2.2.2.2.2.1 (by omega))⟩
/-- the law's own row -/
theorem ICl.n135 (h : ICl w n L tb kn ks lf N R K nr nw np T Y) : 135 ≤ n := h.1.1.n135
theorem ICl.w0 (h : ICl w n L tb kn ks lf N R K nr nw np T Y) : w 0 = oWP kn ks lf := h.1.1.1
theorem IMs.w90 (h : IMs w s wd tn L tb lf N R K nr nw np T Y) : w 90 = oMod s wd tn := h.1.1
end INV
/-- what the class leaves for the model: its side new, the model's as it was -/
def IH (s : Nat → Int32) (wd tn : Int64) (L : Nat) (tb : Nat → Int32) (lf : Int32) (N : Nat → Nat) (R : Nat → Nat → Nat → Int64) (K : KA) (nr nw np : Nat) (S : TD) (Z : XD) (kn ks L' : Nat) (tb' : Nat → Int32) (lf' : Int32) (N' : Nat → Nat) (R' : Nat → Nat → Nat → Int64) (K' : KA) (nr' nw' np' : Nat) (T : TD) (Y : XD) (w1 : ab_W) (n1 : Nat) : Prop :=
  ICl w1 n1 L' tb' kn ks lf' N' R' K' nr' nw' np' T Y ∧ IMs w1 s wd tn L tb lf N R K nr nw np S Z ∧ ∃ f, w1 134 = aJ 1 f
/-- a call that answers with an int: the class, then the model, alike -/
def opI (X : ab_X) (l : Launch) (f g : Nat) (av : List Value) (w : ab_W) (n : Nat) : Prop := ∃ (mc ms : Nat) (M : Int32 → ab_W → Nat → Prop), mc ≤ 1 ∧ ms ≤ 3480 ∧ ab_C X l f (.ref 0 :: av) w n mc ms (fun u w1 n1 => ∃ v, u = some (.int v) ∧ M v w1 n1 ∧ ∃ kn ks lf s wd tn, w1 0 = oWP kn ks lf ∧ w1 90 = oMod s wd tn) ∧ ∀ v w1 n1, M v w1 n1 → ab_C X l g (.ref 90 :: av) w1 n1 0 0 (qI v IV)
def opL (X : ab_X) (l : Launch) (f g : Nat) (av : List Value) (w : ab_W) (n : Nat) : Prop := ∃ (mc ms : Nat) (M : Int64 → ab_W → Nat → Prop), mc ≤ 1 ∧ ms ≤ 3480 ∧ ab_C X l f (.ref 0 :: av) w n mc ms (fun u w1 n1 => ∃ v, u = some (.long v) ∧ M v w1 n1 ∧ ∃ kn ks lf s wd tn, w1 0 = oWP kn ks lf ∧ w1 90 = oMod s wd tn) ∧ ∀ v w1 n1, M v w1 n1 → ab_C X l g (.ref 90 :: av) w1 n1 0 0 (qL v IV)
/-- a call that may throw: the law's helper, then the model; vx is how the answer is told -/
def opT (X : ab_X) (l : Launch) (f g : Nat) (av : List Value) (lng : Bool) (w : ab_W) (n : Nat) : Prop := ∃ (t : Bool) (r : Int64) (M : ab_W → Nat → Prop), ab_CH X l f (.ref 0 :: (av ++ [.ref 134])) w n 1 6 (hQ (fun w1 n1 => M w1 n1 ∧ ∃ kn ks lf s wd tn, w1 0 = oWP kn ks lf ∧ w1 90 = oMod s wd tn) t r) ∧ ∀ w1 n1, M w1 n1 → ab_C X l g (.ref 90 :: av) w1 n1 0 0 (fun u w2 n2 => IV w2 n2 ∧ w2 134 = w1 134 ∧ (∃ s wd tn, w2 90 = oMod s wd tn ∧ s 0 = b01 t) ∧ match lng with
  | true => ∃ x : Int64, u = some (.long x) ∧ (t = false → x = r)
  | false => ∃ x : Int32, u = some (.int x) ∧ (t = false → x.toInt64 = r))
section OPS
variable {X : ab_X} {l : Launch} {w w' : ab_W} {n n' L L' : Nat} {tb tb' : Nat → Int32} {kn ks : Nat} {lf lf' : Int32} {N N' : Nat → Nat} {R R' : Nat → Nat → Nat → Int64} {K K' : KA} {nr nw np nr' nw' np' : Nat} {T S T' S' : TD} {Y Z Y' Z' : XD} {s s' : Nat → Int32} {wd tn wd' tn' : Int64} {F G : Nat → Prop} {f g : Nat} {av : List Value}
theorem IH.of (hc : ICl w' n' L' tb' kn ks lf' N' R' K' nr' nw' np' T Y) (hf : Fr CF w w') (hm : IMs w s wd tn L tb lf N R K nr nw np S Z) (h4 : ∃ f, w 134 = aJ 1 f) : IH s wd tn L tb lf N R K nr nw np S Z kn ks L' tb' lf' N' R' K' nr' nw' np' T Y w' n' := by
  obtain ⟨q, h4⟩ := h4
  exact ⟨hc, hm.fr hf (fun k hk => hk), q, hf.get h4 (by unfold CF; omega)⟩
theorem IH.heads (h : IH s wd tn L tb lf N R K nr nw np S Z kn ks L' tb' lf' N' R' K' nr' nw' np' T Y w n) : ∃ kn ks lf s wd tn, w 0 = oWP kn ks lf ∧ w 90 = oMod s wd tn := ⟨kn, ks, lf', s, wd, tn, h.1.w0, h.2.1.w90⟩
theorem IH.cl (hk : Kns kn ks) (h : IH s wd tn L tb lf N R K nr nw np S Z kn ks L' tb' lf' N' R' K' nr' nw' np' T Y w n) (f : Nat → Int64) : IH s wd tn L tb lf N R K nr nw np S Z kn ks L' tb' lf' N' R' K' nr' nw' np' T Y (va_up w 134 (aJ 1 f)) n := by
  have hf : Fr (fun k => k = 134) w (va_up w 134 (aJ 1 f)) := Fr.refl.up rfl
  exact ⟨h.1.fr hk hf (fun k hk => by omega) (Nat.le_refl _), h.2.1.fr4 hf (fun k hk => by unfold MF; omega), f, va_us⟩
theorem IV.after (hL : L' ≤ 640) (hk : Kns kn ks) (h : IH s wd tn L tb lf N R K nr nw np S Z kn ks L' tb' lf' N' R' K' nr' nw' np' T Y w n) (hf : Fr MF w w') (e : n = n') (hm : IMs w' s' wd' tn' L' tb' lf' N' R' K' nr' nw' np' S' Z') (hT : RelT T S') (hY : RelX Y Z') : IV w' n' := by
  obtain ⟨hc, -, q, h4⟩ := h
  exact ⟨L', tb', kn, ks, lf', N', R', K', nr', nw', np', T, S', Y, Z', s', wd', tn', ⟨hL, hk⟩, hc.fr hk hf (fun k hk => by unfold MF at hk; omega) (by omega), hm, hT, hY, q, hf.get h4 (by unfold MF; omega)⟩
/-- the class answers with v and leaves P -/
theorem opI_of {mc ms : Nat} {v : Int32} {P : ab_W → Nat → Prop} (M : ab_W → Nat → Prop) (hH : ∀ w1 n1, M w1 n1 → ∃ kn ks lf s wd tn, w1 0 = oWP kn ks lf ∧ w1 90 = oMod s wd tn) (hC : ab_C X l f (.ref 0 :: av) w n mc ms (qI v P)) (h1 : mc ≤ 1) (h2 : ms ≤ 3480) (hP : ∀ w1 n1, P w1 n1 → M w1 n1) (hM : ∀ w1 n1, M w1 n1 → ab_C X l g (.ref 90 :: av) w1 n1 0 0 (qI v IV)) : opI X l f g av w n := by
  refine ⟨mc, ms, fun v' w1 n1 => v' = v ∧ M w1 n1, h1, h2, hC.weaken ?_, ?_⟩
  · rintro _ w1 n1 ⟨rfl, hp⟩
    exact ⟨v, rfl, ⟨rfl, hP _ _ hp⟩, hH _ _ (hP _ _ hp)⟩
  · rintro _ w1 n1 ⟨rfl, hp⟩
    exact hM w1 n1 hp
theorem opL_of {mc ms : Nat} {v : Int64} {P : ab_W → Nat → Prop} (M : ab_W → Nat → Prop) (hH : ∀ w1 n1, M w1 n1 → ∃ kn ks lf s wd tn, w1 0 = oWP kn ks lf ∧ w1 90 = oMod s wd tn) (hC : ab_C X l f (.ref 0 :: av) w n mc ms (qL v P)) (h1 : mc ≤ 1) (h2 : ms ≤ 3480) (hP : ∀ w1 n1, P w1 n1 → M w1 n1) (hM : ∀ w1 n1, M w1 n1 → ab_C X l g (.ref 90 :: av) w1 n1 0 0 (qL v IV)) : opL X l f g av w n := by
  refine ⟨mc, ms, fun v' w1 n1 => v' = v ∧ M w1 n1, h1, h2, hC.weaken ?_, ?_⟩
  · rintro _ w1 n1 ⟨rfl, hp⟩
    exact ⟨v, rfl, ⟨rfl, hP _ _ hp⟩, hH _ _ (hP _ _ hp)⟩
  · rintro _ w1 n1 ⟨rfl, hp⟩
    exact hM w1 n1 hp
theorem opI_q1 {v : Int32} (hC : ab_C X l f (.ref 0 :: av) w n 0 0 (ab_q1 (some (.int v)) w n)) (h : IH s wd tn L tb lf N R K nr nw np S Z kn ks L tb lf N R K nr nw np T Y w n) (hM : ab_C X l g (.ref 90 :: av) w n 0 0 (qI v IV)) : opI X l f g av w n := by
  refine ⟨0, 0, fun v' w1 n1 => v' = v ∧ w1 = w ∧ n1 = n, Nat.zero_le _, Nat.zero_le _, hC.weaken ?_, ?_⟩
  · rintro _ w1 n1 ⟨rfl, rfl, rfl⟩
    exact ⟨v, rfl, ⟨rfl, rfl, rfl⟩, h.heads⟩
  · rintro _ w1 n1 ⟨rfl, rfl, rfl⟩
    exact hM
theorem opL_q1 {v : Int64} (hC : ab_C X l f (.ref 0 :: av) w n 0 0 (ab_q1 (some (.long v)) w n)) (h : IH s wd tn L tb lf N R K nr nw np S Z kn ks L tb lf N R K nr nw np T Y w n) (hM : ab_C X l g (.ref 90 :: av) w n 0 0 (qL v IV)) : opL X l f g av w n := by
  refine ⟨0, 0, fun v' w1 n1 => v' = v ∧ w1 = w ∧ n1 = n, Nat.zero_le _, Nat.zero_le _, hC.weaken ?_, ?_⟩
  · rintro _ w1 n1 ⟨rfl, rfl, rfl⟩
    exact ⟨v, rfl, ⟨rfl, rfl, rfl⟩, h.heads⟩
  · rintro _ w1 n1 ⟨rfl, rfl, rfl⟩
    exact hM
/-- the class's posts -/
theorem cl_KQ (h : ICl w n L tb kn ks lf N R K nr nw np T Y) (hk : Kns kn ks) (hq : KQ w n kn ks lf N' R' w' n') : ICl w' n' L tb kn ks lf N' R' K nr nw np T Y ∧ Fr CF w w' := by
  obtain ⟨-, f, hB⟩ := hq
  obtain ⟨b, c, d, e, f1, h1⟩ := h.2.2.2.2.2.2.2.1
  have o : ∀ k, FRS k → (17 ≤ k ∧ k ≤ 19) ∨ (41 ≤ k ∧ k ≤ 43) ∨ (74 ≤ k ∧ k < 90) ∨ 135 ≤ k := fun k hk => by unfold FRS FR FS at hk; omega
  exact ⟨h.mv hk f (fun k hk => by have := o k hk; omega) ⟨hB, h.1.2.fr f (fun k hk => by have := o k hk; unfold FP; omega)⟩ (h.2.2.2.1.2.2.fr f (fun k hk => by have := o k hk; omega)) (h.2.2.2.2.2.2.1.fr f (fun k hk => by have := o k hk; omega)) ⟨b, c, d, e, f1, f.get h1 (fun z => by have := o _ z; omega)⟩, f.mono (fun k hk => by have := o k hk; unfold CF; omega)⟩
theorem cl_KCQ (h : ICl w n L tb kn ks lf N R K nr nw np T Y) (hk : Kns kn ks) (hq : KCQ w n kn ks lf N' R' w' n') : ICl w' n' L tb kn ks lf N' R' K nr nw np T Y ∧ Fr CF w w' := by
  obtain ⟨-, f, hC⟩ := hq
  obtain ⟨b, c, d, e, f1, h1⟩ := h.2.2.2.2.2.2.2.1
  exact ⟨h.mv hk f (fun k hk => by unfold FA at hk; omega) hC (h.2.2.2.1.2.2.fr f (fun k hk => by unfold FA at hk; omega)) (h.2.2.2.2.2.2.1.fr f (fun k hk => by unfold FA at hk; omega)) ⟨b, c, d, e, f1, f.get h1 (by unfold FA; omega)⟩, f.mono (fun k hk => by unfold FA at hk; unfold CF; omega)⟩
theorem cl_FG (h : ICl w n L tb kn ks lf N R K nr nw np T Y) (hk : Kns kn ks) (f : Fr FG w w') (hP : KP w') : ICl w' n L tb kn ks lf N R K nr nw np T Y ∧ Fr CF w w' := by
  obtain ⟨b, c, d, e, f1, h1⟩ := h.2.2.2.2.2.2.2.1
  exact ⟨h.mv hk f (fun k hk => by unfold FG at hk; omega) ⟨h.1.1.fr f (fun k hk => by unfold FG at hk; unfold FRS FR FS; omega) (Nat.le_refl _), h.1.2.fr f (fun k hk => by unfold FG at hk; unfold FP; omega)⟩ hP (h.2.2.2.2.2.2.1.fr f (fun k hk => by unfold FG at hk; omega)) ⟨b, c, d, e, f1, f.get h1 (by unfold FG; omega)⟩, f.mono (fun k hk => by unfold FG at hk; unfold CF; omega)⟩
/-- the tape's place alone -/
theorem cl_tape (h : ICl w n L tb kn ks lf N R K nr nw np T Y) (hk : Kns kn ks) {b c d e g1 : Int32} (L' : Nat) : ICl (va_up w 1 (oTape (nI L') b c d e g1)) n L' tb kn ks lf N R K nr nw np T Y ∧ Fr CF w (va_up w 1 (oTape (nI L') b c d e g1)) := by
  have f : Fr (fun k => k = 1) w (va_up w 1 (oTape (nI L') b c d e g1)) := Fr.refl.up rfl
  exact ⟨h.mv hk f (fun k hk => by omega) ⟨h.1.1.fr f (fun k hk => by unfold FRS FR FS; omega) (Nat.le_refl _), h.1.2.fr f (fun k hk => by unfold FP; omega)⟩ (h.2.2.2.1.2.2.fr f (fun k hk => by omega)) (h.2.2.2.2.2.2.1.fr f (fun k hk => by omega)) ⟨b, c, d, e, g1, va_us⟩, f.mono (fun k hk => by unfold CF; omega)⟩
end OPS

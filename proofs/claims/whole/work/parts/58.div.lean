/-! turning rows: powers, their sums over a divisor's multiples, freeness, the least of an orbit -/
def rowsK (p : Nat) (c : List Int) : Nat → List Int → (List (List Int) → Bool) → Bool
  | 0, _, k => k []
  | m + 1, r, k => nrmL (stepRow p c r) (fun r' => rowsK p c m r' (fun L => k (r :: L)))
def rl (p : Nat) (c : List Int) : Nat → Nat → List (List Int)
  | 0, _ => []
  | m + 1, k => prow p c k :: rl p c m (k + 1)
theorem rowsK_spec (p : Nat) (c : List Int) (hp : 1 ≤ p) : ∀ (m k0 : Nat) (k : List (List Int) → Bool), rowsK p c m (prow p c k0) k = true → k (rl p c m k0) = true
  | 0, _, _, h => h
  | m + 1, k0, k, h => by
    unfold rowsK at h
    rw [← prow_step p c hp] at h
    exact rowsK_spec p c hp m (k0 + 1) _ (nrmL_spec h).1
theorem rl_at (p : Nat) (c : List Int) : ∀ (m k0 j : Nat), j < m → (rl p c m k0).getD j [] = prow p c (k0 + j)
  | 0, _, _, h => by omega
  | m + 1, k0, 0, _ => rfl
  | m + 1, k0, j + 1, h => by
    show (rl p c m (k0 + 1)).getD j [] = _
    rw [rl_at p c m (k0 + 1) j (by omega), show k0 + 1 + j = k0 + (j + 1) by omega]
def chkD (N p : Nat) (L : List (List Int)) : Bool := (List.range N).all (fun d => Nat.beq d 0 || !(Nat.beq (N % d) 0) || (List.range p).all (fun i => decide (sumZ (fun j => (L.getD (j * d) []).getD i 0) (N / d) = 0)))
theorem div0_ok : ∀ N, N ≤ 60 → 3 ≤ N → nrmL (least N) (fun c => rowsK (phi N) c N (unitRow (phi N) 0) (fun L => chkD N (phi N) L)) = true := by decide +kernel
theorem bez_ok : ∀ N, N ≤ 60 → ∀ s, s < N → 0 < s → (List.range N).any (fun k => Nat.beq ((k * s) % N) (Nat.gcd s N)) = true := by decide +kernel

/-! The relation that every call keeps: what the class holds is what the reference holds. -/
/-- the ranges of the reference's row -/
def IvS (S : Nat → Int32) (nd : Nat) : Prop :=
  IvA S nd ∧ Rg (S 0) 9999 ∧ Rg (S 1) 20 ∧ Rg (S 2) 999999 ∧ (∀ p, p < nd → Rg (S (40 + p)) 6 ∧ Rg (S (46 + p)) 9 ∧ ∀ k, k < 4 → Rg (S (52 + 4 * p + k)) 9) ∧
  (∃ hn, hn ≤ 5 ∧ S 34 = nI hn ∧ (S 39 = -1 ∨ ∃ act, act < hn ∧ S 39 = nI act)) ∧
  (∀ n, n ≤ 5 → S 35 = nI n → ∀ k, k < n → (∃ q, q < nd ∧ S (76 + k) = nI q) ∧ Rg (S (81 + k)) 20 ∧ Rg (S (86 + k)) 1) ∧
  (∀ n, n ≤ 8 → S 36 = nI n → ∀ k, k < n → Rg (S (91 + k)) 3 ∧ ((S (91 + k) = nI 1 ∨ S (91 + k) = nI 2) → ∃ q, q < nd ∧ S (99 + k) = nI q) ∧ (S (91 + k) = nI 3 → Rg (S (99 + k)) 20)) ∧
  (∀ n, n ≤ 8 → S 37 = nI n → ∀ k, k < n → (∃ q, q < nd ∧ S (107 + k) = nI q) ∧ Rg (S (115 + k)) 99) ∧
  (∀ n, n ≤ 100 → S 38 = nI n → ∀ k, k < n → Rg (S (123 + k)) 127)
/-- the whole at w of the class is the row S of the reference -/
def GS (σ : ma_H) (w : Nat) (S : Nat → Int32) (nd : Nat) (cs : List (Bool × Nat × List (Nat × Nat × Nat))) (wo : Int32) : Prop :=
  nd ≤ 6 ∧ S 33 = nI nd ∧ HOk cs ∧ HMr S cs wo ∧ IvS S nd ∧ RWh σ w S nd cs wo
def G (σ : ma_H) : Prop :=
  (∃ nd cs wo, GS σ 1 (σ 91) nd cs wo) ∧ (∀ p, p < 6 → σ (4 + 2 * p) 0 = nI p) ∧
  (∃ f, f ≤ 1 ∧ σ 0 2 = nI f ∧ σ 90 4 = nI f ∧ (f = 1 → ∃ nd cs wo, GS σ 33 (σ 92) nd cs wo)) ∧
  ∃ rn, rn ≤ 60 ∧ σ 86 1 = nI rn ∧ σ 90 13 = nI rn ∧ ∀ k, k < rn → k < 20 → σ 87 k = σ 96 k

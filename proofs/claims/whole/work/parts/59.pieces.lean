/-! The pieces of a whole, each with what it looks at. -/
def q5 (S : Nat → Int32) (nd : Nat) : Prop := ∀ p, p < nd → Rg (S (40 + p)) 6 ∧ Rg (S (46 + p)) 9 ∧ ∀ k, k < 4 → Rg (S (52 + 4 * p + k)) 9
def q6 (S : Nat → Int32) : Prop := ∃ hn, hn ≤ 5 ∧ S 34 = nI hn ∧ (S 39 = -1 ∨ ∃ act, act < hn ∧ S 39 = nI act)
def q7 (S : Nat → Int32) (nd : Nat) : Prop := ∀ n, n ≤ 5 → S 35 = nI n → ∀ k, k < n → (∃ q, q < nd ∧ S (76 + k) = nI q) ∧ Rg (S (81 + k)) 20 ∧ Rg (S (86 + k)) 1
def q8 (S : Nat → Int32) (nd : Nat) : Prop := ∀ n, n ≤ 8 → S 36 = nI n → ∀ k, k < n → Rg (S (91 + k)) 3 ∧ ((S (91 + k) = nI 1 ∨ S (91 + k) = nI 2) → ∃ q, q < nd ∧ S (99 + k) = nI q) ∧ (S (91 + k) = nI 3 → Rg (S (99 + k)) 20)
def q9 (S : Nat → Int32) (nd : Nat) : Prop := ∀ n, n ≤ 8 → S 37 = nI n → ∀ k, k < n → (∃ q, q < nd ∧ S (107 + k) = nI q) ∧ Rg (S (115 + k)) 99
def q10 (S : Nat → Int32) : Prop := ∀ n, n ≤ 100 → S 38 = nI n → ∀ k, k < n → Rg (S (123 + k)) 127
def t4 (σ : ma_H) (w : Nat) (S : Nat → Int32) : Prop := ∃ n, n ≤ 100 ∧ S 38 = nI n ∧ σ w 4 = nI n ∧ ∀ k, k < n → σ (w + 19) k = S (123 + k)
def t5 (σ : ma_H) (w : Nat) (S : Nat → Int32) : Prop := ∃ n, n ≤ 5 ∧ S 35 = nI n ∧ RRw σ (w + 20) S 76 81 n ∧ ∀ k, k < n → σ (w + 23) k = S (86 + k)
def t6 (σ : ma_H) (w : Nat) (S : Nat → Int32) : Prop := ∃ n, n ≤ 8 ∧ S 36 = nI n ∧ RRw σ (w + 24) S 91 99 n
def t7 (σ : ma_H) (w : Nat) (S : Nat → Int32) : Prop := ∃ n, n ≤ 8 ∧ S 37 = nI n ∧ RRw σ (w + 28) S 107 115 n
theorem GS_mk {σ : ma_H} {w : Nat} {S : Nat → Int32} {nd : Nat} {cs : List (Bool × Nat × List (Nat × Nat × Nat))} {wo : Int32} (h1 : nd ≤ 6) (h2 : S 33 = nI nd) (h3 : HOk cs) (h4 : HMr S cs wo) (h5 : IvA S nd) (h6 : Rg (S 0) 9999) (h7 : Rg (S 1) 20) (h8 : Rg (S 2) 999999) (h9 : q5 S nd) (h10 : q6 S) (h11 : q7 S nd) (h12 : q8 S nd) (h13 : q9 S nd) (h14 : q10 S) (h15 : RWd σ (w + 1) S nd) (h16 : HXr σ (w + 15) cs wo) (h17 : σ w 2 = S 34) (h18 : t4 σ w S) (h19 : t5 σ w S) (h20 : t6 σ w S) (h21 : t7 σ w S) : GS σ w S nd cs wo :=
  ⟨h1, h2, h3, h4, ⟨h5, h6, h7, h8, h9, h10, h11, h12, h13, h14⟩, h15, h16, h17, h18, h19, h20, h21⟩
theorem GS_open {σ : ma_H} {w : Nat} {S : Nat → Int32} {nd : Nat} {cs : List (Bool × Nat × List (Nat × Nat × Nat))} {wo : Int32} (h : GS σ w S nd cs wo) : nd ≤ 6 ∧ S 33 = nI nd ∧ HOk cs ∧ HMr S cs wo ∧ IvA S nd ∧ Rg (S 0) 9999 ∧ Rg (S 1) 20 ∧ Rg (S 2) 999999 ∧ q5 S nd ∧ q6 S ∧ q7 S nd ∧ q8 S nd ∧ q9 S nd ∧ q10 S ∧ RWd σ (w + 1) S nd ∧ HXr σ (w + 15) cs wo ∧ σ w 2 = S 34 ∧ t4 σ w S ∧ t5 σ w S ∧ t6 σ w S ∧ t7 σ w S := by
  obtain ⟨h1, h2, h3, h4, ⟨h5, h6, h7, h8, h9, h10, h11, h12, h13, h14⟩, h15, h16, h17, h18, h19, h20, h21⟩ := h
  exact ⟨h1, h2, h3, h4, h5, h6, h7, h8, h9, h10, h11, h12, h13, h14, h15, h16, h17, h18, h19, h20, h21⟩
theorem q5c {S S' : Nat → Int32} {nd : Nat} (hn : nd ≤ 6) (e : ∀ k, 40 ≤ k → k < 76 → S' k = S k) (h : q5 S nd) : q5 S' nd := by
  intro p hp
  rw [e _ (by omega) (by omega), e _ (by omega) (by omega)]
  exact ⟨(h p hp).1, (h p hp).2.1, fun k hk => by rw [e _ (by omega) (by omega)]; exact (h p hp).2.2 k hk⟩
theorem q6c {S S' : Nat → Int32} (e1 : S' 34 = S 34) (e2 : S' 39 = S 39) (h : q6 S) : q6 S' := by
  unfold q6; rw [e1, e2]; exact h
theorem q7c {S S' : Nat → Int32} {nd nd' : Nat} (hn : nd ≤ nd') (e1 : S' 35 = S 35) (e : ∀ k, 76 ≤ k → k < 91 → S' k = S k) (h : q7 S nd) : q7 S' nd' := by
  intro n h1 hs k hk
  rw [e1] at hs
  rw [e _ (by omega) (by omega), e _ (by omega) (by omega), e _ (by omega) (by omega)]
  obtain ⟨⟨q, hq, hq'⟩, hr⟩ := h n h1 hs k hk
  exact ⟨⟨q, by omega, hq'⟩, hr⟩
theorem q8c {S S' : Nat → Int32} {nd nd' : Nat} (hn : nd ≤ nd') (e1 : S' 36 = S 36) (e : ∀ k, 91 ≤ k → k < 107 → S' k = S k) (h : q8 S nd) : q8 S' nd' := by
  intro n h1 hs k hk
  rw [e1] at hs
  rw [e _ (by omega) (by omega), e _ (by omega) (by omega)]
  obtain ⟨g1, g2, g3⟩ := h n h1 hs k hk
  refine ⟨g1, fun hx => ?_, g3⟩
  obtain ⟨q, hq, hq'⟩ := g2 hx
  exact ⟨q, by omega, hq'⟩
theorem q9c {S S' : Nat → Int32} {nd nd' : Nat} (hn : nd ≤ nd') (e1 : S' 37 = S 37) (e : ∀ k, 107 ≤ k → k < 123 → S' k = S k) (h : q9 S nd) : q9 S' nd' := by
  intro n h1 hs k hk
  rw [e1] at hs
  rw [e _ (by omega) (by omega), e _ (by omega) (by omega)]
  obtain ⟨⟨q, hq, hq'⟩, hr⟩ := h n h1 hs k hk
  exact ⟨⟨q, by omega, hq'⟩, hr⟩
theorem q10c {S S' : Nat → Int32} (e1 : S' 38 = S 38) (e : ∀ k, 123 ≤ k → k < 223 → S' k = S k) (h : q10 S) : q10 S' := by
  intro n h1 hs k hk
  rw [e1] at hs
  rw [e _ (by omega) (by omega)]
  exact h n h1 hs k hk
theorem t4c {σ σ' : ma_H} {w : Nat} {S S' : Nat → Int32} (a1 : σ' w 4 = σ w 4) (a2 : σ' (w + 19) = σ (w + 19)) (e1 : S' 38 = S 38) (e : ∀ k, 123 ≤ k → k < 223 → S' k = S k) (h : t4 σ w S) : t4 σ' w S' := by
  obtain ⟨n, g1, g2, g3, g4⟩ := h
  exact ⟨n, g1, e1.trans g2, a1.trans g3, fun k hk => by rw [a2, e _ (by omega) (by omega)]; exact g4 k hk⟩
theorem RRwc {σ σ' : ma_H} {r b1 b2 n m : Nat} {S S' : Nat → Int32} (hm : n ≤ m) (e1 : ∀ k, k < m → S' (b1 + k) = S (b1 + k)) (e2 : ∀ k, k < m → S' (b2 + k) = S (b2 + k)) (e : ∀ o, r ≤ o → o ≤ r + 3 → σ' o = σ o) (h : RRw σ r S b1 b2 n) : RRw σ' r S' b1 b2 n := by
  refine ⟨by rw [e _ (by omega) (by omega)]; exact h.1, fun k hk => ?_⟩
  rw [e _ (by omega) (by omega), e _ (by omega) (by omega), e _ (by omega) (by omega), e1 _ (by omega), e2 _ (by omega)]
  exact h.2 k hk
theorem t5c {σ σ' : ma_H} {w : Nat} {S S' : Nat → Int32} (a : ∀ o, w + 20 ≤ o → o ≤ w + 23 → σ' o = σ o) (e1 : S' 35 = S 35) (e : ∀ k, 76 ≤ k → k < 91 → S' k = S k) (h : t5 σ w S) : t5 σ' w S' := by
  obtain ⟨n, g1, g2, g3, g4⟩ := h
  exact ⟨n, g1, e1.trans g2, RRwc g1 (fun k hk => e _ (by omega) (by omega)) (fun k hk => e _ (by omega) (by omega)) (fun o h1 h2 => a o (by omega) (by omega)) g3, fun k hk => by rw [a _ (by omega) (by omega), e _ (by omega) (by omega)]; exact g4 k hk⟩
theorem t6c {σ σ' : ma_H} {w : Nat} {S S' : Nat → Int32} (a : ∀ o, w + 24 ≤ o → o ≤ w + 27 → σ' o = σ o) (e1 : S' 36 = S 36) (e : ∀ k, 91 ≤ k → k < 107 → S' k = S k) (h : t6 σ w S) : t6 σ' w S' := by
  obtain ⟨n, g1, g2, g3⟩ := h
  exact ⟨n, g1, e1.trans g2, RRwc g1 (fun k hk => e _ (by omega) (by omega)) (fun k hk => e _ (by omega) (by omega)) (fun o h1 h2 => a o (by omega) (by omega)) g3⟩
theorem t7c {σ σ' : ma_H} {w : Nat} {S S' : Nat → Int32} (a : ∀ o, w + 28 ≤ o → o ≤ w + 31 → σ' o = σ o) (e1 : S' 37 = S 37) (e : ∀ k, 107 ≤ k → k < 123 → S' k = S k) (h : t7 σ w S) : t7 σ' w S' := by
  obtain ⟨n, g1, g2, g3⟩ := h
  exact ⟨n, g1, e1.trans g2, RRwc g1 (fun k hk => e _ (by omega) (by omega)) (fun k hk => e _ (by omega) (by omega)) (fun o h1 h2 => a o (by omega) (by omega)) g3⟩
theorem hM_c2 {S S' : Nat → Int32} (h : ∀ k, 233 ≤ k → S' k = S k) (cs : List (Bool × Nat × List (Nat × Nat × Nat))) : ∀ f, 233 ≤ f → hM S f cs → hM S' f cs := by
  induction cs with
  | nil => intro f hf hm; trivial
  | cons l r ih =>
    intro f hf hm
    obtain ⟨g1, g2, g3⟩ := hm
    exact ⟨fun i hi => by rw [h _ (by omega)]; exact g1 i hi, by rw [h _ (by omega)]; exact g2, ih _ (by omega) g3⟩
theorem HMr_c2 {S S' : Nat → Int32} {cs : List (Bool × Nat × List (Nat × Nat × Nat))} {wo : Int32} (h39 : S' 39 = S 39) (h : ∀ k, 223 ≤ k → S' k = S k) (hm : HMr S cs wo) : HMr S' cs wo := by
  rcases hm with ⟨g1, g2, g3⟩ | ⟨act, g1, g2, g3, g4, g5⟩
  · exact .inl ⟨by rw [h39]; exact g1, g2, g3⟩
  · exact .inr ⟨act, g1, by rw [h39]; exact g2, by rw [h _ (by omega)]; exact g3, by rw [h _ (by omega)]; exact g4, hM_c2 (fun k hk => h k (by omega)) cs _ (by omega) g5⟩
theorem vD_c {S S' : Nat → Int32} {nd p : Nat} (hn : nd ≤ 6) (hp : p < nd) (e : ∀ k, 3 ≤ k → k < 33 → S' k = S k) (e2 : ∀ k, 40 ≤ k → k < 52 → S' k = S k) (j : Nat) : vD S' p j = vD S p j := by
  unfold vD
  rw [e2 _ (by omega) (by omega), e2 _ (by omega) (by omega), e _ (by omega) (by omega), e _ (by omega) (by omega), e _ (by omega) (by omega), e _ (by omega) (by omega), e _ (by omega) (by omega)]
theorem IvAc {S S' : Nat → Int32} {nd : Nat} (hn : nd ≤ 6) (e : ∀ k, 3 ≤ k → k < 33 → S' k = S k) (e2 : ∀ k, 40 ≤ k → k < 52 → S' k = S k) (h : IvA S nd) : IvA S' nd :=
  fun p hp => IvD_congr (fun j _ => vD_c hn hp e e2 j) (h p hp)
theorem RWdc {σ σ' : ma_H} {w nd : Nat} {S S' : Nat → Int32} (hn : nd ≤ 6) (a : ∀ o, w ≤ o → o ≤ w + 13 → σ' o = σ o) (e : ∀ k, k < 33 → S' k = S k) (e2 : ∀ k, 40 ≤ k → k < 76 → S' k = S k) (h : RWd σ w S nd) : RWd σ' w S' nd := by
  obtain ⟨w1, w2, w3, w4, w5⟩ := RWd_congr hn a h
  refine ⟨w1, by rw [e 1 (by decide)]; exact w2, by rw [e 0 (by decide)]; exact w3, by rw [e 2 (by decide)]; exact w4, fun p hp => ?_⟩
  obtain ⟨d1, d2⟩ := w5 p hp
  exact ⟨fun j hj => by rw [vD_c hn hp (fun k _ h2 => e k h2) (fun k h1 h2 => e2 k h1 (by omega))]; exact d1 j hj, fun j hj => by rw [show vR S' p j = S' (52 + 4 * p + j) from rfl, e2 _ (by omega) (by omega)]; exact d2 j hj⟩

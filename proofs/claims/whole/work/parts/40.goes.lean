/-! All deeds of a row go a morning, on both sides. -/
theorem ma_iter {α β : Type} (A : α → β) (I : Nat → α → Prop) (n : Nat) (h : ∀ k, k < n → ∀ x, I k x → ∃ y, A x = A y ∧ I (k + 1) y) : ∀ x, I 0 x → ∃ y, A x = A y ∧ I n y := by
  induction n with
  | zero => intro x hx; exact ⟨x, rfl, hx⟩
  | succ n ih =>
    intro x hx
    obtain ⟨y, e1, hy⟩ := ih (fun k hk => h k (by omega)) x hx
    obtain ⟨z, e2, hz⟩ := h n (by omega) y hy
    exact ⟨z, e1.trans e2, hz⟩
def sHi (S S' : Nat → Int32) : Prop := ∀ k, 33 ≤ k → S' k = S k
theorem hM_congr {S S' : Nat → Int32} (h : sHi S S') (cs : List (Bool × Nat × List (Nat × Nat × Nat))) : ∀ f, 33 ≤ f → hM S f cs → hM S' f cs := by
  induction cs with
  | nil => intro f hf hm; trivial
  | cons l r ih =>
    intro f hf hm
    obtain ⟨g1, g2, g3⟩ := hm
    exact ⟨fun i hi => by rw [h _ (by omega)]; exact g1 i hi, by rw [h _ (by omega)]; exact g2, ih _ (by omega) g3⟩
theorem HMr_congr {S S' : Nat → Int32} {cs : List (Bool × Nat × List (Nat × Nat × Nat))} {wo : Int32} (h : sHi S S') (hm : HMr S cs wo) : HMr S' cs wo := by
  rcases hm with ⟨g1, g2, g3⟩ | ⟨act, g1, g2, g3, g4, g5⟩
  · exact .inl ⟨by rw [h 39 (by decide)]; exact g1, g2, g3⟩
  · exact .inr ⟨act, g1, by rw [h 39 (by decide)]; exact g2, by rw [h _ (by omega)]; exact g3, by rw [h _ (by omega)]; exact g4, hM_congr h cs _ (by omega) g5⟩
def upS (S : Nat → Int32) (k : Nat) (v : Int32) (j : Nat) : Int32 := if j = k then v else S j
theorem up_S (σ : ma_H) (o k : Nat) (v : Int32) : ma_up σ o k v o = upS (σ o) k v := by
  funext j; simp only [ma_up, upS, true_and]
theorem setD_hi (S : Nat → Int32) (p : Nat) (hp : p < 6) (D : Nat → Int32) : sHi S (setD S p D) := by
  intro k hk
  unfold setD
  rw [if_neg (by omega), if_neg (by omega), if_neg (by omega), if_neg (by omega), if_neg (by omega)]
theorem setD_lo (S : Nat → Int32) (p : Nat) (D : Nat → Int32) (k : Nat) (hk : k < 3) : setD S p D k = S k := by
  unfold setD
  rw [if_neg (by omega), if_neg (by omega), if_neg (by omega), if_neg (by omega), if_neg (by omega)]
/-- what one deed's morning makes of the row -/
def stG (cs : List (Bool × Nat × List (Nat × Nat × Nat))) (mm p : Nat) (S : Nat → Int32) : Nat → Int32 := setD S p (goD (vD S p) (careD cs (vD S p) (vR S p) mm) (S 1))
def stH (cs : List (Bool × Nat × List (Nat × Nat × Nat))) (mm p : Nat) (S : Nat → Int32) : Nat → Int32 := upS (stG cs mm p S) 2 (stG cs mm p S 2 + stG cs mm p S (3 + p) * (stG cs mm p S (46 + p) + nI 1))
def stL (cs : List (Bool × Nat × List (Nat × Nat × Nat))) (mm : Nat) : Nat → (Nat → Int32) → (Nat → Int32)
  | 0, S => S
  | k + 1, S => stH cs mm k (stL cs mm k S)
/-- a whole morning -/
def stM (cs : List (Bool × Nat × List (Nat × Nat × Nat))) (mm nd : Nat) (S : Nat → Int32) : Nat → Int32 := upS (stL cs mm nd S) 0 (nI (mm + 1))
theorem stH_hi (cs : List (Bool × Nat × List (Nat × Nat × Nat))) (mm p : Nat) (hp : p < 6) (S : Nat → Int32) : sHi S (stH cs mm p S) := by
  intro k hk
  unfold stH upS
  rw [if_neg (by omega)]
  exact setD_hi S p hp _ k hk
theorem stL_hi (cs : List (Bool × Nat × List (Nat × Nat × Nat))) (mm : Nat) (S : Nat → Int32) : ∀ n, n ≤ 6 → sHi S (stL cs mm n S) := by
  intro n
  induction n with
  | zero => intro _ k _; rfl
  | succ n ih => intro hn k hk; exact (stH_hi cs mm n (by omega) _ k hk).trans (ih (by omega) k hk)
theorem stH_01 (cs : List (Bool × Nat × List (Nat × Nat × Nat))) (mm p : Nat) (S : Nat → Int32) : stH cs mm p S 0 = S 0 ∧ stH cs mm p S 1 = S 1 := by
  unfold stH upS
  exact ⟨setD_lo S p _ 0 (by decide), setD_lo S p _ 1 (by decide)⟩
theorem stL_01 (cs : List (Bool × Nat × List (Nat × Nat × Nat))) (mm : Nat) (S : Nat → Int32) : ∀ n, stL cs mm n S 0 = S 0 ∧ stL cs mm n S 1 = S 1 := by
  intro n
  induction n with
  | zero => exact ⟨rfl, rfl⟩
  | succ n ih => exact ⟨(stH_01 cs mm n _).1.trans ih.1, (stH_01 cs mm n _).2.trans ih.2⟩
theorem V139 {ro : ma_RO} {d : Nat} (σ : ma_H) (cs : List (Bool × Nat × List (Nat × Nat × Nat))) (wo : Int32) (hM' : HMr (σ 91) cs wo) (hO : HOk cs) (nd mm : Nat) (hn : nd ≤ 6) (h33 : σ 91 33 = nI nd) (hmm : mm < 2 ^ 31) (h0 : σ 91 0 = nI mm) :
    ∃ σ', ma_ev ro (d + 4) 139 [.ref 90] SH σ = some (none, SH, σ') ∧ σ' 91 = stM cs mm nd (σ 91) ∧ ∀ a, ¬ a = 91 → ¬ a = 94 → ¬ a = 95 → σ' a = σ a := by
  obtain ⟨⟨l', σ'⟩, e, hl, hσ, r⟩ := ma_iter (fun x : ma_L × ma_H => ma_rn ro (d + 4) 139 (2, x.1, [], SH, x.2)) (fun k x => x.1 = [some (.ref 90), some (.int (nI k))] ∧ x.2 91 = stL cs mm k (σ 91) ∧ ∀ a, ¬ a = 91 → ¬ a = 94 → ¬ a = 95 → x.2 a = σ a) nd (by
    rintro k hk ⟨l, s⟩ ⟨hl, hs, r⟩
    simp only at hl hs r
    subst hl
    have hi := stL_hi cs mm (σ 91) k (by omega)
    have h01 := stL_01 cs mm (σ 91) k
    have s33 : s 91 33 = nI nd := by rw [hs, hi 33 (by decide)]; exact h33
    obtain ⟨s1, e1, q1, r1⟩ := V138 (ro := ro) (d := d) s cs wo (by rw [hs]; exact HMr_congr hi hM') hO k mm (by omega) hmm (by rw [hs, h01.1]; exact h0)
    have q1' : s1 91 = stG cs mm k (stL cs mm k (σ 91)) := by rw [q1, hs]; rfl
    have p1 : 3 + k < 933 := by omega
    have p2 : 46 + k < 933 := by omega
    refine ⟨([some (.ref 90), some (.int (nI (k + 1)))], ma_up s1 91 2 (s1 91 2 + s1 91 (3 + k) * (s1 91 (46 + k) + nI 1))), ?_, rfl, ?_, ?_⟩
    · simp only
      rw [Sh139_2]
      simp (disch := first | assumption | omega | exact zb_fit | (simp (disch := omega) only [up_no, up_nk, up_at, u_cp_no] <;> (first | assumption | omega)) | (simp only [hkF] <;> omega) | decide) only [S139, s33, z_lt, hk, e1, hkF, z_add, z_mul, up_at, up_no, up_nk, u_cp_no, ma_bd, if_true, if_false, Option.toList, List.nil_append, List.cons_append]
    · show ma_up s1 91 2 _ 91 = stH cs mm k (stL cs mm k (σ 91))
      rw [up_S, q1']; rfl
    · intro a h1 h2 h3
      show ma_up s1 91 2 _ a = σ a
      rw [up_no h1, r1 a h1 h2 h3]; exact r a h1 h2 h3) ([some (.ref 90), some (.int (nI 0))], σ) ⟨rfl, rfl, fun _ _ _ _ => rfl⟩
  simp only at e hl hσ r
  subst hl
  have h01 := stL_01 cs mm (σ 91) nd
  have s33 : σ' 91 33 = nI nd := by rw [hσ, stL_hi cs mm (σ 91) nd hn 33 (by decide)]; exact h33
  have s0 : σ' 91 0 = nI mm := by rw [hσ, h01.1]; exact h0
  refine ⟨ma_up σ' 91 0 (nI (mm + 1)), ?_, ?_, ?_⟩
  · simp (disch := first | assumption | omega | exact zb_fit | (simp (disch := omega) only [up_no, up_nk, up_at, u_cp_no] <;> (first | assumption | omega)) | (simp only [hkF] <;> omega) | decide) only [E139, S139, hkF, z_add, z_mul, up_at, up_no, up_nk, u_cp_no, ma_bd, if_true, if_false, Option.toList, List.nil_append, List.cons_append]
    rw [e, Sh139_2]
    simp (disch := first | assumption | omega | exact zb_fit | (simp (disch := omega) only [up_no, up_nk, up_at, u_cp_no] <;> (first | assumption | omega)) | (simp only [hkF] <;> omega) | decide) only [S139, s33, z_lt, Nat.lt_irrefl, s0, hkF, z_add, z_mul, up_at, up_no, up_nk, u_cp_no, ma_bd, if_true, if_false, Option.toList, List.nil_append, List.cons_append]
  · rw [up_S, hσ]; rfl
  · intro a h1 h2 h3; rw [up_no h1]; exact r a h1 h2 h3

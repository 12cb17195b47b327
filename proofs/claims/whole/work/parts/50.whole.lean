/-! A whole of the class shows a row of the reference. -/
theorem V39 {ro : ma_RO} {d : Nat} (σ : ma_H) (r n k : Nat) (x y z : Int32) (kr : hkRw r n) (hk : k < n) (hs : σ r 3 = nI k) (hz : Rg z 1) : ma_ev ro (d + 2) 39 [.ref r, .int x, .int y, .int z] SH σ = some (some (.int (nI 1)), SH, ma_up (ma_up (ma_up (ma_up σ (r + 1) k x) (r + 2) k y) (r + 3) k z) r 3 (nI (k + 1))) := by
  have e := V38 (ro := ro) (d := d + 1) σ r n k kr hk
  have e2 := V40 (ro := ro) (d := d) σ r n k x y z kr hk (nar_Rg hz)
  have kr1 := kr.1
  simp (disch := first | assumption | omega | exact zb_fit | (simp (disch := omega) only [up_no, up_nk, up_at, u_cp_no] <;> (first | assumption | omega)) | (simp only [hkF] <;> omega) | decide) only [E39, S39, hs, e, e2, z_eq, Nat.reduceEqDiff, hkF, z_add, z_mul, up_at, up_no, up_nk, u_cp_no, ma_bd, if_true, if_false, Option.toList, List.nil_append, List.cons_append]
theorem V39n {ro : ma_RO} {d : Nat} (σ : ma_H) (r n : Nat) (x y z : Int32) (kr : hkRw r n) (hs : σ r 3 = nI n) : ma_ev ro (d + 1) 39 [.ref r, .int x, .int y, .int z] SH σ = some (some (.int (nI 0)), SH, σ) := by
  have e := V38n (ro := ro) (d := d) σ r n kr
  have kr1 := kr.1
  simp (disch := first | assumption | omega | exact zb_fit | (simp (disch := omega) only [up_no, up_nk, up_at, u_cp_no] <;> (first | assumption | omega)) | (simp only [hkF] <;> omega) | decide) only [E39, S39, hs, e, hkF, z_add, z_mul, up_at, up_no, up_nk, u_cp_no, ma_bd, if_true, if_false, Option.toList, List.nil_append, List.cons_append]
def hkWh (w : Nat) : Prop := hk_cls w = 5 ∧ hkWd (w + 1) ∧ hkHs (w + 15) ∧ hk_len (w + 19) = 100 ∧ hk_alen (w + 19) = 100 ∧ hkRw (w + 20) 5 ∧ hkRw (w + 24) 8 ∧ hkRw (w + 28) 8
theorem hkWh_1 : hkWh 1 := by
  refine ⟨rfl, ⟨rfl, rfl, rfl, fun p hp => ?_⟩, ⟨rfl, rfl, rfl, rfl, rfl, rfl, rfl⟩, rfl, rfl, ⟨rfl, rfl, rfl, rfl, rfl, rfl, rfl, by decide, by decide⟩, ⟨rfl, rfl, rfl, rfl, rfl, rfl, rfl, by decide, by decide⟩, ⟨rfl, rfl, rfl, rfl, rfl, rfl, rfl, by decide, by decide⟩⟩
  have := hkD p hp
  exact ⟨this.1, this.2.1, this.2.2.2.2.2.2.1⟩
theorem hkWh_33 : hkWh 33 := by
  refine ⟨rfl, ⟨rfl, rfl, rfl, fun p hp => ?_⟩, ⟨rfl, rfl, rfl, rfl, rfl, rfl, rfl⟩, rfl, rfl, ⟨rfl, rfl, rfl, rfl, rfl, rfl, rfl, by decide, by decide⟩, ⟨rfl, rfl, rfl, rfl, rfl, rfl, rfl, by decide, by decide⟩, ⟨rfl, rfl, rfl, rfl, rfl, rfl, rfl, by decide, by decide⟩⟩
  have := hkD p hp
  exact ⟨this.2.2.1, this.2.2.2.1, this.2.2.2.2.2.2.2.1⟩
theorem hkWd_70 : hkWd 70 := by
  refine ⟨rfl, rfl, rfl, fun p hp => ?_⟩
  have := hkD p hp
  exact ⟨this.2.2.2.2.1, this.2.2.2.2.2.1, this.2.2.2.2.2.2.2.2⟩
/-- told rows of the class at r: n of them, as the reference's rows from b1, b2, (b3) on -/
def RRw (σ : ma_H) (r : Nat) (S : Nat → Int32) (b1 b2 n : Nat) : Prop := σ r 3 = nI n ∧ ∀ k, k < n → σ (r + 1) k = S (b1 + k) ∧ σ (r + 2) k = S (b2 + k) ∧ Rg (σ (r + 3) k) 1
def RWh (σ : ma_H) (w : Nat) (S : Nat → Int32) (nd : Nat) (cs : List (Bool × Nat × List (Nat × Nat × Nat))) (wo : Int32) : Prop :=
  RWd σ (w + 1) S nd ∧ HXr σ (w + 15) cs wo ∧ σ w 2 = S 34 ∧ (∃ n, n ≤ 100 ∧ S 38 = nI n ∧ σ w 4 = nI n ∧ ∀ k, k < n → σ (w + 19) k = S (123 + k)) ∧
  (∃ n, n ≤ 5 ∧ S 35 = nI n ∧ RRw σ (w + 20) S 76 81 n ∧ ∀ k, k < n → σ (w + 23) k = S (86 + k)) ∧ (∃ n, n ≤ 8 ∧ S 36 = nI n ∧ RRw σ (w + 24) S 91 99 n) ∧ (∃ n, n ≤ 8 ∧ S 37 = nI n ∧ RRw σ (w + 28) S 107 115 n)

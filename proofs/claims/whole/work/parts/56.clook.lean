/-! Calls that keep the relation: look, doubt; a deed's number asked on both sides. -/
theorem V103p {ro : ma_RO} {d : Nat} (σ : ma_H) (k nd : Nat) (hn : nd ≤ 6) (h33 : σ 91 33 = nI nd) (hk : k < nd) : ma_ev ro (d + 1) 103 [.ref 90, .int (nI k)] SH σ = some (some (.int (nI 1)), SH, σ) := by
  rw [V103, h33, z_sub (show 1 ≤ nd by omega), zb_t]
  rw [z_lt (by omega) (by decide), z_lt (by omega) (by omega)]
  exact ⟨by omega, by omega⟩
theorem V103n {ro : ma_RO} {d : Nat} (σ : ma_H) (x : Int32) (nd : Nat) (hn : nd ≤ 6) (h33 : σ 91 33 = nI nd) (hx : x < nI 0 ∨ ¬ x < nI nd) : ma_ev ro (d + 1) 103 [.ref 90, .int x] SH σ = some (some (.int (nI 0)), SH, σ) := by
  rw [V103, h33, zb_f]
  rintro ⟨h1, h2⟩
  have h3 : ¬ x < nI nd := by rcases hx with h | h; exact absurd h h1; exact h
  apply h2
  rw [Int32.lt_iff_toInt_lt] at h1 h3 ⊢
  rw [nI_toInt (by omega)] at h3
  rw [z0_toInt] at h1
  by_cases h0 : nd = 0
  · subst h0
    rw [show (nI 0 - nI 1).toInt = -1 by decide]; omega
  · rw [z_sub (show 1 ≤ nd by omega), nI_toInt (by omega)]; omega

theorem V106 {ro : ma_RO} {d : Nat} (σ : ma_H) : ma_ev ro d 106 [.ref 90] SH σ = some (none, SH, u_cp σ 91 93 33) := by
  have H : ∀ k, k < 33 → ma_rn ro d 106 (2, [some (.ref 90), some (.int (nI k))], [], SH, u_cp σ 91 93 k) = ma_rn ro d 106 (2, [some (.ref 90), some (.int (nI (k + 1)))], [], SH, u_cp σ 91 93 (k + 1)) := by
    intro k hk
    rw [Sh106_2]
    simp (disch := first | assumption | omega | exact zb_fit | exact hbf .. | (simp (disch := omega) only [up_no, up_nk, up_at, u_cp_no] <;> (first | assumption | omega)) | (simp only [hkF] <;> omega) | decide) only [S106, z_lt, hk, u_cpS, hkF, z_add, z_mul, up_at, up_no, up_nk, u_cp_no, ma_bd, ↓reduceIte, if_true, if_false, Option.toList, List.nil_append, List.cons_append]
  simp (disch := first | assumption | omega | exact zb_fit | exact hbf .. | (simp (disch := omega) only [up_no, up_nk, up_at, u_cp_no] <;> (first | assumption | omega)) | (simp only [hkF] <;> omega) | decide) only [E106, S106, hkF, z_add, z_mul, up_at, up_no, up_nk, u_cp_no, ma_bd, ↓reduceIte, if_true, if_false, Option.toList, List.nil_append, List.cons_append]
  have := ma_loop (fun k => ma_rn ro d 106 (2, [some (.ref 90), some (.int (nI k))], [], SH, u_cp σ 91 93 k)) 33 H
  simp only [u_cp0] at this
  rw [this, Sh106_2]
  simp (disch := first | assumption | omega | exact zb_fit | exact hbf .. | (simp (disch := omega) only [up_no, up_nk, up_at, u_cp_no] <;> (first | assumption | omega)) | (simp only [hkF] <;> omega) | decide) only [S106, z_lt, Nat.lt_irrefl, hkF, z_add, z_mul, up_at, up_no, up_nk, u_cp_no, ma_bd, ↓reduceIte, if_true, if_false, Option.toList, List.nil_append, List.cons_append]
theorem back91 {S : Nat → Int32} (σ2 : ma_H) (h : sHi S (σ2 91)) (h93 : ∀ k, k < 33 → σ2 93 k = S k) : u_cp σ2 91 93 33 91 = S := by
  funext k
  unfold u_cp
  by_cases hk : k < 33
  · rw [if_pos ⟨rfl, hk⟩]; exact h93 k hk
  · rw [if_neg (fun h => hk h.2)]; exact h k (by omega)
theorem kept93 (σ : ma_H) (k : Nat) (hk : k < 33) : u_cp σ 93 91 33 93 k = σ 91 k := if_pos ⟨rfl, hk⟩
theorem lkD_Iv (D : Nat → Int32) (hD : IvD D) : IvD (lkD D) := by
  unfold IvD lkD
  simp only [Nat.reduceEqDiff, if_false, if_true]
  exact ⟨⟨0, by decide, rfl⟩, hl0_Rg 99 (by decide) _, hl0_Rg 99 (by decide) _, hD.2.2.2.1, hl0_Rg 9 (by decide) _⟩
theorem lkD_congr {D D' : Nat → Int32} (h : ∀ j, j < 8 → D j = D' j) (j : Nat) (hj : j < 8) : lkD D j = lkD D' j := by
  unfold lkD
  rw [h 5 (by decide), h 7 (by decide), h j hj]
theorem lkD_lo (D : Nat → Int32) (j : Nat) (hj : j < 3) : lkD D j = D j := by
  unfold lkD
  rw [if_neg (by omega), if_neg (by omega), if_neg (by omega), if_neg (by omega)]
/-- the relation behind a change of what a whole shows: what the image, the trace and the numbers need -/
theorem G_mk {σ σ' : ma_H} (hG : G σ) (h1 : ∃ nd cs wo, GS σ' 1 (σ' 91) nd cs wo) (h7 : ∀ o, (o = 0 ∨ (33 ≤ o ∧ o ≤ 64) ∨ o = 86 ∨ o = 87 ∨ o = 92 ∨ o = 96) → σ' o = σ o) (h8 : ∀ p, p < 6 → σ' (4 + 2 * p) 0 = nI p) (h9 : σ' 90 4 = σ 90 4) (h10 : σ' 90 13 = σ 90 13) : G σ' := by
  obtain ⟨-, g2, ⟨f, f1, f2, f3, f4⟩, ⟨rn, b1, b2, b3, b4⟩⟩ := hG
  refine ⟨h1, h8, ⟨f, f1, by rw [h7 0 (by omega)]; exact f2, by rw [h9]; exact f3, fun hf => ?_⟩, ⟨rn, b1, by rw [h7 86 (by omega)]; exact b2, by rw [h10]; exact b3, fun k hk hk2 => by rw [h7 87 (by omega), h7 96 (by omega)]; exact b4 k hk hk2⟩⟩
  obtain ⟨nd', cs', wo', q1, q2, q3, q4, q5, q6⟩ := f4 hf
  have e92 : σ' 92 = σ 92 := h7 92 (by omega)
  refine ⟨nd', cs', wo', q1, by rw [e92]; exact q2, q3, by rw [e92]; exact q4, by rw [e92]; exact q5, ?_⟩
  rw [e92]
  exact RWh_low (fun _ _ => rfl) (RWd_congr q1 (fun o g1 g2 => h7 o (by omega)) q6.1) (fun o ho => h7 o (by omega)) q6
theorem G_same {σ σ' : ma_H} (hG : G σ) (h7 : ∀ o, (o ≤ 64 ∨ o = 86 ∨ o = 87 ∨ o = 91 ∨ o = 92 ∨ o = 96) → σ' o = σ o) (h9 : σ' 90 4 = σ 90 4) (h10 : σ' 90 13 = σ 90 13) : G σ' := by
  obtain ⟨nd, cs, wo, hg⟩ := hG.1
  have hg' := hg
  obtain ⟨k1, k2, k3, k4, ⟨i1, i2, i3, i4, i5⟩, k6⟩ := hg'
  have e91 : σ' 91 = σ 91 := h7 91 (by omega)
  exact G_low hG hg (by rw [e91]; exact fun _ _ => rfl) (by rw [e91]; exact i1) (by rw [e91]; exact i2) (by rw [e91]; exact i3) (by rw [e91]; exact i4) (by rw [e91]; exact RWd_congr k1 (fun o g1 g2 => h7 o (by omega)) k6.1) (fun o ho => h7 o (by omega)) (fun p hp => by rw [h7 _ (by omega)]; exact hG.2.1 p hp) h9 h10
theorem G_deed {σ σ' : ma_H} {nd : Nat} {cs : List (Bool × Nat × List (Nat × Nat × Nat))} {wo : Int32} (hG : G σ) (hg : GS σ 1 (σ 91) nd cs wo) (p : Nat) (hp : p < nd) (D : Nat → Int32) (hD : IvD D) (e91 : σ' 91 = setD (σ 91) p D) (ea : ∀ j, j < 8 → σ' (4 + 2 * p) j = if 3 ≤ j then D j else σ (4 + 2 * p) j) (hr : ∀ o, ¬ o = 91 → ¬ o = 4 + 2 * p → σ' o = σ o) : G σ' := by
  have hg' := hg
  obtain ⟨k1, k2, k3, k4, ⟨i1, i2, i3, i4, i5⟩, k6⟩ := hg'
  obtain ⟨w1, w2, w3, w4, w5⟩ := k6.1
  have hhi : sHi (σ 91) (setD (σ 91) p D) := setD_hi _ p (by omega) D
  refine G_low hG hg (by rw [e91]; exact hhi) (by rw [e91]; exact setD_Iv _ D p nd k1 hp i1 hD) ?_ ?_ ?_ ?_ (fun o ho => hr o (by omega) (by omega)) (fun q hq => ?_) (by rw [hr 90 (by omega) (by omega)]) (by rw [hr 90 (by omega) (by omega)])
  · rw [e91, setD_lo _ _ _ _ (by decide)]; exact i2
  · rw [e91, setD_lo _ _ _ _ (by decide)]; exact i3
  · rw [e91, setD_lo _ _ _ _ (by decide)]; exact i4
  · rw [e91]
    have e2 : σ' 2 = σ 2 := hr 2 (by omega) (by omega)
    refine ⟨by rw [e2]; exact w1, by rw [e2, setD_lo _ _ _ _ (by decide)]; exact w2, by rw [e2, setD_lo _ _ _ _ (by decide)]; exact w3, by rw [e2, setD_lo _ _ _ _ (by decide)]; exact w4, fun q hq => ?_⟩
    obtain ⟨d1, d2⟩ := w5 q hq
    refine ⟨fun j hj => ?_, fun j hj => by rw [hr _ (by omega) (by omega), vR_hi hhi]; exact d2 j hj⟩
    by_cases hqp : q = p
    · subst hqp
      rw [vD_setD _ _ _ (by omega) _ hj, ← d1 j hj]
      exact (congrFun (congrArg σ' (show 2 + 1 + 1 + 2 * q = 4 + 2 * q by omega)) j).trans ((ea j hj).trans (by rw [show 1 + 1 + 1 + 1 + 2 * q = 4 + 2 * q by omega]))
    · rw [hr _ (by omega) (by omega), vD_setD_ne _ _ _ _ (by omega) (by omega) hqp]; exact d1 j hj
  · by_cases hqp : q = p
    · subst hqp; rw [ea 0 (by decide), if_neg (by decide)]; exact hG.2.1 q hq
    · rw [hr _ (by omega) (by omega)]; exact hG.2.1 q hq
theorem C65 {ro : ma_RO} {d : Nat} (σ : ma_H) (hG : G σ) (x : Int32) : ∃ r σ1 σ2, ma_ev ro (d + 3) 65 [.ref 0, .int x] SH σ = some (some (.int r), SH, σ1) ∧ ma_ev ro (d + 3) 134 [.ref 90, .int x] SH σ1 = some (some (.int r), SH, σ2) ∧ G σ2 := by
  obtain ⟨nd, cs, wo, hg⟩ := hG.1
  have hg' := hg
  obtain ⟨k1, k2, k3, k4, ⟨i1, i2, i3, i4, i5⟩, k6⟩ := hg'
  obtain ⟨w1, w2, w3, w4, w5⟩ := k6.1
  have kw := hkWh_1.2.1
  rcases dcases x nd (by omega) with ⟨p, hp, rfl⟩ | hx
  · have e50 := V50 (ro := ro) (d := d + 2) σ 2 p nd kw w1 k1 hp
    have kd := kw.2.2.2 p (by omega)
    have kd1 := kd.1
    obtain ⟨d1, d2⟩ := w5 p hp
    have hI := i1 p hp
    obtain ⟨b, hb, hb'⟩ := hI.1
    have hd3 : σ (1 + 1 + 1 + 1 + 2 * p) 3 = nI b := by rw [d1 3 (by decide)]; exact hb'
    obtain ⟨σ1, e13, q13, r13⟩ := V13 (ro := ro) (d := d + 1) σ (1 + 1 + 1 + 1 + 2 * p) kd (by rw [d1 5 (by decide)]; exact hI.2.2.1) (by rw [d1 7 (by decide)]; exact hI.2.2.2.2)
    have s91 : σ1 91 = σ 91 := r13 91 (by omega)
    have e103 := V103p (ro := ro) (d := d + 1) σ1 p nd k1 (by rw [s91]; exact k2) hp
    obtain ⟨σ2, e133, q133, r133⟩ := V133 (ro := ro) (d := d + 1) σ1 p (by omega)
    refine ⟨nI b, σ1, σ2, ?_, ?_, ?_⟩
    · have hbf : ma_bef [some (Value.ref 0), some (Value.int (nI p)), some (Value.ref (2 + 1 + 1 + 2 * p)), none] 3 = false := rfl
      have hb2 : b = 0 ∨ b = 1 := by omega
      rcases hb2 with rfl | rfl
      · simp (disch := first | assumption | omega | exact zb_fit | exact hbf .. | (simp (disch := omega) only [up_no, up_nk, up_at, u_cp_no] <;> (first | assumption | omega)) | (simp only [hkF] <;> omega) | decide) only [E65, S65, e50, e13, hd3, z_eq, Nat.reduceEqDiff, hbf, hkF, z_add, z_mul, up_at, up_no, up_nk, u_cp_no, ma_bd, ↓reduceIte, if_true, if_false, Option.toList, List.nil_append, List.cons_append]
      · simp (disch := first | assumption | omega | exact zb_fit | exact hbf .. | (simp (disch := omega) only [up_no, up_nk, up_at, u_cp_no] <;> (first | assumption | omega)) | (simp only [hkF] <;> omega) | decide) only [E65, S65, e50, e13, hd3, z_eq, Nat.reduceEqDiff, hbf, hkF, z_add, z_mul, up_at, up_no, up_nk, u_cp_no, ma_bd, ↓reduceIte, if_true, if_false, Option.toList, List.nil_append, List.cons_append]
    · have s3 : σ1 91 (3 + p) = nI b := by rw [s91]; exact hb'
      simp (disch := first | assumption | omega | exact zb_fit | exact hbf .. | (simp (disch := omega) only [up_no, up_nk, up_at, u_cp_no] <;> (first | assumption | omega)) | (simp only [hkF] <;> omega) | decide) only [E134, S134, e103, e133, s3, z_eq, Nat.reduceEqDiff, hkF, z_add, z_mul, up_at, up_no, up_nk, u_cp_no, ma_bd, ↓reduceIte, if_true, if_false, Option.toList, List.nil_append, List.cons_append]
    · refine G_deed hG hg p hp (lkD (vD (σ 91) p)) (lkD_Iv _ hI) (by rw [q133, s91]) (fun j hj => ?_) (fun o h1 h2 => by rw [r133 o h1, r13 o (by omega)])
      rw [r133 _ (by omega), show 4 + 2 * p = 1 + 1 + 1 + 1 + 2 * p by omega, q13, lkD_congr (fun j hj => d1 j hj) j hj]
      by_cases h3 : 3 ≤ j
      · rw [if_pos h3]
      · rw [if_neg h3, lkD_lo _ _ (by omega)]; exact (d1 j hj).symm
  · have e50 := V50n (ro := ro) (d := d + 2) σ 2 nd x kw w1 hx
    have e103 := V103n (ro := ro) (d := d + 1) σ x nd k1 k2 hx
    refine ⟨-1, σ, σ, ?_, ?_, hG⟩
    · simp (disch := first | assumption | omega | exact zb_fit | exact hbf .. | (simp (disch := omega) only [up_no, up_nk, up_at, u_cp_no] <;> (first | assumption | omega)) | (simp only [hkF] <;> omega) | decide) only [E65, S65, e50, hkF, z_add, z_mul, up_at, up_no, up_nk, u_cp_no, ma_bd, ↓reduceIte, if_true, if_false, Option.toList, List.nil_append, List.cons_append]
    · simp (disch := first | assumption | omega | exact zb_fit | exact hbf .. | (simp (disch := omega) only [up_no, up_nk, up_at, u_cp_no] <;> (first | assumption | omega)) | (simp only [hkF] <;> omega) | decide) only [E134, S134, e103, hkF, z_add, z_mul, up_at, up_no, up_nk, u_cp_no, ma_bd, ↓reduceIte, if_true, if_false, Option.toList, List.nil_append, List.cons_append]

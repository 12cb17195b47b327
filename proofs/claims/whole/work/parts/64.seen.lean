/-! Whether all is as seen, on both sides. -/
def alF (f : Nat → Bool) : Nat → Nat → Bool
  | _, 0 => true
  | k, m + 1 => f k && alF f (k + 1) m
theorem alF_congr {f g : Nat → Bool} : ∀ m k, (∀ i, k ≤ i → i < k + m → f i = g i) → alF f k m = alF g k m := by
  intro m
  induction m with
  | zero => intro k h; rfl
  | succ m ih =>
    intro k h
    show (f k && alF f (k + 1) m) = (g k && alF g (k + 1) m)
    rw [h k (by omega) (by omega), ih (k + 1) (fun i h1 h2 => h i (by omega) (by omega))]
def clN (x : Int32) : Nat := x.toNatClampNeg
theorem clN_nI {k : Nat} (h : k < 2 ^ 31) : clN (nI k) = k := nI_clamp h
def modD (c v al : Int32) (S : Nat → Int32) (q : Nat) (j : Nat) : Int32 := if nI q = c ∧ j = 2 then v else if nI q = c ∧ j = 5 then al else vD S q j
def seenX (cs : List (Bool × Nat × List (Nat × Nat × Nat))) (S : Nat → Int32) (mm : Nat) (h c v al : Int32) (k : Nat) : Bool :=
  decide (stpN cs h mm (vR S (clN (S (76 + k)))) (clN (S (81 + k))) (modD c v al S (clN (S (76 + k)))) 3 = S (86 + k))
def seenM (cs : List (Bool × Nat × List (Nat × Nat × Nat))) (S : Nat → Int32) (mm : Nat) (k : Nat) : Bool :=
  decide (stpN cs (S 1) mm (vR S (clN (S (76 + k)))) (clN (S (81 + k))) (vD S (clN (S (76 + k)))) 3 = S (86 + k))
theorem stpN_3 (cs : List (Bool × Nat × List (Nat × Nat × Nat))) (h : Int32) (mm : Nat) (R D : Nat → Int32) (hD : IvD D) (n : Nat) : Rg (stpN cs h mm R n D 3) 1 := (stpN_Iv cs h mm R D hD n).1
theorem V94 {ro : ma_RO} {d : Nat} (σ : ma_H) (nd : Nat) (cs : List (Bool × Nat × List (Nat × Nat × Nat))) (wo : Int32) (hg : GS σ 1 (σ 91) nd cs wo) (sn mm : Nat) (hs : σ 91 35 = nI sn) (hsn : sn ≤ 5) (hm : σ 91 0 = nI mm) (hmm : mm ≤ 9999) (h c v al : Int32) (hal : Rg al 99 ∨ ∀ q, q < nd → ¬ nI q = c) :
    ∃ σ', ma_ev ro (d + 6) 94 [.ref 0, .int h, .int c, .int v, .int al] SH σ = some (some (.int (zb (alF (seenX cs (σ 91) mm h c v al) 0 sn = true))), SH, σ') ∧ ∀ o, ¬ o = 84 → ¬ o = 85 → σ' o = σ o := by
  obtain ⟨h1, h2, h3, h4, h5, h6, h7, h8, h9, h10, h11, h12, h13, h14, h15, h16, h17, h18, ⟨n, n1, n2, n3, n4⟩, h20, h21⟩ := GS_open hg
  have hns : n = sn := by
    have := n2.symm.trans hs
    rw [z_eq (by omega) (by omega)] at this; exact this
  subst hns
  have kw := hkWh_1.2.1
  have kr : hkRw 21 5 := hkWh_1.2.2.2.2.2.1
  have f1 : ma_fitI .boolean (nI 1) = true := by decide
  have f0 : ma_fitI .boolean (nI 0) = true := by decide
  have n3' : σ 21 3 = nI n := n3.1
  have w3 : σ 2 3 = nI mm := h15.2.2.1.trans hm
  have H : ∀ m k, k + m = n → ∀ (s : ma_H) (v6 : Option Value), (∀ o, ¬ o = 84 → ¬ o = 85 → s o = σ o) → ∃ σ', ma_rn ro (d + 6) 94 (3, [some (.ref 0), some (.int h), some (.int c), some (.int v), some (.int al), some (.int (nI k)), v6], [], SH, s) = some (some (.int (zb (alF (seenX cs (σ 91) mm h c v al) k m = true))), SH, σ') ∧ ∀ o, ¬ o = 84 → ¬ o = 85 → σ' o = σ o := by
    intro m
    induction m with
    | zero =>
      intro k hk s v6 r
      have s3 : s 21 3 = nI n := by rw [r 21 (by decide) (by decide)]; exact n3'
      have hkn : ¬ k < n := by omega
      refine ⟨s, ?_, r⟩
      rw [Sh94_3]
      simp (disch := first | assumption | omega | exact zb_fit | exact hbf .. | (simp (disch := omega) only [up_no, up_nk, up_at, u_cp_no] <;> (first | assumption | omega)) | (simp only [hkF] <;> omega) | decide) only [S94, s3, z_lt, hkn, f1, alF, zb_t, hkF, z_add, z_mul, up_at, up_no, up_nk, u_cp_no, ma_bd, ↓reduceIte, if_true, if_false, Option.toList, List.nil_append, List.cons_append]
    | succ m ih =>
      intro k hk s v6 r
      have hkn : k < n := by omega
      obtain ⟨⟨q, hq, hq'⟩, ⟨mo, hmo, hmo'⟩, ⟨b, hb, hb'⟩⟩ := h11 n n1 n2 k hkn
      have s3 : s 21 3 = nI n := by rw [r 21 (by decide) (by decide)]; exact n3'
      have g1 : s 22 k = nI q := by rw [r 22 (by decide) (by decide)]; exact (n3.2 k hkn).1.trans hq'
      have e41 := V41 (ro := ro) (d := d + 4) s 21 5 k kr (by omega)
      have e50 := V50 (ro := ro) (d := d + 5) s 2 q nd kw (by rw [r 2 (by decide) (by decide)]; exact h15.1) h1 hq
      have kd := kw.2.2.2 q (by omega)
      have kd1 := kd.1
      have k84 : hkDd 84 := ⟨rfl, rfl, rfl⟩
      have dd := h15.2.2.2.2 q hq
      have ra : s (1 + 1 + 1 + 1 + 2 * q) = σ (1 + 1 + 1 + 1 + 2 * q) := r _ (by omega) (by omega)
      have rb : s (1 + 1 + 1 + 1 + 2 * q + 1) = σ (1 + 1 + 1 + 1 + 2 * q + 1) := r _ (by omega) (by omega)
      obtain ⟨s1, e8, a1, a2, r1⟩ := V8 (ro := ro) (d := d + 4) s 84 (1 + 1 + 1 + 1 + 2 * q) k84 kd (by omega) (by omega) (by omega) (by rw [ra]; rw [dd.1 3 (by decide)]; exact (h5 q hq).1)
      have d0 : s1 (1 + 1 + 1 + 1 + 2 * q) 0 = nI q := by rw [r1 _ (by omega) (by omega), ra]; exact dd.1 0 (by decide)
      obtain ⟨s2, hs2, z84, z85, r2⟩ : ∃ s2, (s2 = if nI q = c then ma_up (ma_up s1 84 2 v) 84 5 al else s1) ∧ (∀ j, j < 8 → s2 84 j = modD c v al (σ 91) q j) ∧ (∀ j, j < 4 → s2 85 j = vR (σ 91) q j) ∧ ∀ o, ¬ o = 84 → ¬ o = 85 → s2 o = σ o := by
        refine ⟨_, rfl, fun j hj => ?_, fun j hj => ?_, fun o o1 o2 => ?_⟩
        · have ej : s1 84 j = vD (σ 91) q j := by rw [a1 j hj, ra]; exact dd.1 j hj
          by_cases hc : nI q = c
          · rw [if_pos hc]
            unfold modD
            by_cases j2 : j = 2
            · subst j2; rw [if_pos ⟨hc, rfl⟩, up_nk (by decide), up_at]
            · rw [if_neg (fun x => j2 x.2)]
              by_cases j5 : j = 5
              · subst j5; rw [if_pos ⟨hc, rfl⟩, up_at]
              · rw [if_neg (fun x => j5 x.2), up_nk j5, up_nk j2]; exact ej
          · rw [if_neg hc]
            unfold modD
            rw [if_neg (fun x => hc x.1), if_neg (fun x => hc x.1)]; exact ej
        · have ej : s1 85 j = vR (σ 91) q j := by rw [show (85 : Nat) = 84 + 1 from rfl, a2 j hj, rb]; exact dd.2 j hj
          by_cases hc : nI q = c
          · rw [if_pos hc, up_no (by decide), up_no (by decide)]; exact ej
          · rw [if_neg hc]; exact ej
        · have eo : s1 o = σ o := by rw [r1 o o1 o2]; exact r o o1 o2
          by_cases hc : nI q = c
          · rw [if_pos hc, up_no o1, up_no o1]; exact eo
          · rw [if_neg hc]; exact eo
      have hI2 : IvD (s2 84) := by
        refine IvD_congr z84 ?_
        unfold IvD modD
        have hI := h5 q hq
        refine ⟨?_, ?_, ?_, ?_, ?_⟩
        · rw [if_neg (fun x => absurd x.2 (by decide)), if_neg (fun x => absurd x.2 (by decide))]; exact hI.1
        · rw [if_neg (fun x => absurd x.2 (by decide)), if_neg (fun x => absurd x.2 (by decide))]; exact hI.2.1
        · rw [if_neg (fun x => absurd x.2 (by decide))]
          by_cases hc : nI q = c
          · rw [if_pos ⟨hc, rfl⟩]; exact hal.elim id (fun x => absurd hc (x q hq))
          · rw [if_neg (fun x => hc x.1)]; exact hI.2.2.1
        · rw [if_neg (fun x => absurd x.2 (by decide)), if_neg (fun x => absurd x.2 (by decide))]; exact hI.2.2.2.1
        · rw [if_neg (fun x => absurd x.2 (by decide)), if_neg (fun x => absurd x.2 (by decide))]; exact hI.2.2.2.2
      have e42 := V42 (ro := ro) (d := d + 4) s2 21 5 k kr (by omega)
      have g2 : s2 23 k = nI mo := by rw [r2 23 (by decide) (by decide)]; exact (n3.2 k hkn).2.1.trans hmo'
      obtain ⟨s3', e93, q93, r93⟩ := V93 (ro := ro) (d := d) s2 mo mm h cs wo (HXr_congr (fun o o1 o2 => r2 o (by omega) (by omega)) h16) h3 (by omega) (by rw [r2 2 (by decide) (by decide)]; exact w3) hI2
      have r3 : ∀ o, ¬ o = 84 → ¬ o = 85 → s3' o = σ o := fun o o1 o2 => by rw [r93 o o1]; exact r2 o o1 o2
      have g3 : s3' 24 k = nI b := by rw [r3 24 (by decide) (by decide)]; exact (n4 k hkn).trans hb'
      have e43 := V43 (ro := ro) (d := d + 4) s3' 21 5 k kr (by omega) (by rw [show 21 + 3 = 24 from rfl, g3]; exact ⟨b, hb, rfl⟩)
      obtain ⟨x, hx, hx'⟩ : Rg (s3' 84 3) 1 := by rw [q93]; exact stpN_3 _ _ _ _ _ hI2 _
      have hf : seenX cs (σ 91) mm h c v al k = decide (x = b) := by
        unfold seenX
        rw [hq', hmo', hb', clN_nI (by omega), clN_nI (by omega), ← stpN_congr cs h mm z84 z85 mo 3 (by decide), ← q93, hx']
        exact decide_eq_decide.mpr (by rw [z_eq (by omega) (by omega)])
      obtain ⟨s4, e4, r4⟩ := ih (k + 1) (by omega) s3' (some (.ref (1 + 1 + 1 + 1 + 2 * q))) r3
      have hx2 : x = 0 ∨ x = 1 := by omega
      have hb2 : b = 0 ∨ b = 1 := by omega
      by_cases hxb : x = b
      · refine ⟨s4, ?_, r4⟩
        rw [show alF (seenX cs (σ 91) mm h c v al) k (m + 1) = (seenX cs (σ 91) mm h c v al k && alF (seenX cs (σ 91) mm h c v al) (k + 1) m) from rfl, hf, decide_eq_true hxb, Bool.true_and, ← e4, Sh94_3]
        by_cases hc : nI q = c
        · rw [if_pos hc] at hs2
          subst hs2
          subst hc
          simp (disch := first | assumption | omega | exact zb_fit | exact hbf .. | (simp (disch := omega) only [up_no, up_nk, up_at, u_cp_no] <;> (first | assumption | omega)) | (simp only [hkF] <;> omega) | decide) only [S94, s3, z_lt, hkn, e41, g1, e50, e8, d0, eq_self_iff_true, e42, g2, e93, e43, g3, hx', z_eq, hxb, hkF, z_add, z_mul, up_at, up_no, up_nk, u_cp_no, ma_bd, ↓reduceIte, if_true, if_false, Option.toList, List.nil_append, List.cons_append]
        · rw [if_neg hc] at hs2
          subst hs2
          simp (disch := first | assumption | omega | exact zb_fit | exact hbf .. | (simp (disch := omega) only [up_no, up_nk, up_at, u_cp_no] <;> (first | assumption | omega)) | (simp only [hkF] <;> omega) | decide) only [S94, s3, z_lt, hkn, e41, g1, e50, e8, d0, hc, e42, g2, e93, e43, g3, hx', z_eq, hxb, hkF, z_add, z_mul, up_at, up_no, up_nk, u_cp_no, ma_bd, ↓reduceIte, if_true, if_false, Option.toList, List.nil_append, List.cons_append]
      · refine ⟨s3', ?_, r3⟩
        rw [show alF (seenX cs (σ 91) mm h c v al) k (m + 1) = (seenX cs (σ 91) mm h c v al k && alF (seenX cs (σ 91) mm h c v al) (k + 1) m) from rfl, hf, decide_eq_false hxb, Bool.false_and, zb_f (by decide), Sh94_3]
        by_cases hc : nI q = c
        · rw [if_pos hc] at hs2
          subst hs2
          subst hc
          simp (disch := first | assumption | omega | exact zb_fit | exact hbf .. | (simp (disch := omega) only [up_no, up_nk, up_at, u_cp_no] <;> (first | assumption | omega)) | (simp only [hkF] <;> omega) | decide) only [S94, s3, z_lt, hkn, e41, g1, e50, e8, d0, eq_self_iff_true, e42, g2, e93, e43, g3, hx', z_eq, hxb, f0, hkF, z_add, z_mul, up_at, up_no, up_nk, u_cp_no, ma_bd, ↓reduceIte, if_true, if_false, Option.toList, List.nil_append, List.cons_append]
        · rw [if_neg hc] at hs2
          subst hs2
          simp (disch := first | assumption | omega | exact zb_fit | exact hbf .. | (simp (disch := omega) only [up_no, up_nk, up_at, u_cp_no] <;> (first | assumption | omega)) | (simp only [hkF] <;> omega) | decide) only [S94, s3, z_lt, hkn, e41, g1, e50, e8, d0, hc, e42, g2, e93, e43, g3, hx', z_eq, hxb, f0, hkF, z_add, z_mul, up_at, up_no, up_nk, u_cp_no, ma_bd, ↓reduceIte, if_true, if_false, Option.toList, List.nil_append, List.cons_append]
  obtain ⟨σ', e, r⟩ := H n 0 (by omega) σ none (fun _ _ _ => rfl)
  refine ⟨σ', ?_, r⟩
  rw [← e]
  simp (disch := first | assumption | omega | exact zb_fit | exact hbf .. | (simp (disch := omega) only [up_no, up_nk, up_at, u_cp_no] <;> (first | assumption | omega)) | (simp only [hkF] <;> omega) | decide) only [E94, S94, hkF, z_add, z_mul, up_at, up_no, up_nk, u_cp_no, ma_bd, ↓reduceIte, if_true, if_false, Option.toList, List.nil_append, List.cons_append]

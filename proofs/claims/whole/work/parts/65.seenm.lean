theorem upS_ne {S : Nat → Int32} {k : Nat} {v : Int32} {j : Nat} (h : ¬ j = k) : upS S k v j = S j := if_neg h
theorem upS_at {S : Nat → Int32} {k : Nat} {v : Int32} : upS S k v k = v := if_pos rfl
/-- the reference with another number in the slot wh -/
theorem V151 {ro : ma_RO} {d : Nat} (σ : ma_H) (nd : Nat) (cs : List (Bool × Nat × List (Nat × Nat × Nat))) (wo : Int32) (hg : GS σ 1 (σ 91) nd cs wo) (sn mm : Nat) (hs : σ 91 35 = nI sn) (hsn : sn ≤ 5) (hm : σ 91 0 = nI mm) (hmm : mm ≤ 9999) (wh : Nat) (n : Int32) (hw : wh = 1 ∨ (15 ≤ wh ∧ wh < 21) ∨ (46 ≤ wh ∧ wh < 52)) :
    ∃ σ', ma_ev ro (d + 5) 151 [.ref 90, .int (nI wh), .int n] SH σ = some (some (.int (zb (alF (seenM cs (upS (σ 91) wh n) mm) 0 sn = true))), SH, σ') ∧ σ' 91 = σ 91 ∧ ∀ o, ¬ o = 91 → ¬ o = 93 → ¬ o = 94 → ¬ o = 95 → σ' o = σ o := by
  obtain ⟨h1, h2, h3, h4, h5, h6, h7, h8, h9, h10, h11, h12, h13, h14, h15, h16, h17, h18, h19, h20, h21⟩ := GS_open hg
  have f1 : ma_fitI .boolean (nI 1) = true := by decide
  have f0 : ma_fitI .boolean (nI 0) = true := by decide
  have hw9 : wh < 933 := by omega
  have hS : ∀ k, ¬ k = wh → upS (σ 91) wh n k = σ 91 k := fun k hk => upS_ne hk
  have hM2 : HMr (upS (σ 91) wh n) cs wo := HMr_c2 (hS 39 (by omega)) (fun k hk => hS k (by omega)) h4
  have hS0 : upS (σ 91) wh n 0 = nI mm := by rw [hS 0 (by omega)]; exact hm
  have H : ∀ m k, k + m = sn → ∀ (s : ma_H), s 91 = σ 91 → (∀ o, ¬ o = 91 → ¬ o = 93 → ¬ o = 94 → ¬ o = 95 → s o = σ o) → ∃ σ', ma_rn ro (d + 5) 151 (13, [some (.ref 90), some (.int (nI wh)), some (.int n), some (.int (σ 91 wh)), some (.int (nI 1)), some (.int (nI k))], [], SH, s) = some (some (.int (zb (alF (seenM cs (upS (σ 91) wh n) mm) k m = true))), SH, σ') ∧ σ' 91 = σ 91 ∧ ∀ o, ¬ o = 91 → ¬ o = 93 → ¬ o = 94 → ¬ o = 95 → σ' o = σ o := by
    intro m
    induction m with
    | zero =>
      intro k hk s e91 r
      have hkn : ¬ k < sn := by omega
      have s35 : s 91 35 = nI sn := by rw [e91]; exact hs
      refine ⟨s, ?_, e91, r⟩
      rw [Sh151_13]
      simp (disch := first | assumption | omega | exact zb_fit | exact hbf .. | (simp (disch := omega) only [up_no, up_nk, up_at, u_cp_no] <;> (first | assumption | omega)) | (simp only [hkF] <;> omega) | decide) only [S151, s35, z_lt, hkn, f1, alF, zb_t, hkF, z_add, z_mul, up_at, up_no, up_nk, u_cp_no, ma_bd, ↓reduceIte, if_true, if_false, Option.toList, List.nil_append, List.cons_append]
    | succ m ih =>
      intro k hk s e91 r
      have hkn : k < sn := by omega
      have s35 : s 91 35 = nI sn := by rw [e91]; exact hs
      obtain ⟨⟨q, hq, hq'⟩, ⟨mo, hmo, hmo'⟩, ⟨b, hb, hb'⟩⟩ := h11 sn hsn hs k hkn
      have e105 := V105 (ro := ro) (d := d + 4) s
      have hp1 : 76 + k < 933 := by omega
      have hp2 : 81 + k < 933 := by omega
      have hp3 : 86 + k < 933 := by omega
      have hp4 : 3 + q < 933 := by omega
      generalize hs1 : ma_up (u_cp s 93 91 33) 91 wh n = s1
      have s1_91 : s1 91 = upS (σ 91) wh n := by rw [← hs1, up_S, u_cp_no (by decide), e91]
      have s1_o : ∀ o, ¬ o = 91 → ¬ o = 93 → s1 o = s o := fun o o1 o2 => by rw [← hs1, up_no o1, u_cp_no o2]
      have s1_93 : ∀ k, k < 33 → s1 93 k = σ 91 k := fun k hk => by rw [← hs1, up_no (by decide), kept93 _ _ hk, e91]
      obtain ⟨s2, e141, q2, r2⟩ := V141 (ro := ro) (d := d) s1 cs wo (by rw [s1_91]; exact hM2) h3 q mm mo (by omega) (by omega) (by rw [s1_91]; exact hS0)
      rw [s1_91] at q2
      have x1 : s1 91 (76 + k) = nI q := by rw [s1_91, hS _ (by omega)]; exact hq'
      have x2 : s1 91 (81 + k) = nI mo := by rw [s1_91, hS _ (by omega)]; exact hmo'
      have hhi := stO_hi cs mm q (by omega) (upS (σ 91) wh n) mo
      have y1 : s2 91 (76 + k) = nI q := by rw [q2, hhi _ (by omega), hS _ (by omega)]; exact hq'
      have y3 : s2 91 (86 + k) = nI b := by rw [q2, hhi _ (by omega), hS _ (by omega)]; exact hb'
      have hx3 : s2 91 (3 + q) = stpN cs (upS (σ 91) wh n 1) mm (vR (upS (σ 91) wh n) q) mo (vD (upS (σ 91) wh n) q) 3 := by
        rw [q2]; exact stO_D cs mm q (by omega) (upS (σ 91) wh n) mo 3 (by decide)
      have hf : seenM cs (upS (σ 91) wh n) mm k = decide (s2 91 (3 + q) = nI b) := by
        unfold seenM
        rw [hS (76 + k) (by omega), hS (81 + k) (by omega), hS (86 + k) (by omega), hq', hmo', hb', clN_nI (by omega), clN_nI (by omega), hx3]
      have e106 := V106 (ro := ro) (d := d + 4) s2
      generalize hs3 : ma_up (u_cp s2 91 93 33) 91 wh (σ 91 wh) = s3
      have s3_91 : s3 91 = σ 91 := by
        rw [← hs3, up_S]
        funext j
        unfold upS
        by_cases hj : j = wh
        · rw [if_pos hj, hj]
        · rw [if_neg hj]
          by_cases hj3 : j < 33
          · rw [show u_cp s2 91 93 33 91 j = s2 93 j from if_pos ⟨rfl, hj3⟩, r2 93 (by decide) (by decide) (by decide)]; exact s1_93 j hj3
          · rw [show u_cp s2 91 93 33 91 j = s2 91 j from if_neg (fun h => hj3 h.2), q2, hhi j (by omega)]; exact hS j hj
      have s3_o : ∀ o, ¬ o = 91 → ¬ o = 93 → ¬ o = 94 → ¬ o = 95 → s3 o = σ o := fun o o1 o2 o3 o4 => by
        rw [← hs3, up_no o1, u_cp_no o1, r2 o o1 o3 o4, s1_o o o1 o2]; exact r o o1 o2 o3 o4
      rw [show alF (seenM cs (upS (σ 91) wh n) mm) k (m + 1) = (seenM cs (upS (σ 91) wh n) mm k && alF (seenM cs (upS (σ 91) wh n) mm) (k + 1) m) from rfl, hf]
      by_cases hxb : s2 91 (3 + q) = nI b
      · obtain ⟨s4, e4, q4, r4⟩ := ih (k + 1) (by omega) s3 s3_91 s3_o
        refine ⟨s4, ?_, q4, r4⟩
        rw [decide_eq_true hxb, Bool.true_and, ← e4, Sh151_13]
        simp (disch := first | assumption | omega | exact zb_fit | exact hbf .. | (simp (disch := omega) only [up_no, up_nk, up_at, u_cp_no] <;> (first | assumption | omega)) | (simp only [hkF] <;> omega) | decide) only [S151, s35, z_lt, hkn, e105, hs1, x1, x2, e141, y1, y3, hxb, e106, hs3, z_eq, Nat.reduceEqDiff, hkF, z_add, z_mul, up_at, up_no, up_nk, u_cp_no, ma_bd, ↓reduceIte, if_true, if_false, Option.toList, List.nil_append, List.cons_append]
      · refine ⟨s3, ?_, s3_91, s3_o⟩
        rw [decide_eq_false hxb, Bool.false_and, zb_f (by decide), Sh151_13]
        simp (disch := first | assumption | omega | exact zb_fit | exact hbf .. | (simp (disch := omega) only [up_no, up_nk, up_at, u_cp_no] <;> (first | assumption | omega)) | (simp only [hkF] <;> omega) | decide) only [S151, s35, z_lt, hkn, e105, hs1, x1, x2, e141, y1, y3, hxb, e106, hs3, z_eq, Nat.reduceEqDiff, hkF, z_add, z_mul, up_at, up_no, up_nk, u_cp_no, ma_bd, ↓reduceIte, if_true, if_false, Option.toList, List.nil_append, List.cons_append]
        have y35 : s3 91 35 = nI sn := by rw [s3_91]; exact hs
        rw [Sh151_13]
        by_cases hk2 : k + 1 < sn <;> simp (disch := first | assumption | omega | exact zb_fit | exact hbf .. | (simp (disch := omega) only [up_no, up_nk, up_at, u_cp_no] <;> (first | assumption | omega)) | (simp only [hkF] <;> omega) | decide) only [S151, z_lt, hk2, y35, f0, z_eq, Nat.reduceEqDiff, hkF, z_add, z_mul, up_at, up_no, up_nk, u_cp_no, ma_bd, ↓reduceIte, if_true, if_false, Option.toList, List.nil_append, List.cons_append]
  obtain ⟨σ', e, q1, r⟩ := H sn 0 (by omega) σ rfl (fun _ _ _ _ _ => rfl)
  refine ⟨σ', ?_, q1, r⟩
  rw [← e]
  simp (disch := first | assumption | omega | exact zb_fit | exact hbf .. | (simp (disch := omega) only [up_no, up_nk, up_at, u_cp_no] <;> (first | assumption | omega)) | (simp only [hkF] <;> omega) | decide) only [E151, S151, hkF, z_add, z_mul, up_at, up_no, up_nk, u_cp_no, ma_bd, ↓reduceIte, if_true, if_false, Option.toList, List.nil_append, List.cons_append]

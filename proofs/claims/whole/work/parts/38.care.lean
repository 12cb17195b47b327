/-! The care on both sides, as one function of a deed's view. -/
def byD (D : Nat → Int32) (m : Int32) (w : Nat) : Int32 := if w = 0 then D 0 else if w = 1 then D 1 else if w = 2 then D 2 else if w = 3 then D 5 / nI 10 else if w = 4 then D 6 else m - m / nI 7 * nI 7
def careD (cs : List (Bool × Nat × List (Nat × Nat × Nat))) (D R : Nat → Int32) (mm : Nat) : Int32 :=
  if D 1 = nI 1 then sumC (byD D (nI mm)) cs (nI 8) + D 2
  else if D 1 = nI 2 then sumC (byD D (nI mm)) cs (nI 8) / nI 2
  else if D 1 = nI 3 then sumC (byD D (nI mm)) cs (nI 8) - D 5 / nI 10
  else if D 1 = nI 4 then (if nI mm - nI mm / nI 7 * nI 7 = nI 6 then nI 0 else sumC (byD D (nI mm)) cs (nI 8) + D 2)
  else if D 1 = nI 5 then sumC (byD D (nI mm)) cs (nI 8) / nI 2 + D 6
  else if D 1 = nI 6 then sumC (byD D (nI mm)) cs (nI 8) - D 5 / nI 10 + R (mm % 4)
  else sumC (byD D (nI mm)) cs (nI 8)
/-- the view of the deed p in the reference's row -/
def vD (S : Nat → Int32) (p : Nat) (j : Nat) : Int32 := if j = 0 then nI p else if j = 1 then S (40 + p) else if j = 2 then S (46 + p) else if j = 3 then S (3 + p) else if j = 4 then S (9 + p) else if j = 5 then S (15 + p) else if j = 6 then S (21 + p) else S (27 + p)
def vR (S : Nat → Int32) (p : Nat) (k : Nat) : Int32 := S (52 + 4 * p + k)
/-- the house in the class -/
def HXr (σ : ma_H) (h : Nat) (cs : List (Bool × Nat × List (Nat × Nat × Nat))) (wo : Int32) : Prop := σ h 0 = wo ∧ σ h 3 = nI cs.length ∧ hX σ h 0 0 cs
/-- what every house keeps to -/
def HOk (cs : List (Bool × Nat × List (Nat × Nat × Nat))) : Prop := cs.length ≤ 10 ∧ lnC cs ≤ 100 ∧ ∀ l ∈ cs, clOk l
/-- the house in the reference -/
def HMr (S : Nat → Int32) (cs : List (Bool × Nat × List (Nat × Nat × Nat))) (wo : Int32) : Prop := (S 39 = -1 ∧ wo = nI 2 ∧ cs = []) ∨ ∃ act, act < 5 ∧ S 39 = nI act ∧ wo = S (223 + act) ∧ S (228 + act) = nI (lnM cs) ∧ hM S (233 + 140 * act) cs
theorem lnM_le {cs : List (Bool × Nat × List (Nat × Nat × Nat))} : lnM cs = lnC cs + cs.length := by
  induction cs with
  | nil => rfl
  | cons l r ih => simp only [lnM, lnC, List.length_cons, ih]; omega
theorem z_div {a b : Nat} (ha : a < 2 ^ 31) (hb : b < 2 ^ 31) (h0 : 0 < b) : nI a / nI b = nI (a / b) := by
  apply Int32.toInt_inj.mp
  rw [Int32.toInt_div_of_ne_left _ _ (by intro h; have := congrArg Int32.toInt h; rw [nI_toInt ha] at this; simp at this), nI_toInt ha, nI_toInt hb, nI_toInt (Nat.lt_of_le_of_lt (Nat.div_le_self _ _) ha)]
  rw [Int.ofNat_tdiv]
theorem z_mod {a b : Nat} (ha : a < 2 ^ 31) (hb : b < 2 ^ 31) (h0 : 0 < b) : nI a - nI a / nI b * nI b = nI (a % b) := by
  rw [z_div ha hb h0, z_mul, z_sub (Nat.div_mul_le_self a b)]
  congr 1
  rw [Nat.mod_def, Nat.mul_comm]
theorem z_ne1 {a : Nat} (ha : a < 2 ^ 31) : (nI a = -1) = False := by
  apply eq_false; intro h
  have := congrArg Int32.toInt h
  rw [nI_toInt ha, show (-1 : Int32).toInt = -1 by decide] at this
  omega
def inH (S : Nat → Int32) : Prop := S 39 = -1 ∨ ∃ act, act < 5 ∧ S 39 = nI act
def tel (S : Nat → Int32) (w : Nat) (n : Int32) : Int32 := if S 39 = -1 then n else S (w + (S 39).toNatClampNeg)
theorem V122 {ro : ma_RO} {d : Nat} (w : Nat) (n : Int32) (σ : ma_H) (hw : w < 900) (h : inH (σ 91)) : ma_ev ro d 122 [.ref 90, .int (nI w), .int n] SH σ = some (some (.int (tel (σ 91) w n)), SH, σ) := by
  rcases h with h | ⟨act, ha, h⟩
  · simp (disch := first | assumption | omega | exact zb_fit | (simp (disch := omega) only [up_no, up_nk, up_at, u_cp_no] <;> (first | assumption | omega)) | (simp only [hkF] <;> omega) | decide) only [E122, S122, h, tel, hkF, z_add, z_mul, up_at, up_no, up_nk, u_cp_no, ma_bd, if_true, if_false, Option.toList, List.nil_append, List.cons_append]
  · have h1 : w + act < 933 := by omega
    have h2 : (nI act).toNatClampNeg = act := nI_clamp (by omega)
    simp (disch := first | assumption | omega | exact zb_fit | (simp (disch := omega) only [up_no, up_nk, up_at, u_cp_no] <;> (first | assumption | omega)) | (simp only [hkF] <;> omega) | decide) only [E122, S122, h, z_ne1, tel, h2, hkF, z_add, z_mul, up_at, up_no, up_nk, u_cp_no, ma_bd, if_true, if_false, Option.toList, List.nil_append, List.cons_append]
theorem nI2 : ¬ nI 2 = 0 := by decide
theorem evT_congr {f g : Nat → Int32} (h : ∀ w, w < 6 → f w = g w) (st : List Bool) (t : Nat × Nat × Nat) : evT f st t = evT g st t := by
  by_cases h6 : t.1 < 6
  · refine (if_pos h6).trans (Eq.trans ?_ (if_pos h6).symm)
    rw [h t.1 h6]
  · exact (if_neg h6).trans (if_neg h6).symm
theorem fold_congr {α β : Type} {F G : β → α → β} (h : ∀ b a, F b a = G b a) (l : List α) (s : β) : l.foldl F s = l.foldl G s := by
  rw [show F = G from funext fun b => funext fun a => h b a]
theorem clT_congr {f g : Nat → Int32} (h : ∀ w, w < 6 → f w = g w) (l : Bool × Nat × List (Nat × Nat × Nat)) : clT f l = clT g l := by
  exact congrArg (fun x : List Bool => x.headD false) (fold_congr (fun b a => evT_congr h b a) l.2.2 [])
theorem sumC_congr {f g : Nat → Int32} (h : ∀ w, w < 6 → f w = g w) (cs : List (Bool × Nat × List (Nat × Nat × Nat))) : ∀ s, sumC f cs s = sumC g cs s := by
  induction cs with
  | nil => intro s; rfl
  | cons l r ih =>
    intro s
    show sumC f r (if clT f l = true then s + wX l else s) = sumC g r (if clT g l = true then s + wX l else s)
    rw [clT_congr h, ih]
theorem V123 {ro : ma_RO} {d : Nat} (σ : ma_H) (cs : List (Bool × Nat × List (Nat × Nat × Nat))) (wo : Int32) (hM' : HMr (σ 91) cs wo) (hO : HOk cs) (p mm : Nat) (hp : p < 6) (hmm : mm < 2 ^ 31) (h0 : σ 91 0 = nI mm) :
    ∃ σ', ma_ev ro (d + 1) 123 [.ref 90, .int (nI p)] SH σ = some (some (.int (sumC (byD (vD (σ 91) p) (nI mm)) cs (nI 8))), SH, σ') ∧ ∀ a, ¬ a = 94 → ¬ a = 95 → σ' a = σ a := by
  have p1 : 40 + p < 933 := by omega
  have p2 : 46 + p < 933 := by omega
  have p3 : 15 + p < 933 := by omega
  have p4 : 21 + p < 933 := by omega
  have hby : ∀ w, w < 6 → (ma_up (ma_up (ma_up (ma_up (ma_up (ma_up σ 94 0 (nI p)) 94 1 (σ 91 (40 + p))) 94 2 (σ 91 (46 + p))) 94 3 (σ 91 (15 + p) / nI 10)) 94 4 (σ 91 (21 + p))) 94 5 (nI mm - nI mm / nI 7 * nI 7)) 94 w = byD (vD (σ 91) p) (nI mm) w := by
    intro w hw
    have : w = 0 ∨ w = 1 ∨ w = 2 ∨ w = 3 ∨ w = 4 ∨ w = 5 := by omega
    rcases this with rfl | rfl | rfl | rfl | rfl | rfl <;> simp (disch := first | assumption | omega | exact zb_fit | (simp (disch := omega) only [up_no, up_nk, up_at, u_cp_no] <;> (first | assumption | omega)) | (simp only [hkF] <;> omega) | decide) only [byD, vD, Nat.reduceEqDiff, hkF, z_add, z_mul, up_at, up_no, up_nk, u_cp_no, ma_bd, if_true, if_false, Option.toList, List.nil_append, List.cons_append]
  have hI : inH (σ 91) := by
    rcases hM' with ⟨g1, -⟩ | ⟨act, g1, g2, -⟩
    · exact .inl g1
    · exact .inr ⟨act, g1, g2⟩
  have ht : tel (σ 91) 228 (nI 0) = nI (lnM cs) := by
    rcases hM' with ⟨g1, g2, g3⟩ | ⟨act, g1, g2, g3, g4, g5⟩
    · subst g3; simp only [tel, g1, if_true, lnM]
    · have h2 : (nI act).toNatClampNeg = act := nI_clamp (by omega)
      simp (disch := first | assumption | omega | exact zb_fit | (simp (disch := omega) only [up_no, up_nk, up_at, u_cp_no] <;> (first | assumption | omega)) | (simp only [hkF] <;> omega) | decide) only [tel, g2, z_ne1, h2, g4, hkF, z_add, z_mul, up_at, up_no, up_nk, u_cp_no, ma_bd, if_true, if_false, Option.toList, List.nil_append, List.cons_append]
  have hln := lnM_le (cs := cs)
  obtain ⟨o1, o2, o3⟩ := hO
  rcases hM' with ⟨g1, g2, g3⟩ | ⟨act, g1, g2, g3, g4, g5⟩
  · subst g3
    have hf : nI 233 + nI 140 * (-1) = nI 93 := by decide
    obtain ⟨σ', e, r⟩ := L123 (ro := ro) (d := d + 1) (byD (vD (σ 91) p) (nI mm)) (nI p) 93 0 rfl (by omega) [] 93 (ma_up (ma_up (ma_up (ma_up (ma_up (ma_up σ 94 0 (nI p)) 94 1 (σ 91 (40 + p))) 94 2 (σ 91 (46 + p))) 94 3 (σ 91 (15 + p) / nI 10)) 94 4 (σ 91 (21 + p))) 94 5 (nI mm - nI mm / nI 7 * nI 7)) (nI 8) none none none none hby rfl o3 trivial
    refine ⟨σ', ?_, fun a h1 h2 => by rw [r a h2]; simp (disch := first | assumption | omega | exact zb_fit | (simp (disch := omega) only [up_no, up_nk, up_at, u_cp_no] <;> (first | assumption | omega)) | (simp only [hkF] <;> omega) | decide) only [h1, hkF, z_add, z_mul, up_at, up_no, up_nk, u_cp_no, ma_bd, if_true, if_false, Option.toList, List.nil_append, List.cons_append]⟩
    simp (disch := first | assumption | omega | exact zb_fit | (simp (disch := omega) only [up_no, up_nk, up_at, u_cp_no] <;> (first | assumption | omega)) | (simp only [hkF] <;> omega) | decide) only [E123, S123, nI7, nI10, h0, V122, ht, g1, hf, lnM, hkF, z_add, z_mul, up_at, up_no, up_nk, u_cp_no, ma_bd, if_true, if_false, Option.toList, List.nil_append, List.cons_append]
    exact e
  · obtain ⟨σ', e, r⟩ := L123 (ro := ro) (d := d + 1) (byD (vD (σ 91) p) (nI mm)) (nI p) (233 + 140 * act) (lnM cs) rfl (by omega) cs (233 + 140 * act) (ma_up (ma_up (ma_up (ma_up (ma_up (ma_up σ 94 0 (nI p)) 94 1 (σ 91 (40 + p))) 94 2 (σ 91 (46 + p))) 94 3 (σ 91 (15 + p) / nI 10)) 94 4 (σ 91 (21 + p))) 94 5 (nI mm - nI mm / nI 7 * nI 7)) (nI 8) none none none none hby rfl o3 g5
    refine ⟨σ', ?_, fun a h1 h2 => by rw [r a h2]; simp (disch := first | assumption | omega | exact zb_fit | (simp (disch := omega) only [up_no, up_nk, up_at, u_cp_no] <;> (first | assumption | omega)) | (simp only [hkF] <;> omega) | decide) only [h1, hkF, z_add, z_mul, up_at, up_no, up_nk, u_cp_no, ma_bd, if_true, if_false, Option.toList, List.nil_append, List.cons_append]⟩
    simp (disch := first | assumption | omega | exact zb_fit | (simp (disch := omega) only [up_no, up_nk, up_at, u_cp_no] <;> (first | assumption | omega)) | (simp only [hkF] <;> omega) | decide) only [E123, S123, nI7, nI10, h0, V122, ht, g2, hkF, z_add, z_mul, up_at, up_no, up_nk, u_cp_no, ma_bd, if_true, if_false, Option.toList, List.nil_append, List.cons_append]
    exact e
theorem V124 {ro : ma_RO} {d : Nat} (σ : ma_H) (cs : List (Bool × Nat × List (Nat × Nat × Nat))) (wo : Int32) (hM' : HMr (σ 91) cs wo) (hO : HOk cs) (p mm : Nat) (hp : p < 6) (hmm : mm < 2 ^ 31) (h0 : σ 91 0 = nI mm) :
    ∃ σ', ma_ev ro (d + 2) 124 [.ref 90, .int (nI p)] SH σ = some (some (.int (careD cs (vD (σ 91) p) (vR (σ 91) p) mm)), SH, σ') ∧ ∀ a, ¬ a = 94 → ¬ a = 95 → σ' a = σ a := by
  obtain ⟨σ', e, r⟩ := V123 (ro := ro) (d := d) σ cs wo hM' hO p mm hp hmm h0
  refine ⟨σ', ?_, r⟩
  have p1 : 40 + p < 933 := by omega
  have p2 : 46 + p < 933 := by omega
  have p3 : 15 + p < 933 := by omega
  have p4 : 21 + p < 933 := by omega
  have p5 : 52 + 4 * p + mm % 4 < 933 := by omega
  have r91 := r 91 (by decide) (by decide)
  have hm4 : nI mm - nI mm / nI 4 * nI 4 = nI (mm % 4) := z_mod hmm (by decide) (by decide)
  have v1 : vD (σ 91) p 1 = σ 91 (40 + p) := rfl
  have v2 : vD (σ 91) p 2 = σ 91 (46 + p) := rfl
  have v5 : vD (σ 91) p 5 = σ 91 (15 + p) := rfl
  have v6 : vD (σ 91) p 6 = σ 91 (21 + p) := rfl
  unfold careD
  rw [v1, v2, v5, v6]
  by_cases k1 : σ 91 (40 + p) = nI 1
  · simp (disch := first | assumption | omega | exact zb_fit | (simp (disch := omega) only [up_no, up_nk, up_at, u_cp_no] <;> (first | assumption | omega)) | (simp only [hkF] <;> omega) | decide) only [E124, S124, e, r91, nI10, k1, hkF, z_add, z_mul, up_at, up_no, up_nk, u_cp_no, ma_bd, if_true, if_false, Option.toList, List.nil_append, List.cons_append]
  by_cases k2 : σ 91 (40 + p) = nI 2
  · simp (disch := first | assumption | omega | exact zb_fit | (simp (disch := omega) only [up_no, up_nk, up_at, u_cp_no] <;> (first | assumption | omega)) | (simp only [hkF] <;> omega) | decide) only [E124, S124, e, r91, nI10, nI2, k2, z_eq, Nat.reduceEqDiff, hkF, z_add, z_mul, up_at, up_no, up_nk, u_cp_no, ma_bd, if_true, if_false, Option.toList, List.nil_append, List.cons_append]
  by_cases k3 : σ 91 (40 + p) = nI 3
  · simp (disch := first | assumption | omega | exact zb_fit | (simp (disch := omega) only [up_no, up_nk, up_at, u_cp_no] <;> (first | assumption | omega)) | (simp only [hkF] <;> omega) | decide) only [E124, S124, e, r91, nI10, k3, z_eq, Nat.reduceEqDiff, hkF, z_add, z_mul, up_at, up_no, up_nk, u_cp_no, ma_bd, if_true, if_false, Option.toList, List.nil_append, List.cons_append]
  by_cases k4 : σ 91 (40 + p) = nI 4
  · by_cases k7 : nI mm - nI mm / nI 7 * nI 7 = nI 6 <;> simp (disch := first | assumption | omega | exact zb_fit | (simp (disch := omega) only [up_no, up_nk, up_at, u_cp_no] <;> (first | assumption | omega)) | (simp only [hkF] <;> omega) | decide) only [E124, S124, e, r91, nI10, nI7, k4, k7, h0, z_eq, Nat.reduceEqDiff, hkF, z_add, z_mul, up_at, up_no, up_nk, u_cp_no, ma_bd, if_true, if_false, Option.toList, List.nil_append, List.cons_append]
  by_cases k5 : σ 91 (40 + p) = nI 5
  · simp (disch := first | assumption | omega | exact zb_fit | (simp (disch := omega) only [up_no, up_nk, up_at, u_cp_no] <;> (first | assumption | omega)) | (simp only [hkF] <;> omega) | decide) only [E124, S124, e, r91, nI10, nI2, k5, z_eq, Nat.reduceEqDiff, hkF, z_add, z_mul, up_at, up_no, up_nk, u_cp_no, ma_bd, if_true, if_false, Option.toList, List.nil_append, List.cons_append]
  by_cases k6 : σ 91 (40 + p) = nI 6
  · simp (disch := first | assumption | omega | exact zb_fit | (simp (disch := omega) only [up_no, up_nk, up_at, u_cp_no] <;> (first | assumption | omega)) | (simp only [hkF] <;> omega) | decide) only [E124, S124, e, r91, nI10, nI4, k6, z_eq, Nat.reduceEqDiff, h0, hm4, vR, hkF, z_add, z_mul, up_at, up_no, up_nk, u_cp_no, ma_bd, if_true, if_false, Option.toList, List.nil_append, List.cons_append]
  simp (disch := first | assumption | omega | exact zb_fit | (simp (disch := omega) only [up_no, up_nk, up_at, u_cp_no] <;> (first | assumption | omega)) | (simp only [hkF] <;> omega) | decide) only [E124, S124, e, r91, nI10, k1, k2, k3, k4, k5, k6, hkF, z_add, z_mul, up_at, up_no, up_nk, u_cp_no, ma_bd, if_true, if_false, Option.toList, List.nil_append, List.cons_append]

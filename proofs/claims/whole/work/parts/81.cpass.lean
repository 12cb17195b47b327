/-! The call pass: harm held at the end, or each morning. -/
theorem inc_L (cs : List (Bool × Nat × List (Nat × Nat × Nat))) (mm nd : Nat) (S S' : Nat → Int32) (hn : nd ≤ 6) (hq : q5 S nd) (h : ∀ j, ¬ j = 2 → S' j = S j) : ∀ k, k ≤ nd → ∃ i, i ≤ 10 * k ∧ stL cs mm k S 2 = S 2 + nI i ∧ stL cs mm k S' 2 = S' 2 + nI i ∧ ∀ j, ¬ j = 2 → stL cs mm k S' j = stL cs mm k S j := by
  intro k
  induction k with
  | zero => intro _; exact ⟨0, by decide, (Int32.add_zero _).symm, (Int32.add_zero _).symm, h⟩
  | succ k ih =>
    intro hk
    obtain ⟨i, hi, e1, e2, e3⟩ := ih (by omega)
    have hv : stL cs mm k S (46 + k) = S (46 + k) := stL_hi cs mm S k (by omega) _ (by omega)
    generalize hT : stL cs mm k S = T at e1 e3 hv
    generalize hT' : stL cs mm k S' = T' at e2 e3
    have eD : vD T' k = vD T k := by
      funext j
      unfold vD
      rw [e3 (40 + k) (by omega), e3 (46 + k) (by omega), e3 (3 + k) (by omega), e3 (9 + k) (by omega), e3 (15 + k) (by omega), e3 (21 + k) (by omega), e3 (27 + k) (by omega)]
    have eR : vR T' k = vR T k := by
      funext j
      exact e3 _ (by omega)
    obtain ⟨v, hv9, hv'⟩ := (hq k (by omega)).2.1
    have hg : ∀ U : Nat → Int32, stG cs mm k U = setD U k (goD (vD U k) (careD cs (vD U k) (vR U k) mm) (U 1)) := fun U => rfl
    have e1' : T' 1 = T 1 := e3 1 (by decide)
    obtain ⟨b, hb, hb'⟩ : ∃ b, b ≤ 1 ∧ goD (vD T k) (careD cs (vD T k) (vR T k) mm) (T 1) 3 = nI b := by
      rw [goD_3]
      split
      · exact ⟨1, by decide, rfl⟩
      · exact ⟨0, by decide, rfl⟩
    have sl : ∀ (U D : Nat → Int32), setD U k D (3 + k) = D 3 := fun U D => if_pos rfl
    have shi : ∀ (U D : Nat → Int32), setD U k D (46 + k) = U (46 + k) := fun U D => setD_hi U k (by omega) D _ (by omega)
    have s2 : ∀ (U D : Nat → Int32), setD U k D 2 = U 2 := fun U D => setD_lo U k D 2 (by decide)
    refine ⟨i + b * (v + 1), ?_, ?_, ?_, fun j hj => ?_⟩
    · have : b = 0 ∨ b = 1 := by omega
      rcases this with rfl | rfl <;> omega
    · show stH cs mm k (stL cs mm k S) 2 = _
      rw [hT]
      show upS (stG cs mm k T) 2 (stG cs mm k T 2 + stG cs mm k T (3 + k) * (stG cs mm k T (46 + k) + nI 1)) 2 = _
      rw [upS_at, hg, s2, sl, shi, hb', hv, hv', e1, z_add, z_mul, Int32.add_assoc, z_add]
    · show stH cs mm k (stL cs mm k S') 2 = _
      rw [hT']
      show upS (stG cs mm k T') 2 (stG cs mm k T' 2 + stG cs mm k T' (3 + k) * (stG cs mm k T' (46 + k) + nI 1)) 2 = _
      rw [upS_at, hg, s2, sl, shi, eD, eR, e1', hb', e3 (46 + k) (by omega), hv, hv', e2, z_add, z_mul, Int32.add_assoc, z_add]
    · show stH cs mm k (stL cs mm k S') j = stH cs mm k (stL cs mm k S) j
      rw [hT, hT']
      show upS (stG cs mm k T') 2 _ j = upS (stG cs mm k T) 2 _ j
      rw [upS_ne hj, upS_ne hj, hg, hg, eD, eR, e1']
      unfold setD
      rw [e3 j hj]
def stP (cs : List (Bool × Nat × List (Nat × Nat × Nat))) (mm nd : Nat) : Nat → (Nat → Int32) → (Nat → Int32)
  | 0, S => S
  | n + 1, S => upS (stM cs (mm + n) nd (stP cs mm nd n S)) 2 (hl0 (nI 999999) (stM cs (mm + n) nd (stP cs mm nd n S) 2))
theorem hl0_nI {a m : Nat} (ha : a < 2 ^ 31) (hm : m < 2 ^ 31) : hl0 (nI m) (nI a) = nI (min a m) := by
  unfold hl0
  rw [if_neg (by rw [z_lt ha (by decide)]; omega)]
  by_cases h : m < a
  · rw [if_pos (by rw [z_lt hm ha]; exact h), Nat.min_eq_right (by omega)]
  · rw [if_neg (by rw [z_lt hm ha]; exact h), Nat.min_eq_left (by omega)]
theorem stP_facts (cs : List (Bool × Nat × List (Nat × Nat × Nat))) (mm nd : Nat) (S : Nat → Int32) (hn : nd ≤ 6) (hI : IvA S nd) (h0 : S 0 = nI mm) (hq : q5 S nd) (h2 : Rg (S 2) 999999) : ∀ n, n ≤ 60 → ∃ H, H ≤ 999999 + 60 * n ∧ stN cs mm nd n S 2 = nI H ∧ stP cs mm nd n S 2 = nI (min H 999999) ∧ ∀ j, ¬ j = 2 → stP cs mm nd n S j = stN cs mm nd n S j := by
  intro n
  induction n with
  | zero =>
    intro _
    obtain ⟨H, hH, hH'⟩ := h2
    exact ⟨H, by omega, hH', by rw [Nat.min_eq_left hH]; exact hH', fun _ _ => rfl⟩
  | succ n ih =>
    intro hn1
    obtain ⟨H, hH, e1, e2, e3⟩ := ih (by omega)
    have i1 := (stN_facts cs mm nd S hn hI h0 n).1
    obtain ⟨i, hi, f1, f2, f3⟩ := inc_L cs (mm + n) nd (stN cs mm nd n S) (stP cs mm nd n S) hn (q5c hn (fun k _ _ => i1 k (by omega)) hq) e3 nd (Nat.le_refl _)
    have g : ∀ U : Nat → Int32, stM cs (mm + n) nd U 2 = stL cs (mm + n) nd U 2 := fun U => upS_ne (by decide)
    refine ⟨H + i, by omega, ?_, ?_, fun j hj => ?_⟩
    · show stM cs (mm + n) nd (stN cs mm nd n S) 2 = _
      rw [g, f1, e1, z_add]
    · show upS (stM cs (mm + n) nd (stP cs mm nd n S)) 2 (hl0 (nI 999999) (stM cs (mm + n) nd (stP cs mm nd n S) 2)) 2 = _
      rw [upS_at, g, f2, e2, z_add, hl0_nI (by have := Nat.min_le_right H 999999; omega) (by decide)]
      congr 1
      have h1 := Nat.min_def (n := H) (m := 999999)
      have h2 := Nat.min_def (n := min H 999999 + i) (m := 999999)
      have h3 := Nat.min_def (n := H + i) (m := 999999)
      split at h1 <;> split at h2 <;> split at h3 <;> omega
    · show upS (stM cs (mm + n) nd (stP cs mm nd n S)) 2 _ j = stM cs (mm + n) nd (stN cs mm nd n S) j
      rw [upS_ne hj]
      unfold stM upS
      by_cases hj0 : j = 0
      · rw [if_pos hj0, if_pos hj0]
      · rw [if_neg hj0, if_neg hj0]; exact f3 j hj
theorem C68 {ro : ma_RO} {d : Nat} (σ : ma_H) (hG : G σ) (x : Int32) : ∃ r σ1 σ2, ma_ev ro (d + 7) 68 [.ref 0, .int x] SH σ = some (some (.int r), SH, σ1) ∧ ma_ev ro (d + 7) 142 [.ref 90, .int x] SH σ1 = some (some (.int r), SH, σ2) ∧ G σ2 := by
  obtain ⟨nd, cs, wo, hg⟩ := hG.1
  obtain ⟨h1, h2, h3, h4, h5, ⟨mm, h6, h6'⟩, h7, h8, h9, h10, h11, h12, h13, h14, h15, h16, h17, h18, h19, h20, h21⟩ := GS_open hg
  have w3 : σ 2 3 = nI mm := h15.2.2.1.trans h6'
  by_cases hx : x < nI 0 ∨ nI 60 < x
  · have e88 := V88t (ro := ro) (d := d + 6) σ hx
    have e102 := V102f (ro := ro) (d := d + 6) σ hx
    exact ⟨_, σ, σ, by simp (disch := first | assumption | omega | exact zb_fit | exact hbf .. | (simp (disch := omega) only [up_no, up_nk, up_at, u_cp_no] <;> (first | assumption | omega)) | (simp only [hkF] <;> omega) | decide) only [E68, S68, e88, z_eq, Nat.reduceEqDiff, hkF, z_add, z_mul, up_at, up_no, up_nk, u_cp_no, ma_bd, ↓reduceIte, if_true, if_false, Option.toList, List.nil_append, List.cons_append]; rfl, by simp (disch := first | assumption | omega | exact zb_fit | exact hbf .. | (simp (disch := omega) only [up_no, up_nk, up_at, u_cp_no] <;> (first | assumption | omega)) | (simp only [hkF] <;> omega) | decide) only [E142, S142, e102, z_eq, Nat.reduceEqDiff, hkF, z_add, z_mul, up_at, up_no, up_nk, u_cp_no, ma_bd, ↓reduceIte, if_true, if_false, Option.toList, List.nil_append, List.cons_append], hG⟩
  have e88 := V88f (ro := ro) (d := d + 6) σ hx
  have e102 := fun s => V102t (ro := ro) (d := d + 6) s hx
  obtain ⟨n, hn, rfl⟩ := Rg_of (by decide) hx
  by_cases hmn : 9999 < mm + n
  · have e102 := e102 σ
    exact ⟨_, σ, σ, by simp (disch := first | assumption | omega | exact zb_fit | exact hbf .. | (simp (disch := omega) only [up_no, up_nk, up_at, u_cp_no] <;> (first | assumption | omega)) | (simp only [hkF] <;> omega) | decide) only [E68, S68, e88, w3, z_lt, hmn, z_eq, Nat.reduceEqDiff, hkF, z_add, z_mul, up_at, up_no, up_nk, u_cp_no, ma_bd, ↓reduceIte, if_true, if_false, Option.toList, List.nil_append, List.cons_append]; rfl, by simp (disch := first | assumption | omega | exact zb_fit | exact hbf .. | (simp (disch := omega) only [up_no, up_nk, up_at, u_cp_no] <;> (first | assumption | omega)) | (simp only [hkF] <;> omega) | decide) only [E142, S142, e102, h6', z_lt, hmn, z_eq, Nat.reduceEqDiff, hkF, z_add, z_mul, up_at, up_no, up_nk, u_cp_no, ma_bd, ↓reduceIte, if_true, if_false, Option.toList, List.nil_append, List.cons_append], hG⟩
  obtain ⟨s1, e53, p53, r53⟩ := V53 (ro := ro) (d := d) σ 2 16 nd mm n (σ 91) cs wo hkWh_1.2.1 hkWh_1.2.2.1 (by omega) h16 h3 h1 h15 (by omega) h6' h5
  obtain ⟨H, hH, f1, f2, f3⟩ := stP_facts cs mm nd (σ 91) h1 h5 h6' h9 h8 n hn
  obtain ⟨i1, i2, i3, i4⟩ := stN_facts cs mm nd (σ 91) h1 h5 h6' n
  have y3 : s1 2 3 = nI (mm + n) := p53.2.2.1.trans i3
  have y4 : s1 2 4 = nI H := p53.2.2.2.1.trans f1
  have hmin : (if 999999 < H then nI 999999 else nI H) = nI (min H 999999) := by
    by_cases h : 999999 < H
    · rw [if_pos h, Nat.min_eq_right (by omega)]
    · rw [if_neg h, Nat.min_eq_left (by omega)]
  -- the reference's row behind the mornings
  have s91 : s1 91 = σ 91 := r53 91 (by omega)
  generalize ht : ma_up s1 2 4 (nI (min H 999999)) = t
  have t91 : t 91 = σ 91 := by rw [← ht, up_no (by decide), s91]
  obtain ⟨⟨l2, s2⟩, e2, hl, q2, r2⟩ := ma_iter (fun z : ma_L × ma_H => ma_rn ro (d + 7) 142 (32, z.1, [], SH, z.2)) (fun k z => z.1 = [some (.ref 90), some (.int (nI n)), some (.int (nI k))] ∧ z.2 91 = stP cs mm nd k (σ 91) ∧ ∀ a, ¬ a = 91 → ¬ a = 94 → ¬ a = 95 → z.2 a = t a) n (by
    rintro k hk ⟨l, s⟩ ⟨hl, hs, r⟩
    simp only at hl hs r
    subst hl
    obtain ⟨j1, j2, j3, j4⟩ := stN_facts cs mm nd (σ 91) h1 h5 h6' k
    obtain ⟨Hk, hHk, g1, g2, g3⟩ := stP_facts cs mm nd (σ 91) h1 h5 h6' h9 h8 k (by omega)
    have ehi : sHi (σ 91) (stP cs mm nd k (σ 91)) := fun j hj => (g3 j (by omega)).trans (j1 j hj)
    obtain ⟨s', e139, q139, r139⟩ := V139 (ro := ro) (d := d + 2) s cs wo (by rw [hs]; exact HMr_congr ehi h4) h3 nd (mm + k) h1 (by rw [hs, ehi 33 (by decide)]; exact h2) (by omega) (by rw [hs, g3 0 (by decide)]; exact j3)
    refine ⟨([some (.ref 90), some (.int (nI n)), some (.int (nI (k + 1)))], ma_up s' 91 2 (hl0 (nI 999999) (s' 91 2))), ?_, rfl, ?_, fun a o1 o2 o3 => ?_⟩
    · simp only
      rw [Sh142_32]
      simp (disch := first | assumption | omega | exact zb_fit | exact hbf .. | (simp (disch := omega) only [up_no, up_nk, up_at, u_cp_no] <;> (first | assumption | omega)) | (simp only [hkF] <;> omega) | decide) only [S142, z_lt, hk, e139, V104', hkF, z_add, z_mul, up_at, up_no, up_nk, u_cp_no, ma_bd, ↓reduceIte, if_true, if_false, Option.toList, List.nil_append, List.cons_append]
    · show ma_up s' 91 2 _ 91 = _
      rw [up_S, q139, hs]; rfl
    · show ma_up s' 91 2 _ a = t a
      rw [up_no o1, r139 a o1 o2 o3]; exact r a o1 o2 o3) ([some (.ref 90), some (.int (nI n)), some (.int (nI 0))], t) ⟨rfl, t91, fun _ _ _ _ => rfl⟩
  simp only at e2 hl q2 r2
  subst hl
  have e102 := e102 t
  have z0 : s2 91 0 = nI (mm + n) := by rw [q2, f3 0 (by decide)]; exact i3
  have t0 : t 91 0 = nI mm := by rw [t91]; exact h6'
  refine ⟨nI (mm + n), t, s2, ?_, ?_, ?_⟩
  · have k3 : t 2 3 = nI (mm + n) := by rw [← ht, up_nk (by decide)]; exact y3
    simp (disch := first | assumption | omega | exact zb_fit | exact hbf .. | (simp (disch := omega) only [up_no, up_nk, up_at, u_cp_no] <;> (first | assumption | omega)) | (simp only [hkF] <;> omega) | decide) only [E68, S68, e88, w3, z_lt, hmn, e53, y4, hmin, ht, k3, z_eq, Nat.reduceEqDiff, hkF, z_add, z_mul, up_at, up_no, up_nk, u_cp_no, ma_bd, ↓reduceIte, if_true, if_false, Option.toList, List.nil_append, List.cons_append]
  · refine Eq.trans (?_ : _ = ma_rn ro (d + 7) 142 (32, [some (.ref 90), some (.int (nI n)), some (.int (nI 0))], [], SH, t)) (e2.trans ?_)
    · simp (disch := first | assumption | omega | exact zb_fit | exact hbf .. | (simp (disch := omega) only [up_no, up_nk, up_at, u_cp_no] <;> (first | assumption | omega)) | (simp only [hkF] <;> omega) | decide) only [E142, S142, e102, t0, z_lt, hmn, z_eq, Nat.reduceEqDiff, hkF, z_add, z_mul, up_at, up_no, up_nk, u_cp_no, ma_bd, ↓reduceIte, if_true, if_false, Option.toList, List.nil_append, List.cons_append]
    · rw [Sh142_32]
      simp (disch := first | assumption | omega | exact zb_fit | exact hbf .. | (simp (disch := omega) only [up_no, up_nk, up_at, u_cp_no] <;> (first | assumption | omega)) | (simp only [hkF] <;> omega) | decide) only [S142, z_lt, Nat.lt_irrefl, z0, hkF, z_add, z_mul, up_at, up_no, up_nk, u_cp_no, ma_bd, ↓reduceIte, if_true, if_false, Option.toList, List.nil_append, List.cons_append]
  · have ehi : sHi (σ 91) (stP cs mm nd n (σ 91)) := fun j hj => (f3 j (by omega)).trans (i1 j hj)
    have eD : ∀ p, p < nd → ∀ j, vD (stP cs mm nd n (σ 91)) p j = vD (stN cs mm nd n (σ 91)) p j := by
      intro p hp j
      unfold vD
      rw [f3 (40 + p) (by omega), f3 (46 + p) (by omega), f3 (3 + p) (by omega), f3 (9 + p) (by omega), f3 (15 + p) (by omega), f3 (21 + p) (by omega), f3 (27 + p) (by omega)]
    have a : ∀ o, ¬ o = 91 → ¬ o = 94 → ¬ o = 95 → (o < 2 ∨ 3 + 2 * nd < o) → s2 o = σ o := fun o o1 o2 o3 o4 => by
      rw [r2 o o1 o2 o3, ← ht, up_no (by omega)]; exact r53 o (by omega)
    have hw : RWd s2 2 (stP cs mm nd n (σ 91)) nd := by
      obtain ⟨v1, v2, v3, v4, v5⟩ := p53
      refine ⟨by rw [r2 2 (by decide) (by decide) (by decide), ← ht, up_nk (by decide)]; exact v1, by rw [r2 2 (by decide) (by decide) (by decide), ← ht, up_nk (by decide), f3 1 (by decide)]; exact v2, by rw [r2 2 (by decide) (by decide) (by decide), ← ht, up_nk (by decide), f3 0 (by decide)]; exact v3, by rw [r2 2 (by decide) (by decide) (by decide), ← ht, up_at, f2], fun p hp => ?_⟩
      obtain ⟨d1, d2⟩ := v5 p hp
      exact ⟨fun j hj => by rw [r2 _ (by omega) (by omega) (by omega), ← ht, up_no (by omega), eD p hp]; exact d1 j hj, fun j hj => by rw [r2 _ (by omega) (by omega) (by omega), ← ht, up_no (by omega), show vR (stP cs mm nd n (σ 91)) p j = vR (stN cs mm nd n (σ 91)) p j from f3 _ (by omega)]; exact d2 j hj⟩
    refine G_low hG hg (by rw [q2]; exact ehi) (by rw [q2]; exact fun p hp => IvD_congr (fun j _ => eD p hp j) (i2 p hp)) (by rw [z0]; exact ⟨mm + n, by omega, rfl⟩) (by rw [q2, f3 1 (by decide), i4]; exact h7) (by rw [q2, f2]; exact ⟨_, Nat.min_le_right _ _, rfl⟩) (by rw [q2]; exact hw) (fun o ho => a o (by omega) (by omega) (by omega) (by omega)) (fun p hp => ?_) (by rw [a 90 (by decide) (by decide) (by decide) (by omega)]) (by rw [a 90 (by decide) (by decide) (by decide) (by omega)])
    by_cases hpn : p < nd
    · have := (hw.2.2.2.2 p hpn).1 0 (by decide)
      exact (congrFun (congrArg s2 (show 4 + 2 * p = 2 + 1 + 1 + 2 * p by omega)) 0).trans this
    · rw [a _ (by omega) (by omega) (by omega) (by omega)]; exact hG.2.1 p hp

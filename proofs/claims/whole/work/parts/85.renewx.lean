/-! RENEW on the class's side: backwards by the mark. -/
def DkF (S : Nat → Int32) (p a0 k u : Nat) (j : Nat) : Int32 := if j = 5 then nI (min (a0 + k) 99) else if j = 6 then nI u else vD S p j
def gKF (cs : List (Bool × Nat × List (Nat × Nat × Nat))) (S : Nat → Int32) (p a0 mm k u : Nat) : Nat → Int32 := goD (DkF S p a0 k u) (careD cs (DkF S p a0 k u) (vR S p) (mm + k)) (S 1)
def okF (cs : List (Bool × Nat × List (Nat × Nat × Nat))) (S : Nat → Int32) (p a0 mm q k u : Nat) : Bool := decide (¬ gKF cs S p a0 mm k u 4 < nI q)
def nxF (cs : List (Bool × Nat × List (Nat × Nat × Nat))) (S : Nat → Int32) (p a0 mm k u : Nat) : Nat := clN (gKF cs S p a0 mm k u 6)
theorem DkF_Iv {S : Nat → Int32} {p a0 k u : Nat} (hI : IvD (vD S p)) (hu : u ≤ 9) : IvD (DkF S p a0 k u) :=
  ⟨hI.1, hI.2.1, ⟨_, Nat.min_le_right _ _, rfl⟩, ⟨u, hu, rfl⟩, hI.2.2.2.2⟩
theorem gKF_Iv (cs : List (Bool × Nat × List (Nat × Nat × Nat))) {S : Nat → Int32} {p a0 mm k u : Nat} (hI : IvD (vD S p)) (hu : u ≤ 9) : IvD (gKF cs S p a0 mm k u) := goD_Iv _ _ _ (DkF_Iv hI hu)
theorem nxF_spec (cs : List (Bool × Nat × List (Nat × Nat × Nat))) {S : Nat → Int32} {p a0 mm k u : Nat} (hI : IvD (vD S p)) (hu : u ≤ 9) : nxF cs S p a0 mm k u ≤ 9 ∧ gKF cs S p a0 mm k u 6 = nI (nxF cs S p a0 mm k u) := by
  obtain ⟨v, hv, hv'⟩ := (gKF_Iv cs (a0 := a0) (mm := mm) (k := k) hI hu).2.2.2.1
  unfold nxF
  rw [hv', clN_nI (by omega)]
  exact ⟨hv, rfl⟩
theorem V99 {ro : ma_RO} {d : Nat} (σ : ma_H) (k : Nat) (hk : k < 10) : ma_ev ro d 99 [.ref 0, .int (nI k)] SH σ = some (some (.int (σ 89 k)), SH, σ) := by
  have ha : hk_alen 89 = 10 := rfl
  have hl : k < hk_len 89 := hk
  simp (disch := first | assumption | omega | exact zb_fit | exact hbf .. | (simp (disch := omega) only [up_no, up_nk, up_at, u_cp_no] <;> (first | assumption | omega)) | (simp only [hkF] <;> omega) | decide) only [E99, S99, z_lt, Nat.not_lt_zero, ha, hk, hkF, z_add, z_mul, up_at, up_no, up_nk, u_cp_no, ma_bd, ↓reduceIte, if_true, if_false, Option.toList, List.nil_append, List.cons_append]
theorem V98 {ro : ma_RO} {d : Nat} (σ : ma_H) (nd : Nat) (cs : List (Bool × Nat × List (Nat × Nat × Nat))) (wo : Int32) (hg : GS σ 1 (σ 91) nd cs wo) (p a0 mm q k u : Nat) (hp : p < nd) (hm : σ 91 0 = nI mm) (hmm : mm ≤ 9999) (ha : σ 91 (15 + p) = nI a0) (ha9 : a0 ≤ 99) (hk : k ≤ 8) (hu : u ≤ 9) (hq : q ≤ 99) (B : Nat → Nat) (hB : ∀ v, v < 10 → σ 89 v = nI (B v)) :
    ∃ σ', ma_ev ro (d + 6) 98 [.ref 0, .ref (2 + 1 + 1 + 2 * p), .int (nI k), .int (nI q), .int (nI u)] SH σ = some (some (.int (nI (Wp (okF cs (σ 91) p a0 mm q) (nxF cs (σ 91) p a0 mm) k B u))), SH, σ') ∧ ∀ o, ¬ o = 84 → ¬ o = 85 → σ' o = σ o := by
  obtain ⟨h1, h2, h3, h4, h5, h6, h7, h8, h9, h10, h11, h12, h13, h14, h15, h16, h17, h18, h19, h20, h21⟩ := GS_open hg
  have kw := hkWh_1.2.1
  have kd : hkDd (2 + 1 + 1 + 2 * p) := kw.2.2.2 p (by omega)
  have kd1 := kd.1
  have k84 : hkDd 84 := ⟨rfl, rfl, rfl⟩
  have dd := h15.2.2.2.2 p hp
  have d3 : σ (2 + 1 + 1 + 2 * p) 3 = σ 91 (3 + p) := dd.1 3 (by decide)
  have d5 : σ (2 + 1 + 1 + 2 * p) 5 = nI a0 := (dd.1 5 (by decide)).trans ha
  obtain ⟨s1, e8, a1, a2, r1⟩ := V8 (ro := ro) (d := d + 4) σ 84 (2 + 1 + 1 + 2 * p) k84 kd (by omega) (by omega) (by omega) (by rw [d3]; exact (h5 p hp).1)
  have y5 : s1 (2 + 1 + 1 + 2 * p) 5 = nI a0 := by rw [r1 _ (by omega) (by omega)]; exact d5
  have hmin : (if a0 + k < 99 then nI (a0 + k) else nI 99) = nI (min (a0 + k) 99) := by
    by_cases h : a0 + k < 99
    · rw [if_pos h, Nat.min_eq_left (by omega)]
    · rw [if_neg h, Nat.min_eq_right (by omega)]
  generalize hs2 : ma_up (ma_up s1 84 5 (nI (min (a0 + k) 99))) 84 6 (nI u) = s2
  have r2 : ∀ o, ¬ o = 84 → ¬ o = 85 → s2 o = σ o := fun o o1 o2 => by rw [← hs2, up_no o1, up_no o1]; exact r1 o o1 o2
  have z84 : ∀ j, j < 8 → s2 84 j = DkF (σ 91) p a0 k u j := fun j hj => by
    rw [← hs2]
    unfold DkF
    by_cases j5 : j = 5
    · subst j5; rw [up_nk (by decide), up_at, if_pos rfl]
    · rw [if_neg j5]
      by_cases j6 : j = 6
      · subst j6; rw [up_at, if_pos rfl]
      · rw [if_neg j6, up_nk j6, up_nk j5, a1 j hj]; exact dd.1 j hj
  have z85 : ∀ j, j < 4 → s2 85 j = vR (σ 91) p j := fun j hj => by
    rw [← hs2, up_no (by decide), up_no (by decide), show (85 : Nat) = 84 + 1 from rfl, a2 j hj]; exact dd.2 j hj
  have hI2 : IvD (s2 84) := IvD_congr z84 (DkF_Iv (h5 p hp) hu)
  have e11 := V11 (ro := ro) (d := d + 1) s2 84 16 (mm + k) cs wo (HXr_congr (fun o o1 o2 => r2 o (by omega) (by omega)) h16) h3 k84 hkWh_1.2.2.1 (by omega)
  obtain ⟨s3, e12, q12, r12⟩ := V12 (ro := ro) (d := d + 4) s2 84 (careD cs (s2 84) (s2 85) (mm + k)) (σ 91 1) k84 hI2.2.2.1 hI2.2.2.2.1
  have w3 : s2 2 3 = nI mm := by rw [r2 2 (by decide) (by decide)]; exact h15.2.2.1.trans hm
  have w2 : s2 2 2 = σ 91 1 := by rw [r2 2 (by decide) (by decide)]; exact h15.2.1
  have g : ∀ j, j < 8 → s3 84 j = gKF cs (σ 91) p a0 mm k u j := fun j hj => by
    rw [q12, careD_congr cs (mm + k) z84 z85]
    exact goD_congr z84 _ _ j hj
  have g4 := g 4 (by decide)
  obtain ⟨nx9, hnx⟩ := nxF_spec cs (a0 := a0) (mm := mm) (k := k) (h5 p hp) hu
  have g6 : s3 84 6 = nI (nxF cs (σ 91) p a0 mm k u) := (g 6 (by decide)).trans hnx
  have r3 : ∀ o, ¬ o = 84 → ¬ o = 85 → s3 o = σ o := fun o o1 o2 => by rw [r12 o o1]; exact r2 o o1 o2
  have e99 := V99 (ro := ro) (d := d + 5) s3 (nxF cs (σ 91) p a0 mm k u) (by omega)
  have b89 : s3 89 (nxF cs (σ 91) p a0 mm k u) = nI (B (nxF cs (σ 91) p a0 mm k u)) := by rw [r3 89 (by decide) (by decide)]; exact hB _ (by omega)
  refine ⟨s3, ?_, r3⟩
  by_cases hc : gKF cs (σ 91) p a0 mm k u 4 < nI q
  · have ho : okF cs (σ 91) p a0 mm q k u = false := decide_eq_false (fun h => h hc)
    rw [show Wp (okF cs (σ 91) p a0 mm q) (nxF cs (σ 91) p a0 mm) k B u = 1048576 by unfold Wp; rw [ho]; rfl]
    simp (disch := first | assumption | omega | exact zb_fit | exact hbf .. | (simp (disch := omega) only [up_no, up_nk, up_at, u_cp_no] <;> (first | assumption | omega)) | (simp only [hkF] <;> omega) | decide) only [E98, S98, e8, y5, hmin, z_lt, hs2, w3, w2, e11, e12, g4, hc, hkF, z_add, z_mul, up_at, up_no, up_nk, u_cp_no, ma_bd, ↓reduceIte, if_true, if_false, Option.toList, List.nil_append, List.cons_append]
  · have ho : okF cs (σ 91) p a0 mm q k u = true := decide_eq_true hc
    rw [show Wp (okF cs (σ 91) p a0 mm q) (nxF cs (σ 91) p a0 mm) k B u = B (nxF cs (σ 91) p a0 mm k u) by unfold Wp; rw [ho]; rfl]
    simp (disch := first | assumption | omega | exact zb_fit | exact hbf .. | (simp (disch := omega) only [up_no, up_nk, up_at, u_cp_no] <;> (first | assumption | omega)) | (simp only [hkF] <;> omega) | decide) only [E98, S98, e8, y5, hmin, z_lt, hs2, w3, w2, e11, e12, g4, hc, g6, e99, b89, hkF, z_add, z_mul, up_at, up_no, up_nk, u_cp_no, ma_bd, ↓reduceIte, if_true, if_false, Option.toList, List.nil_append, List.cons_append]
theorem Wp_le (ok : Nat → Nat → Bool) (nx : Nat → Nat → Nat) (k : Nat) (B : Nat → Nat) (hB : ∀ v, B v ≤ 1048576) (u : Nat) : Wp ok nx k B u ≤ 1048576 := by
  unfold Wp
  split
  · exact hB _
  · exact Nat.le_refl _
theorem V97 {ro : ma_RO} {d : Nat} (σ : ma_H) (nd : Nat) (cs : List (Bool × Nat × List (Nat × Nat × Nat))) (wo : Int32) (hg : GS σ 1 (σ 91) nd cs wo) (p a0 mm q k : Nat) (hp : p < nd) (hm : σ 91 0 = nI mm) (hmm : mm ≤ 9999) (ha : σ 91 (15 + p) = nI a0) (ha9 : a0 ≤ 99) (hk : k ≤ 8) (hq : q ≤ 99) (B : Nat → Nat) (hB : ∀ v, v < 10 → σ 89 v = nI (B v)) (hBl : ∀ v, B v ≤ 1048576) :
    ∃ σ', ma_ev ro (d + 7) 97 [.ref 0, .ref (2 + 1 + 1 + 2 * p), .int (nI k), .int (nI q)] SH σ = some (none, SH, σ') ∧ (∀ v, v < 10 → σ' 89 v = nI (min (Wp (okF cs (σ 91) p a0 mm q) (nxF cs (σ 91) p a0 mm) k B v) (Wp (okF cs (σ 91) p a0 mm q) (nxF cs (σ 91) p a0 mm) k B 9 + 256 + 2 ^ k))) ∧ ∀ o, ¬ o = 84 → ¬ o = 85 → ¬ o = 88 → ¬ o = 89 → σ' o = σ o := by
  have ha8 : hk_alen 88 = 10 := rfl
  have ha9' : hk_alen 89 = 10 := rfl
  have GSr : ∀ s : ma_H, (∀ o, ¬ o = 84 → ¬ o = 85 → ¬ o = 88 → ¬ o = 89 → s o = σ o) → GS s 1 (s 91) nd cs wo ∧ s 91 = σ 91 := fun s r => ⟨by rw [r 91 (by decide) (by decide) (by decide) (by decide)]; exact GS_cell (fun o ho => r o (by omega) (by omega) (by omega) (by omega)) hg, r 91 (by decide) (by decide) (by decide) (by decide)⟩
  generalize hW : Wp (okF cs (σ 91) p a0 mm q) (nxF cs (σ 91) p a0 mm) k B = W
  have hWl : ∀ u, W u ≤ 1048576 := fun u => by rw [← hW]; exact Wp_le _ _ _ _ hBl u
  have P : ∀ s : ma_H, (∀ o, ¬ o = 84 → ¬ o = 85 → ¬ o = 88 → ¬ o = 89 → s o = σ o) → (∀ v, v < 10 → s 89 v = nI (B v)) → ∀ u, u ≤ 9 → ∃ s', ma_ev ro (d + 6) 98 [.ref 0, .ref (2 + 1 + 1 + 2 * p), .int (nI k), .int (nI q), .int (nI u)] SH s = some (some (.int (nI (W u))), SH, s') ∧ ∀ o, ¬ o = 84 → ¬ o = 85 → s' o = s o := by
    intro s r hBs u hu
    obtain ⟨g1, g2⟩ := GSr s r
    obtain ⟨s', e, r'⟩ := V98 (ro := ro) (d := d) s nd cs wo g1 p a0 mm q k u hp (by rw [g2]; exact hm) hmm (by rw [g2]; exact ha) ha9 hk hu hq B hBs
    rw [g2, hW] at e
    exact ⟨s', e, r'⟩
  obtain ⟨⟨l1, s1⟩, e1, hl, b1, c1, r1⟩ := ma_iter (fun z : ma_L × ma_H => ma_rn ro (d + 7) 97 (3, z.1, [], SH, z.2)) (fun i z => z.1 = [some (.ref 0), some (.ref (2 + 1 + 1 + 2 * p)), some (.int (nI k)), some (.int (nI q)), some (.int (nI i)), none] ∧ (∀ v, v < 10 → z.2 89 v = nI (B v)) ∧ (∀ v, v < i → z.2 88 v = nI (W v)) ∧ ∀ o, ¬ o = 84 → ¬ o = 85 → ¬ o = 88 → ¬ o = 89 → z.2 o = σ o) 10 (by
    rintro i hi ⟨l, s⟩ ⟨hl, b, c, r⟩
    simp only at hl b c r
    subst hl
    obtain ⟨s', e98, r98⟩ := P s r b i (by omega)
    have hli : i < hk_len 88 := hi
    refine ⟨([some (.ref 0), some (.ref (2 + 1 + 1 + 2 * p)), some (.int (nI k)), some (.int (nI q)), some (.int (nI (i + 1))), none], ma_up s' 88 i (nI (W i))), ?_, rfl, fun v hv => ?_, fun v hv => ?_, fun o o1 o2 o3 o4 => ?_⟩
    · simp only
      rw [Sh97_3]
      simp (disch := first | assumption | omega | exact zb_fit | exact hbf .. | (simp (disch := omega) only [up_no, up_nk, up_at, u_cp_no] <;> (first | assumption | omega)) | (simp only [hkF] <;> omega) | decide) only [S97, ha8, z_lt, hi, e98, hkF, z_add, z_mul, up_at, up_no, up_nk, u_cp_no, ma_bd, ↓reduceIte, if_true, if_false, Option.toList, List.nil_append, List.cons_append]
    · show ma_up s' 88 i (nI (W i)) 89 v = _
      rw [up_no (by decide), r98 89 (by decide) (by decide)]; exact b v hv
    · show ma_up s' 88 i (nI (W i)) 88 v = _
      by_cases hvi : v = i
      · subst hvi; rw [up_at]
      · rw [up_nk hvi, r98 88 (by decide) (by decide)]; exact c v (by omega)
    · show ma_up s' 88 i (nI (W i)) o = _
      rw [up_no o3, r98 o o1 o2]; exact r o o1 o2 o3 o4) ([some (.ref 0), some (.ref (2 + 1 + 1 + 2 * p)), some (.int (nI k)), some (.int (nI q)), some (.int (nI 0)), none], σ) ⟨rfl, hB, fun v hv => by omega, fun _ _ _ _ _ => rfl⟩
  simp only at e1 hl b1 c1 r1
  subst hl
  obtain ⟨s2, e98, r98⟩ := P s1 r1 b1 9 (by decide)
  have hsh : nI 1 <<< (nI k &&& 31) = nI (2 ^ k) := by rw [z_shl (by omega), Nat.one_mul]
  have h2k : 2 ^ k ≤ 256 := by
    have : 2 ^ k ≤ 2 ^ 8 := Nat.pow_le_pow_right (by decide) hk
    omega
  obtain ⟨⟨l3, s3⟩, e3, hl, c3, r3⟩ := ma_iter (fun z : ma_L × ma_H => ma_rn ro (d + 7) 97 (57, z.1, [], SH, z.2)) (fun i z => z.1 = [some (.ref 0), some (.ref (2 + 1 + 1 + 2 * p)), some (.int (nI k)), some (.int (nI q)), some (.int (nI (W 9 + 256 + 2 ^ k))), some (.int (nI i))] ∧ (∀ v, v < i → z.2 89 v = nI (min (W v) (W 9 + 256 + 2 ^ k))) ∧ ∀ o, ¬ o = 89 → z.2 o = s2 o) 10 (by
    rintro i hi ⟨l, s⟩ ⟨hl, c, r⟩
    simp only at hl c r
    subst hl
    have hl8 : i < hk_len 88 := hi
    have hl9 : i < hk_len 89 := hi
    have v8 : s 88 i = nI (W i) := by rw [r 88 (by decide), r98 88 (by decide) (by decide)]; exact c1 i hi
    have wi := hWl i
    have w9 := hWl 9
    have hmin : (if W 9 + 256 + 2 ^ k < W i then nI (W 9 + 256 + 2 ^ k) else nI (W i)) = nI (min (W i) (W 9 + 256 + 2 ^ k)) := by
      by_cases h : W 9 + 256 + 2 ^ k < W i
      · rw [if_pos h, Nat.min_eq_right (by omega)]
      · rw [if_neg h, Nat.min_eq_left (by omega)]
    refine ⟨([some (.ref 0), some (.ref (2 + 1 + 1 + 2 * p)), some (.int (nI k)), some (.int (nI q)), some (.int (nI (W 9 + 256 + 2 ^ k))), some (.int (nI (i + 1)))], ma_up s 89 i (nI (min (W i) (W 9 + 256 + 2 ^ k)))), ?_, rfl, fun v hv => ?_, fun o o1 => ?_⟩
    · simp only
      rw [Sh97_57]
      simp (disch := first | assumption | omega | exact zb_fit | exact hbf .. | (simp (disch := omega) only [up_no, up_nk, up_at, u_cp_no] <;> (first | assumption | omega)) | (simp only [hkF] <;> omega) | decide) only [S97, ha8, ha9', z_lt, hi, v8, hmin, hkF, z_add, z_mul, up_at, up_no, up_nk, u_cp_no, ma_bd, ↓reduceIte, if_true, if_false, Option.toList, List.nil_append, List.cons_append]
    · show ma_up s 89 i _ 89 v = _
      by_cases hvi : v = i
      · subst hvi; rw [up_at]
      · rw [up_nk hvi]; exact c v (by omega)
    · show ma_up s 89 i _ o = _
      rw [up_no o1]; exact r o o1) ([some (.ref 0), some (.ref (2 + 1 + 1 + 2 * p)), some (.int (nI k)), some (.int (nI q)), some (.int (nI (W 9 + 256 + 2 ^ k))), some (.int (nI 0))], s2) ⟨rfl, fun v hv => by omega, fun _ _ => rfl⟩
  simp only at e3 hl c3 r3
  subst hl
  refine ⟨s3, ?_, c3, fun o o1 o2 o3 o4 => by rw [r3 o o4, r98 o o1 o2]; exact r1 o o1 o2 o3 o4⟩
  refine Eq.trans (?_ : _ = ma_rn ro (d + 7) 97 (3, [some (.ref 0), some (.ref (2 + 1 + 1 + 2 * p)), some (.int (nI k)), some (.int (nI q)), some (.int (nI 0)), none], [], SH, σ)) (e1.trans ?_)
  · simp (disch := first | assumption | omega | exact zb_fit | exact hbf .. | (simp (disch := omega) only [up_no, up_nk, up_at, u_cp_no] <;> (first | assumption | omega)) | (simp only [hkF] <;> omega) | decide) only [E97, S97, hkF, z_add, z_mul, up_at, up_no, up_nk, u_cp_no, ma_bd, ↓reduceIte, if_true, if_false, Option.toList, List.nil_append, List.cons_append]
  · refine Eq.trans (?_ : _ = ma_rn ro (d + 7) 97 (57, [some (.ref 0), some (.ref (2 + 1 + 1 + 2 * p)), some (.int (nI k)), some (.int (nI q)), some (.int (nI (W 9 + 256 + 2 ^ k))), some (.int (nI 0))], [], SH, s2)) (e3.trans ?_)
    · rw [Sh97_3]
      simp (disch := first | assumption | omega | exact zb_fit | exact hbf .. | (simp (disch := omega) only [up_no, up_nk, up_at, u_cp_no] <;> (first | assumption | omega)) | (simp only [hkF] <;> omega) | decide) only [S97, ha8, z_lt, Nat.lt_irrefl, e98, hsh, hkF, z_add, z_mul, up_at, up_no, up_nk, u_cp_no, ma_bd, ↓reduceIte, if_true, if_false, Option.toList, List.nil_append, List.cons_append]
    · rw [Sh97_57]
      simp (disch := first | assumption | omega | exact zb_fit | exact hbf .. | (simp (disch := omega) only [up_no, up_nk, up_at, u_cp_no] <;> (first | assumption | omega)) | (simp only [hkF] <;> omega) | decide) only [S97, ha8, z_lt, Nat.lt_irrefl, hkF, z_add, z_mul, up_at, up_no, up_nk, u_cp_no, ma_bd, ↓reduceIte, if_true, if_false, Option.toList, List.nil_append, List.cons_append]
theorem X71 {ro : ma_RO} {d : Nat} (σ : ma_H) (nd : Nat) (cs : List (Bool × Nat × List (Nat × Nat × Nat))) (wo : Int32) (hg : GS σ 1 (σ 91) nd cs wo) (p a0 mm q n u : Nat) (hp : p < nd) (hm : σ 91 0 = nI mm) (hmm : mm ≤ 9999) (ha : σ 91 (15 + p) = nI a0) (ha9 : a0 ≤ 99) (hn1 : 1 ≤ n) (hn8 : n ≤ 8) (hq : q ≤ 99) (hu : u ≤ 9) (hu' : σ 91 (21 + p) = nI u) :
    ∃ σ', ma_ev ro (d + 8) 71 [.ref 0, .int (nI p), .int (nI n), .int (nI q)] SH σ = some (some (.int (if 1048576 ≤ BB (okF cs (σ 91) p a0 mm q) (nxF cs (σ 91) p a0 mm) n n u then -5 else nI (BB (okF cs (σ 91) p a0 mm q) (nxF cs (σ 91) p a0 mm) n n u % 256))), SH, σ') ∧ ∀ o, ¬ o = 84 → ¬ o = 85 → ¬ o = 88 → ¬ o = 89 → σ' o = σ o := by
  obtain ⟨h1, h2, h3, h4, h5, h6, h7, h8, h9, h10, h11, h12, h13, h14, h15, h16, h17, h18, h19, h20, h21⟩ := GS_open hg
  have kw := hkWh_1.2.1
  have e50 := V50 (ro := ro) (d := d + 7) σ 2 p nd kw h15.1 h1 hp
  have kd : hkDd (2 + 1 + 1 + 2 * p) := kw.2.2.2 p (by omega)
  have kd1 := kd.1
  have ha9' : hk_alen 89 = 10 := rfl
  have e88 := V88f (ro := ro) (d := d + 7) (n := nI q) (m := nI 99) σ (by rw [z_lt (by omega) (by omega), z_lt (by omega) (by omega)]; omega)
  have hbf : ∀ (x0 x1 x2 x3 x5 : Option Value) (r : Nat), ma_bef [x0, x1, x2, x3, some (.ref r), x5] 5 = false := fun _ _ _ _ _ _ => rfl
  have n1 : ¬ n < 1 := by omega
  have n8 : ¬ 8 < n := by omega
  generalize hB : BB (okF cs (σ 91) p a0 mm q) (nxF cs (σ 91) p a0 mm) n = B
  have hBle : ∀ m v, B m v ≤ 1048576 := fun m v => by rw [← hB]; exact BB_le _ _ _ m v
  have hB0 : ∀ v, B 0 v = 0 := fun v => by rw [← hB]; rfl
  have hBS : ∀ m v, B (m + 1) v = min (Wp (okF cs (σ 91) p a0 mm q) (nxF cs (σ 91) p a0 mm) (n - 1 - m) (B m) v) (Wp (okF cs (σ 91) p a0 mm q) (nxF cs (σ 91) p a0 mm) (n - 1 - m) (B m) 9 + 256 + 2 ^ (n - 1 - m)) := fun m v => by rw [← hB]; rfl
  obtain ⟨⟨l1, s1⟩, e1, hl, c1, r1⟩ := ma_iter (fun z : ma_L × ma_H => ma_rn ro (d + 8) 71 (46, z.1, [], SH, z.2)) (fun i z => z.1 = [some (.ref 0), some (.int (nI p)), some (.int (nI n)), some (.int (nI q)), some (.ref (2 + 1 + 1 + 2 * p)), some (.int (nI i))] ∧ (∀ v, v < i → z.2 89 v = nI 0) ∧ ∀ o, ¬ o = 89 → z.2 o = σ o) 10 (by
    rintro i hi ⟨l, s⟩ ⟨hl, c, r⟩
    simp only at hl c r
    subst hl
    have hl9 : i < hk_len 89 := hi
    refine ⟨([some (.ref 0), some (.int (nI p)), some (.int (nI n)), some (.int (nI q)), some (.ref (2 + 1 + 1 + 2 * p)), some (.int (nI (i + 1)))], ma_up s 89 i (nI 0)), ?_, rfl, fun v hv => ?_, fun o o1 => by show ma_up s 89 i (nI 0) o = _; rw [up_no o1]; exact r o o1⟩
    · simp only
      rw [Sh71_46]
      simp (disch := first | assumption | omega | exact zb_fit | exact hbf .. | (simp (disch := omega) only [up_no, up_nk, up_at, u_cp_no] <;> (first | assumption | omega)) | (simp only [hkF] <;> omega) | decide) only [S71, ha9', z_lt, hi, hkF, z_add, z_mul, up_at, up_no, up_nk, u_cp_no, ma_bd, ↓reduceIte, if_true, if_false, Option.toList, List.nil_append, List.cons_append]
    · show ma_up s 89 i (nI 0) 89 v = _
      by_cases hvi : v = i
      · subst hvi; rw [up_at]
      · rw [up_nk hvi]; exact c v (by omega)) ([some (.ref 0), some (.int (nI p)), some (.int (nI n)), some (.int (nI q)), some (.ref (2 + 1 + 1 + 2 * p)), some (.int (nI 0))], σ) ⟨rfl, fun v hv => by omega, fun _ _ => rfl⟩
  simp only at e1 hl c1 r1
  subst hl
  obtain ⟨⟨l2, s2⟩, e2, hl, c2, r2⟩ := ma_iter (fun z : ma_L × ma_H => ma_rn ro (d + 8) 71 (75, z.1, [], SH, z.2)) (fun m z => z.1 = [some (.ref 0), some (.int (nI p)), some (.int (nI n)), some (.int (nI q)), some (.ref (2 + 1 + 1 + 2 * p)), some (.int (dn (n - m)))] ∧ (∀ v, v < 10 → z.2 89 v = nI (B m v)) ∧ ∀ o, ¬ o = 84 → ¬ o = 85 → ¬ o = 88 → ¬ o = 89 → z.2 o = σ o) n (by
    rintro m hm1 ⟨l, s⟩ ⟨hl, c, r⟩
    simp only at hl c r
    subst hl
    have s91 : s 91 = σ 91 := r 91 (by decide) (by decide) (by decide) (by decide)
    obtain ⟨s', e97, c97, r97⟩ := V97 (ro := ro) (d := d) s nd cs wo (by rw [s91]; exact GS_cell (fun o ho => r o (by omega) (by omega) (by omega) (by omega)) hg) p a0 mm q (n - 1 - m) hp (by rw [s91]; exact hm) hmm (by rw [s91]; exact ha) ha9 (by omega) hq (B m) c (hBle m)
    rw [s91] at c97
    have edn : dn (n - m) = nI (n - 1 - m) := by rw [show n - m = n - 1 - m + 1 by omega]; rfl
    have edn2 : nI (n - 1 - m) + (-1) = dn (n - (m + 1)) := by rw [dn_dec, show n - 1 - m = n - (m + 1) by omega]
    refine ⟨([some (.ref 0), some (.int (nI p)), some (.int (nI n)), some (.int (nI q)), some (.ref (2 + 1 + 1 + 2 * p)), some (.int (dn (n - (m + 1))))], s'), ?_, rfl, fun v hv => by show s' 89 v = _; rw [hBS]; exact c97 v hv, fun o o1 o2 o3 o4 => (r97 o o1 o2 o3 o4).trans (r o o1 o2 o3 o4)⟩
    simp only
    rw [Sh71_75]
    simp (disch := first | assumption | omega | exact zb_fit | exact hbf .. | (simp (disch := omega) only [up_no, up_nk, up_at, u_cp_no] <;> (first | assumption | omega)) | (simp only [hkF] <;> omega) | decide) only [S71, edn, z_lt, Nat.not_lt_zero, e97, edn2, hkF, z_add, z_mul, up_at, up_no, up_nk, u_cp_no, ma_bd, ↓reduceIte, if_true, if_false, Option.toList, List.nil_append, List.cons_append]) ([some (.ref 0), some (.int (nI p)), some (.int (nI n)), some (.int (nI q)), some (.ref (2 + 1 + 1 + 2 * p)), some (.int (dn n))], s1) ⟨rfl, fun v hv => by rw [hB0]; exact c1 v hv, fun o o1 o2 o3 o4 => r1 o o4⟩
  simp only at e2 hl c2 r2
  subst hl
  have d6 : s2 (2 + 1 + 1 + 2 * p) 6 = nI u := by
    rw [r2 _ (by omega) (by omega) (by omega) (by omega)]; exact ((h15.2.2.2.2 p hp).1 6 (by decide)).trans hu'
  have e99 := V99 (ro := ro) (d := d + 7) s2 u (by omega)
  have b89 := c2 u (by omega)
  have hbn := hBle n u
  have hsub : nI n - nI 1 = dn n := by
    rw [z_sub hn1]
    cases n with
    | zero => omega
    | succ m => rfl
  refine ⟨s2, ?_, r2⟩
  refine Eq.trans (?_ : _ = ma_rn ro (d + 8) 71 (46, [some (.ref 0), some (.int (nI p)), some (.int (nI n)), some (.int (nI q)), some (.ref (2 + 1 + 1 + 2 * p)), some (.int (nI 0))], [], SH, σ)) (e1.trans ?_)
  · simp (disch := first | assumption | omega | exact zb_fit | exact hbf .. | (simp (disch := omega) only [up_no, up_nk, up_at, u_cp_no] <;> (first | assumption | omega)) | (simp only [hkF] <;> omega) | decide) only [E71, S71, e50, z_lt, n1, n8, e88, z_eq, Nat.reduceEqDiff, hkF, z_add, z_mul, up_at, up_no, up_nk, u_cp_no, ma_bd, ↓reduceIte, if_true, if_false, Option.toList, List.nil_append, List.cons_append]
  · refine Eq.trans (?_ : _ = ma_rn ro (d + 8) 71 (75, [some (.ref 0), some (.int (nI p)), some (.int (nI n)), some (.int (nI q)), some (.ref (2 + 1 + 1 + 2 * p)), some (.int (dn n))], [], SH, s1)) (e2.trans ?_)
    · rw [Sh71_46]
      simp (disch := first | assumption | omega | exact zb_fit | exact hbf .. | (simp (disch := omega) only [up_no, up_nk, up_at, u_cp_no] <;> (first | assumption | omega)) | (simp only [hkF] <;> omega) | decide) only [S71, ha9', z_lt, Nat.lt_irrefl, hsub, hkF, z_add, z_mul, up_at, up_no, up_nk, u_cp_no, ma_bd, ↓reduceIte, if_true, if_false, Option.toList, List.nil_append, List.cons_append]
    · rw [Nat.sub_self, show dn 0 = -1 from rfl, Sh71_75]
      have n256 : ¬ nI 256 = 0 := by decide
      have hmod := @z_mod (B n u) 256 (by omega) (by decide) (by decide)
      by_cases hc : 1048576 ≤ B n u
      · have hc' : ¬ B n u < 1048576 := by omega
        rw [if_pos hc]
        simp (disch := first | assumption | omega | exact zb_fit | exact hbf .. | (simp (disch := omega) only [up_no, up_nk, up_at, u_cp_no] <;> (first | assumption | omega)) | (simp only [hkF] <;> omega) | decide) only [S71, m1_neg, d6, e99, b89, z_lt, hc', hkF, z_add, z_mul, up_at, up_no, up_nk, u_cp_no, ma_bd, ↓reduceIte, if_true, if_false, Option.toList, List.nil_append, List.cons_append]
      · have hc' : B n u < 1048576 := by omega
        rw [if_neg hc]
        simp (disch := first | assumption | omega | exact zb_fit | exact hbf .. | (simp (disch := omega) only [up_no, up_nk, up_at, u_cp_no] <;> (first | assumption | omega)) | (simp only [hkF] <;> omega) | decide) only [S71, m1_neg, d6, e99, b89, z_lt, hc', n256, hmod, hkF, z_add, z_mul, up_at, up_no, up_nk, u_cp_no, ma_bd, ↓reduceIte, if_true, if_false, Option.toList, List.nil_append, List.cons_append]

/-! RENEW on the reference's side: all sets of mornings; the call renew. -/
theorem careD_dep (cs : List (Bool × Nat × List (Nat × Nat × Nat))) {D D' R R' : Nat → Int32} (mm : Nat) (h0 : D 0 = D' 0) (h1 : D 1 = D' 1) (h2 : D 2 = D' 2) (h5 : D 5 = D' 5) (h6 : D 6 = D' 6) (hR : ∀ k, k < 4 → R k = R' k) : careD cs D R mm = careD cs D' R' mm := by
  have hb : ∀ w, w < 6 → byD D (nI mm) w = byD D' (nI mm) w := by
    intro w hw
    unfold byD
    rw [h0, h1, h2, h5, h6]
  unfold careD
  rw [sumC_congr hb, h1, h2, h5, h6, hR _ (Nat.mod_lt _ (by decide))]
/-- the row of the reference ahead of the morning k, the mark being u -/
def RkI (S : Nat → Int32) (p a0 mm k u : Nat) (T : Nat → Int32) : Prop := sHi S T ∧ T 0 = nI (mm + k) ∧ T 1 = S 1 ∧ T (15 + p) = nI (min (a0 + k) 99) ∧ T (21 + p) = nI u
theorem Rk_step (cs : List (Bool × Nat × List (Nat × Nat × Nat))) (S T : Nat → Int32) (p a0 mm q k u u' : Nat) (hp : p < 6) (hT : RkI S p a0 mm k u T) (hI : IvD (vD S p)) (hu : u' ≤ 9) :
    RkI S p a0 mm (k + 1) (nxF cs S p a0 mm k u') (stO cs (mm + k) p 1 (upS T (21 + p) (nI u'))) ∧ stO cs (mm + k) p 1 (upS T (21 + p) (nI u')) (9 + p) = gKF cs S p a0 mm k u' 4 := by
  obtain ⟨t1, t2, t3, t4, t5⟩ := hT
  generalize hU : upS T (21 + p) (nI u') = U
  have e : ∀ j, ¬ j = 21 + p → U j = T j := fun j hj => by rw [← hU]; exact upS_ne hj
  have e21 : U (21 + p) = nI u' := by rw [← hU]; exact upS_at
  have hUhi : sHi S U := fun j hj => (e j (by omega)).trans (t1 j hj)
  have U0 : U 0 = nI (mm + k) := (e 0 (by omega)).trans t2
  have g : ∀ j, j = 3 ∨ j = 4 ∨ j = 5 ∨ j = 6 ∨ j = 7 → vD (stO cs (mm + k) p 1 U) p j = gKF cs S p a0 mm k u' j := by
    intro j hj
    rw [stO_D cs (mm + k) p hp U 1 j (by omega)]
    show goD (vD U p) (careD cs (vD U p) (vR U p) (mm + k + 0)) (U 1) j = goD (DkF S p a0 k u') (careD cs (DkF S p a0 k u') (vR S p) (mm + k)) (S 1) j
    have c5 : vD U p 5 = DkF S p a0 k u' 5 := (e (15 + p) (by omega)).trans t4
    have c6 : vD U p 6 = DkF S p a0 k u' 6 := e21
    rw [careD_dep cs (mm + k + 0) (D := vD U p) (R := vR U p) (R' := vR S p) (D' := DkF S p a0 k u') rfl (hUhi (40 + p) (by omega)) (hUhi (46 + p) (by omega)) c5 c6 (fun i _ => hUhi _ (by omega)), (e 1 (by omega)).trans t3, Nat.add_zero]
    unfold goD
    rw [c5, c6]
    rcases hj with rfl | rfl | rfl | rfl | rfl <;> rfl
  obtain ⟨-, hnx⟩ := nxF_spec cs (a0 := a0) (mm := mm) (k := k) hI hu
  refine ⟨⟨fun j hj => (stO_hi cs (mm + k) p hp U 1 j hj).trans (hUhi j hj), by rw [stO_0 cs (mm + k) p U U0 1, Nat.add_assoc], ?_, ?_, ?_⟩, g 4 (by omega)⟩
  · rw [stO_1]; exact (e 1 (by omega)).trans t3
  · refine (g 5 (by omega)).trans ?_
    unfold gKF
    rw [goD_5, show DkF S p a0 k u' 5 = nI (min (a0 + k) 99) from rfl, z_add, hl0_nI (by omega) (by decide)]
    congr 1
    omega
  · exact (g 6 (by omega)).trans hnx
theorem bitN_and {s k : Nat} (hs : s < 2 ^ 31) (hk : k < 32) : nI s >>> (nI k &&& 31) &&& nI 1 = nI (bitN s k) := bit_and hs hk
theorem M147 {ro : ma_RO} {d : Nat} (σ : ma_H) (nd : Nat) (cs : List (Bool × Nat × List (Nat × Nat × Nat))) (wo : Int32) (hM : HMr (σ 91) cs wo) (hO : HOk cs) (p a0 mm q n u s : Nat) (hp : p < 6) (hm : σ 91 0 = nI mm) (hmm : mm ≤ 9999) (ha : σ 91 (15 + p) = nI a0) (ha9 : a0 ≤ 99) (hI : IvD (vD (σ 91) p)) (hn8 : n ≤ 8) (hq : q ≤ 99) (hu : u ≤ 9) (hu' : σ 91 (21 + p) = nI u) (hs : s < 256) :
    ∃ σ', ma_ev ro (d + 5) 147 [.ref 90, .int (nI p), .int (nI s), .int (nI n), .int (nI q)] SH σ = some (some (.int (zb (fs (okF cs (σ 91) p a0 mm q) (nxF cs (σ 91) p a0 mm) s 0 u n = true))), SH, σ') ∧ σ' 91 = σ 91 ∧ ∀ o, ¬ o = 91 → ¬ o = 93 → ¬ o = 94 → ¬ o = 95 → σ' o = σ o := by
  have f1 : ma_fitI .boolean (nI 1) = true := by decide
  have f0 : ma_fitI .boolean (nI 0) = true := by decide
  have p21 : 21 + p < 933 := by omega
  have p9 : 9 + p < 933 := by omega
  have BACK : ∀ t : ma_H, sHi (σ 91) (t 91) → (∀ k, k < 33 → t 93 k = σ 91 k) → (∀ o, ¬ o = 91 → ¬ o = 93 → ¬ o = 94 → ¬ o = 95 → t o = σ o) → u_cp t 91 93 33 91 = σ 91 ∧ ∀ o, ¬ o = 91 → ¬ o = 93 → ¬ o = 94 → ¬ o = 95 → u_cp t 91 93 33 o = σ o := fun t h1 h2 h3 => ⟨back91 t h1 h2, fun o o1 o2 o3 o4 => by rw [u_cp_no o1]; exact h3 o o1 o2 o3 o4⟩
  have H : ∀ m k u (t : ma_H), k + m = n → u ≤ 9 → RkI (σ 91) p a0 mm k u (t 91) → (∀ k, k < 33 → t 93 k = σ 91 k) → (∀ o, ¬ o = 91 → ¬ o = 93 → ¬ o = 94 → ¬ o = 95 → t o = σ o) → ∃ σ', ma_rn ro (d + 5) 147 (10, [some (.ref 90), some (.int (nI p)), some (.int (nI s)), some (.int (nI n)), some (.int (nI q)), some (.int (nI 1)), some (.int (nI k))], [], SH, t) = some (some (.int (zb (fs (okF cs (σ 91) p a0 mm q) (nxF cs (σ 91) p a0 mm) s k u m = true))), SH, σ') ∧ σ' 91 = σ 91 ∧ ∀ o, ¬ o = 91 → ¬ o = 93 → ¬ o = 94 → ¬ o = 95 → σ' o = σ o := by
    intro m
    induction m with
    | zero =>
      intro k u t hk hu hT h93 r
      have hkn : ¬ k < n := by omega
      have e106 := V106 (ro := ro) (d := d + 4) t
      obtain ⟨b1, b2⟩ := BACK t hT.1 h93 r
      refine ⟨_, ?_, b1, b2⟩
      rw [show zb (fs (okF cs (σ 91) p a0 mm q) (nxF cs (σ 91) p a0 mm) s k u 0 = true) = nI 1 from zb_t rfl, Sh147_10]
      simp (disch := first | assumption | omega | exact zb_fit | exact hbf .. | (simp (disch := omega) only [up_no, up_nk, up_at, u_cp_no] <;> (first | assumption | omega)) | (simp only [hkF] <;> omega) | decide) only [S147, z_lt, hkn, e106, f1, hkF, z_add, z_mul, up_at, up_no, up_nk, u_cp_no, ma_bd, ↓reduceIte, if_true, if_false, Option.toList, List.nil_append, List.cons_append]
    | succ m ih =>
      intro k u t hk hu hT h93 r
      have hkn : k < n := by omega
      have hb := @bitN_and s k (by omega) (by omega)
      generalize hv : (if bitN s k = 1 then 9 else u) = v
      have hv9 : v ≤ 9 := by rw [← hv]; split <;> omega
      generalize ht1 : ma_up t 91 (21 + p) (nI v) = t1
      have t1_91 : t1 91 = upS (t 91) (21 + p) (nI v) := by rw [← ht1, up_S]
      obtain ⟨R1, R2⟩ := Rk_step cs (σ 91) (t 91) p a0 mm q k u v hp hT hI hv9
      have hhi1 : sHi (σ 91) (t1 91) := fun j hj => by rw [t1_91, upS_ne (by omega)]; exact hT.1 j hj
      obtain ⟨t2, e141, q141, r141⟩ := V141 (ro := ro) (d := d) t1 cs wo (HMr_congr hhi1 hM) hO p (mm + k) 1 hp (by omega) (by rw [t1_91, upS_ne (by omega)]; exact hT.2.1)
      rw [t1_91] at q141
      have g4 : t2 91 (9 + p) = gKF cs (σ 91) p a0 mm k v 4 := by rw [q141]; exact R2
      have t2_93 : ∀ k, k < 33 → t2 93 k = σ 91 k := fun j hj => by rw [r141 93 (by decide) (by decide) (by decide), ← ht1, up_no (by decide)]; exact h93 j hj
      have t2_o : ∀ o, ¬ o = 91 → ¬ o = 93 → ¬ o = 94 → ¬ o = 95 → t2 o = σ o := fun o o1 o2 o3 o4 => by rw [r141 o o1 o3 o4, ← ht1, up_no o1]; exact r o o1 o2 o3 o4
      have nx9 := (nxF_spec cs (S := σ 91) (p := p) (a0 := a0) (mm := mm) (k := k) hI hv9).1
      have hfs : fs (okF cs (σ 91) p a0 mm q) (nxF cs (σ 91) p a0 mm) s k u (m + 1) = (okF cs (σ 91) p a0 mm q k v && fs (okF cs (σ 91) p a0 mm q) (nxF cs (σ 91) p a0 mm) s (k + 1) (nxF cs (σ 91) p a0 mm k v) m) := by
        unfold fs; rw [hv]; cases m <;> rfl
      have ht5 : t 91 (21 + p) = nI u := hT.2.2.2.2
      have b01 : bitN s k = 0 ∨ bitN s k = 1 := by unfold bitN; omega
      have R1' : RkI (σ 91) p a0 mm (k + 1) (nxF cs (σ 91) p a0 mm k v) (t2 91) := by rw [q141]; exact R1
      by_cases hc : gKF cs (σ 91) p a0 mm k v 4 < nI q
      · have ho : okF cs (σ 91) p a0 mm q k v = false := decide_eq_false (fun h => h hc)
        have e106 := V106 (ro := ro) (d := d + 4) t2
        obtain ⟨b1, b2⟩ := BACK t2 R1'.1 t2_93 t2_o
        refine ⟨_, ?_, b1, b2⟩
        rw [hfs, ho, Bool.false_and, zb_f (by decide), Sh147_10]
        refine Eq.trans (?_ : _ = ma_rn ro (d + 5) 147 (10, [some (.ref 90), some (.int (nI p)), some (.int (nI s)), some (.int (nI n)), some (.int (nI q)), some (.int (nI 0)), some (.int (nI (k + 1)))], [], SH, t2)) ?_
        · rcases b01 with hb0 | hb1
          · rw [hb0] at hb
            rw [if_neg (by omega)] at hv
            subst hv
            simp (disch := first | assumption | omega | exact zb_fit | exact hbf .. | (simp (disch := omega) only [up_no, up_nk, up_at, u_cp_no] <;> (first | assumption | omega)) | (simp only [hkF] <;> omega) | decide) only [S147, z_lt, hkn, hb, ht5, ht1, e141, g4, hc, z_eq, Nat.reduceEqDiff, hkF, z_add, z_mul, up_at, up_no, up_nk, u_cp_no, ma_bd, ↓reduceIte, if_true, if_false, Option.toList, List.nil_append, List.cons_append]
          · rw [hb1] at hb
            rw [if_pos hb1] at hv
            subst hv
            simp (disch := first | assumption | omega | exact zb_fit | exact hbf .. | (simp (disch := omega) only [up_no, up_nk, up_at, u_cp_no] <;> (first | assumption | omega)) | (simp only [hkF] <;> omega) | decide) only [S147, z_lt, hkn, hb, ht1, e141, g4, hc, z_eq, Nat.reduceEqDiff, hkF, z_add, z_mul, up_at, up_no, up_nk, u_cp_no, ma_bd, ↓reduceIte, if_true, if_false, Option.toList, List.nil_append, List.cons_append]
        · rw [Sh147_10]
          by_cases hk2 : k + 1 < n <;> simp (disch := first | assumption | omega | exact zb_fit | exact hbf .. | (simp (disch := omega) only [up_no, up_nk, up_at, u_cp_no] <;> (first | assumption | omega)) | (simp only [hkF] <;> omega) | decide) only [S147, z_lt, hk2, e106, f0, z_eq, Nat.reduceEqDiff, hkF, z_add, z_mul, up_at, up_no, up_nk, u_cp_no, ma_bd, ↓reduceIte, if_true, if_false, Option.toList, List.nil_append, List.cons_append]
      · have ho : okF cs (σ 91) p a0 mm q k v = true := decide_eq_true hc
        obtain ⟨σ', e, b1, b2⟩ := ih (k + 1) (nxF cs (σ 91) p a0 mm k v) t2 (by omega) nx9 R1' t2_93 t2_o
        refine ⟨σ', ?_, b1, b2⟩
        rw [hfs, ho, Bool.true_and, ← e, Sh147_10]
        rcases b01 with hb0 | hb1
        · rw [hb0] at hb
          rw [if_neg (by omega)] at hv
          subst hv
          simp (disch := first | assumption | omega | exact zb_fit | exact hbf .. | (simp (disch := omega) only [up_no, up_nk, up_at, u_cp_no] <;> (first | assumption | omega)) | (simp only [hkF] <;> omega) | decide) only [S147, z_lt, hkn, hb, ht5, ht1, e141, g4, hc, z_eq, Nat.reduceEqDiff, hkF, z_add, z_mul, up_at, up_no, up_nk, u_cp_no, ma_bd, ↓reduceIte, if_true, if_false, Option.toList, List.nil_append, List.cons_append]
        · rw [hb1] at hb
          rw [if_pos hb1] at hv
          subst hv
          simp (disch := first | assumption | omega | exact zb_fit | exact hbf .. | (simp (disch := omega) only [up_no, up_nk, up_at, u_cp_no] <;> (first | assumption | omega)) | (simp only [hkF] <;> omega) | decide) only [S147, z_lt, hkn, hb, ht1, e141, g4, hc, z_eq, Nat.reduceEqDiff, hkF, z_add, z_mul, up_at, up_no, up_nk, u_cp_no, ma_bd, ↓reduceIte, if_true, if_false, Option.toList, List.nil_append, List.cons_append]
  have e105 := V105 (ro := ro) (d := d + 4) σ
  obtain ⟨σ', e, b1, b2⟩ := H n 0 u (u_cp σ 93 91 33) (by omega) hu (by rw [u_cp_no (by decide)]; exact ⟨fun _ _ => rfl, hm, rfl, by rw [Nat.add_zero, Nat.min_eq_left ha9]; exact ha, hu'⟩) (fun k hk => kept93 σ k hk) (fun o o1 o2 _ _ => u_cp_no o2)
  refine ⟨σ', ?_, b1, b2⟩
  rw [← e]
  simp (disch := first | assumption | omega | exact zb_fit | exact hbf .. | (simp (disch := omega) only [up_no, up_nk, up_at, u_cp_no] <;> (first | assumption | omega)) | (simp only [hkF] <;> omega) | decide) only [E147, S147, e105, hkF, z_add, z_mul, up_at, up_no, up_nk, u_cp_no, ma_bd, ↓reduceIte, if_true, if_false, Option.toList, List.nil_append, List.cons_append]
theorem M148 {ro : ma_RO} {d : Nat} (σ : ma_H) (s : Nat) (hs : s < 256) : ma_ev ro d 148 [.int (nI s)] SH σ = some (some (.int (nI (cnt8 s))), SH, σ) := by
  obtain ⟨⟨l', σ'⟩, e, hl, hσ⟩ := ma_iter (fun x : ma_L × ma_H => ma_rn ro d 148 (4, x.1, [], SH, x.2)) (fun k x => x.1 = [some (.int (nI s)), some (.int (nI (cN (bitN s) k))), some (.int (nI k))] ∧ x.2 = σ) 8 (by
    rintro k hk ⟨l, σ0⟩ ⟨hl, hσ⟩
    simp only at hl hσ
    subst hl; subst hσ
    have hb := @bitN_and s k (by omega) (by omega)
    refine ⟨([some (.int (nI s)), some (.int (nI (cN (bitN s) (k + 1)))), some (.int (nI (k + 1)))], σ0), ?_, rfl, rfl⟩
    simp only
    rw [show cN (bitN s) (k + 1) = cN (bitN s) k + bitN s k from rfl, Sh148_4]
    simp (disch := first | assumption | omega | exact zb_fit | exact hbf .. | (simp (disch := omega) only [up_no, up_nk, up_at, u_cp_no] <;> (first | assumption | omega)) | (simp only [hkF] <;> omega) | decide) only [S148, z_lt, hk, hb, hkF, z_add, z_mul, up_at, up_no, up_nk, u_cp_no, ma_bd, ↓reduceIte, if_true, if_false, Option.toList, List.nil_append, List.cons_append]) ([some (.int (nI s)), some (.int (nI 0)), some (.int (nI 0))], σ) ⟨rfl, rfl⟩
  simp only at e hl hσ
  subst hl; subst hσ
  have hc : cN (bitN s) 8 = cnt8 s := by simp only [cN, cnt8, Nat.zero_add]
  rw [hc] at e
  refine Eq.trans (?_ : _ = ma_rn ro d 148 (4, [some (.int (nI s)), some (.int (nI 0)), some (.int (nI 0))], [], SH, σ')) (e.trans ?_)
  · simp (disch := first | assumption | omega | exact zb_fit | exact hbf .. | (simp (disch := omega) only [up_no, up_nk, up_at, u_cp_no] <;> (first | assumption | omega)) | (simp only [hkF] <;> omega) | decide) only [E148, S148, hkF, z_add, z_mul, up_at, up_no, up_nk, u_cp_no, ma_bd, ↓reduceIte, if_true, if_false, Option.toList, List.nil_append, List.cons_append]
  · rw [Sh148_4]
    simp (disch := first | assumption | omega | exact zb_fit | exact hbf .. | (simp (disch := omega) only [up_no, up_nk, up_at, u_cp_no] <;> (first | assumption | omega)) | (simp only [hkF] <;> omega) | decide) only [S148, z_lt, Nat.lt_irrefl, hkF, z_add, z_mul, up_at, up_no, up_nk, u_cp_no, ma_bd, ↓reduceIte, if_true, if_false, Option.toList, List.nil_append, List.cons_append]
def obI (b : Option Nat) : Int32 := match b with
  | none => -5
  | some b => nI b
theorem C71 {ro : ma_RO} {d : Nat} (σ : ma_H) (hG : G σ) (x y z : Int32) : ∃ r σ1 σ2, ma_ev ro (d + 8) 71 [.ref 0, .int x, .int y, .int z] SH σ = some (some (.int r), SH, σ1) ∧ ma_ev ro (d + 8) 149 [.ref 90, .int x, .int y, .int z] SH σ1 = some (some (.int r), SH, σ2) ∧ G σ2 := by
  obtain ⟨nd, cs, wo, hg⟩ := hG.1
  obtain ⟨h1, h2, h3, h4, h5, ⟨mm, h6, h6'⟩, h7, h8, h9, h10, h11, h12, h13, h14, h15, h16, h17, h18, h19, h20, h21⟩ := GS_open hg
  have kw := hkWh_1.2.1
  have w1 := h15.1
  rcases Or.symm (dcases x nd (by omega)) with hx | ⟨p, hp, rfl⟩
  · have e50 := V50n (ro := ro) (d := d + 7) σ 2 nd x kw w1 hx
    have e103 := V103n (ro := ro) (d := d + 6) σ x nd h1 h2 hx
    exact ⟨_, σ, σ, by simp (disch := first | assumption | omega | exact zb_fit | exact hbf .. | (simp (disch := omega) only [up_no, up_nk, up_at, u_cp_no] <;> (first | assumption | omega)) | (simp only [hkF] <;> omega) | decide) only [E71, S71, e50, hkF, z_add, z_mul, up_at, up_no, up_nk, u_cp_no, ma_bd, ↓reduceIte, if_true, if_false, Option.toList, List.nil_append, List.cons_append]; rfl, by simp (disch := first | assumption | omega | exact zb_fit | exact hbf .. | (simp (disch := omega) only [up_no, up_nk, up_at, u_cp_no] <;> (first | assumption | omega)) | (simp only [hkF] <;> omega) | decide) only [E149, S149, e103, z_eq, Nat.reduceEqDiff, hkF, z_add, z_mul, up_at, up_no, up_nk, u_cp_no, ma_bd, ↓reduceIte, if_true, if_false, Option.toList, List.nil_append, List.cons_append], hG⟩
  have e50 := V50 (ro := ro) (d := d + 7) σ 2 p nd kw w1 h1 hp
  by_cases hy : y < nI 1 ∨ nI 8 < y
  · have e103 := V103p (ro := ro) (d := d + 6) σ p nd h1 h2 hp
    have e102 : ma_ev ro (d + 7) 102 [.int y, .int (nI 1), .int (nI 8)] SH σ = some (some (.int (nI 0)), SH, σ) := by rw [V102, zb_f (fun h => hy.elim h.1 h.2)]
    refine ⟨-2, σ, σ, ?_, by simp (disch := first | assumption | omega | exact zb_fit | exact hbf .. | (simp (disch := omega) only [up_no, up_nk, up_at, u_cp_no] <;> (first | assumption | omega)) | (simp only [hkF] <;> omega) | decide) only [E149, S149, e103, e102, z_eq, Nat.reduceEqDiff, hkF, z_add, z_mul, up_at, up_no, up_nk, u_cp_no, ma_bd, ↓reduceIte, if_true, if_false, Option.toList, List.nil_append, List.cons_append], hG⟩
    by_cases y1 : y < nI 1
    · simp (disch := first | assumption | omega | exact zb_fit | exact hbf .. | (simp (disch := omega) only [up_no, up_nk, up_at, u_cp_no] <;> (first | assumption | omega)) | (simp only [hkF] <;> omega) | decide) only [E71, S71, e50, y1, hkF, z_add, z_mul, up_at, up_no, up_nk, u_cp_no, ma_bd, ↓reduceIte, if_true, if_false, Option.toList, List.nil_append, List.cons_append]
    · have y8 : nI 8 < y := hy.elim (fun h => absurd h y1) id
      simp (disch := first | assumption | omega | exact zb_fit | exact hbf .. | (simp (disch := omega) only [up_no, up_nk, up_at, u_cp_no] <;> (first | assumption | omega)) | (simp only [hkF] <;> omega) | decide) only [E71, S71, e50, y1, y8, hkF, z_add, z_mul, up_at, up_no, up_nk, u_cp_no, ma_bd, ↓reduceIte, if_true, if_false, Option.toList, List.nil_append, List.cons_append]
  have y1 : ¬ y < nI 1 := fun h => hy (.inl h)
  have y8 : ¬ nI 8 < y := fun h => hy (.inr h)
  have f102 : ∀ s, ma_ev ro (d + 7) 102 [.int y, .int (nI 1), .int (nI 8)] SH s = some (some (.int (nI 1)), SH, s) := fun s => by rw [V102, zb_t ⟨y1, y8⟩]
  by_cases hz : z < nI 0 ∨ nI 99 < z
  · have e88 := V88t (ro := ro) (d := d + 7) σ hz
    have e102 := V102f (ro := ro) (d := d + 7) σ hz
    have e103 := V103p (ro := ro) (d := d + 6) σ p nd h1 h2 hp
    exact ⟨_, σ, σ, by simp (disch := first | assumption | omega | exact zb_fit | exact hbf .. | (simp (disch := omega) only [up_no, up_nk, up_at, u_cp_no] <;> (first | assumption | omega)) | (simp only [hkF] <;> omega) | decide) only [E71, S71, e50, y1, y8, e88, z_eq, Nat.reduceEqDiff, hkF, z_add, z_mul, up_at, up_no, up_nk, u_cp_no, ma_bd, ↓reduceIte, if_true, if_false, Option.toList, List.nil_append, List.cons_append]; rfl, by simp (disch := first | assumption | omega | exact zb_fit | exact hbf .. | (simp (disch := omega) only [up_no, up_nk, up_at, u_cp_no] <;> (first | assumption | omega)) | (simp only [hkF] <;> omega) | decide) only [E149, S149, e103, f102, e102, z_eq, Nat.reduceEqDiff, hkF, z_add, z_mul, up_at, up_no, up_nk, u_cp_no, ma_bd, ↓reduceIte, if_true, if_false, Option.toList, List.nil_append, List.cons_append], hG⟩
  obtain ⟨n, hn8, rfl⟩ : Rg y 8 := Rg_of (by decide) (fun h => h.elim (fun h => y1 (by rw [Int32.lt_iff_toInt_lt] at h ⊢; rw [nI_toInt (by decide)] at h ⊢; omega)) y8)
  have hn1 : 1 ≤ n := by rw [z_lt (by omega) (by decide)] at y1; omega
  obtain ⟨q, hq, rfl⟩ := Rg_of (by decide) hz
  obtain ⟨a0, ha9, ha⟩ := (h5 p hp).2.2.1
  obtain ⟨u, hu, hu'⟩ := (h5 p hp).2.2.2.1
  have ha' : σ 91 (15 + p) = nI a0 := ha
  have hu'' : σ 91 (21 + p) = nI u := hu'
  obtain ⟨s1, eX, r1⟩ := X71 (ro := ro) (d := d) σ nd cs wo hg p a0 mm q n u hp h6' h6 ha' ha9 hn1 hn8 hq hu hu''
  have s91 : s1 91 = σ 91 := r1 91 (by decide) (by decide) (by decide) (by decide)
  have hE := renew_eq (okF cs (σ 91) p a0 mm q) (nxF cs (σ 91) p a0 mm) n u hn8
  generalize hf : (fun s => fs (okF cs (σ 91) p a0 mm q) (nxF cs (σ 91) p a0 mm) s 0 u n) = f at hE
  have h2n : 2 ^ n ≤ 256 := by
    have : 2 ^ n ≤ 2 ^ 8 := Nat.pow_le_pow_right (by decide) hn8
    omega
  have hsh : nI 1 <<< (nI n &&& 31) = nI (2 ^ n) := by rw [z_shl (by omega), Nat.one_mul]
  generalize hN : 2 ^ n = N at hE h2n hsh
  have e103 := V103p (ro := ro) (d := d + 6) s1 p nd h1 (by rw [s91]; exact h2) hp
  have e102 := V102t (ro := ro) (d := d + 7) s1 hz
  have e102n := f102 s1
  have hbf : ∀ (x0 x1 x2 x3 x4 x5 x6 : Option Value), True := fun _ _ _ _ _ _ _ => trivial
  obtain ⟨⟨l2, s2⟩, e2, ⟨v6, hl⟩, q2, r2⟩ := ma_iter (fun w : ma_L × ma_H => ma_rn ro (d + 8) 149 (40, w.1, [], SH, w.2)) (fun k w => (∃ v6, w.1 = [some (.ref 90), some (.int (nI p)), some (.int (nI n)), some (.int (nI q)), some (.int (obI (rb f k))), some (.int (nI k)), v6]) ∧ w.2 91 = σ 91 ∧ ∀ o, ¬ o = 91 → ¬ o = 93 → ¬ o = 94 → ¬ o = 95 → w.2 o = s1 o) N (by
    rintro k hk ⟨l, s⟩ ⟨⟨v6, hl⟩, hs, r⟩
    simp only at hl hs r
    subst hl
    obtain ⟨t, e147, q147, r147⟩ := M147 (ro := ro) (d := d + 2) s nd cs wo (by rw [hs]; exact h4) h3 p a0 mm q n u k (by omega) (by rw [hs]; exact h6') h6 (by rw [hs]; exact ha') ha9 (by rw [hs]; exact h5 p hp) hn8 hq hu (by rw [hs]; exact hu'') (by omega)
    rw [hs] at e147 q147
    have hfk : fs (okF cs (σ 91) p a0 mm q) (nxF cs (σ 91) p a0 mm) k 0 u n = f k := by rw [← hf]
    rw [hfk] at e147
    have m148 := M148 (ro := ro) (d := d + 7) s k (by omega)
    have c8 := cnt8_le k
    obtain ⟨i1, i2⟩ := rb_spec f k
    cases hr : rb f k with
    | none =>
      by_cases hfk2 : f k = true
      · refine ⟨([some (.ref 90), some (.int (nI p)), some (.int (nI n)), some (.int (nI q)), some (.int (obI (rb f (k + 1)))), some (.int (nI (k + 1))), some (.int (nI 1))], t), ?_, ⟨_, rfl⟩, q147, fun o o1 o2 o3 o4 => (r147 o o1 o2 o3 o4).trans (r o o1 o2 o3 o4)⟩
        simp only
        rw [show rb f (k + 1) = some k by unfold rb; rw [hr]; dsimp only; rw [if_pos hfk2], show obI none = -5 from rfl, show obI (some k) = nI k from rfl, Sh149_40]
        simp (disch := first | assumption | omega | exact zb_fit | exact hbf .. | (simp (disch := omega) only [up_no, up_nk, up_at, u_cp_no] <;> (first | assumption | omega)) | (simp only [hkF] <;> omega) | decide) only [S149, hsh, z_lt, hk, e147, zb_t hfk2, z_eq, Nat.reduceEqDiff, hkF, z_add, z_mul, up_at, up_no, up_nk, u_cp_no, ma_bd, ↓reduceIte, if_true, if_false, Option.toList, List.nil_append, List.cons_append]
      · refine ⟨([some (.ref 90), some (.int (nI p)), some (.int (nI n)), some (.int (nI q)), some (.int (obI (rb f (k + 1)))), some (.int (nI (k + 1))), some (.int (nI 1))], t), ?_, ⟨_, rfl⟩, q147, fun o o1 o2 o3 o4 => (r147 o o1 o2 o3 o4).trans (r o o1 o2 o3 o4)⟩
        simp only
        rw [show rb f (k + 1) = none by unfold rb; rw [hr]; dsimp only; rw [if_neg hfk2], show obI none = -5 from rfl, Sh149_40]
        simp (disch := first | assumption | omega | exact zb_fit | exact hbf .. | (simp (disch := omega) only [up_no, up_nk, up_at, u_cp_no] <;> (first | assumption | omega)) | (simp only [hkF] <;> omega) | decide) only [S149, hsh, z_lt, hk, e147, zb_f hfk2, z_eq, Nat.reduceEqDiff, hkF, z_add, z_mul, up_at, up_no, up_nk, u_cp_no, ma_bd, ↓reduceIte, if_true, if_false, Option.toList, List.nil_append, List.cons_append]
    | some b =>
      obtain ⟨j1, -, -⟩ := i2 b hr
      have m148b := M148 (ro := ro) (d := d + 7) s b (by omega)
      have c8b := cnt8_le b
      have nb5 : ¬ nI b = -5 := by
        intro h
        have := congrArg Int32.toInt h
        rw [nI_toInt (by omega), show (-5 : Int32).toInt = -5 by decide] at this
        omega
      by_cases hlt : cnt8 k < cnt8 b
      · by_cases hfk2 : f k = true
        · refine ⟨([some (.ref 90), some (.int (nI p)), some (.int (nI n)), some (.int (nI q)), some (.int (obI (rb f (k + 1)))), some (.int (nI (k + 1))), some (.int (nI 1))], t), ?_, ⟨_, rfl⟩, q147, fun o o1 o2 o3 o4 => (r147 o o1 o2 o3 o4).trans (r o o1 o2 o3 o4)⟩
          simp only
          rw [show rb f (k + 1) = some k by unfold rb; rw [hr]; dsimp only; rw [if_pos ⟨hlt, hfk2⟩], show obI (some b) = nI b from rfl, show obI (some k) = nI k from rfl, Sh149_40]
          simp (disch := first | assumption | omega | exact zb_fit | exact hbf .. | (simp (disch := omega) only [up_no, up_nk, up_at, u_cp_no] <;> (first | assumption | omega)) | (simp only [hkF] <;> omega) | decide) only [S149, hsh, z_lt, hk, nb5, m148, m148b, hlt, e147, zb_t hfk2, z_eq, Nat.reduceEqDiff, hkF, z_add, z_mul, up_at, up_no, up_nk, u_cp_no, ma_bd, ↓reduceIte, if_true, if_false, Option.toList, List.nil_append, List.cons_append]
        · refine ⟨([some (.ref 90), some (.int (nI p)), some (.int (nI n)), some (.int (nI q)), some (.int (obI (rb f (k + 1)))), some (.int (nI (k + 1))), some (.int (nI 1))], t), ?_, ⟨_, rfl⟩, q147, fun o o1 o2 o3 o4 => (r147 o o1 o2 o3 o4).trans (r o o1 o2 o3 o4)⟩
          simp only
          rw [show rb f (k + 1) = some b by unfold rb; rw [hr]; dsimp only; rw [if_neg (fun h => hfk2 h.2)], show obI (some b) = nI b from rfl, Sh149_40]
          simp (disch := first | assumption | omega | exact zb_fit | exact hbf .. | (simp (disch := omega) only [up_no, up_nk, up_at, u_cp_no] <;> (first | assumption | omega)) | (simp only [hkF] <;> omega) | decide) only [S149, hsh, z_lt, hk, nb5, m148, m148b, hlt, e147, zb_f hfk2, z_eq, Nat.reduceEqDiff, hkF, z_add, z_mul, up_at, up_no, up_nk, u_cp_no, ma_bd, ↓reduceIte, if_true, if_false, Option.toList, List.nil_append, List.cons_append]
      · refine ⟨([some (.ref 90), some (.int (nI p)), some (.int (nI n)), some (.int (nI q)), some (.int (obI (rb f (k + 1)))), some (.int (nI (k + 1))), some (.int (nI 0))], s), ?_, ⟨_, rfl⟩, hs, r⟩
        simp only
        rw [show rb f (k + 1) = some b by unfold rb; rw [hr]; dsimp only; rw [if_neg (fun h => hlt h.1)], show obI (some b) = nI b from rfl, Sh149_40]
        simp (disch := first | assumption | omega | exact zb_fit | exact hbf .. | (simp (disch := omega) only [up_no, up_nk, up_at, u_cp_no] <;> (first | assumption | omega)) | (simp only [hkF] <;> omega) | decide) only [S149, hsh, z_lt, hk, nb5, m148, m148b, hlt, z_eq, Nat.reduceEqDiff, hkF, z_add, z_mul, up_at, up_no, up_nk, u_cp_no, ma_bd, ↓reduceIte, if_true, if_false, Option.toList, List.nil_append, List.cons_append]) ([some (.ref 90), some (.int (nI p)), some (.int (nI n)), some (.int (nI q)), some (.int (-5)), some (.int (nI 0)), none], s1) ⟨⟨none, rfl⟩, s91, fun _ _ _ _ _ => rfl⟩
  simp only at e2 hl q2 r2
  subst hl
  have hans : (if 1048576 ≤ BB (okF cs (σ 91) p a0 mm q) (nxF cs (σ 91) p a0 mm) n n u then -5 else nI (BB (okF cs (σ 91) p a0 mm q) (nxF cs (σ 91) p a0 mm) n n u % 256)) = obI (rb f N) := by
    rw [← hE]
    split <;> rfl
  rw [hans] at eX
  refine ⟨obI (rb f N), s1, s2, eX, ?_, ?_⟩
  · refine Eq.trans (?_ : _ = ma_rn ro (d + 8) 149 (40, [some (.ref 90), some (.int (nI p)), some (.int (nI n)), some (.int (nI q)), some (.int (-5)), some (.int (nI 0)), none], [], SH, s1)) (e2.trans ?_)
    · simp (disch := first | assumption | omega | exact zb_fit | exact hbf .. | (simp (disch := omega) only [up_no, up_nk, up_at, u_cp_no] <;> (first | assumption | omega)) | (simp only [hkF] <;> omega) | decide) only [E149, S149, e103, e102n, e102, z_eq, Nat.reduceEqDiff, hkF, z_add, z_mul, up_at, up_no, up_nk, u_cp_no, ma_bd, ↓reduceIte, if_true, if_false, Option.toList, List.nil_append, List.cons_append]
    · rw [Sh149_40]
      simp (disch := first | assumption | omega | exact zb_fit | exact hbf .. | (simp (disch := omega) only [up_no, up_nk, up_at, u_cp_no] <;> (first | assumption | omega)) | (simp only [hkF] <;> omega) | decide) only [S149, hsh, z_lt, Nat.lt_irrefl, hkF, z_add, z_mul, up_at, up_no, up_nk, u_cp_no, ma_bd, ↓reduceIte, if_true, if_false, Option.toList, List.nil_append, List.cons_append]
  · exact G_same hG (fun o ho => by
      by_cases h91 : o = 91
      · rw [h91]; exact q2
      · rw [r2 o h91 (by omega) (by omega) (by omega)]; exact r1 o (by omega) (by omega) (by omega) (by omega)) (by rw [r2 90 (by decide) (by decide) (by decide) (by decide), r1 90 (by decide) (by decide) (by decide) (by decide)]) (by rw [r2 90 (by decide) (by decide) (by decide) (by decide), r1 90 (by decide) (by decide) (by decide) (by decide)])

/-! What holds at first; the law from its head on. -/
theorem G_first (σ : ma_H) (h : ma_P0 σ = true) : G σ := by
  unfold ma_P0 at h
  rw [Bool.and_eq_true, Bool.and_eq_true] at h
  obtain ⟨⟨ha, hb⟩, hc⟩ := h
  rw [List.all_eq_true] at ha hc
  simp only [Bool.and_eq_true, decide_eq_true_eq] at hb hc
  obtain ⟨⟨⟨b1, b2⟩, b3⟩, b4⟩ := hb
  have z : ∀ a k, (a, k) ∈ [(0, 2), (90, 4), (86, 1), (90, 13), (1, 2), (1, 4), (2, 1), (2, 3), (2, 4), (16, 3), (16, 5), (21, 3), (25, 3), (29, 3), (91, 0), (91, 2), (91, 33), (91, 34), (91, 35), (91, 36), (91, 37), (91, 38)] → σ a k = nI 0 := fun a k hm => of_decide_eq_true (ha _ hm)
  have c4 : ∀ p, p < 6 → σ (4 + 2 * p) 0 = nI p := fun p hp => (hc p (List.mem_range.mpr hp)).1.1
  have z33 := z 91 33 (by decide)
  have z34 := z 91 34 (by decide)
  have z35 := z 91 35 (by decide)
  have z36 := z 91 36 (by decide)
  have z37 := z 91 37 (by decide)
  have z38 := z 91 38 (by decide)
  have ne : ∀ n m : Nat, n ≤ 100 → nI 0 = nI n → n = 0 := fun n _ hn h => by rw [z_eq (by decide) (by omega)] at h; omega
  refine ⟨⟨0, [], nI 2, GS_mk (Nat.zero_le _) z33 ⟨Nat.zero_le _, Nat.zero_le _, fun l hl => (nomatch hl)⟩ (.inl ⟨b4, rfl, rfl⟩) (fun p hp => by omega) ⟨0, by decide, z 91 0 (by decide)⟩ ⟨5, by decide, b3⟩ ⟨0, by decide, z 91 2 (by decide)⟩ (fun p hp => by omega) ⟨0, by decide, z34, .inl b4⟩ (fun n hn hs k hk => ?_) (fun n hn hs k hk => ?_) (fun n hn hs k hk => ?_) (fun n hn hs k hk => ?_) ⟨z 2 1 (by decide), ?_, ?_, ?_, fun p hp => by omega⟩ ⟨b2, z 16 3 (by decide), trivial⟩ ?_ ⟨0, by decide, z38, z 1 4 (by decide), fun k hk => by omega⟩ ⟨0, by decide, z35, ⟨z 21 3 (by decide), fun k hk => by omega⟩, fun k hk => by omega⟩ ⟨0, by decide, z36, ⟨z 25 3 (by decide), fun k hk => by omega⟩⟩ ⟨0, by decide, z37, ⟨z 29 3 (by decide), fun k hk => by omega⟩⟩⟩, c4, ⟨0, by decide, z 0 2 (by decide), z 90 4 (by decide), fun h => by omega⟩, ⟨0, by decide, z 86 1 (by decide), z 90 13 (by decide), fun k hk => by omega⟩⟩
  · rw [z35] at hs; have := ne n 0 (by omega) hs; omega
  · rw [z36] at hs; have := ne n 0 (by omega) hs; omega
  · rw [z37] at hs; have := ne n 0 (by omega) hs; omega
  · rw [z38] at hs; have := ne n 0 (by omega) hs; omega
  · exact b1.trans b3.symm
  · exact (z 2 3 (by decide)).trans (z 91 0 (by decide)).symm
  · exact (z 2 4 (by decide)).trans (z 91 2 (by decide)).symm
  · exact (z 1 2 (by decide)).trans z34.symm
theorem i32_nI (y : Int32) : y = nI y.toBitVec.toNat := by
  apply Int32.toBitVec_inj.mp
  show y.toBitVec = BitVec.ofNat 32 y.toBitVec.toNat
  exact (BitVec.ofNat_toNat 32 y.toBitVec).symm ▸ rfl
theorem and31 (x : Int32) : Rg (x &&& nI 31) 31 := by
  refine ⟨(x &&& nI 31).toBitVec.toNat, ?_, i32_nI _⟩
  show (x.toBitVec &&& (nI 31).toBitVec).toNat ≤ 31
  rw [BitVec.toNat_and]
  exact Nat.and_le_right
theorem law_step {ro : ma_RO} {L : Nat} {xs : Nat → Int32} (hr : ro 2000000 = some (L, xs)) (hro : ro 3000000 = some (7, ma_abv)) (hL : L ≤ 2048) {d : Nat} (σ : ma_H) (hG : G σ) (i : Nat) (hi : i + 4 ≤ L) : ∃ σ', G σ' ∧ ma_rn ro (d + 31) 178 (18, [some (.ref 2000000), some (.ref 0), some (.ref 90), some (.int (nI i))], [], SH, σ) = ma_rn ro (d + 31) 178 (18, [some (.ref 2000000), some (.ref 0), some (.ref 90), some (.int (nI (i + 4)))], [], SH, σ') := by
  obtain ⟨j, hj, hc⟩ := and31 (xs i)
  by_cases j0 : j = 0
  · subst j0; exact LS0 hr hL σ hG i hi hc
  by_cases j1 : j = 1
  · subst j1; exact LS1 hr hL σ hG i hi hc
  by_cases j2 : j = 2
  · subst j2; exact LS2 hr hL σ hG i hi hc
  by_cases j3 : j = 3
  · subst j3; exact LS3 hr hL σ hG i hi hc
  by_cases j4 : j = 4
  · subst j4; exact LS4 hr hL σ hG i hi hc
  by_cases j5 : j = 5
  · subst j5; exact LS5 hr hL σ hG i hi hc
  by_cases j6 : j = 6
  · subst j6; exact LS6 hr hL σ hG i hi hc
  by_cases j7 : j = 7
  · subst j7; exact LS7 hr hL σ hG i hi hc
  by_cases j8 : j = 8
  · subst j8; exact LS8 hr hL σ hG i hi hc
  by_cases j9 : j = 9
  · subst j9; exact LS9 hr hL σ hG i hi hc
  by_cases j10 : j = 10
  · subst j10; exact LS10 hr hL σ hG i hi hc
  by_cases j11 : j = 11
  · subst j11; exact LS11 hr hL σ hG i hi hc
  by_cases j12 : j = 12
  · subst j12; exact LS12 hr hL σ hG i hi hc
  by_cases j13 : j = 13
  · subst j13; exact LS13 hr hL σ hG i hi hc
  by_cases j14 : j = 14
  · subst j14; exact LS14 hr hL σ hG i hi hc
  by_cases j15 : j = 15
  · subst j15; exact LS15 hr hL σ hG i hi hc
  by_cases j16 : j = 16
  · subst j16; exact LS16 hr hL σ hG i hi hc
  by_cases j17 : j = 17
  · subst j17; exact LS17 hr hL σ hG i hi hc
  by_cases j18 : j = 18
  · subst j18; exact LS18 hr hL σ hG i hi hc
  by_cases j19 : j = 19
  · subst j19; exact LS19 hr hL σ hG i hi hc
  by_cases j20 : j = 20
  · subst j20; exact LS20 hr hL σ hG i hi hc
  by_cases j21 : j = 21
  · subst j21; exact LS21 hr hL σ hG i hi hc
  by_cases j22 : j = 22
  · subst j22; exact LS22 hr hL σ hG i hi hc
  by_cases j23 : j = 23
  · subst j23; exact LS23 hr hL σ hG i hi hc
  by_cases j24 : j = 24
  · subst j24; exact LS24 hr hro hL σ hG i hi hc
  by_cases j25 : j = 25
  · subst j25; exact LS25 hr hL σ hG i hi hc
  by_cases j26 : j = 26
  · subst j26; exact LS26 hr hro hL σ hG i hi hc
  by_cases j27 : j = 27
  · subst j27; exact LS27 hr hL σ hG i hi hc
  by_cases j28 : j = 28
  · subst j28; exact LS28 hr hL σ hG i hi hc
  by_cases j29 : j = 29
  · subst j29; exact LS29 hr hL σ hG i hi hc
  exact LS30 hr hL σ hG i hi j (by omega) hc
theorem law_run {ro : ma_RO} {L : Nat} {xs : Nat → Int32} (hr : ro 2000000 = some (L, xs)) (hro : ro 3000000 = some (7, ma_abv)) (hL : L ≤ 2048) {d : Nat} : ∀ m i (σ : ma_H), 2048 - i ≤ m → i ≤ 2052 → G σ → ∃ σ', ma_rn ro (d + 31) 178 (18, [some (.ref 2000000), some (.ref 0), some (.ref 90), some (.int (nI i))], [], SH, σ) = some (some (.int (nI 1)), SH, σ') := by
  intro m
  induction m with
  | zero =>
    intro i σ hm hi hG
    exact ⟨σ, LSend hr hL σ i (by omega) (by omega)⟩
  | succ m ih =>
    intro i σ hm hi hG
    by_cases h : i + 4 ≤ L
    · obtain ⟨σ1, g1, e1⟩ := law_step hr hro hL (d := d) σ hG i h
      obtain ⟨σ', e⟩ := ih (i + 4) σ1 (by omega) (by omega) g1
      exact ⟨σ', e1.trans e⟩
    · exact ⟨σ, LSend hr hL σ i (by omega) h⟩

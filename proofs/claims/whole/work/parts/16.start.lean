/-! From the law's entry to the small machine's run. -/
def ma_abv (j : Nat) : Int32 := ([-1, 0, 0, 0, 1, 2, 3] : List Int32).getD j 0
def ma_ro (L : Nat) (xs : Nat → Int32) : ma_RO := fun i => if i = 2000000 then some (L, xs) else if i = 3000000 then some (7, ma_abv) else none
def ma_adr (h0 : Nat) (adK : Nat → Nat) (tA b : Nat) (i : Nat) : Nat := if i < 1000000 then h0 + i else if i < 1000007 then adK (i - 1000000) else if i = 3000000 then tA else b
theorem ms_str1 {args : Array Value} {s : State} {tm : Term} {byt : List Int32} {A : Nat → Prop} (hN : byt.length < 2 ^ 31) (hex : (Cond.exactly tm "java/lang/String").before args s = true) (hco : (Cond.eq (.field tm "java/lang/String" "coder" "B") (.int 0)).before args s = true)
    (har : (Cond.arrayOf (.field tm "java/lang/String" "value" "[B") .byte).before args s = true) (hle : (Cond.eq (.length (.field tm "java/lang/String" "value" "[B")) (.int (Int32.ofNat byt.length))).before args s = true)
    (hel : ∀ j : Nat, j < byt.length → (Cond.eq (.elem (.field tm "java/lang/String" "value" "[B") (.int (Int32.ofNat j))) (.int (byt.getD j 0))).before args s = true) (hA : ∀ a : Nat, a < s.heap.size → ¬ A a) :
    ∃ a v : Nat, tm.eval args s none [] s = some (.ref a) ∧ va_O "java/lang/String" a A s s.heap ∧ va_OF "java/lang/String" "coder" "B" (.int 0) a A s s.heap ∧ va_OF "java/lang/String" "value" "[B" (.ref v) a A s s.heap ∧ va_T .byte v byt.length (fun j => .int (byt.getD j 0)) A s s.heap := by
  obtain ⟨a, c, cA, kA, q1, q2, q3, q4, q5, q6, -⟩ := Cond.exactly_spec (args := args) (first := s) (o := none) (s := s) (idx := []) (t := tm) (cls := "java/lang/String") hex
  obtain ⟨t, ht, hT⟩ := va_Tof (f := fun j => .int (byt.getD j 0)) (A := A) hN har (va_eqt hle) (fun j hj => va_eqt (hel j hj)) hA
  exact ⟨a, t, q1, ⟨cA, q3, q5, by rw [q6]; exact q2, hA a (Array.getElem?_eq_some_iff.mp q3).1⟩, vk_OFof q1 (va_eqt hco) hA, vk_OFof q1 ht hA, hT⟩
def ma_tm (k : Nat) : Term := match k with
  | 0 => Term.string RX3 46
  | 1 => Term.string RX3 48
  | 2 => Term.string RX3 50
  | 3 => Term.string RX3 62
  | 4 => Term.string RX3 81
  | 5 => Term.string RX3 87
  | _ => Term.string RX3 93
set_option maxRecDepth 100000 in
theorem ms_strs {args : Array Value} {s : State} {A : Nat → Prop} (hs : ∀ w ∈ flatC (Jvm.Cond.and given_1 narrow_1), w.before args s = true) (hA : ∀ a : Nat, a < s.heap.size → ¬ A a) : ∀ k, k < 7 → ∃ a v : Nat, (ma_tm k).eval args s none [] s = some (.ref a) ∧ va_O "java/lang/String" a A s s.heap ∧ va_OF "java/lang/String" "coder" "B" (.int 0) a A s s.heap ∧ va_OF "java/lang/String" "value" "[B" (.ref v) a A s s.heap ∧ va_T .byte v (ma_chs k).length (fun j => .int ((ma_chs k).getD j 0)) A s s.heap := by
  intro k hk
  match k, hk with
  | 0, _ => exact ms_str1 (byt := ma_chs 0) (by decide) (hs _ (by decide +kernel)) (hs _ (by decide +kernel)) (hs _ (by decide +kernel)) (hs _ (by decide +kernel)) (fun j hj => match j, hj with | 0, _ => hs _ (by decide +kernel) | 1, _ => hs _ (by decide +kernel) | 2, _ => hs _ (by decide +kernel) | 3, _ => hs _ (by decide +kernel) | 4, _ => hs _ (by decide +kernel) | 5, _ => hs _ (by decide +kernel) | j + 6, hj => absurd hj (by show ¬ (j + 6 < 6); omega)) hA
  | 1, _ => exact ms_str1 (byt := ma_chs 1) (by decide) (hs _ (by decide +kernel)) (hs _ (by decide +kernel)) (hs _ (by decide +kernel)) (hs _ (by decide +kernel)) (fun j hj => match j, hj with | 0, _ => hs _ (by decide +kernel) | 1, _ => hs _ (by decide +kernel) | 2, _ => hs _ (by decide +kernel) | 3, _ => hs _ (by decide +kernel) | 4, _ => hs _ (by decide +kernel) | j + 5, hj => absurd hj (by show ¬ (j + 5 < 5); omega)) hA
  | 2, _ => exact ms_str1 (byt := ma_chs 2) (by decide) (hs _ (by decide +kernel)) (hs _ (by decide +kernel)) (hs _ (by decide +kernel)) (hs _ (by decide +kernel)) (fun j hj => match j, hj with | 0, _ => hs _ (by decide +kernel) | 1, _ => hs _ (by decide +kernel) | 2, _ => hs _ (by decide +kernel) | 3, _ => hs _ (by decide +kernel) | 4, _ => hs _ (by decide +kernel) | 5, _ => hs _ (by decide +kernel) | j + 6, hj => absurd hj (by show ¬ (j + 6 < 6); omega)) hA
  | 3, _ => exact ms_str1 (byt := ma_chs 3) (by decide) (hs _ (by decide +kernel)) (hs _ (by decide +kernel)) (hs _ (by decide +kernel)) (hs _ (by decide +kernel)) (fun j hj => match j, hj with | 0, _ => hs _ (by decide +kernel) | j + 1, hj => absurd hj (by show ¬ (j + 1 < 1); omega)) hA
  | 4, _ => exact ms_str1 (byt := ma_chs 4) (by decide) (hs _ (by decide +kernel)) (hs _ (by decide +kernel)) (hs _ (by decide +kernel)) (hs _ (by decide +kernel)) (fun j hj => match j, hj with | 0, _ => hs _ (by decide +kernel) | 1, _ => hs _ (by decide +kernel) | 2, _ => hs _ (by decide +kernel) | 3, _ => hs _ (by decide +kernel) | 4, _ => hs _ (by decide +kernel) | 5, _ => hs _ (by decide +kernel) | j + 6, hj => absurd hj (by show ¬ (j + 6 < 6); omega)) hA
  | 5, _ => exact ms_str1 (byt := ma_chs 5) (by decide) (hs _ (by decide +kernel)) (hs _ (by decide +kernel)) (hs _ (by decide +kernel)) (hs _ (by decide +kernel)) (fun j hj => match j, hj with | 0, _ => hs _ (by decide +kernel) | 1, _ => hs _ (by decide +kernel) | 2, _ => hs _ (by decide +kernel) | j + 3, hj => absurd hj (by show ¬ (j + 3 < 3); omega)) hA
  | 6, _ => exact ms_str1 (byt := ma_chs 6) (by decide) (hs _ (by decide +kernel)) (hs _ (by decide +kernel)) (hs _ (by decide +kernel)) (hs _ (by decide +kernel)) (fun j hj => match j, hj with | 0, _ => hs _ (by decide +kernel) | j + 1, hj => absurd hj (by show ¬ (j + 1 < 1); omega)) hA
theorem ma_cd178 : ma_cd 178 = code := by
  have : ma_tab[178]? = some (9, yL_law, code, 4, ret, 1, 1) := by rfl
  unfold ma_cd
  rw [this]
theorem ma_k178 : ma_own 178 = 9 ∧ ma_mx 178 = 4 ∧ ma_rt 178 = ret ∧ ma_kd 178 = 1 := by
  have : ma_tab[178]? = some (9, yL_law, code, 4, ret, 1, 1) := by rfl
  unfold ma_own ma_mx ma_rt ma_kd
  rw [this]
  exact ⟨rfl, rfl, rfl, rfl⟩
set_option maxRecDepth 100000 in
set_option maxHeartbeats 4000000 in
theorem ms_start {p : Program} {e : Env} {s : State} {m : MethodId} {below : List Frame} {meth : Method} {c : Code} (l : Launch) {b L : Nat} {xs : Nat → Int32} (hL : L ≤ 2048) (hx : p.tables.exec = Jvm.exec) (hb : c.code = code) (hr : meth.sig.returnType = ret) (hml : c.maxLocals = 4) (hown : s.vm.findClass RL = some m.cls) (hts : ∀ w ∈ lw_tbl, w.before #[Value.ref b] s = true) (hXs : va_X b L xs s s.heap) (hbl : b < s.heap.size) (hlocks : meth.locks = false) (hgv : (Jvm.Cond.and given_1 narrow_1).before #[Value.ref b] s = true)
    {Q : State → Prop} {n : Nat} {sh' : List ma_Sh} {σ' : ma_H} (hrun : ma_run (ma_ro L xs) n 100 178 (0, [some (.ref 2000000), none, none, none], [], [], fun _ _ => 0) = some (some (.int 1), sh', σ')) (hn1 : sh'.length ≤ 600000) (hn2 : ma_sz sh' ≤ 7302250)
    (fin : ∀ (pc : Nat) (ls : Array Slot) (H : Heap) (locs : List Loc) (cells slots : Nat), decode code pc = .ok (.ireturn, 1) → (∀ q ∈ locs, s.heap.size ≤ q.base) → cells ≤ 600000 → slots ≤ 7302250 → W p l e room_1 s m #[Value.ref b] below meth c H locs cells slots Q (F0 m pc ls [.int 1])) :
    W p l e room_1 s m #[Value.ref b] below meth c s.heap [] 0 0 Q (entryFrame m ([Value.ref b] : List Value).toArray 4) := by
  have hs := flat_of_before _ hgv
  have hA : ∀ a : Nat, a < s.heap.size → ¬ (fun q => s.heap.size ≤ q) a := fun a h => Nat.not_le.mpr h
  have hB : ∀ w ∈ ma_B, w.before #[Value.ref b] s = true := fun w hw => hts w (List.mem_filter.mp hw).1
  -- the classes
  have hk0 : ∀ i, ∃ (cC : ClassId) (iS : Nat → Nat), i < 9 → u_Kn s (ma_rx i) (ma_tx i) (ma_nx i) cC iS := by
    intro i
    by_cases hi : i < 9
    · have hin : Cond.instantiable (ma_rx i) (ma_nx i) ∈ lw_tbl := by
        match i, hi with
        | 0, _ => exact in_1 _ (List.mem_of_getElem? (i := 220) rfl)
        | 1, _ => exact in_1 _ (List.mem_of_getElem? (i := 37) rfl)
        | 2, _ => exact in_1 _ (List.mem_of_getElem? (i := 111) rfl)
        | 3, _ => exact in_1 _ (List.mem_of_getElem? (i := 197) rfl)
        | 4, _ => exact in_1 _ (List.mem_of_getElem? (i := 138) rfl)
        | 5, _ => exact in_1 _ (List.mem_of_getElem? (i := 24) rfl)
        | 6, _ => exact in_1 _ (List.mem_of_getElem? (i := 30) rfl)
        | 7, _ => exact in_1 _ (List.mem_of_getElem? (i := 16) rfl)
        | 8, _ => exact in_3 _ (List.mem_of_getElem? (i := 238) rfl)
      obtain ⟨cC, iS, h⟩ := u_known (n := ma_nx i) hB (ma_inU hi) (hts _ hin)
      exact ⟨cC, iS, fun _ => h⟩
    · exact ⟨0, fun _ => 0, fun h => absurd h hi⟩
  obtain ⟨dC, hdC⟩ := Classical.axiomOfChoice hk0
  obtain ⟨dI, hdI⟩ := Classical.axiomOfChoice hdC
  obtain ⟨cI, kI, comI, hI1, hI2, hI3⟩ := Cond.arrayClass_spec (hts _ ma_ac_int)
  obtain ⟨cZ, kZ, comZ, hZ1, hZ2, hZ3⟩ := Cond.arrayClass_spec (hts _ ma_ac_bool)
  obtain ⟨comQ, cQ, kQ, hQ1, hQ2, hQ3, hQ4, hQ5⟩ := Cond.arrayOver_spec (hts _ ma_ao)
  have hK : ma_K (dC, dI) cI cZ cQ s := ⟨fun i hi => hdI i hi, ⟨fun N z => ⟨(fun k h => by cases h), kI, hI2, comI, hI3⟩, hI1⟩, ⟨fun N z => ⟨(fun k h => by cases h), kZ, hZ2, comZ, hZ3⟩, hZ1⟩, ⟨fun N z => ⟨(fun k h => by cases h), kQ, hQ3, comQ, hQ4⟩, kQ, comQ, hQ3, hQ4, hQ1, hQ5⟩⟩
  -- the literals
  have hst0 : ∀ k, ∃ a v : Nat, k < 7 → ((ma_tm k).eval #[Value.ref b] s none [] s = some (.ref a) ∧ va_O "java/lang/String" a (fun q => s.heap.size ≤ q) s s.heap ∧ va_OF "java/lang/String" "coder" "B" (.int 0) a (fun q => s.heap.size ≤ q) s s.heap ∧ va_OF "java/lang/String" "value" "[B" (.ref v) a (fun q => s.heap.size ≤ q) s s.heap ∧ va_T .byte v (ma_chs k).length (fun j => .int ((ma_chs k).getD j 0)) (fun q => s.heap.size ≤ q) s s.heap) := by
    intro k
    by_cases hk : k < 7
    · obtain ⟨a, v, h⟩ := ms_strs hs hA k hk
      exact ⟨a, v, fun _ => h⟩
    · exact ⟨0, 0, fun h => absurd h hk⟩
  obtain ⟨adK, hadK⟩ := Classical.axiomOfChoice hst0
  obtain ⟨adV, hadV⟩ := Classical.axiomOfChoice hadK
  -- the table ABOVE
  obtain ⟨tA, hA1, hA2⟩ := va_Tof (args := #[Value.ref b]) (s := s) (tm := Term.static "DidITurnItOff" "ABOVE" "[I") (ty := .int) (N := 7) (f := fun j => .int (ma_abv j)) (A := fun q => s.heap.size ≤ q) (by decide) (hs _ (by decide +kernel)) (va_eqt (hs _ (by decide +kernel)))
    (fun j hj => va_eqt (match j, hj with | 0, _ => hs _ (by decide +kernel) | 1, _ => hs _ (by decide +kernel) | 2, _ => hs _ (by decide +kernel) | 3, _ => hs _ (by decide +kernel) | 4, _ => hs _ (by decide +kernel) | 5, _ => hs _ (by decide +kernel) | 6, _ => hs _ (by decide +kernel) | j + 7, hj => absurd hj (by omega))) hA
  have had : ∀ i, i < 1000000 → ma_adr s.heap.size adK tA b i = s.heap.size + i := fun i hi => if_pos hi
  have hadS : ∀ k, k < 7 → ma_adr s.heap.size adK tA b (1000000 + k) = adK k := by
    intro k hk
    unfold ma_adr
    rw [if_neg (by omega), if_pos (by omega), show 1000000 + k - 1000000 = k by omega]
  have hadA : ma_adr s.heap.size adK tA b 3000000 = tA := rfl
  have hadB : ma_adr s.heap.size adK tA b 2000000 = b := rfl
  have hX : ma_X (ma_ro L xs) (ma_adr s.heap.size adK tA b) adV s.heap.size s s.heap := by
    refine ⟨?_, ?_, ?_, ?_, ?_, ?_, ?_, ?_⟩
    · intro i k f hi
      unfold ma_ro at hi
      by_cases h2 : i = 2000000
      · subst h2
        rw [if_pos rfl] at hi
        cases hi
        rw [hadB]
        obtain ⟨scr, g1, g2, g3, g4, g5⟩ := hXs
        exact ⟨scr, g1, g2, g3, Nat.le_of_eq g4.symm, by rw [g4] <;> rfl, g5, Nat.not_le.mpr hbl⟩
      · rw [if_neg h2] at hi
        by_cases h3 : i = 3000000
        · subst h3
          rw [if_pos rfl] at hi
          cases hi
          rw [hadA]
          exact hA2
        · rw [if_neg h3] at hi
          cases hi
    · intro k hk
      rw [hadS k hk]
      exact (hadV k hk).2
    · have key : ∀ (own tx : String) (i k : Nat), k < 7 → Cond.stringRef own i tx ∈ lw_tbl → (Term.string own i).eval #[Value.ref b] s none [] s = some (.ref (adK k)) → vk_R own i tx (ma_adr s.heap.size adK tA b (1000000 + k)) s := by
        intro own tx i k hk h1 h2
        rw [hadS k hk]
        exact vk_R.of (hts _ h1) h2
      intro r hr
      have hw := ma_st_ok r hr
      simp only [ma_st, List.mem_cons, List.not_mem_nil, or_false] at hr
      rcases hr with rfl | rfl | rfl | rfl | rfl | rfl | rfl | rfl | rfl | rfl | rfl | rfl
      · exact key _ _ _ 0 (by decide) hw (hadV 0 (by decide)).1
      · exact key _ _ _ 1 (by decide) hw (hadV 1 (by decide)).1
      · exact key _ _ _ 2 (by decide) hw (hadV 2 (by decide)).1
      · exact key _ _ _ 3 (by decide) hw (hadV 3 (by decide)).1
      · exact key _ _ _ 4 (by decide) hw (hadV 4 (by decide)).1
      · exact key _ _ _ 5 (by decide) hw (hadV 5 (by decide)).1
      · exact key _ _ _ 6 (by decide) hw (hadV 6 (by decide)).1
      · exact key _ _ _ 4 (by decide) hw (va_eqR (t := Term.string RX3 81) (hs _ (by decide +kernel)) (hadV 4 (by decide)).1)
      · exact key _ _ _ 5 (by decide) hw (va_eqR (t := Term.string RX3 87) (hs _ (by decide +kernel)) (hadV 5 (by decide)).1)
      · exact key _ _ _ 0 (by decide) hw (va_eqR (t := Term.string RX3 46) (hs _ (by decide +kernel)) (hadV 0 (by decide)).1)
      · exact key _ _ _ 1 (by decide) hw (va_eqR (t := Term.string RX3 48) (hs _ (by decide +kernel)) (hadV 1 (by decide)).1)
      · exact key _ _ _ 2 (by decide) hw (va_eqR (t := Term.string RX3 50) (hs _ (by decide +kernel)) (hadV 2 (by decide)).1)
    · exact va_Zof (args := #[Value.ref b]) (hts _ (in_2 _ (List.mem_of_getElem? (i := 79) rfl))) (hts _ mj_i_string) (va_eqi (hs _ (by decide +kernel))) hA
    · exact va_Zqof (args := #[Value.ref b]) (hts _ (in_2 _ (List.mem_of_getElem? (i := 95) rfl))) (hts _ mj_i_pre) (hs _ (by decide +kernel)) hA
    · rw [hadA]
      exact va_Zof (args := #[Value.ref b]) (hts _ (in_3 _ (List.mem_of_getElem? (i := 186) rfl))) (hts _ (in_1 _ (List.mem_of_getElem? (i := 1) rfl))) hA1 hA
    · exact va_AO.of (hts _ ma_ao)
    · intro r hr hn
      obtain ⟨-, hl⟩ := ma_ct_ok r hr
      rw [hn] at hl
      exact va_Nw.of rfl (hts _ hl)
  obtain ⟨k1, k2, k3, k4⟩ := ma_k178
  have hF : ma_F (ma_ro L xs) (ma_adr s.heap.size adK tA b) adV s.heap.size (dC, dI) cI cZ cQ p room_1 s m #[Value.ref b] meth c 178 := ⟨hx, by rw [ma_cd178]; exact hb, by rw [k2]; exact hml, by rw [k1]; exact hown, hB, hK, hX, had, Nat.le_refl _, (fun h => absurd (k4.symm.trans h) (by decide)), by decide, by decide⟩
  obtain ⟨-, hW⟩ := ms_main _ _ _ _ _ _ _ hrun
  have hent : entryFrame m ([Value.ref b] : List Value).toArray 4 = F0 m 0 ((lg_sl (([.ref 2000000] : List Value).map (ma_vt (ma_adr s.heap.size adK tA b))) ++ List.replicate (ma_mx 178 - (lg_sl (([.ref 2000000] : List Value).map (ma_vt (ma_adr s.heap.size adK tA b)))).length) Slot.unset).toArray) [] := by
    rw [lg_entry_eq, k2]
    rfl
  rw [hent]
  have hlr := ma_entry (ad := ma_adr s.heap.size adK tA b) (mid := 178) (as := [.ref 2000000]) (by rw [k2]; decide)
  have hment : ma_ent 178 [.ref 2000000] = [some (.ref 2000000), none, none, none] := by
    unfold ma_ent
    rw [k2]
    rfl
  rw [hment] at hlr
  refine hW (l := l) (below := below) (Q := Q) (n0 := 0) (z0 := 0) hF (by decide) (by decide) hn1 hn2 ?_ _ _ [] 0 0 hlr ⟨rfl, Nat.zero_le _, fun i e h => by simp at h⟩ va_S.rf rfl rfl
  intro pc i ls H locs cells slots hd hi hH hS hc hz
  have hi1 := hi.1
  subst hi1
  rw [ma_cd178] at hd
  exact fin pc ls H locs cells slots hd hS.2.2 (by omega) (by omega)

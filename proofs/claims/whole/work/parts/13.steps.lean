/-! Each step of the small machine that goes on is one of the real machine's. -/
def ma_sz1 : ma_Sh → Nat
  | .inl (c, _) => ma_nx c
  | .inr (.inl (_, n)) => n
  | .inr (.inr l) => l.length
def ma_sz (sh : List ma_Sh) : Nat := (sh.map ma_sz1).sum
theorem ma_sz_set {sh : List ma_Sh} {o : Nat} {e e' : ma_Sh} (h : sh[o]? = some e) (he : ma_sz1 e' = ma_sz1 e) : ma_sz (sh.set o e') = ma_sz sh := by
  unfold ma_sz
  congr 1
  apply List.ext_getElem?
  intro i
  rw [List.getElem?_map, List.getElem?_map]
  by_cases hi : i = o
  · subst hi
    rw [List.getElem?_set_self (ma_lth h), h]
    simp [he]
  · rw [List.getElem?_set_ne (Ne.symm hi)]
theorem ma_sz_push (sh : List ma_Sh) (e : ma_Sh) : ma_sz (sh ++ [e]) = ma_sz sh + ma_sz1 e := by simp [ma_sz]
theorem ma_cs_map (ad : Nat → Nat) (st : List Value) : ((st.map (ma_vt ad)).map fun v => v.category).sum = ma_cs st := by
  unfold ma_cs
  rw [List.map_map]
  congr 1
  apply List.map_congr_left
  intro v _
  exact ma_vt_cat ad v
theorem ma_fv_rv (ad : Nat → Nat) (r : Option Nat) : ma_vt ad (ma_rv r) = va_rf (r.map ad) := by cases r <;> rfl
theorem ma_ix_in {i : Int32} {n : Nat} (h : ma_ix i n = true) : vp_in i n := by
  have h : decide (¬ (i < 0 ∨ n ≤ i.toNatClampNeg)) = true := h
  exact of_decide_eq_true (p := ¬ (i < 0 ∨ n ≤ i.toNatClampNeg)) h
theorem mj_gi' {ws : List Cond} (h : ∀ w ∈ ws, w ∈ ma_B) : GoodIn ma_B ws := fun w hw => ⟨h w hw, good_of_word (List.mem_filter.mp (h w hw)).2⟩
section INV2
variable {pc idx own kd : Nat} {L : ma_L} {st : List Value} {sh : List ma_Sh} {σ : ma_H} {c' : ma_C}
theorem ma_call_no {m' : Nat} {as rest : List Value} (h : ma_call m' as rest = some (.inl c')) : False := by
  unfold ma_call at h
  split at h <;> cases h
theorem ma_invO_no (h : ma_invO kd own idx st sh = some (.inl c')) : False := by
  unfold ma_invO at h
  split at h
  · split at h
    · split at h
      · split at h
        · split at h
          · exact ma_call_no h
          · cases h
        · cases h
      · cases h
    · cases h
  · cases h
theorem ma_invS_inv (h : ma_invS own idx pc L st sh σ = some (.inl c')) : ∃ b x y r, ma_lk ma_bt own idx = some b ∧ st = .int y :: .int x :: r ∧ ma_cs r ≤ 8 ∧ ((b = 0 ∧ c' = (pc + 3, L, .int (if x < y then y else x) :: r, sh, σ)) ∨ (b = 1 ∧ c' = (pc + 3, L, .int (if y < x then y else x) :: r, sh, σ))) := by
  unfold ma_invS at h
  split at h
  · rename_i b hb
    split at h
    · split at h
      · rename_i hq; cases h; exact ⟨_, _, _, _, hb, rfl, hq, Or.inl ⟨rfl, rfl⟩⟩
      · cases h
    · split at h
      · rename_i hq; cases h; exact ⟨_, _, _, _, hb, rfl, hq, Or.inr ⟨rfl, rfl⟩⟩
      · cases h
    · cases h
  · split at h
    · split at h
      · exact (ma_call_no h).elim
      · cases h
    · cases h
theorem ma_invV_inv (h : ma_invV own idx pc L st sh σ = some (.inl c')) : ∃ s : Nat, (1000000 ≤ s ∧ s < 1000007) ∧ ((∃ r, ma_lk ma_bt own idx = some 2 ∧ st = .ref s :: r ∧ ma_cs r ≤ 8 ∧ c' = (pc + 3, L, .int (Int32.ofNat (ma_chs (s - 1000000)).length) :: r, sh, σ)) ∨
    (∃ r i, ma_lk ma_bt own idx = some 3 ∧ st = .int i :: .ref s :: r ∧ ma_cs r ≤ 8 ∧ ma_ix i (ma_chs (s - 1000000)).length = true ∧ c' = (pc + 3, L, .int ((ma_chs (s - 1000000)).getD i.toNatClampNeg 0) :: r, sh, σ))) := by
  unfold ma_invV at h
  split at h
  · rename_i b hb
    split at h
    · split at h
      · rename_i hq; cases h; exact ⟨_, ⟨hq.1, hq.2.1⟩, Or.inl ⟨_, hb, rfl, hq.2.2, rfl⟩⟩
      · cases h
    · split at h
      · rename_i hq; cases h; exact ⟨_, ⟨hq.1.1, hq.1.2.1⟩, Or.inr ⟨_, _, hb, rfl, hq.1.2.2, hq.2, rfl⟩⟩
      · cases h
    · cases h
  · exact (ma_invO_no h).elim
theorem ma_invI_inv (h : ma_invI own idx pc L st sh σ = some (.inl c')) : ∃ a r, ma_lk ma_bt own idx = some 4 ∧ st = .ref a :: r ∧ ma_cs r ≤ 8 ∧ c' = (pc + 3, L, r, sh, σ) := by
  unfold ma_invI at h
  split at h
  · rename_i b hb
    split at h
    · split at h
      · rename_i hq; cases h; exact ⟨_, _, hb, rfl, hq, rfl⟩
      · cases h
    · cases h
  · exact (ma_invO_no h).elim
end INV2
def ma_F (ro : ma_RO) (ad adV : Nat → Nat) (h0 : Nat) (D : va_G) (cI cZ cQ : ClassId) (p : Program) (R : Room) (s : State) (m : MethodId) (args : Array Value) (meth : Method) (c : Code) (mid : Nat) : Prop :=
  p.tables.exec = Jvm.exec ∧ c.code = ma_cd mid ∧ c.maxLocals = ma_mx mid ∧ s.vm.findClass (ma_rx (ma_own mid)) = some m.cls ∧ (∀ w ∈ ma_B, w.before args s = true) ∧ ma_K D cI cZ cQ s ∧ ma_X ro ad adV h0 s s.heap ∧ (∀ i, i < 1000000 → ad i = h0 + i) ∧ h0 ≤ s.heap.size ∧ (ma_kd mid = 2 → meth.name = "<init>") ∧ 5 ≤ R.frames ∧ 500 ≤ R.locals
def ma_W (ad : Nat → Nat) (h0 : Nat) (D : va_G) (cI cZ cQ : ClassId) (p : Program) (l : Launch) (e : Env) (R : Room) (s : State) (m : MethodId) (args : Array Value) (below : List Frame) (meth : Method) (c : Code) (Q : State → Prop) (nL n0 z0 : Nat) (cf : ma_C) : Prop :=
  ∀ (ls : Array Slot) (H : Heap) (locs : List Loc) (cells slots : Nat), ma_lr ad ls nL cf.2.1 → ma_hp D cI cZ cQ ad h0 cf.2.2.2.1 cf.2.2.2.2 H → va_S (fun q => h0 ≤ q) s.heap H locs → cells + n0 = cf.2.2.2.1.length → slots + z0 = ma_sz cf.2.2.2.1 →
    W p l e R s m args below meth c H locs cells slots Q (F0 m (cf.1) (ls) (cf.2.2.1.map (ma_vt ad)))
section STEP
variable {ro : ma_RO} {ad adV : Nat → Nat} {h0 : Nat} {D : va_G} {cI cZ cQ : ClassId} {p : Program} {l : Launch} {e : Env} {R : Room} {s : State} {m : MethodId} {args : Array Value} {below : List Frame} {meth : Method} {c : Code} {Q : State → Prop} {n0 z0 mid pc n : Nat} {L : ma_L} {st : List Value} {sh : List ma_Sh} {σ : ma_H} {c' : ma_C} {i : Instr}
set_option maxHeartbeats 8000000 in
set_option maxRecDepth 100000 in
theorem ms_next (hF : ma_F ro ad adV h0 D cI cZ cQ p R s m args meth c mid) (hd : decode (ma_cd mid) pc = .ok (i, n)) (hl : ma_lenOk i n = true) (h : ma_ex ro mid i pc L st sh σ = some (.inl c')) (hr1 : c'.2.2.2.1.length ≤ R.cells + n0) (hr2 : ma_sz c'.2.2.2.1 ≤ R.slots + z0)
    (kk : ma_W ad h0 D cI cZ cQ p l e R s m args below meth c Q (ma_mx mid) n0 z0 c') : ma_W ad h0 D cI cZ cQ p l e R s m args below meth c Q (ma_mx mid) n0 z0 (pc, L, st, sh, σ) := by
  intro ls H locs cells slots hL hH hS hc hz
  obtain ⟨hx, hb, hml, hown, hts, hK, hX, had, hA0, hini, hRf, hRl⟩ := hF
  have hA : ∀ q, h0 ≤ q → (fun q => h0 ≤ q) q := fun _ h => h
  have hLs : ls.size = ma_mx mid := hL.1.1
  have hLn : L.length = ma_mx mid := hL.2
  have hfin : ∀ ci k, ma_finOk mid (ma_own mid) ci k = true → (ma_tx ci k).2.2.2 = false ∨ (meth.name = "<init>" ∧ ma_own mid = ci) := by
    intro ci k hq
    unfold ma_finOk at hq
    rcases Bool.or_eq_true_iff.mp hq with z | z
    · exact Or.inl (by simpa using z)
    · obtain ⟨z1, z2⟩ := Bool.and_eq_true_iff.mp z
      exact Or.inr ⟨hini (eq_of_beq z1), eq_of_beq z2⟩
  cases i
  case iconst k =>
    have hn : n = 1 := eq_of_beq (show (n == 1) = true from hl)
    subst hn
    cases (show (some (Sum.inl (pc + 1, L, Value.int (Int32.ofInt k) :: st, sh, σ)) : Option ma_O) = some (.inl c') from h)
    exact lv_iconst hx hb hd rfl (kk _ _ _ _ _ hL hH hS hc hz)
  case bipush k =>
    have hn : n = 2 := eq_of_beq (show (n == 2) = true from hl)
    subst hn
    cases (show (some (Sum.inl (pc + 2, L, Value.int (Int8.ofInt k).toInt32 :: st, sh, σ)) : Option ma_O) = some (.inl c') from h)
    exact lv_bipush hx hb hd rfl (kk _ _ _ _ _ hL hH hS hc hz)
  case sipush k =>
    have hn : n = 3 := eq_of_beq (show (n == 3) = true from hl)
    subst hn
    cases (show (some (Sum.inl (pc + 3, L, Value.int (Int16.ofInt k).toInt32 :: st, sh, σ)) : Option ma_O) = some (.inl c') from h)
    exact lv_sipush hx hb hd rfl (kk _ _ _ _ _ hL hH hS hc hz)
  case lconst k =>
    have hn : n = 1 := eq_of_beq (show (n == 1) = true from hl)
    subst hn
    cases (show (some (Sum.inl (pc + 1, L, Value.long (Int64.ofNat (k : Nat)) :: st, sh, σ)) : Option ma_O) = some (.inl c') from h)
    exact lv_lconst hx hb hd rfl (kk _ _ _ _ _ hL hH hS hc hz)
  case aconst_null =>
    have hn : n = 1 := eq_of_beq (show (n == 1) = true from hl)
    subst hn
    cases (show (some (Sum.inl (pc + 1, L, Value.null :: st, sh, σ)) : Option ma_O) = some (.inl c') from h)
    exact lv_null hx hb hd (kk _ _ _ _ _ hL hH hS hc hz)
  case iload_n k =>
    have hn : n = 1 := eq_of_beq (show (n == 1) = true from hl)
    subst hn
    obtain ⟨v, hv, hq, rfl⟩ := ma_ld_inv h
    obtain ⟨x, rfl⟩ := ma_isI_inv hq
    exact lv_iload_n hx hb hd rfl (hL.at hv) (kk _ _ _ _ _ hL hH hS hc hz)
  case iload k =>
    have hn : n = 2 := eq_of_beq (show (n == 2) = true from hl)
    subst hn
    obtain ⟨v, hv, hq, rfl⟩ := ma_ld_inv h
    obtain ⟨x, rfl⟩ := ma_isI_inv hq
    exact lv_iload hx hb hd (hL.at hv) (kk _ _ _ _ _ hL hH hS hc hz)
  case lload_n k =>
    have hn : n = 1 := eq_of_beq (show (n == 1) = true from hl)
    subst hn
    obtain ⟨v, hv, hq, rfl⟩ := ma_ld_inv h
    obtain ⟨x, rfl⟩ := ma_isL_inv hq
    exact lv_lload_n hx hb hd rfl (hL.at hv) (kk _ _ _ _ _ hL hH hS hc hz)
  case lload k =>
    have hn : n = 2 := eq_of_beq (show (n == 2) = true from hl)
    subst hn
    obtain ⟨v, hv, hq, rfl⟩ := ma_ld_inv h
    obtain ⟨x, rfl⟩ := ma_isL_inv hq
    exact lv_lload hx hb hd (hL.at hv) (kk _ _ _ _ _ hL hH hS hc hz)
  case aload_n k =>
    have hn : n = 1 := eq_of_beq (show (n == 1) = true from hl)
    subst hn
    obtain ⟨v, hv, hq, rfl⟩ := ma_ld_inv h
    rcases ma_isA_inv hq with rfl | ⟨x, rfl⟩
    · exact lv_aload_nN hx hb hd rfl (hL.at hv) (kk _ _ _ _ _ hL hH hS hc hz)
    · exact lv_aload_n hx hb hd rfl (hL.at hv) (kk _ _ _ _ _ hL hH hS hc hz)
  case aload k =>
    have hn : n = 2 := eq_of_beq (show (n == 2) = true from hl)
    subst hn
    obtain ⟨v, hv, hq, rfl⟩ := ma_ld_inv h
    rcases ma_isA_inv hq with rfl | ⟨x, rfl⟩
    · exact lv_aloadN hx hb hd (hL.at hv) (kk _ _ _ _ _ hL hH hS hc hz)
    · exact lv_aload hx hb hd (hL.at hv) (kk _ _ _ _ _ hL hH hS hc hz)
  case istore_n k =>
    have hn : n = 1 := eq_of_beq (show (n == 1) = true from hl)
    subst hn
    obtain ⟨v, r, rfl, hq, hbf, hi, rfl⟩ := ma_s1_inv h
    obtain ⟨x, rfl⟩ := ma_isI_inv hq
    exact lv_istore_n hx hb hd rfl hL.1 (by omega) rfl (fun ls' hl' => kk _ _ _ _ _ (hL.s1 hbf hi hl') hH hS hc hz)
  case istore k =>
    have hn : n = 2 := eq_of_beq (show (n == 2) = true from hl)
    subst hn
    obtain ⟨v, r, rfl, hq, hbf, hi, rfl⟩ := ma_s1_inv h
    obtain ⟨x, rfl⟩ := ma_isI_inv hq
    exact lv_istore hx hb hd hL.1 (by omega) rfl (fun ls' hl' => kk _ _ _ _ _ (hL.s1 hbf hi hl') hH hS hc hz)
  case astore_n k =>
    have hn : n = 1 := eq_of_beq (show (n == 1) = true from hl)
    subst hn
    obtain ⟨v, r, rfl, hq, hbf, hi, rfl⟩ := ma_s1_inv h
    rcases ma_isA_inv hq with rfl | ⟨x, rfl⟩
    · exact lv_astore_nN hx hb hd rfl hL.1 (by omega) rfl (fun ls' hl' => kk _ _ _ _ _ (hL.s1 hbf hi hl') hH hS hc hz)
    · exact lv_astore_n hx hb hd rfl hL.1 (by omega) rfl (fun ls' hl' => kk _ _ _ _ _ (hL.s1 hbf hi hl') hH hS hc hz)
  case astore k =>
    have hn : n = 2 := eq_of_beq (show (n == 2) = true from hl)
    subst hn
    obtain ⟨v, r, rfl, hq, hbf, hi, rfl⟩ := ma_s1_inv h
    rcases ma_isA_inv hq with rfl | ⟨x, rfl⟩
    · exact lv_astoreN hx hb hd hL.1 (by omega) rfl (fun ls' hl' => kk _ _ _ _ _ (hL.s1 hbf hi hl') hH hS hc hz)
    · exact lv_astore hx hb hd hL.1 (by omega) rfl (fun ls' hl' => kk _ _ _ _ _ (hL.s1 hbf hi hl') hH hS hc hz)
  case lstore_n k =>
    have hn : n = 1 := eq_of_beq (show (n == 1) = true from hl)
    subst hn
    obtain ⟨x, r, rfl, hbf, hi, rfl⟩ := ma_s2_inv h
    exact lv_lstore_n hx hb hd rfl hL.1 (by omega) rfl (fun ls' hl' => kk _ _ _ _ _ (hL.s2 hbf hi hl') hH hS hc hz)
  case lstore k =>
    have hn : n = 2 := eq_of_beq (show (n == 2) = true from hl)
    subst hn
    obtain ⟨x, r, rfl, hbf, hi, rfl⟩ := ma_s2_inv h
    exact lv_lstore hx hb hd hL.1 (by omega) rfl (fun ls' hl' => kk _ _ _ _ _ (hL.s2 hbf hi hl') hH hS hc hz)
  case iinc k q =>
    have hn : n = 3 := eq_of_beq (show (n == 3) = true from hl)
    subst hn
    have h : (match L[k]? with | some (some (.int x)) => if ma_bef L k = false then (some (.inl (pc + 3, L.set k (some (.int (x + Int32.ofInt q))), st, sh, σ)) : Option ma_O) else none | _ => none) = some (.inl c') := h
    split at h
    · rename_i x hv
      split at h
      · rename_i hbf
        cases h
        have hi : k < L.length := (List.getElem?_eq_some_iff.mp hv).1
        obtain ⟨k1, hk1⟩ := List.getElem?_of_mem (ma_ll_mem.mpr ⟨_, hv, rfl⟩ : (k, ma_vt ad (.int x)) ∈ ma_ll ad L)
        exact lv_iinc hx hb hd hL.1 (k := k1) hk1 rfl (by omega) rfl (fun ls' hl' => kk _ _ _ _ _ (hL.s1 hbf hi hl') hH hS hc hz)
      · cases h
    · cases h
  case iadd =>
    have hn : n = 1 := eq_of_beq (show (n == 1) = true from hl)
    subst hn
    obtain ⟨x, y, r, v, rfl, hv, rfl⟩ := ma_i2_inv (show ma_i2 (fun x y => some (x + y)) pc L st sh σ = some (.inl c') from h)
    cases hv
    exact lv_iadd hx hb hd (kk _ _ _ _ _ hL hH hS hc hz)
  case isub =>
    have hn : n = 1 := eq_of_beq (show (n == 1) = true from hl)
    subst hn
    obtain ⟨x, y, r, v, rfl, hv, rfl⟩ := ma_i2_inv (show ma_i2 (fun x y => some (x - y)) pc L st sh σ = some (.inl c') from h)
    cases hv
    exact lv_isub hx hb hd (kk _ _ _ _ _ hL hH hS hc hz)
  case imul =>
    have hn : n = 1 := eq_of_beq (show (n == 1) = true from hl)
    subst hn
    obtain ⟨x, y, r, v, rfl, hv, rfl⟩ := ma_i2_inv (show ma_i2 (fun x y => some (x * y)) pc L st sh σ = some (.inl c') from h)
    cases hv
    exact lv_imul hx hb hd (kk _ _ _ _ _ hL hH hS hc hz)
  case iand =>
    have hn : n = 1 := eq_of_beq (show (n == 1) = true from hl)
    subst hn
    obtain ⟨x, y, r, v, rfl, hv, rfl⟩ := ma_i2_inv (show ma_i2 (fun x y => some (x &&& y)) pc L st sh σ = some (.inl c') from h)
    cases hv
    exact lv_iand hx hb hd (kk _ _ _ _ _ hL hH hS hc hz)
  case ior =>
    have hn : n = 1 := eq_of_beq (show (n == 1) = true from hl)
    subst hn
    obtain ⟨x, y, r, v, rfl, hv, rfl⟩ := ma_i2_inv (show ma_i2 (fun x y => some (x ||| y)) pc L st sh σ = some (.inl c') from h)
    cases hv
    exact lv_ior hx hb hd (kk _ _ _ _ _ hL hH hS hc hz)
  case ixor =>
    have hn : n = 1 := eq_of_beq (show (n == 1) = true from hl)
    subst hn
    obtain ⟨x, y, r, v, rfl, hv, rfl⟩ := ma_i2_inv (show ma_i2 (fun x y => some (x ^^^ y)) pc L st sh σ = some (.inl c') from h)
    cases hv
    exact lv_ixor hx hb hd (kk _ _ _ _ _ hL hH hS hc hz)
  case ishl =>
    have hn : n = 1 := eq_of_beq (show (n == 1) = true from hl)
    subst hn
    obtain ⟨x, y, r, v, rfl, hv, rfl⟩ := ma_i2_inv (show ma_i2 (fun x y => some (x <<< (y &&& 31))) pc L st sh σ = some (.inl c') from h)
    cases hv
    exact lv_ishl hx hb hd (kk _ _ _ _ _ hL hH hS hc hz)
  case ishr =>
    have hn : n = 1 := eq_of_beq (show (n == 1) = true from hl)
    subst hn
    obtain ⟨x, y, r, v, rfl, hv, rfl⟩ := ma_i2_inv (show ma_i2 (fun x y => some (x >>> (y &&& 31))) pc L st sh σ = some (.inl c') from h)
    cases hv
    exact lv_ishr hx hb hd (kk _ _ _ _ _ hL hH hS hc hz)
  case idiv =>
    have hn : n = 1 := eq_of_beq (show (n == 1) = true from hl)
    subst hn
    obtain ⟨x, y, r, v, rfl, hv, rfl⟩ := ma_i2_inv (show ma_i2 (fun x y => if y = 0 then none else some (x / y)) pc L st sh σ = some (.inl c') from h)
    have hv : (if y = 0 then none else some (x / y)) = some v := hv
    split at hv
    · cases hv
    · rename_i hy
      cases hv
      exact lv_idiv hx hb hd hy (kk _ _ _ _ _ hL hH hS hc hz)
  case irem =>
    have hn : n = 1 := eq_of_beq (show (n == 1) = true from hl)
    subst hn
    obtain ⟨x, y, r, v, rfl, hv, rfl⟩ := ma_i2_inv (show ma_i2 (fun x y => if y = 0 then none else some (x - x / y * y)) pc L st sh σ = some (.inl c') from h)
    have hv : (if y = 0 then none else some (x - x / y * y)) = some v := hv
    split at hv
    · cases hv
    · rename_i hy
      cases hv
      exact lv_irem hx hb hd hy (kk _ _ _ _ _ hL hH hS hc hz)
  case ladd =>
    have hn : n = 1 := eq_of_beq (show (n == 1) = true from hl)
    subst hn
    obtain ⟨x, y, r, v, rfl, hv, rfl⟩ := ma_l2_inv (show ma_l2 (fun x y => some (.long (x + y))) pc L st sh σ = some (.inl c') from h)
    cases hv
    exact lv_ladd hx hb hd (kk _ _ _ _ _ hL hH hS hc hz)
  case ldiv =>
    have hn : n = 1 := eq_of_beq (show (n == 1) = true from hl)
    subst hn
    obtain ⟨x, y, r, v, rfl, hv, rfl⟩ := ma_l2_inv (show ma_l2 (fun x y => if y = 0 then none else some (.long (x / y))) pc L st sh σ = some (.inl c') from h)
    have hv : (if y = 0 then none else some (Value.long (x / y))) = some v := hv
    split at hv
    · cases hv
    · rename_i hy
      cases hv
      exact lv_ldiv hx hb hd hy (kk _ _ _ _ _ hL hH hS hc hz)
  case lrem =>
    have hn : n = 1 := eq_of_beq (show (n == 1) = true from hl)
    subst hn
    obtain ⟨x, y, r, v, rfl, hv, rfl⟩ := ma_l2_inv (show ma_l2 (fun x y => if y = 0 then none else some (.long (x - x / y * y))) pc L st sh σ = some (.inl c') from h)
    have hv : (if y = 0 then none else some (Value.long (x - x / y * y))) = some v := hv
    split at hv
    · cases hv
    · rename_i hy
      cases hv
      exact lv_lrem hx hb hd hy (kk _ _ _ _ _ hL hH hS hc hz)
  case lcmp =>
    have hn : n = 1 := eq_of_beq (show (n == 1) = true from hl)
    subst hn
    obtain ⟨x, y, r, v, rfl, hv, rfl⟩ := ma_l2_inv (show ma_l2 (fun x y => some (.int (lg_cmp x y))) pc L st sh σ = some (.inl c') from h)
    cases hv
    exact W.lcmp hx hb hd (kk _ _ _ _ _ hL hH hS hc hz)
  case ineg =>
    have hn : n = 1 := eq_of_beq (show (n == 1) = true from hl)
    subst hn
    simp only [ma_ex] at h
    split at h
    · rename_i x r
      cases h
      exact lv_ineg hx hb hd (kk _ _ _ _ _ hL hH hS hc hz)
    · cases h
  case lneg =>
    have hn : n = 1 := eq_of_beq (show (n == 1) = true from hl)
    subst hn
    simp only [ma_ex] at h
    split at h
    · rename_i x r
      cases h
      exact lv_lneg hx hb hd (kk _ _ _ _ _ hL hH hS hc hz)
    · cases h
  case i2l =>
    have hn : n = 1 := eq_of_beq (show (n == 1) = true from hl)
    subst hn
    simp only [ma_ex] at h
    split at h
    · rename_i x r
      cases h
      exact lv_i2l hx hb hd rfl (kk _ _ _ _ _ hL hH hS hc hz)
    · cases h
  case dup =>
    have hn : n = 1 := eq_of_beq (show (n == 1) = true from hl)
    subst hn
    simp only [ma_ex] at h
    split at h
    · rename_i v r
      split at h
      · rename_i hv
        cases h
        exact lv_dup hx hb hd (by rw [ma_vt_cat]; exact hv) (kk _ _ _ _ _ hL hH hS hc hz)
      · cases h
    · cases h
  case pop =>
    have hn : n = 1 := eq_of_beq (show (n == 1) = true from hl)
    subst hn
    simp only [ma_ex] at h
    split at h
    · rename_i v r
      split at h
      · rename_i hv
        cases h
        exact lv_pop (va := ma_vt ad v) hx hb hd (by rw [ma_vt_cat]; exact hv) (kk _ _ _ _ _ hL hH hS hc hz)
      · cases h
    · cases h
  case dup2 =>
    have hn : n = 1 := eq_of_beq (show (n == 1) = true from hl)
    subst hn
    simp only [ma_ex] at h
    split at h
    · rename_i v w r
      split at h
      · rename_i hv
        cases h
        exact lv_dup2_11 hx hb hd (by rw [ma_vt_cat]; exact hv.1) (by rw [ma_vt_cat]; exact hv.2) (kk _ _ _ _ _ hL hH hS hc hz)
      · cases h
    · cases h
  case ifCond q off =>
    have hn : n = 3 := eq_of_beq (show (n == 3) = true from hl)
    subst hn
    simp only [ma_ex] at h
    split at h
    · rename_i x r
      obtain ⟨t, ht, rfl⟩ := ma_br_inv h
      have kk := kk ls H locs cells slots hL hH hS hc hz
      dsimp only at kk ⊢
      cases q
      · refine lv_if_eq (tgt := t) hx hb hd ht (fun hq => ?_) (fun hq => ?_)
        · simpa [ma_cmp, hq] using kk
        · simpa [ma_cmp, hq] using kk
      · refine lv_if_ne (tgt := t) hx hb hd ht (fun hq => ?_) (fun hq => ?_)
        · simpa [ma_cmp, hq] using kk
        · simpa [ma_cmp, hq] using kk
      · refine lv_if_lt (tgt := t) hx hb hd ht (fun hq => ?_) (fun hq => ?_)
        · simpa [ma_cmp, hq] using kk
        · simpa [ma_cmp, hq] using kk
      · refine lv_if_ge (tgt := t) hx hb hd ht (fun hq => ?_) (fun hq => ?_)
        · simpa [ma_cmp, hq] using kk
        · simpa [ma_cmp, hq] using kk
      · refine lv_if_gt (tgt := t) hx hb hd ht (fun hq => ?_) (fun hq => ?_)
        · simpa [ma_cmp, hq] using kk
        · simpa [ma_cmp, hq] using kk
      · refine lv_if_le (tgt := t) hx hb hd ht (fun hq => ?_) (fun hq => ?_)
        · simpa [ma_cmp, hq] using kk
        · simpa [ma_cmp, hq] using kk
    · cases h
  case if_icmp q off =>
    have hn : n = 3 := eq_of_beq (show (n == 3) = true from hl)
    subst hn
    simp only [ma_ex] at h
    split at h
    · rename_i y x r
      obtain ⟨t, ht, rfl⟩ := ma_br_inv h
      have kk := kk ls H locs cells slots hL hH hS hc hz
      dsimp only at kk ⊢
      cases q
      · refine lv_icmp_eq (tgt := t) hx hb hd ht (fun hq => ?_) (fun hq => ?_)
        · simpa [ma_cmp, hq] using kk
        · simpa [ma_cmp, hq] using kk
      · refine lv_icmp_ne (tgt := t) hx hb hd ht (fun hq => ?_) (fun hq => ?_)
        · simpa [ma_cmp, hq] using kk
        · simpa [ma_cmp, hq] using kk
      · refine lv_icmp_lt (tgt := t) hx hb hd ht (fun hq => ?_) (fun hq => ?_)
        · simpa [ma_cmp, hq] using kk
        · simpa [ma_cmp, hq] using kk
      · refine lv_icmp_ge (tgt := t) hx hb hd ht (fun hq => ?_) (fun hq => ?_)
        · simpa [ma_cmp, hq] using kk
        · simpa [ma_cmp, hq] using kk
      · refine lv_icmp_gt (tgt := t) hx hb hd ht (fun hq => ?_) (fun hq => ?_)
        · simpa [ma_cmp, hq] using kk
        · simpa [ma_cmp, hq] using kk
      · refine lv_icmp_le (tgt := t) hx hb hd ht (fun hq => ?_) (fun hq => ?_)
        · simpa [ma_cmp, hq] using kk
        · simpa [ma_cmp, hq] using kk
    · cases h
  case ifnull off =>
    have hn : n = 3 := eq_of_beq (show (n == 3) = true from hl)
    subst hn
    simp only [ma_ex] at h
    split at h
    · rename_i r
      obtain ⟨t, ht, rfl⟩ := ma_br_inv h
      exact lv_ifnullN (tgt := t) hx hb hd ht (kk _ _ _ _ _ hL hH hS hc hz)
    · rename_i a r
      obtain ⟨t, ht, rfl⟩ := ma_br_inv h
      exact lv_ifnull hx hb hd (kk _ _ _ _ _ hL hH hS hc hz)
    · cases h
  case ifnonnull off =>
    have hn : n = 3 := eq_of_beq (show (n == 3) = true from hl)
    subst hn
    simp only [ma_ex] at h
    split at h
    · rename_i r
      obtain ⟨t, ht, rfl⟩ := ma_br_inv h
      exact lv_ifnonnullN hx hb hd (kk _ _ _ _ _ hL hH hS hc hz)
    · rename_i a r
      obtain ⟨t, ht, rfl⟩ := ma_br_inv h
      exact lv_ifnonnull (tgt := t) hx hb hd ht (kk _ _ _ _ _ hL hH hS hc hz)
    · cases h
  case goto off =>
    have hn : n = 3 := eq_of_beq (show (n == 3) = true from hl)
    subst hn
    obtain ⟨t, ht, rfl⟩ := ma_br_inv h
    exact lv_goto (tgt := t) hx hb hd ht (kk _ _ _ _ _ hL hH hS hc hz)
  case tableswitch d lo hi offs =>
    obtain ⟨x, r, o, t, rfl, ht, ho, rfl⟩ := ma_tsw_inv h
    rcases ho with ⟨ho, rfl⟩ | ⟨ho1, ho2, ho3⟩
    · exact lv_tableOut (tgt := t) hx hb hd ho ht (kk _ _ _ _ _ hL hH hS hc hz)
    · exact lv_tableIn (tgt := t) hx hb hd ho1 ho2 ho3 ht (kk _ _ _ _ _ hL hH hS hc hz)
  case lookupswitch d ps =>
    obtain ⟨x, r, t, rfl, hp, ht, rfl⟩ := ma_lsw_inv h
    exact lv_lookup (tgt := t) hx hb hd hp rfl ht (kk _ _ _ _ _ hL hH hS hc hz)
  case ldc idx =>
    have hn : n = 2 := eq_of_beq (show (n == 2) = true from hl)
    subst hn
    rcases ma_ldc_inv h with ⟨v, hv, rfl⟩ | ⟨k, hk, rfl⟩
    · exact lv_ldc hx hb hown (hts _ (ma_inB (ma_kt_ok _ (ma_lk_mem hv)) rfl)) hd (kk _ _ _ _ _ hL hH hS hc hz)
    · exact va_ldcS hx hb hown (hX.2.2.1 _ (ma_lk_mem hk)) hd (kk _ _ _ _ _ hL hH hS hc hz)
  case ldc2_w idx =>
    have hn : n = 3 := eq_of_beq (show (n == 3) = true from hl)
    subst hn
    obtain ⟨v, hv, rfl⟩ := ma_ldc2_inv h
    exact lv_ldc2 hx hb hown (hts _ (ma_inB (ma_lt_ok _ (ma_lk_mem hv)) rfl)) hd (kk _ _ _ _ _ hL hH hS hc hz)
  case getfield idx =>
    have hn : n = 3 := eq_of_beq (show (n == 3) = true from hl)
    subst hn
    obtain ⟨o, r, ci, k, fs, rfl, hf, ho, rfl⟩ := ma_getf_inv h
    exact mw_get hx hb hts hown hK hH hf ho hd (kk _ _ _ _ _ hL hH hS hc hz)
  case putfield idx =>
    have hn : n = 3 := eq_of_beq (show (n == 3) = true from hl)
    subst hn
    obtain ⟨o, r, ci, k, fs, hf, ho, hfo, hh⟩ := ma_putf_inv h
    rcases hh with ⟨x, rfl, h1, h2, rfl⟩ | ⟨z, rfl, h2, rfl⟩
    · exact mw_putI hx hb hts hown hK had hH hS hA hf ho (hfin ci k hfo) h1 h2 hd (fun H1 locs1 g1 g2 => kk _ _ _ _ _ hL g1 g2 hc hz)
    · exact mw_putA hx hb hts hown hK had hH hS hA hf ho (hfin ci k hfo) h2 hd (fun H1 locs1 g1 g2 => kk _ _ _ _ _ hL g1 g2 (by rw [hc]; exact (List.length_set ..).symm) (by rw [hz]; exact (ma_sz_set (e' := Sum.inl (ci, fs.set k (some z))) ho rfl).symm))
  case getstatic idx =>
    have hn : n = 3 := eq_of_beq (show (n == 3) = true from hl)
    subst hn
    simp only [ma_ex] at h
    split at h
    · rename_i hq
      cases h
      have hown7 : s.vm.findClass RX7 = some m.cls := by rw [hq.1] at hown; exact hown
      have e265 := hq.2
      subst e265
      exact va_gets hx hb hX.2.2.2.2.2.1 hS hown7 (hts _ (ma_inB ma_f_above rfl)) (fun _ h => h) hd (kk _ _ _ _ _ hL hH hS hc hz)
    · cases h
  case arraylength =>
    have hn : n = 1 := eq_of_beq (show (n == 1) = true from hl)
    subst hn
    simp only [ma_ex] at h
    split at h
    · rename_i o r
      split at h
      · rename_i k hk
        cases h
        rcases ma_alen_inv hk with hk | ⟨f, hk⟩
        · exact mw_alen hx hb hK hH hk hd (kk _ _ _ _ _ hL hH hS hc hz)
        · exact va_tlen hx hb (hX.1 _ _ _ hk) hS rfl hd (kk _ _ _ _ _ hL hH hS hc hz)
      · cases h
    · cases h
  case iaload =>
    have hn : n = 1 := eq_of_beq (show (n == 1) = true from hl)
    subst hn
    obtain ⟨i, o, r, k, rfl, hi, hh⟩ := ma_iald_inv h
    rcases hh with ⟨ho, rfl⟩ | ⟨f, hf, rfl⟩
    · exact mw_iald hx hb hK hH ho hi hd (kk _ _ _ _ _ hL hH hS hc hz)
    · exact va_ti hx hb (hX.1 _ _ _ hf) hS (ma_ix_in hi) rfl hd (kk _ _ _ _ _ hL hH hS hc hz)
  case baload =>
    have hn : n = 1 := eq_of_beq (show (n == 1) = true from hl)
    subst hn
    obtain ⟨i, o, r, k, rfl, hi, ho, rfl⟩ := ma_bald_inv h
    exact mw_bald hx hb hK hH ho hi hd (kk _ _ _ _ _ hL hH hS hc hz)
  case iastore =>
    have hn : n = 1 := eq_of_beq (show (n == 1) = true from hl)
    subst hn
    obtain ⟨x, i, o, r, k, rfl, hi, ho, rfl⟩ := ma_iast_inv h
    exact mw_iast hx hb hK had hH hS hA ho hi hd (fun H1 locs1 g1 g2 => kk _ _ _ _ _ hL g1 g2 hc hz)
  case bastore =>
    have hn : n = 1 := eq_of_beq (show (n == 1) = true from hl)
    subst hn
    obtain ⟨x, i, o, r, k, rfl, hi, ho, rfl⟩ := ma_bast_inv h
    exact mw_bast hx hb hK had hH hS hA ho hi hd (fun H1 locs1 g1 g2 => kk _ _ _ _ _ hL g1 g2 hc hz)
  case aaload =>
    have hn : n = 1 := eq_of_beq (show (n == 1) = true from hl)
    subst hn
    obtain ⟨i, o, r, lr, rfl, hi, ho, rfl⟩ := ma_aald_inv h
    exact mw_aald hx hb hK hH ho hi hd (kk _ _ _ _ _ hL hH hS hc hz)
  case aastore =>
    have hn : n = 1 := eq_of_beq (show (n == 1) = true from hl)
    subst hn
    obtain ⟨v, i, o, r, lr, fs, rfl, hi, ho, hv, rfl⟩ := ma_aast_inv h
    exact mw_aast hx hb hK had hH hS hA ho hv hi hd (fun H1 locs1 g1 g2 => kk _ _ _ _ _ hL g1 g2 (by rw [hc]; exact (List.length_set ..).symm) (by rw [hz]; exact (ma_sz_set (e' := Sum.inr (Sum.inr (lr.set i.toNatClampNeg (some v)))) ho (by simp [ma_sz1])).symm))
  case new idx =>
    have hn : n = 3 := eq_of_beq (show (n == 3) = true from hl)
    subst hn
    obtain ⟨ci, hf, hn, rfl⟩ := ma_new_inv h
    have hr1 : (sh ++ [(Sum.inl (ci, ma_blank ci) : ma_Sh)]).length ≤ R.cells + n0 := hr1
    have hr2 : ma_sz (sh ++ [(Sum.inl (ci, ma_blank ci) : ma_Sh)]) ≤ R.slots + z0 := hr2
    rw [List.length_append, List.length_singleton] at hr1
    rw [ma_sz_push] at hr2
    have hr2 : ma_sz sh + ma_nx ci ≤ R.slots + z0 := hr2
    dsimp only at hc hz
    exact mw_new hx hb hts hown hK had hH hS hf hn (by omega) (by omega) hd (fun H1 g1 g2 => kk _ _ _ _ _ hL g1 g2 (by show _ = (sh ++ _).length; rw [List.length_append, List.length_singleton]; omega) (by show _ = ma_sz (sh ++ _); rw [ma_sz_push]; show _ = ma_sz sh + ma_nx ci; omega))
  case newarray t =>
    have hn : n = 2 := eq_of_beq (show (n == 2) = true from hl)
    subst hn
    cases t
    case int =>
      obtain ⟨k, r, rfl, h1, h2, hn, rfl⟩ := ma_newa_inv h
      have hr1 : (sh ++ [(Sum.inr (Sum.inl (false, k.toNatClampNeg)) : ma_Sh)]).length ≤ R.cells + n0 := hr1
      have hr2 : ma_sz (sh ++ [(Sum.inr (Sum.inl (false, k.toNatClampNeg)) : ma_Sh)]) ≤ R.slots + z0 := hr2
      rw [List.length_append, List.length_singleton] at hr1
      rw [ma_sz_push] at hr2
      have hr2 : ma_sz sh + k.toNatClampNeg ≤ R.slots + z0 := hr2
      dsimp only at hc hz
      exact mw_newI hx hb hts hK had hH hS h1 h2 hn (by omega) (by omega) hd (fun H1 g1 g2 => kk _ _ _ _ _ hL g1 g2 (by show _ = (sh ++ _).length; rw [List.length_append, List.length_singleton]; omega) (by show _ = ma_sz (sh ++ _); rw [ma_sz_push]; show _ = ma_sz sh + k.toNatClampNeg; omega))
    case boolean =>
      obtain ⟨k, r, rfl, h1, h2, hn, rfl⟩ := ma_newa_inv h
      have hr1 : (sh ++ [(Sum.inr (Sum.inl (true, k.toNatClampNeg)) : ma_Sh)]).length ≤ R.cells + n0 := hr1
      have hr2 : ma_sz (sh ++ [(Sum.inr (Sum.inl (true, k.toNatClampNeg)) : ma_Sh)]) ≤ R.slots + z0 := hr2
      rw [List.length_append, List.length_singleton] at hr1
      rw [ma_sz_push] at hr2
      have hr2 : ma_sz sh + k.toNatClampNeg ≤ R.slots + z0 := hr2
      dsimp only at hc hz
      exact mw_newZ hx hb hts hK had hH hS h1 h2 hn (by omega) (by omega) hd (fun H1 g1 g2 => kk _ _ _ _ _ hL g1 g2 (by show _ = (sh ++ _).length; rw [List.length_append, List.length_singleton]; omega) (by show _ = ma_sz (sh ++ _); rw [ma_sz_push]; show _ = ma_sz sh + k.toNatClampNeg; omega))
    all_goals exact nomatch (show (none : Option ma_O) = some (.inl c') from h)
  case anewarray idx =>
    have hn : n = 3 := eq_of_beq (show (n == 3) = true from hl)
    subst hn
    obtain ⟨k, r, rfl, hf, h1, h2, hn, rfl⟩ := ma_newq_inv h
    have hr1 : (sh ++ [(Sum.inr (Sum.inr (List.replicate k.toNatClampNeg none)) : ma_Sh)]).length ≤ R.cells + n0 := hr1
    have hr2 : ma_sz (sh ++ [(Sum.inr (Sum.inr (List.replicate k.toNatClampNeg none)) : ma_Sh)]) ≤ R.slots + z0 := hr2
    rw [List.length_append, List.length_singleton] at hr1
    rw [ma_sz_push] at hr2
    have hr2 : ma_sz sh + (List.replicate k.toNatClampNeg (none : Option Nat)).length ≤ R.slots + z0 := hr2
    dsimp only at hc hz
    rw [List.length_replicate] at hr2
    exact mw_newQ hx hb hts hown hK hX.2.2.2.2.2.2.1 had hH hS hf h1 h2 hn (by omega) (by omega) hd (fun H1 g1 g2 => kk _ _ _ _ _ hL g1 g2 (by show _ = (sh ++ _).length; rw [List.length_append, List.length_singleton]; omega) (by show _ = ma_sz (sh ++ _); rw [ma_sz_push]; show _ = ma_sz sh + (List.replicate k.toNatClampNeg (none : Option Nat)).length; rw [List.length_replicate]; omega))
  case invokestatic idx =>
    have hn : n = 3 := eq_of_beq (show (n == 3) = true from hl)
    subst hn
    obtain ⟨b, x, y, r, hbt, rfl, hcs, hh⟩ := ma_invS_inv h
    have hcr := ma_cs_map ad r
    rcases hh with ⟨rfl, rfl⟩ | ⟨rfl, rfl⟩
    · exact va_mmax hx hb (by rw [hml, hLs]) hown (hts _ (ma_inB (ma_bt_ok _ (ma_lk_mem hbt)) rfl)) (hts _ (ma_inB ma_b_max.1 rfl)) (hts _ (ma_inB ma_b_max.2.1 rfl)) (hts _ (ma_inB ma_b_max.2.2 rfl)) (by omega) (by show (List.map _ (List.map _ r)).sum + 13 ≤ _; omega) (by dsimp only at hc hr1; omega) (by dsimp only at hz hr2; omega) hd (kk _ _ _ _ _ hL hH hS hc hz)
    · exact va_mmin hx hb (by rw [hml, hLs]) hown (hts _ (ma_inB (ma_bt_ok _ (ma_lk_mem hbt)) rfl)) (hts _ (ma_inB ma_b_min.1 rfl)) (hts _ (ma_inB ma_b_min.2.1 rfl)) (hts _ (ma_inB ma_b_min.2.2 rfl)) (by omega) (by show (List.map _ (List.map _ r)).sum + 13 ≤ _; omega) (by dsimp only at hc hr1; omega) (by dsimp only at hz hr2; omega) hd (kk _ _ _ _ _ hL hH hS hc hz)
  case invokespecial idx =>
    have hn : n = 3 := eq_of_beq (show (n == 3) = true from hl)
    subst hn
    obtain ⟨a, r, hbt, rfl, hcs, rfl⟩ := ma_invI_inv h
    have hcr := ma_cs_map ad r
    refine W.objInit hx hb hown (hts _ (ma_inB (ma_bt_ok _ (ma_lk_mem hbt)) rfl)) (hts _ (ma_inB ma_b_obj.1 rfl)) (hts _ (ma_inB ma_b_obj.2 rfl)) rfl (by rw [hml]; exact hLs) rfl hd (by omega) ?_ ?_
    · show 2 * 0 + (List.map _ (List.map _ r)).sum + 12 ≤ _
      omega
    · exact kk ls H locs cells slots hL hH hS hc hz
  case invokevirtual idx =>
    have hn : n = 3 := eq_of_beq (show (n == 3) = true from hl)
    subst hn
    obtain ⟨a, ha, hh⟩ := ma_invV_inv h
    obtain ⟨k, hk7, rfl⟩ : ∃ k, k < 7 ∧ a = 1000000 + k := ⟨a - 1000000, by omega, by omega⟩
    rw [show 1000000 + k - 1000000 = k by omega] at hh
    have hXH := hX.kept (fun a ha hn => hS.2.1 a ha hn)
    obtain ⟨⟨cellO, ho1, ho2, ho3, -⟩, -⟩ := hXH.2.1 k hk7
    rcases hh with ⟨r, hbt, rfl, hcs, rfl⟩ | ⟨r, i, hbt, rfl, hcs, hi, rfl⟩
    · have hcr := ma_cs_map ad r
      exact W.callV (W.runV (As := []) (rest := r.map (ma_vt ad)) ⟨hx, hb, hml, hown, hts⟩ (mj_length l (ro := ro) (ad := ad) (adV := adV) (h0 := h0) hk7) (cwV 0 hts (mj_gi' (mj_subV (ma_bt_ok _ (ma_lk_mem hbt)) (in_2 _ (List.mem_of_getElem? (i := 71) rfl)) (in_2 _ (List.mem_of_getElem? (i := 72) rfl)) mj_i_string mj_c_length)) rfl rfl rfl (by decide +kernel) ⟨by show 1 + 1 ≤ _; omega, by show 8 + (1 + 11) + 20 ≤ _; omega⟩) ⟨fun a U g mk q => ⟨q.1, q.2.same rfl⟩, ⟨cellO, ho1, ho2, ho3⟩, fun U hU hW => ⟨rfl, by show ma_X ro ad adV h0 U U.heap; rw [hU]; exact hXH.warm hW⟩⟩ rfl rfl hLs rfl (lv_room (by rw [hcr]; exact hcs)) hd ⟨by dsimp only at hc hr1; omega, by dsimp only at hz hr2; omega⟩) (kk _ _ _ _ _ hL hH hS hc hz)
    · have hcr := ma_cs_map ad r
      exact W.callV (W.runV (As := [.int i]) (rest := r.map (ma_vt ad)) ⟨hx, hb, hml, hown, hts⟩ (mj_charAt l (ro := ro) (ad := ad) (adV := adV) (h0 := h0) hk7 (ma_ix_in hi)) (cwV 1 hts (mj_gi' (mj_subV (ma_bt_ok _ (ma_lk_mem hbt)) (in_2 _ (List.mem_of_getElem? (i := 81) rfl)) (in_2 _ (List.mem_of_getElem? (i := 82) rfl)) mj_i_string mj_c_charAt)) rfl rfl rfl (by decide +kernel) ⟨by show 3 + 1 ≤ _; omega, by show 8 + (2 + 11) + 64 ≤ _; omega⟩) ⟨fun a U g mk q => ⟨q.1, q.2.same rfl⟩, ⟨cellO, ho1, ho2, ho3⟩, fun U hU hW => ⟨rfl, by show ma_X ro ad adV h0 U U.heap; rw [hU]; exact hXH.warm hW⟩⟩ rfl rfl hLs rfl (lv_room (by rw [hcr]; exact hcs)) hd ⟨by dsimp only at hc hr1; omega, by dsimp only at hz hr2; omega⟩) (kk _ _ _ _ _ hL hH hS hc hz)
  case ireturn =>
    exfalso
    have h : ma_iret mid st = some (.inl c') := h
    unfold ma_iret at h
    split at h
    · split at h
      · split at h <;> cases h
      · cases h
    · cases h
  case lreturn =>
    exfalso
    have h : ma_lret mid st = some (.inl c') := h
    unfold ma_lret at h
    split at h
    · split at h <;> cases h
    · cases h
  case areturn =>
    exfalso
    have h : ma_aret mid st = some (.inl c') := h
    unfold ma_aret at h
    split at h
    · split at h <;> cases h
    · cases h
  case return_ =>
    exfalso
    have h : ma_vret mid st = some (.inl c') := h
    unfold ma_vret at h
    split at h
    · split at h <;> cases h
    · cases h
  all_goals exact nomatch (show (none : Option ma_O) = some (.inl c') from h)
end STEP

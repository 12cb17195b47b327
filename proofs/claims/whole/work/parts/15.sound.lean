/-! THE SMALL MACHINE'S RUNS ARE THE REAL ONE'S: a run that ends gives the method's contract. -/
theorem ma_step_inv {ro : ma_RO} {mid : Nat} {c0 : ma_C} {r : ma_O} (h : ma_step ro mid c0 = some r) : ∃ i k, decode (ma_cd mid) c0.1 = .ok (i, k) ∧ ma_lenOk i k = true ∧ ma_ex ro mid i c0.1 c0.2.1 c0.2.2.1 c0.2.2.2.1 c0.2.2.2.2 = some r := by
  unfold ma_step at h
  split at h
  · rename_i i k hd
    split at h
    · rename_i hl
      exact ⟨i, k, hd, hl, h⟩
    · cases h
  · cases h
theorem ma_tabX_len : ma_tabX.length = 178 := by decide +kernel
theorem ma_mid {k : Nat} (h : k < 178) : Cond.code (ma_y k) (ma_cd k) (ma_mx k) (ma_rt k) ∈ lw_tbl ∧ Cond.initialized (ma_y k).cls ∈ lw_tbl ∧ (ma_y k).cls = ma_rx (ma_own k) ∧ ma_own k < 9 ∧ ((ma_y k).cls ≠ "java/lang/invoke/MethodHandle" ∧ (ma_y k).cls ≠ "java/lang/invoke/VarHandle") ∧ (parseMethodDescriptor (ma_y k).desc).map (fun d => d.parameters.length) = some (ma_np k) ∧ plainName (ma_y k).cls = true ∧ ma_mx k ≤ 60 ∧
    ((ma_kd k = 0 ∧ Cond.instanceMethod (ma_y k) ∈ lw_tbl ∧ Cond.selects (ma_y k).cls (ma_y k) (ma_y k) ∈ lw_tbl) ∨ (ma_kd k = 1 ∧ Cond.static (ma_y k) ∈ lw_tbl) ∨ (ma_kd k = 2 ∧ Cond.instanceMethod (ma_y k) ∈ lw_tbl ∧ (ma_y k).name = "<init>" ∧ ma_rt k = none)) := by
  have hk : k < ma_tabX.length := by rw [ma_tabX_len]; exact h
  have hr : ma_tab[k]? = some ma_tabX[k] := by
    unfold ma_tab
    rw [List.getElem?_append_left hk, List.getElem?_eq_getElem hk]
  have hm := ma_tabX_ok ma_tabX[k] (List.getElem_mem hk)
  generalize ma_tabX[k] = r at hr hm
  unfold ma_y ma_cd ma_mx ma_rt ma_np ma_kd ma_own
  rw [hr]
  exact hm
theorem ma_lay_len (ad : Nat → Nat) (as : List Value) : (lg_sl (as.map (ma_vt ad))).length = (ma_lay as).length := by
  induction as with
  | nil => rfl
  | cons v as ih =>
    simp only [List.map_cons, lg_sl, List.flatMap_cons, List.length_append, ma_lay]
    have ih : (List.flatMap (fun v => if v.category = 2 then [Slot.val v, .second] else [.val v]) (as.map (ma_vt ad))).length = (ma_lay as).length := ih
    rw [ih, ma_vt_cat]
    split
    · simp; omega
    · simp; omega
theorem ma_lay_at (ad : Nat → Nat) : ∀ (as : List Value) (j i : Nat) (v : Value), (ma_lay as)[i]? = some (some v) → (i + j, ma_vt ad v) ∈ lv_args j (as.map (ma_vt ad)) := by
  intro as
  induction as with
  | nil => intro j i v h; simp [ma_lay] at h
  | cons w as ih =>
    intro j i v h
    simp only [List.map_cons, lv_args, ma_vt_cat]
    by_cases hc : w.category = 2
    · simp only [ma_lay, if_pos hc] at h
      rw [if_pos hc]
      match i, h with
      | 0, h =>
        simp at h
        subst h
        rw [Nat.zero_add]
        exact List.mem_cons_self
      | 1, h => simp at h
      | i + 2, h =>
        have h : (ma_lay as)[i]? = some (some v) := by simpa using h
        have := ih (j + 2) i v h
        rw [show i + 2 + j = i + (j + 2) by omega]
        exact List.mem_cons_of_mem _ this
    · simp only [ma_lay, if_neg hc] at h
      rw [if_neg hc]
      match i, h with
      | 0, h =>
        simp at h
        subst h
        rw [Nat.zero_add]
        exact List.mem_cons_self
      | i + 1, h =>
        have h : (ma_lay as)[i]? = some (some v) := by simpa using h
        have := ih (j + 1) i v h
        rw [show i + 1 + j = i + (j + 1) by omega]
        exact List.mem_cons_of_mem _ this
theorem ma_entry {ad : Nat → Nat} {mid : Nat} {as : List Value} (h : (ma_lay as).length ≤ ma_mx mid) : ma_lr ad ((lg_sl (as.map (ma_vt ad)) ++ List.replicate (ma_mx mid - (lg_sl (as.map (ma_vt ad))).length) Slot.unset).toArray) (ma_mx mid) (ma_ent mid as) := by
  have h1 := lv_entry (as.map (ma_vt ad)) (n := ma_mx mid) (by rw [ma_lay_len]; exact h)
  refine ⟨⟨h1.1, h1.2.1, fun q hq => ?_⟩, by unfold ma_ent; rw [List.length_append, List.length_replicate]; omega⟩
  obtain ⟨i, w⟩ := q
  obtain ⟨v, hv, rfl⟩ := ma_ll_mem.mp hq
  refine h1.2.2 (i, ma_vt ad v) ?_
  unfold ma_ent at hv
  by_cases hi : i < (ma_lay as).length
  · rw [List.getElem?_append_left hi] at hv
    exact ma_lay_at ad as 0 i v hv
  · rw [List.getElem?_append_right (by omega), List.getElem?_replicate] at hv
    split at hv <;> cases hv
def ma_ws (mid : Nat) : List Cond := mj_ws (ma_y mid) (ma_cd mid) (ma_mx mid) (ma_rt mid)
def ma_rm (d mc ms : Nat) : Room := { frames := d + 5, cells := mc, slots := ms, locals := 100 * d + 500 }
theorem ma_rm_f (d mc ms : Nat) : (ma_rm d mc ms).frames = d + 5 := rfl
theorem ma_rm_l (d mc ms : Nat) : (ma_rm d mc ms).locals = 100 * d + 500 := rfl
def ma_Pc (ro : ma_RO) (ad adV : Nat → Nat) (h0 : Nat) (D : va_G) (cI cZ cQ : ClassId) (as : List Value) (sh : List ma_Sh) (σ : ma_H) : Array Value → State → Prop := va_Pc (as.map (ma_vt ad)) (fun U => ma_hp D cI cZ cQ ad h0 sh σ U.heap ∧ ma_K D cI cZ cQ U ∧ ma_X ro ad adV h0 U U.heap)
def ma_Qc (ad : Nat → Nat) (h0 : Nat) (D : va_G) (cI cZ cQ : ClassId) (v : Option Value) (sh : List ma_Sh) (σ : ma_H) : Array Value → State → Outcome → State → Prop := fun _ st o t => (o = .returned (v.map (ma_vt ad)) ∧ ma_hp D cI cZ cQ ad h0 sh σ t.heap) ∧ va_F (fun q => h0 ≤ q) st t
theorem ma_ri_len {mid : Nat} {i : Instr} {v : Option Value} {k : Nat} (h : ma_ri mid i v) (hl : ma_lenOk i k = true) : k = 1 := by
  have hi : i = .return_ ∨ i = .ireturn ∨ i = .lreturn ∨ i = .areturn := by
    unfold ma_ri at h
    split at h
    · exact Or.inl h.1
    · exact Or.inr (Or.inl h.1)
    · exact Or.inr (Or.inr (Or.inl h.1))
    · exact Or.inr (Or.inr (Or.inr h.1))
  rcases hi with rfl | rfl | rfl | rfl <;> exact eq_of_beq (show (k == 1) = true from hl)
theorem ma_fitI_nar {ty : FieldType} {x : Int32} (h : ma_fitI ty x = true) : narrow ty (.int x) = .int x := by
  unfold ma_fitI at h
  split at h
  · rfl
  · rcases Bool.or_eq_true_iff.mp h with z | z
    · rw [of_decide_eq_true z]; rfl
    · rw [of_decide_eq_true z]; rfl
  · cases h
section SOUND
variable {ro : ma_RO} {ad adV : Nat → Nat} {h0 : Nat} {D : va_G} {cI cZ cQ : ClassId} {p : Program} {l : Launch} {e : Env} {R : Room} {s : State} {m : MethodId} {args : Array Value} {below : List Frame} {meth : Method} {c : Code} {H : Heap} {locs : List Loc} {cells slots : Nat} {Q : State → Prop} {n0 z0 mid pc n : Nat} {L : ma_L} {st : List Value} {sh sh1 : List ma_Sh} {σ σ1 : ma_H}
theorem mw_call {mc ms : Nat} {ls : Array Slot} {st0 rest : List Value} {v1 : Option Value} {a : Array Value} (hr : va_Run p l e R s m args below meth c H locs cells slots mc ms (F0 m pc ls st0) rest (ma_Qc ad h0 D cI cZ cQ v1 sh1 σ1 a) (fun q => h0 ≤ q)) (hS : va_S (fun q => h0 ≤ q) s.heap H locs)
    (kk : ∀ (H1 : Heap) (locs1 : List Loc), ma_hp D cI cZ cQ ad h0 sh1 σ1 H1 → va_S (fun q => h0 ≤ q) s.heap H1 locs1 → W p l e R s m args below meth c H1 locs1 (cells + mc) (slots + ms) Q (F0 m (pc + 3) (ls) ((v1.map (ma_vt ad)).toList ++ rest))) : W p l e R s m args below meth c H locs cells slots Q (F0 m (pc) (ls) (st0)) := by
  intro T hT X
  obtain ⟨v, st₀, t, T', L, h0', X', hL, e1, e2, ⟨⟨hv, hb⟩, hz, hk⟩, st⟩ := hr T hT X
  cases hv
  rw [h0'] at hz hk
  obtain ⟨t2, a1, b1⟩ := kk T'.heap (locs ++ L) (by rw [e1]; exact hb)
    ⟨Nat.le_trans hS.1 (by rw [e1]; exact hz), fun q h1 h2 => by rw [e1, hk q (Nat.lt_of_lt_of_le h1 hS.1) h2]; exact hS.2.1 q h1 h2, fun q hq => by
      rcases List.mem_append.mp hq with h | h
      · exact hS.2.2 q h
      · exact hL q h⟩ T' rfl X'
  exact ⟨t2, st t2 a1, b1⟩
/-- a method's own end, in its contract -/
theorem mw_ret {Qm : Array Value → State → Outcome → State → Prop} {i : Instr} {ls : Array Slot} {v : Option Value} (hx : p.tables.exec = Jvm.exec) (hb : c.code = ma_cd mid) (hr : meth.sig.returnType = ma_rt mid) (hlocks : meth.locks = false) (hd : decode (ma_cd mid) pc = .ok (i, 1)) (hi : ma_ri mid i v)
    (hq : ∀ t : State, t.heap = H → s.WarmedH t.vm → Qm args s (.returned (v.map (ma_vt ad))) t) (hf : ∀ q ∈ locs, h0 ≤ q.base) :
    W p l e R s m args below meth c H locs cells slots (MQ below Qm args s cells slots (fun q => h0 ≤ q)) (F0 m pc ls (v.toList.map (ma_vt ad))) := by
  cases v with
  | none =>
    obtain ⟨rfl, ht⟩ := hi
    exact W.vret hx hb (hr.trans ht) hq hf hd
  | some w =>
    cases w with
    | int x =>
      obtain ⟨rfl, ty, ht, hfi⟩ := hi
      exact W.zret hx hb (hr.trans ht) (ma_fitI_nar hfi) hq hf hd
    | long x =>
      obtain ⟨rfl, ht⟩ := hi
      exact W.lret hx hb (hr.trans ht) hq hf hd
    | null =>
      obtain ⟨rfl, _, ht⟩ := hi
      exact W.aret (rt := .object RX1) hx hb (hr.trans ht) (Or.inl ⟨_, rfl⟩) (Or.inl rfl) hq hf hd
    | ref a =>
      obtain ⟨rfl, _, ht⟩ := hi
      exact W.aret (rt := .object RX1) hx hb (hr.trans ht) (Or.inl ⟨_, rfl⟩) (Or.inr ⟨_, rfl⟩) hq hf hd
    | float b => obtain ⟨_, h, _⟩ := hi; cases h
    | double b => obtain ⟨_, h, _⟩ := hi; cases h
    | retAddr b => obtain ⟨_, h, _⟩ := hi; cases h
/-- what a run says of the frame that it stands in -/
def ma_So (ro : ma_RO) (d mid : Nat) (c0 : ma_C) (v : Option Value) (sh' : List ma_Sh) (σ' : ma_H) : Prop :=
  ∀ {ad adV : Nat → Nat} {h0 : Nat} {D : va_G} {cI cZ cQ : ClassId} {p : Program} {l : Launch} {e : Env} {R : Room} {s : State} {m : MethodId} {args : Array Value} {below : List Frame} {meth : Method} {c : Code} {Q : State → Prop} {n0 z0 : Nat},
    ma_F ro ad adV h0 D cI cZ cQ p R s m args meth c mid → d + 5 ≤ R.frames → 100 * d + 500 ≤ R.locals → sh'.length ≤ R.cells + n0 → ma_sz sh' ≤ R.slots + z0 →
    (∀ (pc : Nat) (i : Instr) (ls : Array Slot) (H : Heap) (locs : List Loc) (cells slots : Nat), decode (ma_cd mid) pc = .ok (i, 1) → ma_ri mid i v → ma_hp D cI cZ cQ ad h0 sh' σ' H → va_S (fun q => h0 ≤ q) s.heap H locs → cells + n0 = sh'.length → slots + z0 = ma_sz sh' → W p l e R s m args below meth c H locs cells slots Q (F0 m (pc) (ls) (v.toList.map (ma_vt ad)))) →
    ma_W ad h0 D cI cZ cQ p l e R s m args below meth c Q (ma_mx mid) n0 z0 c0
set_option maxHeartbeats 1000000 in
theorem ma_met (l : Launch) {d k : Nat} {as : List Value} {v : Option Value} {sh' : List ma_Sh} {σ' : ma_H} (hk : k < 178) (hlay : (ma_lay as).length ≤ ma_mx k) (hg1 : sh.length ≤ sh'.length) (hg2 : ma_sz sh ≤ ma_sz sh') (hW : ma_So ro d k (0, ma_ent k as, [], sh, σ) v sh' σ') (had : ∀ i, i < 1000000 → ad i = h0 + i) :
    Met l (ma_y k) (ma_ws k) (ma_rm d (sh'.length - sh.length) (ma_sz sh' - ma_sz sh)) (ma_Pc ro ad adV h0 D cI cZ cQ as sh σ) (ma_Qc ad h0 D cI cZ cQ v sh' σ') (sh'.length - sh.length) (ma_sz sh' - ma_sz sh) (fun q => h0 ≤ q) := by
  obtain ⟨hcode, hini, hcls, hown9, hnm, hpd, hplain, hmx, hkd⟩ := ma_mid hk
  refine Met.ofW (cc := ma_cd k) (maxL := ma_mx k) (ret := ma_rt k) hplain rfl ?_
  intro p e s m args below meth c s₁ B hml hv
  obtain ⟨rfl, hH, hK, hX⟩ := hv
  have hx := B.exec
  have hb := B.bytes
  have hr := B.returns
  have hts0 := atoms_spec (ws := ma_ws k) B.pre
  have hts : ∀ w ∈ ma_B, w.before (as.map (ma_vt ad)).toArray s = true := fun w hw => hts0 w (List.mem_cons_of_mem _ hw)
  have hown : s.vm.findClass (ma_rx (ma_own k)) = some m.cls := by rw [← hcls]; exact findClass_of_methodNamed B.named
  have hlocks := B.notSynchronized
  have hin : ma_kd k = 2 → meth.name = "<init>" := by
    intro h2
    rcases hkd with h | h | h
    · omega
    · omega
    · rw [← h.2.2.1]; exact (name_of_methodNamed B.named B.method).1
  rw [lg_entry_eq]
  refine hW (n0 := sh.length) (z0 := ma_sz sh) ⟨hx, hb, hml, hown, hts, hK, hX, had, by rw [hH.1]; exact Nat.le_add_right _ _, hin, by show 5 ≤ d + 5; omega, by show 500 ≤ 100 * d + 500; omega⟩ (Nat.le_refl _) (Nat.le_refl _) (by show _ ≤ (sh'.length - sh.length) + sh.length; omega) (by show _ ≤ (ma_sz sh' - ma_sz sh) + ma_sz sh; omega) ?_ _ _ [] 0 0 (ma_entry hlay) hH va_S.rf (Nat.zero_add _) (Nat.zero_add _)
  intro pc i ls H locs cells slots hd hi hH1 hS1 hc1 hz1
  obtain rfl : cells = sh'.length - sh.length := by omega
  obtain rfl : slots = ma_sz sh' - ma_sz sh := by omega
  exact mw_ret hx hb hr hlocks hd hi (fun t ht _ => ⟨⟨rfl, by rw [ht]; exact hH1⟩, hS1.F ht⟩) hS1.2.2
theorem ma_recv (hK : ma_K D cI cZ cQ s) (hH : ma_hp D cI cZ cQ ad h0 sh σ H) {o ci : Nat} {fs : List (Option (Option Nat))} (ho : sh[o]? = some (.inl (ci, fs))) : ∃ cellB : Cell, H[ad o]? = some cellB ∧ cellB.vm.isStatics = false ∧ s.vm.findClass (ma_rx ci) = some cellB.cls := by
  obtain ⟨h9, -, cell, q1, q2, q3, -⟩ := hH.2.2 o _ ho
  exact ⟨cell, q1, by rw [q3]; rfl, by rw [q2]; exact (hK.1 ci h9).2.1⟩
set_option maxHeartbeats 1000000 in
set_option maxRecDepth 100000 in
theorem ms_call {d m' : Nat} {i : Instr} {as rest : List Value} {v1 : Option Value} (hF : ma_F ro ad adV h0 D cI cZ cQ p R s m args meth c mid) (hRf : d + 1 + 5 ≤ R.frames) (hRl : 100 * (d + 1) + 500 ≤ R.locals) (hd : decode (ma_cd mid) pc = .ok (i, n)) (hl : ma_lenOk i n = true) (hcl : ma_calls mid i st sh m' as rest)
    (hg1 : sh.length ≤ sh1.length) (hg2 : ma_sz sh ≤ ma_sz sh1) (hW : ma_So ro d m' (0, ma_ent m' as, [], sh, σ) v1 sh1 σ1) (hr1 : sh1.length ≤ R.cells + n0) (hr2 : ma_sz sh1 ≤ R.slots + z0)
    (kk : ma_W ad h0 D cI cZ cQ p l e R s m args below meth c Q (ma_mx mid) n0 z0 (pc + 3, L, v1.toList ++ rest, sh1, σ1)) : ma_W ad h0 D cI cZ cQ p l e R s m args below meth c Q (ma_mx mid) n0 z0 (pc, L, st, sh, σ) := by
  intro ls H locs cells slots hL hH hS hc hz
  obtain ⟨hx, hb, hml, hown, hts, hK, hX, had, hA0, hini, -, -⟩ := hF
  obtain ⟨idx, nest, hct, hlay, hcs, hkind⟩ := hcl
  obtain ⟨hk, hlink⟩ := ma_ct_ok _ (ma_lk_mem hct)
  have hk : m' < 178 := hk
  have hnl : nest = true → va_Nw (.methodLinkNest (ma_rx (ma_own mid)) idx (ma_y m') "DidITurnItOff") s := fun h => hX.2.2.2.2.2.2.2 (ma_own mid, idx, m', nest) (ma_lk_mem hct) h
  obtain ⟨hcode, hinit, hcls, hown9, hnm, hpd, hplain, hmx, hkd⟩ := ma_mid hk
  have hM := ma_met (ro := ro) (ad := ad) (adV := adV) (h0 := h0) (D := D) (cI := cI) (cZ := cZ) (cQ := cQ) l hk hlay hg1 hg2 hW had
  have hXH := hX.kept (fun a ha hn => hS.2.1 a ha hn)
  have hLs : ls.size = ma_mx mid := hL.1.1
  have hcr := ma_cs_map ad rest
  have hfr := ma_rm_f d (sh1.length - sh.length) (ma_sz sh1 - ma_sz sh)
  have hlo := ma_rm_l d (sh1.length - sh.length) (ma_sz sh1 - ma_sz sh)
  have hRR : (ma_rm d (sh1.length - sh.length) (ma_sz sh1 - ma_sz sh)).frames + 1 ≤ R.frames ∧ 8 + (ma_mx m' + 11) + (ma_rm d (sh1.length - sh.length) (ma_sz sh1 - ma_sz sh)).locals ≤ R.locals := by
    generalize (ma_rm d (sh1.length - sh.length) (ma_sz sh1 - ma_sz sh)).frames = x1 at hfr ⊢
    generalize (ma_rm d (sh1.length - sh.length) (ma_sz sh1 - ma_sz sh)).locals = x2 at hlo ⊢
    subst hfr
    subst hlo
    exact ⟨by omega, by omega⟩
  have hf : cells + (sh1.length - sh.length) ≤ R.cells ∧ slots + (ma_sz sh1 - ma_sz sh) ≤ R.slots := by dsimp only at hc hz; constructor <;> omega
  have hblind : FrameBlind (ma_Pc ro ad adV h0 D cI cZ cQ as sh σ) := fun a U g mk q => ⟨q.1, q.2.1, ma_K.moved (Vm.Alike.refl U.vm) q.2.2.1, q.2.2.2.same rfl⟩
  have hpre : ∀ U : State, U.heap = H → s.WarmedH U.vm → ma_Pc ro ad adV h0 D cI cZ cQ as sh σ (as.map (ma_vt ad)).toArray U := fun U hU hW => ⟨rfl, by rw [hU]; exact hH, ma_K.moved hW.alike hK, by
    show ma_X ro ad adV h0 U U.heap
    rw [hU]; exact hXH.warm hW⟩
  have hk2 : ∀ (H1 : Heap) (locs1 : List Loc), ma_hp D cI cZ cQ ad h0 sh1 σ1 H1 → va_S (fun q => h0 ≤ q) s.heap H1 locs1 → W p l e R s m args below meth c H1 locs1 (cells + (sh1.length - sh.length)) (slots + (ma_sz sh1 - ma_sz sh)) Q (F0 m (pc + 3) (ls) ((v1.map (ma_vt ad)).toList ++ rest.map (ma_vt ad))) := by
    intro H1 locs1 hH1 hS1
    have := kk ls H1 locs1 (cells + (sh1.length - sh.length)) (slots + (ma_sz sh1 - ma_sz sh)) hL hH1 hS1 (by dsimp only at hc ⊢; omega) (by dsimp only at hz ⊢; omega)
    have e1 : (v1.toList ++ rest).map (ma_vt ad) = (v1.map (ma_vt ad)).toList ++ rest.map (ma_vt ad) := by
      rw [List.map_append]
      cases v1 <;> rfl
    rw [← e1]
    exact this
  have hhd : (ma_y m').cls = ma_rx (ma_own m') ∧ (ma_y m').cls ≠ "java/lang/invoke/MethodHandle" ∧ (ma_y m').cls ≠ "java/lang/invoke/VarHandle" ∧ (parseMethodDescriptor (ma_y m').desc).map (fun d => d.parameters.length) = some (ma_np m') := ⟨hcls, hnm.1, hnm.2, hpd⟩
  rcases hkind with ⟨rfl, hkd1, rfl, hnp⟩ | ⟨o, fs, bs, rfl, ho, rfl, hnp, hki⟩
  · have hst : Cond.static (ma_y m') ∈ lw_tbl := by
      rcases hkd with h | h | h
      · omega
      · exact h.2
      · omega
    have h3 : n = 3 := eq_of_beq (show (n == 3) = true from hl)
    subst h3
    have estk : (as.reverse ++ rest).map (ma_vt ad) = (as.map (ma_vt ad)).reverse ++ rest.map (ma_vt ad) := by rw [List.map_append, List.map_reverse]
    dsimp only
    rw [estk]
    cases nest with
    | false =>
      exact mw_call (va_runS (As := as.map (ma_vt ad)) (rest := rest.map (ma_vt ad)) ⟨hx, hb, hml, hown, hts⟩ hM (va_cwS (ma_np m') hts (mj_gi' (mj_subS hlink hst hinit hcode)) rfl rfl rfl hhd.2 hRR) ⟨hblind, hpre⟩ rfl (by rw [List.length_map]; exact hnp) hLs rfl (lv_room (by rw [hcr]; exact hcs)) hd hf) hS hk2
    | true =>
      exact mw_call (va_runSN (As := as.map (ma_vt ad)) (rest := rest.map (ma_vt ad)) ⟨hx, hb, hml, hown, hts⟩ hM ⟨va_cnB (ma_np m') hts (mj_gi' (mj_sub hcode)) rfl rfl rfl (hnl rfl) (hts _ (ma_inB hinit rfl)) hhd.2 hRR, hts _ (ma_inB hst rfl), trivial⟩ ⟨hblind, hpre⟩ rfl (by rw [List.length_map]; exact hnp) hLs rfl (lv_room (by rw [hcr]; exact hcs)) hd hf) hS hk2
  · have estk : (bs.reverse ++ Value.ref o :: rest).map (ma_vt ad) = (bs.map (ma_vt ad)).reverse ++ .ref (ad o) :: rest.map (ma_vt ad) := by rw [List.map_append, List.map_reverse]; rfl
    dsimp only
    rw [estk]
    have hrecv := ma_recv hK hH ho
    rcases hki with ⟨rfl, hk0⟩ | ⟨rfl, hk2'⟩
    · have hst : Cond.instanceMethod (ma_y m') ∈ lw_tbl ∧ Cond.selects (ma_y m').cls (ma_y m') (ma_y m') ∈ lw_tbl := by
        rcases hkd with h | h | h
        · exact h.2
        · omega
        · omega
      have h3 : n = 3 := eq_of_beq (show (n == 3) = true from hl)
      subst h3
      have hsel : Cond.selects (ma_rx (ma_own m')) (ma_y m') (ma_y m') ∈ lw_tbl := by rw [← hcls]; exact hst.2
      have hin2 : Cond.initialized (ma_rx (ma_own m')) ∈ lw_tbl := by rw [← hcls]; exact hinit
      cases nest with
      | false =>
        exact mw_call (va_runV (As := bs.map (ma_vt ad)) (rest := rest.map (ma_vt ad)) ⟨hx, hb, hml, hown, hts⟩ hM (cwV (ma_np m') hts (mj_gi' (mj_subV hlink hst.1 hsel hin2 hcode)) rfl rfl rfl hhd hRR) ⟨hblind, hrecv, hpre⟩ rfl (by rw [List.length_map]; exact hnp) hLs rfl (lv_room (by rw [hcr]; exact hcs)) hd hf) hS hk2
      | true =>
        exact mw_call (va_runVN (C := ma_rx (ma_own m')) (As := bs.map (ma_vt ad)) (rest := rest.map (ma_vt ad)) ⟨hx, hb, hml, hown, hts⟩ hM ⟨va_cnB (ma_np m') hts (mj_gi' (mj_sub hcode)) rfl rfl rfl (hnl rfl) (hts _ (ma_inB hinit rfl)) hhd.2 hRR, hts _ (ma_inB hst.1 rfl), hts _ (ma_inB hsel rfl)⟩ ⟨hblind, hrecv, hpre⟩ rfl (by rw [List.length_map]; exact hnp) hLs rfl (lv_room (by rw [hcr]; exact hcs)) hd hf) hS hk2
    · have hst : Cond.instanceMethod (ma_y m') ∈ lw_tbl ∧ (ma_y m').name = "<init>" ∧ ma_rt m' = none := by
        rcases hkd with h | h | h
        · omega
        · omega
        · exact h.2
      have h3 : n = 3 := eq_of_beq (show (n == 3) = true from hl)
      subst h3
      have hws : ma_ws m' = Cond.code (ma_y m') (ma_cd m') (ma_mx m') none :: ma_B := by unfold ma_ws mj_ws; rw [hst.2.2]
      cases nest with
      | false =>
        exact mw_call (va_runI (As := bs.map (ma_vt ad)) (rest := rest.map (ma_vt ad)) ⟨hx, hb, hml, hown, hts⟩ hM (cwI (ma_np m') hts (mj_gi' (mj_sub hcode)) hws rfl rfl (hts _ (ma_inB hinit rfl)) (hts _ (ma_inB hlink rfl)) (hts _ (ma_inB hst.1 rfl)) hst.2.1 hhd.2 hRR) ⟨hblind, hpre⟩ rfl (by rw [List.length_map]; exact hnp) hLs rfl (lv_room (by rw [hcr]; exact hcs)) hd hf) hS hk2
      | true =>
        exact mw_call (va_runIN (As := bs.map (ma_vt ad)) (rest := rest.map (ma_vt ad)) ⟨hx, hb, hml, hown, hts⟩ hM ⟨va_cnB (ma_np m') hts (mj_gi' (mj_sub hcode)) hws rfl rfl (hnl rfl) (hts _ (ma_inB hinit rfl)) hhd.2 hRR, hst.2.1, hts _ (ma_inB hst.1 rfl)⟩ ⟨hblind, hpre⟩ rfl (by rw [List.length_map]; exact hnp) hLs rfl (lv_room (by rw [hcr]; exact hcs)) hd hf) hS hk2
end SOUND
/-- SOUNDNESS -/
theorem ms_main {ro : ma_RO} : ∀ (n d mid : Nat) (c0 : ma_C) (v : Option Value) (sh' : List ma_Sh) (σ' : ma_H), ma_run ro n d mid c0 = some (v, sh', σ') → (c0.2.2.2.1.length ≤ sh'.length ∧ ma_sz c0.2.2.2.1 ≤ ma_sz sh') ∧ ma_So ro d mid c0 v sh' σ' := by
  intro n
  induction n with
  | zero => intro d mid c0 v sh' σ' h; simp [ma_run] at h
  | succ n ih =>
    intro d mid c0 v sh' σ' h
    rw [ma_run] at h
    cases hs : ma_step ro mid c0 with
    | none => rw [hs] at h; cases h
    | some r =>
      rw [hs] at h
      obtain ⟨i, k, hd, hl, hex⟩ := ma_step_inv hs
      rcases ma_ex_all hex with ⟨c', rfl, g1, g2⟩ | ⟨m', as, rest, rfl, hcl⟩ | ⟨v', rfl, hst, hi⟩
      · obtain ⟨⟨i1, i2⟩, ihW⟩ := ih _ _ _ _ _ _ h
        refine ⟨⟨Nat.le_trans g1 i1, Nat.le_trans g2 i2⟩, ?_⟩
        intro ad adV h0 D cI cZ cQ p l e R s m args below meth c Q n0 z0 hF hRf hRl hr1 hr2 fin
        exact ms_next hF hd hl hex (Nat.le_trans i1 hr1) (Nat.le_trans i2 hr2) (ihW hF hRf hRl hr1 hr2 fin)
      · cases d with
        | zero => cases h
        | succ d' =>
          dsimp only at h
          cases hr : ma_run ro n d' m' (0, ma_ent m' as, [], c0.2.2.2.1, c0.2.2.2.2) with
          | none => rw [hr] at h; cases h
          | some q =>
            rw [hr] at h
            obtain ⟨v1, sh1, σ1⟩ := q
            obtain ⟨⟨j1, j2⟩, jW⟩ := ih _ _ _ _ _ _ hr
            obtain ⟨⟨i1, i2⟩, ihW⟩ := ih _ _ _ _ _ _ h
            refine ⟨⟨Nat.le_trans j1 i1, Nat.le_trans j2 i2⟩, ?_⟩
            intro ad adV h0 D cI cZ cQ p l e R s m args below meth c Q n0 z0 hF hRf hRl hr1 hr2 fin
            exact ms_call hF hRf hRl hd hl hcl j1 j2 jW (Nat.le_trans i1 hr1) (Nat.le_trans i2 hr2) (ihW hF hRf hRl hr1 hr2 fin)
      · cases h
        refine ⟨⟨Nat.le_refl _, Nat.le_refl _⟩, ?_⟩
        intro ad adV h0 D cI cZ cQ p l e R s m args below meth c Q n0 z0 hF hRf hRl hr1 hr2 fin
        intro ls H locs cells slots hL hH hS hc hz
        have hk := ma_ri_len hi hl
        subst hk
        have := fin c0.1 i ls H locs cells slots hd hi hH hS hc hz
        rw [hst]
        exact this

/-! Making cells; what the frames take as given of statics, String constants and the script (ma_X). -/
theorem ma_blank_ok : ∀ ci, ci < 9 → ∀ k, k < ma_nx ci → defaultValue (ma_ty ci k) = ma_fv (ma_blank ci) (fun _ => 0) k := by decide +kernel
theorem ma_blank_len (ci : Nat) : (ma_blank ci).length = ma_nx ci := by simp [ma_blank]
theorem ma_newH_o (σ : ma_H) (n : Nat) : ma_newH σ n n = fun _ => 0 := by funext j; simp [ma_newH]
theorem ma_newH_n (σ : ma_H) {n i : Nat} (h : i ≠ n) : ma_newH σ n i = σ i := by funext j; simp [ma_newH, h]
theorem ma_vt_dflt (ad : Nat → Nat) (ty : FieldType) : ma_vt ad (defaultValue ty) = defaultValue ty := by cases ty <;> rfl
section MW
variable {p : Program} {l : Launch} {e : Env} {R : Room} {s : State} {m : MethodId} {args : Array Value} {below : List Frame} {meth : Method} {c : Code} {H : Heap} {locs : List Loc} {cells slots : Nat} {Q : State → Prop}
variable {cc : ByteArray} {pc : Nat} {ls : Array Slot} {rest : List Value} {H0 : Heap} {A : Nat → Prop}
variable {D : va_G} {cI cZ cQ : ClassId} {ad : Nat → Nat} {h0 : Nat} {sh : List ma_Sh} {σ : ma_H} {own idx o : Nat}
theorem mw_new (hx : p.tables.exec = Jvm.exec) (hb : c.code = cc) (hts : ∀ w ∈ ma_B, w.before args s = true) (hown : s.vm.findClass (ma_rx own) = some m.cls) (hK : ma_K D cI cZ cQ s) (had : ∀ i, i < 1000000 → ad i = h0 + i) (hH : ma_hp D cI cZ cQ ad h0 sh σ H) (hS : va_S A H0 H locs) {ci : Nat}
    (hf : ma_lk ma_nt own idx = some ci) (hn : sh.length < 500) (hcells : cells + 1 ≤ R.cells) (hslots : slots + ma_nx ci ≤ R.slots) (hdg : decode cc pc = .ok (.new idx, 3))
    (kk : ∀ H1 : Heap, ma_hp D cI cZ cQ ad h0 (sh ++ [.inl (ci, ma_blank ci)]) (ma_newH σ sh.length) H1 → va_S A H0 H1 locs → W p l e R s m args below meth c H1 locs (cells + 1) (slots + ma_nx ci) Q (F0 m (pc + 3) (ls) (.ref (ad sh.length) :: rest))) : W p l e R s m args below meth c H locs cells slots Q (F0 m (pc) (ls) (rest)) := by
  obtain ⟨hcl, hins, hini, hci⟩ := ma_nt_ok _ (ma_lk_mem hf)
  have hKn := hK.1 ci hci
  refine W.newcK hx hb hown (hts _ (ma_inB hcl rfl)) (hts _ (ma_inB hins rfl)) (hts _ (ma_inB hini rfl)) rfl hdg hcells hslots hKn.2.1 rfl fun H1 kC hkC e1 z1 o1 => ?_
  have hz : H.size = ad sh.length := by rw [had _ (by omega)]; exact hH.1
  have k1 := kk H1 (ma_hp.push had hH hn z1 o1 (fun i hi => ma_newH_n σ hi) ⟨hci, ma_blank_len ci, by
    rw [ma_newH_o, ← hz]
    exact (u_born (ma_ty ci) hts (ma_inU hci) hKn hkC e1 (ma_tyok ci hci)).to fun k hk => by
      rw [← ma_blank_ok ci hci k hk, ma_vt_dflt]⟩) ⟨Nat.le_trans hS.1 (by omega), fun x h1 h2 => (o1 x (Nat.lt_of_lt_of_le h1 hS.1)).trans (hS.2.1 x h1 h2), hS.2.2⟩
  rw [← hz] at k1
  exact k1
theorem mw_newI (hx : p.tables.exec = Jvm.exec) (hb : c.code = cc) (hts : ∀ w ∈ ma_B, w.before args s = true) (hK : ma_K D cI cZ cQ s) (had : ∀ i, i < 1000000 → ad i = h0 + i) (hH : ma_hp D cI cZ cQ ad h0 sh σ H) (hS : va_S A H0 H locs) {n : Int32}
    (hn0 : ¬ n < 0) (hn5 : n.toNatClampNeg ≤ 5000) (hn : sh.length < 500) (hcells : cells + 1 ≤ R.cells) (hslots : slots + n.toNatClampNeg ≤ R.slots) (hdg : decode cc pc = .ok (.newarray .int, 2))
    (kk : ∀ H1 : Heap, ma_hp D cI cZ cQ ad h0 (sh ++ [.inr (.inl (false, n.toNatClampNeg))]) (ma_newH σ sh.length) H1 → va_S A H0 H1 locs → W p l e R s m args below meth c H1 locs (cells + 1) (slots + n.toNatClampNeg) Q (F0 m (pc + 2) (ls) (.ref (ad sh.length) :: rest))) : W p l e R s m args below meth c H locs cells slots Q (F0 m (pc) (ls) (.int n :: rest)) := by
  refine va_newaK (atype := .int) hx hb (hts _ (ma_inB ma_ac_int rfl)) rfl hdg rfl hn0 rfl (by show _ * 4 ≤ _; omega) hcells hslots rfl fun H1 cA e1 z1 o1 hAr hNm => ?_
  have hz : H.size = ad sh.length := by rw [had _ (by omega)]; exact hH.1
  have hcA : cA = cI := Option.some.inj (hNm.symm.trans hK.2.1.2)
  subst hcA
  have k1 := kk H1 (ma_hp.push had hH hn z1 o1 (fun i hi => ma_newH_n σ hi) (by
    show H1[ad sh.length]? = _
    rw [ma_newH_o, ← hz]
    exact e1)) ⟨Nat.le_trans hS.1 (by omega), fun x h1 h2 => (o1 x (Nat.lt_of_lt_of_le h1 hS.1)).trans (hS.2.1 x h1 h2), hS.2.2⟩
  rw [← hz] at k1
  exact k1
theorem mw_newZ (hx : p.tables.exec = Jvm.exec) (hb : c.code = cc) (hts : ∀ w ∈ ma_B, w.before args s = true) (hK : ma_K D cI cZ cQ s) (had : ∀ i, i < 1000000 → ad i = h0 + i) (hH : ma_hp D cI cZ cQ ad h0 sh σ H) (hS : va_S A H0 H locs) {n : Int32}
    (hn0 : ¬ n < 0) (hn5 : n.toNatClampNeg ≤ 5000) (hn : sh.length < 500) (hcells : cells + 1 ≤ R.cells) (hslots : slots + n.toNatClampNeg ≤ R.slots) (hdg : decode cc pc = .ok (.newarray .boolean, 2))
    (kk : ∀ H1 : Heap, ma_hp D cI cZ cQ ad h0 (sh ++ [.inr (.inl (true, n.toNatClampNeg))]) (ma_newH σ sh.length) H1 → va_S A H0 H1 locs → W p l e R s m args below meth c H1 locs (cells + 1) (slots + n.toNatClampNeg) Q (F0 m (pc + 2) (ls) (.ref (ad sh.length) :: rest))) : W p l e R s m args below meth c H locs cells slots Q (F0 m (pc) (ls) (.int n :: rest)) := by
  refine va_newaK (atype := .boolean) hx hb (hts _ (ma_inB ma_ac_bool rfl)) rfl hdg rfl hn0 rfl (by show _ * 1 ≤ _; omega) hcells hslots rfl fun H1 cA e1 z1 o1 hAr hNm => ?_
  have hz : H.size = ad sh.length := by rw [had _ (by omega)]; exact hH.1
  have hcA : cA = cZ := Option.some.inj (hNm.symm.trans hK.2.2.1.2)
  subst hcA
  have k1 := kk H1 (ma_hp.push had hH hn z1 o1 (fun i hi => ma_newH_n σ hi) (by
    show H1[ad sh.length]? = _
    rw [ma_newH_o, ← hz]
    exact e1)) ⟨Nat.le_trans hS.1 (by omega), fun x h1 h2 => (o1 x (Nat.lt_of_lt_of_le h1 hS.1)).trans (hS.2.1 x h1 h2), hS.2.2⟩
  rw [← hz] at k1
  exact k1
theorem mw_newQ (hx : p.tables.exec = Jvm.exec) (hb : c.code = cc) (hts : ∀ w ∈ ma_B, w.before args s = true) (hown : s.vm.findClass (ma_rx own) = some m.cls) (hK : ma_K D cI cZ cQ s) (hao : va_AO RX1 s) (had : ∀ i, i < 1000000 → ad i = h0 + i) (hH : ma_hp D cI cZ cQ ad h0 sh σ H) (hS : va_S A H0 H locs) {n : Int32}
    (hf : ma_lk ma_nt own idx = some 1) (hn0 : ¬ n < 0) (hn5 : n.toNatClampNeg ≤ 5000) (hn : sh.length < 500) (hcells : cells + 1 ≤ R.cells) (hslots : slots + n.toNatClampNeg ≤ R.slots) (hdg : decode cc pc = .ok (.anewarray idx, 3))
    (kk : ∀ H1 : Heap, ma_hp D cI cZ cQ ad h0 (sh ++ [.inr (.inr (List.replicate n.toNatClampNeg none))]) (ma_newH σ sh.length) H1 → va_S A H0 H1 locs → W p l e R s m args below meth c H1 locs (cells + 1) (slots + n.toNatClampNeg) Q (F0 m (pc + 3) (ls) (.ref (ad sh.length) :: rest))) : W p l e R s m args below meth c H locs cells slots Q (F0 m (pc) (ls) (.int n :: rest)) := by
  obtain ⟨hcl, -, -, -⟩ := ma_nt_ok _ (ma_lk_mem hf)
  refine W.anew hx hb (C := RX1) hown (hts _ (ma_inB hcl rfl)) (va_AO.use hao) rfl hdg rfl hn0 (by omega) hcells hslots fun cA kA comp f1 f2 f3 f4 => ?_
  obtain ⟨kA', comp', -, -, -, g4⟩ := hK.2.2.2.2
  have hcA : cA = cQ := Option.some.inj (f1.symm.trans g4)
  subst hcA
  generalize hH1 : H.push ({ cls := cA, slots := Array.replicate n.toNatClampNeg .null, vm := .none } : Cell) = H1
  have z1 : H1.size = H.size + 1 := by rw [← hH1, Array.size_push]
  have e1 : H1[H.size]? = some (arrV cA n.toNatClampNeg (fun _ => .null)) := by rw [← hH1, Array.getElem?_push_size, ← arrV_new]
  have o1 : ∀ q : Nat, q < H.size → H1[q]? = H[q]? := fun q hq => by rw [← hH1, Array.getElem?_push, if_neg (Nat.ne_of_lt hq)]
  have hz : H.size = ad sh.length := by rw [had _ (by omega)]; exact hH.1
  have k1 := kk H1 (ma_hp.push had hH hn z1 o1 (fun i hi => ma_newH_n σ hi) (by
    show H1[ad sh.length]? = some (arrV cA (List.replicate n.toNatClampNeg (none : Option Nat)).length _)
    rw [← hz, e1, List.length_replicate]
    congr 2
    funext j
    by_cases hj : j < n.toNatClampNeg
    · simp [List.getD_eq_getElem?_getD, List.getElem?_replicate, hj, ma_rv, ma_vt]
    · simp [List.getD_eq_getElem?_getD, List.getElem?_replicate, hj, ma_rv, ma_vt])) ⟨Nat.le_trans hS.1 (by omega), fun x h1 h2 => (o1 x (Nat.lt_of_lt_of_le h1 hS.1)).trans (hS.2.1 x h1 h2), hS.2.2⟩
  rw [← hz] at k1
  exact k1
theorem mw_aast (hx : p.tables.exec = Jvm.exec) (hb : c.code = cc) (hK : ma_K D cI cZ cQ s) (had : ∀ i, i < 1000000 → ad i = h0 + i) (hH : ma_hp D cI cZ cQ ad h0 sh σ H) (hS : va_S A H0 H locs) (hA : ∀ q, h0 ≤ q → A q) {lr : List (Option Nat)} {fs : List (Option (Option Nat))} {i : Int32} {v : Nat} (ho : sh[o]? = some (.inr (.inr lr))) (hv : sh[v]? = some (.inl (1, fs))) (hin : ma_ix i lr.length = true) (hdg : decode cc pc = .ok (.aastore, 1))
    (kk : ∀ (H1 : Heap) (locs1 : List Loc), ma_hp D cI cZ cQ ad h0 (sh.set o (.inr (.inr (lr.set i.toNatClampNeg (some v))))) σ H1 → va_S A H0 H1 locs1 → W p l e R s m args below meth c H1 locs1 cells slots Q (F0 m (pc + 1) (ls) (rest))) : W p l e R s m args below meth c H locs cells slots Q (F0 m (pc) (ls) (.ref (ad v) :: .int i :: .ref (ad o) :: rest)) := by
  have hin := of_decide_eq_true hin
  have hlt : i.toNatClampNeg < lr.length := Nat.not_le.mp fun q => hin (Or.inr q)
  have h0' : ¬ i < 0 := fun q => hin (Or.inl q)
  have hlo := ma_lth ho
  have hao : A (ad o) := hA _ (by rw [had o (by have := hH.2.1; omega)]; omega)
  have hc : H[ad o]? = some (arrV cQ lr.length (fun j => ma_vt ad (ma_rv (lr.getD j none)))) := hH.2.2 o _ ho
  obtain ⟨-, -, cellV, g1, g2, g3, -⟩ := hH.2.2 v _ hv
  have hcls := (hK.1 1 (by decide)).2
  obtain ⟨kA, comp, k1, k2, k3, -⟩ := hK.2.2.2.2
  have hcomp : comp = D.1 1 := Option.some.inj (k3.symm.trans hcls.1)
  subst hcomp
  obtain ⟨kC, hkC, -⟩ := id hcls.2
  refine W.aast hx hb hc (fun q h => by cases h) (fun h => by cases h) k1 k2 rfl hkC ⟨h0', by rw [arrV_size]; exact hlt⟩ g1 (fun q h => by rw [g3] at h; cases h) (by rw [g2]; exact hkC) (by rw [g2]; exact va_assign hcls) rfl rfl hdg fun H1 e1 z oq => kk H1 _ ?_ (hS.put z oq hao)
  refine ma_hp.put (σ' := σ) had hH ho z oq (fun _ _ => rfl) ?_
  show H1[ad o]? = some (arrV cQ (lr.set i.toNatClampNeg (some v)).length _)
  rw [e1, arrV_store, List.length_set]
  congr 2
  funext q
  by_cases hq : q = i.toNatClampNeg
  · subst hq
    simp only [updV, if_true, List.getD_eq_getElem?_getD, List.getElem?_set_self hlt, Option.getD_some]
    rfl
  · simp only [updV, if_neg hq, List.getD_eq_getElem?_getD, List.getElem?_set_ne (Ne.symm hq)]
end MW
def ma_X (ro : ma_RO) (ad adV : Nat → Nat) (h0 : Nat) (U : State) (H : Heap) : Prop :=
  (∀ (i n : Nat) (f : Nat → Int32), ro i = some (n, f) → va_T .int (ad i) n (fun j => .int (f j)) (fun q => h0 ≤ q) U H) ∧
  (∀ k, k < 7 → va_O "java/lang/String" (ad (1000000 + k)) (fun q => h0 ≤ q) U H ∧ va_OF "java/lang/String" "coder" "B" (.int 0) (ad (1000000 + k)) (fun q => h0 ≤ q) U H ∧ va_OF "java/lang/String" "value" "[B" (.ref (adV k)) (ad (1000000 + k)) (fun q => h0 ≤ q) U H ∧ va_T .byte (adV k) (ma_chs k).length (fun j => .int ((ma_chs k).getD j 0)) (fun q => h0 ≤ q) U H) ∧
  (∀ r ∈ ma_st, vk_R (ma_rx r.1) r.2.1 (ma_txt r.2.2) (ad (1000000 + r.2.2)) U) ∧
  va_Z "java/lang/String" "COMPACT_STRINGS" "Z" (.int 1) (fun q => h0 ≤ q) U H ∧
  va_Zq "jdk/internal/util/Preconditions" "SIOOBE_FORMATTER" "Ljava/util/function/BiFunction;" (fun q => h0 ≤ q) U H ∧
  va_Z RX7 "ABOVE" "[I" (.ref (ad 3000000)) (fun q => h0 ≤ q) U H ∧
  va_AO RX1 U ∧ (∀ r ∈ ma_ct, r.2.2.2 = true → va_Nw (.methodLinkNest (ma_rx r.1) r.2.1 (ma_y r.2.2.1) "DidITurnItOff") U)
theorem ma_X.kept {ro : ma_RO} {ad adV : Nat → Nat} {h0 : Nat} {U : State} {H H1 : Heap} (h : ma_X ro ad adV h0 U H) (hq : ∀ a : Nat, a < H.size → ¬ h0 ≤ a → H1[a]? = H[a]?) : ma_X ro ad adV h0 U H1 := by
  obtain ⟨h1, h2, h3, h4, h5, h6, h7, h8⟩ := h
  exact ⟨fun i n f hi => (h1 i n f hi).kept hq, fun k hk => ⟨(h2 k hk).1.kept hq, (h2 k hk).2.1.kept hq, (h2 k hk).2.2.1.kept hq, (h2 k hk).2.2.2.kept hq⟩, h3, h4.kept hq, h5.kept hq, h6.kept hq, h7, h8⟩
theorem ma_X.warm {ro : ma_RO} {ad adV : Nat → Nat} {h0 : Nat} {s U : State} {H : Heap} (h : ma_X ro ad adV h0 s H) (hW : s.WarmedH U.vm) : ma_X ro ad adV h0 U H := by
  obtain ⟨h1, h2, h3, h4, h5, h6, h7, h8⟩ := h
  have hvm := hW.alike
  exact ⟨fun i n f hi => va_T.moved hvm (h1 i n f hi), fun k hk => ⟨va_O.moved hvm (h2 k hk).1, va_OF.moved hvm (h2 k hk).2.1, va_OF.moved hvm (h2 k hk).2.2.1, va_T.moved hvm (h2 k hk).2.2.2⟩, fun r hr => vk_R.warm hW (h3 r hr), va_Z.moved hvm h4, va_Zq.moved hvm h5, va_Z.moved hvm h6, va_AO.moved hvm h7, fun r hr hn => va_Nw.warmM hW (h8 r hr hn)⟩
theorem ma_X.same {ro : ma_RO} {ad adV : Nat → Nat} {h0 : Nat} {u U : State} {H : Heap} (h : ma_X ro ad adV h0 u H) (hv : U.vm = u.vm) : ma_X ro ad adV h0 U H := by
  obtain ⟨h1, h2, h3, h4, h5, h6, h7, h8⟩ := h
  have hvm : u.vm.Alike U.vm := hv ▸ Vm.Alike.refl u.vm
  exact ⟨fun i n f hi => va_T.moved hvm (h1 i n f hi), fun k hk => ⟨va_O.moved hvm (h2 k hk).1, va_OF.moved hvm (h2 k hk).2.1, va_OF.moved hvm (h2 k hk).2.2.1, va_T.moved hvm (h2 k hk).2.2.2⟩, fun r hr => vk_R.same hv (h3 r hr), va_Z.moved hvm h4, va_Zq.moved hvm h5, va_Z.moved hvm h6, va_AO.moved hvm h7, fun r hr hn => va_Nw.same rfl hv.symm (h8 r hr hn)⟩

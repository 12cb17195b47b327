/-! THE MACHINE'S HEAP IN THE REAL ONE: cell number i stands at the address ad i (h0 + i, h0 the heap's size at the law's entry). One row an instruction that looks at the heap. -/
def ma_vt (ad : Nat → Nat) : Value → Value
  | .ref i => .ref (ad i)
  | v => v
def ma_at (D : va_G) (cI cZ cQ : ClassId) (ad : Nat → Nat) (i : Nat) (e : ma_Sh) (f : Nat → Int32) (H : Heap) : Prop := match e with
  | .inl (c, fs) => c < 9 ∧ fs.length = ma_nx c ∧ t_OB (ad i) (D.1 c) (ma_nx c) (D.2 c) H (fun k => ma_vt ad (ma_fv fs f k))
  | .inr (.inl (z, n)) => H[ad i]? = some (arrV (if z = true then cZ else cI) n (fun j => .int (f j)))
  | .inr (.inr l) => H[ad i]? = some (arrV cQ l.length (fun j => ma_vt ad (ma_rv (l.getD j none))))
def ma_hp (D : va_G) (cI cZ cQ : ClassId) (ad : Nat → Nat) (h0 : Nat) (sh : List ma_Sh) (σ : ma_H) (H : Heap) : Prop :=
  H.size = h0 + sh.length ∧ sh.length ≤ 500 ∧ ∀ (i : Nat) (e : ma_Sh), sh[i]? = some e → ma_at D cI cZ cQ ad i e (σ i) H
def ma_K (D : va_G) (cI cZ cQ : ClassId) (U : State) : Prop :=
  (∀ c, c < 9 → u_Kn U (ma_rx c) (ma_tx c) (ma_nx c) (D.1 c) (D.2 c)) ∧ (ArrOfT U cI .int ∧ U.vm.findClass "[I" = some cI) ∧ (ArrOfT U cZ .boolean ∧ U.vm.findClass "[Z" = some cZ) ∧ (ArrOfT U cQ (.object RX1) ∧ va_RA U cQ (.object RX1))
theorem ma_K.moved {D : va_G} {cI cZ cQ : ClassId} {u U : State} (hvm : u.vm.Alike U.vm) (h : ma_K D cI cZ cQ u) : ma_K D cI cZ cQ U :=
  ⟨fun c hc => u_Kn_moved hvm (h.1 c hc), ⟨arrOfT_moved hvm h.2.1.1, by rw [hvm.findClass]; exact h.2.1.2⟩, ⟨arrOfT_moved hvm h.2.2.1.1, by rw [hvm.findClass]; exact h.2.2.1.2⟩, ⟨arrOfT_moved hvm h.2.2.2.1, h.2.2.2.2.moved hvm⟩⟩
def ma_B : List Cond := lw_tbl.filter goodWord
theorem ma_inB {w : Cond} (h : w ∈ lw_tbl) (hg : goodWord w = true) : w ∈ ma_B := List.mem_filter.mpr ⟨h, hg⟩
theorem ma_inU {i : Nat} (hi : i < 9) : ∀ w ∈ u_ws (ma_rx i) (ma_tx i) (ma_nx i), w ∈ ma_B := by
  intro w h
  refine ma_inB (ma_in i hi w h) ?_
  obtain ⟨k, -, rfl⟩ := List.mem_map.mp h
  unfold u_lay
  split <;> rfl
theorem ma_decl : ∀ i, i < 9 → ∀ k, k < ma_nx i → (ma_tx i k).1 = ma_rx i := by decide +kernel
theorem ma_at.kept {D : va_G} {cI cZ cQ : ClassId} {ad : Nat → Nat} {i : Nat} {e : ma_Sh} {f : Nat → Int32} {H H1 : Heap} (h : ma_at D cI cZ cQ ad i e f H) (hq : H1[ad i]? = H[ad i]?) : ma_at D cI cZ cQ ad i e f H1 := by
  match e, h with
  | .inl (c, fs), ⟨h1, h2, h3⟩ => exact ⟨h1, h2, h3.kept hq⟩
  | .inr (.inl (z, n)), h => exact hq.trans h
  | .inr (.inr l), h => exact hq.trans h
theorem ma_lth {sh : List ma_Sh} {o : Nat} {e : ma_Sh} (h : sh[o]? = some e) : o < sh.length := (List.getElem?_eq_some_iff.mp h).1
theorem ma_setself {α : Type} {l : List α} {o : Nat} {e : α} (h : l[o]? = some e) : l.set o e = l := by
  apply List.ext_getElem?
  intro i
  by_cases hi : i = o
  · subst hi
    rw [List.getElem?_set_self (List.getElem?_eq_some_iff.mp h).1, h]
  · rw [List.getElem?_set_ne (Ne.symm hi)]
theorem ma_hp.put {D : va_G} {cI cZ cQ : ClassId} {ad : Nat → Nat} {h0 : Nat} {sh : List ma_Sh} {σ σ' : ma_H} {H H1 : Heap} {o : Nat} {e e' : ma_Sh} (had : ∀ i, i < 1000000 → ad i = h0 + i)
    (h : ma_hp D cI cZ cQ ad h0 sh σ H) (ho : sh[o]? = some e) (hz : H1.size = H.size) (oq : ∀ q : Nat, q ≠ ad o → H1[q]? = H[q]?) (hs : ∀ i, i ≠ o → σ' i = σ i) (he : ma_at D cI cZ cQ ad o e' (σ' o) H1) : ma_hp D cI cZ cQ ad h0 (sh.set o e') σ' H1 := by
  obtain ⟨h1, h2, h3⟩ := h
  have hlo := ma_lth ho
  refine ⟨by rw [hz, h1, List.length_set], by rw [List.length_set]; exact h2, fun i x hx => ?_⟩
  by_cases hi : i = o
  · subst hi
    rw [List.getElem?_set_self hlo] at hx
    cases hx
    exact he
  · rw [List.getElem?_set_ne (Ne.symm hi)] at hx
    rw [hs i hi]
    refine (h3 i x hx).kept (oq _ fun z => hi ?_)
    have hl := ma_lth hx
    rw [had i (by omega), had o (by omega)] at z
    omega
theorem ma_hp.push {D : va_G} {cI cZ cQ : ClassId} {ad : Nat → Nat} {h0 : Nat} {sh : List ma_Sh} {σ σ' : ma_H} {H H1 : Heap} {e' : ma_Sh} (had : ∀ i, i < 1000000 → ad i = h0 + i)
    (h : ma_hp D cI cZ cQ ad h0 sh σ H) (hn : sh.length < 500) (hz : H1.size = H.size + 1) (oq : ∀ q : Nat, q < H.size → H1[q]? = H[q]?) (hs : ∀ i, i ≠ sh.length → σ' i = σ i) (he : ma_at D cI cZ cQ ad sh.length e' (σ' sh.length) H1) : ma_hp D cI cZ cQ ad h0 (sh ++ [e']) σ' H1 := by
  obtain ⟨h1, h2, h3⟩ := h
  refine ⟨by rw [hz, h1, List.length_append]; rfl, by rw [List.length_append]; exact hn, fun i x hx => ?_⟩
  by_cases hi : i < sh.length
  · rw [List.getElem?_append_left hi] at hx
    rw [hs i (by omega)]
    refine (h3 i x hx).kept (oq _ ?_)
    rw [had i (by omega)]
    omega
  · rw [List.getElem?_append_right (by omega)] at hx
    have hz : i - sh.length < 1 := (List.getElem?_eq_some_iff.mp hx).1
    have hi : i = sh.length := by omega
    subst hi
    rw [Nat.sub_self] at hx
    cases hx
    exact he
theorem ma_up_o (σ : ma_H) (o k : Nat) (v : Int32) : ma_up σ o k v o = fun j => if j = k then v else σ o j := by
  funext j
  simp [ma_up]
theorem ma_up_n (σ : ma_H) {o i : Nat} (k : Nat) (v : Int32) (h : i ≠ o) : ma_up σ o k v i = σ i := by
  funext j
  simp [ma_up, h]
section MW
variable {p : Program} {l : Launch} {e : Env} {R : Room} {s : State} {m : MethodId} {args : Array Value} {below : List Frame} {meth : Method} {c : Code} {H : Heap} {locs : List Loc} {cells slots : Nat} {Q : State → Prop}
variable {cc : ByteArray} {pc : Nat} {ls : Array Slot} {rest : List Value} {H0 : Heap} {A : Nat → Prop}
variable {D : va_G} {cI cZ cQ : ClassId} {ad : Nat → Nat} {h0 : Nat} {sh : List ma_Sh} {σ : ma_H} {own idx o : Nat}
theorem mw_get (hx : p.tables.exec = Jvm.exec) (hb : c.code = cc) (hts : ∀ w ∈ ma_B, w.before args s = true) (hown : s.vm.findClass (ma_rx own) = some m.cls) (hK : ma_K D cI cZ cQ s) (hH : ma_hp D cI cZ cQ ad h0 sh σ H) {ci k : Nat} {fs : List (Option (Option Nat))}
    (hf : ma_lk ma_ft own idx = some (ci, k)) (ho : sh[o]? = some (.inl (ci, fs))) (hdg : decode cc pc = .ok (.getfield idx, 3))
    (kk : W p l e R s m args below meth c H locs cells slots Q (F0 m (pc + 3) (ls) (ma_vt ad (ma_fv fs (σ o) k) :: rest))) : W p l e R s m args below meth c H locs cells slots Q (F0 m (pc) (ls) (.ref (ad o) :: rest)) := by
  obtain ⟨hlink, hci, hk⟩ := ma_ft_ok _ (ma_lk_mem hf)
  obtain ⟨-, hlen, cell, q1, q2, q3, q4⟩ := hH.2.2 o _ ho
  obtain ⟨hS, hfc, kC, hkC, hkind⟩ := hK.1 ci hci
  obtain ⟨cf, kf, fi, f, hi, hsl⟩ := hS k hk
  refine W.getf hx hb hown (hts _ (ma_inB hlink rfl)) hi (u_facts hfc hkC (u_lays hts (ma_inU hci) hk) hi).1 q1 (by rw [q3]; exact fun h => by cases h) (v := ma_vt ad (ma_fv fs (σ o) k)) ?_ rfl rfl hdg kk
  rw [hsl, q4 k hk]
theorem mw_put0 (hx : p.tables.exec = Jvm.exec) (hb : c.code = cc) (hts : ∀ w ∈ ma_B, w.before args s = true) (hown : s.vm.findClass (ma_rx own) = some m.cls) (hK : ma_K D cI cZ cQ s) (hH : ma_hp D cI cZ cQ ad h0 sh σ H) (hS : va_S A H0 H locs) (hA : A (ad o)) {ci k : Nat} {fs : List (Option (Option Nat))}
    (hf : ma_lk ma_ft own idx = some (ci, k)) (ho : sh[o]? = some (.inl (ci, fs))) (hfin : (ma_tx ci k).2.2.2 = false ∨ (meth.name = "<init>" ∧ own = ci)) {v : Value} (hn : narrow (ma_ty ci k) v = v) (hfit : fits (ma_ty ci k) v = true) (hdg : decode cc pc = .ok (.putfield idx, 3))
    (kk : ∀ (H1 : Heap) (locs1 : List Loc), H1.size = H.size → (∀ q : Nat, q ≠ ad o → H1[q]? = H[q]?) → t_OB (ad o) (D.1 ci) (ma_nx ci) (D.2 ci) H1 (updV (fun j => ma_vt ad (ma_fv fs (σ o) j)) k v) → va_S A H0 H1 locs1 → W p l e R s m args below meth c H1 locs1 cells slots Q (F0 m (pc + 3) (ls) (rest))) : W p l e R s m args below meth c H locs cells slots Q (F0 m (pc) (ls) (v :: .ref (ad o) :: rest)) := by
  obtain ⟨hlink, hci, hk⟩ := ma_ft_ok _ (ma_lk_mem hf)
  obtain ⟨-, hlen, cell, q1, q2, q3, q4⟩ := hH.2.2 o _ ho
  have hap : ∀ x y, x < ma_nx ci → y < ma_nx ci → x ≠ y → (D.2 ci) x ≠ (D.2 ci) y := by
    intro x y hx hy hne
    obtain ⟨hS, -⟩ := hK.1 ci hci
    obtain ⟨_, _, _, fa, hia, ea⟩ := hS x hx
    obtain ⟨_, _, _, fb, hib, eb⟩ := hS y hy
    rw [← ea, ← eb]
    refine u_apart (u_lays hts (ma_inU hci) hx) (u_lays hts (ma_inU hci) hy) hia hib ?_
    rw [(State.fieldFound?_type hia (ma_tyok ci hci x hx)).1, (State.fieldFound?_type hib (ma_tyok ci hci y hy)).1]
    exact ma_nm ci hci x hx y hy hne
  obtain ⟨hSl, hfc, kC, hkC, hkind⟩ := hK.1 ci hci
  obtain ⟨cf, kf, fi, f, hi, hsl⟩ := hSl k hk
  have hlay := hts _ (ma_inU hci _ (u_in_lay hk))
  have hst := (u_facts hfc hkC (u_lays hts (ma_inU hci) hk) hi).1
  have fin : ∀ H' : Heap, H'[ad o]? = some (cell.setSlot f.slot v) → H'.size = H.size → (∀ q, q ≠ ad o → H'[q]? = H[q]?) → W p l e R s m args below meth c H' (locs ++ [⟨ad o, f.slot⟩]) cells slots Q (F0 m (pc + 3) ls rest) := by
    intro H' e1 e2 e3
    rw [hsl] at e1 ⊢
    exact kk H' _ e2 e3 ⟨_, e1, q2, q3, t_set q4 hap hk v⟩ (hS.put e2 e3 hA)
  by_cases hfl : (ma_tx ci k).2.2.2 = false
  · unfold u_lay at hlay
    rw [if_neg (by rw [hfl]; decide)] at hlay
    have h6 := u_store hfc hkC hkind hlay hi (ma_tyok ci hci k hk) hn hfit
    exact W.putK hx hb (f := f) ⟨hown, hts _ (ma_inB hlink rfl), ⟨_, _, _, hi⟩, hst⟩ (by rw [q2]; exact h6) q1 q3 (by rw [hsl]; exact k2_hasslot (q4 k hk)) rfl rfl hdg fin
  · have hfl : (ma_tx ci k).2.2.2 = true := by simpa using hfl
    obtain ⟨hin2, hoc⟩ := hfin.resolve_left (by rw [hfl]; decide)
    subst hoc
    unfold u_lay at hlay
    rw [if_pos hfl] at hlay
    have hcf : m.cls = cf := by
      obtain ⟨_, _, c', _, _, _, -, -, hf', -, -, -, hown2, -⟩ := Cond.laysFinal_spec hlay
      have e1 : c' = cf := by have := hi.symm.trans hf'; simp at this; exact this.1.symm
      rw [ma_decl own hci k hk] at hown2
      rw [← e1]; exact Option.some.inj (hown.symm.trans hown2)
    have h6 := u_fits hfc hkC hkind (Or.inr hlay) hi (ma_tyok own hci k hk) hn hfit
    exact W.putFinK hx hb hown (hts _ (ma_inB hlink rfl)) hi hst hcf hin2 (by rw [q2]; exact h6) q1 q3 (by rw [hsl]; exact k2_hasslot (q4 k hk)) rfl rfl hdg fin
theorem mw_putI (hx : p.tables.exec = Jvm.exec) (hb : c.code = cc) (hts : ∀ w ∈ ma_B, w.before args s = true) (hown : s.vm.findClass (ma_rx own) = some m.cls) (hK : ma_K D cI cZ cQ s) (had : ∀ i, i < 1000000 → ad i = h0 + i) (hH : ma_hp D cI cZ cQ ad h0 sh σ H) (hS : va_S A H0 H locs) (hA : ∀ q, h0 ≤ q → A q) {ci k : Nat} {fs : List (Option (Option Nat))}
    (hf : ma_lk ma_ft own idx = some (ci, k)) (ho : sh[o]? = some (.inl (ci, fs))) (hfin : (ma_tx ci k).2.2.2 = false ∨ (meth.name = "<init>" ∧ own = ci)) {x : Int32} (h1 : fs.getD k none = none) (h2 : ma_fitI (ma_ty ci k) x = true) (hdg : decode cc pc = .ok (.putfield idx, 3))
    (kk : ∀ (H1 : Heap) (locs1 : List Loc), ma_hp D cI cZ cQ ad h0 sh (ma_up σ o k x) H1 → va_S A H0 H1 locs1 → W p l e R s m args below meth c H1 locs1 cells slots Q (F0 m (pc + 3) (ls) (rest))) : W p l e R s m args below meth c H locs cells slots Q (F0 m (pc) (ls) (.int x :: .ref (ad o) :: rest)) := by
  have hlo := ma_lth ho
  have hao : A (ad o) := hA _ (by rw [had o (by have := hH.2.1; omega)]; omega)
  have hty : narrow (ma_ty ci k) (.int x) = .int x ∧ fits (ma_ty ci k) (.int x) = true := by
    unfold ma_fitI at h2
    split at h2
    · rename_i e; rw [e]; exact ⟨rfl, rfl⟩
    · rename_i e; rw [e]
      rcases Bool.or_eq_true_iff.mp h2 with z | z
      · rw [of_decide_eq_true z]; exact ⟨rfl, rfl⟩
      · rw [of_decide_eq_true z]; exact ⟨rfl, rfl⟩
    · cases h2
  refine mw_put0 hx hb hts hown hK hH hS hao hf ho hfin hty.1 hty.2 hdg fun H1 locs1 e1 e2 e3 e4 => kk H1 locs1 ?_ e4
  obtain ⟨c9, hlen, -⟩ := hH.2.2 o _ ho
  have := ma_hp.put (σ' := ma_up σ o k x) (e' := .inl (ci, fs)) had hH ho e1 e2 (fun i hi => ma_up_n σ k x hi) ⟨c9, hlen, e3.to fun j hj => ?_⟩
  · rwa [ma_setself ho] at this
  · rw [ma_up_o]
    by_cases hjk : j = k
    · subst hjk
      simp only [updV, if_true, ma_fv, h1]
      rfl
    · simp only [updV, if_neg hjk, ma_fv]
theorem mw_putA (hx : p.tables.exec = Jvm.exec) (hb : c.code = cc) (hts : ∀ w ∈ ma_B, w.before args s = true) (hown : s.vm.findClass (ma_rx own) = some m.cls) (hK : ma_K D cI cZ cQ s) (had : ∀ i, i < 1000000 → ad i = h0 + i) (hH : ma_hp D cI cZ cQ ad h0 sh σ H) (hS : va_S A H0 H locs) (hA : ∀ q, h0 ≤ q → A q) {ci k : Nat} {fs : List (Option (Option Nat))}
    (hf : ma_lk ma_ft own idx = some (ci, k)) (ho : sh[o]? = some (.inl (ci, fs))) (hfin : (ma_tx ci k).2.2.2 = false ∨ (meth.name = "<init>" ∧ own = ci)) {r : Option Nat} (h2 : ma_isRef (ma_ty ci k) = true) (hdg : decode cc pc = .ok (.putfield idx, 3))
    (kk : ∀ (H1 : Heap) (locs1 : List Loc), ma_hp D cI cZ cQ ad h0 (sh.set o (.inl (ci, fs.set k (some r)))) σ H1 → va_S A H0 H1 locs1 → W p l e R s m args below meth c H1 locs1 cells slots Q (F0 m (pc + 3) (ls) (rest))) : W p l e R s m args below meth c H locs cells slots Q (F0 m (pc) (ls) (ma_vt ad (ma_rv r) :: .ref (ad o) :: rest)) := by
  have hlo := ma_lth ho
  have hao : A (ad o) := hA _ (by rw [had o (by have := hH.2.1; omega)]; omega)
  have hty : narrow (ma_ty ci k) (ma_vt ad (ma_rv r)) = ma_vt ad (ma_rv r) ∧ fits (ma_ty ci k) (ma_vt ad (ma_rv r)) = true := by
    unfold ma_isRef at h2
    split at h2
    · rename_i e; rw [e]; cases r <;> exact ⟨rfl, rfl⟩
    · rename_i e; rw [e]; cases r <;> exact ⟨rfl, rfl⟩
    · cases h2
  obtain ⟨-, hci, hk⟩ := ma_ft_ok _ (ma_lk_mem hf)
  refine mw_put0 hx hb hts hown hK hH hS hao hf ho hfin hty.1 hty.2 hdg fun H1 locs1 e1 e2 e3 e4 => kk H1 locs1 ?_ e4
  obtain ⟨c9, hlen, -⟩ := hH.2.2 o _ ho
  refine ma_hp.put (σ' := σ) (e' := .inl (ci, fs.set k (some r))) had hH ho e1 e2 (fun _ _ => rfl) ⟨c9, by rw [List.length_set]; exact hlen, e3.to fun j hj => ?_⟩
  by_cases hjk : j = k
  · subst hjk
    have hkl : j < fs.length := by rw [hlen]; exact hk
    simp only [updV, if_true, ma_fv, List.getD_eq_getElem?_getD, List.getElem?_set_self hkl, Option.getD_some]
    cases r <;> rfl
  · simp only [updV, if_neg hjk, ma_fv, List.getD_eq_getElem?_getD, List.getElem?_set_ne (Ne.symm hjk)]
theorem mw_iald (hx : p.tables.exec = Jvm.exec) (hb : c.code = cc) (hK : ma_K D cI cZ cQ s) (hH : ma_hp D cI cZ cQ ad h0 sh σ H) {n : Nat} {i : Int32} (ho : sh[o]? = some (.inr (.inl (false, n)))) (hin : ma_ix i n = true) (hdg : decode cc pc = .ok (.iaload, 1))
    (kk : W p l e R s m args below meth c H locs cells slots Q (F0 m (pc + 1) (ls) (.int (σ o i.toNatClampNeg) :: rest))) : W p l e R s m args below meth c H locs cells slots Q (F0 m (pc) (ls) (.int i :: .ref (ad o) :: rest)) := by
  have hin := of_decide_eq_true hin
  have hlt : i.toNatClampNeg < n := Nat.not_le.mp fun q => hin (Or.inr q)
  have hc : H[ad o]? = some (arrV cI n (fun j => .int (σ o j))) := hH.2.2 o _ ho
  exact W.iald (v := .int (σ o i.toNatClampNeg)) hx hb hc (hK.2.1.1 n _) (fun q => by cases q) (by rw [arrV_size]; exact hin) (by rw [arrV_read _ _ hlt]) rfl rfl hdg kk
theorem mw_bald (hx : p.tables.exec = Jvm.exec) (hb : c.code = cc) (hK : ma_K D cI cZ cQ s) (hH : ma_hp D cI cZ cQ ad h0 sh σ H) {n : Nat} {i : Int32} (ho : sh[o]? = some (.inr (.inl (true, n)))) (hin : ma_ix i n = true) (hdg : decode cc pc = .ok (.baload, 1))
    (kk : W p l e R s m args below meth c H locs cells slots Q (F0 m (pc + 1) (ls) (.int (σ o i.toNatClampNeg) :: rest))) : W p l e R s m args below meth c H locs cells slots Q (F0 m (pc) (ls) (.int i :: .ref (ad o) :: rest)) := by
  have hin := of_decide_eq_true hin
  have hlt : i.toNatClampNeg < n := Nat.not_le.mp fun q => hin (Or.inr q)
  have hc : H[ad o]? = some (arrV cZ n (fun j => .int (σ o j))) := hH.2.2 o _ ho
  exact W.zald (v := .int (σ o i.toNatClampNeg)) hx hb hc (hK.2.2.1.1 n _) (fun q => by cases q) (by rw [arrV_size]; exact hin) (by rw [arrV_read _ _ hlt]) rfl rfl hdg kk
theorem mw_aald (hx : p.tables.exec = Jvm.exec) (hb : c.code = cc) (hK : ma_K D cI cZ cQ s) (hH : ma_hp D cI cZ cQ ad h0 sh σ H) {lr : List (Option Nat)} {i : Int32} (ho : sh[o]? = some (.inr (.inr lr))) (hin : ma_ix i lr.length = true) (hdg : decode cc pc = .ok (.aaload, 1))
    (kk : W p l e R s m args below meth c H locs cells slots Q (F0 m (pc + 1) (ls) (ma_vt ad (ma_rv (lr.getD i.toNatClampNeg none)) :: rest))) : W p l e R s m args below meth c H locs cells slots Q (F0 m (pc) (ls) (.int i :: .ref (ad o) :: rest)) := by
  have hin := of_decide_eq_true hin
  have hlt : i.toNatClampNeg < lr.length := Nat.not_le.mp fun q => hin (Or.inr q)
  have hc : H[ad o]? = some (arrV cQ lr.length (fun j => ma_vt ad (ma_rv (lr.getD j none)))) := hH.2.2 o _ ho
  exact W.aald (v := ma_vt ad (ma_rv (lr.getD i.toNatClampNeg none))) (ty := .object RX1) hx hb hc (hK.2.2.2.1 lr.length _) rfl (fun q => by cases q) (by rw [arrV_size]; exact hin) (by rw [arrV_read _ _ hlt]) rfl rfl hdg kk
theorem mw_alen (hx : p.tables.exec = Jvm.exec) (hb : c.code = cc) (hK : ma_K D cI cZ cQ s) (hH : ma_hp D cI cZ cQ ad h0 sh σ H) {n : Nat} (ho : (∃ z, sh[o]? = some (.inr (.inl (z, n)))) ∨ ∃ lr : List (Option Nat), sh[o]? = some (.inr (.inr lr)) ∧ lr.length = n) (hdg : decode cc pc = .ok (.arraylength, 1))
    (kk : W p l e R s m args below meth c H locs cells slots Q (F0 m (pc + 1) (ls) (.int (Int32.ofNat n) :: rest))) : W p l e R s m args below meth c H locs cells slots Q (F0 m (pc) (ls) (.ref (ad o) :: rest)) := by
  rcases ho with ⟨z, ho⟩ | ⟨lr, ho, rfl⟩
  · cases z with
    | false =>
      have hc : H[ad o]? = some (arrV cI n (fun j => .int (σ o j))) := hH.2.2 o _ ho
      exact W.alen (n := Int32.ofNat n) hx hb hc (hK.2.1.1 n _) (by rw [arrV_size] <;> rfl) rfl rfl hdg kk
    | true =>
      have hc : H[ad o]? = some (arrV cZ n (fun j => .int (σ o j))) := hH.2.2 o _ ho
      exact W.alen (n := Int32.ofNat n) hx hb hc (hK.2.2.1.1 n _) (by rw [arrV_size] <;> rfl) rfl rfl hdg kk
  · have hc : H[ad o]? = some (arrV cQ lr.length (fun j => ma_vt ad (ma_rv (lr.getD j none)))) := hH.2.2 o _ ho
    exact W.alen (n := Int32.ofNat lr.length) hx hb hc (hK.2.2.2.1 lr.length _) (by rw [arrV_size] <;> rfl) rfl rfl hdg kk
theorem mw_iast (hx : p.tables.exec = Jvm.exec) (hb : c.code = cc) (hK : ma_K D cI cZ cQ s) (had : ∀ i, i < 1000000 → ad i = h0 + i) (hH : ma_hp D cI cZ cQ ad h0 sh σ H) (hS : va_S A H0 H locs) (hA : ∀ q, h0 ≤ q → A q) {n : Nat} {i x : Int32} (ho : sh[o]? = some (.inr (.inl (false, n)))) (hin : ma_ix i n = true) (hdg : decode cc pc = .ok (.iastore, 1))
    (kk : ∀ (H1 : Heap) (locs1 : List Loc), ma_hp D cI cZ cQ ad h0 sh (ma_up σ o i.toNatClampNeg x) H1 → va_S A H0 H1 locs1 → W p l e R s m args below meth c H1 locs1 cells slots Q (F0 m (pc + 1) (ls) (rest))) : W p l e R s m args below meth c H locs cells slots Q (F0 m (pc) (ls) (.int x :: .int i :: .ref (ad o) :: rest)) := by
  have hin := of_decide_eq_true hin
  have hlo := ma_lth ho
  have hao : A (ad o) := hA _ (by rw [had o (by have := hH.2.1; omega)]; omega)
  have hc : H[ad o]? = some (arrV cI n (fun j => .int (σ o j))) := hH.2.2 o _ ho
  refine W.iast hx hb hc (hK.2.1.1 n _) (fun q => by cases q) (by rw [arrV_size]; exact hin) rfl rfl hdg fun H1 e1 z oq => kk H1 _ ?_ (hS.put z oq hao)
  have := ma_hp.put (σ' := ma_up σ o i.toNatClampNeg x) (e' := .inr (.inl (false, n))) had hH ho z oq (fun j hj => ma_up_n σ _ x hj) (by
    show H1[ad o]? = some (arrV cI n _)
    rw [e1, arrV_store, ma_up_o]
    congr 2
    funext q
    by_cases hq : q = i.toNatClampNeg
    · simp [updV, hq]
    · simp [updV, hq])
  rwa [ma_setself ho] at this
theorem mw_bast (hx : p.tables.exec = Jvm.exec) (hb : c.code = cc) (hK : ma_K D cI cZ cQ s) (had : ∀ i, i < 1000000 → ad i = h0 + i) (hH : ma_hp D cI cZ cQ ad h0 sh σ H) (hS : va_S A H0 H locs) (hA : ∀ q, h0 ≤ q → A q) {n : Nat} {i x : Int32} (ho : sh[o]? = some (.inr (.inl (true, n)))) (hin : ma_ix i n = true) (hdg : decode cc pc = .ok (.bastore, 1))
    (kk : ∀ (H1 : Heap) (locs1 : List Loc), ma_hp D cI cZ cQ ad h0 sh (ma_up σ o i.toNatClampNeg (vp_nar .boolean x)) H1 → va_S A H0 H1 locs1 → W p l e R s m args below meth c H1 locs1 cells slots Q (F0 m (pc + 1) (ls) (rest))) : W p l e R s m args below meth c H locs cells slots Q (F0 m (pc) (ls) (.int x :: .int i :: .ref (ad o) :: rest)) := by
  have hin := of_decide_eq_true hin
  have hlo := ma_lth ho
  have hao : A (ad o) := hA _ (by rw [had o (by have := hH.2.1; omega)]; omega)
  have hc : H[ad o]? = some (arrV cZ n (fun j => .int (σ o j))) := hH.2.2 o _ ho
  refine W.zast hx hb hc (hK.2.2.1.1 n _) (fun q => by cases q) (by rw [arrV_size]; exact hin) rfl rfl hdg fun H1 e1 z oq => kk H1 _ ?_ (hS.put z oq hao)
  have := ma_hp.put (σ' := ma_up σ o i.toNatClampNeg (vp_nar .boolean x)) (e' := .inr (.inl (true, n))) had hH ho z oq (fun j hj => ma_up_n σ _ _ hj) (by
    show H1[ad o]? = some (arrV cZ n _)
    rw [e1, arrV_store, ma_up_o]
    congr 2
    funext q
    by_cases hq : q = i.toNatClampNeg
    · simp [updV, hq, vp_nar]
      try rfl
    · simp [updV, hq])
  rwa [ma_setself ho] at this
end MW

/-! Equations of the small machine over the fixed shapes SH: one general row a kind of instruction. -/
def hk_cls (o : Nat) : Nat := match SH[o]? with
  | some (.inl (c, _)) => c
  | _ => 100
/-- a row of ints: its length -/
def hk_len (o : Nat) : Nat := match SH[o]? with
  | some (.inr (.inl (false, n))) => n
  | _ => 0
/-- a row of booleans: its length -/
def hk_zlen (o : Nat) : Nat := match SH[o]? with
  | some (.inr (.inl (true, n))) => n
  | _ => 0
/-- a row of references: its length -/
def hk_qlen (o : Nat) : Nat := match SH[o]? with
  | some (.inr (.inr l)) => l.length
  | _ => 0
/-- where the reference k of the object o of class c leads -/
def hk_r (c k o : Nat) : Nat := match c, k with
  | 0, 0 => o + 1
  | 1, 8 => o + 1
  | 2, 1 => o + 1
  | 2, 2 => o + 2
  | 2, 4 => o + 3
  | 3, 0 => 1
  | 3, 1 => 65
  | 4, 0 => o + 1
  | 4, 1 => o + 2
  | 4, 2 => o + 3
  | 5, 0 => o + 1
  | 5, 1 => o + 15
  | 5, 3 => o + 19
  | 5, 5 => o + 20
  | 5, 6 => o + 24
  | 5, 7 => o + 28
  | 6, 0 => o + 1
  | 7, 0 => 1
  | 7, 1 => 33
  | 7, 3 => 69
  | 7, 4 => 65
  | 7, 5 => 70
  | 7, 6 => 84
  | 7, 7 => 86
  | 7, 8 => 88
  | 7, 9 => 89
  | 8, 1 => 91
  | 8, 2 => 92
  | 8, 3 => 93
  | 8, 10 => 94
  | 8, 11 => 95
  | 8, 12 => 96
  | _, _ => 0
def hk_ok1 : Bool := (List.range 97).all fun o => match SH[o]? with
  | some (.inl (c, fs)) => Nat.blt c 9 && Nat.beq fs.length (ma_nx c) && (List.range (ma_nx c)).all fun k => decide (fs.getD k none = if ma_isRef (ma_ty c k) = true then some (some (hk_r c k o)) else none)
  | some (.inr (.inr l)) => Nat.beq l.length 6 && (List.range 6).all fun k => decide (l.getD k none = some (o + 1 + 2 * k))
  | some (.inr (.inl (_, n))) => Nat.ble n 933
  | none => false
theorem hk_ok1_t : hk_ok1 = true := by decide +kernel
theorem hk_ok {o : Nat} {e : ma_Sh} (h : SH[o]? = some e) : (match e with
  | .inl (c, fs) => c < 9 ∧ fs.length = ma_nx c ∧ ∀ k, k < ma_nx c → fs.getD k none = if ma_isRef (ma_ty c k) = true then some (some (hk_r c k o)) else none
  | .inr (.inr l) => l.length = 6 ∧ ∀ k, k < 6 → l.getD k none = some (o + 1 + 2 * k)
  | .inr (.inl (_, n)) => n ≤ 933) := by
  have ho : o < 97 := by have := ma_lth h; rw [SH_len] at this; exact this
  have h1 := List.all_eq_true.mp hk_ok1_t o (List.mem_range.mpr ho)
  rw [h] at h1
  match e, h1 with
  | .inl (c, fs), h1 =>
    obtain ⟨h2, h3⟩ := Bool.and_eq_true_iff.mp h1
    obtain ⟨h4, h5⟩ := Bool.and_eq_true_iff.mp h2
    exact ⟨Nat.le_of_ble_eq_true h4, Nat.eq_of_beq_eq_true h5, fun k hk => of_decide_eq_true (List.all_eq_true.mp h3 k (List.mem_range.mpr hk))⟩
  | .inr (.inr l), h1 =>
    obtain ⟨h2, h3⟩ := Bool.and_eq_true_iff.mp h1
    exact ⟨Nat.eq_of_beq_eq_true h2, fun k hk => of_decide_eq_true (List.all_eq_true.mp h3 k (List.mem_range.mpr hk))⟩
  | .inr (.inl (_, n)), h1 => exact Nat.le_of_ble_eq_true h1
theorem hk_cls_of {o c : Nat} (h : hk_cls o = c) (hc : c < 9) : ∃ fs, SH[o]? = some (.inl (c, fs)) := by
  unfold hk_cls at h
  split at h
  · rename_i c' fs hs
    subst h
    exact ⟨fs, hs⟩
  · omega
theorem hk_len_of {o k : Nat} (h : k < hk_len o) : SH[o]? = some (.inr (.inl (false, hk_len o))) ∧ hk_len o ≤ 933 := by
  unfold hk_len at h ⊢
  split at h
  · rename_i n hs
    rw [hs]
    exact ⟨rfl, hk_ok hs⟩
  · omega
theorem hk_zlen_of {o k : Nat} (h : k < hk_zlen o) : SH[o]? = some (.inr (.inl (true, hk_zlen o))) ∧ hk_zlen o ≤ 933 := by
  unfold hk_zlen at h ⊢
  split at h
  · rename_i n hs
    rw [hs]
    exact ⟨rfl, hk_ok hs⟩
  · omega
theorem ma_ix_nI {k n : Nat} (h : k < n) (hn : n < 2 ^ 31) : ma_ix (nI k) n = true := by
  unfold ma_ix
  exact decide_eq_true (vp_in_nI h hn)
section Q
variable {ro : ma_RO} {d m pc n own idx : Nat} {L : ma_L} {st : List Value} {sh : List ma_Sh} {σ : ma_H} {i : Instr}
theorem q_go {c' : ma_C} (hd : decode (ma_cd m) pc = .ok (i, n)) (hl : ma_lenOk i n = true) (h : ma_ex ro m i pc L st sh σ = some (.inl c')) : ma_rn ro d m (pc, L, st, sh, σ) = ma_rn ro d m c' := by
  refine ma_rn_next ?_
  unfold ma_step
  rw [hd]
  dsimp only
  rw [if_pos hl]
  exact h
theorem q_iconst {k : Int} {v : Int32} (hd : decode (ma_cd m) pc = .ok (.iconst k, 1)) (hv : Int32.ofInt k = v) : ma_rn ro d m (pc, L, st, sh, σ) = ma_rn ro d m (pc + 1, L, .int v :: st, sh, σ) := by
  subst hv
  exact q_go hd rfl rfl
theorem q_bipush {k : Int} {v : Int32} (hd : decode (ma_cd m) pc = .ok (.bipush k, 2)) (hv : (Int8.ofInt k).toInt32 = v) : ma_rn ro d m (pc, L, st, sh, σ) = ma_rn ro d m (pc + 2, L, .int v :: st, sh, σ) := by
  subst hv
  exact q_go hd rfl rfl
theorem q_sipush {k : Int} {v : Int32} (hd : decode (ma_cd m) pc = .ok (.sipush k, 3)) (hv : (Int16.ofInt k).toInt32 = v) : ma_rn ro d m (pc, L, st, sh, σ) = ma_rn ro d m (pc + 3, L, .int v :: st, sh, σ) := by
  subst hv
  exact q_go hd rfl rfl
theorem q_iinc {k : Nat} {q : Int} {x v : Int32} (hd : decode (ma_cd m) pc = .ok (.iinc k q, 3)) (hk : L[k]? = some (some (.int x))) (hb : ma_bef L k = false) (hv : Int32.ofInt q = v) : ma_rn ro d m (pc, L, st, sh, σ) = ma_rn ro d m (pc + 3, L.set k (some (.int (x + v))), st, sh, σ) := by
  subst hv
  refine q_go hd rfl ?_
  show (match L[k]? with | some (some (.int x)) => if ma_bef L k = false then (some (.inl (pc + 3, L.set k (some (.int (x + Int32.ofInt q))), st, sh, σ)) : Option ma_O) else none | _ => none) = _
  rw [hk]
  dsimp only
  rw [if_pos hb]
theorem q_idiv {x y : Int32} (hd : decode (ma_cd m) pc = .ok (.idiv, 1)) (hy : ¬ y = 0) : ma_rn ro d m (pc, L, .int y :: .int x :: st, sh, σ) = ma_rn ro d m (pc + 1, L, .int (x / y) :: st, sh, σ) := by
  refine q_go hd rfl ?_
  show ma_i2 (fun x y => if y = 0 then none else some (x / y)) pc L (.int y :: .int x :: st) sh σ = _
  unfold ma_i2
  dsimp only
  rw [if_neg hy]
theorem q_irem {x y : Int32} (hd : decode (ma_cd m) pc = .ok (.irem, 1)) (hy : ¬ y = 0) : ma_rn ro d m (pc, L, .int y :: .int x :: st, sh, σ) = ma_rn ro d m (pc + 1, L, .int (x - x / y * y) :: st, sh, σ) := by
  refine q_go hd rfl ?_
  show ma_i2 (fun x y => if y = 0 then none else some (x - x / y * y)) pc L (.int y :: .int x :: st) sh σ = _
  unfold ma_i2
  dsimp only
  rw [if_neg hy]
theorem q_ldiv {x y : Int64} (hd : decode (ma_cd m) pc = .ok (.ldiv, 1)) (hy : ¬ y = 0) : ma_rn ro d m (pc, L, .long y :: .long x :: st, sh, σ) = ma_rn ro d m (pc + 1, L, .long (x / y) :: st, sh, σ) := by
  refine q_go hd rfl ?_
  show ma_l2 (fun x y => if y = 0 then none else some (.long (x / y))) pc L (.long y :: .long x :: st) sh σ = _
  unfold ma_l2
  dsimp only
  rw [if_neg hy]
theorem q_lrem {x y : Int64} (hd : decode (ma_cd m) pc = .ok (.lrem, 1)) (hy : ¬ y = 0) : ma_rn ro d m (pc, L, .long y :: .long x :: st, sh, σ) = ma_rn ro d m (pc + 1, L, .long (x - x / y * y) :: st, sh, σ) := by
  refine q_go hd rfl ?_
  show ma_l2 (fun x y => if y = 0 then none else some (.long (x - x / y * y))) pc L (.long y :: .long x :: st) sh σ = _
  unfold ma_l2
  dsimp only
  rw [if_neg hy]
theorem q_ldc {v : Int32} (hd : decode (ma_cd m) pc = .ok (.ldc idx, 2)) (ho : ma_own m = own) (hk : ma_lk ma_kt own idx = some v) : ma_rn ro d m (pc, L, st, sh, σ) = ma_rn ro d m (pc + 2, L, .int v :: st, sh, σ) := by
  refine q_go hd rfl ?_
  show ma_ldc (ma_own m) idx pc L st sh σ = _
  unfold ma_ldc
  rw [ho, hk]
theorem q_ldcS {k : Nat} (hd : decode (ma_cd m) pc = .ok (.ldc idx, 2)) (ho : ma_own m = own) (h0 : ma_lk ma_kt own idx = none) (hk : ma_lk ma_st own idx = some k) : ma_rn ro d m (pc, L, st, sh, σ) = ma_rn ro d m (pc + 2, L, .ref (1000000 + k) :: st, sh, σ) := by
  refine q_go hd rfl ?_
  show ma_ldc (ma_own m) idx pc L st sh σ = _
  unfold ma_ldc
  rw [ho, h0, hk]
theorem q_ldc2 {v : Int64} (hd : decode (ma_cd m) pc = .ok (.ldc2_w idx, 3)) (ho : ma_own m = own) (hk : ma_lk ma_lt own idx = some v) : ma_rn ro d m (pc, L, st, sh, σ) = ma_rn ro d m (pc + 3, L, .long v :: st, sh, σ) := by
  refine q_go hd rfl ?_
  show ma_ldc2 (ma_own m) idx pc L st sh σ = _
  unfold ma_ldc2
  rw [ho, hk]
theorem q_if {c : ClassFile.Cond} {off : Int} {t : Nat} {x : Int32} (hd : decode (ma_cd m) pc = .ok (.ifCond c off, 3)) (ht : ma_tgt pc off = some t) : ma_rn ro d m (pc, L, .int x :: st, sh, σ) = if ma_cmp c x 0 = true then ma_rn ro d m (t, L, st, sh, σ) else ma_rn ro d m (pc + 3, L, st, sh, σ) := by
  have h := q_go (ro := ro) (d := d) (L := L) (st := .int x :: st) (sh := sh) (σ := σ) (c' := (if ma_cmp c x 0 = true then t else pc + 3, L, st, sh, σ)) hd rfl (by
    show ma_br (ma_cmp c x 0) off pc L st sh σ = _
    unfold ma_br
    rw [ht])
  rw [h]
  split <;> rfl
theorem q_cmp {c : ClassFile.Cond} {off : Int} {t : Nat} {x y : Int32} (hd : decode (ma_cd m) pc = .ok (.if_icmp c off, 3)) (ht : ma_tgt pc off = some t) : ma_rn ro d m (pc, L, .int y :: .int x :: st, sh, σ) = if ma_cmp c x y = true then ma_rn ro d m (t, L, st, sh, σ) else ma_rn ro d m (pc + 3, L, st, sh, σ) := by
  have h := q_go (ro := ro) (d := d) (L := L) (st := .int y :: .int x :: st) (sh := sh) (σ := σ) (c' := (if ma_cmp c x y = true then t else pc + 3, L, st, sh, σ)) hd rfl (by
    show ma_br (ma_cmp c x y) off pc L st sh σ = _
    unfold ma_br
    rw [ht])
  rw [h]
  split <;> rfl
theorem q_nlt {α : Type} {x y : Int32} {a b : α} : (if ma_cmp .ge x y = true then a else b) = if x < y then b else a := by
  by_cases h : x < y
  · have h2 : ¬ y ≤ x := Int32.not_le.mpr h
    simp [ma_cmp, h, h2]
  · have h2 : y ≤ x := Int32.not_lt.mp h
    simp [ma_cmp, h, h2]
theorem q_ngt {α : Type} {x y : Int32} {a b : α} : (if ma_cmp .le x y = true then a else b) = if y < x then b else a := by
  by_cases h : y < x
  · have h2 : ¬ x ≤ y := Int32.not_le.mpr h
    simp [ma_cmp, h, h2]
  · have h2 : x ≤ y := Int32.not_lt.mp h
    simp [ma_cmp, h, h2]
theorem q_lt {α : Type} {x y : Int32} {a b : α} : (if ma_cmp .lt x y = true then a else b) = if x < y then a else b := by simp [ma_cmp]
theorem q_gt {α : Type} {x y : Int32} {a b : α} : (if ma_cmp .gt x y = true then a else b) = if y < x then a else b := by simp [ma_cmp]
theorem q_eq {α : Type} {x y : Int32} {a b : α} : (if ma_cmp .eq x y = true then a else b) = if x = y then a else b := by simp [ma_cmp]
theorem q_ne {α : Type} {x y : Int32} {a b : α} : (if ma_cmp .ne x y = true then a else b) = if x = y then b else a := by
  by_cases h : x = y <;> simp [ma_cmp, h]
theorem q_goto {off : Int} {t : Nat} (hd : decode (ma_cd m) pc = .ok (.goto off, 3)) (ht : ma_tgt pc off = some t) : ma_rn ro d m (pc, L, st, sh, σ) = ma_rn ro d m (t, L, st, sh, σ) := by
  refine q_go hd rfl ?_
  show ma_br true off pc L st sh σ = _
  unfold ma_br
  rw [ht]
  rfl
theorem q_ifnullR {off : Int} {t a : Nat} (hd : decode (ma_cd m) pc = .ok (.ifnull off, 3)) (ht : ma_tgt pc off = some t) : ma_rn ro d m (pc, L, .ref a :: st, sh, σ) = ma_rn ro d m (pc + 3, L, st, sh, σ) := by
  refine q_go hd rfl ?_
  show ma_br false off pc L st sh σ = _
  unfold ma_br
  rw [ht]
  rfl
theorem q_ifnullN {off : Int} {t : Nat} (hd : decode (ma_cd m) pc = .ok (.ifnull off, 3)) (ht : ma_tgt pc off = some t) : ma_rn ro d m (pc, L, .null :: st, sh, σ) = ma_rn ro d m (t, L, st, sh, σ) := by
  refine q_go hd rfl ?_
  show ma_br true off pc L st sh σ = _
  unfold ma_br
  rw [ht]
  rfl
theorem q_ifnonnullR {off : Int} {t a : Nat} (hd : decode (ma_cd m) pc = .ok (.ifnonnull off, 3)) (ht : ma_tgt pc off = some t) : ma_rn ro d m (pc, L, .ref a :: st, sh, σ) = ma_rn ro d m (t, L, st, sh, σ) := by
  refine q_go hd rfl ?_
  show ma_br true off pc L st sh σ = _
  unfold ma_br
  rw [ht]
  rfl
theorem q_ifnonnullN {off : Int} {t : Nat} (hd : decode (ma_cd m) pc = .ok (.ifnonnull off, 3)) (ht : ma_tgt pc off = some t) : ma_rn ro d m (pc, L, .null :: st, sh, σ) = ma_rn ro d m (pc + 3, L, st, sh, σ) := by
  refine q_go hd rfl ?_
  show ma_br false off pc L st sh σ = _
  unfold ma_br
  rw [ht]
  rfl
theorem q_getI {ci k o : Nat} (hd : decode (ma_cd m) pc = .ok (.getfield idx, 3)) (ho : ma_own m = own) (hf : ma_lk ma_ft own idx = some (ci, k)) (hk : ci < 9 ∧ k < ma_nx ci ∧ ma_isRef (ma_ty ci k) = false) (hc : hk_cls o = ci) : ma_rn ro d m (pc, L, .ref o :: st, SH, σ) = ma_rn ro d m (pc + 3, L, .int (σ o k) :: st, SH, σ) := by
  obtain ⟨fs, hs⟩ := hk_cls_of hc hk.1
  refine q_go hd rfl ?_
  show ma_getf (ma_own m) idx pc L (.ref o :: st) SH σ = _
  unfold ma_getf
  rw [ho]
  dsimp only
  rw [hf, hs]
  dsimp only
  rw [if_pos rfl]
  have := (hk_ok hs).2.2 k hk.2.1
  rw [if_neg (by rw [hk.2.2]; decide)] at this
  simp only [ma_fv, this]
theorem q_getA {ci k o : Nat} (hd : decode (ma_cd m) pc = .ok (.getfield idx, 3)) (ho : ma_own m = own) (hf : ma_lk ma_ft own idx = some (ci, k)) (hk : ci < 9 ∧ k < ma_nx ci ∧ ma_isRef (ma_ty ci k) = true) (hc : hk_cls o = ci) : ma_rn ro d m (pc, L, .ref o :: st, SH, σ) = ma_rn ro d m (pc + 3, L, .ref (hk_r ci k o) :: st, SH, σ) := by
  obtain ⟨fs, hs⟩ := hk_cls_of hc hk.1
  refine q_go hd rfl ?_
  show ma_getf (ma_own m) idx pc L (.ref o :: st) SH σ = _
  unfold ma_getf
  rw [ho]
  dsimp only
  rw [hf, hs]
  dsimp only
  rw [if_pos rfl]
  have := (hk_ok hs).2.2 k hk.2.1
  rw [if_pos hk.2.2] at this
  simp only [ma_fv, this]
theorem q_putI {ci k o : Nat} {x : Int32} (hd : decode (ma_cd m) pc = .ok (.putfield idx, 3)) (ho : ma_own m = own) (hf : ma_lk ma_ft own idx = some (ci, k)) (hk : ci < 9 ∧ k < ma_nx ci ∧ ma_isRef (ma_ty ci k) = false ∧ (ma_tx ci k).2.2.2 = false) (hx : ma_fitI (ma_ty ci k) x = true) (hc : hk_cls o = ci) : ma_rn ro d m (pc, L, .int x :: .ref o :: st, SH, σ) = ma_rn ro d m (pc + 3, L, st, SH, ma_up σ o k x) := by
  obtain ⟨fs, hs⟩ := hk_cls_of hc hk.1
  refine q_go hd rfl ?_
  show ma_putf m (ma_own m) idx pc L (.int x :: .ref o :: st) SH σ = _
  unfold ma_putf
  rw [ho]
  dsimp only
  rw [hf, hs]
  dsimp only
  have := (hk_ok hs).2.2 k hk.2.1
  rw [if_neg (by rw [hk.2.2.1]; decide)] at this
  rw [if_pos ⟨rfl, by unfold ma_finOk; rw [hk.2.2.2]; rfl⟩, if_pos ⟨this, hx⟩]
theorem q_iald {k o : Nat} (hd : decode (ma_cd m) pc = .ok (.iaload, 1)) (hk : k < hk_len o) : ma_rn ro d m (pc, L, .int (nI k) :: .ref o :: st, SH, σ) = ma_rn ro d m (pc + 1, L, .int (σ o k) :: st, SH, σ) := by
  obtain ⟨hs, hl⟩ := hk_len_of hk
  refine q_go hd rfl ?_
  show ma_iald ro pc L (.int (nI k) :: .ref o :: st) SH σ = _
  unfold ma_iald
  dsimp only
  rw [hs]
  dsimp only
  rw [if_pos (ma_ix_nI hk (by omega)), nI_clamp (by omega)]
theorem q_bald {k o : Nat} (hd : decode (ma_cd m) pc = .ok (.baload, 1)) (hk : k < hk_zlen o) : ma_rn ro d m (pc, L, .int (nI k) :: .ref o :: st, SH, σ) = ma_rn ro d m (pc + 1, L, .int (σ o k) :: st, SH, σ) := by
  obtain ⟨hs, hl⟩ := hk_zlen_of hk
  refine q_go hd rfl ?_
  show ma_bald pc L (.int (nI k) :: .ref o :: st) SH σ = _
  unfold ma_bald
  dsimp only
  rw [hs]
  dsimp only
  rw [if_pos (ma_ix_nI hk (by omega)), nI_clamp (by omega)]
theorem q_iast {k o : Nat} {x : Int32} (hd : decode (ma_cd m) pc = .ok (.iastore, 1)) (hk : k < hk_len o) : ma_rn ro d m (pc, L, .int x :: .int (nI k) :: .ref o :: st, SH, σ) = ma_rn ro d m (pc + 1, L, st, SH, ma_up σ o k x) := by
  obtain ⟨hs, hl⟩ := hk_len_of hk
  refine q_go hd rfl ?_
  show ma_iast pc L (.int x :: .int (nI k) :: .ref o :: st) SH σ = _
  unfold ma_iast
  dsimp only
  rw [hs]
  dsimp only
  rw [if_pos (ma_ix_nI hk (by omega)), nI_clamp (by omega)]
theorem q_bast {k o : Nat} {x : Int32} (hd : decode (ma_cd m) pc = .ok (.bastore, 1)) (hk : k < hk_zlen o) : ma_rn ro d m (pc, L, .int x :: .int (nI k) :: .ref o :: st, SH, σ) = ma_rn ro d m (pc + 1, L, st, SH, ma_up σ o k (vp_nar .boolean x)) := by
  obtain ⟨hs, hl⟩ := hk_zlen_of hk
  refine q_go hd rfl ?_
  show ma_bast pc L (.int x :: .int (nI k) :: .ref o :: st) SH σ = _
  unfold ma_bast
  dsimp only
  rw [hs]
  dsimp only
  rw [if_pos (ma_ix_nI hk (by omega)), nI_clamp (by omega)]
theorem q_aald {k o : Nat} (hd : decode (ma_cd m) pc = .ok (.aaload, 1)) (ho : hk_qlen o = 6) (hk : k < 6) : ma_rn ro d m (pc, L, .int (nI k) :: .ref o :: st, SH, σ) = ma_rn ro d m (pc + 1, L, .ref (o + 1 + 2 * k) :: st, SH, σ) := by
  obtain ⟨lr, hs⟩ : ∃ lr : List (Option Nat), SH[o]? = some (.inr (.inr lr)) := by
    unfold hk_qlen at ho
    split at ho
    · rename_i lr hs; exact ⟨lr, hs⟩
    · omega
  obtain ⟨h6, hl⟩ := hk_ok hs
  refine q_go hd rfl ?_
  show ma_aald pc L (.int (nI k) :: .ref o :: st) SH σ = _
  unfold ma_aald
  dsimp only
  rw [hs]
  dsimp only
  rw [if_pos (ma_ix_nI (by omega) (by omega)), nI_clamp (by omega), hl k hk]
  rfl
def hk_alen (o : Nat) : Nat := match SH[o]? with
  | some (.inr (.inl (_, n))) => n
  | some (.inr (.inr l)) => l.length
  | _ => 0
theorem q_alen {n o : Nat} (hd : decode (ma_cd m) pc = .ok (.arraylength, 1)) (hn : hk_alen o = n) (h0 : 0 < n) : ma_rn ro d m (pc, L, .ref o :: st, SH, σ) = ma_rn ro d m (pc + 1, L, .int (nI n) :: st, SH, σ) := by
  refine q_go hd rfl ?_
  have : ma_alen ro SH o = some n := by
    unfold hk_alen at hn
    unfold ma_alen
    split at hn
    · rename_i hs; rw [hs]; dsimp only; rw [hn]
    · rename_i hs; rw [hs]; dsimp only; rw [hn]
    · omega
  simp only [ma_ex, this]
  rfl
theorem q_call {m' : Nat} {as rest : List Value} (hd : decode (ma_cd m) pc = .ok (i, n)) (hl : ma_lenOk i n = true) (h : ma_ex ro m i pc L st sh σ = some (.inr (.inl (m', as, rest)))) :
    ma_rn ro (d + 1) m (pc, L, st, sh, σ) = (ma_ev ro d m' as sh σ).bind (fun q => ma_rn ro (d + 1) m (pc + 3, L, q.1.toList ++ rest, q.2.1, q.2.2)) := by
  refine ma_rn_call ?_
  unfold ma_step
  dsimp only
  rw [hd]
  dsimp only
  rw [if_pos hl]
  exact h
theorem q_invS {m' mx np : Nat} {b : Bool} {as rest : List Value} (hd : decode (ma_cd m) pc = .ok (.invokestatic idx, 3)) (ho : ma_own m = own) (hbt : ma_lk ma_bt own idx = none) (hct : ma_lk ma_ct own idx = some (m', b)) (hm : ma_kd m' = 1 ∧ ma_np m' = np ∧ ma_mx m' = mx) (hst : st = as.reverse ++ rest) (hn : as.length = np) (hlay : (ma_lay as).length ≤ mx) (hcs : ma_cs rest ≤ 8) :
    ma_rn ro (d + 1) m (pc, L, st, sh, σ) = (ma_ev ro d m' as sh σ).bind (fun q => ma_rn ro (d + 1) m (pc + 3, L, q.1.toList ++ rest, q.2.1, q.2.2)) := by
  refine q_call hd rfl ?_
  show ma_invS (ma_own m) idx pc L st sh σ = _
  unfold ma_invS
  rw [ho, hbt]
  dsimp only
  rw [hct]
  dsimp only
  have e1 : as.reverse.length = np := by rw [List.length_reverse]; exact hn
  rw [hm.2.1, if_pos ⟨hm.1, by rw [hst, List.length_append]; omega⟩, hst, List.take_left' e1, List.drop_left' e1, List.reverse_reverse]
  unfold ma_call
  rw [hm.2.2, if_pos ⟨hlay, hcs⟩]
theorem q_invO {m' mx np kd o co : Nat} {b : Bool} {as rest : List Value} (hct : ma_lk ma_ct own idx = some (m', b)) (hm : ma_kd m' = kd ∧ ma_np m' = np ∧ ma_mx m' = mx ∧ ma_own m' = co) (hco : co < 9) (hn : as.length = np) (hlay : (ma_lay (.ref o :: as)).length ≤ mx) (hcs : ma_cs rest ≤ 8) (hc : hk_cls o = co) :
    ma_invO kd own idx (as.reverse ++ .ref o :: rest) SH = some (.inr (.inl (m', .ref o :: as, rest))) := by
  obtain ⟨fs, hs⟩ := hk_cls_of hc hco
  unfold ma_invO
  rw [hct]
  dsimp only
  have e1 : as.reverse.length = np := by rw [List.length_reverse]; exact hn
  rw [hm.2.1, if_pos ⟨hm.1, by rw [List.length_append]; omega⟩, List.drop_left' e1]
  dsimp only
  rw [hs]
  dsimp only
  rw [if_pos hm.2.2.2.symm, List.take_left' e1, List.reverse_reverse]
  unfold ma_call
  rw [hm.2.2.1, if_pos ⟨hlay, hcs⟩]
theorem q_invV {m' mx np o co : Nat} {b : Bool} {as rest : List Value} (hd : decode (ma_cd m) pc = .ok (.invokevirtual idx, 3)) (ho : ma_own m = own) (hbt : ma_lk ma_bt own idx = none) (hct : ma_lk ma_ct own idx = some (m', b)) (hm : ma_kd m' = 0 ∧ ma_np m' = np ∧ ma_mx m' = mx ∧ ma_own m' = co) (hco : co < 9) (hst : st = as.reverse ++ .ref o :: rest) (hn : as.length = np) (hlay : (ma_lay (.ref o :: as)).length ≤ mx) (hcs : ma_cs rest ≤ 8) (hc : hk_cls o = co) :
    ma_rn ro (d + 1) m (pc, L, st, SH, σ) = (ma_ev ro d m' (.ref o :: as) SH σ).bind (fun q => ma_rn ro (d + 1) m (pc + 3, L, q.1.toList ++ rest, q.2.1, q.2.2)) := by
  refine q_call hd rfl ?_
  show ma_invV (ma_own m) idx pc L st SH σ = _
  unfold ma_invV
  rw [ho, hbt]
  dsimp only
  rw [hst]
  exact q_invO hct hm hco hn hlay hcs hc
theorem q_bt {b : Nat} {x y : Int32} (hd : decode (ma_cd m) pc = .ok (.invokestatic idx, 3)) (ho : ma_own m = own) (hbt : ma_lk ma_bt own idx = some b) (hb : b = 0 ∨ b = 1) (hcs : ma_cs st ≤ 8) : ma_rn ro d m (pc, L, .int y :: .int x :: st, sh, σ) = ma_rn ro d m (pc + 3, L, .int (if b = 0 then (if x < y then y else x) else (if y < x then y else x)) :: st, sh, σ) := by
  refine q_go hd rfl ?_
  show ma_invS (ma_own m) idx pc L (.int y :: .int x :: st) sh σ = _
  unfold ma_invS
  rw [ho, hbt]
  dsimp only
  rcases hb with rfl | rfl
  · show (if ma_cs st ≤ 8 then (some (Sum.inl (pc + 3, L, Value.int (if x < y then y else x) :: st, sh, σ)) : Option ma_O) else none) = _
    rw [if_pos hcs]
    rfl
  · show (if ma_cs st ≤ 8 then (some (Sum.inl (pc + 3, L, Value.int (if y < x then y else x) :: st, sh, σ)) : Option ma_O) else none) = _
    rw [if_pos hcs]
    rfl
theorem q_slen {k : Nat} (hd : decode (ma_cd m) pc = .ok (.invokevirtual idx, 3)) (ho : ma_own m = own) (hbt : ma_lk ma_bt own idx = some 2) (hk : k < 7) (hcs : ma_cs st ≤ 8) : ma_rn ro d m (pc, L, .ref (1000000 + k) :: st, sh, σ) = ma_rn ro d m (pc + 3, L, .int (nI (ma_chs k).length) :: st, sh, σ) := by
  refine q_go hd rfl ?_
  show ma_invV (ma_own m) idx pc L (.ref (1000000 + k) :: st) sh σ = _
  unfold ma_invV
  rw [ho, hbt]
  show (if 1000000 ≤ 1000000 + k ∧ 1000000 + k < 1000007 ∧ ma_cs st ≤ 8 then (some (Sum.inl (pc + 3, L, Value.int (Int32.ofNat (ma_chs (1000000 + k - 1000000)).length) :: st, sh, σ)) : Option ma_O) else none) = _
  rw [if_pos ⟨by omega, by omega, hcs⟩, show 1000000 + k - 1000000 = k by omega]
  rfl
theorem q_schar {k j : Nat} (hd : decode (ma_cd m) pc = .ok (.invokevirtual idx, 3)) (ho : ma_own m = own) (hbt : ma_lk ma_bt own idx = some 3) (hk : k < 7) (hj : j < (ma_chs k).length) (hcs : ma_cs st ≤ 8) : ma_rn ro d m (pc, L, .int (nI j) :: .ref (1000000 + k) :: st, sh, σ) = ma_rn ro d m (pc + 3, L, .int ((ma_chs k).getD j 0) :: st, sh, σ) := by
  have hl := (mj_chs_ok k hk).1
  refine q_go hd rfl ?_
  show ma_invV (ma_own m) idx pc L (.int (nI j) :: .ref (1000000 + k) :: st) sh σ = _
  unfold ma_invV
  rw [ho, hbt]
  show (if (1000000 ≤ 1000000 + k ∧ 1000000 + k < 1000007 ∧ ma_cs st ≤ 8) ∧ ma_ix (nI j) (ma_chs (1000000 + k - 1000000)).length = true then (some (Sum.inl (pc + 3, L, Value.int ((ma_chs (1000000 + k - 1000000)).getD (nI j).toNatClampNeg 0) :: st, sh, σ)) : Option ma_O) else none) = _
  rw [show 1000000 + k - 1000000 = k by omega, if_pos ⟨⟨by omega, by omega, hcs⟩, ma_ix_nI hj (by omega)⟩, nI_clamp (by omega)]
theorem q_ret {v : Option Value} (hd : decode (ma_cd m) pc = .ok (i, n)) (hl : ma_lenOk i n = true) (h : ma_ex ro m i pc L st sh σ = some (.inr (.inr v))) : ma_rn ro d m (pc, L, st, sh, σ) = some (v, sh, σ) := by
  refine ma_rn_ret ?_
  unfold ma_step
  dsimp only
  rw [hd]
  dsimp only
  rw [if_pos hl]
  exact h
theorem q_iret {x : Int32} (hd : decode (ma_cd m) pc = .ok (.ireturn, 1)) (hr : ma_rt m = some .int) : ma_rn ro d m (pc, L, [.int x], sh, σ) = some (some (.int x), sh, σ) := by
  refine q_ret hd rfl ?_
  show ma_iret m [.int x] = _
  unfold ma_iret
  rw [hr]
  rfl
theorem q_zret {x : Int32} (hd : decode (ma_cd m) pc = .ok (.ireturn, 1)) (hr : ma_rt m = some .boolean) (hx : ma_fitI .boolean x = true) : ma_rn ro d m (pc, L, [.int x], sh, σ) = some (some (.int x), sh, σ) := by
  refine q_ret hd rfl ?_
  show ma_iret m [.int x] = _
  unfold ma_iret
  rw [hr]
  dsimp only
  rw [if_pos hx]
theorem q_lret {x : Int64} (hd : decode (ma_cd m) pc = .ok (.lreturn, 1)) (hr : ma_rt m = some .long) : ma_rn ro d m (pc, L, [.long x], sh, σ) = some (some (.long x), sh, σ) := by
  refine q_ret hd rfl ?_
  show ma_lret m [.long x] = _
  unfold ma_lret
  dsimp only
  rw [if_pos hr]
theorem q_aret {v : Value} (hd : decode (ma_cd m) pc = .ok (.areturn, 1)) (hr : ma_rt m = some (.object RX1)) (hv : ma_isA v = true) : ma_rn ro d m (pc, L, [v], sh, σ) = some (some v, sh, σ) := by
  refine q_ret hd rfl ?_
  show ma_aret m [v] = _
  unfold ma_aret
  dsimp only
  rw [if_pos ⟨hv, hr⟩]
theorem q_vret (hd : decode (ma_cd m) pc = .ok (.return_, 1)) (hr : ma_rt m = none) : ma_rn ro d m (pc, L, [], sh, σ) = some (none, sh, σ) := by
  refine q_ret hd rfl ?_
  show ma_vret m [] = _
  unfold ma_vret
  dsimp only
  rw [if_pos hr]
theorem q_ent {as : List Value} {mx : Nat} {L0 : ma_L} (hm : ma_mx m = mx) (hL : ma_lay as ++ List.replicate (mx - (ma_lay as).length) none = L0) : ma_ev ro d m as sh σ = ma_rn ro d m (0, L0, [], sh, σ) := by
  unfold ma_ev ma_ent
  rw [hm, hL]
/-- a table switch: the case x = k -/
theorem q_tswIn {dd lo hi : Int} {offs : Array Int} {k off : Int} {t : Nat} {x v : Int32} (hd : decode (ma_cd m) pc = .ok (.tableswitch dd lo hi offs, n)) (hx : x = v) (hv : v.toInt = k) (h1 : ¬ k < lo) (h2 : ¬ hi < k) (ho : offs[(k - lo).toNat]? = some off) (ht : ma_tgt pc off = some t) : ma_rn ro d m (pc, L, .int x :: st, sh, σ) = ma_rn ro d m (t, L, st, sh, σ) := by
  subst hx
  refine q_go hd rfl ?_
  show ma_tsw dd lo hi offs pc L (.int x :: st) sh σ = _
  unfold ma_tsw
  dsimp only
  rw [hv, if_neg (by omega), ho]
  dsimp only
  rw [ht]
theorem q_tswOut {dd lo hi : Int} {offs : Array Int} {t : Nat} {x : Int32} (hd : decode (ma_cd m) pc = .ok (.tableswitch dd lo hi offs, n)) (hx : x.toInt < lo ∨ hi < x.toInt) (ht : ma_tgt pc dd = some t) : ma_rn ro d m (pc, L, .int x :: st, sh, σ) = ma_rn ro d m (t, L, st, sh, σ) := by
  refine q_go hd rfl ?_
  show ma_tsw dd lo hi offs pc L (.int x :: st) sh σ = _
  unfold ma_tsw
  dsimp only
  rw [if_pos hx]
  dsimp only
  rw [ht]
theorem q_lsw {dd : Int} {ps : Array (Int × Int)} {t : Nat} {x : Int32} (hd : decode (ma_cd m) pc = .ok (.lookupswitch dd ps, n)) (hp : (ps.toList.zip (ps.toList.drop 1)).all (fun (a, next) => a.1 < next.1) = true) (ht : ma_tgt pc (Op.lookupswitch.offset ps.toList dd x.toInt) = some t) : ma_rn ro d m (pc, L, .int x :: st, sh, σ) = ma_rn ro d m (t, L, st, sh, σ) := by
  refine q_go hd rfl ?_
  show ma_lsw dd ps pc L (.int x :: st) sh σ = _
  unfold ma_lsw
  dsimp only
  rw [if_pos hp, ht]
theorem q_ne_toInt {x v : Int32} (h : ¬ x = v) : x.toInt ≠ v.toInt := fun e => h (Int32.toInt_inj.mp e)
theorem q_nnI {x : Int32} {k : Nat} (h : ¬ x = nI k) (hk : k < 2 ^ 31) : ¬ x.toInt = (k : Int) := fun e => h (Int32.toInt_inj.mp (by rw [e, nI_toInt hk]))
end Q

/-! Locals; what each step of the small machine can have been. -/
theorem ma_vt_cat (ad : Nat → Nat) (v : Value) : (ma_vt ad v).category = v.category := by cases v <;> rfl
def ma_ll (ad : Nat → Nat) (L : ma_L) : List (Nat × Value) := (List.range L.length).filterMap (fun i => match L[i]? with
  | some (some v) => some (i, ma_vt ad v)
  | _ => none)
theorem ma_ll_mem {ad : Nat → Nat} {L : ma_L} {i : Nat} {w : Value} : (i, w) ∈ ma_ll ad L ↔ ∃ v, L[i]? = some (some v) ∧ w = ma_vt ad v := by
  unfold ma_ll
  rw [List.mem_filterMap]
  constructor
  · rintro ⟨j, -, h⟩
    split at h
    · rename_i v hv
      cases h
      exact ⟨v, hv, rfl⟩
    · cases h
  · rintro ⟨v, hv, rfl⟩
    refine ⟨i, List.mem_range.mpr (List.getElem?_eq_some_iff.mp hv).1, ?_⟩
    rw [hv]
def ma_lr (ad : Nat → Nat) (ls : Array Slot) (nL : Nat) (L : ma_L) : Prop := lv_has ls nL (ma_ll ad L) ∧ L.length = nL
theorem ma_lr.at {ad : Nat → Nat} {ls : Array Slot} {nL i : Nat} {L : ma_L} {v : Value} (h : ma_lr ad ls nL L) (hi : L[i]? = some (some v)) : ls[i]? = some (.val (ma_vt ad v)) := h.1.2.2 (i, _) (ma_ll_mem.mpr ⟨v, hi, rfl⟩)
theorem ma_bef_of {L : ma_L} {j : Nat} {v : Value} (h : ma_bef L (j + 1) = false) (hj : L[j]? = some (some v)) : ¬ v.category = 2 := by
  simp only [ma_bef, hj, beq_eq_false_iff_ne] at h
  exact h
theorem ma_lr.s1 {ad : Nat → Nat} {ls ls' : Array Slot} {nL i : Nat} {L : ma_L} {v : Value} (h : ma_lr ad ls nL L) (hb : ma_bef L i = false) (hi : i < L.length) (h' : lv_has ls' nL ((i, ma_vt ad v) :: (ma_ll ad L).filter (fun q => !(q.1 == i) && !(q.1 + 1 == i && q.2.category == 2)))) : ma_lr ad ls' nL (L.set i (some v)) := by
  refine ⟨⟨h'.1, h'.2.1, fun q hq => ?_⟩, by rw [List.length_set]; exact h.2⟩
  obtain ⟨j, w⟩ := q
  obtain ⟨x, hx, rfl⟩ := ma_ll_mem.mp hq
  by_cases hj : j = i
  · subst hj
    rw [List.getElem?_set_self hi] at hx
    cases hx
    exact h'.2.2 _ List.mem_cons_self
  · rw [List.getElem?_set_ne (Ne.symm hj)] at hx
    refine h'.2.2 (j, ma_vt ad x) (List.mem_cons_of_mem _ (List.mem_filter.mpr ⟨ma_ll_mem.mpr ⟨x, hx, rfl⟩, ?_⟩))
    simp only [Bool.and_eq_true, Bool.not_eq_true', beq_eq_false_iff_ne, ne_eq, Bool.and_eq_false_iff]
    refine ⟨hj, ?_⟩
    by_cases hj1 : j + 1 = i
    · subst hj1
      right
      rw [ma_vt_cat]
      exact ma_bef_of hb hx
    · exact Or.inl hj1
theorem ma_lr.s2 {ad : Nat → Nat} {ls ls' : Array Slot} {nL i : Nat} {L : ma_L} {v : Value} (h : ma_lr ad ls nL L) (hb : ma_bef L i = false) (hi : i + 1 < L.length) (h' : lv_has ls' nL ((i, ma_vt ad v) :: (ma_ll ad L).filter (fun q => !(q.1 == i) && (!(q.1 == i + 1) && !(q.1 + 1 == i && q.2.category == 2))))) : ma_lr ad ls' nL ((L.set i (some v)).set (i + 1) none) := by
  refine ⟨⟨h'.1, h'.2.1, fun q hq => ?_⟩, by rw [List.length_set, List.length_set]; exact h.2⟩
  obtain ⟨j, w⟩ := q
  obtain ⟨x, hx, rfl⟩ := ma_ll_mem.mp hq
  by_cases hj2 : j = i + 1
  · subst hj2
    rw [List.getElem?_set_self (by rw [List.length_set]; exact hi)] at hx
    cases hx
  rw [List.getElem?_set_ne (Ne.symm hj2)] at hx
  by_cases hj : j = i
  · subst hj
    rw [List.getElem?_set_self (by omega)] at hx
    cases hx
    exact h'.2.2 _ List.mem_cons_self
  · rw [List.getElem?_set_ne (Ne.symm hj)] at hx
    refine h'.2.2 (j, ma_vt ad x) (List.mem_cons_of_mem _ (List.mem_filter.mpr ⟨ma_ll_mem.mpr ⟨x, hx, rfl⟩, ?_⟩))
    simp only [Bool.and_eq_true, Bool.not_eq_true', beq_eq_false_iff_ne, ne_eq, Bool.and_eq_false_iff]
    refine ⟨hj, hj2, ?_⟩
    by_cases hj1 : j + 1 = i
    · subst hj1
      right
      rw [ma_vt_cat]
      exact ma_bef_of hb hx
    · exact Or.inl hj1
section INV
variable {q : Value → Bool} {i pc pc' idx own m : Nat} {L : ma_L} {st : List Value} {sh : List ma_Sh} {σ : ma_H} {c' : ma_C} {ro : ma_RO}
theorem ma_isI_inv {v : Value} (h : ma_isI v = true) : ∃ x, v = .int x := by cases v <;> first | exact ⟨_, rfl⟩ | cases h
theorem ma_isL_inv {v : Value} (h : ma_isL v = true) : ∃ x, v = .long x := by cases v <;> first | exact ⟨_, rfl⟩ | cases h
theorem ma_isA_inv {v : Value} (h : ma_isA v = true) : v = .null ∨ ∃ x, v = .ref x := by cases v <;> first | exact Or.inl rfl | exact Or.inr ⟨_, rfl⟩ | cases h
theorem ma_ld_inv (h : ma_ld q i pc' L st sh σ = some (.inl c')) : ∃ v, L[i]? = some (some v) ∧ q v = true ∧ c' = (pc', L, v :: st, sh, σ) := by
  unfold ma_ld at h
  split at h
  · rename_i v hv
    split at h
    · rename_i hq; cases h; exact ⟨v, hv, hq, rfl⟩
    · cases h
  · cases h
theorem ma_s1_inv (h : ma_s1 q i pc' L st sh σ = some (.inl c')) : ∃ v r, st = v :: r ∧ q v = true ∧ ma_bef L i = false ∧ i < L.length ∧ c' = (pc', L.set i (some v), r, sh, σ) := by
  unfold ma_s1 at h
  split at h
  · rename_i v r
    split at h
    · rename_i hq; cases h; exact ⟨v, r, rfl, hq.1, hq.2.1, hq.2.2, rfl⟩
    · cases h
  · cases h
theorem ma_s2_inv (h : ma_s2 i pc' L st sh σ = some (.inl c')) : ∃ x r, st = .long x :: r ∧ ma_bef L i = false ∧ i + 1 < L.length ∧ c' = (pc', (L.set i (some (.long x))).set (i + 1) none, r, sh, σ) := by
  unfold ma_s2 at h
  split at h
  · rename_i v r
    split at h
    · rename_i hq; cases h; exact ⟨v, r, rfl, hq.1, hq.2, rfl⟩
    · cases h
  · cases h
theorem ma_i2_inv {f : Int32 → Int32 → Option Int32} (h : ma_i2 f pc L st sh σ = some (.inl c')) : ∃ x y r v, st = .int y :: .int x :: r ∧ f x y = some v ∧ c' = (pc + 1, L, .int v :: r, sh, σ) := by
  unfold ma_i2 at h
  split at h
  · rename_i y x r
    split at h
    · rename_i v hv; cases h; exact ⟨x, y, r, v, rfl, hv, rfl⟩
    · cases h
  · cases h
theorem ma_l2_inv {f : Int64 → Int64 → Option Value} (h : ma_l2 f pc L st sh σ = some (.inl c')) : ∃ x y r v, st = .long y :: .long x :: r ∧ f x y = some v ∧ c' = (pc + 1, L, v :: r, sh, σ) := by
  unfold ma_l2 at h
  split at h
  · rename_i y x r
    split at h
    · rename_i v hv; cases h; exact ⟨x, y, r, v, rfl, hv, rfl⟩
    · cases h
  · cases h
theorem ma_tgt_inv {off : Int} {t : Nat} (h : ma_tgt pc off = some t) : (pc : Int) + off = (t : Int) := by
  unfold ma_tgt at h
  split at h
  · rename_i h0; cases h; omega
  · cases h
theorem ma_br_inv {b : Bool} {off : Int} (h : ma_br b off pc L st sh σ = some (.inl c')) : ∃ t : Nat, (pc : Int) + off = (t : Int) ∧ c' = (if b = true then t else pc + 3, L, st, sh, σ) := by
  unfold ma_br at h
  split at h
  · rename_i t ht; cases h; exact ⟨t, ma_tgt_inv ht, rfl⟩
  · cases h
theorem ma_getf_inv (h : ma_getf own idx pc L st sh σ = some (.inl c')) : ∃ o r ci k fs, st = .ref o :: r ∧ ma_lk ma_ft own idx = some (ci, k) ∧ sh[o]? = some (.inl (ci, fs)) ∧ c' = (pc + 3, L, ma_fv fs (σ o) k :: r, sh, σ) := by
  unfold ma_getf at h
  split at h
  · rename_i o r
    split at h
    · rename_i ci k c fs h1 h2
      split at h
      · rename_i hc; subst hc; cases h; exact ⟨o, r, _, k, fs, rfl, h1, h2, rfl⟩
      · cases h
    · cases h
  · cases h
theorem ma_putf_inv (h : ma_putf m own idx pc L st sh σ = some (.inl c')) : ∃ o r ci k fs, ma_lk ma_ft own idx = some (ci, k) ∧ sh[o]? = some (.inl (ci, fs)) ∧ ma_finOk m own ci k = true ∧
    ((∃ x, st = .int x :: .ref o :: r ∧ fs.getD k none = none ∧ ma_fitI (ma_ty ci k) x = true ∧ c' = (pc + 3, L, r, sh, ma_up σ o k x)) ∨
     (∃ z : Option Nat, st = ma_rv z :: .ref o :: r ∧ ma_isRef (ma_ty ci k) = true ∧ c' = (pc + 3, L, r, sh.set o (.inl (ci, fs.set k (some z))), σ))) := by
  unfold ma_putf at h
  split at h
  · rename_i v o r
    split at h
    · rename_i ci k c fs h1 h2
      split at h
      · rename_i hc
        obtain ⟨hc, hf⟩ := hc
        subst hc
        split at h
        · rename_i x
          split at h
          · rename_i hq; cases h; exact ⟨o, r, _, k, fs, h1, h2, hf, Or.inl ⟨x, rfl, hq.1, hq.2, rfl⟩⟩
          · cases h
        · split at h
          · rename_i hq; cases h; exact ⟨o, r, _, k, fs, h1, h2, hf, Or.inr ⟨none, rfl, hq, rfl⟩⟩
          · cases h
        · rename_i a
          split at h
          · rename_i hq; cases h; exact ⟨o, r, _, k, fs, h1, h2, hf, Or.inr ⟨some a, rfl, hq, rfl⟩⟩
          · cases h
        · cases h
      · cases h
    · cases h
  · cases h
theorem ma_alen_inv {o n : Nat} (h : ma_alen ro sh o = some n) : ((∃ z, sh[o]? = some (.inr (.inl (z, n)))) ∨ ∃ lr : List (Option Nat), sh[o]? = some (.inr (.inr lr)) ∧ lr.length = n) ∨ ∃ f, ro o = some (n, f) := by
  unfold ma_alen at h
  split at h
  · rename_i z k hs; cases h; exact Or.inl (Or.inl ⟨z, hs⟩)
  · rename_i lr hs; cases h; exact Or.inl (Or.inr ⟨lr, hs, rfl⟩)
  · cases h
  · obtain ⟨q, hq, rfl⟩ := Option.map_eq_some_iff.mp h
    exact Or.inr ⟨q.2, hq⟩
theorem ma_iald_inv (h : ma_iald ro pc L st sh σ = some (.inl c')) : ∃ i o r n, st = .int i :: .ref o :: r ∧ ma_ix i n = true ∧ ((sh[o]? = some (.inr (.inl (false, n))) ∧ c' = (pc + 1, L, .int (σ o i.toNatClampNeg) :: r, sh, σ)) ∨ ∃ f, ro o = some (n, f) ∧ c' = (pc + 1, L, .int (f i.toNatClampNeg) :: r, sh, σ)) := by
  unfold ma_iald at h
  split at h
  · rename_i i o r
    split at h
    · rename_i n hs
      split at h
      · rename_i hq; cases h; exact ⟨i, o, r, n, rfl, hq, Or.inl ⟨hs, rfl⟩⟩
      · cases h
    · cases h
    · split at h
      · rename_i n f hs
        split at h
        · rename_i hq; cases h; exact ⟨i, o, r, n, rfl, hq, Or.inr ⟨f, hs, rfl⟩⟩
        · cases h
      · cases h
  · cases h
theorem ma_bald_inv (h : ma_bald pc L st sh σ = some (.inl c')) : ∃ i o r n, st = .int i :: .ref o :: r ∧ ma_ix i n = true ∧ sh[o]? = some (.inr (.inl (true, n))) ∧ c' = (pc + 1, L, .int (σ o i.toNatClampNeg) :: r, sh, σ) := by
  unfold ma_bald at h
  split at h
  · rename_i i o r
    split at h
    · rename_i n hs
      split at h
      · rename_i hq; cases h; exact ⟨i, o, r, n, rfl, hq, hs, rfl⟩
      · cases h
    · cases h
  · cases h
theorem ma_iast_inv (h : ma_iast pc L st sh σ = some (.inl c')) : ∃ x i o r n, st = .int x :: .int i :: .ref o :: r ∧ ma_ix i n = true ∧ sh[o]? = some (.inr (.inl (false, n))) ∧ c' = (pc + 1, L, r, sh, ma_up σ o i.toNatClampNeg x) := by
  unfold ma_iast at h
  split at h
  · rename_i x i o r
    split at h
    · rename_i n hs
      split at h
      · rename_i hq; cases h; exact ⟨x, i, o, r, n, rfl, hq, hs, rfl⟩
      · cases h
    · cases h
  · cases h
theorem ma_bast_inv (h : ma_bast pc L st sh σ = some (.inl c')) : ∃ x i o r n, st = .int x :: .int i :: .ref o :: r ∧ ma_ix i n = true ∧ sh[o]? = some (.inr (.inl (true, n))) ∧ c' = (pc + 1, L, r, sh, ma_up σ o i.toNatClampNeg (vp_nar .boolean x)) := by
  unfold ma_bast at h
  split at h
  · rename_i x i o r
    split at h
    · rename_i n hs
      split at h
      · rename_i hq; cases h; exact ⟨x, i, o, r, n, rfl, hq, hs, rfl⟩
      · cases h
    · cases h
  · cases h
theorem ma_aald_inv (h : ma_aald pc L st sh σ = some (.inl c')) : ∃ i o r lr, st = .int i :: .ref o :: r ∧ ma_ix i lr.length = true ∧ sh[o]? = some (.inr (.inr lr)) ∧ c' = (pc + 1, L, ma_rv (lr.getD i.toNatClampNeg none) :: r, sh, σ) := by
  unfold ma_aald at h
  split at h
  · rename_i i o r
    split at h
    · rename_i n hs
      split at h
      · rename_i hq; cases h; exact ⟨i, o, r, n, rfl, hq, hs, rfl⟩
      · cases h
    · cases h
  · cases h
theorem ma_aast_inv (h : ma_aast pc L st sh σ = some (.inl c')) : ∃ v i o r lr fs, st = .ref v :: .int i :: .ref o :: r ∧ ma_ix i lr.length = true ∧ sh[o]? = some (.inr (.inr lr)) ∧ sh[v]? = some (.inl (1, fs)) ∧ c' = (pc + 1, L, r, sh.set o (.inr (.inr (lr.set i.toNatClampNeg (some v)))), σ) := by
  unfold ma_aast at h
  split at h
  · rename_i v i o r
    split at h
    · rename_i lr fs hs hv
      split at h
      · rename_i hq; cases h; exact ⟨v, i, o, r, lr, fs, rfl, hq, hs, hv, rfl⟩
      · cases h
    · cases h
  · cases h
theorem ma_new_inv (h : ma_new own idx pc L st sh σ = some (.inl c')) : ∃ ci, ma_lk ma_nt own idx = some ci ∧ sh.length < 500 ∧ c' = (pc + 3, L, .ref sh.length :: st, sh ++ [.inl (ci, ma_blank ci)], ma_newH σ sh.length) := by
  unfold ma_new at h
  split at h
  · rename_i ci hc
    split at h
    · rename_i hq; cases h; exact ⟨ci, hc, hq, rfl⟩
    · cases h
  · cases h
theorem ma_newa_inv {z : Bool} (h : ma_newa z pc L st sh σ = some (.inl c')) : ∃ n r, st = .int n :: r ∧ ¬ n < 0 ∧ n.toNatClampNeg ≤ 5000 ∧ sh.length < 500 ∧ c' = (pc + 2, L, .ref sh.length :: r, sh ++ [.inr (.inl (z, n.toNatClampNeg))], ma_newH σ sh.length) := by
  unfold ma_newa at h
  split at h
  · rename_i n r
    split at h
    · rename_i hq; cases h; exact ⟨n, r, rfl, hq.1, hq.2.1, hq.2.2, rfl⟩
    · cases h
  · cases h
theorem ma_newq_inv (h : ma_newq own idx pc L st sh σ = some (.inl c')) : ∃ n r, st = .int n :: r ∧ ma_lk ma_nt own idx = some 1 ∧ ¬ n < 0 ∧ n.toNatClampNeg ≤ 5000 ∧ sh.length < 500 ∧ c' = (pc + 3, L, .ref sh.length :: r, sh ++ [.inr (.inr (List.replicate n.toNatClampNeg none))], ma_newH σ sh.length) := by
  unfold ma_newq at h
  split at h
  · rename_i n r
    split at h
    · rename_i hc
      split at h
      · rename_i hq; cases h; exact ⟨n, r, rfl, hc, hq.1, hq.2.1, hq.2.2, rfl⟩
      · cases h
    · cases h
  · cases h
theorem ma_ldc_inv (h : ma_ldc own idx pc L st sh σ = some (.inl c')) : (∃ v, ma_lk ma_kt own idx = some v ∧ c' = (pc + 2, L, .int v :: st, sh, σ)) ∨ ∃ k, ma_lk ma_st own idx = some k ∧ c' = (pc + 2, L, .ref (1000000 + k) :: st, sh, σ) := by
  unfold ma_ldc at h
  split at h
  · rename_i v hv; cases h; exact Or.inl ⟨v, hv, rfl⟩
  · split at h
    · rename_i k hk; cases h; exact Or.inr ⟨k, hk, rfl⟩
    · cases h
theorem ma_ldc2_inv (h : ma_ldc2 own idx pc L st sh σ = some (.inl c')) : ∃ v, ma_lk ma_lt own idx = some v ∧ c' = (pc + 3, L, .long v :: st, sh, σ) := by
  unfold ma_ldc2 at h
  split at h
  · rename_i v hv; cases h; exact ⟨v, hv, rfl⟩
  · cases h
theorem ma_tsw_inv {d lo hi : Int} {offs : Array Int} (h : ma_tsw d lo hi offs pc L st sh σ = some (.inl c')) : ∃ x r o t, st = .int x :: r ∧ (pc : Int) + o = ((t : Nat) : Int) ∧ (((x.toInt < lo ∨ hi < x.toInt) ∧ o = d) ∨ (¬ x.toInt < lo ∧ ¬ hi < x.toInt ∧ offs[(x.toInt - lo).toNat]? = some o)) ∧ c' = (t, L, r, sh, σ) := by
  unfold ma_tsw at h
  split at h
  · rename_i x r
    split at h
    · rename_i o ho
      split at h
      · rename_i t ht
        cases h
        refine ⟨x, r, o, t, rfl, ma_tgt_inv ht, ?_, rfl⟩
        split at ho
        · rename_i hq; cases ho; exact Or.inl ⟨hq, rfl⟩
        · rename_i hq; exact Or.inr ⟨fun z => hq (Or.inl z), fun z => hq (Or.inr z), ho⟩
      · cases h
    · cases h
  · cases h
theorem ma_lsw_inv {d : Int} {ps : Array (Int × Int)} (h : ma_lsw d ps pc L st sh σ = some (.inl c')) : ∃ x r t, st = .int x :: r ∧ (ps.toList.zip (ps.toList.drop 1)).all (fun (a, next) => a.1 < next.1) = true ∧ (pc : Int) + Op.lookupswitch.offset ps.toList d x.toInt = ((t : Nat) : Int) ∧ c' = (t, L, r, sh, σ) := by
  unfold ma_lsw at h
  split at h
  · rename_i x r
    split at h
    · rename_i hp
      split at h
      · rename_i t ht; cases h; exact ⟨x, r, t, rfl, hp, ma_tgt_inv ht, rfl⟩
      · cases h
    · cases h
  · cases h
end INV

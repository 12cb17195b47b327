/-! What a step can be: it goes on (the heap's shapes grow), it calls, it answers. -/
def ma_grow (sh : List ma_Sh) (r : ma_O) : Prop := ∃ c' : ma_C, r = .inl c' ∧ sh.length ≤ c'.2.2.2.1.length ∧ ma_sz sh ≤ ma_sz c'.2.2.2.1
/-- what a call's step says -/
def ma_calls (mid : Nat) (i : Instr) (st : List Value) (sh : List ma_Sh) (m' : Nat) (as rest : List Value) : Prop :=
  ∃ (idx : Nat) (nest : Bool), ma_lk ma_ct (ma_own mid) idx = some (m', nest) ∧ (ma_lay as).length ≤ ma_mx m' ∧ ma_cs rest ≤ 8 ∧
    ((i = .invokestatic idx ∧ ma_kd m' = 1 ∧ st = as.reverse ++ rest ∧ as.length = ma_np m') ∨
     ∃ (o : Nat) (fs : List (Option (Option Nat))) (bs : List Value), as = .ref o :: bs ∧ sh[o]? = some (.inl (ma_own m', fs)) ∧ st = bs.reverse ++ .ref o :: rest ∧ bs.length = ma_np m' ∧
       ((i = .invokevirtual idx ∧ ma_kd m' = 0) ∨ (i = .invokespecial idx ∧ ma_kd m' = 2)))
/-- what an answer's step says -/
def ma_ri (mid : Nat) (i : Instr) (v : Option Value) : Prop := match v with
  | none => i = .return_ ∧ ma_rt mid = none
  | some (.int x) => i = .ireturn ∧ ∃ ty, ma_rt mid = some ty ∧ ma_fitI ty x = true
  | some (.long _) => i = .lreturn ∧ ma_rt mid = some .long
  | some w => i = .areturn ∧ ma_isA w = true ∧ ma_rt mid = some (.object RX1)
section GROW
variable {q : Value → Bool} {k pc pc' idx own m mid kd : Nat} {L : ma_L} {st : List Value} {sh : List ma_Sh} {σ : ma_H} {r : ma_O} {ro : ma_RO} {i : Instr}
theorem ma_ld_g (h : ma_ld q k pc' L st sh σ = some r) : ma_grow sh r := by
  unfold ma_ld at h
  (repeat' split at h) <;> first | (cases h; exact ⟨_, rfl, Nat.le_refl _, Nat.le_refl _⟩) | cases h
theorem ma_s1_g (h : ma_s1 q k pc' L st sh σ = some r) : ma_grow sh r := by
  unfold ma_s1 at h
  (repeat' split at h) <;> first | (cases h; exact ⟨_, rfl, Nat.le_refl _, Nat.le_refl _⟩) | cases h
theorem ma_s2_g (h : ma_s2 k pc' L st sh σ = some r) : ma_grow sh r := by
  unfold ma_s2 at h
  (repeat' split at h) <;> first | (cases h; exact ⟨_, rfl, Nat.le_refl _, Nat.le_refl _⟩) | cases h
theorem ma_i2_g {f : Int32 → Int32 → Option Int32} (h : ma_i2 f pc L st sh σ = some r) : ma_grow sh r := by
  unfold ma_i2 at h
  (repeat' split at h) <;> first | (cases h; exact ⟨_, rfl, Nat.le_refl _, Nat.le_refl _⟩) | cases h
theorem ma_l2_g {f : Int64 → Int64 → Option Value} (h : ma_l2 f pc L st sh σ = some r) : ma_grow sh r := by
  unfold ma_l2 at h
  (repeat' split at h) <;> first | (cases h; exact ⟨_, rfl, Nat.le_refl _, Nat.le_refl _⟩) | cases h
theorem ma_br_g {b : Bool} {off : Int} (h : ma_br b off pc L st sh σ = some r) : ma_grow sh r := by
  unfold ma_br at h
  (repeat' split at h) <;> first | (cases h; exact ⟨_, rfl, Nat.le_refl _, Nat.le_refl _⟩) | cases h
theorem ma_getf_g (h : ma_getf own idx pc L st sh σ = some r) : ma_grow sh r := by
  unfold ma_getf at h
  (repeat' split at h) <;> first | (cases h; exact ⟨_, rfl, Nat.le_refl _, Nat.le_refl _⟩) | cases h
theorem ma_iald_g (h : ma_iald ro pc L st sh σ = some r) : ma_grow sh r := by
  unfold ma_iald at h
  (repeat' split at h) <;> first | (cases h; exact ⟨_, rfl, Nat.le_refl _, Nat.le_refl _⟩) | cases h
theorem ma_bald_g (h : ma_bald pc L st sh σ = some r) : ma_grow sh r := by
  unfold ma_bald at h
  (repeat' split at h) <;> first | (cases h; exact ⟨_, rfl, Nat.le_refl _, Nat.le_refl _⟩) | cases h
theorem ma_iast_g (h : ma_iast pc L st sh σ = some r) : ma_grow sh r := by
  unfold ma_iast at h
  (repeat' split at h) <;> first | (cases h; exact ⟨_, rfl, Nat.le_refl _, Nat.le_refl _⟩) | cases h
theorem ma_bast_g (h : ma_bast pc L st sh σ = some r) : ma_grow sh r := by
  unfold ma_bast at h
  (repeat' split at h) <;> first | (cases h; exact ⟨_, rfl, Nat.le_refl _, Nat.le_refl _⟩) | cases h
theorem ma_aald_g (h : ma_aald pc L st sh σ = some r) : ma_grow sh r := by
  unfold ma_aald at h
  (repeat' split at h) <;> first | (cases h; exact ⟨_, rfl, Nat.le_refl _, Nat.le_refl _⟩) | cases h
theorem ma_ldc_g (h : ma_ldc own idx pc L st sh σ = some r) : ma_grow sh r := by
  unfold ma_ldc at h
  (repeat' split at h) <;> first | (cases h; exact ⟨_, rfl, Nat.le_refl _, Nat.le_refl _⟩) | cases h
theorem ma_ldc2_g (h : ma_ldc2 own idx pc L st sh σ = some r) : ma_grow sh r := by
  unfold ma_ldc2 at h
  (repeat' split at h) <;> first | (cases h; exact ⟨_, rfl, Nat.le_refl _, Nat.le_refl _⟩) | cases h
theorem ma_tsw_g {d lo hi : Int} {offs : Array Int} (h : ma_tsw d lo hi offs pc L st sh σ = some r) : ma_grow sh r := by
  unfold ma_tsw at h
  (repeat' split at h) <;> first | (cases h; exact ⟨_, rfl, Nat.le_refl _, Nat.le_refl _⟩) | cases h
theorem ma_lsw_g {d : Int} {ps : Array (Int × Int)} (h : ma_lsw d ps pc L st sh σ = some r) : ma_grow sh r := by
  unfold ma_lsw at h
  (repeat' split at h) <;> first | (cases h; exact ⟨_, rfl, Nat.le_refl _, Nat.le_refl _⟩) | cases h
theorem ma_putf_g (h : ma_putf m own idx pc L st sh σ = some r) : ma_grow sh r := by
  rcases r with c' | r
  · obtain ⟨o, r, ci, k, fs, h1, h2, h3, ⟨x, -, -, -, rfl⟩ | ⟨z, -, -, rfl⟩⟩ := ma_putf_inv h
    · exact ⟨_, rfl, Nat.le_refl _, Nat.le_refl _⟩
    · exact ⟨_, rfl, Nat.le_of_eq (List.length_set ..).symm, Nat.le_of_eq (ma_sz_set (e' := Sum.inl (ci, fs.set k (some z))) h2 rfl).symm⟩
  · exfalso
    unfold ma_putf at h
    (repeat' split at h) <;> cases h
theorem ma_aast_g (h : ma_aast pc L st sh σ = some r) : ma_grow sh r := by
  rcases r with c' | r
  · obtain ⟨v, i, o, r, lr, fs, -, h1, h2, h3, rfl⟩ := ma_aast_inv h
    exact ⟨_, rfl, Nat.le_of_eq (List.length_set ..).symm, Nat.le_of_eq (ma_sz_set (e' := Sum.inr (Sum.inr (lr.set i.toNatClampNeg (some v)))) h2 (by simp [ma_sz1])).symm⟩
  · exfalso
    unfold ma_aast at h
    (repeat' split at h) <;> cases h
theorem ma_grow_push {e : ma_Sh} {c' : ma_C} (h : c'.2.2.2.1 = sh ++ [e]) : ma_grow sh (.inl c') := ⟨c', rfl, by rw [h, List.length_append]; omega, by rw [h, ma_sz_push]; omega⟩
theorem ma_new_g (h : ma_new own idx pc L st sh σ = some r) : ma_grow sh r := by
  rcases r with c' | r
  · obtain ⟨ci, -, -, rfl⟩ := ma_new_inv h
    exact ma_grow_push rfl
  · exfalso
    unfold ma_new at h
    (repeat' split at h) <;> cases h
theorem ma_newa_g {z : Bool} (h : ma_newa z pc L st sh σ = some r) : ma_grow sh r := by
  rcases r with c' | r
  · obtain ⟨n, r, -, -, -, -, rfl⟩ := ma_newa_inv h
    exact ma_grow_push rfl
  · exfalso
    unfold ma_newa at h
    (repeat' split at h) <;> cases h
theorem ma_newq_g (h : ma_newq own idx pc L st sh σ = some r) : ma_grow sh r := by
  rcases r with c' | r
  · obtain ⟨n, r, -, -, -, -, -, rfl⟩ := ma_newq_inv h
    exact ma_grow_push rfl
  · exfalso
    unfold ma_newq at h
    (repeat' split at h) <;> cases h
theorem ma_take_rev {n : Nat} {st : List Value} : st = (st.take n).reverse.reverse ++ st.drop n := by rw [List.reverse_reverse, List.take_append_drop]
theorem ma_invO_g {i : Instr} (hi : (i = .invokevirtual idx ∧ kd = 0) ∨ (i = .invokespecial idx ∧ kd = 2)) (h : ma_invO kd (ma_own mid) idx st sh = some r) : ∃ m' as rest, r = .inr (.inl (m', as, rest)) ∧ ma_calls mid i st sh m' as rest := by
  unfold ma_invO at h
  split at h
  · rename_i m' nest hlk
    split at h
    · rename_i hq
      split at h
      · rename_i o rest hdr
        split at h
        · rename_i c fs hsh
          split at h
          · rename_i hc
            subst hc
            unfold ma_call at h
            split at h
            · rename_i hw
              cases h
              refine ⟨_, _, _, rfl, idx, nest, hlk, hw.1, hw.2, Or.inr ⟨o, fs, _, rfl, hsh, ?_, ?_, ?_⟩⟩
              · rw [← hdr]; exact ma_take_rev
              · rw [List.length_reverse, List.length_take]; omega
              · rw [hq.1]; exact hi
            · cases h
          · cases h
        · cases h
      · cases h
    · cases h
  · cases h
theorem ma_invS_g (h : ma_invS (ma_own mid) idx pc L st sh σ = some r) : ma_grow sh r ∨ ∃ m' as rest, r = .inr (.inl (m', as, rest)) ∧ ma_calls mid (.invokestatic idx) st sh m' as rest := by
  unfold ma_invS at h
  split at h
  · left
    (repeat' split at h) <;> first | (cases h; exact ⟨_, rfl, Nat.le_refl _, Nat.le_refl _⟩) | cases h
  · right
    split at h
    · rename_i m' nest hlk
      split at h
      · rename_i hq
        unfold ma_call at h
        split at h
        · rename_i hw
          cases h
          refine ⟨_, _, _, rfl, idx, nest, hlk, hw.1, hw.2, Or.inl ⟨rfl, hq.1, ma_take_rev, ?_⟩⟩
          rw [List.length_reverse, List.length_take]; omega
        · cases h
      · cases h
    · cases h
theorem ma_invV_g (h : ma_invV (ma_own mid) idx pc L st sh σ = some r) : ma_grow sh r ∨ ∃ m' as rest, r = .inr (.inl (m', as, rest)) ∧ ma_calls mid (.invokevirtual idx) st sh m' as rest := by
  unfold ma_invV at h
  split at h
  · left
    (repeat' split at h) <;> first | (cases h; exact ⟨_, rfl, Nat.le_refl _, Nat.le_refl _⟩) | cases h
  · exact Or.inr (ma_invO_g (Or.inl ⟨rfl, rfl⟩) h)
theorem ma_invI_g (h : ma_invI (ma_own mid) idx pc L st sh σ = some r) : ma_grow sh r ∨ ∃ m' as rest, r = .inr (.inl (m', as, rest)) ∧ ma_calls mid (.invokespecial idx) st sh m' as rest := by
  unfold ma_invI at h
  split at h
  · left
    (repeat' split at h) <;> first | (cases h; exact ⟨_, rfl, Nat.le_refl _, Nat.le_refl _⟩) | cases h
  · exact Or.inr (ma_invO_g (Or.inr ⟨rfl, rfl⟩) h)
set_option maxHeartbeats 8000000 in
theorem ma_ex_all (h : ma_ex ro mid i pc L st sh σ = some r) : ma_grow sh r ∨ (∃ m' as rest, r = .inr (.inl (m', as, rest)) ∧ ma_calls mid i st sh m' as rest) ∨ ∃ v, r = .inr (.inr v) ∧ st = v.toList ∧ ma_ri mid i v := by
  cases i
  case iconst k => cases (show (some (Sum.inl (pc + 1, L, Value.int (Int32.ofInt k) :: st, sh, σ)) : Option ma_O) = some r from h); exact Or.inl ⟨_, rfl, Nat.le_refl _, Nat.le_refl _⟩
  case bipush k => cases (show (some (Sum.inl (pc + 2, L, Value.int (Int8.ofInt k).toInt32 :: st, sh, σ)) : Option ma_O) = some r from h); exact Or.inl ⟨_, rfl, Nat.le_refl _, Nat.le_refl _⟩
  case sipush k => cases (show (some (Sum.inl (pc + 3, L, Value.int (Int16.ofInt k).toInt32 :: st, sh, σ)) : Option ma_O) = some r from h); exact Or.inl ⟨_, rfl, Nat.le_refl _, Nat.le_refl _⟩
  case lconst k => cases (show (some (Sum.inl (pc + 1, L, Value.long (Int64.ofNat (k : Nat)) :: st, sh, σ)) : Option ma_O) = some r from h); exact Or.inl ⟨_, rfl, Nat.le_refl _, Nat.le_refl _⟩
  case aconst_null  => cases (show (some (Sum.inl (pc + 1, L, Value.null :: st, sh, σ)) : Option ma_O) = some r from h); exact Or.inl ⟨_, rfl, Nat.le_refl _, Nat.le_refl _⟩
  case iload_n k => exact Or.inl (ma_ld_g h)
  case iload k => exact Or.inl (ma_ld_g h)
  case lload_n k => exact Or.inl (ma_ld_g h)
  case lload k => exact Or.inl (ma_ld_g h)
  case aload_n k => exact Or.inl (ma_ld_g h)
  case aload k => exact Or.inl (ma_ld_g h)
  case istore_n k => exact Or.inl (ma_s1_g h)
  case istore k => exact Or.inl (ma_s1_g h)
  case astore_n k => exact Or.inl (ma_s1_g h)
  case astore k => exact Or.inl (ma_s1_g h)
  case lstore_n k => exact Or.inl (ma_s2_g h)
  case lstore k => exact Or.inl (ma_s2_g h)
  case goto off => exact Or.inl (ma_br_g h)
  case tableswitch d lo hi offs => exact Or.inl (ma_tsw_g h)
  case lookupswitch d ps => exact Or.inl (ma_lsw_g h)
  case ldc idx => exact Or.inl (ma_ldc_g h)
  case ldc2_w idx => exact Or.inl (ma_ldc2_g h)
  case getfield idx => exact Or.inl (ma_getf_g h)
  case putfield idx => exact Or.inl (ma_putf_g h)
  case iaload  => exact Or.inl (ma_iald_g h)
  case baload  => exact Or.inl (ma_bald_g h)
  case iastore  => exact Or.inl (ma_iast_g h)
  case bastore  => exact Or.inl (ma_bast_g h)
  case aaload  => exact Or.inl (ma_aald_g h)
  case aastore  => exact Or.inl (ma_aast_g h)
  case new idx => exact Or.inl (ma_new_g h)
  case anewarray idx => exact Or.inl (ma_newq_g h)
  case iadd  => exact Or.inl (ma_i2_g (show ma_i2 (fun x y => some (x + y)) pc L st sh σ = some r from h))
  case isub  => exact Or.inl (ma_i2_g (show ma_i2 (fun x y => some (x - y)) pc L st sh σ = some r from h))
  case imul  => exact Or.inl (ma_i2_g (show ma_i2 (fun x y => some (x * y)) pc L st sh σ = some r from h))
  case iand  => exact Or.inl (ma_i2_g (show ma_i2 (fun x y => some (x &&& y)) pc L st sh σ = some r from h))
  case ior  => exact Or.inl (ma_i2_g (show ma_i2 (fun x y => some (x ||| y)) pc L st sh σ = some r from h))
  case ixor  => exact Or.inl (ma_i2_g (show ma_i2 (fun x y => some (x ^^^ y)) pc L st sh σ = some r from h))
  case ishl  => exact Or.inl (ma_i2_g (show ma_i2 (fun x y => some (x <<< (y &&& 31))) pc L st sh σ = some r from h))
  case ishr  => exact Or.inl (ma_i2_g (show ma_i2 (fun x y => some (x >>> (y &&& 31))) pc L st sh σ = some r from h))
  case idiv  => exact Or.inl (ma_i2_g (show ma_i2 (fun x y => if y = 0 then none else some (x / y)) pc L st sh σ = some r from h))
  case irem  => exact Or.inl (ma_i2_g (show ma_i2 (fun x y => if y = 0 then none else some (x - x / y * y)) pc L st sh σ = some r from h))
  case ldiv  => exact Or.inl (ma_l2_g (show ma_l2 (fun x y => if y = 0 then none else some (.long (x / y))) pc L st sh σ = some r from h))
  case lrem  => exact Or.inl (ma_l2_g (show ma_l2 (fun x y => if y = 0 then none else some (.long (x - x / y * y))) pc L st sh σ = some r from h))
  case ladd  => exact Or.inl (ma_l2_g (show ma_l2 (fun x y => some (.long (x + y))) pc L st sh σ = some r from h))
  case lcmp  => exact Or.inl (ma_l2_g (show ma_l2 (fun x y => some (.int (lg_cmp x y))) pc L st sh σ = some r from h))
  case iinc k q =>
    simp only [ma_ex] at h
    (repeat' split at h) <;> first | (cases h; exact Or.inl ⟨_, rfl, Nat.le_refl _, Nat.le_refl _⟩) | exact Or.inl (ma_br_g h) | cases h
  case ineg  =>
    simp only [ma_ex] at h
    (repeat' split at h) <;> first | (cases h; exact Or.inl ⟨_, rfl, Nat.le_refl _, Nat.le_refl _⟩) | exact Or.inl (ma_br_g h) | cases h
  case lneg  =>
    simp only [ma_ex] at h
    (repeat' split at h) <;> first | (cases h; exact Or.inl ⟨_, rfl, Nat.le_refl _, Nat.le_refl _⟩) | exact Or.inl (ma_br_g h) | cases h
  case i2l  =>
    simp only [ma_ex] at h
    (repeat' split at h) <;> first | (cases h; exact Or.inl ⟨_, rfl, Nat.le_refl _, Nat.le_refl _⟩) | exact Or.inl (ma_br_g h) | cases h
  case dup  =>
    simp only [ma_ex] at h
    (repeat' split at h) <;> first | (cases h; exact Or.inl ⟨_, rfl, Nat.le_refl _, Nat.le_refl _⟩) | exact Or.inl (ma_br_g h) | cases h
  case dup2  =>
    simp only [ma_ex] at h
    (repeat' split at h) <;> first | (cases h; exact Or.inl ⟨_, rfl, Nat.le_refl _, Nat.le_refl _⟩) | exact Or.inl (ma_br_g h) | cases h
  case pop  =>
    simp only [ma_ex] at h
    (repeat' split at h) <;> first | (cases h; exact Or.inl ⟨_, rfl, Nat.le_refl _, Nat.le_refl _⟩) | exact Or.inl (ma_br_g h) | cases h
  case ifCond q off =>
    simp only [ma_ex] at h
    (repeat' split at h) <;> first | (cases h; exact Or.inl ⟨_, rfl, Nat.le_refl _, Nat.le_refl _⟩) | exact Or.inl (ma_br_g h) | cases h
  case if_icmp q off =>
    simp only [ma_ex] at h
    (repeat' split at h) <;> first | (cases h; exact Or.inl ⟨_, rfl, Nat.le_refl _, Nat.le_refl _⟩) | exact Or.inl (ma_br_g h) | cases h
  case ifnull off =>
    simp only [ma_ex] at h
    (repeat' split at h) <;> first | (cases h; exact Or.inl ⟨_, rfl, Nat.le_refl _, Nat.le_refl _⟩) | exact Or.inl (ma_br_g h) | cases h
  case ifnonnull off =>
    simp only [ma_ex] at h
    (repeat' split at h) <;> first | (cases h; exact Or.inl ⟨_, rfl, Nat.le_refl _, Nat.le_refl _⟩) | exact Or.inl (ma_br_g h) | cases h
  case getstatic idx =>
    simp only [ma_ex] at h
    (repeat' split at h) <;> first | (cases h; exact Or.inl ⟨_, rfl, Nat.le_refl _, Nat.le_refl _⟩) | exact Or.inl (ma_br_g h) | cases h
  case arraylength  =>
    simp only [ma_ex] at h
    (repeat' split at h) <;> first | (cases h; exact Or.inl ⟨_, rfl, Nat.le_refl _, Nat.le_refl _⟩) | exact Or.inl (ma_br_g h) | cases h
  case newarray t =>
    cases t
    case int => exact Or.inl (ma_newa_g (z := false) h)
    case boolean => exact Or.inl (ma_newa_g (z := true) h)
    all_goals exact nomatch (show (none : Option ma_O) = some r from h)
  case invokestatic idx =>
    rcases ma_invS_g h with h | h
    · exact Or.inl h
    · exact Or.inr (Or.inl h)
  case invokevirtual idx =>
    rcases ma_invV_g h with h | h
    · exact Or.inl h
    · exact Or.inr (Or.inl h)
  case invokespecial idx =>
    rcases ma_invI_g h with h | h
    · exact Or.inl h
    · exact Or.inr (Or.inl h)
  case ireturn =>
    have h : ma_iret mid st = some r := h
    unfold ma_iret at h
    split at h
    · rename_i x
      split at h
      · rename_i ty hty
        split at h
        · rename_i hq; cases h; exact Or.inr (Or.inr ⟨_, rfl, rfl, rfl, ty, hty, hq⟩)
        · cases h
      · cases h
    · cases h
  case lreturn =>
    have h : ma_lret mid st = some r := h
    unfold ma_lret at h
    split at h
    · split at h
      · rename_i hq; cases h; exact Or.inr (Or.inr ⟨_, rfl, rfl, rfl, hq⟩)
      · cases h
    · cases h
  case areturn =>
    have h : ma_aret mid st = some r := h
    unfold ma_aret at h
    split at h
    · rename_i v
      split at h
      · rename_i hq
        cases h
        refine Or.inr (Or.inr ⟨_, rfl, rfl, ?_⟩)
        rcases ma_isA_inv hq.1 with rfl | ⟨x, rfl⟩
        · exact ⟨rfl, rfl, hq.2⟩
        · exact ⟨rfl, rfl, hq.2⟩
      · cases h
    · cases h
  case return_ =>
    have h : ma_vret mid st = some r := h
    unfold ma_vret at h
    split at h
    · split at h
      · rename_i hq; cases h; exact Or.inr (Or.inr ⟨_, rfl, rfl, rfl, hq⟩)
      · cases h
    · cases h
  all_goals exact nomatch (show (none : Option ma_O) = some r from h)
end GROW

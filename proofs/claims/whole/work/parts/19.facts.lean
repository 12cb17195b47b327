/-! Facts of the tables, one by one. -/
theorem q_s1 {q : Value → Bool} {k pc : Nat} {L L' : ma_L} {v : Value} {st : List Value} {sh : List ma_Sh} {σ : ma_H} (hb : ma_bef L k = false) (hv : q v = true) (hk : k < L.length) (hL : L.set k (some v) = L' := by rfl) : ma_s1 q k pc L (v :: st) sh σ = some (.inl (pc, L', st, sh, σ)) := by
  subst hL
  show (if q v = true ∧ ma_bef L k = false ∧ k < L.length then _ else _) = _
  rw [if_pos ⟨hv, hb, hk⟩]
theorem q_s2 {k pc : Nat} {L L' : ma_L} {x : Int64} {st : List Value} {sh : List ma_Sh} {σ : ma_H} (hb : ma_bef L k = false) (hv : x = x) (hk : k + 1 < L.length) (hL : (L.set k (some (.long x))).set (k + 1) none = L' := by rfl) : ma_s2 k pc L (.long x :: st) sh σ = some (.inl (pc, L', st, sh, σ)) := by
  subst hL
  show (if ma_bef L k = false ∧ k + 1 < L.length then _ else _) = _
  rw [if_pos ⟨hb, hk⟩]
theorem q_gst {ro : ma_RO} {m pc : Nat} {L : ma_L} {st : List Value} {sh : List ma_Sh} {σ : ma_H} (h : ma_own m = 7) : ma_ex ro m (.getstatic 265) pc L st sh σ = some (.inl (pc + 3, L, .ref 3000000 :: st, sh, σ)) := by
  show (if ma_own m = 7 ∧ (265 : Nat) = 265 then some (Sum.inl (pc + 3, L, Value.ref 3000000 :: st, sh, σ)) else none) = _
  exact if_pos ⟨h, rfl⟩
theorem cd_1 : ma_cd 1 = cX0_begin := rfl
theorem o_1 : ma_own 1 = 0 := by decide +kernel
theorem x_1 : ma_mx 1 = 2 := by decide +kernel
theorem r_1 : ma_rt 1 = none := by decide +kernel
theorem m_1 : ma_kd 1 = 0 ∧ ma_np 1 = 1 ∧ ma_mx 1 = 2 ∧ ma_own 1 = 0 := by decide +kernel
theorem cd_2 : ma_cd 2 = cX0_bodyAt := rfl
theorem o_2 : ma_own 2 = 0 := by decide +kernel
theorem x_2 : ma_mx 2 = 2 := by decide +kernel
theorem r_2 : ma_rt 2 = some .int := by decide +kernel
theorem m_2 : ma_kd 2 = 0 ∧ ma_np 2 = 1 ∧ ma_mx 2 = 2 ∧ ma_own 2 = 0 := by decide +kernel
theorem cd_3 : ma_cd 3 = cX0_clicks := rfl
theorem o_3 : ma_own 3 = 0 := by decide +kernel
theorem x_3 : ma_mx 3 = 5 := by decide +kernel
theorem r_3 : ma_rt 3 = some .int := by decide +kernel
theorem m_3 : ma_kd 3 = 0 ∧ ma_np 3 = 4 ∧ ma_mx 3 = 5 ∧ ma_own 3 = 0 := by decide +kernel
theorem cd_4 : ma_cd 4 = cX0_pulls := rfl
theorem o_4 : ma_own 4 = 0 := by decide +kernel
theorem x_4 : ma_mx 4 = 5 := by decide +kernel
theorem r_4 : ma_rt 4 = some .int := by decide +kernel
theorem m_4 : ma_kd 4 = 0 ∧ ma_np 4 = 4 ∧ ma_mx 4 = 5 ∧ ma_own 4 = 0 := by decide +kernel
theorem cd_5 : ma_cd 5 = cX0_looks := rfl
theorem o_5 : ma_own 5 = 0 := by decide +kernel
theorem x_5 : ma_mx 5 = 6 := by decide +kernel
theorem r_5 : ma_rt 5 = some .int := by decide +kernel
theorem m_5 : ma_kd 5 = 0 ∧ ma_np 5 = 4 ∧ ma_mx 5 = 6 ∧ ma_own 5 = 0 := by decide +kernel
theorem cd_7 : ma_cd 7 = cX1_start := rfl
theorem o_7 : ma_own 7 = 1 := by decide +kernel
theorem x_7 : ma_mx 7 = 4 := by decide +kernel
theorem r_7 : ma_rt 7 = none := by decide +kernel
theorem m_7 : ma_kd 7 = 0 ∧ ma_np 7 = 2 ∧ ma_mx 7 = 4 ∧ ma_own 7 = 1 := by decide +kernel
theorem cd_8 : ma_cd 8 = cX1_copyFrom := rfl
theorem o_8 : ma_own 8 = 1 := by decide +kernel
theorem x_8 : ma_mx 8 = 2 := by decide +kernel
theorem r_8 : ma_rt 8 = none := by decide +kernel
theorem m_8 : ma_kd 8 = 0 ∧ ma_np 8 = 1 ∧ ma_mx 8 = 2 ∧ ma_own 8 = 1 := by decide +kernel
theorem cd_9 : ma_cd 9 = cX1_rowAt := rfl
theorem o_9 : ma_own 9 = 1 := by decide +kernel
theorem x_9 : ma_mx 9 = 2 := by decide +kernel
theorem r_9 : ma_rt 9 = some .int := by decide +kernel
theorem m_9 : ma_kd 9 = 0 ∧ ma_np 9 = 1 ∧ ma_mx 9 = 2 ∧ ma_own 9 = 1 := by decide +kernel
theorem cd_10 : ma_cd 10 = cX1_setRow := rfl
theorem o_10 : ma_own 10 = 1 := by decide +kernel
theorem x_10 : ma_mx 10 = 3 := by decide +kernel
theorem r_10 : ma_rt 10 = none := by decide +kernel
theorem m_10 : ma_kd 10 = 0 ∧ ma_np 10 = 2 ∧ ma_mx 10 = 3 ∧ ma_own 10 = 1 := by decide +kernel
theorem cd_11 : ma_cd 11 = cX1_care := rfl
theorem o_11 : ma_own 11 = 1 := by decide +kernel
theorem x_11 : ma_mx 11 = 4 := by decide +kernel
theorem r_11 : ma_rt 11 = some .int := by decide +kernel
theorem m_11 : ma_kd 11 = 0 ∧ ma_np 11 = 2 ∧ ma_mx 11 = 4 ∧ ma_own 11 = 1 := by decide +kernel
theorem cd_12 : ma_cd 12 = cX1_goMorning := rfl
theorem o_12 : ma_own 12 = 1 := by decide +kernel
theorem x_12 : ma_mx 12 = 3 := by decide +kernel
theorem r_12 : ma_rt 12 = none := by decide +kernel
theorem m_12 : ma_kd 12 = 0 ∧ ma_np 12 = 2 ∧ ma_mx 12 = 3 ∧ ma_own 12 = 1 := by decide +kernel
theorem cd_13 : ma_cd 13 = cX1_beLookedAfter := rfl
theorem o_13 : ma_own 13 = 1 := by decide +kernel
theorem x_13 : ma_mx 13 = 1 := by decide +kernel
theorem r_13 : ma_rt 13 = none := by decide +kernel
theorem m_13 : ma_kd 13 = 0 ∧ ma_np 13 = 0 ∧ ma_mx 13 = 1 ∧ ma_own 13 = 1 := by decide +kernel
theorem cd_14 : ma_cd 14 = cX1_doubtAt := rfl
theorem o_14 : ma_own 14 = 1 := by decide +kernel
theorem x_14 : ma_mx 14 = 3 := by decide +kernel
theorem r_14 : ma_rt 14 = some .int := by decide +kernel
theorem m_14 : ma_kd 14 = 0 ∧ ma_np 14 = 2 ∧ ma_mx 14 = 3 ∧ ma_own 14 = 1 := by decide +kernel
theorem cd_15 : ma_cd 15 = cX1_yardBack := rfl
theorem o_15 : ma_own 15 = 1 := by decide +kernel
theorem x_15 : ma_mx 15 = 3 := by decide +kernel
theorem r_15 : ma_rt 15 = some .int := by decide +kernel
theorem m_15 : ma_kd 15 = 0 ∧ ma_np 15 = 1 ∧ ma_mx 15 = 3 ∧ ma_own 15 = 1 := by decide +kernel
theorem cd_17 : ma_cd 17 = cX2_clear := rfl
theorem o_17 : ma_own 17 = 2 := by decide +kernel
theorem x_17 : ma_mx 17 = 1 := by decide +kernel
theorem r_17 : ma_rt 17 = none := by decide +kernel
theorem m_17 : ma_kd 17 = 0 ∧ ma_np 17 = 0 ∧ ma_mx 17 = 1 ∧ ma_own 17 = 2 := by decide +kernel
theorem cd_18 : ma_cd 18 = cX2_copyFrom := rfl
theorem o_18 : ma_own 18 = 2 := by decide +kernel
theorem x_18 : ma_mx 18 = 2 := by decide +kernel
theorem r_18 : ma_rt 18 = none := by decide +kernel
theorem m_18 : ma_kd 18 = 0 ∧ ma_np 18 = 1 ∧ ma_mx 18 = 2 ∧ ma_own 18 = 2 := by decide +kernel
theorem cd_19 : ma_cd 19 = cX2_addStep := rfl
theorem o_19 : ma_own 19 = 2 := by decide +kernel
theorem x_19 : ma_mx 19 = 2 := by decide +kernel
theorem r_19 : ma_rt 19 = none := by decide +kernel
theorem m_19 : ma_kd 19 = 0 ∧ ma_np 19 = 1 ∧ ma_mx 19 = 2 ∧ ma_own 19 = 2 := by decide +kernel
theorem cd_20 : ma_cd 20 = cX2_addTest := rfl
theorem o_20 : ma_own 20 = 2 := by decide +kernel
theorem x_20 : ma_mx 20 = 4 := by decide +kernel
theorem r_20 : ma_rt 20 = none := by decide +kernel
theorem m_20 : ma_kd 20 = 0 ∧ ma_np 20 = 3 ∧ ma_mx 20 = 4 ∧ ma_own 20 = 2 := by decide +kernel
theorem cd_21 : ma_cd 21 = cX2_endClause := rfl
theorem o_21 : ma_own 21 = 2 := by decide +kernel
theorem x_21 : ma_mx 21 = 2 := by decide +kernel
theorem r_21 : ma_rt 21 = none := by decide +kernel
theorem m_21 : ma_kd 21 = 0 ∧ ma_np 21 = 1 ∧ ma_mx 21 = 2 ∧ ma_own 21 = 2 := by decide +kernel
theorem cd_22 : ma_cd 22 = cX2_sumOf := rfl
theorem o_22 : ma_own 22 = 2 := by decide +kernel
theorem x_22 : ma_mx 22 = 6 := by decide +kernel
theorem r_22 : ma_rt 22 = some .int := by decide +kernel
theorem m_22 : ma_kd 22 = 0 ∧ ma_np 22 = 2 ∧ ma_mx 22 = 6 ∧ ma_own 22 = 2 := by decide +kernel
theorem cd_23 : ma_cd 23 = cX2_holds := rfl
theorem o_23 : ma_own 23 = 2 := by decide +kernel
theorem x_23 : ma_mx 23 = 8 := by decide +kernel
theorem r_23 : ma_rt 23 = some .boolean := by decide +kernel
theorem m_23 : ma_kd 23 = 0 ∧ ma_np 23 = 4 ∧ ma_mx 23 = 8 ∧ ma_own 23 = 2 := by decide +kernel
theorem cd_24 : ma_cd 24 = cX2_isSo := rfl
theorem o_24 : ma_own 24 = 2 := by decide +kernel
theorem x_24 : ma_mx 24 = 6 := by decide +kernel
theorem r_24 : ma_rt 24 = some .boolean := by decide +kernel
theorem m_24 : ma_kd 24 = 1 ∧ ma_np 24 = 3 ∧ ma_mx 24 = 6 ∧ ma_own 24 = 2 := by decide +kernel
theorem cd_25 : ma_cd 25 = cX2_measure := rfl
theorem o_25 : ma_own 25 = 2 := by decide +kernel
theorem x_25 : ma_mx 25 = 3 := by decide +kernel
theorem r_25 : ma_rt 25 = some .int := by decide +kernel
theorem m_25 : ma_kd 25 = 1 ∧ ma_np 25 = 3 ∧ ma_mx 25 = 3 ∧ ma_own 25 = 2 := by decide +kernel
theorem cd_27 : ma_cd 27 = cX3_readHouse := rfl
theorem o_27 : ma_own 27 = 3 := by decide +kernel
theorem x_27 : ma_mx 27 = 2 := by decide +kernel
theorem r_27 : ma_rt 27 = some .int := by decide +kernel
theorem m_27 : ma_kd 27 = 0 ∧ ma_np 27 = 0 ∧ ma_mx 27 = 2 ∧ ma_own 27 = 3 := by decide +kernel
theorem cd_28 : ma_cd 28 = cX3_readClause := rfl
theorem o_28 : ma_own 28 = 3 := by decide +kernel
theorem x_28 : ma_mx 28 = 3 := by decide +kernel
theorem r_28 : ma_rt 28 = none := by decide +kernel
theorem m_28 : ma_kd 28 = 0 ∧ ma_np 28 = 0 ∧ ma_mx 28 = 3 ∧ ma_own 28 = 3 := by decide +kernel
theorem cd_29 : ma_cd 29 = cX3_wordAhead := rfl
theorem o_29 : ma_own 29 = 3 := by decide +kernel
theorem x_29 : ma_mx 29 = 1 := by decide +kernel
theorem r_29 : ma_rt 29 = some .int := by decide +kernel
theorem m_29 : ma_kd 29 = 0 ∧ ma_np 29 = 0 ∧ ma_mx 29 = 1 ∧ ma_own 29 = 3 := by decide +kernel
theorem cd_30 : ma_cd 30 = cX3_readEither := rfl
theorem o_30 : ma_own 30 = 3 := by decide +kernel
theorem x_30 : ma_mx 30 = 5 := by decide +kernel
theorem r_30 : ma_rt 30 = none := by decide +kernel
theorem m_30 : ma_kd 30 = 0 ∧ ma_np 30 = 1 ∧ ma_mx 30 = 5 ∧ ma_own 30 = 3 := by decide +kernel
theorem cd_31 : ma_cd 31 = cX3_readFactor := rfl
theorem o_31 : ma_own 31 = 3 := by decide +kernel
theorem x_31 : ma_mx 31 = 3 := by decide +kernel
theorem r_31 : ma_rt 31 = none := by decide +kernel
theorem m_31 : ma_kd 31 = 0 ∧ ma_np 31 = 1 ∧ ma_mx 31 = 3 ∧ ma_own 31 = 3 := by decide +kernel
theorem cd_32 : ma_cd 32 = cX3_readOneOf := rfl
theorem o_32 : ma_own 32 = 3 := by decide +kernel
theorem x_32 : ma_mx 32 = 4 := by decide +kernel
theorem r_32 : ma_rt 32 = some .int := by decide +kernel
theorem m_32 : ma_kd 32 = 0 ∧ ma_np 32 = 1 ∧ ma_mx 32 = 4 ∧ ma_own 32 = 3 := by decide +kernel
theorem cd_33 : ma_cd 33 = cX3_readNumber := rfl
theorem o_33 : ma_own 33 = 3 := by decide +kernel
theorem x_33 : ma_mx 33 = 2 := by decide +kernel
theorem r_33 : ma_rt 33 = some .int := by decide +kernel
theorem m_33 : ma_kd 33 = 0 ∧ ma_np 33 = 0 ∧ ma_mx 33 = 2 ∧ ma_own 33 = 3 := by decide +kernel
theorem cd_34 : ma_cd 34 = cX3_isDigit := rfl
theorem o_34 : ma_own 34 = 3 := by decide +kernel
theorem x_34 : ma_mx 34 = 1 := by decide +kernel
theorem r_34 : ma_rt 34 = some .boolean := by decide +kernel
theorem m_34 : ma_kd 34 = 1 ∧ ma_np 34 = 1 ∧ ma_mx 34 = 1 ∧ ma_own 34 = 3 := by decide +kernel
theorem cd_35 : ma_cd 35 = cX3_take := rfl
theorem o_35 : ma_own 35 = 3 := by decide +kernel
theorem x_35 : ma_mx 35 = 3 := by decide +kernel
theorem r_35 : ma_rt 35 = none := by decide +kernel
theorem m_35 : ma_kd 35 = 0 ∧ ma_np 35 = 1 ∧ ma_mx 35 = 3 ∧ ma_own 35 = 3 := by decide +kernel
theorem cd_36 : ma_cd 36 = cX3_peek := rfl
theorem o_36 : ma_own 36 = 3 := by decide +kernel
theorem x_36 : ma_mx 36 = 1 := by decide +kernel
theorem r_36 : ma_rt 36 = some .int := by decide +kernel
theorem m_36 : ma_kd 36 = 0 ∧ ma_np 36 = 0 ∧ ma_mx 36 = 1 ∧ ma_own 36 = 3 := by decide +kernel
theorem cd_38 : ma_cd 38 = cX4_has := rfl
theorem o_38 : ma_own 38 = 4 := by decide +kernel
theorem x_38 : ma_mx 38 = 2 := by decide +kernel
theorem r_38 : ma_rt 38 = some .boolean := by decide +kernel
theorem m_38 : ma_kd 38 = 0 ∧ ma_np 38 = 1 ∧ ma_mx 38 = 2 ∧ ma_own 38 = 4 := by decide +kernel
theorem cd_39 : ma_cd 39 = cX4_add := rfl
theorem o_39 : ma_own 39 = 4 := by decide +kernel
theorem x_39 : ma_mx 39 = 4 := by decide +kernel
theorem r_39 : ma_rt 39 = some .boolean := by decide +kernel
theorem m_39 : ma_kd 39 = 0 ∧ ma_np 39 = 3 ∧ ma_mx 39 = 4 ∧ ma_own 39 = 4 := by decide +kernel
theorem cd_40 : ma_cd 40 = cX4_setAt := rfl
theorem o_40 : ma_own 40 = 4 := by decide +kernel
theorem x_40 : ma_mx 40 = 5 := by decide +kernel
theorem r_40 : ma_rt 40 = none := by decide +kernel
theorem m_40 : ma_kd 40 = 0 ∧ ma_np 40 = 4 ∧ ma_mx 40 = 5 ∧ ma_own 40 = 4 := by decide +kernel
theorem cd_41 : ma_cd 41 = cX4_firstAt := rfl
theorem o_41 : ma_own 41 = 4 := by decide +kernel
theorem x_41 : ma_mx 41 = 2 := by decide +kernel
theorem r_41 : ma_rt 41 = some .int := by decide +kernel
theorem m_41 : ma_kd 41 = 0 ∧ ma_np 41 = 1 ∧ ma_mx 41 = 2 ∧ ma_own 41 = 4 := by decide +kernel
theorem cd_42 : ma_cd 42 = cX4_secondAt := rfl
theorem o_42 : ma_own 42 = 4 := by decide +kernel
theorem x_42 : ma_mx 42 = 2 := by decide +kernel
theorem r_42 : ma_rt 42 = some .int := by decide +kernel
theorem m_42 : ma_kd 42 = 0 ∧ ma_np 42 = 1 ∧ ma_mx 42 = 2 ∧ ma_own 42 = 4 := by decide +kernel
theorem cd_43 : ma_cd 43 = cX4_isAt := rfl
theorem o_43 : ma_own 43 = 4 := by decide +kernel
theorem x_43 : ma_mx 43 = 2 := by decide +kernel
theorem r_43 : ma_rt 43 = some .boolean := by decide +kernel
theorem m_43 : ma_kd 43 = 0 ∧ ma_np 43 = 1 ∧ ma_mx 43 = 2 ∧ ma_own 43 = 4 := by decide +kernel
theorem cd_44 : ma_cd 44 = cX4_copyFrom := rfl
theorem o_44 : ma_own 44 = 4 := by decide +kernel
theorem x_44 : ma_mx 44 = 3 := by decide +kernel
theorem r_44 : ma_rt 44 = none := by decide +kernel
theorem m_44 : ma_kd 44 = 0 ∧ ma_np 44 = 1 ∧ ma_mx 44 = 3 ∧ ma_own 44 = 4 := by decide +kernel
theorem cd_46 : ma_cd 46 = cX5_addSign := rfl
theorem o_46 : ma_own 46 = 5 := by decide +kernel
theorem x_46 : ma_mx 46 = 2 := by decide +kernel
theorem r_46 : ma_rt 46 = some .boolean := by decide +kernel
theorem m_46 : ma_kd 46 = 0 ∧ ma_np 46 = 1 ∧ ma_mx 46 = 2 ∧ ma_own 46 = 5 := by decide +kernel
theorem cd_47 : ma_cd 47 = cX5_signAt := rfl
theorem o_47 : ma_own 47 = 5 := by decide +kernel
theorem x_47 : ma_mx 47 = 2 := by decide +kernel
theorem r_47 : ma_rt 47 = some .int := by decide +kernel
theorem m_47 : ma_kd 47 = 0 ∧ ma_np 47 = 1 ∧ ma_mx 47 = 2 ∧ ma_own 47 = 5 := by decide +kernel
theorem cd_48 : ma_cd 48 = cX5_copyFrom := rfl
theorem o_48 : ma_own 48 = 5 := by decide +kernel
theorem x_48 : ma_mx 48 = 2 := by decide +kernel
theorem r_48 : ma_rt 48 = none := by decide +kernel
theorem m_48 : ma_kd 48 = 0 ∧ ma_np 48 = 1 ∧ ma_mx 48 = 2 ∧ ma_own 48 = 5 := by decide +kernel
theorem cd_50 : ma_cd 50 = cX6_find := rfl
theorem o_50 : ma_own 50 = 6 := by decide +kernel
theorem x_50 : ma_mx 50 = 2 := by decide +kernel
theorem r_50 : ma_rt 50 = some (.object RX1) := by decide +kernel
theorem m_50 : ma_kd 50 = 0 ∧ ma_np 50 = 1 ∧ ma_mx 50 = 2 ∧ ma_own 50 = 6 := by decide +kernel
theorem cd_51 : ma_cd 51 = cX6_addDeed := rfl
theorem o_51 : ma_own 51 = 6 := by decide +kernel
theorem x_51 : ma_mx 51 = 4 := by decide +kernel
theorem r_51 : ma_rt 51 = some .boolean := by decide +kernel
theorem m_51 : ma_kd 51 = 0 ∧ ma_np 51 = 2 ∧ ma_mx 51 = 4 ∧ ma_own 51 = 6 := by decide +kernel
theorem cd_52 : ma_cd 52 = cX6_copyFrom := rfl
theorem o_52 : ma_own 52 = 6 := by decide +kernel
theorem x_52 : ma_mx 52 = 5 := by decide +kernel
theorem r_52 : ma_rt 52 = none := by decide +kernel
theorem m_52 : ma_kd 52 = 0 ∧ ma_np 52 = 1 ∧ ma_mx 52 = 5 ∧ ma_own 52 = 6 := by decide +kernel
theorem cd_53 : ma_cd 53 = cX6_goMornings := rfl
theorem o_53 : ma_own 53 = 6 := by decide +kernel
theorem x_53 : ma_mx 53 = 4 := by decide +kernel
theorem r_53 : ma_rt 53 = none := by decide +kernel
theorem m_53 : ma_kd 53 = 0 ∧ ma_np 53 = 2 ∧ ma_mx 53 = 4 ∧ ma_own 53 = 6 := by decide +kernel
theorem cd_54 : ma_cd 54 = cX6_goMorning := rfl
theorem o_54 : ma_own 54 = 6 := by decide +kernel
theorem x_54 : ma_mx 54 = 4 := by decide +kernel
theorem r_54 : ma_rt 54 = none := by decide +kernel
theorem m_54 : ma_kd 54 = 0 ∧ ma_np 54 = 1 ∧ ma_mx 54 = 4 ∧ ma_own 54 = 6 := by decide +kernel
theorem cd_55 : ma_cd 55 = cX6_leftBits := rfl
theorem o_55 : ma_own 55 = 6 := by decide +kernel
theorem x_55 : ma_mx 55 = 4 := by decide +kernel
theorem r_55 : ma_rt 55 = some .int := by decide +kernel
theorem m_55 : ma_kd 55 = 0 ∧ ma_np 55 = 0 ∧ ma_mx 55 = 4 ∧ ma_own 55 = 6 := by decide +kernel
theorem cd_56 : ma_cd 56 = cX6_traces := rfl
theorem o_56 : ma_own 56 = 6 := by decide +kernel
theorem x_56 : ma_mx 56 = 4 := by decide +kernel
theorem r_56 : ma_rt 56 = some .int := by decide +kernel
theorem m_56 : ma_kd 56 = 0 ∧ ma_np 56 = 0 ∧ ma_mx 56 = 4 ∧ ma_own 56 = 6 := by decide +kernel
theorem cd_58 : ma_cd 58 = cX7_feed := rfl
theorem o_58 : ma_own 58 = 7 := by decide +kernel
theorem x_58 : ma_mx 58 = 2 := by decide +kernel
theorem r_58 : ma_rt 58 = some .int := by decide +kernel
theorem m_58 : ma_kd 58 = 0 ∧ ma_np 58 = 1 ∧ ma_mx 58 = 2 ∧ ma_own 58 = 7 := by decide +kernel
theorem cd_59 : ma_cd 59 = cX7_house := rfl
theorem o_59 : ma_own 59 = 7 := by decide +kernel
theorem x_59 : ma_mx 59 = 2 := by decide +kernel
theorem r_59 : ma_rt 59 = some .int := by decide +kernel
theorem m_59 : ma_kd 59 = 0 ∧ ma_np 59 = 0 ∧ ma_mx 59 = 2 ∧ ma_own 59 = 7 := by decide +kernel
theorem cd_60 : ma_cd 60 = cX7_deed := rfl
theorem o_60 : ma_own 60 = 7 := by decide +kernel
theorem x_60 : ma_mx 60 = 3 := by decide +kernel
theorem r_60 : ma_rt 60 = some .int := by decide +kernel
theorem m_60 : ma_kd 60 = 0 ∧ ma_np 60 = 2 ∧ ma_mx 60 = 3 ∧ ma_own 60 = 7 := by decide +kernel
theorem cd_61 : ma_cd 61 = cX7_of := rfl
theorem o_61 : ma_own 61 = 7 := by decide +kernel
theorem x_61 : ma_mx 61 = 4 := by decide +kernel
theorem r_61 : ma_rt 61 = some .int := by decide +kernel
theorem m_61 : ma_kd 61 = 0 ∧ ma_np 61 = 2 ∧ ma_mx 61 = 4 ∧ ma_own 61 = 7 := by decide +kernel
theorem cd_62 : ma_cd 62 = cX7_row := rfl
theorem o_62 : ma_own 62 = 7 := by decide +kernel
theorem x_62 : ma_mx 62 = 6 := by decide +kernel
theorem r_62 : ma_rt 62 = some .int := by decide +kernel
theorem m_62 : ma_kd 62 = 0 ∧ ma_np 62 = 3 ∧ ma_mx 62 = 6 ∧ ma_own 62 = 7 := by decide +kernel
theorem cd_63 : ma_cd 63 = cX7_set := rfl
theorem o_63 : ma_own 63 = 7 := by decide +kernel
theorem x_63 : ma_mx 63 = 6 := by decide +kernel
theorem r_63 : ma_rt 63 = some .int := by decide +kernel
theorem m_63 : ma_kd 63 = 0 ∧ ma_np 63 = 3 ∧ ma_mx 63 = 6 ∧ ma_own 63 = 7 := by decide +kernel
theorem cd_64 : ma_cd 64 = cX7_hurry := rfl
theorem o_64 : ma_own 64 = 7 := by decide +kernel
theorem x_64 : ma_mx 64 = 3 := by decide +kernel
theorem r_64 : ma_rt 64 = some .int := by decide +kernel
theorem m_64 : ma_kd 64 = 0 ∧ ma_np 64 = 1 ∧ ma_mx 64 = 3 ∧ ma_own 64 = 7 := by decide +kernel
theorem cd_65 : ma_cd 65 = cX7_look := rfl
theorem o_65 : ma_own 65 = 7 := by decide +kernel
theorem x_65 : ma_mx 65 = 4 := by decide +kernel
theorem r_65 : ma_rt 65 = some .int := by decide +kernel
theorem m_65 : ma_kd 65 = 0 ∧ ma_np 65 = 1 ∧ ma_mx 65 = 4 ∧ ma_own 65 = 7 := by decide +kernel
theorem cd_66 : ma_cd 66 = cX7_doubt := rfl
theorem o_66 : ma_own 66 = 7 := by decide +kernel
theorem x_66 : ma_mx 66 = 4 := by decide +kernel
theorem r_66 : ma_rt 66 = some .int := by decide +kernel
theorem m_66 : ma_kd 66 = 0 ∧ ma_np 66 = 2 ∧ ma_mx 66 = 4 ∧ ma_own 66 = 7 := by decide +kernel
theorem cd_67 : ma_cd 67 = cX7_told := rfl
theorem o_67 : ma_own 67 = 7 := by decide +kernel
theorem x_67 : ma_mx 67 = 2 := by decide +kernel
theorem r_67 : ma_rt 67 = some .int := by decide +kernel
theorem m_67 : ma_kd 67 = 0 ∧ ma_np 67 = 1 ∧ ma_mx 67 = 2 ∧ ma_own 67 = 7 := by decide +kernel
theorem cd_68 : ma_cd 68 = cX7_pass := rfl
theorem o_68 : ma_own 68 = 7 := by decide +kernel
theorem x_68 : ma_mx 68 = 2 := by decide +kernel
theorem r_68 : ma_rt 68 = some .int := by decide +kernel
theorem m_68 : ma_kd 68 = 0 ∧ ma_np 68 = 1 ∧ ma_mx 68 = 2 ∧ ma_own 68 = 7 := by decide +kernel
theorem cd_69 : ma_cd 69 = cX7_on := rfl
theorem o_69 : ma_own 69 = 7 := by decide +kernel
theorem x_69 : ma_mx 69 = 6 := by decide +kernel
theorem r_69 : ma_rt 69 = some .int := by decide +kernel
theorem m_69 : ma_kd 69 = 0 ∧ ma_np 69 = 2 ∧ ma_mx 69 = 6 ∧ ma_own 69 = 7 := by decide +kernel
theorem cd_70 : ma_cd 70 = cX7_best := rfl
theorem o_70 : ma_own 70 = 7 := by decide +kernel
theorem x_70 : ma_mx 70 = 6 := by decide +kernel
theorem r_70 : ma_rt 70 = some .int := by decide +kernel
theorem m_70 : ma_kd 70 = 0 ∧ ma_np 70 = 2 ∧ ma_mx 70 = 6 ∧ ma_own 70 = 7 := by decide +kernel
theorem cd_71 : ma_cd 71 = cX7_renew := rfl
theorem o_71 : ma_own 71 = 7 := by decide +kernel
theorem x_71 : ma_mx 71 = 6 := by decide +kernel
theorem r_71 : ma_rt 71 = some .int := by decide +kernel
theorem m_71 : ma_kd 71 = 0 ∧ ma_np 71 = 3 ∧ ma_mx 71 = 6 ∧ ma_own 71 = 7 := by decide +kernel
theorem cd_72 : ma_cd 72 = cX7_see := rfl
theorem o_72 : ma_own 72 = 7 := by decide +kernel
theorem x_72 : ma_mx 72 = 4 := by decide +kernel
theorem r_72 : ma_rt 72 = some .int := by decide +kernel
theorem m_72 : ma_kd 72 = 0 ∧ ma_np 72 = 3 ∧ ma_mx 72 = 4 ∧ ma_own 72 = 7 := by decide +kernel
theorem cd_73 : ma_cd 73 = cX7_hurries := rfl
theorem o_73 : ma_own 73 = 7 := by decide +kernel
theorem x_73 : ma_mx 73 = 5 := by decide +kernel
theorem r_73 : ma_rt 73 = some .int := by decide +kernel
theorem m_73 : ma_kd 73 = 0 ∧ ma_np 73 = 1 ∧ ma_mx 73 = 5 ∧ ma_own 73 = 7 := by decide +kernel
theorem cd_74 : ma_cd 74 = cX7_firm := rfl
theorem o_74 : ma_own 74 = 7 := by decide +kernel
theorem x_74 : ma_mx 74 = 7 := by decide +kernel
theorem r_74 : ma_rt 74 = some .int := by decide +kernel
theorem m_74 : ma_kd 74 = 0 ∧ ma_np 74 = 2 ∧ ma_mx 74 = 7 ∧ ma_own 74 = 7 := by decide +kernel
theorem cd_75 : ma_cd 75 = cX7_alikes := rfl
theorem o_75 : ma_own 75 = 7 := by decide +kernel
theorem x_75 : ma_mx 75 = 5 := by decide +kernel
theorem r_75 : ma_rt 75 = some .int := by decide +kernel
theorem m_75 : ma_kd 75 = 0 ∧ ma_np 75 = 1 ∧ ma_mx 75 = 5 ∧ ma_own 75 = 7 := by decide +kernel
theorem cd_76 : ma_cd 76 = cX7_odds := rfl
theorem o_76 : ma_own 76 = 7 := by decide +kernel
theorem x_76 : ma_mx 76 = 7 := by decide +kernel
theorem r_76 : ma_rt 76 = some .long := by decide +kernel
theorem m_76 : ma_kd 76 = 0 ∧ ma_np 76 = 3 ∧ ma_mx 76 = 7 ∧ ma_own 76 = 7 := by decide +kernel
theorem cd_77 : ma_cd 77 = cX7_mean := rfl
theorem o_77 : ma_own 77 = 7 := by decide +kernel
theorem x_77 : ma_mx 77 = 2 := by decide +kernel
theorem r_77 : ma_rt 77 = some .long := by decide +kernel
theorem m_77 : ma_kd 77 = 0 ∧ ma_np 77 = 1 ∧ ma_mx 77 = 2 ∧ ma_own 77 = 7 := by decide +kernel
theorem cd_78 : ma_cd 78 = cX7_plan := rfl
theorem o_78 : ma_own 78 = 7 := by decide +kernel
theorem x_78 : ma_mx 78 = 3 := by decide +kernel
theorem r_78 : ma_rt 78 = some .int := by decide +kernel
theorem m_78 : ma_kd 78 = 0 ∧ ma_np 78 = 2 ∧ ma_mx 78 = 3 ∧ ma_own 78 = 7 := by decide +kernel
theorem cd_79 : ma_cd 79 = cX7_done := rfl
theorem o_79 : ma_own 79 = 7 := by decide +kernel
theorem x_79 : ma_mx 79 = 3 := by decide +kernel
theorem r_79 : ma_rt 79 = some .int := by decide +kernel
theorem m_79 : ma_kd 79 = 0 ∧ ma_np 79 = 1 ∧ ma_mx 79 = 3 ∧ ma_own 79 = 7 := by decide +kernel
theorem cd_80 : ma_cd 80 = cX7_book := rfl
theorem o_80 : ma_own 80 = 7 := by decide +kernel
theorem x_80 : ma_mx 80 = 3 := by decide +kernel
theorem r_80 : ma_rt 80 = some .int := by decide +kernel
theorem m_80 : ma_kd 80 = 0 ∧ ma_np 80 = 2 ∧ ma_mx 80 = 3 ∧ ma_own 80 = 7 := by decide +kernel
theorem cd_81 : ma_cd 81 = cX7_struck := rfl
theorem o_81 : ma_own 81 = 7 := by decide +kernel
theorem x_81 : ma_mx 81 = 3 := by decide +kernel
theorem r_81 : ma_rt 81 = some .int := by decide +kernel
theorem m_81 : ma_kd 81 = 0 ∧ ma_np 81 = 0 ∧ ma_mx 81 = 3 ∧ ma_own 81 = 7 := by decide +kernel
theorem cd_82 : ma_cd 82 = cX7_act := rfl
theorem o_82 : ma_own 82 = 7 := by decide +kernel
theorem x_82 : ma_mx 82 = 5 := by decide +kernel
theorem r_82 : ma_rt 82 = some .int := by decide +kernel
theorem m_82 : ma_kd 82 = 0 ∧ ma_np 82 = 3 ∧ ma_mx 82 = 5 ∧ ma_own 82 = 7 := by decide +kernel
theorem cd_83 : ma_cd 83 = cX7_trace := rfl
theorem o_83 : ma_own 83 = 7 := by decide +kernel
theorem x_83 : ma_mx 83 = 2 := by decide +kernel
theorem r_83 : ma_rt 83 = some .int := by decide +kernel
theorem m_83 : ma_kd 83 = 0 ∧ ma_np 83 = 1 ∧ ma_mx 83 = 2 ∧ ma_own 83 = 7 := by decide +kernel
theorem cd_84 : ma_cd 84 = cX7_as := rfl
theorem o_84 : ma_own 84 = 7 := by decide +kernel
theorem x_84 : ma_mx 84 = 6 := by decide +kernel
theorem r_84 : ma_rt 84 = some .int := by decide +kernel
theorem m_84 : ma_kd 84 = 0 ∧ ma_np 84 = 2 ∧ ma_mx 84 = 6 ∧ ma_own 84 = 7 := by decide +kernel
theorem cd_85 : ma_cd 85 = cX7_image := rfl
theorem o_85 : ma_own 85 = 7 := by decide +kernel
theorem x_85 : ma_mx 85 = 1 := by decide +kernel
theorem r_85 : ma_rt 85 = some .int := by decide +kernel
theorem m_85 : ma_kd 85 = 0 ∧ ma_np 85 = 0 ∧ ma_mx 85 = 1 ∧ ma_own 85 = 7 := by decide +kernel
theorem cd_86 : ma_cd 86 = cX7_undo := rfl
theorem o_86 : ma_own 86 = 7 := by decide +kernel
theorem x_86 : ma_mx 86 = 1 := by decide +kernel
theorem r_86 : ma_rt 86 = some .int := by decide +kernel
theorem m_86 : ma_kd 86 = 0 ∧ ma_np 86 = 0 ∧ ma_mx 86 = 1 ∧ ma_own 86 = 7 := by decide +kernel
theorem cd_87 : ma_cd 87 = cX7_count := rfl
theorem o_87 : ma_own 87 = 7 := by decide +kernel
theorem x_87 : ma_mx 87 = 2 := by decide +kernel
theorem r_87 : ma_rt 87 = some .int := by decide +kernel
theorem m_87 : ma_kd 87 = 0 ∧ ma_np 87 = 1 ∧ ma_mx 87 = 2 ∧ ma_own 87 = 7 := by decide +kernel
theorem cd_88 : ma_cd 88 = cX7_isOff := rfl
theorem o_88 : ma_own 88 = 7 := by decide +kernel
theorem x_88 : ma_mx 88 = 2 := by decide +kernel
theorem r_88 : ma_rt 88 = some .boolean := by decide +kernel
theorem m_88 : ma_kd 88 = 1 ∧ ma_np 88 = 2 ∧ ma_mx 88 = 2 ∧ ma_own 88 = 7 := by decide +kernel
theorem cd_89 : ma_cd 89 = cX7_above := rfl
theorem o_89 : ma_own 89 = 7 := by decide +kernel
theorem x_89 : ma_mx 89 = 1 := by decide +kernel
theorem r_89 : ma_rt 89 = some .int := by decide +kernel
theorem m_89 : ma_kd 89 = 1 ∧ ma_np 89 = 1 ∧ ma_mx 89 = 1 ∧ ma_own 89 = 7 := by decide +kernel
theorem cd_90 : ma_cd 90 = cX7_within := rfl
theorem o_90 : ma_own 90 = 7 := by decide +kernel
theorem x_90 : ma_mx 90 = 2 := by decide +kernel
theorem r_90 : ma_rt 90 = some .int := by decide +kernel
theorem m_90 : ma_kd 90 = 1 ∧ ma_np 90 = 2 ∧ ma_mx 90 = 2 ∧ ma_own 90 = 7 := by decide +kernel
theorem cd_91 : ma_cd 91 = cX7_copyInts := rfl
theorem o_91 : ma_own 91 = 7 := by decide +kernel
theorem x_91 : ma_mx 91 = 3 := by decide +kernel
theorem r_91 : ma_rt 91 = none := by decide +kernel
theorem m_91 : ma_kd 91 = 1 ∧ ma_np 91 = 2 ∧ ma_mx 91 = 3 ∧ ma_own 91 = 7 := by decide +kernel
theorem cd_92 : ma_cd 92 = cX7_lowest := rfl
theorem o_92 : ma_own 92 = 7 := by decide +kernel
theorem x_92 : ma_mx 92 = 12 := by decide +kernel
theorem r_92 : ma_rt 92 = some .long := by decide +kernel
theorem m_92 : ma_kd 92 = 1 ∧ ma_np 92 = 3 ∧ ma_mx 92 = 12 ∧ ma_own 92 = 7 := by decide +kernel
theorem cd_93 : ma_cd 93 = cX7_goOne := rfl
theorem o_93 : ma_own 93 = 7 := by decide +kernel
theorem x_93 : ma_mx 93 = 4 := by decide +kernel
theorem r_93 : ma_rt 93 = none := by decide +kernel
theorem m_93 : ma_kd 93 = 0 ∧ ma_np 93 = 2 ∧ ma_mx 93 = 4 ∧ ma_own 93 = 7 := by decide +kernel
theorem cd_94 : ma_cd 94 = cX7_isSeenSo := rfl
theorem o_94 : ma_own 94 = 7 := by decide +kernel
theorem x_94 : ma_mx 94 = 7 := by decide +kernel
theorem r_94 : ma_rt 94 = some .boolean := by decide +kernel
theorem m_94 : ma_kd 94 = 0 ∧ ma_np 94 = 4 ∧ ma_mx 94 = 7 ∧ ma_own 94 = 7 := by decide +kernel
theorem cd_95 : ma_cd 95 = cX7_minutesOf := rfl
theorem o_95 : ma_own 95 = 7 := by decide +kernel
theorem x_95 : ma_mx 95 = 5 := by decide +kernel
theorem r_95 : ma_rt 95 = some .int := by decide +kernel
theorem m_95 : ma_kd 95 = 0 ∧ ma_np 95 = 1 ∧ ma_mx 95 = 5 ∧ ma_own 95 = 7 := by decide +kernel
theorem cd_96 : ma_cd 96 = cX7_worthOf := rfl
theorem o_96 : ma_own 96 = 7 := by decide +kernel
theorem x_96 : ma_mx 96 = 5 := by decide +kernel
theorem r_96 : ma_rt 96 = some .int := by decide +kernel
theorem m_96 : ma_kd 96 = 0 ∧ ma_np 96 = 1 ∧ ma_mx 96 = 5 ∧ ma_own 96 = 7 := by decide +kernel
theorem cd_97 : ma_cd 97 = cX7_planFrom := rfl
theorem o_97 : ma_own 97 = 7 := by decide +kernel
theorem x_97 : ma_mx 97 = 6 := by decide +kernel
theorem r_97 : ma_rt 97 = none := by decide +kernel
theorem m_97 : ma_kd 97 = 0 ∧ ma_np 97 = 3 ∧ ma_mx 97 = 6 ∧ ma_own 97 = 7 := by decide +kernel
theorem cd_98 : ma_cd 98 = cX7_planWithout := rfl
theorem o_98 : ma_own 98 = 7 := by decide +kernel
theorem x_98 : ma_mx 98 = 5 := by decide +kernel
theorem r_98 : ma_rt 98 = some .int := by decide +kernel
theorem m_98 : ma_kd 98 = 0 ∧ ma_np 98 = 4 ∧ ma_mx 98 = 5 ∧ ma_own 98 = 7 := by decide +kernel
theorem cd_99 : ma_cd 99 = cX7_planAt := rfl
theorem o_99 : ma_own 99 = 7 := by decide +kernel
theorem x_99 : ma_mx 99 = 2 := by decide +kernel
theorem r_99 : ma_rt 99 = some .int := by decide +kernel
theorem m_99 : ma_kd 99 = 0 ∧ ma_np 99 = 1 ∧ ma_mx 99 = 2 ∧ ma_own 99 = 7 := by decide +kernel
theorem cd_100 : ma_cd 100 = cX7_goStep := rfl
theorem o_100 : ma_own 100 = 7 := by decide +kernel
theorem x_100 : ma_mx 100 = 4 := by decide +kernel
theorem r_100 : ma_rt 100 = none := by decide +kernel
theorem m_100 : ma_kd 100 = 0 ∧ ma_np 100 = 2 ∧ ma_mx 100 = 4 ∧ ma_own 100 = 7 := by decide +kernel
theorem cd_102 : ma_cd 102 = cX8_in := rfl
theorem o_102 : ma_own 102 = 8 := by decide +kernel
theorem x_102 : ma_mx 102 = 3 := by decide +kernel
theorem r_102 : ma_rt 102 = some .boolean := by decide +kernel
theorem m_102 : ma_kd 102 = 1 ∧ ma_np 102 = 3 ∧ ma_mx 102 = 3 ∧ ma_own 102 = 8 := by decide +kernel
theorem cd_103 : ma_cd 103 = cX8_isDeed := rfl
theorem o_103 : ma_own 103 = 8 := by decide +kernel
theorem x_103 : ma_mx 103 = 2 := by decide +kernel
theorem r_103 : ma_rt 103 = some .boolean := by decide +kernel
theorem m_103 : ma_kd 103 = 0 ∧ ma_np 103 = 1 ∧ ma_mx 103 = 2 ∧ ma_own 103 = 8 := by decide +kernel
theorem cd_104 : ma_cd 104 = cX8_held := rfl
theorem o_104 : ma_own 104 = 8 := by decide +kernel
theorem x_104 : ma_mx 104 = 2 := by decide +kernel
theorem r_104 : ma_rt 104 = some .int := by decide +kernel
theorem m_104 : ma_kd 104 = 1 ∧ ma_np 104 = 2 ∧ ma_mx 104 = 2 ∧ ma_own 104 = 8 := by decide +kernel
theorem cd_105 : ma_cd 105 = cX8_keeps := rfl
theorem o_105 : ma_own 105 = 8 := by decide +kernel
theorem x_105 : ma_mx 105 = 2 := by decide +kernel
theorem r_105 : ma_rt 105 = none := by decide +kernel
theorem m_105 : ma_kd 105 = 0 ∧ ma_np 105 = 0 ∧ ma_mx 105 = 2 ∧ ma_own 105 = 8 := by decide +kernel
theorem cd_106 : ma_cd 106 = cX8_goesBack := rfl
theorem o_106 : ma_own 106 = 8 := by decide +kernel
theorem x_106 : ma_mx 106 = 2 := by decide +kernel
theorem r_106 : ma_rt 106 = none := by decide +kernel
theorem m_106 : ma_kd 106 = 0 ∧ ma_np 106 = 0 ∧ ma_mx 106 = 2 ∧ ma_own 106 = 8 := by decide +kernel
theorem cd_107 : ma_cd 107 = cX8_feed := rfl
theorem o_107 : ma_own 107 = 8 := by decide +kernel
theorem x_107 : ma_mx 107 = 2 := by decide +kernel
theorem r_107 : ma_rt 107 = some .int := by decide +kernel
theorem m_107 : ma_kd 107 = 0 ∧ ma_np 107 = 1 ∧ ma_mx 107 = 2 ∧ ma_own 107 = 8 := by decide +kernel
theorem cd_108 : ma_cd 108 = cX8_here := rfl
theorem o_108 : ma_own 108 = 8 := by decide +kernel
theorem x_108 : ma_mx 108 = 1 := by decide +kernel
theorem r_108 : ma_rt 108 = some .int := by decide +kernel
theorem m_108 : ma_kd 108 = 0 ∧ ma_np 108 = 0 ∧ ma_mx 108 = 1 ∧ ma_own 108 = 8 := by decide +kernel
theorem cd_109 : ma_cd 109 = cX8_must := rfl
theorem o_109 : ma_own 109 = 8 := by decide +kernel
theorem x_109 : ma_mx 109 = 2 := by decide +kernel
theorem r_109 : ma_rt 109 = none := by decide +kernel
theorem m_109 : ma_kd 109 = 0 ∧ ma_np 109 = 1 ∧ ma_mx 109 = 2 ∧ ma_own 109 = 8 := by decide +kernel
theorem cd_110 : ma_cd 110 = cX8_spells := rfl
theorem o_110 : ma_own 110 = 8 := by decide +kernel
theorem x_110 : ma_mx 110 = 3 := by decide +kernel
theorem r_110 : ma_rt 110 = none := by decide +kernel
theorem m_110 : ma_kd 110 = 0 ∧ ma_np 110 = 1 ∧ ma_mx 110 = 3 ∧ ma_own 110 = 8 := by decide +kernel
theorem cd_111 : ma_cd 111 = cX8_figures := rfl
theorem o_111 : ma_own 111 = 8 := by decide +kernel
theorem x_111 : ma_mx 111 = 3 := by decide +kernel
theorem r_111 : ma_rt 111 = some .int := by decide +kernel
theorem m_111 : ma_kd 111 = 0 ∧ ma_np 111 = 0 ∧ ma_mx 111 = 3 ∧ ma_own 111 = 8 := by decide +kernel
theorem cd_112 : ma_cd 112 = cX8_among := rfl
theorem o_112 : ma_own 112 = 8 := by decide +kernel
theorem x_112 : ma_mx 112 = 3 := by decide +kernel
theorem r_112 : ma_rt 112 = some .int := by decide +kernel
theorem m_112 : ma_kd 112 = 0 ∧ ma_np 112 = 1 ∧ ma_mx 112 = 3 ∧ ma_own 112 = 8 := by decide +kernel
theorem cd_113 : ma_cd 113 = cX8_emits := rfl
theorem o_113 : ma_own 113 = 8 := by decide +kernel
theorem x_113 : ma_mx 113 = 2 := by decide +kernel
theorem r_113 : ma_rt 113 = none := by decide +kernel
theorem m_113 : ma_kd 113 = 0 ∧ ma_np 113 = 1 ∧ ma_mx 113 = 2 ∧ ma_own 113 = 8 := by decide +kernel
theorem cd_114 : ma_cd 114 = cX8_factor := rfl
theorem o_114 : ma_own 114 = 8 := by decide +kernel
theorem x_114 : ma_mx 114 = 5 := by decide +kernel
theorem r_114 : ma_rt 114 = none := by decide +kernel
theorem m_114 : ma_kd 114 = 0 ∧ ma_np 114 = 0 ∧ ma_mx 114 = 5 ∧ ma_own 114 = 8 := by decide +kernel
theorem cd_115 : ma_cd 115 = cX8_every := rfl
theorem o_115 : ma_own 115 = 8 := by decide +kernel
theorem x_115 : ma_mx 115 = 1 := by decide +kernel
theorem r_115 : ma_rt 115 = none := by decide +kernel
theorem m_115 : ma_kd 115 = 0 ∧ ma_np 115 = 0 ∧ ma_mx 115 = 1 ∧ ma_own 115 = 8 := by decide +kernel
theorem cd_116 : ma_cd 116 = cX8_some := rfl
theorem o_116 : ma_own 116 = 8 := by decide +kernel
theorem x_116 : ma_mx 116 = 1 := by decide +kernel
theorem r_116 : ma_rt 116 = none := by decide +kernel
theorem m_116 : ma_kd 116 = 0 ∧ ma_np 116 = 0 ∧ ma_mx 116 = 1 ∧ ma_own 116 = 8 := by decide +kernel
theorem cd_117 : ma_cd 117 = cX8_much := rfl
theorem o_117 : ma_own 117 = 8 := by decide +kernel
theorem x_117 : ma_mx 117 = 4 := by decide +kernel
theorem r_117 : ma_rt 117 = none := by decide +kernel
theorem m_117 : ma_kd 117 = 0 ∧ ma_np 117 = 2 ∧ ma_mx 117 = 4 ∧ ma_own 117 = 8 := by decide +kernel
theorem cd_118 : ma_cd 118 = cX8_tellsHere := rfl
theorem o_118 : ma_own 118 = 8 := by decide +kernel
theorem x_118 : ma_mx 118 = 4 := by decide +kernel
theorem r_118 : ma_rt 118 = none := by decide +kernel
theorem m_118 : ma_kd 118 = 0 ∧ ma_np 118 = 2 ∧ ma_mx 118 = 4 ∧ ma_own 118 = 8 := by decide +kernel
theorem cd_119 : ma_cd 119 = cX8_second := rfl
theorem o_119 : ma_own 119 = 8 := by decide +kernel
theorem x_119 : ma_mx 119 = 1 := by decide +kernel
theorem r_119 : ma_rt 119 = some .int := by decide +kernel
theorem m_119 : ma_kd 119 = 0 ∧ ma_np 119 = 0 ∧ ma_mx 119 = 1 ∧ ma_own 119 = 8 := by decide +kernel
theorem cd_120 : ma_cd 120 = cX8_clauseHere := rfl
theorem o_120 : ma_own 120 = 8 := by decide +kernel
theorem x_120 : ma_mx 120 = 1 := by decide +kernel
theorem r_120 : ma_rt 120 = none := by decide +kernel
theorem m_120 : ma_kd 120 = 0 ∧ ma_np 120 = 0 ∧ ma_mx 120 = 1 ∧ ma_own 120 = 8 := by decide +kernel
theorem cd_121 : ma_cd 121 = cX8_house := rfl
theorem o_121 : ma_own 121 = 8 := by decide +kernel
theorem x_121 : ma_mx 121 = 2 := by decide +kernel
theorem r_121 : ma_rt 121 = some .int := by decide +kernel
theorem m_121 : ma_kd 121 = 0 ∧ ma_np 121 = 0 ∧ ma_mx 121 = 2 ∧ ma_own 121 = 8 := by decide +kernel
theorem cd_122 : ma_cd 122 = cX8_tellsOf := rfl
theorem o_122 : ma_own 122 = 8 := by decide +kernel
theorem x_122 : ma_mx 122 = 3 := by decide +kernel
theorem r_122 : ma_rt 122 = some .int := by decide +kernel
theorem m_122 : ma_kd 122 = 0 ∧ ma_np 122 = 2 ∧ ma_mx 122 = 3 ∧ ma_own 122 = 8 := by decide +kernel
theorem cd_123 : ma_cd 123 = cX8_sumOf := rfl
theorem o_123 : ma_own 123 = 8 := by decide +kernel
theorem x_123 : ma_mx 123 = 11 := by decide +kernel
theorem r_123 : ma_rt 123 = some .int := by decide +kernel
theorem m_123 : ma_kd 123 = 0 ∧ ma_np 123 = 1 ∧ ma_mx 123 = 11 ∧ ma_own 123 = 8 := by decide +kernel
theorem cd_124 : ma_cd 124 = cX8_careOf := rfl
theorem o_124 : ma_own 124 = 8 := by decide +kernel
theorem x_124 : ma_mx 124 = 4 := by decide +kernel
theorem r_124 : ma_rt 124 = some .int := by decide +kernel
theorem m_124 : ma_kd 124 = 0 ∧ ma_np 124 = 1 ∧ ma_mx 124 = 4 ∧ ma_own 124 = 8 := by decide +kernel
theorem cd_125 : ma_cd 125 = cX8_doubtOf := rfl
theorem o_125 : ma_own 125 = 8 := by decide +kernel
theorem x_125 : ma_mx 125 = 3 := by decide +kernel
theorem r_125 : ma_rt 125 = some .int := by decide +kernel
theorem m_125 : ma_kd 125 = 0 ∧ ma_np 125 = 2 ∧ ma_mx 125 = 3 ∧ ma_own 125 = 8 := by decide +kernel
theorem cd_126 : ma_cd 126 = cX8_backOf := rfl
theorem o_126 : ma_own 126 = 8 := by decide +kernel
theorem x_126 : ma_mx 126 = 3 := by decide +kernel
theorem r_126 : ma_rt 126 = some .int := by decide +kernel
theorem m_126 : ma_kd 126 = 0 ∧ ma_np 126 = 1 ∧ ma_mx 126 = 3 ∧ ma_own 126 = 8 := by decide +kernel
theorem cd_127 : ma_cd 127 = cX8_becomes := rfl
theorem o_127 : ma_own 127 = 8 := by decide +kernel
theorem x_127 : ma_mx 127 = 4 := by decide +kernel
theorem r_127 : ma_rt 127 = some .int := by decide +kernel
theorem m_127 : ma_kd 127 = 0 ∧ ma_np 127 = 2 ∧ ma_mx 127 = 4 ∧ ma_own 127 = 8 := by decide +kernel
theorem cd_128 : ma_cd 128 = cX8_deed := rfl
theorem o_128 : ma_own 128 = 8 := by decide +kernel
theorem x_128 : ma_mx 128 = 5 := by decide +kernel
theorem r_128 : ma_rt 128 = some .int := by decide +kernel
theorem m_128 : ma_kd 128 = 0 ∧ ma_np 128 = 2 ∧ ma_mx 128 = 5 ∧ ma_own 128 = 8 := by decide +kernel
theorem cd_129 : ma_cd 129 = cX8_of := rfl
theorem o_129 : ma_own 129 = 8 := by decide +kernel
theorem x_129 : ma_mx 129 = 3 := by decide +kernel
theorem r_129 : ma_rt 129 = some .int := by decide +kernel
theorem m_129 : ma_kd 129 = 0 ∧ ma_np 129 = 2 ∧ ma_mx 129 = 3 ∧ ma_own 129 = 8 := by decide +kernel
theorem cd_130 : ma_cd 130 = cX8_row := rfl
theorem o_130 : ma_own 130 = 8 := by decide +kernel
theorem x_130 : ma_mx 130 = 4 := by decide +kernel
theorem r_130 : ma_rt 130 = some .int := by decide +kernel
theorem m_130 : ma_kd 130 = 0 ∧ ma_np 130 = 3 ∧ ma_mx 130 = 4 ∧ ma_own 130 = 8 := by decide +kernel
theorem cd_131 : ma_cd 131 = cX8_set := rfl
theorem o_131 : ma_own 131 = 8 := by decide +kernel
theorem x_131 : ma_mx 131 = 4 := by decide +kernel
theorem r_131 : ma_rt 131 = some .int := by decide +kernel
theorem m_131 : ma_kd 131 = 0 ∧ ma_np 131 = 3 ∧ ma_mx 131 = 4 ∧ ma_own 131 = 8 := by decide +kernel
theorem cd_132 : ma_cd 132 = cX8_hurry := rfl
theorem o_132 : ma_own 132 = 8 := by decide +kernel
theorem x_132 : ma_mx 132 = 2 := by decide +kernel
theorem r_132 : ma_rt 132 = some .int := by decide +kernel
theorem m_132 : ma_kd 132 = 0 ∧ ma_np 132 = 1 ∧ ma_mx 132 = 2 ∧ ma_own 132 = 8 := by decide +kernel
theorem cd_133 : ma_cd 133 = cX8_looksAfter := rfl
theorem o_133 : ma_own 133 = 8 := by decide +kernel
theorem x_133 : ma_mx 133 = 2 := by decide +kernel
theorem r_133 : ma_rt 133 = some .int := by decide +kernel
theorem m_133 : ma_kd 133 = 0 ∧ ma_np 133 = 1 ∧ ma_mx 133 = 2 ∧ ma_own 133 = 8 := by decide +kernel
theorem cd_134 : ma_cd 134 = cX8_look := rfl
theorem o_134 : ma_own 134 = 8 := by decide +kernel
theorem x_134 : ma_mx 134 = 2 := by decide +kernel
theorem r_134 : ma_rt 134 = some .int := by decide +kernel
theorem m_134 : ma_kd 134 = 0 ∧ ma_np 134 = 1 ∧ ma_mx 134 = 2 ∧ ma_own 134 = 8 := by decide +kernel
theorem cd_135 : ma_cd 135 = cX8_doubt := rfl
theorem o_135 : ma_own 135 = 8 := by decide +kernel
theorem x_135 : ma_mx 135 = 3 := by decide +kernel
theorem r_135 : ma_rt 135 = some .int := by decide +kernel
theorem m_135 : ma_kd 135 = 0 ∧ ma_np 135 = 2 ∧ ma_mx 135 = 3 ∧ ma_own 135 = 8 := by decide +kernel
theorem cd_136 : ma_cd 136 = cX8_leftOnes := rfl
theorem o_136 : ma_own 136 = 8 := by decide +kernel
theorem x_136 : ma_mx 136 = 3 := by decide +kernel
theorem r_136 : ma_rt 136 = some .int := by decide +kernel
theorem m_136 : ma_kd 136 = 0 ∧ ma_np 136 = 0 ∧ ma_mx 136 = 3 ∧ ma_own 136 = 8 := by decide +kernel
theorem cd_137 : ma_cd 137 = cX8_told := rfl
theorem o_137 : ma_own 137 = 8 := by decide +kernel
theorem x_137 : ma_mx 137 = 2 := by decide +kernel
theorem r_137 : ma_rt 137 = some .int := by decide +kernel
theorem m_137 : ma_kd 137 = 0 ∧ ma_np 137 = 1 ∧ ma_mx 137 = 2 ∧ ma_own 137 = 8 := by decide +kernel
theorem cd_138 : ma_cd 138 = cX8_isDone := rfl
theorem o_138 : ma_own 138 = 8 := by decide +kernel
theorem x_138 : ma_mx 138 = 3 := by decide +kernel
theorem r_138 : ma_rt 138 = none := by decide +kernel
theorem m_138 : ma_kd 138 = 0 ∧ ma_np 138 = 1 ∧ ma_mx 138 = 3 ∧ ma_own 138 = 8 := by decide +kernel
theorem cd_139 : ma_cd 139 = cX8_goes := rfl
theorem o_139 : ma_own 139 = 8 := by decide +kernel
theorem x_139 : ma_mx 139 = 2 := by decide +kernel
theorem r_139 : ma_rt 139 = none := by decide +kernel
theorem m_139 : ma_kd 139 = 0 ∧ ma_np 139 = 0 ∧ ma_mx 139 = 2 ∧ ma_own 139 = 8 := by decide +kernel
theorem cd_140 : ma_cd 140 = cX8_goesOn := rfl
theorem o_140 : ma_own 140 = 8 := by decide +kernel
theorem x_140 : ma_mx 140 = 3 := by decide +kernel
theorem r_140 : ma_rt 140 = none := by decide +kernel
theorem m_140 : ma_kd 140 = 0 ∧ ma_np 140 = 1 ∧ ma_mx 140 = 3 ∧ ma_own 140 = 8 := by decide +kernel
theorem cd_141 : ma_cd 141 = cX8_isDoneOn := rfl
theorem o_141 : ma_own 141 = 8 := by decide +kernel
theorem x_141 : ma_mx 141 = 4 := by decide +kernel
theorem r_141 : ma_rt 141 = none := by decide +kernel
theorem m_141 : ma_kd 141 = 0 ∧ ma_np 141 = 2 ∧ ma_mx 141 = 4 ∧ ma_own 141 = 8 := by decide +kernel
theorem cd_142 : ma_cd 142 = cX8_pass := rfl
theorem o_142 : ma_own 142 = 8 := by decide +kernel
theorem x_142 : ma_mx 142 = 3 := by decide +kernel
theorem r_142 : ma_rt 142 = some .int := by decide +kernel
theorem m_142 : ma_kd 142 = 0 ∧ ma_np 142 = 1 ∧ ma_mx 142 = 3 ∧ ma_own 142 = 8 := by decide +kernel
theorem cd_143 : ma_cd 143 = cX8_on := rfl
theorem o_143 : ma_own 143 = 8 := by decide +kernel
theorem x_143 : ma_mx 143 = 4 := by decide +kernel
theorem r_143 : ma_rt 143 = some .int := by decide +kernel
theorem m_143 : ma_kd 143 = 0 ∧ ma_np 143 = 2 ∧ ma_mx 143 = 4 ∧ ma_own 143 = 8 := by decide +kernel
theorem cd_144 : ma_cd 144 = cX8_minutesOf := rfl
theorem o_144 : ma_own 144 = 8 := by decide +kernel
theorem x_144 : ma_mx 144 = 4 := by decide +kernel
theorem r_144 : ma_rt 144 = some .int := by decide +kernel
theorem m_144 : ma_kd 144 = 0 ∧ ma_np 144 = 1 ∧ ma_mx 144 = 4 ∧ ma_own 144 = 8 := by decide +kernel
theorem cd_145 : ma_cd 145 = cX8_doubtsOf := rfl
theorem o_145 : ma_own 145 = 8 := by decide +kernel
theorem x_145 : ma_mx 145 = 5 := by decide +kernel
theorem r_145 : ma_rt 145 = some .int := by decide +kernel
theorem m_145 : ma_kd 145 = 0 ∧ ma_np 145 = 1 ∧ ma_mx 145 = 5 ∧ ma_own 145 = 8 := by decide +kernel
theorem cd_146 : ma_cd 146 = cX8_best := rfl
theorem o_146 : ma_own 146 = 8 := by decide +kernel
theorem x_146 : ma_mx 146 = 5 := by decide +kernel
theorem r_146 : ma_rt 146 = some .int := by decide +kernel
theorem m_146 : ma_kd 146 = 0 ∧ ma_np 146 = 2 ∧ ma_mx 146 = 5 ∧ ma_own 146 = 8 := by decide +kernel
theorem cd_147 : ma_cd 147 = cX8_staysBy := rfl
theorem o_147 : ma_own 147 = 8 := by decide +kernel
theorem x_147 : ma_mx 147 = 7 := by decide +kernel
theorem r_147 : ma_rt 147 = some .boolean := by decide +kernel
theorem m_147 : ma_kd 147 = 0 ∧ ma_np 147 = 4 ∧ ma_mx 147 = 7 ∧ ma_own 147 = 8 := by decide +kernel
theorem cd_148 : ma_cd 148 = cX8_countOf := rfl
theorem o_148 : ma_own 148 = 8 := by decide +kernel
theorem x_148 : ma_mx 148 = 3 := by decide +kernel
theorem r_148 : ma_rt 148 = some .int := by decide +kernel
theorem m_148 : ma_kd 148 = 1 ∧ ma_np 148 = 1 ∧ ma_mx 148 = 3 ∧ ma_own 148 = 8 := by decide +kernel
theorem cd_149 : ma_cd 149 = cX8_renew := rfl
theorem o_149 : ma_own 149 = 8 := by decide +kernel
theorem x_149 : ma_mx 149 = 7 := by decide +kernel
theorem r_149 : ma_rt 149 = some .int := by decide +kernel
theorem m_149 : ma_kd 149 = 0 ∧ ma_np 149 = 3 ∧ ma_mx 149 = 7 ∧ ma_own 149 = 8 := by decide +kernel
theorem cd_150 : ma_cd 150 = cX8_see := rfl
theorem o_150 : ma_own 150 = 8 := by decide +kernel
theorem x_150 : ma_mx 150 = 4 := by decide +kernel
theorem r_150 : ma_rt 150 = some .int := by decide +kernel
theorem m_150 : ma_kd 150 = 0 ∧ ma_np 150 = 3 ∧ ma_mx 150 = 4 ∧ ma_own 150 = 8 := by decide +kernel
theorem cd_151 : ma_cd 151 = cX8_areAsSeen := rfl
theorem o_151 : ma_own 151 = 8 := by decide +kernel
theorem x_151 : ma_mx 151 = 6 := by decide +kernel
theorem r_151 : ma_rt 151 = some .boolean := by decide +kernel
theorem m_151 : ma_kd 151 = 0 ∧ ma_np 151 = 2 ∧ ma_mx 151 = 6 ∧ ma_own 151 = 8 := by decide +kernel
theorem cd_152 : ma_cd 152 = cX8_fitting := rfl
theorem o_152 : ma_own 152 = 8 := by decide +kernel
theorem x_152 : ma_mx 152 = 8 := by decide +kernel
theorem r_152 : ma_rt 152 = some .int := by decide +kernel
theorem m_152 : ma_kd 152 = 0 ∧ ma_np 152 = 3 ∧ ma_mx 152 = 8 ∧ ma_own 152 = 8 := by decide +kernel
theorem cd_153 : ma_cd 153 = cX8_hurries := rfl
theorem o_153 : ma_own 153 = 8 := by decide +kernel
theorem x_153 : ma_mx 153 = 2 := by decide +kernel
theorem r_153 : ma_rt 153 = some .int := by decide +kernel
theorem m_153 : ma_kd 153 = 0 ∧ ma_np 153 = 1 ∧ ma_mx 153 = 2 ∧ ma_own 153 = 8 := by decide +kernel
theorem cd_154 : ma_cd 154 = cX8_firm := rfl
theorem o_154 : ma_own 154 = 8 := by decide +kernel
theorem x_154 : ma_mx 154 = 3 := by decide +kernel
theorem r_154 : ma_rt 154 = some .int := by decide +kernel
theorem m_154 : ma_kd 154 = 0 ∧ ma_np 154 = 2 ∧ ma_mx 154 = 3 ∧ ma_own 154 = 8 := by decide +kernel
theorem cd_155 : ma_cd 155 = cX8_alikes := rfl
theorem o_155 : ma_own 155 = 8 := by decide +kernel
theorem x_155 : ma_mx 155 = 4 := by decide +kernel
theorem r_155 : ma_rt 155 = some .int := by decide +kernel
theorem m_155 : ma_kd 155 = 0 ∧ ma_np 155 = 1 ∧ ma_mx 155 = 4 ∧ ma_own 155 = 8 := by decide +kernel
theorem cd_156 : ma_cd 156 = cX8_lowest := rfl
theorem o_156 : ma_own 156 = 8 := by decide +kernel
theorem x_156 : ma_mx 156 = 11 := by decide +kernel
theorem r_156 : ma_rt 156 = some .long := by decide +kernel
theorem m_156 : ma_kd 156 = 1 ∧ ma_np 156 = 3 ∧ ma_mx 156 = 11 ∧ ma_own 156 = 8 := by decide +kernel
theorem cd_157 : ma_cd 157 = cX8_odds := rfl
theorem o_157 : ma_own 157 = 8 := by decide +kernel
theorem x_157 : ma_mx 157 = 7 := by decide +kernel
theorem r_157 : ma_rt 157 = some .long := by decide +kernel
theorem m_157 : ma_kd 157 = 0 ∧ ma_np 157 = 3 ∧ ma_mx 157 = 7 ∧ ma_own 157 = 8 := by decide +kernel
theorem cd_158 : ma_cd 158 = cX8_mean := rfl
theorem o_158 : ma_own 158 = 8 := by decide +kernel
theorem x_158 : ma_mx 158 = 5 := by decide +kernel
theorem r_158 : ma_rt 158 = some .long := by decide +kernel
theorem m_158 : ma_kd 158 = 0 ∧ ma_np 158 = 1 ∧ ma_mx 158 = 5 ∧ ma_own 158 = 8 := by decide +kernel
theorem cd_159 : ma_cd 159 = cX8_plan := rfl
theorem o_159 : ma_own 159 = 8 := by decide +kernel
theorem x_159 : ma_mx 159 = 3 := by decide +kernel
theorem r_159 : ma_rt 159 = some .int := by decide +kernel
theorem m_159 : ma_kd 159 = 0 ∧ ma_np 159 = 2 ∧ ma_mx 159 = 3 ∧ ma_own 159 = 8 := by decide +kernel
theorem cd_160 : ma_cd 160 = cX8_goesBy := rfl
theorem o_160 : ma_own 160 = 8 := by decide +kernel
theorem x_160 : ma_mx 160 = 3 := by decide +kernel
theorem r_160 : ma_rt 160 = none := by decide +kernel
theorem m_160 : ma_kd 160 = 0 ∧ ma_np 160 = 2 ∧ ma_mx 160 = 3 ∧ ma_own 160 = 8 := by decide +kernel
theorem cd_161 : ma_cd 161 = cX8_done := rfl
theorem o_161 : ma_own 161 = 8 := by decide +kernel
theorem x_161 : ma_mx 161 = 3 := by decide +kernel
theorem r_161 : ma_rt 161 = some .int := by decide +kernel
theorem m_161 : ma_kd 161 = 0 ∧ ma_np 161 = 1 ∧ ma_mx 161 = 3 ∧ ma_own 161 = 8 := by decide +kernel
theorem cd_162 : ma_cd 162 = cX8_book := rfl
theorem o_162 : ma_own 162 = 8 := by decide +kernel
theorem x_162 : ma_mx 162 = 3 := by decide +kernel
theorem r_162 : ma_rt 162 = some .int := by decide +kernel
theorem m_162 : ma_kd 162 = 0 ∧ ma_np 162 = 2 ∧ ma_mx 162 = 3 ∧ ma_own 162 = 8 := by decide +kernel
theorem cd_163 : ma_cd 163 = cX8_struck := rfl
theorem o_163 : ma_own 163 = 8 := by decide +kernel
theorem x_163 : ma_mx 163 = 2 := by decide +kernel
theorem r_163 : ma_rt 163 = some .int := by decide +kernel
theorem m_163 : ma_kd 163 = 0 ∧ ma_np 163 = 0 ∧ ma_mx 163 = 2 ∧ ma_own 163 = 8 := by decide +kernel
theorem cd_164 : ma_cd 164 = cX8_ranBody := rfl
theorem o_164 : ma_own 164 = 8 := by decide +kernel
theorem x_164 : ma_mx 164 = 2 := by decide +kernel
theorem r_164 : ma_rt 164 = none := by decide +kernel
theorem m_164 : ma_kd 164 = 0 ∧ ma_np 164 = 1 ∧ ma_mx 164 = 2 ∧ ma_own 164 = 8 := by decide +kernel
theorem cd_165 : ma_cd 165 = cX8_isUnder := rfl
theorem o_165 : ma_own 165 = 8 := by decide +kernel
theorem x_165 : ma_mx 165 = 2 := by decide +kernel
theorem r_165 : ma_rt 165 = some .boolean := by decide +kernel
theorem m_165 : ma_kd 165 = 1 ∧ ma_np 165 = 2 ∧ ma_mx 165 = 2 ∧ ma_own 165 = 8 := by decide +kernel
theorem cd_166 : ma_cd 166 = cX8_plainClicks := rfl
theorem o_166 : ma_own 166 = 8 := by decide +kernel
theorem x_166 : ma_mx 166 = 2 := by decide +kernel
theorem r_166 : ma_rt 166 = some .int := by decide +kernel
theorem m_166 : ma_kd 166 = 0 ∧ ma_np 166 = 1 ∧ ma_mx 166 = 2 ∧ ma_own 166 = 8 := by decide +kernel
theorem cd_167 : ma_cd 167 = cX8_clicksActs := rfl
theorem o_167 : ma_own 167 = 8 := by decide +kernel
theorem x_167 : ma_mx 167 = 2 := by decide +kernel
theorem r_167 : ma_rt 167 = some .int := by decide +kernel
theorem m_167 : ma_kd 167 = 0 ∧ ma_np 167 = 1 ∧ ma_mx 167 = 2 ∧ ma_own 167 = 8 := by decide +kernel
theorem cd_168 : ma_cd 168 = cX8_plainPulls := rfl
theorem o_168 : ma_own 168 = 8 := by decide +kernel
theorem x_168 : ma_mx 168 = 2 := by decide +kernel
theorem r_168 : ma_rt 168 = some .int := by decide +kernel
theorem m_168 : ma_kd 168 = 0 ∧ ma_np 168 = 1 ∧ ma_mx 168 = 2 ∧ ma_own 168 = 8 := by decide +kernel
theorem cd_169 : ma_cd 169 = cX8_pullsActs := rfl
theorem o_169 : ma_own 169 = 8 := by decide +kernel
theorem x_169 : ma_mx 169 = 2 := by decide +kernel
theorem r_169 : ma_rt 169 = some .int := by decide +kernel
theorem m_169 : ma_kd 169 = 0 ∧ ma_np 169 = 1 ∧ ma_mx 169 = 2 ∧ ma_own 169 = 8 := by decide +kernel
theorem cd_170 : ma_cd 170 = cX8_plainTelling := rfl
theorem o_170 : ma_own 170 = 8 := by decide +kernel
theorem x_170 : ma_mx 170 = 2 := by decide +kernel
theorem r_170 : ma_rt 170 = some .int := by decide +kernel
theorem m_170 : ma_kd 170 = 0 ∧ ma_np 170 = 1 ∧ ma_mx 170 = 2 ∧ ma_own 170 = 8 := by decide +kernel
theorem cd_171 : ma_cd 171 = cX8_looksActs := rfl
theorem o_171 : ma_own 171 = 8 := by decide +kernel
theorem x_171 : ma_mx 171 = 3 := by decide +kernel
theorem r_171 : ma_rt 171 = some .int := by decide +kernel
theorem m_171 : ma_kd 171 = 0 ∧ ma_np 171 = 1 ∧ ma_mx 171 = 3 ∧ ma_own 171 = 8 := by decide +kernel
theorem cd_172 : ma_cd 172 = cX8_act := rfl
theorem o_172 : ma_own 172 = 8 := by decide +kernel
theorem x_172 : ma_mx 172 = 4 := by decide +kernel
theorem r_172 : ma_rt 172 = some .int := by decide +kernel
theorem m_172 : ma_kd 172 = 0 ∧ ma_np 172 = 3 ∧ ma_mx 172 = 4 ∧ ma_own 172 = 8 := by decide +kernel
theorem cd_173 : ma_cd 173 = cX8_trace := rfl
theorem o_173 : ma_own 173 = 8 := by decide +kernel
theorem x_173 : ma_mx 173 = 2 := by decide +kernel
theorem r_173 : ma_rt 173 = some .int := by decide +kernel
theorem m_173 : ma_kd 173 = 0 ∧ ma_np 173 = 1 ∧ ma_mx 173 = 2 ∧ ma_own 173 = 8 := by decide +kernel
theorem cd_174 : ma_cd 174 = cX8_as := rfl
theorem o_174 : ma_own 174 = 8 := by decide +kernel
theorem x_174 : ma_mx 174 = 3 := by decide +kernel
theorem r_174 : ma_rt 174 = some .int := by decide +kernel
theorem m_174 : ma_kd 174 = 0 ∧ ma_np 174 = 2 ∧ ma_mx 174 = 3 ∧ ma_own 174 = 8 := by decide +kernel
theorem cd_175 : ma_cd 175 = cX8_image := rfl
theorem o_175 : ma_own 175 = 8 := by decide +kernel
theorem x_175 : ma_mx 175 = 2 := by decide +kernel
theorem r_175 : ma_rt 175 = some .int := by decide +kernel
theorem m_175 : ma_kd 175 = 0 ∧ ma_np 175 = 0 ∧ ma_mx 175 = 2 ∧ ma_own 175 = 8 := by decide +kernel
theorem cd_176 : ma_cd 176 = cX8_undo := rfl
theorem o_176 : ma_own 176 = 8 := by decide +kernel
theorem x_176 : ma_mx 176 = 2 := by decide +kernel
theorem r_176 : ma_rt 176 = some .int := by decide +kernel
theorem m_176 : ma_kd 176 = 0 ∧ ma_np 176 = 0 ∧ ma_mx 176 = 2 ∧ ma_own 176 = 8 := by decide +kernel
theorem cd_177 : ma_cd 177 = cX8_count := rfl
theorem o_177 : ma_own 177 = 8 := by decide +kernel
theorem x_177 : ma_mx 177 = 2 := by decide +kernel
theorem r_177 : ma_rt 177 = some .int := by decide +kernel
theorem m_177 : ma_kd 177 = 0 ∧ ma_np 177 = 1 ∧ ma_mx 177 = 2 ∧ ma_own 177 = 8 := by decide +kernel
theorem cd_178 : ma_cd 178 = code := ma_cd178
theorem o_178 : ma_own 178 = 9 := by decide +kernel
theorem x_178 : ma_mx 178 = 4 := by decide +kernel
theorem r_178 : ma_rt 178 = some .boolean := by decide +kernel
theorem m_178 : ma_kd 178 = 1 ∧ ma_np 178 = 1 ∧ ma_mx 178 = 4 ∧ ma_own 178 = 9 := by decide +kernel
theorem f_0_9 : ma_lk ma_ft 0 9 = some (0, 0) := by decide +kernel
theorem f_0_15 : ma_lk ma_ft 0 15 = some (0, 1) := by decide +kernel
theorem f_0_23 : ma_lk ma_ft 0 23 = some (1, 0) := by decide +kernel
theorem f_0_36 : ma_lk ma_ft 0 36 = some (1, 1) := by decide +kernel
theorem f_0_39 : ma_lk ma_ft 0 39 = some (1, 2) := by decide +kernel
theorem f_1_9 : ma_lk ma_ft 1 9 = some (1, 0) := by decide +kernel
theorem f_1_15 : ma_lk ma_ft 1 15 = some (1, 8) := by decide +kernel
theorem f_1_19 : ma_lk ma_ft 1 19 = some (1, 1) := by decide +kernel
theorem f_1_22 : ma_lk ma_ft 1 22 = some (1, 2) := by decide +kernel
theorem f_1_25 : ma_lk ma_ft 1 25 = some (1, 3) := by decide +kernel
theorem f_1_29 : ma_lk ma_ft 1 29 = some (1, 4) := by decide +kernel
theorem f_1_32 : ma_lk ma_ft 1 32 = some (1, 5) := by decide +kernel
theorem f_1_35 : ma_lk ma_ft 1 35 = some (1, 6) := by decide +kernel
theorem f_1_38 : ma_lk ma_ft 1 38 = some (1, 7) := by decide +kernel
theorem f_2_9 : ma_lk ma_ft 2 9 = some (2, 1) := by decide +kernel
theorem f_2_15 : ma_lk ma_ft 2 15 = some (2, 2) := by decide +kernel
theorem f_2_18 : ma_lk ma_ft 2 18 = some (2, 4) := by decide +kernel
theorem f_2_21 : ma_lk ma_ft 2 21 = some (2, 0) := by decide +kernel
theorem f_2_25 : ma_lk ma_ft 2 25 = some (2, 3) := by decide +kernel
theorem f_2_28 : ma_lk ma_ft 2 28 = some (2, 5) := by decide +kernel
theorem f_2_57 : ma_lk ma_ft 2 57 = some (1, 0) := by decide +kernel
theorem f_2_62 : ma_lk ma_ft 2 62 = some (1, 1) := by decide +kernel
theorem f_2_65 : ma_lk ma_ft 2 65 = some (1, 2) := by decide +kernel
theorem f_2_68 : ma_lk ma_ft 2 68 = some (1, 5) := by decide +kernel
theorem f_2_71 : ma_lk ma_ft 2 71 = some (1, 6) := by decide +kernel
theorem f_3_9 : ma_lk ma_ft 3 9 = some (3, 0) := by decide +kernel
theorem f_3_15 : ma_lk ma_ft 3 15 = some (3, 1) := by decide +kernel
theorem f_3_24 : ma_lk ma_ft 3 24 = some (3, 2) := by decide +kernel
theorem f_3_28 : ma_lk ma_ft 3 28 = some (3, 3) := by decide +kernel
theorem f_3_34 : ma_lk ma_ft 3 34 = some (5, 4) := by decide +kernel
theorem f_3_59 : ma_lk ma_ft 3 59 = some (2, 0) := by decide +kernel
theorem f_4_15 : ma_lk ma_ft 4 15 = some (4, 0) := by decide +kernel
theorem f_4_21 : ma_lk ma_ft 4 21 = some (4, 1) := by decide +kernel
theorem f_4_24 : ma_lk ma_ft 4 24 = some (4, 2) := by decide +kernel
theorem f_4_28 : ma_lk ma_ft 4 28 = some (4, 3) := by decide +kernel
theorem f_5_12 : ma_lk ma_ft 5 12 = some (5, 0) := by decide +kernel
theorem f_5_21 : ma_lk ma_ft 5 21 = some (5, 1) := by decide +kernel
theorem f_5_25 : ma_lk ma_ft 5 25 = some (5, 3) := by decide +kernel
theorem f_5_34 : ma_lk ma_ft 5 34 = some (5, 5) := by decide +kernel
theorem f_5_38 : ma_lk ma_ft 5 38 = some (5, 6) := by decide +kernel
theorem f_5_41 : ma_lk ma_ft 5 41 = some (5, 7) := by decide +kernel
theorem f_5_44 : ma_lk ma_ft 5 44 = some (5, 4) := by decide +kernel
theorem f_5_55 : ma_lk ma_ft 5 55 = some (5, 2) := by decide +kernel
theorem f_6_11 : ma_lk ma_ft 6 11 = some (6, 0) := by decide +kernel
theorem f_6_20 : ma_lk ma_ft 6 20 = some (6, 2) := by decide +kernel
theorem f_6_24 : ma_lk ma_ft 6 24 = some (6, 1) := by decide +kernel
theorem f_6_31 : ma_lk ma_ft 6 31 = some (6, 3) := by decide +kernel
theorem f_6_34 : ma_lk ma_ft 6 34 = some (6, 4) := by decide +kernel
theorem f_6_55 : ma_lk ma_ft 6 55 = some (1, 3) := by decide +kernel
theorem f_6_59 : ma_lk ma_ft 6 59 = some (1, 2) := by decide +kernel
theorem f_6_62 : ma_lk ma_ft 6 62 = some (1, 4) := by decide +kernel
theorem f_7_12 : ma_lk ma_ft 7 12 = some (7, 0) := by decide +kernel
theorem f_7_18 : ma_lk ma_ft 7 18 = some (7, 1) := by decide +kernel
theorem f_7_24 : ma_lk ma_ft 7 24 = some (7, 4) := by decide +kernel
theorem f_7_33 : ma_lk ma_ft 7 33 = some (7, 3) := by decide +kernel
theorem f_7_40 : ma_lk ma_ft 7 40 = some (7, 5) := by decide +kernel
theorem f_7_49 : ma_lk ma_ft 7 49 = some (7, 6) := by decide +kernel
theorem f_7_56 : ma_lk ma_ft 7 56 = some (7, 7) := by decide +kernel
theorem f_7_60 : ma_lk ma_ft 7 60 = some (7, 8) := by decide +kernel
theorem f_7_64 : ma_lk ma_ft 7 64 = some (7, 9) := by decide +kernel
theorem f_7_75 : ma_lk ma_ft 7 75 = some (5, 4) := by decide +kernel
theorem f_7_79 : ma_lk ma_ft 7 79 = some (5, 2) := by decide +kernel
theorem f_7_86 : ma_lk ma_ft 7 86 = some (5, 1) := by decide +kernel
theorem f_7_93 : ma_lk ma_ft 7 93 = some (5, 0) := by decide +kernel
theorem f_7_99 : ma_lk ma_ft 7 99 = some (6, 1) := by decide +kernel
theorem f_7_107 : ma_lk ma_ft 7 107 = some (1, 1) := by decide +kernel
theorem f_7_110 : ma_lk ma_ft 7 110 = some (1, 2) := by decide +kernel
theorem f_7_113 : ma_lk ma_ft 7 113 = some (1, 3) := by decide +kernel
theorem f_7_117 : ma_lk ma_ft 7 117 = some (1, 4) := by decide +kernel
theorem f_7_120 : ma_lk ma_ft 7 120 = some (1, 5) := by decide +kernel
theorem f_7_123 : ma_lk ma_ft 7 123 = some (1, 6) := by decide +kernel
theorem f_7_126 : ma_lk ma_ft 7 126 = some (1, 7) := by decide +kernel
theorem f_7_129 : ma_lk ma_ft 7 129 = some (6, 3) := by decide +kernel
theorem f_7_136 : ma_lk ma_ft 7 136 = some (2, 0) := by decide +kernel
theorem f_7_150 : ma_lk ma_ft 7 150 = some (6, 2) := by decide +kernel
theorem f_7_160 : ma_lk ma_ft 7 160 = some (6, 4) := by decide +kernel
theorem f_7_193 : ma_lk ma_ft 7 193 = some (5, 5) := by decide +kernel
theorem f_7_197 : ma_lk ma_ft 7 197 = some (4, 3) := by decide +kernel
theorem f_7_225 : ma_lk ma_ft 7 225 = some (5, 6) := by decide +kernel
theorem f_7_237 : ma_lk ma_ft 7 237 = some (5, 7) := by decide +kernel
theorem f_7_240 : ma_lk ma_ft 7 240 = some (0, 1) := by decide +kernel
theorem f_7_262 : ma_lk ma_ft 7 262 = some (7, 2) := by decide +kernel
theorem f_7_274 : ma_lk ma_ft 7 274 = some (1, 0) := by decide +kernel
theorem f_8_9 : ma_lk ma_ft 8 9 = some (8, 1) := by decide +kernel
theorem f_8_15 : ma_lk ma_ft 8 15 = some (8, 2) := by decide +kernel
theorem f_8_18 : ma_lk ma_ft 8 18 = some (8, 3) := by decide +kernel
theorem f_8_21 : ma_lk ma_ft 8 21 = some (8, 10) := by decide +kernel
theorem f_8_24 : ma_lk ma_ft 8 24 = some (8, 11) := by decide +kernel
theorem f_8_28 : ma_lk ma_ft 8 28 = some (8, 12) := by decide +kernel
theorem f_8_39 : ma_lk ma_ft 8 39 = some (8, 6) := by decide +kernel
theorem f_8_42 : ma_lk ma_ft 8 42 = some (8, 7) := by decide +kernel
theorem f_8_45 : ma_lk ma_ft 8 45 = some (8, 8) := by decide +kernel
theorem f_8_66 : ma_lk ma_ft 8 66 = some (8, 5) := by decide +kernel
theorem f_8_69 : ma_lk ma_ft 8 69 = some (8, 9) := by decide +kernel
theorem f_8_204 : ma_lk ma_ft 8 204 = some (8, 13) := by decide +kernel
theorem f_8_210 : ma_lk ma_ft 8 210 = some (8, 15) := by decide +kernel
theorem f_8_213 : ma_lk ma_ft 8 213 = some (8, 14) := by decide +kernel
theorem f_8_225 : ma_lk ma_ft 8 225 = some (8, 16) := by decide +kernel
theorem f_8_240 : ma_lk ma_ft 8 240 = some (8, 4) := by decide +kernel
theorem b_1_59 : ma_lk ma_bt 1 59 = some 0 := by decide +kernel
theorem b_1_64 : ma_lk ma_bt 1 64 = some 1 := by decide +kernel
theorem b_2_43 : ma_lk ma_bt 2 43 = some 0 := by decide +kernel
theorem b_3_95 : ma_lk ma_bt 3 95 = some 2 := by decide +kernel
theorem b_3_100 : ma_lk ma_bt 3 100 = some 3 := by decide +kernel
theorem b_7_171 : ma_lk ma_bt 7 171 = some 1 := by decide +kernel
theorem b_7_268 : ma_lk ma_bt 7 268 = some 0 := by decide +kernel
theorem b_8_53 : ma_lk ma_bt 8 53 = some 2 := by decide +kernel
theorem b_8_58 : ma_lk ma_bt 8 58 = some 3 := by decide +kernel
theorem c_0_19 : ma_lk ma_ct 0 19 = some (1, false) := by decide +kernel
theorem bn_0_19 : ma_lk ma_bt 0 19 = none := by decide +kernel
theorem c_0_28 : ma_lk ma_ct 0 28 = some (89, true) := by decide +kernel
theorem bn_0_28 : ma_lk ma_bt 0 28 = none := by decide +kernel
theorem c_0_32 : ma_lk ma_ct 0 32 = some (3, false) := by decide +kernel
theorem bn_0_32 : ma_lk ma_bt 0 32 = none := by decide +kernel
theorem c_0_42 : ma_lk ma_ct 0 42 = some (4, false) := by decide +kernel
theorem bn_0_42 : ma_lk ma_bt 0 42 = none := by decide +kernel
theorem c_0_45 : ma_lk ma_ct 0 45 = some (5, false) := by decide +kernel
theorem bn_0_45 : ma_lk ma_bt 0 45 = none := by decide +kernel
theorem c_1_41 : ma_lk ma_ct 1 41 = some (91, true) := by decide +kernel
theorem bn_1_41 : ma_lk ma_bt 1 41 = none := by decide +kernel
theorem c_1_45 : ma_lk ma_ct 1 45 = some (22, false) := by decide +kernel
theorem bn_1_45 : ma_lk ma_bt 1 45 = none := by decide +kernel
theorem c_1_51 : ma_lk ma_ct 1 51 = some (9, false) := by decide +kernel
theorem bn_1_51 : ma_lk ma_bt 1 51 = none := by decide +kernel
theorem c_1_55 : ma_lk ma_ct 1 55 = some (90, true) := by decide +kernel
theorem bn_1_55 : ma_lk ma_bt 1 55 = none := by decide +kernel
theorem c_1_67 : ma_lk ma_ct 1 67 = some (14, false) := by decide +kernel
theorem bn_1_67 : ma_lk ma_bt 1 67 = none := by decide +kernel
theorem c_2_31 : ma_lk ma_ct 2 31 = some (91, true) := by decide +kernel
theorem bn_2_31 : ma_lk ma_bt 2 31 = none := by decide +kernel
theorem c_2_35 : ma_lk ma_ct 2 35 = some (19, false) := by decide +kernel
theorem bn_2_35 : ma_lk ma_bt 2 35 = none := by decide +kernel
theorem c_2_39 : ma_lk ma_ct 2 39 = some (23, false) := by decide +kernel
theorem bn_2_39 : ma_lk ma_bt 2 39 = none := by decide +kernel
theorem c_2_49 : ma_lk ma_ct 2 49 = some (24, false) := by decide +kernel
theorem bn_2_49 : ma_lk ma_bt 2 49 = none := by decide +kernel
theorem c_2_53 : ma_lk ma_ct 2 53 = some (25, false) := by decide +kernel
theorem bn_2_53 : ma_lk ma_bt 2 53 = none := by decide +kernel
theorem c_3_19 : ma_lk ma_ct 3 19 = some (17, false) := by decide +kernel
theorem bn_3_19 : ma_lk ma_bt 3 19 = none := by decide +kernel
theorem c_3_31 : ma_lk ma_ct 3 31 = some (28, false) := by decide +kernel
theorem bn_3_31 : ma_lk ma_bt 3 31 = none := by decide +kernel
theorem c_3_39 : ma_lk ma_ct 3 39 = some (36, false) := by decide +kernel
theorem bn_3_39 : ma_lk ma_bt 3 39 = none := by decide +kernel
theorem c_3_43 : ma_lk ma_ct 3 43 = some (29, false) := by decide +kernel
theorem bn_3_43 : ma_lk ma_bt 3 43 = none := by decide +kernel
theorem c_3_52 : ma_lk ma_ct 3 52 = some (35, false) := by decide +kernel
theorem bn_3_52 : ma_lk ma_bt 3 52 = none := by decide +kernel
theorem c_3_56 : ma_lk ma_ct 3 56 = some (33, false) := by decide +kernel
theorem bn_3_56 : ma_lk ma_bt 3 56 = none := by decide +kernel
theorem c_3_64 : ma_lk ma_ct 3 64 = some (30, false) := by decide +kernel
theorem bn_3_64 : ma_lk ma_bt 3 64 = none := by decide +kernel
theorem c_3_68 : ma_lk ma_ct 3 68 = some (21, false) := by decide +kernel
theorem bn_3_68 : ma_lk ma_bt 3 68 = none := by decide +kernel
theorem c_3_71 : ma_lk ma_ct 3 71 = some (47, false) := by decide +kernel
theorem bn_3_71 : ma_lk ma_bt 3 71 = none := by decide +kernel
theorem c_3_75 : ma_lk ma_ct 3 75 = some (31, false) := by decide +kernel
theorem bn_3_75 : ma_lk ma_bt 3 75 = none := by decide +kernel
theorem c_3_78 : ma_lk ma_ct 3 78 = some (19, false) := by decide +kernel
theorem bn_3_78 : ma_lk ma_bt 3 78 = none := by decide +kernel
theorem c_3_83 : ma_lk ma_ct 3 83 = some (32, false) := by decide +kernel
theorem bn_3_83 : ma_lk ma_bt 3 83 = none := by decide +kernel
theorem c_3_89 : ma_lk ma_ct 3 89 = some (20, false) := by decide +kernel
theorem bn_3_89 : ma_lk ma_bt 3 89 = none := by decide +kernel
theorem c_3_104 : ma_lk ma_ct 3 104 = some (34, false) := by decide +kernel
theorem bn_3_104 : ma_lk ma_bt 3 104 = none := by decide +kernel
theorem c_4_32 : ma_lk ma_ct 4 32 = some (38, false) := by decide +kernel
theorem bn_4_32 : ma_lk ma_bt 4 32 = none := by decide +kernel
theorem c_4_36 : ma_lk ma_ct 4 36 = some (40, false) := by decide +kernel
theorem bn_4_36 : ma_lk ma_bt 4 36 = none := by decide +kernel
theorem c_4_40 : ma_lk ma_ct 4 40 = some (41, false) := by decide +kernel
theorem bn_4_40 : ma_lk ma_bt 4 40 = none := by decide +kernel
theorem c_4_44 : ma_lk ma_ct 4 44 = some (42, false) := by decide +kernel
theorem bn_4_44 : ma_lk ma_bt 4 44 = none := by decide +kernel
theorem c_4_47 : ma_lk ma_ct 4 47 = some (43, false) := by decide +kernel
theorem bn_4_47 : ma_lk ma_bt 4 47 = none := by decide +kernel
theorem c_5_48 : ma_lk ma_ct 5 48 = some (52, false) := by decide +kernel
theorem bn_5_48 : ma_lk ma_bt 5 48 = none := by decide +kernel
theorem c_5_52 : ma_lk ma_ct 5 52 = some (18, false) := by decide +kernel
theorem bn_5_52 : ma_lk ma_bt 5 52 = none := by decide +kernel
theorem c_5_58 : ma_lk ma_ct 5 58 = some (91, true) := by decide +kernel
theorem bn_5_58 : ma_lk ma_bt 5 58 = none := by decide +kernel
theorem c_5_62 : ma_lk ma_ct 5 62 = some (44, false) := by decide +kernel
theorem bn_5_62 : ma_lk ma_bt 5 62 = none := by decide +kernel
theorem c_6_27 : ma_lk ma_ct 6 27 = some (7, false) := by decide +kernel
theorem bn_6_27 : ma_lk ma_bt 6 27 = none := by decide +kernel
theorem c_6_37 : ma_lk ma_ct 6 37 = some (50, false) := by decide +kernel
theorem bn_6_37 : ma_lk ma_bt 6 37 = none := by decide +kernel
theorem c_6_41 : ma_lk ma_ct 6 41 = some (8, false) := by decide +kernel
theorem bn_6_41 : ma_lk ma_bt 6 41 = none := by decide +kernel
theorem c_6_45 : ma_lk ma_ct 6 45 = some (54, false) := by decide +kernel
theorem bn_6_45 : ma_lk ma_bt 6 45 = none := by decide +kernel
theorem c_6_49 : ma_lk ma_ct 6 49 = some (11, false) := by decide +kernel
theorem bn_6_49 : ma_lk ma_bt 6 49 = none := by decide +kernel
theorem c_6_53 : ma_lk ma_ct 6 53 = some (12, false) := by decide +kernel
theorem bn_6_53 : ma_lk ma_bt 6 53 = none := by decide +kernel
theorem c_7_67 : ma_lk ma_ct 7 67 = some (88, false) := by decide +kernel
theorem bn_7_67 : ma_lk ma_bt 7 67 = none := by decide +kernel
theorem c_7_71 : ma_lk ma_ct 7 71 = some (46, false) := by decide +kernel
theorem bn_7_71 : ma_lk ma_bt 7 71 = none := by decide +kernel
theorem c_7_82 : ma_lk ma_ct 7 82 = some (27, false) := by decide +kernel
theorem bn_7_82 : ma_lk ma_bt 7 82 = none := by decide +kernel
theorem c_7_89 : ma_lk ma_ct 7 89 = some (18, false) := by decide +kernel
theorem bn_7_89 : ma_lk ma_bt 7 89 = none := by decide +kernel
theorem c_7_96 : ma_lk ma_ct 7 96 = some (51, false) := by decide +kernel
theorem bn_7_96 : ma_lk ma_bt 7 96 = none := by decide +kernel
theorem c_7_102 : ma_lk ma_ct 7 102 = some (50, false) := by decide +kernel
theorem bn_7_102 : ma_lk ma_bt 7 102 = none := by decide +kernel
theorem c_7_132 : ma_lk ma_ct 7 132 = some (11, false) := by decide +kernel
theorem bn_7_132 : ma_lk ma_bt 7 132 = none := by decide +kernel
theorem c_7_139 : ma_lk ma_ct 7 139 = some (15, false) := by decide +kernel
theorem bn_7_139 : ma_lk ma_bt 7 139 = none := by decide +kernel
theorem c_7_143 : ma_lk ma_ct 7 143 = some (9, false) := by decide +kernel
theorem bn_7_143 : ma_lk ma_bt 7 143 = none := by decide +kernel
theorem c_7_146 : ma_lk ma_ct 7 146 = some (10, false) := by decide +kernel
theorem bn_7_146 : ma_lk ma_bt 7 146 = none := by decide +kernel
theorem c_7_153 : ma_lk ma_ct 7 153 = some (13, false) := by decide +kernel
theorem bn_7_153 : ma_lk ma_bt 7 153 = none := by decide +kernel
theorem c_7_156 : ma_lk ma_ct 7 156 = some (14, false) := by decide +kernel
theorem bn_7_156 : ma_lk ma_bt 7 156 = none := by decide +kernel
theorem c_7_163 : ma_lk ma_ct 7 163 = some (55, false) := by decide +kernel
theorem bn_7_163 : ma_lk ma_bt 7 163 = none := by decide +kernel
theorem c_7_166 : ma_lk ma_ct 7 166 = some (53, false) := by decide +kernel
theorem bn_7_166 : ma_lk ma_bt 7 166 = none := by decide +kernel
theorem c_7_176 : ma_lk ma_ct 7 176 = some (52, false) := by decide +kernel
theorem bn_7_176 : ma_lk ma_bt 7 176 = none := by decide +kernel
theorem c_7_179 : ma_lk ma_ct 7 179 = some (95, false) := by decide +kernel
theorem bn_7_179 : ma_lk ma_bt 7 179 = none := by decide +kernel
theorem c_7_182 : ma_lk ma_ct 7 182 = some (96, false) := by decide +kernel
theorem bn_7_182 : ma_lk ma_bt 7 182 = none := by decide +kernel
theorem c_7_185 : ma_lk ma_ct 7 185 = some (97, false) := by decide +kernel
theorem bn_7_185 : ma_lk ma_bt 7 185 = none := by decide +kernel
theorem c_7_189 : ma_lk ma_ct 7 189 = some (99, false) := by decide +kernel
theorem bn_7_189 : ma_lk ma_bt 7 189 = none := by decide +kernel
theorem c_7_200 : ma_lk ma_ct 7 200 = some (39, false) := by decide +kernel
theorem bn_7_200 : ma_lk ma_bt 7 200 = none := by decide +kernel
theorem c_7_204 : ma_lk ma_ct 7 204 = some (94, false) := by decide +kernel
theorem bn_7_204 : ma_lk ma_bt 7 204 = none := by decide +kernel
theorem c_7_210 : ma_lk ma_ct 7 210 = some (8, false) := by decide +kernel
theorem bn_7_210 : ma_lk ma_bt 7 210 = none := by decide +kernel
theorem c_7_213 : ma_lk ma_ct 7 213 = some (93, false) := by decide +kernel
theorem bn_7_213 : ma_lk ma_bt 7 213 = none := by decide +kernel
theorem c_7_218 : ma_lk ma_ct 7 218 = some (92, false) := by decide +kernel
theorem bn_7_218 : ma_lk ma_bt 7 218 = none := by decide +kernel
theorem c_7_222 : ma_lk ma_ct 7 222 = some (56, false) := by decide +kernel
theorem bn_7_222 : ma_lk ma_bt 7 222 = none := by decide +kernel
theorem c_7_228 : ma_lk ma_ct 7 228 = some (41, false) := by decide +kernel
theorem bn_7_228 : ma_lk ma_bt 7 228 = none := by decide +kernel
theorem c_7_231 : ma_lk ma_ct 7 231 = some (42, false) := by decide +kernel
theorem bn_7_231 : ma_lk ma_bt 7 231 = none := by decide +kernel
theorem c_7_234 : ma_lk ma_ct 7 234 = some (100, false) := by decide +kernel
theorem bn_7_234 : ma_lk ma_bt 7 234 = none := by decide +kernel
theorem c_7_243 : ma_lk ma_ct 7 243 = some (3, true) := by decide +kernel
theorem bn_7_243 : ma_lk ma_bt 7 243 = none := by decide +kernel
theorem c_7_247 : ma_lk ma_ct 7 247 = some (4, true) := by decide +kernel
theorem bn_7_247 : ma_lk ma_bt 7 247 = none := by decide +kernel
theorem c_7_250 : ma_lk ma_ct 7 250 = some (5, true) := by decide +kernel
theorem bn_7_250 : ma_lk ma_bt 7 250 = none := by decide +kernel
theorem c_7_253 : ma_lk ma_ct 7 253 = some (2, false) := by decide +kernel
theorem bn_7_253 : ma_lk ma_bt 7 253 = none := by decide +kernel
theorem c_7_256 : ma_lk ma_ct 7 256 = some (89, false) := by decide +kernel
theorem bn_7_256 : ma_lk ma_bt 7 256 = none := by decide +kernel
theorem c_7_259 : ma_lk ma_ct 7 259 = some (48, false) := by decide +kernel
theorem bn_7_259 : ma_lk ma_bt 7 259 = none := by decide +kernel
theorem c_7_271 : ma_lk ma_ct 7 271 = some (12, false) := by decide +kernel
theorem bn_7_271 : ma_lk ma_bt 7 271 = none := by decide +kernel
theorem c_7_277 : ma_lk ma_ct 7 277 = some (43, false) := by decide +kernel
theorem bn_7_277 : ma_lk ma_bt 7 277 = none := by decide +kernel
theorem c_7_280 : ma_lk ma_ct 7 280 = some (98, false) := by decide +kernel
theorem bn_7_280 : ma_lk ma_bt 7 280 = none := by decide +kernel
theorem c_7_283 : ma_lk ma_ct 7 283 = some (54, false) := by decide +kernel
theorem bn_7_283 : ma_lk ma_bt 7 283 = none := by decide +kernel
theorem c_8_35 : ma_lk ma_ct 8 35 = some (102, false) := by decide +kernel
theorem bn_8_35 : ma_lk ma_bt 8 35 = none := by decide +kernel
theorem c_8_49 : ma_lk ma_ct 8 49 = some (108, false) := by decide +kernel
theorem bn_8_49 : ma_lk ma_bt 8 49 = none := by decide +kernel
theorem c_8_62 : ma_lk ma_ct 8 62 = some (109, false) := by decide +kernel
theorem bn_8_62 : ma_lk ma_bt 8 62 = none := by decide +kernel
theorem c_8_72 : ma_lk ma_ct 8 72 = some (114, false) := by decide +kernel
theorem bn_8_72 : ma_lk ma_bt 8 72 = none := by decide +kernel
theorem c_8_75 : ma_lk ma_ct 8 75 = some (113, false) := by decide +kernel
theorem bn_8_75 : ma_lk ma_bt 8 75 = none := by decide +kernel
theorem c_8_78 : ma_lk ma_ct 8 78 = some (116, false) := by decide +kernel
theorem bn_8_78 : ma_lk ma_bt 8 78 = none := by decide +kernel
theorem c_8_83 : ma_lk ma_ct 8 83 = some (112, false) := by decide +kernel
theorem bn_8_83 : ma_lk ma_bt 8 83 = none := by decide +kernel
theorem c_8_89 : ma_lk ma_ct 8 89 = some (111, false) := by decide +kernel
theorem bn_8_89 : ma_lk ma_bt 8 89 = none := by decide +kernel
theorem c_8_92 : ma_lk ma_ct 8 92 = some (115, false) := by decide +kernel
theorem bn_8_92 : ma_lk ma_bt 8 92 = none := by decide +kernel
theorem c_8_95 : ma_lk ma_ct 8 95 = some (110, false) := by decide +kernel
theorem bn_8_95 : ma_lk ma_bt 8 95 = none := by decide +kernel
theorem c_8_101 : ma_lk ma_ct 8 101 = some (118, false) := by decide +kernel
theorem bn_8_101 : ma_lk ma_bt 8 101 = none := by decide +kernel
theorem c_8_105 : ma_lk ma_ct 8 105 = some (119, false) := by decide +kernel
theorem bn_8_105 : ma_lk ma_bt 8 105 = none := by decide +kernel
theorem c_8_110 : ma_lk ma_ct 8 110 = some (117, false) := by decide +kernel
theorem bn_8_110 : ma_lk ma_bt 8 110 = none := by decide +kernel
theorem c_8_115 : ma_lk ma_ct 8 115 = some (120, false) := by decide +kernel
theorem bn_8_115 : ma_lk ma_bt 8 115 = none := by decide +kernel
theorem c_8_118 : ma_lk ma_ct 8 118 = some (122, false) := by decide +kernel
theorem bn_8_118 : ma_lk ma_bt 8 118 = none := by decide +kernel
theorem c_8_122 : ma_lk ma_ct 8 122 = some (123, false) := by decide +kernel
theorem bn_8_122 : ma_lk ma_bt 8 122 = none := by decide +kernel
theorem c_8_126 : ma_lk ma_ct 8 126 = some (125, false) := by decide +kernel
theorem bn_8_126 : ma_lk ma_bt 8 126 = none := by decide +kernel
theorem c_8_129 : ma_lk ma_ct 8 129 = some (103, false) := by decide +kernel
theorem bn_8_129 : ma_lk ma_bt 8 129 = none := by decide +kernel
theorem c_8_134 : ma_lk ma_ct 8 134 = some (124, false) := by decide +kernel
theorem bn_8_134 : ma_lk ma_bt 8 134 = none := by decide +kernel
theorem c_8_137 : ma_lk ma_ct 8 137 = some (126, false) := by decide +kernel
theorem bn_8_137 : ma_lk ma_bt 8 137 = none := by decide +kernel
theorem c_8_140 : ma_lk ma_ct 8 140 = some (127, false) := by decide +kernel
theorem bn_8_140 : ma_lk ma_bt 8 140 = none := by decide +kernel
theorem c_8_143 : ma_lk ma_ct 8 143 = some (104, false) := by decide +kernel
theorem bn_8_143 : ma_lk ma_bt 8 143 = none := by decide +kernel
theorem c_8_146 : ma_lk ma_ct 8 146 = some (133, false) := by decide +kernel
theorem bn_8_146 : ma_lk ma_bt 8 146 = none := by decide +kernel
theorem c_8_149 : ma_lk ma_ct 8 149 = some (136, false) := by decide +kernel
theorem bn_8_149 : ma_lk ma_bt 8 149 = none := by decide +kernel
theorem c_8_152 : ma_lk ma_ct 8 152 = some (138, false) := by decide +kernel
theorem bn_8_152 : ma_lk ma_bt 8 152 = none := by decide +kernel
theorem c_8_155 : ma_lk ma_ct 8 155 = some (139, false) := by decide +kernel
theorem bn_8_155 : ma_lk ma_bt 8 155 = none := by decide +kernel
theorem c_8_159 : ma_lk ma_ct 8 159 = some (105, false) := by decide +kernel
theorem bn_8_159 : ma_lk ma_bt 8 159 = none := by decide +kernel
theorem c_8_162 : ma_lk ma_ct 8 162 = some (140, false) := by decide +kernel
theorem bn_8_162 : ma_lk ma_bt 8 162 = none := by decide +kernel
theorem c_8_165 : ma_lk ma_ct 8 165 = some (106, false) := by decide +kernel
theorem bn_8_165 : ma_lk ma_bt 8 165 = none := by decide +kernel
theorem c_8_168 : ma_lk ma_ct 8 168 = some (144, false) := by decide +kernel
theorem bn_8_168 : ma_lk ma_bt 8 168 = none := by decide +kernel
theorem c_8_171 : ma_lk ma_ct 8 171 = some (145, false) := by decide +kernel
theorem bn_8_171 : ma_lk ma_bt 8 171 = none := by decide +kernel
theorem c_8_174 : ma_lk ma_ct 8 174 = some (141, false) := by decide +kernel
theorem bn_8_174 : ma_lk ma_bt 8 174 = none := by decide +kernel
theorem c_8_178 : ma_lk ma_ct 8 178 = some (148, false) := by decide +kernel
theorem bn_8_178 : ma_lk ma_bt 8 178 = none := by decide +kernel
theorem c_8_181 : ma_lk ma_ct 8 181 = some (147, false) := by decide +kernel
theorem bn_8_181 : ma_lk ma_bt 8 181 = none := by decide +kernel
theorem c_8_185 : ma_lk ma_ct 8 185 = some (151, false) := by decide +kernel
theorem bn_8_185 : ma_lk ma_bt 8 185 = none := by decide +kernel
theorem c_8_189 : ma_lk ma_ct 8 189 = some (152, false) := by decide +kernel
theorem bn_8_189 : ma_lk ma_bt 8 189 = none := by decide +kernel
theorem c_8_197 : ma_lk ma_ct 8 197 = some (156, false) := by decide +kernel
theorem bn_8_197 : ma_lk ma_bt 8 197 = none := by decide +kernel
theorem c_8_201 : ma_lk ma_ct 8 201 = some (160, false) := by decide +kernel
theorem bn_8_201 : ma_lk ma_bt 8 201 = none := by decide +kernel
theorem c_8_207 : ma_lk ma_ct 8 207 = some (164, false) := by decide +kernel
theorem bn_8_207 : ma_lk ma_bt 8 207 = none := by decide +kernel
theorem c_8_216 : ma_lk ma_ct 8 216 = some (165, false) := by decide +kernel
theorem bn_8_216 : ma_lk ma_bt 8 216 = none := by decide +kernel
theorem c_8_219 : ma_lk ma_ct 8 219 = some (166, false) := by decide +kernel
theorem bn_8_219 : ma_lk ma_bt 8 219 = none := by decide +kernel
theorem c_8_222 : ma_lk ma_ct 8 222 = some (167, false) := by decide +kernel
theorem bn_8_222 : ma_lk ma_bt 8 222 = none := by decide +kernel
theorem c_8_228 : ma_lk ma_ct 8 228 = some (168, false) := by decide +kernel
theorem bn_8_228 : ma_lk ma_bt 8 228 = none := by decide +kernel
theorem c_8_231 : ma_lk ma_ct 8 231 = some (169, false) := by decide +kernel
theorem bn_8_231 : ma_lk ma_bt 8 231 = none := by decide +kernel
theorem c_8_234 : ma_lk ma_ct 8 234 = some (170, false) := by decide +kernel
theorem bn_8_234 : ma_lk ma_bt 8 234 = none := by decide +kernel
theorem c_8_237 : ma_lk ma_ct 8 237 = some (171, false) := by decide +kernel
theorem bn_8_237 : ma_lk ma_bt 8 237 = none := by decide +kernel
theorem c_9_13 : ma_lk ma_ct 9 13 = some (58, false) := by decide +kernel
theorem bn_9_13 : ma_lk ma_bt 9 13 = none := by decide +kernel
theorem c_9_17 : ma_lk ma_ct 9 17 = some (107, false) := by decide +kernel
theorem bn_9_17 : ma_lk ma_bt 9 17 = none := by decide +kernel
theorem c_9_18 : ma_lk ma_ct 9 18 = some (59, false) := by decide +kernel
theorem bn_9_18 : ma_lk ma_bt 9 18 = none := by decide +kernel
theorem c_9_22 : ma_lk ma_ct 9 22 = some (121, false) := by decide +kernel
theorem bn_9_22 : ma_lk ma_bt 9 22 = none := by decide +kernel
theorem c_9_23 : ma_lk ma_ct 9 23 = some (60, false) := by decide +kernel
theorem bn_9_23 : ma_lk ma_bt 9 23 = none := by decide +kernel
theorem c_9_27 : ma_lk ma_ct 9 27 = some (128, false) := by decide +kernel
theorem bn_9_27 : ma_lk ma_bt 9 27 = none := by decide +kernel
theorem c_9_28 : ma_lk ma_ct 9 28 = some (61, false) := by decide +kernel
theorem bn_9_28 : ma_lk ma_bt 9 28 = none := by decide +kernel
theorem c_9_31 : ma_lk ma_ct 9 31 = some (129, false) := by decide +kernel
theorem bn_9_31 : ma_lk ma_bt 9 31 = none := by decide +kernel
theorem c_9_32 : ma_lk ma_ct 9 32 = some (62, false) := by decide +kernel
theorem bn_9_32 : ma_lk ma_bt 9 32 = none := by decide +kernel
theorem c_9_36 : ma_lk ma_ct 9 36 = some (130, false) := by decide +kernel
theorem bn_9_36 : ma_lk ma_bt 9 36 = none := by decide +kernel
theorem c_9_37 : ma_lk ma_ct 9 37 = some (63, false) := by decide +kernel
theorem bn_9_37 : ma_lk ma_bt 9 37 = none := by decide +kernel
theorem c_9_40 : ma_lk ma_ct 9 40 = some (131, false) := by decide +kernel
theorem bn_9_40 : ma_lk ma_bt 9 40 = none := by decide +kernel
theorem c_9_41 : ma_lk ma_ct 9 41 = some (64, false) := by decide +kernel
theorem bn_9_41 : ma_lk ma_bt 9 41 = none := by decide +kernel
theorem c_9_44 : ma_lk ma_ct 9 44 = some (132, false) := by decide +kernel
theorem bn_9_44 : ma_lk ma_bt 9 44 = none := by decide +kernel
theorem c_9_45 : ma_lk ma_ct 9 45 = some (65, false) := by decide +kernel
theorem bn_9_45 : ma_lk ma_bt 9 45 = none := by decide +kernel
theorem c_9_48 : ma_lk ma_ct 9 48 = some (134, false) := by decide +kernel
theorem bn_9_48 : ma_lk ma_bt 9 48 = none := by decide +kernel
theorem c_9_49 : ma_lk ma_ct 9 49 = some (66, false) := by decide +kernel
theorem bn_9_49 : ma_lk ma_bt 9 49 = none := by decide +kernel
theorem c_9_52 : ma_lk ma_ct 9 52 = some (135, false) := by decide +kernel
theorem bn_9_52 : ma_lk ma_bt 9 52 = none := by decide +kernel
theorem c_9_53 : ma_lk ma_ct 9 53 = some (67, false) := by decide +kernel
theorem bn_9_53 : ma_lk ma_bt 9 53 = none := by decide +kernel
theorem c_9_56 : ma_lk ma_ct 9 56 = some (137, false) := by decide +kernel
theorem bn_9_56 : ma_lk ma_bt 9 56 = none := by decide +kernel
theorem c_9_57 : ma_lk ma_ct 9 57 = some (68, false) := by decide +kernel
theorem bn_9_57 : ma_lk ma_bt 9 57 = none := by decide +kernel
theorem c_9_60 : ma_lk ma_ct 9 60 = some (142, false) := by decide +kernel
theorem bn_9_60 : ma_lk ma_bt 9 60 = none := by decide +kernel
theorem c_9_61 : ma_lk ma_ct 9 61 = some (69, false) := by decide +kernel
theorem bn_9_61 : ma_lk ma_bt 9 61 = none := by decide +kernel
theorem c_9_64 : ma_lk ma_ct 9 64 = some (143, false) := by decide +kernel
theorem bn_9_64 : ma_lk ma_bt 9 64 = none := by decide +kernel
theorem c_9_65 : ma_lk ma_ct 9 65 = some (70, false) := by decide +kernel
theorem bn_9_65 : ma_lk ma_bt 9 65 = none := by decide +kernel
theorem c_9_68 : ma_lk ma_ct 9 68 = some (146, false) := by decide +kernel
theorem bn_9_68 : ma_lk ma_bt 9 68 = none := by decide +kernel
theorem c_9_69 : ma_lk ma_ct 9 69 = some (71, false) := by decide +kernel
theorem bn_9_69 : ma_lk ma_bt 9 69 = none := by decide +kernel
theorem c_9_72 : ma_lk ma_ct 9 72 = some (149, false) := by decide +kernel
theorem bn_9_72 : ma_lk ma_bt 9 72 = none := by decide +kernel
theorem c_9_73 : ma_lk ma_ct 9 73 = some (72, false) := by decide +kernel
theorem bn_9_73 : ma_lk ma_bt 9 73 = none := by decide +kernel
theorem c_9_77 : ma_lk ma_ct 9 77 = some (150, false) := by decide +kernel
theorem bn_9_77 : ma_lk ma_bt 9 77 = none := by decide +kernel
theorem c_9_78 : ma_lk ma_ct 9 78 = some (73, false) := by decide +kernel
theorem bn_9_78 : ma_lk ma_bt 9 78 = none := by decide +kernel
theorem c_9_81 : ma_lk ma_ct 9 81 = some (153, false) := by decide +kernel
theorem bn_9_81 : ma_lk ma_bt 9 81 = none := by decide +kernel
theorem c_9_82 : ma_lk ma_ct 9 82 = some (74, false) := by decide +kernel
theorem bn_9_82 : ma_lk ma_bt 9 82 = none := by decide +kernel
theorem c_9_85 : ma_lk ma_ct 9 85 = some (154, false) := by decide +kernel
theorem bn_9_85 : ma_lk ma_bt 9 85 = none := by decide +kernel
theorem c_9_86 : ma_lk ma_ct 9 86 = some (75, false) := by decide +kernel
theorem bn_9_86 : ma_lk ma_bt 9 86 = none := by decide +kernel
theorem c_9_89 : ma_lk ma_ct 9 89 = some (155, false) := by decide +kernel
theorem bn_9_89 : ma_lk ma_bt 9 89 = none := by decide +kernel
theorem c_9_90 : ma_lk ma_ct 9 90 = some (76, false) := by decide +kernel
theorem bn_9_90 : ma_lk ma_bt 9 90 = none := by decide +kernel
theorem c_9_94 : ma_lk ma_ct 9 94 = some (157, false) := by decide +kernel
theorem bn_9_94 : ma_lk ma_bt 9 94 = none := by decide +kernel
theorem c_9_95 : ma_lk ma_ct 9 95 = some (77, false) := by decide +kernel
theorem bn_9_95 : ma_lk ma_bt 9 95 = none := by decide +kernel
theorem c_9_99 : ma_lk ma_ct 9 99 = some (158, false) := by decide +kernel
theorem bn_9_99 : ma_lk ma_bt 9 99 = none := by decide +kernel
theorem c_9_100 : ma_lk ma_ct 9 100 = some (78, false) := by decide +kernel
theorem bn_9_100 : ma_lk ma_bt 9 100 = none := by decide +kernel
theorem c_9_103 : ma_lk ma_ct 9 103 = some (159, false) := by decide +kernel
theorem bn_9_103 : ma_lk ma_bt 9 103 = none := by decide +kernel
theorem c_9_104 : ma_lk ma_ct 9 104 = some (79, false) := by decide +kernel
theorem bn_9_104 : ma_lk ma_bt 9 104 = none := by decide +kernel
theorem c_9_107 : ma_lk ma_ct 9 107 = some (161, false) := by decide +kernel
theorem bn_9_107 : ma_lk ma_bt 9 107 = none := by decide +kernel
theorem c_9_108 : ma_lk ma_ct 9 108 = some (80, false) := by decide +kernel
theorem bn_9_108 : ma_lk ma_bt 9 108 = none := by decide +kernel
theorem c_9_111 : ma_lk ma_ct 9 111 = some (162, false) := by decide +kernel
theorem bn_9_111 : ma_lk ma_bt 9 111 = none := by decide +kernel
theorem c_9_112 : ma_lk ma_ct 9 112 = some (81, false) := by decide +kernel
theorem bn_9_112 : ma_lk ma_bt 9 112 = none := by decide +kernel
theorem c_9_115 : ma_lk ma_ct 9 115 = some (163, false) := by decide +kernel
theorem bn_9_115 : ma_lk ma_bt 9 115 = none := by decide +kernel
theorem c_9_116 : ma_lk ma_ct 9 116 = some (82, false) := by decide +kernel
theorem bn_9_116 : ma_lk ma_bt 9 116 = none := by decide +kernel
theorem c_9_119 : ma_lk ma_ct 9 119 = some (172, false) := by decide +kernel
theorem bn_9_119 : ma_lk ma_bt 9 119 = none := by decide +kernel
theorem c_9_120 : ma_lk ma_ct 9 120 = some (83, false) := by decide +kernel
theorem bn_9_120 : ma_lk ma_bt 9 120 = none := by decide +kernel
theorem c_9_123 : ma_lk ma_ct 9 123 = some (173, false) := by decide +kernel
theorem bn_9_123 : ma_lk ma_bt 9 123 = none := by decide +kernel
theorem c_9_124 : ma_lk ma_ct 9 124 = some (84, false) := by decide +kernel
theorem bn_9_124 : ma_lk ma_bt 9 124 = none := by decide +kernel
theorem c_9_127 : ma_lk ma_ct 9 127 = some (174, false) := by decide +kernel
theorem bn_9_127 : ma_lk ma_bt 9 127 = none := by decide +kernel
theorem c_9_128 : ma_lk ma_ct 9 128 = some (85, false) := by decide +kernel
theorem bn_9_128 : ma_lk ma_bt 9 128 = none := by decide +kernel
theorem c_9_131 : ma_lk ma_ct 9 131 = some (175, false) := by decide +kernel
theorem bn_9_131 : ma_lk ma_bt 9 131 = none := by decide +kernel
theorem c_9_132 : ma_lk ma_ct 9 132 = some (86, false) := by decide +kernel
theorem bn_9_132 : ma_lk ma_bt 9 132 = none := by decide +kernel
theorem c_9_135 : ma_lk ma_ct 9 135 = some (176, false) := by decide +kernel
theorem bn_9_135 : ma_lk ma_bt 9 135 = none := by decide +kernel
theorem c_9_136 : ma_lk ma_ct 9 136 = some (87, false) := by decide +kernel
theorem bn_9_136 : ma_lk ma_bt 9 136 = none := by decide +kernel
theorem c_9_139 : ma_lk ma_ct 9 139 = some (177, false) := by decide +kernel
theorem bn_9_139 : ma_lk ma_bt 9 139 = none := by decide +kernel
theorem k_7_106 : ma_lk ma_kt 7 106 = some (-999999) := by decide +kernel
theorem k_7_170 : ma_lk ma_kt 7 170 = some (nI 999999) := by decide +kernel
theorem k_7_192 : ma_lk ma_kt 7 192 = some (nI 1048576) := by decide +kernel
theorem k_8_133 : ma_lk ma_kt 8 133 = some (-999999) := by decide +kernel
theorem k_8_158 : ma_lk ma_kt 8 158 = some (nI 999999) := by decide +kernel
theorem kn_3_46 : ma_lk ma_kt 3 46 = none := by decide +kernel
theorem s_3_46 : ma_lk ma_st 3 46 = some 0 := by decide +kernel
theorem kn_3_48 : ma_lk ma_kt 3 48 = none := by decide +kernel
theorem s_3_48 : ma_lk ma_st 3 48 = some 1 := by decide +kernel
theorem kn_3_50 : ma_lk ma_kt 3 50 = none := by decide +kernel
theorem s_3_50 : ma_lk ma_st 3 50 = some 2 := by decide +kernel
theorem kn_3_62 : ma_lk ma_kt 3 62 = none := by decide +kernel
theorem s_3_62 : ma_lk ma_st 3 62 = some 3 := by decide +kernel
theorem kn_3_81 : ma_lk ma_kt 3 81 = none := by decide +kernel
theorem s_3_81 : ma_lk ma_st 3 81 = some 4 := by decide +kernel
theorem kn_3_87 : ma_lk ma_kt 3 87 = none := by decide +kernel
theorem s_3_87 : ma_lk ma_st 3 87 = some 5 := by decide +kernel
theorem kn_3_93 : ma_lk ma_kt 3 93 = none := by decide +kernel
theorem s_3_93 : ma_lk ma_st 3 93 = some 6 := by decide +kernel
theorem kn_8_81 : ma_lk ma_kt 8 81 = none := by decide +kernel
theorem s_8_81 : ma_lk ma_st 8 81 = some 4 := by decide +kernel
theorem kn_8_87 : ma_lk ma_kt 8 87 = none := by decide +kernel
theorem s_8_87 : ma_lk ma_st 8 87 = some 5 := by decide +kernel
theorem kn_8_99 : ma_lk ma_kt 8 99 = none := by decide +kernel
theorem s_8_99 : ma_lk ma_st 8 99 = some 0 := by decide +kernel
theorem kn_8_108 : ma_lk ma_kt 8 108 = none := by decide +kernel
theorem s_8_108 : ma_lk ma_st 8 108 = some 1 := by decide +kernel
theorem kn_8_113 : ma_lk ma_kt 8 113 = none := by decide +kernel
theorem s_8_113 : ma_lk ma_st 8 113 = some 2 := by decide +kernel
theorem l_7_208 : ma_lk ma_lt 7 208 = some (-9223372036854775808) := by decide +kernel
theorem l_7_216 : ma_lk ma_lt 7 216 = some (21) := by decide +kernel
theorem l_8_193 : ma_lk ma_lt 8 193 = some (-9223372036854775808) := by decide +kernel
theorem l_8_195 : ma_lk ma_lt 8 195 = some (21) := by decide +kernel

/-! The equations of the instructions. -/
theorem e102_0 : decode (ma_cd 102) 0 = .ok (.iload_n 0, 1) := (congrArg (fun b => decode b 0) cd_102).trans dX8_in_0
theorem e102_1 : decode (ma_cd 102) 1 = .ok (.iload_n 1, 1) := (congrArg (fun b => decode b 1) cd_102).trans dX8_in_1
theorem e102_2 : decode (ma_cd 102) 2 = .ok (.if_icmp .lt 12, 3) := (congrArg (fun b => decode b 2) cd_102).trans dX8_in_2
theorem e102_5 : decode (ma_cd 102) 5 = .ok (.iload_n 0, 1) := (congrArg (fun b => decode b 5) cd_102).trans dX8_in_5
theorem e102_6 : decode (ma_cd 102) 6 = .ok (.iload_n 2, 1) := (congrArg (fun b => decode b 6) cd_102).trans dX8_in_6
theorem e102_7 : decode (ma_cd 102) 7 = .ok (.if_icmp .gt 7, 3) := (congrArg (fun b => decode b 7) cd_102).trans dX8_in_7
theorem e102_10 : decode (ma_cd 102) 10 = .ok (.iconst 1, 1) := (congrArg (fun b => decode b 10) cd_102).trans dX8_in_10
theorem e102_11 : decode (ma_cd 102) 11 = .ok (.goto 4, 3) := (congrArg (fun b => decode b 11) cd_102).trans dX8_in_11
theorem e102_14 : decode (ma_cd 102) 14 = .ok (.iconst 0, 1) := (congrArg (fun b => decode b 14) cd_102).trans dX8_in_14
theorem e102_15 : decode (ma_cd 102) 15 = .ok (.ireturn, 1) := (congrArg (fun b => decode b 15) cd_102).trans dX8_in_15
theorem S102 {ro : ma_RO} {d : Nat} : (∀ (v1 : Option Value) (v2 : Option Value) (x1 : Int32) (st : List Value) (σ : ma_H), ma_rn ro d 102 (0, [some (.int x1), v1, v2], st, SH, σ) = ma_rn ro d 102 (1, [some (.int x1), v1, v2], .int x1 :: st, SH, σ)) ∧
  (∀ (v0 : Option Value) (v2 : Option Value) (x1 : Int32) (st : List Value) (σ : ma_H), ma_rn ro d 102 (1, [v0, some (.int x1), v2], st, SH, σ) = ma_rn ro d 102 (2, [v0, some (.int x1), v2], .int x1 :: st, SH, σ)) ∧
  (∀ (v0 : Option Value) (v1 : Option Value) (v2 : Option Value) (x1 : Int32) (x2 : Int32) (st : List Value) (σ : ma_H), ma_rn ro d 102 (2, [v0, v1, v2], .int x1 :: .int x2 :: st, SH, σ) = if x2 < x1 then ma_rn ro d 102 (14, [v0, v1, v2], st, SH, σ) else ma_rn ro d 102 (5, [v0, v1, v2], st, SH, σ)) ∧
  (∀ (v1 : Option Value) (v2 : Option Value) (x1 : Int32) (st : List Value) (σ : ma_H), ma_rn ro d 102 (5, [some (.int x1), v1, v2], st, SH, σ) = ma_rn ro d 102 (6, [some (.int x1), v1, v2], .int x1 :: st, SH, σ)) ∧
  (∀ (v0 : Option Value) (v1 : Option Value) (x1 : Int32) (st : List Value) (σ : ma_H), ma_rn ro d 102 (6, [v0, v1, some (.int x1)], st, SH, σ) = ma_rn ro d 102 (7, [v0, v1, some (.int x1)], .int x1 :: st, SH, σ)) ∧
  (∀ (v0 : Option Value) (v1 : Option Value) (v2 : Option Value) (x1 : Int32) (x2 : Int32) (st : List Value) (σ : ma_H), ma_rn ro d 102 (7, [v0, v1, v2], .int x1 :: .int x2 :: st, SH, σ) = if x1 < x2 then ma_rn ro d 102 (14, [v0, v1, v2], st, SH, σ) else ma_rn ro d 102 (10, [v0, v1, v2], st, SH, σ)) ∧
  (∀ (v0 : Option Value) (v1 : Option Value) (v2 : Option Value) (st : List Value) (σ : ma_H), ma_rn ro d 102 (10, [v0, v1, v2], st, SH, σ) = ma_rn ro d 102 (11, [v0, v1, v2], .int (nI 1) :: st, SH, σ)) ∧
  (∀ (v0 : Option Value) (v1 : Option Value) (v2 : Option Value) (st : List Value) (σ : ma_H), ma_rn ro d 102 (11, [v0, v1, v2], st, SH, σ) = ma_rn ro d 102 (15, [v0, v1, v2], st, SH, σ)) ∧
  (∀ (v0 : Option Value) (v1 : Option Value) (v2 : Option Value) (st : List Value) (σ : ma_H), ma_rn ro d 102 (14, [v0, v1, v2], st, SH, σ) = ma_rn ro d 102 (15, [v0, v1, v2], .int (nI 0) :: st, SH, σ)) ∧
  (∀ (v0 : Option Value) (v1 : Option Value) (v2 : Option Value) (x1 : Int32) (σ : ma_H) (hx : ma_fitI .boolean x1 = true), ma_rn ro d 102 (15, [v0, v1, v2], [.int x1], SH, σ) = some (some (.int x1), SH, σ)) := ⟨fun v1 v2 x1 st σ => q_go e102_0 rfl rfl,
  fun v0 v2 x1 st σ => q_go e102_1 rfl rfl,
  fun v0 v1 v2 x1 x2 st σ => (q_cmp e102_2 rfl).trans q_lt,
  fun v1 v2 x1 st σ => q_go e102_5 rfl rfl,
  fun v0 v1 x1 st σ => q_go e102_6 rfl rfl,
  fun v0 v1 v2 x1 x2 st σ => (q_cmp e102_7 rfl).trans q_gt,
  fun v0 v1 v2 st σ => q_iconst e102_10 (by decide),
  fun v0 v1 v2 st σ => q_goto e102_11 rfl,
  fun v0 v1 v2 st σ => q_iconst e102_14 (by decide),
  fun v0 v1 v2 x1 σ hx => q_zret e102_15 r_102 hx⟩
theorem E102 {ro : ma_RO} {d : Nat} (x1 : Int32) (x2 : Int32) (x3 : Int32) (sh : List ma_Sh) (σ : ma_H) : ma_ev ro d 102 [.int x1, .int x2, .int x3] sh σ = ma_rn ro d 102 (0, [some (.int x1), some (.int x2), some (.int x3)], [], sh, σ) := q_ent x_102 rfl
theorem e103_0 : decode (ma_cd 103) 0 = .ok (.iload_n 1, 1) := (congrArg (fun b => decode b 0) cd_103).trans dX8_isDeed_0
theorem e103_1 : decode (ma_cd 103) 1 = .ok (.iconst 0, 1) := (congrArg (fun b => decode b 1) cd_103).trans dX8_isDeed_1
theorem e103_2 : decode (ma_cd 103) 2 = .ok (.aload_n 0, 1) := (congrArg (fun b => decode b 2) cd_103).trans dX8_isDeed_2
theorem e103_3 : decode (ma_cd 103) 3 = .ok (.getfield 9, 3) := (congrArg (fun b => decode b 3) cd_103).trans dX8_isDeed_3
theorem e103_6 : decode (ma_cd 103) 6 = .ok (.bipush 33, 2) := (congrArg (fun b => decode b 6) cd_103).trans dX8_isDeed_6
theorem e103_8 : decode (ma_cd 103) 8 = .ok (.iaload, 1) := (congrArg (fun b => decode b 8) cd_103).trans dX8_isDeed_8
theorem e103_9 : decode (ma_cd 103) 9 = .ok (.iconst 1, 1) := (congrArg (fun b => decode b 9) cd_103).trans dX8_isDeed_9
theorem e103_10 : decode (ma_cd 103) 10 = .ok (.isub, 1) := (congrArg (fun b => decode b 10) cd_103).trans dX8_isDeed_10
theorem e103_11 : decode (ma_cd 103) 11 = .ok (.invokestatic 35, 3) := (congrArg (fun b => decode b 11) cd_103).trans dX8_isDeed_11
theorem e103_14 : decode (ma_cd 103) 14 = .ok (.ireturn, 1) := (congrArg (fun b => decode b 14) cd_103).trans dX8_isDeed_14
theorem S103 {ro : ma_RO} {d : Nat} : (∀ (v0 : Option Value) (x1 : Int32) (st : List Value) (σ : ma_H), ma_rn ro d 103 (0, [v0, some (.int x1)], st, SH, σ) = ma_rn ro d 103 (1, [v0, some (.int x1)], .int x1 :: st, SH, σ)) ∧
  (∀ (v0 : Option Value) (v1 : Option Value) (st : List Value) (σ : ma_H), ma_rn ro d 103 (1, [v0, v1], st, SH, σ) = ma_rn ro d 103 (2, [v0, v1], .int (nI 0) :: st, SH, σ)) ∧
  (∀ (v1 : Option Value) (a1 : Nat) (st : List Value) (σ : ma_H), ma_rn ro d 103 (2, [some (.ref a1), v1], st, SH, σ) = ma_rn ro d 103 (3, [some (.ref a1), v1], .ref a1 :: st, SH, σ)) ∧
  (∀ (v0 : Option Value) (v1 : Option Value) (a1 : Nat) (st : List Value) (σ : ma_H) (hc : hk_cls a1 = 8), ma_rn ro d 103 (3, [v0, v1], .ref a1 :: st, SH, σ) = ma_rn ro d 103 (6, [v0, v1], .ref (91) :: st, SH, σ)) ∧
  (∀ (v0 : Option Value) (v1 : Option Value) (st : List Value) (σ : ma_H), ma_rn ro d 103 (6, [v0, v1], st, SH, σ) = ma_rn ro d 103 (8, [v0, v1], .int (nI 33) :: st, SH, σ)) ∧
  (∀ (v0 : Option Value) (v1 : Option Value) (k : Nat) (a2 : Nat) (st : List Value) (σ : ma_H) (hk : k < hk_len a2), ma_rn ro d 103 (8, [v0, v1], .int (nI k) :: .ref a2 :: st, SH, σ) = ma_rn ro d 103 (9, [v0, v1], .int (σ a2 k) :: st, SH, σ)) ∧
  (∀ (v0 : Option Value) (v1 : Option Value) (st : List Value) (σ : ma_H), ma_rn ro d 103 (9, [v0, v1], st, SH, σ) = ma_rn ro d 103 (10, [v0, v1], .int (nI 1) :: st, SH, σ)) ∧
  (∀ (v0 : Option Value) (v1 : Option Value) (x1 : Int32) (x2 : Int32) (st : List Value) (σ : ma_H), ma_rn ro d 103 (10, [v0, v1], .int x1 :: .int x2 :: st, SH, σ) = ma_rn ro d 103 (11, [v0, v1], .int (x2 - x1) :: st, SH, σ)) ∧
  (∀ (v0 : Option Value) (v1 : Option Value) (x1 : Int32) (x2 : Int32) (x3 : Int32) (σ : ma_H), ma_rn ro (d + 1) 103 (11, [v0, v1], .int x3 :: .int x2 :: .int x1 :: [], SH, σ) = (ma_ev ro d 102 [.int x1, .int x2, .int x3] SH σ).bind (fun q => ma_rn ro (d + 1) 103 (14, [v0, v1], (q.1.toList ++ []), q.2.1, q.2.2))) ∧
  (∀ (v0 : Option Value) (v1 : Option Value) (x1 : Int32) (σ : ma_H) (hx : ma_fitI .boolean x1 = true), ma_rn ro d 103 (14, [v0, v1], [.int x1], SH, σ) = some (some (.int x1), SH, σ)) := ⟨fun v0 x1 st σ => q_go e103_0 rfl rfl,
  fun v0 v1 st σ => q_iconst e103_1 (by decide),
  fun v1 a1 st σ => q_go e103_2 rfl rfl,
  fun v0 v1 a1 st σ hc => q_getA e103_3 o_103 f_8_9 (by decide) hc,
  fun v0 v1 st σ => q_bipush e103_6 (by decide),
  fun v0 v1 k a2 st σ hk => q_iald e103_8 hk,
  fun v0 v1 st σ => q_iconst e103_9 (by decide),
  fun v0 v1 x1 x2 st σ => q_go e103_10 rfl rfl,
  fun v0 v1 x1 x2 x3 σ => q_invS (as := [.int x1, .int x2, .int x3]) (rest := []) e103_11 o_103 bn_8_35 c_8_35 ⟨m_102.1, m_102.2.1, m_102.2.2.1⟩ rfl rfl (Nat.le_of_ble_eq_true rfl) (Nat.le_of_ble_eq_true rfl),
  fun v0 v1 x1 σ hx => q_zret e103_14 r_103 hx⟩
theorem E103 {ro : ma_RO} {d : Nat} (a0 : Nat) (x1 : Int32) (sh : List ma_Sh) (σ : ma_H) : ma_ev ro d 103 [.ref a0, .int x1] sh σ = ma_rn ro d 103 (0, [some (.ref a0), some (.int x1)], [], sh, σ) := q_ent x_103 rfl
theorem e104_0 : decode (ma_cd 104) 0 = .ok (.iload_n 0, 1) := (congrArg (fun b => decode b 0) cd_104).trans dX8_held_0
theorem e104_1 : decode (ma_cd 104) 1 = .ok (.ifCond .ge 7, 3) := (congrArg (fun b => decode b 1) cd_104).trans dX8_held_1
theorem e104_4 : decode (ma_cd 104) 4 = .ok (.iconst 0, 1) := (congrArg (fun b => decode b 4) cd_104).trans dX8_held_4
theorem e104_5 : decode (ma_cd 104) 5 = .ok (.goto 13, 3) := (congrArg (fun b => decode b 5) cd_104).trans dX8_held_5
theorem e104_8 : decode (ma_cd 104) 8 = .ok (.iload_n 0, 1) := (congrArg (fun b => decode b 8) cd_104).trans dX8_held_8
theorem e104_9 : decode (ma_cd 104) 9 = .ok (.iload_n 1, 1) := (congrArg (fun b => decode b 9) cd_104).trans dX8_held_9
theorem e104_10 : decode (ma_cd 104) 10 = .ok (.if_icmp .le 7, 3) := (congrArg (fun b => decode b 10) cd_104).trans dX8_held_10
theorem e104_13 : decode (ma_cd 104) 13 = .ok (.iload_n 1, 1) := (congrArg (fun b => decode b 13) cd_104).trans dX8_held_13
theorem e104_14 : decode (ma_cd 104) 14 = .ok (.goto 4, 3) := (congrArg (fun b => decode b 14) cd_104).trans dX8_held_14
theorem e104_17 : decode (ma_cd 104) 17 = .ok (.iload_n 0, 1) := (congrArg (fun b => decode b 17) cd_104).trans dX8_held_17
theorem e104_18 : decode (ma_cd 104) 18 = .ok (.ireturn, 1) := (congrArg (fun b => decode b 18) cd_104).trans dX8_held_18
theorem S104 {ro : ma_RO} {d : Nat} : (∀ (v1 : Option Value) (x1 : Int32) (st : List Value) (σ : ma_H), ma_rn ro d 104 (0, [some (.int x1), v1], st, SH, σ) = ma_rn ro d 104 (1, [some (.int x1), v1], .int x1 :: st, SH, σ)) ∧
  (∀ (v0 : Option Value) (v1 : Option Value) (x1 : Int32) (st : List Value) (σ : ma_H), ma_rn ro d 104 (1, [v0, v1], .int x1 :: st, SH, σ) = if x1 < nI 0 then ma_rn ro d 104 (4, [v0, v1], st, SH, σ) else ma_rn ro d 104 (8, [v0, v1], st, SH, σ)) ∧
  (∀ (v0 : Option Value) (v1 : Option Value) (st : List Value) (σ : ma_H), ma_rn ro d 104 (4, [v0, v1], st, SH, σ) = ma_rn ro d 104 (5, [v0, v1], .int (nI 0) :: st, SH, σ)) ∧
  (∀ (v0 : Option Value) (v1 : Option Value) (st : List Value) (σ : ma_H), ma_rn ro d 104 (5, [v0, v1], st, SH, σ) = ma_rn ro d 104 (18, [v0, v1], st, SH, σ)) ∧
  (∀ (v1 : Option Value) (x1 : Int32) (st : List Value) (σ : ma_H), ma_rn ro d 104 (8, [some (.int x1), v1], st, SH, σ) = ma_rn ro d 104 (9, [some (.int x1), v1], .int x1 :: st, SH, σ)) ∧
  (∀ (v0 : Option Value) (x1 : Int32) (st : List Value) (σ : ma_H), ma_rn ro d 104 (9, [v0, some (.int x1)], st, SH, σ) = ma_rn ro d 104 (10, [v0, some (.int x1)], .int x1 :: st, SH, σ)) ∧
  (∀ (v0 : Option Value) (v1 : Option Value) (x1 : Int32) (x2 : Int32) (st : List Value) (σ : ma_H), ma_rn ro d 104 (10, [v0, v1], .int x1 :: .int x2 :: st, SH, σ) = if x1 < x2 then ma_rn ro d 104 (13, [v0, v1], st, SH, σ) else ma_rn ro d 104 (17, [v0, v1], st, SH, σ)) ∧
  (∀ (v0 : Option Value) (x1 : Int32) (st : List Value) (σ : ma_H), ma_rn ro d 104 (13, [v0, some (.int x1)], st, SH, σ) = ma_rn ro d 104 (14, [v0, some (.int x1)], .int x1 :: st, SH, σ)) ∧
  (∀ (v0 : Option Value) (v1 : Option Value) (st : List Value) (σ : ma_H), ma_rn ro d 104 (14, [v0, v1], st, SH, σ) = ma_rn ro d 104 (18, [v0, v1], st, SH, σ)) ∧
  (∀ (v1 : Option Value) (x1 : Int32) (st : List Value) (σ : ma_H), ma_rn ro d 104 (17, [some (.int x1), v1], st, SH, σ) = ma_rn ro d 104 (18, [some (.int x1), v1], .int x1 :: st, SH, σ)) ∧
  (∀ (v0 : Option Value) (v1 : Option Value) (x1 : Int32) (σ : ma_H), ma_rn ro d 104 (18, [v0, v1], [.int x1], SH, σ) = some (some (.int x1), SH, σ)) := ⟨fun v1 x1 st σ => q_go e104_0 rfl rfl,
  fun v0 v1 x1 st σ => (q_if e104_1 rfl).trans q_nlt,
  fun v0 v1 st σ => q_iconst e104_4 (by decide),
  fun v0 v1 st σ => q_goto e104_5 rfl,
  fun v1 x1 st σ => q_go e104_8 rfl rfl,
  fun v0 x1 st σ => q_go e104_9 rfl rfl,
  fun v0 v1 x1 x2 st σ => (q_cmp e104_10 rfl).trans q_ngt,
  fun v0 x1 st σ => q_go e104_13 rfl rfl,
  fun v0 v1 st σ => q_goto e104_14 rfl,
  fun v1 x1 st σ => q_go e104_17 rfl rfl,
  fun v0 v1 x1 σ => q_iret e104_18 r_104⟩
theorem E104 {ro : ma_RO} {d : Nat} (x1 : Int32) (x2 : Int32) (sh : List ma_Sh) (σ : ma_H) : ma_ev ro d 104 [.int x1, .int x2] sh σ = ma_rn ro d 104 (0, [some (.int x1), some (.int x2)], [], sh, σ) := q_ent x_104 rfl
theorem e105_0 : decode (ma_cd 105) 0 = .ok (.iconst 0, 1) := (congrArg (fun b => decode b 0) cd_105).trans dX8_keeps_0
theorem e105_1 : decode (ma_cd 105) 1 = .ok (.istore_n 1, 1) := (congrArg (fun b => decode b 1) cd_105).trans dX8_keeps_1
theorem e105_2 : decode (ma_cd 105) 2 = .ok (.iload_n 1, 1) := (congrArg (fun b => decode b 2) cd_105).trans dX8_keeps_2
theorem e105_3 : decode (ma_cd 105) 3 = .ok (.bipush 33, 2) := (congrArg (fun b => decode b 3) cd_105).trans dX8_keeps_3
theorem e105_5 : decode (ma_cd 105) 5 = .ok (.if_icmp .ge 21, 3) := (congrArg (fun b => decode b 5) cd_105).trans dX8_keeps_5
theorem e105_8 : decode (ma_cd 105) 8 = .ok (.aload_n 0, 1) := (congrArg (fun b => decode b 8) cd_105).trans dX8_keeps_8
theorem e105_9 : decode (ma_cd 105) 9 = .ok (.getfield 18, 3) := (congrArg (fun b => decode b 9) cd_105).trans dX8_keeps_9
theorem e105_12 : decode (ma_cd 105) 12 = .ok (.iload_n 1, 1) := (congrArg (fun b => decode b 12) cd_105).trans dX8_keeps_12
theorem e105_13 : decode (ma_cd 105) 13 = .ok (.aload_n 0, 1) := (congrArg (fun b => decode b 13) cd_105).trans dX8_keeps_13
theorem e105_14 : decode (ma_cd 105) 14 = .ok (.getfield 9, 3) := (congrArg (fun b => decode b 14) cd_105).trans dX8_keeps_14
theorem e105_17 : decode (ma_cd 105) 17 = .ok (.iload_n 1, 1) := (congrArg (fun b => decode b 17) cd_105).trans dX8_keeps_17
theorem e105_18 : decode (ma_cd 105) 18 = .ok (.iaload, 1) := (congrArg (fun b => decode b 18) cd_105).trans dX8_keeps_18
theorem e105_19 : decode (ma_cd 105) 19 = .ok (.iastore, 1) := (congrArg (fun b => decode b 19) cd_105).trans dX8_keeps_19
theorem e105_20 : decode (ma_cd 105) 20 = .ok (.iinc 1 1, 3) := (congrArg (fun b => decode b 20) cd_105).trans dX8_keeps_20
theorem e105_23 : decode (ma_cd 105) 23 = .ok (.goto (-21), 3) := (congrArg (fun b => decode b 23) cd_105).trans dX8_keeps_23
theorem e105_26 : decode (ma_cd 105) 26 = .ok (.return_, 1) := (congrArg (fun b => decode b 26) cd_105).trans dX8_keeps_26
theorem Sh105_2 {ro : ma_RO} {d : Nat} : (∀ (v0 : Option Value) (x1 : Int32) (st : List Value) (σ : ma_H), ma_rn ro d 105 (2, [v0, some (.int x1)], st, SH, σ) = ma_rn ro d 105 (3, [v0, some (.int x1)], .int x1 :: st, SH, σ)) := fun v0 x1 st σ => q_go e105_2 rfl rfl
theorem S105 {ro : ma_RO} {d : Nat} : (∀ (v0 : Option Value) (v1 : Option Value) (st : List Value) (σ : ma_H), ma_rn ro d 105 (0, [v0, v1], st, SH, σ) = ma_rn ro d 105 (1, [v0, v1], .int (nI 0) :: st, SH, σ)) ∧
  (∀ (v1 : Option Value) (a9 : Nat) (x1 : Int32) (st : List Value) (σ : ma_H), ma_rn ro d 105 (1, [some (.ref a9), v1], .int x1 :: st, SH, σ) = ma_rn ro d 105 (2, [some (.ref a9), some (.int x1)], st, SH, σ)) ∧
  (∀ (v0 : Option Value) (v1 : Option Value) (st : List Value) (σ : ma_H), ma_rn ro d 105 (3, [v0, v1], st, SH, σ) = ma_rn ro d 105 (5, [v0, v1], .int (nI 33) :: st, SH, σ)) ∧
  (∀ (v0 : Option Value) (v1 : Option Value) (x1 : Int32) (x2 : Int32) (st : List Value) (σ : ma_H), ma_rn ro d 105 (5, [v0, v1], .int x1 :: .int x2 :: st, SH, σ) = if x2 < x1 then ma_rn ro d 105 (8, [v0, v1], st, SH, σ) else ma_rn ro d 105 (26, [v0, v1], st, SH, σ)) ∧
  (∀ (v1 : Option Value) (a1 : Nat) (st : List Value) (σ : ma_H), ma_rn ro d 105 (8, [some (.ref a1), v1], st, SH, σ) = ma_rn ro d 105 (9, [some (.ref a1), v1], .ref a1 :: st, SH, σ)) ∧
  (∀ (v0 : Option Value) (v1 : Option Value) (a1 : Nat) (st : List Value) (σ : ma_H) (hc : hk_cls a1 = 8), ma_rn ro d 105 (9, [v0, v1], .ref a1 :: st, SH, σ) = ma_rn ro d 105 (12, [v0, v1], .ref (93) :: st, SH, σ)) ∧
  (∀ (v0 : Option Value) (x1 : Int32) (st : List Value) (σ : ma_H), ma_rn ro d 105 (12, [v0, some (.int x1)], st, SH, σ) = ma_rn ro d 105 (13, [v0, some (.int x1)], .int x1 :: st, SH, σ)) ∧
  (∀ (v1 : Option Value) (a1 : Nat) (st : List Value) (σ : ma_H), ma_rn ro d 105 (13, [some (.ref a1), v1], st, SH, σ) = ma_rn ro d 105 (14, [some (.ref a1), v1], .ref a1 :: st, SH, σ)) ∧
  (∀ (v0 : Option Value) (v1 : Option Value) (a1 : Nat) (st : List Value) (σ : ma_H) (hc : hk_cls a1 = 8), ma_rn ro d 105 (14, [v0, v1], .ref a1 :: st, SH, σ) = ma_rn ro d 105 (17, [v0, v1], .ref (91) :: st, SH, σ)) ∧
  (∀ (v0 : Option Value) (x1 : Int32) (st : List Value) (σ : ma_H), ma_rn ro d 105 (17, [v0, some (.int x1)], st, SH, σ) = ma_rn ro d 105 (18, [v0, some (.int x1)], .int x1 :: st, SH, σ)) ∧
  (∀ (v0 : Option Value) (v1 : Option Value) (k : Nat) (a2 : Nat) (st : List Value) (σ : ma_H) (hk : k < hk_len a2), ma_rn ro d 105 (18, [v0, v1], .int (nI k) :: .ref a2 :: st, SH, σ) = ma_rn ro d 105 (19, [v0, v1], .int (σ a2 k) :: st, SH, σ)) ∧
  (∀ (v0 : Option Value) (v1 : Option Value) (x1 : Int32) (k : Nat) (a3 : Nat) (st : List Value) (σ : ma_H) (hk : k < hk_len a3), ma_rn ro d 105 (19, [v0, v1], .int x1 :: .int (nI k) :: .ref a3 :: st, SH, σ) = ma_rn ro d 105 (20, [v0, v1], st, SH, (ma_up σ a3 k x1))) ∧
  (∀ (x1 : Int32) (a9 : Nat) (st : List Value) (σ : ma_H), ma_rn ro d 105 (20, [some (.ref a9), some (.int x1)], st, SH, σ) = ma_rn ro d 105 (23, [some (.ref a9), some (.int (x1 + nI 1))], st, SH, σ)) ∧
  (∀ (v0 : Option Value) (v1 : Option Value) (st : List Value) (σ : ma_H), ma_rn ro d 105 (23, [v0, v1], st, SH, σ) = ma_rn ro d 105 (2, [v0, v1], st, SH, σ)) ∧
  (∀ (v0 : Option Value) (v1 : Option Value) (σ : ma_H), ma_rn ro d 105 (26, [v0, v1], [], SH, σ) = some (none, SH, σ)) := ⟨fun v0 v1 st σ => q_iconst e105_0 (by decide),
  fun v1 a9 x1 st σ => q_go e105_1 rfl rfl,
  fun v0 v1 st σ => q_bipush e105_3 (by decide),
  fun v0 v1 x1 x2 st σ => (q_cmp e105_5 rfl).trans q_nlt,
  fun v1 a1 st σ => q_go e105_8 rfl rfl,
  fun v0 v1 a1 st σ hc => q_getA e105_9 o_105 f_8_18 (by decide) hc,
  fun v0 x1 st σ => q_go e105_12 rfl rfl,
  fun v1 a1 st σ => q_go e105_13 rfl rfl,
  fun v0 v1 a1 st σ hc => q_getA e105_14 o_105 f_8_9 (by decide) hc,
  fun v0 x1 st σ => q_go e105_17 rfl rfl,
  fun v0 v1 k a2 st σ hk => q_iald e105_18 hk,
  fun v0 v1 x1 k a3 st σ hk => q_iast e105_19 hk,
  fun x1 a9 st σ => q_iinc e105_20 rfl rfl (by decide),
  fun v0 v1 st σ => q_goto e105_23 rfl,
  fun v0 v1 σ => q_vret e105_26 r_105⟩
theorem E105 {ro : ma_RO} {d : Nat} (a0 : Nat) (sh : List ma_Sh) (σ : ma_H) : ma_ev ro d 105 [.ref a0] sh σ = ma_rn ro d 105 (0, [some (.ref a0), none], [], sh, σ) := q_ent x_105 rfl
theorem e106_0 : decode (ma_cd 106) 0 = .ok (.iconst 0, 1) := (congrArg (fun b => decode b 0) cd_106).trans dX8_goesBack_0
theorem e106_1 : decode (ma_cd 106) 1 = .ok (.istore_n 1, 1) := (congrArg (fun b => decode b 1) cd_106).trans dX8_goesBack_1
theorem e106_2 : decode (ma_cd 106) 2 = .ok (.iload_n 1, 1) := (congrArg (fun b => decode b 2) cd_106).trans dX8_goesBack_2
theorem e106_3 : decode (ma_cd 106) 3 = .ok (.bipush 33, 2) := (congrArg (fun b => decode b 3) cd_106).trans dX8_goesBack_3
theorem e106_5 : decode (ma_cd 106) 5 = .ok (.if_icmp .ge 21, 3) := (congrArg (fun b => decode b 5) cd_106).trans dX8_goesBack_5
theorem e106_8 : decode (ma_cd 106) 8 = .ok (.aload_n 0, 1) := (congrArg (fun b => decode b 8) cd_106).trans dX8_goesBack_8
theorem e106_9 : decode (ma_cd 106) 9 = .ok (.getfield 9, 3) := (congrArg (fun b => decode b 9) cd_106).trans dX8_goesBack_9
theorem e106_12 : decode (ma_cd 106) 12 = .ok (.iload_n 1, 1) := (congrArg (fun b => decode b 12) cd_106).trans dX8_goesBack_12
theorem e106_13 : decode (ma_cd 106) 13 = .ok (.aload_n 0, 1) := (congrArg (fun b => decode b 13) cd_106).trans dX8_goesBack_13
theorem e106_14 : decode (ma_cd 106) 14 = .ok (.getfield 18, 3) := (congrArg (fun b => decode b 14) cd_106).trans dX8_goesBack_14
theorem e106_17 : decode (ma_cd 106) 17 = .ok (.iload_n 1, 1) := (congrArg (fun b => decode b 17) cd_106).trans dX8_goesBack_17
theorem e106_18 : decode (ma_cd 106) 18 = .ok (.iaload, 1) := (congrArg (fun b => decode b 18) cd_106).trans dX8_goesBack_18
theorem e106_19 : decode (ma_cd 106) 19 = .ok (.iastore, 1) := (congrArg (fun b => decode b 19) cd_106).trans dX8_goesBack_19
theorem e106_20 : decode (ma_cd 106) 20 = .ok (.iinc 1 1, 3) := (congrArg (fun b => decode b 20) cd_106).trans dX8_goesBack_20
theorem e106_23 : decode (ma_cd 106) 23 = .ok (.goto (-21), 3) := (congrArg (fun b => decode b 23) cd_106).trans dX8_goesBack_23
theorem e106_26 : decode (ma_cd 106) 26 = .ok (.return_, 1) := (congrArg (fun b => decode b 26) cd_106).trans dX8_goesBack_26
theorem Sh106_2 {ro : ma_RO} {d : Nat} : (∀ (v0 : Option Value) (x1 : Int32) (st : List Value) (σ : ma_H), ma_rn ro d 106 (2, [v0, some (.int x1)], st, SH, σ) = ma_rn ro d 106 (3, [v0, some (.int x1)], .int x1 :: st, SH, σ)) := fun v0 x1 st σ => q_go e106_2 rfl rfl
theorem S106 {ro : ma_RO} {d : Nat} : (∀ (v0 : Option Value) (v1 : Option Value) (st : List Value) (σ : ma_H), ma_rn ro d 106 (0, [v0, v1], st, SH, σ) = ma_rn ro d 106 (1, [v0, v1], .int (nI 0) :: st, SH, σ)) ∧
  (∀ (v1 : Option Value) (a9 : Nat) (x1 : Int32) (st : List Value) (σ : ma_H), ma_rn ro d 106 (1, [some (.ref a9), v1], .int x1 :: st, SH, σ) = ma_rn ro d 106 (2, [some (.ref a9), some (.int x1)], st, SH, σ)) ∧
  (∀ (v0 : Option Value) (v1 : Option Value) (st : List Value) (σ : ma_H), ma_rn ro d 106 (3, [v0, v1], st, SH, σ) = ma_rn ro d 106 (5, [v0, v1], .int (nI 33) :: st, SH, σ)) ∧
  (∀ (v0 : Option Value) (v1 : Option Value) (x1 : Int32) (x2 : Int32) (st : List Value) (σ : ma_H), ma_rn ro d 106 (5, [v0, v1], .int x1 :: .int x2 :: st, SH, σ) = if x2 < x1 then ma_rn ro d 106 (8, [v0, v1], st, SH, σ) else ma_rn ro d 106 (26, [v0, v1], st, SH, σ)) ∧
  (∀ (v1 : Option Value) (a1 : Nat) (st : List Value) (σ : ma_H), ma_rn ro d 106 (8, [some (.ref a1), v1], st, SH, σ) = ma_rn ro d 106 (9, [some (.ref a1), v1], .ref a1 :: st, SH, σ)) ∧
  (∀ (v0 : Option Value) (v1 : Option Value) (a1 : Nat) (st : List Value) (σ : ma_H) (hc : hk_cls a1 = 8), ma_rn ro d 106 (9, [v0, v1], .ref a1 :: st, SH, σ) = ma_rn ro d 106 (12, [v0, v1], .ref (91) :: st, SH, σ)) ∧
  (∀ (v0 : Option Value) (x1 : Int32) (st : List Value) (σ : ma_H), ma_rn ro d 106 (12, [v0, some (.int x1)], st, SH, σ) = ma_rn ro d 106 (13, [v0, some (.int x1)], .int x1 :: st, SH, σ)) ∧
  (∀ (v1 : Option Value) (a1 : Nat) (st : List Value) (σ : ma_H), ma_rn ro d 106 (13, [some (.ref a1), v1], st, SH, σ) = ma_rn ro d 106 (14, [some (.ref a1), v1], .ref a1 :: st, SH, σ)) ∧
  (∀ (v0 : Option Value) (v1 : Option Value) (a1 : Nat) (st : List Value) (σ : ma_H) (hc : hk_cls a1 = 8), ma_rn ro d 106 (14, [v0, v1], .ref a1 :: st, SH, σ) = ma_rn ro d 106 (17, [v0, v1], .ref (93) :: st, SH, σ)) ∧
  (∀ (v0 : Option Value) (x1 : Int32) (st : List Value) (σ : ma_H), ma_rn ro d 106 (17, [v0, some (.int x1)], st, SH, σ) = ma_rn ro d 106 (18, [v0, some (.int x1)], .int x1 :: st, SH, σ)) ∧
  (∀ (v0 : Option Value) (v1 : Option Value) (k : Nat) (a2 : Nat) (st : List Value) (σ : ma_H) (hk : k < hk_len a2), ma_rn ro d 106 (18, [v0, v1], .int (nI k) :: .ref a2 :: st, SH, σ) = ma_rn ro d 106 (19, [v0, v1], .int (σ a2 k) :: st, SH, σ)) ∧
  (∀ (v0 : Option Value) (v1 : Option Value) (x1 : Int32) (k : Nat) (a3 : Nat) (st : List Value) (σ : ma_H) (hk : k < hk_len a3), ma_rn ro d 106 (19, [v0, v1], .int x1 :: .int (nI k) :: .ref a3 :: st, SH, σ) = ma_rn ro d 106 (20, [v0, v1], st, SH, (ma_up σ a3 k x1))) ∧
  (∀ (x1 : Int32) (a9 : Nat) (st : List Value) (σ : ma_H), ma_rn ro d 106 (20, [some (.ref a9), some (.int x1)], st, SH, σ) = ma_rn ro d 106 (23, [some (.ref a9), some (.int (x1 + nI 1))], st, SH, σ)) ∧
  (∀ (v0 : Option Value) (v1 : Option Value) (st : List Value) (σ : ma_H), ma_rn ro d 106 (23, [v0, v1], st, SH, σ) = ma_rn ro d 106 (2, [v0, v1], st, SH, σ)) ∧
  (∀ (v0 : Option Value) (v1 : Option Value) (σ : ma_H), ma_rn ro d 106 (26, [v0, v1], [], SH, σ) = some (none, SH, σ)) := ⟨fun v0 v1 st σ => q_iconst e106_0 (by decide),
  fun v1 a9 x1 st σ => q_go e106_1 rfl rfl,
  fun v0 v1 st σ => q_bipush e106_3 (by decide),
  fun v0 v1 x1 x2 st σ => (q_cmp e106_5 rfl).trans q_nlt,
  fun v1 a1 st σ => q_go e106_8 rfl rfl,
  fun v0 v1 a1 st σ hc => q_getA e106_9 o_106 f_8_9 (by decide) hc,
  fun v0 x1 st σ => q_go e106_12 rfl rfl,
  fun v1 a1 st σ => q_go e106_13 rfl rfl,
  fun v0 v1 a1 st σ hc => q_getA e106_14 o_106 f_8_18 (by decide) hc,
  fun v0 x1 st σ => q_go e106_17 rfl rfl,
  fun v0 v1 k a2 st σ hk => q_iald e106_18 hk,
  fun v0 v1 x1 k a3 st σ hk => q_iast e106_19 hk,
  fun x1 a9 st σ => q_iinc e106_20 rfl rfl (by decide),
  fun v0 v1 st σ => q_goto e106_23 rfl,
  fun v0 v1 σ => q_vret e106_26 r_106⟩
theorem E106 {ro : ma_RO} {d : Nat} (a0 : Nat) (sh : List ma_Sh) (σ : ma_H) : ma_ev ro d 106 [.ref a0] sh σ = ma_rn ro d 106 (0, [some (.ref a0), none], [], sh, σ) := q_ent x_106 rfl
theorem e107_0 : decode (ma_cd 107) 0 = .ok (.iload_n 1, 1) := (congrArg (fun b => decode b 0) cd_107).trans dX8_feed_0
theorem e107_1 : decode (ma_cd 107) 1 = .ok (.iconst 0, 1) := (congrArg (fun b => decode b 1) cd_107).trans dX8_feed_1
theorem e107_2 : decode (ma_cd 107) 2 = .ok (.bipush 127, 2) := (congrArg (fun b => decode b 2) cd_107).trans dX8_feed_2
theorem e107_4 : decode (ma_cd 107) 4 = .ok (.invokestatic 35, 3) := (congrArg (fun b => decode b 4) cd_107).trans dX8_feed_4
theorem e107_7 : decode (ma_cd 107) 7 = .ok (.ifCond .ne 6, 3) := (congrArg (fun b => decode b 7) cd_107).trans dX8_feed_7
theorem e107_10 : decode (ma_cd 107) 10 = .ok (.bipush (-2), 2) := (congrArg (fun b => decode b 10) cd_107).trans dX8_feed_10
theorem e107_12 : decode (ma_cd 107) 12 = .ok (.ireturn, 1) := (congrArg (fun b => decode b 12) cd_107).trans dX8_feed_12
theorem e107_13 : decode (ma_cd 107) 13 = .ok (.aload_n 0, 1) := (congrArg (fun b => decode b 13) cd_107).trans dX8_feed_13
theorem e107_14 : decode (ma_cd 107) 14 = .ok (.getfield 9, 3) := (congrArg (fun b => decode b 14) cd_107).trans dX8_feed_14
theorem e107_17 : decode (ma_cd 107) 17 = .ok (.bipush 38, 2) := (congrArg (fun b => decode b 17) cd_107).trans dX8_feed_17
theorem e107_19 : decode (ma_cd 107) 19 = .ok (.iaload, 1) := (congrArg (fun b => decode b 19) cd_107).trans dX8_feed_19
theorem e107_20 : decode (ma_cd 107) 20 = .ok (.bipush 100, 2) := (congrArg (fun b => decode b 20) cd_107).trans dX8_feed_20
theorem e107_22 : decode (ma_cd 107) 22 = .ok (.if_icmp .ne 6, 3) := (congrArg (fun b => decode b 22) cd_107).trans dX8_feed_22
theorem e107_25 : decode (ma_cd 107) 25 = .ok (.bipush (-4), 2) := (congrArg (fun b => decode b 25) cd_107).trans dX8_feed_25
theorem e107_27 : decode (ma_cd 107) 27 = .ok (.ireturn, 1) := (congrArg (fun b => decode b 27) cd_107).trans dX8_feed_27
theorem e107_28 : decode (ma_cd 107) 28 = .ok (.aload_n 0, 1) := (congrArg (fun b => decode b 28) cd_107).trans dX8_feed_28
theorem e107_29 : decode (ma_cd 107) 29 = .ok (.getfield 9, 3) := (congrArg (fun b => decode b 29) cd_107).trans dX8_feed_29
theorem e107_32 : decode (ma_cd 107) 32 = .ok (.bipush 123, 2) := (congrArg (fun b => decode b 32) cd_107).trans dX8_feed_32
theorem e107_34 : decode (ma_cd 107) 34 = .ok (.aload_n 0, 1) := (congrArg (fun b => decode b 34) cd_107).trans dX8_feed_34
theorem e107_35 : decode (ma_cd 107) 35 = .ok (.getfield 9, 3) := (congrArg (fun b => decode b 35) cd_107).trans dX8_feed_35
theorem e107_38 : decode (ma_cd 107) 38 = .ok (.bipush 38, 2) := (congrArg (fun b => decode b 38) cd_107).trans dX8_feed_38
theorem e107_40 : decode (ma_cd 107) 40 = .ok (.iaload, 1) := (congrArg (fun b => decode b 40) cd_107).trans dX8_feed_40
theorem e107_41 : decode (ma_cd 107) 41 = .ok (.iadd, 1) := (congrArg (fun b => decode b 41) cd_107).trans dX8_feed_41
theorem e107_42 : decode (ma_cd 107) 42 = .ok (.iload_n 1, 1) := (congrArg (fun b => decode b 42) cd_107).trans dX8_feed_42
theorem e107_43 : decode (ma_cd 107) 43 = .ok (.iastore, 1) := (congrArg (fun b => decode b 43) cd_107).trans dX8_feed_43
theorem e107_44 : decode (ma_cd 107) 44 = .ok (.aload_n 0, 1) := (congrArg (fun b => decode b 44) cd_107).trans dX8_feed_44
theorem e107_45 : decode (ma_cd 107) 45 = .ok (.getfield 9, 3) := (congrArg (fun b => decode b 45) cd_107).trans dX8_feed_45
theorem e107_48 : decode (ma_cd 107) 48 = .ok (.bipush 38, 2) := (congrArg (fun b => decode b 48) cd_107).trans dX8_feed_48
theorem e107_50 : decode (ma_cd 107) 50 = .ok (.dup2, 1) := (congrArg (fun b => decode b 50) cd_107).trans dX8_feed_50
theorem e107_51 : decode (ma_cd 107) 51 = .ok (.iaload, 1) := (congrArg (fun b => decode b 51) cd_107).trans dX8_feed_51
theorem e107_52 : decode (ma_cd 107) 52 = .ok (.iconst 1, 1) := (congrArg (fun b => decode b 52) cd_107).trans dX8_feed_52
theorem e107_53 : decode (ma_cd 107) 53 = .ok (.iadd, 1) := (congrArg (fun b => decode b 53) cd_107).trans dX8_feed_53
theorem e107_54 : decode (ma_cd 107) 54 = .ok (.iastore, 1) := (congrArg (fun b => decode b 54) cd_107).trans dX8_feed_54
theorem e107_55 : decode (ma_cd 107) 55 = .ok (.aload_n 0, 1) := (congrArg (fun b => decode b 55) cd_107).trans dX8_feed_55
theorem e107_56 : decode (ma_cd 107) 56 = .ok (.getfield 9, 3) := (congrArg (fun b => decode b 56) cd_107).trans dX8_feed_56
theorem e107_59 : decode (ma_cd 107) 59 = .ok (.bipush 38, 2) := (congrArg (fun b => decode b 59) cd_107).trans dX8_feed_59
theorem e107_61 : decode (ma_cd 107) 61 = .ok (.iaload, 1) := (congrArg (fun b => decode b 61) cd_107).trans dX8_feed_61
theorem e107_62 : decode (ma_cd 107) 62 = .ok (.ireturn, 1) := (congrArg (fun b => decode b 62) cd_107).trans dX8_feed_62
theorem S107 {ro : ma_RO} {d : Nat} : (∀ (v0 : Option Value) (x1 : Int32) (st : List Value) (σ : ma_H), ma_rn ro d 107 (0, [v0, some (.int x1)], st, SH, σ) = ma_rn ro d 107 (1, [v0, some (.int x1)], .int x1 :: st, SH, σ)) ∧
  (∀ (v0 : Option Value) (v1 : Option Value) (st : List Value) (σ : ma_H), ma_rn ro d 107 (1, [v0, v1], st, SH, σ) = ma_rn ro d 107 (2, [v0, v1], .int (nI 0) :: st, SH, σ)) ∧
  (∀ (v0 : Option Value) (v1 : Option Value) (st : List Value) (σ : ma_H), ma_rn ro d 107 (2, [v0, v1], st, SH, σ) = ma_rn ro d 107 (4, [v0, v1], .int (nI 127) :: st, SH, σ)) ∧
  (∀ (v0 : Option Value) (v1 : Option Value) (x1 : Int32) (x2 : Int32) (x3 : Int32) (σ : ma_H), ma_rn ro (d + 1) 107 (4, [v0, v1], .int x3 :: .int x2 :: .int x1 :: [], SH, σ) = (ma_ev ro d 102 [.int x1, .int x2, .int x3] SH σ).bind (fun q => ma_rn ro (d + 1) 107 (7, [v0, v1], (q.1.toList ++ []), q.2.1, q.2.2))) ∧
  (∀ (v0 : Option Value) (v1 : Option Value) (x1 : Int32) (st : List Value) (σ : ma_H), ma_rn ro d 107 (7, [v0, v1], .int x1 :: st, SH, σ) = if x1 = nI 0 then ma_rn ro d 107 (10, [v0, v1], st, SH, σ) else ma_rn ro d 107 (13, [v0, v1], st, SH, σ)) ∧
  (∀ (v0 : Option Value) (v1 : Option Value) (st : List Value) (σ : ma_H), ma_rn ro d 107 (10, [v0, v1], st, SH, σ) = ma_rn ro d 107 (12, [v0, v1], .int ((-2)) :: st, SH, σ)) ∧
  (∀ (v0 : Option Value) (v1 : Option Value) (x1 : Int32) (σ : ma_H), ma_rn ro d 107 (12, [v0, v1], [.int x1], SH, σ) = some (some (.int x1), SH, σ)) ∧
  (∀ (v1 : Option Value) (a1 : Nat) (st : List Value) (σ : ma_H), ma_rn ro d 107 (13, [some (.ref a1), v1], st, SH, σ) = ma_rn ro d 107 (14, [some (.ref a1), v1], .ref a1 :: st, SH, σ)) ∧
  (∀ (v0 : Option Value) (v1 : Option Value) (a1 : Nat) (st : List Value) (σ : ma_H) (hc : hk_cls a1 = 8), ma_rn ro d 107 (14, [v0, v1], .ref a1 :: st, SH, σ) = ma_rn ro d 107 (17, [v0, v1], .ref (91) :: st, SH, σ)) ∧
  (∀ (v0 : Option Value) (v1 : Option Value) (st : List Value) (σ : ma_H), ma_rn ro d 107 (17, [v0, v1], st, SH, σ) = ma_rn ro d 107 (19, [v0, v1], .int (nI 38) :: st, SH, σ)) ∧
  (∀ (v0 : Option Value) (v1 : Option Value) (k : Nat) (a2 : Nat) (st : List Value) (σ : ma_H) (hk : k < hk_len a2), ma_rn ro d 107 (19, [v0, v1], .int (nI k) :: .ref a2 :: st, SH, σ) = ma_rn ro d 107 (20, [v0, v1], .int (σ a2 k) :: st, SH, σ)) ∧
  (∀ (v0 : Option Value) (v1 : Option Value) (st : List Value) (σ : ma_H), ma_rn ro d 107 (20, [v0, v1], st, SH, σ) = ma_rn ro d 107 (22, [v0, v1], .int (nI 100) :: st, SH, σ)) ∧
  (∀ (v0 : Option Value) (v1 : Option Value) (x1 : Int32) (x2 : Int32) (st : List Value) (σ : ma_H), ma_rn ro d 107 (22, [v0, v1], .int x1 :: .int x2 :: st, SH, σ) = if x2 = x1 then ma_rn ro d 107 (25, [v0, v1], st, SH, σ) else ma_rn ro d 107 (28, [v0, v1], st, SH, σ)) ∧
  (∀ (v0 : Option Value) (v1 : Option Value) (st : List Value) (σ : ma_H), ma_rn ro d 107 (25, [v0, v1], st, SH, σ) = ma_rn ro d 107 (27, [v0, v1], .int ((-4)) :: st, SH, σ)) ∧
  (∀ (v0 : Option Value) (v1 : Option Value) (x1 : Int32) (σ : ma_H), ma_rn ro d 107 (27, [v0, v1], [.int x1], SH, σ) = some (some (.int x1), SH, σ)) ∧
  (∀ (v1 : Option Value) (a1 : Nat) (st : List Value) (σ : ma_H), ma_rn ro d 107 (28, [some (.ref a1), v1], st, SH, σ) = ma_rn ro d 107 (29, [some (.ref a1), v1], .ref a1 :: st, SH, σ)) ∧
  (∀ (v0 : Option Value) (v1 : Option Value) (a1 : Nat) (st : List Value) (σ : ma_H) (hc : hk_cls a1 = 8), ma_rn ro d 107 (29, [v0, v1], .ref a1 :: st, SH, σ) = ma_rn ro d 107 (32, [v0, v1], .ref (91) :: st, SH, σ)) ∧
  (∀ (v0 : Option Value) (v1 : Option Value) (st : List Value) (σ : ma_H), ma_rn ro d 107 (32, [v0, v1], st, SH, σ) = ma_rn ro d 107 (34, [v0, v1], .int (nI 123) :: st, SH, σ)) ∧
  (∀ (v1 : Option Value) (a1 : Nat) (st : List Value) (σ : ma_H), ma_rn ro d 107 (34, [some (.ref a1), v1], st, SH, σ) = ma_rn ro d 107 (35, [some (.ref a1), v1], .ref a1 :: st, SH, σ)) ∧
  (∀ (v0 : Option Value) (v1 : Option Value) (a1 : Nat) (st : List Value) (σ : ma_H) (hc : hk_cls a1 = 8), ma_rn ro d 107 (35, [v0, v1], .ref a1 :: st, SH, σ) = ma_rn ro d 107 (38, [v0, v1], .ref (91) :: st, SH, σ)) ∧
  (∀ (v0 : Option Value) (v1 : Option Value) (st : List Value) (σ : ma_H), ma_rn ro d 107 (38, [v0, v1], st, SH, σ) = ma_rn ro d 107 (40, [v0, v1], .int (nI 38) :: st, SH, σ)) ∧
  (∀ (v0 : Option Value) (v1 : Option Value) (k : Nat) (a2 : Nat) (st : List Value) (σ : ma_H) (hk : k < hk_len a2), ma_rn ro d 107 (40, [v0, v1], .int (nI k) :: .ref a2 :: st, SH, σ) = ma_rn ro d 107 (41, [v0, v1], .int (σ a2 k) :: st, SH, σ)) ∧
  (∀ (v0 : Option Value) (v1 : Option Value) (x1 : Int32) (x2 : Int32) (st : List Value) (σ : ma_H), ma_rn ro d 107 (41, [v0, v1], .int x1 :: .int x2 :: st, SH, σ) = ma_rn ro d 107 (42, [v0, v1], .int (x2 + x1) :: st, SH, σ)) ∧
  (∀ (v0 : Option Value) (x1 : Int32) (st : List Value) (σ : ma_H), ma_rn ro d 107 (42, [v0, some (.int x1)], st, SH, σ) = ma_rn ro d 107 (43, [v0, some (.int x1)], .int x1 :: st, SH, σ)) ∧
  (∀ (v0 : Option Value) (v1 : Option Value) (x1 : Int32) (k : Nat) (a3 : Nat) (st : List Value) (σ : ma_H) (hk : k < hk_len a3), ma_rn ro d 107 (43, [v0, v1], .int x1 :: .int (nI k) :: .ref a3 :: st, SH, σ) = ma_rn ro d 107 (44, [v0, v1], st, SH, (ma_up σ a3 k x1))) ∧
  (∀ (v1 : Option Value) (a1 : Nat) (st : List Value) (σ : ma_H), ma_rn ro d 107 (44, [some (.ref a1), v1], st, SH, σ) = ma_rn ro d 107 (45, [some (.ref a1), v1], .ref a1 :: st, SH, σ)) ∧
  (∀ (v0 : Option Value) (v1 : Option Value) (a1 : Nat) (st : List Value) (σ : ma_H) (hc : hk_cls a1 = 8), ma_rn ro d 107 (45, [v0, v1], .ref a1 :: st, SH, σ) = ma_rn ro d 107 (48, [v0, v1], .ref (91) :: st, SH, σ)) ∧
  (∀ (v0 : Option Value) (v1 : Option Value) (st : List Value) (σ : ma_H), ma_rn ro d 107 (48, [v0, v1], st, SH, σ) = ma_rn ro d 107 (50, [v0, v1], .int (nI 38) :: st, SH, σ)) ∧
  (∀ (v0 : Option Value) (v1 : Option Value) (x1 : Int32) (a2 : Nat) (st : List Value) (σ : ma_H), ma_rn ro d 107 (50, [v0, v1], .int x1 :: .ref a2 :: st, SH, σ) = ma_rn ro d 107 (51, [v0, v1], .int x1 :: .ref a2 :: .int x1 :: .ref a2 :: st, SH, σ)) ∧
  (∀ (v0 : Option Value) (v1 : Option Value) (k : Nat) (a2 : Nat) (st : List Value) (σ : ma_H) (hk : k < hk_len a2), ma_rn ro d 107 (51, [v0, v1], .int (nI k) :: .ref a2 :: st, SH, σ) = ma_rn ro d 107 (52, [v0, v1], .int (σ a2 k) :: st, SH, σ)) ∧
  (∀ (v0 : Option Value) (v1 : Option Value) (st : List Value) (σ : ma_H), ma_rn ro d 107 (52, [v0, v1], st, SH, σ) = ma_rn ro d 107 (53, [v0, v1], .int (nI 1) :: st, SH, σ)) ∧
  (∀ (v0 : Option Value) (v1 : Option Value) (x1 : Int32) (x2 : Int32) (st : List Value) (σ : ma_H), ma_rn ro d 107 (53, [v0, v1], .int x1 :: .int x2 :: st, SH, σ) = ma_rn ro d 107 (54, [v0, v1], .int (x2 + x1) :: st, SH, σ)) ∧
  (∀ (v0 : Option Value) (v1 : Option Value) (x1 : Int32) (k : Nat) (a3 : Nat) (st : List Value) (σ : ma_H) (hk : k < hk_len a3), ma_rn ro d 107 (54, [v0, v1], .int x1 :: .int (nI k) :: .ref a3 :: st, SH, σ) = ma_rn ro d 107 (55, [v0, v1], st, SH, (ma_up σ a3 k x1))) ∧
  (∀ (v1 : Option Value) (a1 : Nat) (st : List Value) (σ : ma_H), ma_rn ro d 107 (55, [some (.ref a1), v1], st, SH, σ) = ma_rn ro d 107 (56, [some (.ref a1), v1], .ref a1 :: st, SH, σ)) ∧
  (∀ (v0 : Option Value) (v1 : Option Value) (a1 : Nat) (st : List Value) (σ : ma_H) (hc : hk_cls a1 = 8), ma_rn ro d 107 (56, [v0, v1], .ref a1 :: st, SH, σ) = ma_rn ro d 107 (59, [v0, v1], .ref (91) :: st, SH, σ)) ∧
  (∀ (v0 : Option Value) (v1 : Option Value) (st : List Value) (σ : ma_H), ma_rn ro d 107 (59, [v0, v1], st, SH, σ) = ma_rn ro d 107 (61, [v0, v1], .int (nI 38) :: st, SH, σ)) ∧
  (∀ (v0 : Option Value) (v1 : Option Value) (k : Nat) (a2 : Nat) (st : List Value) (σ : ma_H) (hk : k < hk_len a2), ma_rn ro d 107 (61, [v0, v1], .int (nI k) :: .ref a2 :: st, SH, σ) = ma_rn ro d 107 (62, [v0, v1], .int (σ a2 k) :: st, SH, σ)) ∧
  (∀ (v0 : Option Value) (v1 : Option Value) (x1 : Int32) (σ : ma_H), ma_rn ro d 107 (62, [v0, v1], [.int x1], SH, σ) = some (some (.int x1), SH, σ)) := ⟨fun v0 x1 st σ => q_go e107_0 rfl rfl,
  fun v0 v1 st σ => q_iconst e107_1 (by decide),
  fun v0 v1 st σ => q_bipush e107_2 (by decide),
  fun v0 v1 x1 x2 x3 σ => q_invS (as := [.int x1, .int x2, .int x3]) (rest := []) e107_4 o_107 bn_8_35 c_8_35 ⟨m_102.1, m_102.2.1, m_102.2.2.1⟩ rfl rfl (Nat.le_of_ble_eq_true rfl) (Nat.le_of_ble_eq_true rfl),
  fun v0 v1 x1 st σ => (q_if e107_7 rfl).trans q_ne,
  fun v0 v1 st σ => q_bipush e107_10 (by decide),
  fun v0 v1 x1 σ => q_iret e107_12 r_107,
  fun v1 a1 st σ => q_go e107_13 rfl rfl,
  fun v0 v1 a1 st σ hc => q_getA e107_14 o_107 f_8_9 (by decide) hc,
  fun v0 v1 st σ => q_bipush e107_17 (by decide),
  fun v0 v1 k a2 st σ hk => q_iald e107_19 hk,
  fun v0 v1 st σ => q_bipush e107_20 (by decide),
  fun v0 v1 x1 x2 st σ => (q_cmp e107_22 rfl).trans q_ne,
  fun v0 v1 st σ => q_bipush e107_25 (by decide),
  fun v0 v1 x1 σ => q_iret e107_27 r_107,
  fun v1 a1 st σ => q_go e107_28 rfl rfl,
  fun v0 v1 a1 st σ hc => q_getA e107_29 o_107 f_8_9 (by decide) hc,
  fun v0 v1 st σ => q_bipush e107_32 (by decide),
  fun v1 a1 st σ => q_go e107_34 rfl rfl,
  fun v0 v1 a1 st σ hc => q_getA e107_35 o_107 f_8_9 (by decide) hc,
  fun v0 v1 st σ => q_bipush e107_38 (by decide),
  fun v0 v1 k a2 st σ hk => q_iald e107_40 hk,
  fun v0 v1 x1 x2 st σ => q_go e107_41 rfl rfl,
  fun v0 x1 st σ => q_go e107_42 rfl rfl,
  fun v0 v1 x1 k a3 st σ hk => q_iast e107_43 hk,
  fun v1 a1 st σ => q_go e107_44 rfl rfl,
  fun v0 v1 a1 st σ hc => q_getA e107_45 o_107 f_8_9 (by decide) hc,
  fun v0 v1 st σ => q_bipush e107_48 (by decide),
  fun v0 v1 x1 a2 st σ => q_go e107_50 rfl rfl,
  fun v0 v1 k a2 st σ hk => q_iald e107_51 hk,
  fun v0 v1 st σ => q_iconst e107_52 (by decide),
  fun v0 v1 x1 x2 st σ => q_go e107_53 rfl rfl,
  fun v0 v1 x1 k a3 st σ hk => q_iast e107_54 hk,
  fun v1 a1 st σ => q_go e107_55 rfl rfl,
  fun v0 v1 a1 st σ hc => q_getA e107_56 o_107 f_8_9 (by decide) hc,
  fun v0 v1 st σ => q_bipush e107_59 (by decide),
  fun v0 v1 k a2 st σ hk => q_iald e107_61 hk,
  fun v0 v1 x1 σ => q_iret e107_62 r_107⟩
theorem E107 {ro : ma_RO} {d : Nat} (a0 : Nat) (x1 : Int32) (sh : List ma_Sh) (σ : ma_H) : ma_ev ro d 107 [.ref a0, .int x1] sh σ = ma_rn ro d 107 (0, [some (.ref a0), some (.int x1)], [], sh, σ) := q_ent x_107 rfl
theorem e108_0 : decode (ma_cd 108) 0 = .ok (.aload_n 0, 1) := (congrArg (fun b => decode b 0) cd_108).trans dX8_here_0
theorem e108_1 : decode (ma_cd 108) 1 = .ok (.getfield 39, 3) := (congrArg (fun b => decode b 1) cd_108).trans dX8_here_1
theorem e108_4 : decode (ma_cd 108) 4 = .ok (.aload_n 0, 1) := (congrArg (fun b => decode b 4) cd_108).trans dX8_here_4
theorem e108_5 : decode (ma_cd 108) 5 = .ok (.getfield 42, 3) := (congrArg (fun b => decode b 5) cd_108).trans dX8_here_5
theorem e108_8 : decode (ma_cd 108) 8 = .ok (.if_icmp .ge 18, 3) := (congrArg (fun b => decode b 8) cd_108).trans dX8_here_8
theorem e108_11 : decode (ma_cd 108) 11 = .ok (.aload_n 0, 1) := (congrArg (fun b => decode b 11) cd_108).trans dX8_here_11
theorem e108_12 : decode (ma_cd 108) 12 = .ok (.getfield 9, 3) := (congrArg (fun b => decode b 12) cd_108).trans dX8_here_12
theorem e108_15 : decode (ma_cd 108) 15 = .ok (.bipush 123, 2) := (congrArg (fun b => decode b 15) cd_108).trans dX8_here_15
theorem e108_17 : decode (ma_cd 108) 17 = .ok (.aload_n 0, 1) := (congrArg (fun b => decode b 17) cd_108).trans dX8_here_17
theorem e108_18 : decode (ma_cd 108) 18 = .ok (.getfield 39, 3) := (congrArg (fun b => decode b 18) cd_108).trans dX8_here_18
theorem e108_21 : decode (ma_cd 108) 21 = .ok (.iadd, 1) := (congrArg (fun b => decode b 21) cd_108).trans dX8_here_21
theorem e108_22 : decode (ma_cd 108) 22 = .ok (.iaload, 1) := (congrArg (fun b => decode b 22) cd_108).trans dX8_here_22
theorem e108_23 : decode (ma_cd 108) 23 = .ok (.goto 4, 3) := (congrArg (fun b => decode b 23) cd_108).trans dX8_here_23
theorem e108_26 : decode (ma_cd 108) 26 = .ok (.iconst (-1), 1) := (congrArg (fun b => decode b 26) cd_108).trans dX8_here_26
theorem e108_27 : decode (ma_cd 108) 27 = .ok (.ireturn, 1) := (congrArg (fun b => decode b 27) cd_108).trans dX8_here_27
theorem S108 {ro : ma_RO} {d : Nat} : (∀ (a1 : Nat) (st : List Value) (σ : ma_H), ma_rn ro d 108 (0, [some (.ref a1)], st, SH, σ) = ma_rn ro d 108 (1, [some (.ref a1)], .ref a1 :: st, SH, σ)) ∧
  (∀ (v0 : Option Value) (a1 : Nat) (st : List Value) (σ : ma_H) (hc : hk_cls a1 = 8), ma_rn ro d 108 (1, [v0], .ref a1 :: st, SH, σ) = ma_rn ro d 108 (4, [v0], .int (σ a1 6) :: st, SH, σ)) ∧
  (∀ (a1 : Nat) (st : List Value) (σ : ma_H), ma_rn ro d 108 (4, [some (.ref a1)], st, SH, σ) = ma_rn ro d 108 (5, [some (.ref a1)], .ref a1 :: st, SH, σ)) ∧
  (∀ (v0 : Option Value) (a1 : Nat) (st : List Value) (σ : ma_H) (hc : hk_cls a1 = 8), ma_rn ro d 108 (5, [v0], .ref a1 :: st, SH, σ) = ma_rn ro d 108 (8, [v0], .int (σ a1 7) :: st, SH, σ)) ∧
  (∀ (v0 : Option Value) (x1 : Int32) (x2 : Int32) (st : List Value) (σ : ma_H), ma_rn ro d 108 (8, [v0], .int x1 :: .int x2 :: st, SH, σ) = if x2 < x1 then ma_rn ro d 108 (11, [v0], st, SH, σ) else ma_rn ro d 108 (26, [v0], st, SH, σ)) ∧
  (∀ (a1 : Nat) (st : List Value) (σ : ma_H), ma_rn ro d 108 (11, [some (.ref a1)], st, SH, σ) = ma_rn ro d 108 (12, [some (.ref a1)], .ref a1 :: st, SH, σ)) ∧
  (∀ (v0 : Option Value) (a1 : Nat) (st : List Value) (σ : ma_H) (hc : hk_cls a1 = 8), ma_rn ro d 108 (12, [v0], .ref a1 :: st, SH, σ) = ma_rn ro d 108 (15, [v0], .ref (91) :: st, SH, σ)) ∧
  (∀ (v0 : Option Value) (st : List Value) (σ : ma_H), ma_rn ro d 108 (15, [v0], st, SH, σ) = ma_rn ro d 108 (17, [v0], .int (nI 123) :: st, SH, σ)) ∧
  (∀ (a1 : Nat) (st : List Value) (σ : ma_H), ma_rn ro d 108 (17, [some (.ref a1)], st, SH, σ) = ma_rn ro d 108 (18, [some (.ref a1)], .ref a1 :: st, SH, σ)) ∧
  (∀ (v0 : Option Value) (a1 : Nat) (st : List Value) (σ : ma_H) (hc : hk_cls a1 = 8), ma_rn ro d 108 (18, [v0], .ref a1 :: st, SH, σ) = ma_rn ro d 108 (21, [v0], .int (σ a1 6) :: st, SH, σ)) ∧
  (∀ (v0 : Option Value) (x1 : Int32) (x2 : Int32) (st : List Value) (σ : ma_H), ma_rn ro d 108 (21, [v0], .int x1 :: .int x2 :: st, SH, σ) = ma_rn ro d 108 (22, [v0], .int (x2 + x1) :: st, SH, σ)) ∧
  (∀ (v0 : Option Value) (k : Nat) (a2 : Nat) (st : List Value) (σ : ma_H) (hk : k < hk_len a2), ma_rn ro d 108 (22, [v0], .int (nI k) :: .ref a2 :: st, SH, σ) = ma_rn ro d 108 (23, [v0], .int (σ a2 k) :: st, SH, σ)) ∧
  (∀ (v0 : Option Value) (st : List Value) (σ : ma_H), ma_rn ro d 108 (23, [v0], st, SH, σ) = ma_rn ro d 108 (27, [v0], st, SH, σ)) ∧
  (∀ (v0 : Option Value) (st : List Value) (σ : ma_H), ma_rn ro d 108 (26, [v0], st, SH, σ) = ma_rn ro d 108 (27, [v0], .int ((-1)) :: st, SH, σ)) ∧
  (∀ (v0 : Option Value) (x1 : Int32) (σ : ma_H), ma_rn ro d 108 (27, [v0], [.int x1], SH, σ) = some (some (.int x1), SH, σ)) := ⟨fun a1 st σ => q_go e108_0 rfl rfl,
  fun v0 a1 st σ hc => q_getI e108_1 o_108 f_8_39 (by decide) hc,
  fun a1 st σ => q_go e108_4 rfl rfl,
  fun v0 a1 st σ hc => q_getI e108_5 o_108 f_8_42 (by decide) hc,
  fun v0 x1 x2 st σ => (q_cmp e108_8 rfl).trans q_nlt,
  fun a1 st σ => q_go e108_11 rfl rfl,
  fun v0 a1 st σ hc => q_getA e108_12 o_108 f_8_9 (by decide) hc,
  fun v0 st σ => q_bipush e108_15 (by decide),
  fun a1 st σ => q_go e108_17 rfl rfl,
  fun v0 a1 st σ hc => q_getI e108_18 o_108 f_8_39 (by decide) hc,
  fun v0 x1 x2 st σ => q_go e108_21 rfl rfl,
  fun v0 k a2 st σ hk => q_iald e108_22 hk,
  fun v0 st σ => q_goto e108_23 rfl,
  fun v0 st σ => q_iconst e108_26 (by decide),
  fun v0 x1 σ => q_iret e108_27 r_108⟩
theorem E108 {ro : ma_RO} {d : Nat} (a0 : Nat) (sh : List ma_Sh) (σ : ma_H) : ma_ev ro d 108 [.ref a0] sh σ = ma_rn ro d 108 (0, [some (.ref a0)], [], sh, σ) := q_ent x_108 rfl
theorem e109_0 : decode (ma_cd 109) 0 = .ok (.aload_n 0, 1) := (congrArg (fun b => decode b 0) cd_109).trans dX8_must_0
theorem e109_1 : decode (ma_cd 109) 1 = .ok (.aload_n 0, 1) := (congrArg (fun b => decode b 1) cd_109).trans dX8_must_1
theorem e109_2 : decode (ma_cd 109) 2 = .ok (.getfield 45, 3) := (congrArg (fun b => decode b 2) cd_109).trans dX8_must_2
theorem e109_5 : decode (ma_cd 109) 5 = .ok (.ifCond .ne 11, 3) := (congrArg (fun b => decode b 5) cd_109).trans dX8_must_5
theorem e109_8 : decode (ma_cd 109) 8 = .ok (.aload_n 0, 1) := (congrArg (fun b => decode b 8) cd_109).trans dX8_must_8
theorem e109_9 : decode (ma_cd 109) 9 = .ok (.invokevirtual 49, 3) := (congrArg (fun b => decode b 9) cd_109).trans dX8_must_9
theorem e109_12 : decode (ma_cd 109) 12 = .ok (.iload_n 1, 1) := (congrArg (fun b => decode b 12) cd_109).trans dX8_must_12
theorem e109_13 : decode (ma_cd 109) 13 = .ok (.if_icmp .eq 7, 3) := (congrArg (fun b => decode b 13) cd_109).trans dX8_must_13
theorem e109_16 : decode (ma_cd 109) 16 = .ok (.iconst 1, 1) := (congrArg (fun b => decode b 16) cd_109).trans dX8_must_16
theorem e109_17 : decode (ma_cd 109) 17 = .ok (.goto 4, 3) := (congrArg (fun b => decode b 17) cd_109).trans dX8_must_17
theorem e109_20 : decode (ma_cd 109) 20 = .ok (.iconst 0, 1) := (congrArg (fun b => decode b 20) cd_109).trans dX8_must_20
theorem e109_21 : decode (ma_cd 109) 21 = .ok (.putfield 45, 3) := (congrArg (fun b => decode b 21) cd_109).trans dX8_must_21
theorem e109_24 : decode (ma_cd 109) 24 = .ok (.aload_n 0, 1) := (congrArg (fun b => decode b 24) cd_109).trans dX8_must_24
theorem e109_25 : decode (ma_cd 109) 25 = .ok (.dup, 1) := (congrArg (fun b => decode b 25) cd_109).trans dX8_must_25
theorem e109_26 : decode (ma_cd 109) 26 = .ok (.getfield 39, 3) := (congrArg (fun b => decode b 26) cd_109).trans dX8_must_26
theorem e109_29 : decode (ma_cd 109) 29 = .ok (.aload_n 0, 1) := (congrArg (fun b => decode b 29) cd_109).trans dX8_must_29
theorem e109_30 : decode (ma_cd 109) 30 = .ok (.getfield 45, 3) := (congrArg (fun b => decode b 30) cd_109).trans dX8_must_30
theorem e109_33 : decode (ma_cd 109) 33 = .ok (.ifCond .eq 7, 3) := (congrArg (fun b => decode b 33) cd_109).trans dX8_must_33
theorem e109_36 : decode (ma_cd 109) 36 = .ok (.iconst 0, 1) := (congrArg (fun b => decode b 36) cd_109).trans dX8_must_36
theorem e109_37 : decode (ma_cd 109) 37 = .ok (.goto 4, 3) := (congrArg (fun b => decode b 37) cd_109).trans dX8_must_37
theorem e109_40 : decode (ma_cd 109) 40 = .ok (.iconst 1, 1) := (congrArg (fun b => decode b 40) cd_109).trans dX8_must_40
theorem e109_41 : decode (ma_cd 109) 41 = .ok (.iadd, 1) := (congrArg (fun b => decode b 41) cd_109).trans dX8_must_41
theorem e109_42 : decode (ma_cd 109) 42 = .ok (.putfield 39, 3) := (congrArg (fun b => decode b 42) cd_109).trans dX8_must_42
theorem e109_45 : decode (ma_cd 109) 45 = .ok (.return_, 1) := (congrArg (fun b => decode b 45) cd_109).trans dX8_must_45
theorem S109 {ro : ma_RO} {d : Nat} : (∀ (v1 : Option Value) (a1 : Nat) (st : List Value) (σ : ma_H), ma_rn ro d 109 (0, [some (.ref a1), v1], st, SH, σ) = ma_rn ro d 109 (1, [some (.ref a1), v1], .ref a1 :: st, SH, σ)) ∧
  (∀ (v1 : Option Value) (a1 : Nat) (st : List Value) (σ : ma_H), ma_rn ro d 109 (1, [some (.ref a1), v1], st, SH, σ) = ma_rn ro d 109 (2, [some (.ref a1), v1], .ref a1 :: st, SH, σ)) ∧
  (∀ (v0 : Option Value) (v1 : Option Value) (a1 : Nat) (st : List Value) (σ : ma_H) (hc : hk_cls a1 = 8), ma_rn ro d 109 (2, [v0, v1], .ref a1 :: st, SH, σ) = ma_rn ro d 109 (5, [v0, v1], .int (σ a1 8) :: st, SH, σ)) ∧
  (∀ (v0 : Option Value) (v1 : Option Value) (x1 : Int32) (st : List Value) (σ : ma_H), ma_rn ro d 109 (5, [v0, v1], .int x1 :: st, SH, σ) = if x1 = nI 0 then ma_rn ro d 109 (8, [v0, v1], st, SH, σ) else ma_rn ro d 109 (16, [v0, v1], st, SH, σ)) ∧
  (∀ (v1 : Option Value) (a1 : Nat) (st : List Value) (σ : ma_H), ma_rn ro d 109 (8, [some (.ref a1), v1], st, SH, σ) = ma_rn ro d 109 (9, [some (.ref a1), v1], .ref a1 :: st, SH, σ)) ∧
  (∀ (v0 : Option Value) (v1 : Option Value) (a20 : Nat) (a0 : Nat) (σ : ma_H) (hc : hk_cls a0 = 8), ma_rn ro (d + 1) 109 (9, [v0, v1], .ref a0 :: .ref a20 :: [], SH, σ) = (ma_ev ro d 108 [.ref a0] SH σ).bind (fun q => ma_rn ro (d + 1) 109 (12, [v0, v1], (q.1.toList ++ (.ref a20 :: [])), q.2.1, q.2.2))) ∧
  (∀ (v0 : Option Value) (x1 : Int32) (st : List Value) (σ : ma_H), ma_rn ro d 109 (12, [v0, some (.int x1)], st, SH, σ) = ma_rn ro d 109 (13, [v0, some (.int x1)], .int x1 :: st, SH, σ)) ∧
  (∀ (v0 : Option Value) (v1 : Option Value) (x1 : Int32) (x2 : Int32) (st : List Value) (σ : ma_H), ma_rn ro d 109 (13, [v0, v1], .int x1 :: .int x2 :: st, SH, σ) = if x2 = x1 then ma_rn ro d 109 (20, [v0, v1], st, SH, σ) else ma_rn ro d 109 (16, [v0, v1], st, SH, σ)) ∧
  (∀ (v0 : Option Value) (v1 : Option Value) (st : List Value) (σ : ma_H), ma_rn ro d 109 (16, [v0, v1], st, SH, σ) = ma_rn ro d 109 (17, [v0, v1], .int (nI 1) :: st, SH, σ)) ∧
  (∀ (v0 : Option Value) (v1 : Option Value) (st : List Value) (σ : ma_H), ma_rn ro d 109 (17, [v0, v1], st, SH, σ) = ma_rn ro d 109 (21, [v0, v1], st, SH, σ)) ∧
  (∀ (v0 : Option Value) (v1 : Option Value) (st : List Value) (σ : ma_H), ma_rn ro d 109 (20, [v0, v1], st, SH, σ) = ma_rn ro d 109 (21, [v0, v1], .int (nI 0) :: st, SH, σ)) ∧
  (∀ (v0 : Option Value) (v1 : Option Value) (x1 : Int32) (a2 : Nat) (st : List Value) (σ : ma_H) (hx : ma_fitI .boolean x1 = true) (hc : hk_cls a2 = 8), ma_rn ro d 109 (21, [v0, v1], .int x1 :: .ref a2 :: st, SH, σ) = ma_rn ro d 109 (24, [v0, v1], st, SH, (ma_up σ a2 8 x1))) ∧
  (∀ (v1 : Option Value) (a1 : Nat) (st : List Value) (σ : ma_H), ma_rn ro d 109 (24, [some (.ref a1), v1], st, SH, σ) = ma_rn ro d 109 (25, [some (.ref a1), v1], .ref a1 :: st, SH, σ)) ∧
  (∀ (v0 : Option Value) (v1 : Option Value) (a1 : Nat) (st : List Value) (σ : ma_H), ma_rn ro d 109 (25, [v0, v1], .ref a1 :: st, SH, σ) = ma_rn ro d 109 (26, [v0, v1], .ref a1 :: .ref a1 :: st, SH, σ)) ∧
  (∀ (v0 : Option Value) (v1 : Option Value) (a1 : Nat) (st : List Value) (σ : ma_H) (hc : hk_cls a1 = 8), ma_rn ro d 109 (26, [v0, v1], .ref a1 :: st, SH, σ) = ma_rn ro d 109 (29, [v0, v1], .int (σ a1 6) :: st, SH, σ)) ∧
  (∀ (v1 : Option Value) (a1 : Nat) (st : List Value) (σ : ma_H), ma_rn ro d 109 (29, [some (.ref a1), v1], st, SH, σ) = ma_rn ro d 109 (30, [some (.ref a1), v1], .ref a1 :: st, SH, σ)) ∧
  (∀ (v0 : Option Value) (v1 : Option Value) (a1 : Nat) (st : List Value) (σ : ma_H) (hc : hk_cls a1 = 8), ma_rn ro d 109 (30, [v0, v1], .ref a1 :: st, SH, σ) = ma_rn ro d 109 (33, [v0, v1], .int (σ a1 8) :: st, SH, σ)) ∧
  (∀ (v0 : Option Value) (v1 : Option Value) (x1 : Int32) (st : List Value) (σ : ma_H), ma_rn ro d 109 (33, [v0, v1], .int x1 :: st, SH, σ) = if x1 = nI 0 then ma_rn ro d 109 (40, [v0, v1], st, SH, σ) else ma_rn ro d 109 (36, [v0, v1], st, SH, σ)) ∧
  (∀ (v0 : Option Value) (v1 : Option Value) (st : List Value) (σ : ma_H), ma_rn ro d 109 (36, [v0, v1], st, SH, σ) = ma_rn ro d 109 (37, [v0, v1], .int (nI 0) :: st, SH, σ)) ∧
  (∀ (v0 : Option Value) (v1 : Option Value) (st : List Value) (σ : ma_H), ma_rn ro d 109 (37, [v0, v1], st, SH, σ) = ma_rn ro d 109 (41, [v0, v1], st, SH, σ)) ∧
  (∀ (v0 : Option Value) (v1 : Option Value) (st : List Value) (σ : ma_H), ma_rn ro d 109 (40, [v0, v1], st, SH, σ) = ma_rn ro d 109 (41, [v0, v1], .int (nI 1) :: st, SH, σ)) ∧
  (∀ (v0 : Option Value) (v1 : Option Value) (x1 : Int32) (x2 : Int32) (st : List Value) (σ : ma_H), ma_rn ro d 109 (41, [v0, v1], .int x1 :: .int x2 :: st, SH, σ) = ma_rn ro d 109 (42, [v0, v1], .int (x2 + x1) :: st, SH, σ)) ∧
  (∀ (v0 : Option Value) (v1 : Option Value) (x1 : Int32) (a2 : Nat) (st : List Value) (σ : ma_H) (hc : hk_cls a2 = 8), ma_rn ro d 109 (42, [v0, v1], .int x1 :: .ref a2 :: st, SH, σ) = ma_rn ro d 109 (45, [v0, v1], st, SH, (ma_up σ a2 6 x1))) ∧
  (∀ (v0 : Option Value) (v1 : Option Value) (σ : ma_H), ma_rn ro d 109 (45, [v0, v1], [], SH, σ) = some (none, SH, σ)) := ⟨fun v1 a1 st σ => q_go e109_0 rfl rfl,
  fun v1 a1 st σ => q_go e109_1 rfl rfl,
  fun v0 v1 a1 st σ hc => q_getI e109_2 o_109 f_8_45 (by decide) hc,
  fun v0 v1 x1 st σ => (q_if e109_5 rfl).trans q_ne,
  fun v1 a1 st σ => q_go e109_8 rfl rfl,
  fun v0 v1 a20 a0 σ hc => q_invV (as := []) (rest := .ref a20 :: []) e109_9 o_109 bn_8_49 c_8_49 m_108 (by decide) rfl rfl (Nat.le_of_ble_eq_true rfl) (Nat.le_of_ble_eq_true rfl) hc,
  fun v0 x1 st σ => q_go e109_12 rfl rfl,
  fun v0 v1 x1 x2 st σ => (q_cmp e109_13 rfl).trans q_eq,
  fun v0 v1 st σ => q_iconst e109_16 (by decide),
  fun v0 v1 st σ => q_goto e109_17 rfl,
  fun v0 v1 st σ => q_iconst e109_20 (by decide),
  fun v0 v1 x1 a2 st σ hx hc => q_putI e109_21 o_109 f_8_45 (by decide) hx hc,
  fun v1 a1 st σ => q_go e109_24 rfl rfl,
  fun v0 v1 a1 st σ => q_go e109_25 rfl rfl,
  fun v0 v1 a1 st σ hc => q_getI e109_26 o_109 f_8_39 (by decide) hc,
  fun v1 a1 st σ => q_go e109_29 rfl rfl,
  fun v0 v1 a1 st σ hc => q_getI e109_30 o_109 f_8_45 (by decide) hc,
  fun v0 v1 x1 st σ => (q_if e109_33 rfl).trans q_eq,
  fun v0 v1 st σ => q_iconst e109_36 (by decide),
  fun v0 v1 st σ => q_goto e109_37 rfl,
  fun v0 v1 st σ => q_iconst e109_40 (by decide),
  fun v0 v1 x1 x2 st σ => q_go e109_41 rfl rfl,
  fun v0 v1 x1 a2 st σ hc => q_putI e109_42 o_109 f_8_39 (by decide) rfl hc,
  fun v0 v1 σ => q_vret e109_45 r_109⟩
theorem E109 {ro : ma_RO} {d : Nat} (a0 : Nat) (x1 : Int32) (sh : List ma_Sh) (σ : ma_H) : ma_ev ro d 109 [.ref a0, .int x1] sh σ = ma_rn ro d 109 (0, [some (.ref a0), some (.int x1)], [], sh, σ) := q_ent x_109 rfl
theorem e110_0 : decode (ma_cd 110) 0 = .ok (.iconst 0, 1) := (congrArg (fun b => decode b 0) cd_110).trans dX8_spells_0
theorem e110_1 : decode (ma_cd 110) 1 = .ok (.istore_n 2, 1) := (congrArg (fun b => decode b 1) cd_110).trans dX8_spells_1
theorem e110_2 : decode (ma_cd 110) 2 = .ok (.iload_n 2, 1) := (congrArg (fun b => decode b 2) cd_110).trans dX8_spells_2
theorem e110_3 : decode (ma_cd 110) 3 = .ok (.aload_n 1, 1) := (congrArg (fun b => decode b 3) cd_110).trans dX8_spells_3
theorem e110_4 : decode (ma_cd 110) 4 = .ok (.invokevirtual 53, 3) := (congrArg (fun b => decode b 4) cd_110).trans dX8_spells_4
theorem e110_7 : decode (ma_cd 110) 7 = .ok (.if_icmp .ge 18, 3) := (congrArg (fun b => decode b 7) cd_110).trans dX8_spells_7
theorem e110_10 : decode (ma_cd 110) 10 = .ok (.aload_n 0, 1) := (congrArg (fun b => decode b 10) cd_110).trans dX8_spells_10
theorem e110_11 : decode (ma_cd 110) 11 = .ok (.aload_n 1, 1) := (congrArg (fun b => decode b 11) cd_110).trans dX8_spells_11
theorem e110_12 : decode (ma_cd 110) 12 = .ok (.iload_n 2, 1) := (congrArg (fun b => decode b 12) cd_110).trans dX8_spells_12
theorem e110_13 : decode (ma_cd 110) 13 = .ok (.invokevirtual 58, 3) := (congrArg (fun b => decode b 13) cd_110).trans dX8_spells_13
theorem e110_16 : decode (ma_cd 110) 16 = .ok (.invokevirtual 62, 3) := (congrArg (fun b => decode b 16) cd_110).trans dX8_spells_16
theorem e110_19 : decode (ma_cd 110) 19 = .ok (.iinc 2 1, 3) := (congrArg (fun b => decode b 19) cd_110).trans dX8_spells_19
theorem e110_22 : decode (ma_cd 110) 22 = .ok (.goto (-20), 3) := (congrArg (fun b => decode b 22) cd_110).trans dX8_spells_22
theorem e110_25 : decode (ma_cd 110) 25 = .ok (.return_, 1) := (congrArg (fun b => decode b 25) cd_110).trans dX8_spells_25
theorem Sh110_2 {ro : ma_RO} {d : Nat} : (∀ (v0 : Option Value) (v1 : Option Value) (x1 : Int32) (st : List Value) (σ : ma_H), ma_rn ro d 110 (2, [v0, v1, some (.int x1)], st, SH, σ) = ma_rn ro d 110 (3, [v0, v1, some (.int x1)], .int x1 :: st, SH, σ)) := fun v0 v1 x1 st σ => q_go e110_2 rfl rfl
theorem S110 {ro : ma_RO} {d : Nat} : (∀ (v0 : Option Value) (v1 : Option Value) (v2 : Option Value) (st : List Value) (σ : ma_H), ma_rn ro d 110 (0, [v0, v1, v2], st, SH, σ) = ma_rn ro d 110 (1, [v0, v1, v2], .int (nI 0) :: st, SH, σ)) ∧
  (∀ (v0 : Option Value) (v2 : Option Value) (a9 : Nat) (x1 : Int32) (st : List Value) (σ : ma_H), ma_rn ro d 110 (1, [v0, some (.ref a9), v2], .int x1 :: st, SH, σ) = ma_rn ro d 110 (2, [v0, some (.ref a9), some (.int x1)], st, SH, σ)) ∧
  (∀ (v0 : Option Value) (v2 : Option Value) (a1 : Nat) (st : List Value) (σ : ma_H), ma_rn ro d 110 (3, [v0, some (.ref a1), v2], st, SH, σ) = ma_rn ro d 110 (4, [v0, some (.ref a1), v2], .ref a1 :: st, SH, σ)) ∧
  (∀ (v0 : Option Value) (v1 : Option Value) (v2 : Option Value) (x20 : Int32) (k : Nat) (σ : ma_H) (hk : k < 7), ma_rn ro d 110 (4, [v0, v1, v2], .ref (1000000 + k) :: .int x20 :: [], SH, σ) = ma_rn ro d 110 (7, [v0, v1, v2], .int (nI (ma_chs k).length) :: .int x20 :: [], SH, σ)) ∧
  (∀ (v0 : Option Value) (v1 : Option Value) (v2 : Option Value) (x1 : Int32) (x2 : Int32) (st : List Value) (σ : ma_H), ma_rn ro d 110 (7, [v0, v1, v2], .int x1 :: .int x2 :: st, SH, σ) = if x2 < x1 then ma_rn ro d 110 (10, [v0, v1, v2], st, SH, σ) else ma_rn ro d 110 (25, [v0, v1, v2], st, SH, σ)) ∧
  (∀ (v1 : Option Value) (v2 : Option Value) (a1 : Nat) (st : List Value) (σ : ma_H), ma_rn ro d 110 (10, [some (.ref a1), v1, v2], st, SH, σ) = ma_rn ro d 110 (11, [some (.ref a1), v1, v2], .ref a1 :: st, SH, σ)) ∧
  (∀ (v0 : Option Value) (v2 : Option Value) (a1 : Nat) (st : List Value) (σ : ma_H), ma_rn ro d 110 (11, [v0, some (.ref a1), v2], st, SH, σ) = ma_rn ro d 110 (12, [v0, some (.ref a1), v2], .ref a1 :: st, SH, σ)) ∧
  (∀ (v0 : Option Value) (v1 : Option Value) (x1 : Int32) (st : List Value) (σ : ma_H), ma_rn ro d 110 (12, [v0, v1, some (.int x1)], st, SH, σ) = ma_rn ro d 110 (13, [v0, v1, some (.int x1)], .int x1 :: st, SH, σ)) ∧
  (∀ (v0 : Option Value) (v1 : Option Value) (v2 : Option Value) (a20 : Nat) (k : Nat) (j : Nat) (σ : ma_H) (hk : k < 7) (hj : j < (ma_chs k).length), ma_rn ro d 110 (13, [v0, v1, v2], .int (nI j) :: .ref (1000000 + k) :: .ref a20 :: [], SH, σ) = ma_rn ro d 110 (16, [v0, v1, v2], .int ((ma_chs k).getD j 0) :: .ref a20 :: [], SH, σ)) ∧
  (∀ (v0 : Option Value) (v1 : Option Value) (v2 : Option Value) (x1 : Int32) (a0 : Nat) (σ : ma_H) (hc : hk_cls a0 = 8), ma_rn ro (d + 1) 110 (16, [v0, v1, v2], .int x1 :: .ref a0 :: [], SH, σ) = (ma_ev ro d 109 [.ref a0, .int x1] SH σ).bind (fun q => ma_rn ro (d + 1) 110 (19, [v0, v1, v2], (q.1.toList ++ []), q.2.1, q.2.2))) ∧
  (∀ (v0 : Option Value) (x1 : Int32) (a9 : Nat) (st : List Value) (σ : ma_H), ma_rn ro d 110 (19, [v0, some (.ref a9), some (.int x1)], st, SH, σ) = ma_rn ro d 110 (22, [v0, some (.ref a9), some (.int (x1 + nI 1))], st, SH, σ)) ∧
  (∀ (v0 : Option Value) (v1 : Option Value) (v2 : Option Value) (st : List Value) (σ : ma_H), ma_rn ro d 110 (22, [v0, v1, v2], st, SH, σ) = ma_rn ro d 110 (2, [v0, v1, v2], st, SH, σ)) ∧
  (∀ (v0 : Option Value) (v1 : Option Value) (v2 : Option Value) (σ : ma_H), ma_rn ro d 110 (25, [v0, v1, v2], [], SH, σ) = some (none, SH, σ)) := ⟨fun v0 v1 v2 st σ => q_iconst e110_0 (by decide),
  fun v0 v2 a9 x1 st σ => q_go e110_1 rfl rfl,
  fun v0 v2 a1 st σ => q_go e110_3 rfl rfl,
  fun v0 v1 v2 x20 k σ hk => q_slen e110_4 o_110 b_8_53 hk (Nat.le_of_ble_eq_true rfl),
  fun v0 v1 v2 x1 x2 st σ => (q_cmp e110_7 rfl).trans q_nlt,
  fun v1 v2 a1 st σ => q_go e110_10 rfl rfl,
  fun v0 v2 a1 st σ => q_go e110_11 rfl rfl,
  fun v0 v1 x1 st σ => q_go e110_12 rfl rfl,
  fun v0 v1 v2 a20 k j σ hk hj => q_schar e110_13 o_110 b_8_58 hk hj (Nat.le_of_ble_eq_true rfl),
  fun v0 v1 v2 x1 a0 σ hc => q_invV (as := [.int x1]) (rest := []) e110_16 o_110 bn_8_62 c_8_62 m_109 (by decide) rfl rfl (Nat.le_of_ble_eq_true rfl) (Nat.le_of_ble_eq_true rfl) hc,
  fun v0 x1 a9 st σ => q_iinc e110_19 rfl rfl (by decide),
  fun v0 v1 v2 st σ => q_goto e110_22 rfl,
  fun v0 v1 v2 σ => q_vret e110_25 r_110⟩
theorem E110 {ro : ma_RO} {d : Nat} (a0 : Nat) (a1 : Nat) (sh : List ma_Sh) (σ : ma_H) : ma_ev ro d 110 [.ref a0, .ref a1] sh σ = ma_rn ro d 110 (0, [some (.ref a0), some (.ref a1), none], [], sh, σ) := q_ent x_110 rfl
theorem e111_0 : decode (ma_cd 111) 0 = .ok (.aload_n 0, 1) := (congrArg (fun b => decode b 0) cd_111).trans dX8_figures_0
theorem e111_1 : decode (ma_cd 111) 1 = .ok (.aload_n 0, 1) := (congrArg (fun b => decode b 1) cd_111).trans dX8_figures_1
theorem e111_2 : decode (ma_cd 111) 2 = .ok (.getfield 45, 3) := (congrArg (fun b => decode b 2) cd_111).trans dX8_figures_2
theorem e111_5 : decode (ma_cd 111) 5 = .ok (.ifCond .ne 17, 3) := (congrArg (fun b => decode b 5) cd_111).trans dX8_figures_5
theorem e111_8 : decode (ma_cd 111) 8 = .ok (.aload_n 0, 1) := (congrArg (fun b => decode b 8) cd_111).trans dX8_figures_8
theorem e111_9 : decode (ma_cd 111) 9 = .ok (.invokevirtual 49, 3) := (congrArg (fun b => decode b 9) cd_111).trans dX8_figures_9
theorem e111_12 : decode (ma_cd 111) 12 = .ok (.bipush 48, 2) := (congrArg (fun b => decode b 12) cd_111).trans dX8_figures_12
theorem e111_14 : decode (ma_cd 111) 14 = .ok (.bipush 57, 2) := (congrArg (fun b => decode b 14) cd_111).trans dX8_figures_14
theorem e111_16 : decode (ma_cd 111) 16 = .ok (.invokestatic 35, 3) := (congrArg (fun b => decode b 16) cd_111).trans dX8_figures_16
theorem e111_19 : decode (ma_cd 111) 19 = .ok (.ifCond .ne 7, 3) := (congrArg (fun b => decode b 19) cd_111).trans dX8_figures_19
theorem e111_22 : decode (ma_cd 111) 22 = .ok (.iconst 1, 1) := (congrArg (fun b => decode b 22) cd_111).trans dX8_figures_22
theorem e111_23 : decode (ma_cd 111) 23 = .ok (.goto 4, 3) := (congrArg (fun b => decode b 23) cd_111).trans dX8_figures_23
theorem e111_26 : decode (ma_cd 111) 26 = .ok (.iconst 0, 1) := (congrArg (fun b => decode b 26) cd_111).trans dX8_figures_26
theorem e111_27 : decode (ma_cd 111) 27 = .ok (.putfield 45, 3) := (congrArg (fun b => decode b 27) cd_111).trans dX8_figures_27
theorem e111_30 : decode (ma_cd 111) 30 = .ok (.iconst 0, 1) := (congrArg (fun b => decode b 30) cd_111).trans dX8_figures_30
theorem e111_31 : decode (ma_cd 111) 31 = .ok (.istore_n 1, 1) := (congrArg (fun b => decode b 31) cd_111).trans dX8_figures_31
theorem e111_32 : decode (ma_cd 111) 32 = .ok (.iconst 0, 1) := (congrArg (fun b => decode b 32) cd_111).trans dX8_figures_32
theorem e111_33 : decode (ma_cd 111) 33 = .ok (.istore_n 2, 1) := (congrArg (fun b => decode b 33) cd_111).trans dX8_figures_33
theorem e111_34 : decode (ma_cd 111) 34 = .ok (.iload_n 2, 1) := (congrArg (fun b => decode b 34) cd_111).trans dX8_figures_34
theorem e111_35 : decode (ma_cd 111) 35 = .ok (.iconst 2, 1) := (congrArg (fun b => decode b 35) cd_111).trans dX8_figures_35
theorem e111_36 : decode (ma_cd 111) 36 = .ok (.if_icmp .ge 61, 3) := (congrArg (fun b => decode b 36) cd_111).trans dX8_figures_36
theorem e111_39 : decode (ma_cd 111) 39 = .ok (.aload_n 0, 1) := (congrArg (fun b => decode b 39) cd_111).trans dX8_figures_39
theorem e111_40 : decode (ma_cd 111) 40 = .ok (.getfield 45, 3) := (congrArg (fun b => decode b 40) cd_111).trans dX8_figures_40
theorem e111_43 : decode (ma_cd 111) 43 = .ok (.ifCond .ne 54, 3) := (congrArg (fun b => decode b 43) cd_111).trans dX8_figures_43
theorem e111_46 : decode (ma_cd 111) 46 = .ok (.aload_n 0, 1) := (congrArg (fun b => decode b 46) cd_111).trans dX8_figures_46
theorem e111_47 : decode (ma_cd 111) 47 = .ok (.invokevirtual 49, 3) := (congrArg (fun b => decode b 47) cd_111).trans dX8_figures_47
theorem e111_50 : decode (ma_cd 111) 50 = .ok (.bipush 48, 2) := (congrArg (fun b => decode b 50) cd_111).trans dX8_figures_50
theorem e111_52 : decode (ma_cd 111) 52 = .ok (.bipush 57, 2) := (congrArg (fun b => decode b 52) cd_111).trans dX8_figures_52
theorem e111_54 : decode (ma_cd 111) 54 = .ok (.invokestatic 35, 3) := (congrArg (fun b => decode b 54) cd_111).trans dX8_figures_54
theorem e111_57 : decode (ma_cd 111) 57 = .ok (.ifCond .eq 40, 3) := (congrArg (fun b => decode b 57) cd_111).trans dX8_figures_57
theorem e111_60 : decode (ma_cd 111) 60 = .ok (.iload_n 2, 1) := (congrArg (fun b => decode b 60) cd_111).trans dX8_figures_60
theorem e111_61 : decode (ma_cd 111) 61 = .ok (.ifCond .eq 7, 3) := (congrArg (fun b => decode b 61) cd_111).trans dX8_figures_61
theorem e111_64 : decode (ma_cd 111) 64 = .ok (.iload_n 1, 1) := (congrArg (fun b => decode b 64) cd_111).trans dX8_figures_64
theorem e111_65 : decode (ma_cd 111) 65 = .ok (.ifCond .le 32, 3) := (congrArg (fun b => decode b 65) cd_111).trans dX8_figures_65
theorem e111_68 : decode (ma_cd 111) 68 = .ok (.bipush 10, 2) := (congrArg (fun b => decode b 68) cd_111).trans dX8_figures_68
theorem e111_70 : decode (ma_cd 111) 70 = .ok (.iload_n 1, 1) := (congrArg (fun b => decode b 70) cd_111).trans dX8_figures_70
theorem e111_71 : decode (ma_cd 111) 71 = .ok (.imul, 1) := (congrArg (fun b => decode b 71) cd_111).trans dX8_figures_71
theorem e111_72 : decode (ma_cd 111) 72 = .ok (.aload_n 0, 1) := (congrArg (fun b => decode b 72) cd_111).trans dX8_figures_72
theorem e111_73 : decode (ma_cd 111) 73 = .ok (.invokevirtual 49, 3) := (congrArg (fun b => decode b 73) cd_111).trans dX8_figures_73
theorem e111_76 : decode (ma_cd 111) 76 = .ok (.iadd, 1) := (congrArg (fun b => decode b 76) cd_111).trans dX8_figures_76
theorem e111_77 : decode (ma_cd 111) 77 = .ok (.bipush 48, 2) := (congrArg (fun b => decode b 77) cd_111).trans dX8_figures_77
theorem e111_79 : decode (ma_cd 111) 79 = .ok (.isub, 1) := (congrArg (fun b => decode b 79) cd_111).trans dX8_figures_79
theorem e111_80 : decode (ma_cd 111) 80 = .ok (.istore_n 1, 1) := (congrArg (fun b => decode b 80) cd_111).trans dX8_figures_80
theorem e111_81 : decode (ma_cd 111) 81 = .ok (.aload_n 0, 1) := (congrArg (fun b => decode b 81) cd_111).trans dX8_figures_81
theorem e111_82 : decode (ma_cd 111) 82 = .ok (.dup, 1) := (congrArg (fun b => decode b 82) cd_111).trans dX8_figures_82
theorem e111_83 : decode (ma_cd 111) 83 = .ok (.getfield 39, 3) := (congrArg (fun b => decode b 83) cd_111).trans dX8_figures_83
theorem e111_86 : decode (ma_cd 111) 86 = .ok (.iconst 1, 1) := (congrArg (fun b => decode b 86) cd_111).trans dX8_figures_86
theorem e111_87 : decode (ma_cd 111) 87 = .ok (.iadd, 1) := (congrArg (fun b => decode b 87) cd_111).trans dX8_figures_87
theorem e111_88 : decode (ma_cd 111) 88 = .ok (.putfield 39, 3) := (congrArg (fun b => decode b 88) cd_111).trans dX8_figures_88
theorem e111_91 : decode (ma_cd 111) 91 = .ok (.iinc 2 1, 3) := (congrArg (fun b => decode b 91) cd_111).trans dX8_figures_91
theorem e111_94 : decode (ma_cd 111) 94 = .ok (.goto (-60), 3) := (congrArg (fun b => decode b 94) cd_111).trans dX8_figures_94
theorem e111_97 : decode (ma_cd 111) 97 = .ok (.iload_n 1, 1) := (congrArg (fun b => decode b 97) cd_111).trans dX8_figures_97
theorem e111_98 : decode (ma_cd 111) 98 = .ok (.ireturn, 1) := (congrArg (fun b => decode b 98) cd_111).trans dX8_figures_98
theorem Sh111_34 {ro : ma_RO} {d : Nat} : (∀ (v0 : Option Value) (v1 : Option Value) (x1 : Int32) (st : List Value) (σ : ma_H), ma_rn ro d 111 (34, [v0, v1, some (.int x1)], st, SH, σ) = ma_rn ro d 111 (35, [v0, v1, some (.int x1)], .int x1 :: st, SH, σ)) := fun v0 v1 x1 st σ => q_go e111_34 rfl rfl
theorem S111 {ro : ma_RO} {d : Nat} : (∀ (v1 : Option Value) (v2 : Option Value) (a1 : Nat) (st : List Value) (σ : ma_H), ma_rn ro d 111 (0, [some (.ref a1), v1, v2], st, SH, σ) = ma_rn ro d 111 (1, [some (.ref a1), v1, v2], .ref a1 :: st, SH, σ)) ∧
  (∀ (v1 : Option Value) (v2 : Option Value) (a1 : Nat) (st : List Value) (σ : ma_H), ma_rn ro d 111 (1, [some (.ref a1), v1, v2], st, SH, σ) = ma_rn ro d 111 (2, [some (.ref a1), v1, v2], .ref a1 :: st, SH, σ)) ∧
  (∀ (v0 : Option Value) (v1 : Option Value) (v2 : Option Value) (a1 : Nat) (st : List Value) (σ : ma_H) (hc : hk_cls a1 = 8), ma_rn ro d 111 (2, [v0, v1, v2], .ref a1 :: st, SH, σ) = ma_rn ro d 111 (5, [v0, v1, v2], .int (σ a1 8) :: st, SH, σ)) ∧
  (∀ (v0 : Option Value) (v1 : Option Value) (v2 : Option Value) (x1 : Int32) (st : List Value) (σ : ma_H), ma_rn ro d 111 (5, [v0, v1, v2], .int x1 :: st, SH, σ) = if x1 = nI 0 then ma_rn ro d 111 (8, [v0, v1, v2], st, SH, σ) else ma_rn ro d 111 (22, [v0, v1, v2], st, SH, σ)) ∧
  (∀ (v1 : Option Value) (v2 : Option Value) (a1 : Nat) (st : List Value) (σ : ma_H), ma_rn ro d 111 (8, [some (.ref a1), v1, v2], st, SH, σ) = ma_rn ro d 111 (9, [some (.ref a1), v1, v2], .ref a1 :: st, SH, σ)) ∧
  (∀ (v0 : Option Value) (v1 : Option Value) (v2 : Option Value) (a20 : Nat) (a0 : Nat) (σ : ma_H) (hc : hk_cls a0 = 8), ma_rn ro (d + 1) 111 (9, [v0, v1, v2], .ref a0 :: .ref a20 :: [], SH, σ) = (ma_ev ro d 108 [.ref a0] SH σ).bind (fun q => ma_rn ro (d + 1) 111 (12, [v0, v1, v2], (q.1.toList ++ (.ref a20 :: [])), q.2.1, q.2.2))) ∧
  (∀ (v0 : Option Value) (v1 : Option Value) (v2 : Option Value) (st : List Value) (σ : ma_H), ma_rn ro d 111 (12, [v0, v1, v2], st, SH, σ) = ma_rn ro d 111 (14, [v0, v1, v2], .int (nI 48) :: st, SH, σ)) ∧
  (∀ (v0 : Option Value) (v1 : Option Value) (v2 : Option Value) (st : List Value) (σ : ma_H), ma_rn ro d 111 (14, [v0, v1, v2], st, SH, σ) = ma_rn ro d 111 (16, [v0, v1, v2], .int (nI 57) :: st, SH, σ)) ∧
  (∀ (v0 : Option Value) (v1 : Option Value) (v2 : Option Value) (a20 : Nat) (x1 : Int32) (x2 : Int32) (x3 : Int32) (σ : ma_H), ma_rn ro (d + 1) 111 (16, [v0, v1, v2], .int x3 :: .int x2 :: .int x1 :: .ref a20 :: [], SH, σ) = (ma_ev ro d 102 [.int x1, .int x2, .int x3] SH σ).bind (fun q => ma_rn ro (d + 1) 111 (19, [v0, v1, v2], (q.1.toList ++ (.ref a20 :: [])), q.2.1, q.2.2))) ∧
  (∀ (v0 : Option Value) (v1 : Option Value) (v2 : Option Value) (x1 : Int32) (st : List Value) (σ : ma_H), ma_rn ro d 111 (19, [v0, v1, v2], .int x1 :: st, SH, σ) = if x1 = nI 0 then ma_rn ro d 111 (22, [v0, v1, v2], st, SH, σ) else ma_rn ro d 111 (26, [v0, v1, v2], st, SH, σ)) ∧
  (∀ (v0 : Option Value) (v1 : Option Value) (v2 : Option Value) (st : List Value) (σ : ma_H), ma_rn ro d 111 (22, [v0, v1, v2], st, SH, σ) = ma_rn ro d 111 (23, [v0, v1, v2], .int (nI 1) :: st, SH, σ)) ∧
  (∀ (v0 : Option Value) (v1 : Option Value) (v2 : Option Value) (st : List Value) (σ : ma_H), ma_rn ro d 111 (23, [v0, v1, v2], st, SH, σ) = ma_rn ro d 111 (27, [v0, v1, v2], st, SH, σ)) ∧
  (∀ (v0 : Option Value) (v1 : Option Value) (v2 : Option Value) (st : List Value) (σ : ma_H), ma_rn ro d 111 (26, [v0, v1, v2], st, SH, σ) = ma_rn ro d 111 (27, [v0, v1, v2], .int (nI 0) :: st, SH, σ)) ∧
  (∀ (v0 : Option Value) (v1 : Option Value) (v2 : Option Value) (x1 : Int32) (a2 : Nat) (st : List Value) (σ : ma_H) (hx : ma_fitI .boolean x1 = true) (hc : hk_cls a2 = 8), ma_rn ro d 111 (27, [v0, v1, v2], .int x1 :: .ref a2 :: st, SH, σ) = ma_rn ro d 111 (30, [v0, v1, v2], st, SH, (ma_up σ a2 8 x1))) ∧
  (∀ (v0 : Option Value) (v1 : Option Value) (v2 : Option Value) (st : List Value) (σ : ma_H), ma_rn ro d 111 (30, [v0, v1, v2], st, SH, σ) = ma_rn ro d 111 (31, [v0, v1, v2], .int (nI 0) :: st, SH, σ)) ∧
  (∀ (v1 : Option Value) (v2 : Option Value) (a9 : Nat) (x1 : Int32) (st : List Value) (σ : ma_H), ma_rn ro d 111 (31, [some (.ref a9), v1, v2], .int x1 :: st, SH, σ) = ma_rn ro d 111 (32, [some (.ref a9), some (.int x1), v2], st, SH, σ)) ∧
  (∀ (v0 : Option Value) (v1 : Option Value) (v2 : Option Value) (st : List Value) (σ : ma_H), ma_rn ro d 111 (32, [v0, v1, v2], st, SH, σ) = ma_rn ro d 111 (33, [v0, v1, v2], .int (nI 0) :: st, SH, σ)) ∧
  (∀ (v0 : Option Value) (v2 : Option Value) (x9 : Int32) (x1 : Int32) (st : List Value) (σ : ma_H), ma_rn ro d 111 (33, [v0, some (.int x9), v2], .int x1 :: st, SH, σ) = ma_rn ro d 111 (34, [v0, some (.int x9), some (.int x1)], st, SH, σ)) ∧
  (∀ (v0 : Option Value) (v1 : Option Value) (v2 : Option Value) (st : List Value) (σ : ma_H), ma_rn ro d 111 (35, [v0, v1, v2], st, SH, σ) = ma_rn ro d 111 (36, [v0, v1, v2], .int (nI 2) :: st, SH, σ)) ∧
  (∀ (v0 : Option Value) (v1 : Option Value) (v2 : Option Value) (x1 : Int32) (x2 : Int32) (st : List Value) (σ : ma_H), ma_rn ro d 111 (36, [v0, v1, v2], .int x1 :: .int x2 :: st, SH, σ) = if x2 < x1 then ma_rn ro d 111 (39, [v0, v1, v2], st, SH, σ) else ma_rn ro d 111 (97, [v0, v1, v2], st, SH, σ)) ∧
  (∀ (v1 : Option Value) (v2 : Option Value) (a1 : Nat) (st : List Value) (σ : ma_H), ma_rn ro d 111 (39, [some (.ref a1), v1, v2], st, SH, σ) = ma_rn ro d 111 (40, [some (.ref a1), v1, v2], .ref a1 :: st, SH, σ)) ∧
  (∀ (v0 : Option Value) (v1 : Option Value) (v2 : Option Value) (a1 : Nat) (st : List Value) (σ : ma_H) (hc : hk_cls a1 = 8), ma_rn ro d 111 (40, [v0, v1, v2], .ref a1 :: st, SH, σ) = ma_rn ro d 111 (43, [v0, v1, v2], .int (σ a1 8) :: st, SH, σ)) ∧
  (∀ (v0 : Option Value) (v1 : Option Value) (v2 : Option Value) (x1 : Int32) (st : List Value) (σ : ma_H), ma_rn ro d 111 (43, [v0, v1, v2], .int x1 :: st, SH, σ) = if x1 = nI 0 then ma_rn ro d 111 (46, [v0, v1, v2], st, SH, σ) else ma_rn ro d 111 (97, [v0, v1, v2], st, SH, σ)) ∧
  (∀ (v1 : Option Value) (v2 : Option Value) (a1 : Nat) (st : List Value) (σ : ma_H), ma_rn ro d 111 (46, [some (.ref a1), v1, v2], st, SH, σ) = ma_rn ro d 111 (47, [some (.ref a1), v1, v2], .ref a1 :: st, SH, σ)) ∧
  (∀ (v0 : Option Value) (v1 : Option Value) (v2 : Option Value) (a0 : Nat) (σ : ma_H) (hc : hk_cls a0 = 8), ma_rn ro (d + 1) 111 (47, [v0, v1, v2], .ref a0 :: [], SH, σ) = (ma_ev ro d 108 [.ref a0] SH σ).bind (fun q => ma_rn ro (d + 1) 111 (50, [v0, v1, v2], (q.1.toList ++ []), q.2.1, q.2.2))) ∧
  (∀ (v0 : Option Value) (v1 : Option Value) (v2 : Option Value) (st : List Value) (σ : ma_H), ma_rn ro d 111 (50, [v0, v1, v2], st, SH, σ) = ma_rn ro d 111 (52, [v0, v1, v2], .int (nI 48) :: st, SH, σ)) ∧
  (∀ (v0 : Option Value) (v1 : Option Value) (v2 : Option Value) (st : List Value) (σ : ma_H), ma_rn ro d 111 (52, [v0, v1, v2], st, SH, σ) = ma_rn ro d 111 (54, [v0, v1, v2], .int (nI 57) :: st, SH, σ)) ∧
  (∀ (v0 : Option Value) (v1 : Option Value) (v2 : Option Value) (x1 : Int32) (x2 : Int32) (x3 : Int32) (σ : ma_H), ma_rn ro (d + 1) 111 (54, [v0, v1, v2], .int x3 :: .int x2 :: .int x1 :: [], SH, σ) = (ma_ev ro d 102 [.int x1, .int x2, .int x3] SH σ).bind (fun q => ma_rn ro (d + 1) 111 (57, [v0, v1, v2], (q.1.toList ++ []), q.2.1, q.2.2))) ∧
  (∀ (v0 : Option Value) (v1 : Option Value) (v2 : Option Value) (x1 : Int32) (st : List Value) (σ : ma_H), ma_rn ro d 111 (57, [v0, v1, v2], .int x1 :: st, SH, σ) = if x1 = nI 0 then ma_rn ro d 111 (97, [v0, v1, v2], st, SH, σ) else ma_rn ro d 111 (60, [v0, v1, v2], st, SH, σ)) ∧
  (∀ (v0 : Option Value) (v1 : Option Value) (x1 : Int32) (st : List Value) (σ : ma_H), ma_rn ro d 111 (60, [v0, v1, some (.int x1)], st, SH, σ) = ma_rn ro d 111 (61, [v0, v1, some (.int x1)], .int x1 :: st, SH, σ)) ∧
  (∀ (v0 : Option Value) (v1 : Option Value) (v2 : Option Value) (x1 : Int32) (st : List Value) (σ : ma_H), ma_rn ro d 111 (61, [v0, v1, v2], .int x1 :: st, SH, σ) = if x1 = nI 0 then ma_rn ro d 111 (68, [v0, v1, v2], st, SH, σ) else ma_rn ro d 111 (64, [v0, v1, v2], st, SH, σ)) ∧
  (∀ (v0 : Option Value) (v2 : Option Value) (x1 : Int32) (st : List Value) (σ : ma_H), ma_rn ro d 111 (64, [v0, some (.int x1), v2], st, SH, σ) = ma_rn ro d 111 (65, [v0, some (.int x1), v2], .int x1 :: st, SH, σ)) ∧
  (∀ (v0 : Option Value) (v1 : Option Value) (v2 : Option Value) (x1 : Int32) (st : List Value) (σ : ma_H), ma_rn ro d 111 (65, [v0, v1, v2], .int x1 :: st, SH, σ) = if nI 0 < x1 then ma_rn ro d 111 (68, [v0, v1, v2], st, SH, σ) else ma_rn ro d 111 (97, [v0, v1, v2], st, SH, σ)) ∧
  (∀ (v0 : Option Value) (v1 : Option Value) (v2 : Option Value) (st : List Value) (σ : ma_H), ma_rn ro d 111 (68, [v0, v1, v2], st, SH, σ) = ma_rn ro d 111 (70, [v0, v1, v2], .int (nI 10) :: st, SH, σ)) ∧
  (∀ (v0 : Option Value) (v2 : Option Value) (x1 : Int32) (st : List Value) (σ : ma_H), ma_rn ro d 111 (70, [v0, some (.int x1), v2], st, SH, σ) = ma_rn ro d 111 (71, [v0, some (.int x1), v2], .int x1 :: st, SH, σ)) ∧
  (∀ (v0 : Option Value) (v1 : Option Value) (v2 : Option Value) (x1 : Int32) (x2 : Int32) (st : List Value) (σ : ma_H), ma_rn ro d 111 (71, [v0, v1, v2], .int x1 :: .int x2 :: st, SH, σ) = ma_rn ro d 111 (72, [v0, v1, v2], .int (x2 * x1) :: st, SH, σ)) ∧
  (∀ (v1 : Option Value) (v2 : Option Value) (a1 : Nat) (st : List Value) (σ : ma_H), ma_rn ro d 111 (72, [some (.ref a1), v1, v2], st, SH, σ) = ma_rn ro d 111 (73, [some (.ref a1), v1, v2], .ref a1 :: st, SH, σ)) ∧
  (∀ (v0 : Option Value) (v1 : Option Value) (v2 : Option Value) (x20 : Int32) (a0 : Nat) (σ : ma_H) (hc : hk_cls a0 = 8), ma_rn ro (d + 1) 111 (73, [v0, v1, v2], .ref a0 :: .int x20 :: [], SH, σ) = (ma_ev ro d 108 [.ref a0] SH σ).bind (fun q => ma_rn ro (d + 1) 111 (76, [v0, v1, v2], (q.1.toList ++ (.int x20 :: [])), q.2.1, q.2.2))) ∧
  (∀ (v0 : Option Value) (v1 : Option Value) (v2 : Option Value) (x1 : Int32) (x2 : Int32) (st : List Value) (σ : ma_H), ma_rn ro d 111 (76, [v0, v1, v2], .int x1 :: .int x2 :: st, SH, σ) = ma_rn ro d 111 (77, [v0, v1, v2], .int (x2 + x1) :: st, SH, σ)) ∧
  (∀ (v0 : Option Value) (v1 : Option Value) (v2 : Option Value) (st : List Value) (σ : ma_H), ma_rn ro d 111 (77, [v0, v1, v2], st, SH, σ) = ma_rn ro d 111 (79, [v0, v1, v2], .int (nI 48) :: st, SH, σ)) ∧
  (∀ (v0 : Option Value) (v1 : Option Value) (v2 : Option Value) (x1 : Int32) (x2 : Int32) (st : List Value) (σ : ma_H), ma_rn ro d 111 (79, [v0, v1, v2], .int x1 :: .int x2 :: st, SH, σ) = ma_rn ro d 111 (80, [v0, v1, v2], .int (x2 - x1) :: st, SH, σ)) ∧
  (∀ (v1 : Option Value) (v2 : Option Value) (a9 : Nat) (x1 : Int32) (st : List Value) (σ : ma_H), ma_rn ro d 111 (80, [some (.ref a9), v1, v2], .int x1 :: st, SH, σ) = ma_rn ro d 111 (81, [some (.ref a9), some (.int x1), v2], st, SH, σ)) ∧
  (∀ (v1 : Option Value) (v2 : Option Value) (a1 : Nat) (st : List Value) (σ : ma_H), ma_rn ro d 111 (81, [some (.ref a1), v1, v2], st, SH, σ) = ma_rn ro d 111 (82, [some (.ref a1), v1, v2], .ref a1 :: st, SH, σ)) ∧
  (∀ (v0 : Option Value) (v1 : Option Value) (v2 : Option Value) (a1 : Nat) (st : List Value) (σ : ma_H), ma_rn ro d 111 (82, [v0, v1, v2], .ref a1 :: st, SH, σ) = ma_rn ro d 111 (83, [v0, v1, v2], .ref a1 :: .ref a1 :: st, SH, σ)) ∧
  (∀ (v0 : Option Value) (v1 : Option Value) (v2 : Option Value) (a1 : Nat) (st : List Value) (σ : ma_H) (hc : hk_cls a1 = 8), ma_rn ro d 111 (83, [v0, v1, v2], .ref a1 :: st, SH, σ) = ma_rn ro d 111 (86, [v0, v1, v2], .int (σ a1 6) :: st, SH, σ)) ∧
  (∀ (v0 : Option Value) (v1 : Option Value) (v2 : Option Value) (st : List Value) (σ : ma_H), ma_rn ro d 111 (86, [v0, v1, v2], st, SH, σ) = ma_rn ro d 111 (87, [v0, v1, v2], .int (nI 1) :: st, SH, σ)) ∧
  (∀ (v0 : Option Value) (v1 : Option Value) (v2 : Option Value) (x1 : Int32) (x2 : Int32) (st : List Value) (σ : ma_H), ma_rn ro d 111 (87, [v0, v1, v2], .int x1 :: .int x2 :: st, SH, σ) = ma_rn ro d 111 (88, [v0, v1, v2], .int (x2 + x1) :: st, SH, σ)) ∧
  (∀ (v0 : Option Value) (v1 : Option Value) (v2 : Option Value) (x1 : Int32) (a2 : Nat) (st : List Value) (σ : ma_H) (hc : hk_cls a2 = 8), ma_rn ro d 111 (88, [v0, v1, v2], .int x1 :: .ref a2 :: st, SH, σ) = ma_rn ro d 111 (91, [v0, v1, v2], st, SH, (ma_up σ a2 6 x1))) ∧
  (∀ (v0 : Option Value) (x1 : Int32) (x9 : Int32) (st : List Value) (σ : ma_H), ma_rn ro d 111 (91, [v0, some (.int x9), some (.int x1)], st, SH, σ) = ma_rn ro d 111 (94, [v0, some (.int x9), some (.int (x1 + nI 1))], st, SH, σ)) ∧
  (∀ (v0 : Option Value) (v1 : Option Value) (v2 : Option Value) (st : List Value) (σ : ma_H), ma_rn ro d 111 (94, [v0, v1, v2], st, SH, σ) = ma_rn ro d 111 (34, [v0, v1, v2], st, SH, σ)) ∧
  (∀ (v0 : Option Value) (v2 : Option Value) (x1 : Int32) (st : List Value) (σ : ma_H), ma_rn ro d 111 (97, [v0, some (.int x1), v2], st, SH, σ) = ma_rn ro d 111 (98, [v0, some (.int x1), v2], .int x1 :: st, SH, σ)) ∧
  (∀ (v0 : Option Value) (v1 : Option Value) (v2 : Option Value) (x1 : Int32) (σ : ma_H), ma_rn ro d 111 (98, [v0, v1, v2], [.int x1], SH, σ) = some (some (.int x1), SH, σ)) := ⟨fun v1 v2 a1 st σ => q_go e111_0 rfl rfl,
  fun v1 v2 a1 st σ => q_go e111_1 rfl rfl,
  fun v0 v1 v2 a1 st σ hc => q_getI e111_2 o_111 f_8_45 (by decide) hc,
  fun v0 v1 v2 x1 st σ => (q_if e111_5 rfl).trans q_ne,
  fun v1 v2 a1 st σ => q_go e111_8 rfl rfl,
  fun v0 v1 v2 a20 a0 σ hc => q_invV (as := []) (rest := .ref a20 :: []) e111_9 o_111 bn_8_49 c_8_49 m_108 (by decide) rfl rfl (Nat.le_of_ble_eq_true rfl) (Nat.le_of_ble_eq_true rfl) hc,
  fun v0 v1 v2 st σ => q_bipush e111_12 (by decide),
  fun v0 v1 v2 st σ => q_bipush e111_14 (by decide),
  fun v0 v1 v2 a20 x1 x2 x3 σ => q_invS (as := [.int x1, .int x2, .int x3]) (rest := .ref a20 :: []) e111_16 o_111 bn_8_35 c_8_35 ⟨m_102.1, m_102.2.1, m_102.2.2.1⟩ rfl rfl (Nat.le_of_ble_eq_true rfl) (Nat.le_of_ble_eq_true rfl),
  fun v0 v1 v2 x1 st σ => (q_if e111_19 rfl).trans q_ne,
  fun v0 v1 v2 st σ => q_iconst e111_22 (by decide),
  fun v0 v1 v2 st σ => q_goto e111_23 rfl,
  fun v0 v1 v2 st σ => q_iconst e111_26 (by decide),
  fun v0 v1 v2 x1 a2 st σ hx hc => q_putI e111_27 o_111 f_8_45 (by decide) hx hc,
  fun v0 v1 v2 st σ => q_iconst e111_30 (by decide),
  fun v1 v2 a9 x1 st σ => q_go e111_31 rfl rfl,
  fun v0 v1 v2 st σ => q_iconst e111_32 (by decide),
  fun v0 v2 x9 x1 st σ => q_go e111_33 rfl rfl,
  fun v0 v1 v2 st σ => q_iconst e111_35 (by decide),
  fun v0 v1 v2 x1 x2 st σ => (q_cmp e111_36 rfl).trans q_nlt,
  fun v1 v2 a1 st σ => q_go e111_39 rfl rfl,
  fun v0 v1 v2 a1 st σ hc => q_getI e111_40 o_111 f_8_45 (by decide) hc,
  fun v0 v1 v2 x1 st σ => (q_if e111_43 rfl).trans q_ne,
  fun v1 v2 a1 st σ => q_go e111_46 rfl rfl,
  fun v0 v1 v2 a0 σ hc => q_invV (as := []) (rest := []) e111_47 o_111 bn_8_49 c_8_49 m_108 (by decide) rfl rfl (Nat.le_of_ble_eq_true rfl) (Nat.le_of_ble_eq_true rfl) hc,
  fun v0 v1 v2 st σ => q_bipush e111_50 (by decide),
  fun v0 v1 v2 st σ => q_bipush e111_52 (by decide),
  fun v0 v1 v2 x1 x2 x3 σ => q_invS (as := [.int x1, .int x2, .int x3]) (rest := []) e111_54 o_111 bn_8_35 c_8_35 ⟨m_102.1, m_102.2.1, m_102.2.2.1⟩ rfl rfl (Nat.le_of_ble_eq_true rfl) (Nat.le_of_ble_eq_true rfl),
  fun v0 v1 v2 x1 st σ => (q_if e111_57 rfl).trans q_eq,
  fun v0 v1 x1 st σ => q_go e111_60 rfl rfl,
  fun v0 v1 v2 x1 st σ => (q_if e111_61 rfl).trans q_eq,
  fun v0 v2 x1 st σ => q_go e111_64 rfl rfl,
  fun v0 v1 v2 x1 st σ => (q_if e111_65 rfl).trans q_ngt,
  fun v0 v1 v2 st σ => q_bipush e111_68 (by decide),
  fun v0 v2 x1 st σ => q_go e111_70 rfl rfl,
  fun v0 v1 v2 x1 x2 st σ => q_go e111_71 rfl rfl,
  fun v1 v2 a1 st σ => q_go e111_72 rfl rfl,
  fun v0 v1 v2 x20 a0 σ hc => q_invV (as := []) (rest := .int x20 :: []) e111_73 o_111 bn_8_49 c_8_49 m_108 (by decide) rfl rfl (Nat.le_of_ble_eq_true rfl) (Nat.le_of_ble_eq_true rfl) hc,
  fun v0 v1 v2 x1 x2 st σ => q_go e111_76 rfl rfl,
  fun v0 v1 v2 st σ => q_bipush e111_77 (by decide),
  fun v0 v1 v2 x1 x2 st σ => q_go e111_79 rfl rfl,
  fun v1 v2 a9 x1 st σ => q_go e111_80 rfl rfl,
  fun v1 v2 a1 st σ => q_go e111_81 rfl rfl,
  fun v0 v1 v2 a1 st σ => q_go e111_82 rfl rfl,
  fun v0 v1 v2 a1 st σ hc => q_getI e111_83 o_111 f_8_39 (by decide) hc,
  fun v0 v1 v2 st σ => q_iconst e111_86 (by decide),
  fun v0 v1 v2 x1 x2 st σ => q_go e111_87 rfl rfl,
  fun v0 v1 v2 x1 a2 st σ hc => q_putI e111_88 o_111 f_8_39 (by decide) rfl hc,
  fun v0 x1 x9 st σ => q_iinc e111_91 rfl rfl (by decide),
  fun v0 v1 v2 st σ => q_goto e111_94 rfl,
  fun v0 v2 x1 st σ => q_go e111_97 rfl rfl,
  fun v0 v1 v2 x1 σ => q_iret e111_98 r_111⟩
theorem E111 {ro : ma_RO} {d : Nat} (a0 : Nat) (sh : List ma_Sh) (σ : ma_H) : ma_ev ro d 111 [.ref a0] sh σ = ma_rn ro d 111 (0, [some (.ref a0), none, none], [], sh, σ) := q_ent x_111 rfl
theorem e112_0 : decode (ma_cd 112) 0 = .ok (.iconst 0, 1) := (congrArg (fun b => decode b 0) cd_112).trans dX8_among_0
theorem e112_1 : decode (ma_cd 112) 1 = .ok (.istore_n 2, 1) := (congrArg (fun b => decode b 1) cd_112).trans dX8_among_1
theorem e112_2 : decode (ma_cd 112) 2 = .ok (.iload_n 2, 1) := (congrArg (fun b => decode b 2) cd_112).trans dX8_among_2
theorem e112_3 : decode (ma_cd 112) 3 = .ok (.aload_n 1, 1) := (congrArg (fun b => decode b 3) cd_112).trans dX8_among_3
theorem e112_4 : decode (ma_cd 112) 4 = .ok (.invokevirtual 53, 3) := (congrArg (fun b => decode b 4) cd_112).trans dX8_among_4
theorem e112_7 : decode (ma_cd 112) 7 = .ok (.if_icmp .ge 33, 3) := (congrArg (fun b => decode b 7) cd_112).trans dX8_among_7
theorem e112_10 : decode (ma_cd 112) 10 = .ok (.aload_n 0, 1) := (congrArg (fun b => decode b 10) cd_112).trans dX8_among_10
theorem e112_11 : decode (ma_cd 112) 11 = .ok (.invokevirtual 49, 3) := (congrArg (fun b => decode b 11) cd_112).trans dX8_among_11
theorem e112_14 : decode (ma_cd 112) 14 = .ok (.aload_n 1, 1) := (congrArg (fun b => decode b 14) cd_112).trans dX8_among_14
theorem e112_15 : decode (ma_cd 112) 15 = .ok (.iload_n 2, 1) := (congrArg (fun b => decode b 15) cd_112).trans dX8_among_15
theorem e112_16 : decode (ma_cd 112) 16 = .ok (.invokevirtual 58, 3) := (congrArg (fun b => decode b 16) cd_112).trans dX8_among_16
theorem e112_19 : decode (ma_cd 112) 19 = .ok (.if_icmp .ne 15, 3) := (congrArg (fun b => decode b 19) cd_112).trans dX8_among_19
theorem e112_22 : decode (ma_cd 112) 22 = .ok (.aload_n 0, 1) := (congrArg (fun b => decode b 22) cd_112).trans dX8_among_22
theorem e112_23 : decode (ma_cd 112) 23 = .ok (.dup, 1) := (congrArg (fun b => decode b 23) cd_112).trans dX8_among_23
theorem e112_24 : decode (ma_cd 112) 24 = .ok (.getfield 39, 3) := (congrArg (fun b => decode b 24) cd_112).trans dX8_among_24
theorem e112_27 : decode (ma_cd 112) 27 = .ok (.iconst 1, 1) := (congrArg (fun b => decode b 27) cd_112).trans dX8_among_27
theorem e112_28 : decode (ma_cd 112) 28 = .ok (.iadd, 1) := (congrArg (fun b => decode b 28) cd_112).trans dX8_among_28
theorem e112_29 : decode (ma_cd 112) 29 = .ok (.putfield 39, 3) := (congrArg (fun b => decode b 29) cd_112).trans dX8_among_29
theorem e112_32 : decode (ma_cd 112) 32 = .ok (.iload_n 2, 1) := (congrArg (fun b => decode b 32) cd_112).trans dX8_among_32
theorem e112_33 : decode (ma_cd 112) 33 = .ok (.ireturn, 1) := (congrArg (fun b => decode b 33) cd_112).trans dX8_among_33
theorem e112_34 : decode (ma_cd 112) 34 = .ok (.iinc 2 1, 3) := (congrArg (fun b => decode b 34) cd_112).trans dX8_among_34
theorem e112_37 : decode (ma_cd 112) 37 = .ok (.goto (-35), 3) := (congrArg (fun b => decode b 37) cd_112).trans dX8_among_37
theorem e112_40 : decode (ma_cd 112) 40 = .ok (.iconst (-1), 1) := (congrArg (fun b => decode b 40) cd_112).trans dX8_among_40
theorem e112_41 : decode (ma_cd 112) 41 = .ok (.ireturn, 1) := (congrArg (fun b => decode b 41) cd_112).trans dX8_among_41
theorem Sh112_2 {ro : ma_RO} {d : Nat} : (∀ (v0 : Option Value) (v1 : Option Value) (x1 : Int32) (st : List Value) (σ : ma_H), ma_rn ro d 112 (2, [v0, v1, some (.int x1)], st, SH, σ) = ma_rn ro d 112 (3, [v0, v1, some (.int x1)], .int x1 :: st, SH, σ)) := fun v0 v1 x1 st σ => q_go e112_2 rfl rfl
theorem S112 {ro : ma_RO} {d : Nat} : (∀ (v0 : Option Value) (v1 : Option Value) (v2 : Option Value) (st : List Value) (σ : ma_H), ma_rn ro d 112 (0, [v0, v1, v2], st, SH, σ) = ma_rn ro d 112 (1, [v0, v1, v2], .int (nI 0) :: st, SH, σ)) ∧
  (∀ (v0 : Option Value) (v2 : Option Value) (a9 : Nat) (x1 : Int32) (st : List Value) (σ : ma_H), ma_rn ro d 112 (1, [v0, some (.ref a9), v2], .int x1 :: st, SH, σ) = ma_rn ro d 112 (2, [v0, some (.ref a9), some (.int x1)], st, SH, σ)) ∧
  (∀ (v0 : Option Value) (v2 : Option Value) (a1 : Nat) (st : List Value) (σ : ma_H), ma_rn ro d 112 (3, [v0, some (.ref a1), v2], st, SH, σ) = ma_rn ro d 112 (4, [v0, some (.ref a1), v2], .ref a1 :: st, SH, σ)) ∧
  (∀ (v0 : Option Value) (v1 : Option Value) (v2 : Option Value) (x20 : Int32) (k : Nat) (σ : ma_H) (hk : k < 7), ma_rn ro d 112 (4, [v0, v1, v2], .ref (1000000 + k) :: .int x20 :: [], SH, σ) = ma_rn ro d 112 (7, [v0, v1, v2], .int (nI (ma_chs k).length) :: .int x20 :: [], SH, σ)) ∧
  (∀ (v0 : Option Value) (v1 : Option Value) (v2 : Option Value) (x1 : Int32) (x2 : Int32) (st : List Value) (σ : ma_H), ma_rn ro d 112 (7, [v0, v1, v2], .int x1 :: .int x2 :: st, SH, σ) = if x2 < x1 then ma_rn ro d 112 (10, [v0, v1, v2], st, SH, σ) else ma_rn ro d 112 (40, [v0, v1, v2], st, SH, σ)) ∧
  (∀ (v1 : Option Value) (v2 : Option Value) (a1 : Nat) (st : List Value) (σ : ma_H), ma_rn ro d 112 (10, [some (.ref a1), v1, v2], st, SH, σ) = ma_rn ro d 112 (11, [some (.ref a1), v1, v2], .ref a1 :: st, SH, σ)) ∧
  (∀ (v0 : Option Value) (v1 : Option Value) (v2 : Option Value) (a0 : Nat) (σ : ma_H) (hc : hk_cls a0 = 8), ma_rn ro (d + 1) 112 (11, [v0, v1, v2], .ref a0 :: [], SH, σ) = (ma_ev ro d 108 [.ref a0] SH σ).bind (fun q => ma_rn ro (d + 1) 112 (14, [v0, v1, v2], (q.1.toList ++ []), q.2.1, q.2.2))) ∧
  (∀ (v0 : Option Value) (v2 : Option Value) (a1 : Nat) (st : List Value) (σ : ma_H), ma_rn ro d 112 (14, [v0, some (.ref a1), v2], st, SH, σ) = ma_rn ro d 112 (15, [v0, some (.ref a1), v2], .ref a1 :: st, SH, σ)) ∧
  (∀ (v0 : Option Value) (v1 : Option Value) (x1 : Int32) (st : List Value) (σ : ma_H), ma_rn ro d 112 (15, [v0, v1, some (.int x1)], st, SH, σ) = ma_rn ro d 112 (16, [v0, v1, some (.int x1)], .int x1 :: st, SH, σ)) ∧
  (∀ (v0 : Option Value) (v1 : Option Value) (v2 : Option Value) (x20 : Int32) (k : Nat) (j : Nat) (σ : ma_H) (hk : k < 7) (hj : j < (ma_chs k).length), ma_rn ro d 112 (16, [v0, v1, v2], .int (nI j) :: .ref (1000000 + k) :: .int x20 :: [], SH, σ) = ma_rn ro d 112 (19, [v0, v1, v2], .int ((ma_chs k).getD j 0) :: .int x20 :: [], SH, σ)) ∧
  (∀ (v0 : Option Value) (v1 : Option Value) (v2 : Option Value) (x1 : Int32) (x2 : Int32) (st : List Value) (σ : ma_H), ma_rn ro d 112 (19, [v0, v1, v2], .int x1 :: .int x2 :: st, SH, σ) = if x2 = x1 then ma_rn ro d 112 (22, [v0, v1, v2], st, SH, σ) else ma_rn ro d 112 (34, [v0, v1, v2], st, SH, σ)) ∧
  (∀ (v1 : Option Value) (v2 : Option Value) (a1 : Nat) (st : List Value) (σ : ma_H), ma_rn ro d 112 (22, [some (.ref a1), v1, v2], st, SH, σ) = ma_rn ro d 112 (23, [some (.ref a1), v1, v2], .ref a1 :: st, SH, σ)) ∧
  (∀ (v0 : Option Value) (v1 : Option Value) (v2 : Option Value) (a1 : Nat) (st : List Value) (σ : ma_H), ma_rn ro d 112 (23, [v0, v1, v2], .ref a1 :: st, SH, σ) = ma_rn ro d 112 (24, [v0, v1, v2], .ref a1 :: .ref a1 :: st, SH, σ)) ∧
  (∀ (v0 : Option Value) (v1 : Option Value) (v2 : Option Value) (a1 : Nat) (st : List Value) (σ : ma_H) (hc : hk_cls a1 = 8), ma_rn ro d 112 (24, [v0, v1, v2], .ref a1 :: st, SH, σ) = ma_rn ro d 112 (27, [v0, v1, v2], .int (σ a1 6) :: st, SH, σ)) ∧
  (∀ (v0 : Option Value) (v1 : Option Value) (v2 : Option Value) (st : List Value) (σ : ma_H), ma_rn ro d 112 (27, [v0, v1, v2], st, SH, σ) = ma_rn ro d 112 (28, [v0, v1, v2], .int (nI 1) :: st, SH, σ)) ∧
  (∀ (v0 : Option Value) (v1 : Option Value) (v2 : Option Value) (x1 : Int32) (x2 : Int32) (st : List Value) (σ : ma_H), ma_rn ro d 112 (28, [v0, v1, v2], .int x1 :: .int x2 :: st, SH, σ) = ma_rn ro d 112 (29, [v0, v1, v2], .int (x2 + x1) :: st, SH, σ)) ∧
  (∀ (v0 : Option Value) (v1 : Option Value) (v2 : Option Value) (x1 : Int32) (a2 : Nat) (st : List Value) (σ : ma_H) (hc : hk_cls a2 = 8), ma_rn ro d 112 (29, [v0, v1, v2], .int x1 :: .ref a2 :: st, SH, σ) = ma_rn ro d 112 (32, [v0, v1, v2], st, SH, (ma_up σ a2 6 x1))) ∧
  (∀ (v0 : Option Value) (v1 : Option Value) (x1 : Int32) (st : List Value) (σ : ma_H), ma_rn ro d 112 (32, [v0, v1, some (.int x1)], st, SH, σ) = ma_rn ro d 112 (33, [v0, v1, some (.int x1)], .int x1 :: st, SH, σ)) ∧
  (∀ (v0 : Option Value) (v1 : Option Value) (v2 : Option Value) (x1 : Int32) (σ : ma_H), ma_rn ro d 112 (33, [v0, v1, v2], [.int x1], SH, σ) = some (some (.int x1), SH, σ)) ∧
  (∀ (v0 : Option Value) (x1 : Int32) (a9 : Nat) (st : List Value) (σ : ma_H), ma_rn ro d 112 (34, [v0, some (.ref a9), some (.int x1)], st, SH, σ) = ma_rn ro d 112 (37, [v0, some (.ref a9), some (.int (x1 + nI 1))], st, SH, σ)) ∧
  (∀ (v0 : Option Value) (v1 : Option Value) (v2 : Option Value) (st : List Value) (σ : ma_H), ma_rn ro d 112 (37, [v0, v1, v2], st, SH, σ) = ma_rn ro d 112 (2, [v0, v1, v2], st, SH, σ)) ∧
  (∀ (v0 : Option Value) (v1 : Option Value) (v2 : Option Value) (st : List Value) (σ : ma_H), ma_rn ro d 112 (40, [v0, v1, v2], st, SH, σ) = ma_rn ro d 112 (41, [v0, v1, v2], .int ((-1)) :: st, SH, σ)) ∧
  (∀ (v0 : Option Value) (v1 : Option Value) (v2 : Option Value) (x1 : Int32) (σ : ma_H), ma_rn ro d 112 (41, [v0, v1, v2], [.int x1], SH, σ) = some (some (.int x1), SH, σ)) := ⟨fun v0 v1 v2 st σ => q_iconst e112_0 (by decide),
  fun v0 v2 a9 x1 st σ => q_go e112_1 rfl rfl,
  fun v0 v2 a1 st σ => q_go e112_3 rfl rfl,
  fun v0 v1 v2 x20 k σ hk => q_slen e112_4 o_112 b_8_53 hk (Nat.le_of_ble_eq_true rfl),
  fun v0 v1 v2 x1 x2 st σ => (q_cmp e112_7 rfl).trans q_nlt,
  fun v1 v2 a1 st σ => q_go e112_10 rfl rfl,
  fun v0 v1 v2 a0 σ hc => q_invV (as := []) (rest := []) e112_11 o_112 bn_8_49 c_8_49 m_108 (by decide) rfl rfl (Nat.le_of_ble_eq_true rfl) (Nat.le_of_ble_eq_true rfl) hc,
  fun v0 v2 a1 st σ => q_go e112_14 rfl rfl,
  fun v0 v1 x1 st σ => q_go e112_15 rfl rfl,
  fun v0 v1 v2 x20 k j σ hk hj => q_schar e112_16 o_112 b_8_58 hk hj (Nat.le_of_ble_eq_true rfl),
  fun v0 v1 v2 x1 x2 st σ => (q_cmp e112_19 rfl).trans q_ne,
  fun v1 v2 a1 st σ => q_go e112_22 rfl rfl,
  fun v0 v1 v2 a1 st σ => q_go e112_23 rfl rfl,
  fun v0 v1 v2 a1 st σ hc => q_getI e112_24 o_112 f_8_39 (by decide) hc,
  fun v0 v1 v2 st σ => q_iconst e112_27 (by decide),
  fun v0 v1 v2 x1 x2 st σ => q_go e112_28 rfl rfl,
  fun v0 v1 v2 x1 a2 st σ hc => q_putI e112_29 o_112 f_8_39 (by decide) rfl hc,
  fun v0 v1 x1 st σ => q_go e112_32 rfl rfl,
  fun v0 v1 v2 x1 σ => q_iret e112_33 r_112,
  fun v0 x1 a9 st σ => q_iinc e112_34 rfl rfl (by decide),
  fun v0 v1 v2 st σ => q_goto e112_37 rfl,
  fun v0 v1 v2 st σ => q_iconst e112_40 (by decide),
  fun v0 v1 v2 x1 σ => q_iret e112_41 r_112⟩
theorem E112 {ro : ma_RO} {d : Nat} (a0 : Nat) (a1 : Nat) (sh : List ma_Sh) (σ : ma_H) : ma_ev ro d 112 [.ref a0, .ref a1] sh σ = ma_rn ro d 112 (0, [some (.ref a0), some (.ref a1), none], [], sh, σ) := q_ent x_112 rfl
theorem e113_0 : decode (ma_cd 113) 0 = .ok (.aload_n 0, 1) := (congrArg (fun b => decode b 0) cd_113).trans dX8_emits_0
theorem e113_1 : decode (ma_cd 113) 1 = .ok (.getfield 45, 3) := (congrArg (fun b => decode b 1) cd_113).trans dX8_emits_1
theorem e113_4 : decode (ma_cd 113) 4 = .ok (.ifCond .ne 52, 3) := (congrArg (fun b => decode b 4) cd_113).trans dX8_emits_4
theorem e113_7 : decode (ma_cd 113) 7 = .ok (.aload_n 0, 1) := (congrArg (fun b => decode b 7) cd_113).trans dX8_emits_7
theorem e113_8 : decode (ma_cd 113) 8 = .ok (.getfield 9, 3) := (congrArg (fun b => decode b 8) cd_113).trans dX8_emits_8
theorem e113_11 : decode (ma_cd 113) 11 = .ok (.sipush 233, 3) := (congrArg (fun b => decode b 11) cd_113).trans dX8_emits_11
theorem e113_14 : decode (ma_cd 113) 14 = .ok (.sipush 140, 3) := (congrArg (fun b => decode b 14) cd_113).trans dX8_emits_14
theorem e113_17 : decode (ma_cd 113) 17 = .ok (.aload_n 0, 1) := (congrArg (fun b => decode b 17) cd_113).trans dX8_emits_17
theorem e113_18 : decode (ma_cd 113) 18 = .ok (.getfield 66, 3) := (congrArg (fun b => decode b 18) cd_113).trans dX8_emits_18
theorem e113_21 : decode (ma_cd 113) 21 = .ok (.imul, 1) := (congrArg (fun b => decode b 21) cd_113).trans dX8_emits_21
theorem e113_22 : decode (ma_cd 113) 22 = .ok (.iadd, 1) := (congrArg (fun b => decode b 22) cd_113).trans dX8_emits_22
theorem e113_23 : decode (ma_cd 113) 23 = .ok (.aload_n 0, 1) := (congrArg (fun b => decode b 23) cd_113).trans dX8_emits_23
theorem e113_24 : decode (ma_cd 113) 24 = .ok (.getfield 9, 3) := (congrArg (fun b => decode b 24) cd_113).trans dX8_emits_24
theorem e113_27 : decode (ma_cd 113) 27 = .ok (.sipush 228, 3) := (congrArg (fun b => decode b 27) cd_113).trans dX8_emits_27
theorem e113_30 : decode (ma_cd 113) 30 = .ok (.aload_n 0, 1) := (congrArg (fun b => decode b 30) cd_113).trans dX8_emits_30
theorem e113_31 : decode (ma_cd 113) 31 = .ok (.getfield 66, 3) := (congrArg (fun b => decode b 31) cd_113).trans dX8_emits_31
theorem e113_34 : decode (ma_cd 113) 34 = .ok (.iadd, 1) := (congrArg (fun b => decode b 34) cd_113).trans dX8_emits_34
theorem e113_35 : decode (ma_cd 113) 35 = .ok (.iaload, 1) := (congrArg (fun b => decode b 35) cd_113).trans dX8_emits_35
theorem e113_36 : decode (ma_cd 113) 36 = .ok (.iadd, 1) := (congrArg (fun b => decode b 36) cd_113).trans dX8_emits_36
theorem e113_37 : decode (ma_cd 113) 37 = .ok (.iload_n 1, 1) := (congrArg (fun b => decode b 37) cd_113).trans dX8_emits_37
theorem e113_38 : decode (ma_cd 113) 38 = .ok (.iastore, 1) := (congrArg (fun b => decode b 38) cd_113).trans dX8_emits_38
theorem e113_39 : decode (ma_cd 113) 39 = .ok (.aload_n 0, 1) := (congrArg (fun b => decode b 39) cd_113).trans dX8_emits_39
theorem e113_40 : decode (ma_cd 113) 40 = .ok (.getfield 9, 3) := (congrArg (fun b => decode b 40) cd_113).trans dX8_emits_40
theorem e113_43 : decode (ma_cd 113) 43 = .ok (.sipush 228, 3) := (congrArg (fun b => decode b 43) cd_113).trans dX8_emits_43
theorem e113_46 : decode (ma_cd 113) 46 = .ok (.aload_n 0, 1) := (congrArg (fun b => decode b 46) cd_113).trans dX8_emits_46
theorem e113_47 : decode (ma_cd 113) 47 = .ok (.getfield 66, 3) := (congrArg (fun b => decode b 47) cd_113).trans dX8_emits_47
theorem e113_50 : decode (ma_cd 113) 50 = .ok (.iadd, 1) := (congrArg (fun b => decode b 50) cd_113).trans dX8_emits_50
theorem e113_51 : decode (ma_cd 113) 51 = .ok (.dup2, 1) := (congrArg (fun b => decode b 51) cd_113).trans dX8_emits_51
theorem e113_52 : decode (ma_cd 113) 52 = .ok (.iaload, 1) := (congrArg (fun b => decode b 52) cd_113).trans dX8_emits_52
theorem e113_53 : decode (ma_cd 113) 53 = .ok (.iconst 1, 1) := (congrArg (fun b => decode b 53) cd_113).trans dX8_emits_53
theorem e113_54 : decode (ma_cd 113) 54 = .ok (.iadd, 1) := (congrArg (fun b => decode b 54) cd_113).trans dX8_emits_54
theorem e113_55 : decode (ma_cd 113) 55 = .ok (.iastore, 1) := (congrArg (fun b => decode b 55) cd_113).trans dX8_emits_55
theorem e113_56 : decode (ma_cd 113) 56 = .ok (.return_, 1) := (congrArg (fun b => decode b 56) cd_113).trans dX8_emits_56
theorem S113 {ro : ma_RO} {d : Nat} : (∀ (v1 : Option Value) (a1 : Nat) (st : List Value) (σ : ma_H), ma_rn ro d 113 (0, [some (.ref a1), v1], st, SH, σ) = ma_rn ro d 113 (1, [some (.ref a1), v1], .ref a1 :: st, SH, σ)) ∧
  (∀ (v0 : Option Value) (v1 : Option Value) (a1 : Nat) (st : List Value) (σ : ma_H) (hc : hk_cls a1 = 8), ma_rn ro d 113 (1, [v0, v1], .ref a1 :: st, SH, σ) = ma_rn ro d 113 (4, [v0, v1], .int (σ a1 8) :: st, SH, σ)) ∧
  (∀ (v0 : Option Value) (v1 : Option Value) (x1 : Int32) (st : List Value) (σ : ma_H), ma_rn ro d 113 (4, [v0, v1], .int x1 :: st, SH, σ) = if x1 = nI 0 then ma_rn ro d 113 (7, [v0, v1], st, SH, σ) else ma_rn ro d 113 (56, [v0, v1], st, SH, σ)) ∧
  (∀ (v1 : Option Value) (a1 : Nat) (st : List Value) (σ : ma_H), ma_rn ro d 113 (7, [some (.ref a1), v1], st, SH, σ) = ma_rn ro d 113 (8, [some (.ref a1), v1], .ref a1 :: st, SH, σ)) ∧
  (∀ (v0 : Option Value) (v1 : Option Value) (a1 : Nat) (st : List Value) (σ : ma_H) (hc : hk_cls a1 = 8), ma_rn ro d 113 (8, [v0, v1], .ref a1 :: st, SH, σ) = ma_rn ro d 113 (11, [v0, v1], .ref (91) :: st, SH, σ)) ∧
  (∀ (v0 : Option Value) (v1 : Option Value) (st : List Value) (σ : ma_H), ma_rn ro d 113 (11, [v0, v1], st, SH, σ) = ma_rn ro d 113 (14, [v0, v1], .int (nI 233) :: st, SH, σ)) ∧
  (∀ (v0 : Option Value) (v1 : Option Value) (st : List Value) (σ : ma_H), ma_rn ro d 113 (14, [v0, v1], st, SH, σ) = ma_rn ro d 113 (17, [v0, v1], .int (nI 140) :: st, SH, σ)) ∧
  (∀ (v1 : Option Value) (a1 : Nat) (st : List Value) (σ : ma_H), ma_rn ro d 113 (17, [some (.ref a1), v1], st, SH, σ) = ma_rn ro d 113 (18, [some (.ref a1), v1], .ref a1 :: st, SH, σ)) ∧
  (∀ (v0 : Option Value) (v1 : Option Value) (a1 : Nat) (st : List Value) (σ : ma_H) (hc : hk_cls a1 = 8), ma_rn ro d 113 (18, [v0, v1], .ref a1 :: st, SH, σ) = ma_rn ro d 113 (21, [v0, v1], .int (σ a1 5) :: st, SH, σ)) ∧
  (∀ (v0 : Option Value) (v1 : Option Value) (x1 : Int32) (x2 : Int32) (st : List Value) (σ : ma_H), ma_rn ro d 113 (21, [v0, v1], .int x1 :: .int x2 :: st, SH, σ) = ma_rn ro d 113 (22, [v0, v1], .int (x2 * x1) :: st, SH, σ)) ∧
  (∀ (v0 : Option Value) (v1 : Option Value) (x1 : Int32) (x2 : Int32) (st : List Value) (σ : ma_H), ma_rn ro d 113 (22, [v0, v1], .int x1 :: .int x2 :: st, SH, σ) = ma_rn ro d 113 (23, [v0, v1], .int (x2 + x1) :: st, SH, σ)) ∧
  (∀ (v1 : Option Value) (a1 : Nat) (st : List Value) (σ : ma_H), ma_rn ro d 113 (23, [some (.ref a1), v1], st, SH, σ) = ma_rn ro d 113 (24, [some (.ref a1), v1], .ref a1 :: st, SH, σ)) ∧
  (∀ (v0 : Option Value) (v1 : Option Value) (a1 : Nat) (st : List Value) (σ : ma_H) (hc : hk_cls a1 = 8), ma_rn ro d 113 (24, [v0, v1], .ref a1 :: st, SH, σ) = ma_rn ro d 113 (27, [v0, v1], .ref (91) :: st, SH, σ)) ∧
  (∀ (v0 : Option Value) (v1 : Option Value) (st : List Value) (σ : ma_H), ma_rn ro d 113 (27, [v0, v1], st, SH, σ) = ma_rn ro d 113 (30, [v0, v1], .int (nI 228) :: st, SH, σ)) ∧
  (∀ (v1 : Option Value) (a1 : Nat) (st : List Value) (σ : ma_H), ma_rn ro d 113 (30, [some (.ref a1), v1], st, SH, σ) = ma_rn ro d 113 (31, [some (.ref a1), v1], .ref a1 :: st, SH, σ)) ∧
  (∀ (v0 : Option Value) (v1 : Option Value) (a1 : Nat) (st : List Value) (σ : ma_H) (hc : hk_cls a1 = 8), ma_rn ro d 113 (31, [v0, v1], .ref a1 :: st, SH, σ) = ma_rn ro d 113 (34, [v0, v1], .int (σ a1 5) :: st, SH, σ)) ∧
  (∀ (v0 : Option Value) (v1 : Option Value) (x1 : Int32) (x2 : Int32) (st : List Value) (σ : ma_H), ma_rn ro d 113 (34, [v0, v1], .int x1 :: .int x2 :: st, SH, σ) = ma_rn ro d 113 (35, [v0, v1], .int (x2 + x1) :: st, SH, σ)) ∧
  (∀ (v0 : Option Value) (v1 : Option Value) (k : Nat) (a2 : Nat) (st : List Value) (σ : ma_H) (hk : k < hk_len a2), ma_rn ro d 113 (35, [v0, v1], .int (nI k) :: .ref a2 :: st, SH, σ) = ma_rn ro d 113 (36, [v0, v1], .int (σ a2 k) :: st, SH, σ)) ∧
  (∀ (v0 : Option Value) (v1 : Option Value) (x1 : Int32) (x2 : Int32) (st : List Value) (σ : ma_H), ma_rn ro d 113 (36, [v0, v1], .int x1 :: .int x2 :: st, SH, σ) = ma_rn ro d 113 (37, [v0, v1], .int (x2 + x1) :: st, SH, σ)) ∧
  (∀ (v0 : Option Value) (x1 : Int32) (st : List Value) (σ : ma_H), ma_rn ro d 113 (37, [v0, some (.int x1)], st, SH, σ) = ma_rn ro d 113 (38, [v0, some (.int x1)], .int x1 :: st, SH, σ)) ∧
  (∀ (v0 : Option Value) (v1 : Option Value) (x1 : Int32) (k : Nat) (a3 : Nat) (st : List Value) (σ : ma_H) (hk : k < hk_len a3), ma_rn ro d 113 (38, [v0, v1], .int x1 :: .int (nI k) :: .ref a3 :: st, SH, σ) = ma_rn ro d 113 (39, [v0, v1], st, SH, (ma_up σ a3 k x1))) ∧
  (∀ (v1 : Option Value) (a1 : Nat) (st : List Value) (σ : ma_H), ma_rn ro d 113 (39, [some (.ref a1), v1], st, SH, σ) = ma_rn ro d 113 (40, [some (.ref a1), v1], .ref a1 :: st, SH, σ)) ∧
  (∀ (v0 : Option Value) (v1 : Option Value) (a1 : Nat) (st : List Value) (σ : ma_H) (hc : hk_cls a1 = 8), ma_rn ro d 113 (40, [v0, v1], .ref a1 :: st, SH, σ) = ma_rn ro d 113 (43, [v0, v1], .ref (91) :: st, SH, σ)) ∧
  (∀ (v0 : Option Value) (v1 : Option Value) (st : List Value) (σ : ma_H), ma_rn ro d 113 (43, [v0, v1], st, SH, σ) = ma_rn ro d 113 (46, [v0, v1], .int (nI 228) :: st, SH, σ)) ∧
  (∀ (v1 : Option Value) (a1 : Nat) (st : List Value) (σ : ma_H), ma_rn ro d 113 (46, [some (.ref a1), v1], st, SH, σ) = ma_rn ro d 113 (47, [some (.ref a1), v1], .ref a1 :: st, SH, σ)) ∧
  (∀ (v0 : Option Value) (v1 : Option Value) (a1 : Nat) (st : List Value) (σ : ma_H) (hc : hk_cls a1 = 8), ma_rn ro d 113 (47, [v0, v1], .ref a1 :: st, SH, σ) = ma_rn ro d 113 (50, [v0, v1], .int (σ a1 5) :: st, SH, σ)) ∧
  (∀ (v0 : Option Value) (v1 : Option Value) (x1 : Int32) (x2 : Int32) (st : List Value) (σ : ma_H), ma_rn ro d 113 (50, [v0, v1], .int x1 :: .int x2 :: st, SH, σ) = ma_rn ro d 113 (51, [v0, v1], .int (x2 + x1) :: st, SH, σ)) ∧
  (∀ (v0 : Option Value) (v1 : Option Value) (x1 : Int32) (a2 : Nat) (st : List Value) (σ : ma_H), ma_rn ro d 113 (51, [v0, v1], .int x1 :: .ref a2 :: st, SH, σ) = ma_rn ro d 113 (52, [v0, v1], .int x1 :: .ref a2 :: .int x1 :: .ref a2 :: st, SH, σ)) ∧
  (∀ (v0 : Option Value) (v1 : Option Value) (k : Nat) (a2 : Nat) (st : List Value) (σ : ma_H) (hk : k < hk_len a2), ma_rn ro d 113 (52, [v0, v1], .int (nI k) :: .ref a2 :: st, SH, σ) = ma_rn ro d 113 (53, [v0, v1], .int (σ a2 k) :: st, SH, σ)) ∧
  (∀ (v0 : Option Value) (v1 : Option Value) (st : List Value) (σ : ma_H), ma_rn ro d 113 (53, [v0, v1], st, SH, σ) = ma_rn ro d 113 (54, [v0, v1], .int (nI 1) :: st, SH, σ)) ∧
  (∀ (v0 : Option Value) (v1 : Option Value) (x1 : Int32) (x2 : Int32) (st : List Value) (σ : ma_H), ma_rn ro d 113 (54, [v0, v1], .int x1 :: .int x2 :: st, SH, σ) = ma_rn ro d 113 (55, [v0, v1], .int (x2 + x1) :: st, SH, σ)) ∧
  (∀ (v0 : Option Value) (v1 : Option Value) (x1 : Int32) (k : Nat) (a3 : Nat) (st : List Value) (σ : ma_H) (hk : k < hk_len a3), ma_rn ro d 113 (55, [v0, v1], .int x1 :: .int (nI k) :: .ref a3 :: st, SH, σ) = ma_rn ro d 113 (56, [v0, v1], st, SH, (ma_up σ a3 k x1))) ∧
  (∀ (v0 : Option Value) (v1 : Option Value) (σ : ma_H), ma_rn ro d 113 (56, [v0, v1], [], SH, σ) = some (none, SH, σ)) := ⟨fun v1 a1 st σ => q_go e113_0 rfl rfl,
  fun v0 v1 a1 st σ hc => q_getI e113_1 o_113 f_8_45 (by decide) hc,
  fun v0 v1 x1 st σ => (q_if e113_4 rfl).trans q_ne,
  fun v1 a1 st σ => q_go e113_7 rfl rfl,
  fun v0 v1 a1 st σ hc => q_getA e113_8 o_113 f_8_9 (by decide) hc,
  fun v0 v1 st σ => q_sipush e113_11 (by decide),
  fun v0 v1 st σ => q_sipush e113_14 (by decide),
  fun v1 a1 st σ => q_go e113_17 rfl rfl,
  fun v0 v1 a1 st σ hc => q_getI e113_18 o_113 f_8_66 (by decide) hc,
  fun v0 v1 x1 x2 st σ => q_go e113_21 rfl rfl,
  fun v0 v1 x1 x2 st σ => q_go e113_22 rfl rfl,
  fun v1 a1 st σ => q_go e113_23 rfl rfl,
  fun v0 v1 a1 st σ hc => q_getA e113_24 o_113 f_8_9 (by decide) hc,
  fun v0 v1 st σ => q_sipush e113_27 (by decide),
  fun v1 a1 st σ => q_go e113_30 rfl rfl,
  fun v0 v1 a1 st σ hc => q_getI e113_31 o_113 f_8_66 (by decide) hc,
  fun v0 v1 x1 x2 st σ => q_go e113_34 rfl rfl,
  fun v0 v1 k a2 st σ hk => q_iald e113_35 hk,
  fun v0 v1 x1 x2 st σ => q_go e113_36 rfl rfl,
  fun v0 x1 st σ => q_go e113_37 rfl rfl,
  fun v0 v1 x1 k a3 st σ hk => q_iast e113_38 hk,
  fun v1 a1 st σ => q_go e113_39 rfl rfl,
  fun v0 v1 a1 st σ hc => q_getA e113_40 o_113 f_8_9 (by decide) hc,
  fun v0 v1 st σ => q_sipush e113_43 (by decide),
  fun v1 a1 st σ => q_go e113_46 rfl rfl,
  fun v0 v1 a1 st σ hc => q_getI e113_47 o_113 f_8_66 (by decide) hc,
  fun v0 v1 x1 x2 st σ => q_go e113_50 rfl rfl,
  fun v0 v1 x1 a2 st σ => q_go e113_51 rfl rfl,
  fun v0 v1 k a2 st σ hk => q_iald e113_52 hk,
  fun v0 v1 st σ => q_iconst e113_53 (by decide),
  fun v0 v1 x1 x2 st σ => q_go e113_54 rfl rfl,
  fun v0 v1 x1 k a3 st σ hk => q_iast e113_55 hk,
  fun v0 v1 σ => q_vret e113_56 r_113⟩
theorem E113 {ro : ma_RO} {d : Nat} (a0 : Nat) (x1 : Int32) (sh : List ma_Sh) (σ : ma_H) : ma_ev ro d 113 [.ref a0, .int x1] sh σ = ma_rn ro d 113 (0, [some (.ref a0), some (.int x1)], [], sh, σ) := q_ent x_113 rfl
theorem e114_0 : decode (ma_cd 114) 0 = .ok (.aload_n 0, 1) := (congrArg (fun b => decode b 0) cd_114).trans dX8_factor_0
theorem e114_1 : decode (ma_cd 114) 1 = .ok (.getfield 45, 3) := (congrArg (fun b => decode b 1) cd_114).trans dX8_factor_1
theorem e114_4 : decode (ma_cd 114) 4 = .ok (.ifCond .eq 4, 3) := (congrArg (fun b => decode b 4) cd_114).trans dX8_factor_4
theorem e114_7 : decode (ma_cd 114) 7 = .ok (.return_, 1) := (congrArg (fun b => decode b 7) cd_114).trans dX8_factor_7
theorem e114_8 : decode (ma_cd 114) 8 = .ok (.aload_n 0, 1) := (congrArg (fun b => decode b 8) cd_114).trans dX8_factor_8
theorem e114_9 : decode (ma_cd 114) 9 = .ok (.invokevirtual 49, 3) := (congrArg (fun b => decode b 9) cd_114).trans dX8_factor_9
theorem e114_12 : decode (ma_cd 114) 12 = .ok (.istore_n 1, 1) := (congrArg (fun b => decode b 12) cd_114).trans dX8_factor_12
theorem e114_13 : decode (ma_cd 114) 13 = .ok (.iload_n 1, 1) := (congrArg (fun b => decode b 13) cd_114).trans dX8_factor_13
theorem e114_14 : decode (ma_cd 114) 14 = .ok (.bipush 33, 2) := (congrArg (fun b => decode b 14) cd_114).trans dX8_factor_14
theorem e114_16 : decode (ma_cd 114) 16 = .ok (.if_icmp .eq 9, 3) := (congrArg (fun b => decode b 16) cd_114).trans dX8_factor_16
theorem e114_19 : decode (ma_cd 114) 19 = .ok (.iload_n 1, 1) := (congrArg (fun b => decode b 19) cd_114).trans dX8_factor_19
theorem e114_20 : decode (ma_cd 114) 20 = .ok (.bipush 40, 2) := (congrArg (fun b => decode b 20) cd_114).trans dX8_factor_20
theorem e114_22 : decode (ma_cd 114) 22 = .ok (.if_icmp .ne 90, 3) := (congrArg (fun b => decode b 22) cd_114).trans dX8_factor_22
theorem e114_25 : decode (ma_cd 114) 25 = .ok (.aload_n 0, 1) := (congrArg (fun b => decode b 25) cd_114).trans dX8_factor_25
theorem e114_26 : decode (ma_cd 114) 26 = .ok (.aload_n 0, 1) := (congrArg (fun b => decode b 26) cd_114).trans dX8_factor_26
theorem e114_27 : decode (ma_cd 114) 27 = .ok (.getfield 69, 3) := (congrArg (fun b => decode b 27) cd_114).trans dX8_factor_27
theorem e114_30 : decode (ma_cd 114) 30 = .ok (.iconst 5, 1) := (congrArg (fun b => decode b 30) cd_114).trans dX8_factor_30
theorem e114_31 : decode (ma_cd 114) 31 = .ok (.if_icmp .ne 7, 3) := (congrArg (fun b => decode b 31) cd_114).trans dX8_factor_31
theorem e114_34 : decode (ma_cd 114) 34 = .ok (.iconst 1, 1) := (congrArg (fun b => decode b 34) cd_114).trans dX8_factor_34
theorem e114_35 : decode (ma_cd 114) 35 = .ok (.goto 4, 3) := (congrArg (fun b => decode b 35) cd_114).trans dX8_factor_35
theorem e114_38 : decode (ma_cd 114) 38 = .ok (.iconst 0, 1) := (congrArg (fun b => decode b 38) cd_114).trans dX8_factor_38
theorem e114_39 : decode (ma_cd 114) 39 = .ok (.putfield 45, 3) := (congrArg (fun b => decode b 39) cd_114).trans dX8_factor_39
theorem e114_42 : decode (ma_cd 114) 42 = .ok (.aload_n 0, 1) := (congrArg (fun b => decode b 42) cd_114).trans dX8_factor_42
theorem e114_43 : decode (ma_cd 114) 43 = .ok (.dup, 1) := (congrArg (fun b => decode b 43) cd_114).trans dX8_factor_43
theorem e114_44 : decode (ma_cd 114) 44 = .ok (.getfield 69, 3) := (congrArg (fun b => decode b 44) cd_114).trans dX8_factor_44
theorem e114_47 : decode (ma_cd 114) 47 = .ok (.iconst 1, 1) := (congrArg (fun b => decode b 47) cd_114).trans dX8_factor_47
theorem e114_48 : decode (ma_cd 114) 48 = .ok (.iadd, 1) := (congrArg (fun b => decode b 48) cd_114).trans dX8_factor_48
theorem e114_49 : decode (ma_cd 114) 49 = .ok (.putfield 69, 3) := (congrArg (fun b => decode b 49) cd_114).trans dX8_factor_49
theorem e114_52 : decode (ma_cd 114) 52 = .ok (.aload_n 0, 1) := (congrArg (fun b => decode b 52) cd_114).trans dX8_factor_52
theorem e114_53 : decode (ma_cd 114) 53 = .ok (.dup, 1) := (congrArg (fun b => decode b 53) cd_114).trans dX8_factor_53
theorem e114_54 : decode (ma_cd 114) 54 = .ok (.getfield 39, 3) := (congrArg (fun b => decode b 54) cd_114).trans dX8_factor_54
theorem e114_57 : decode (ma_cd 114) 57 = .ok (.aload_n 0, 1) := (congrArg (fun b => decode b 57) cd_114).trans dX8_factor_57
theorem e114_58 : decode (ma_cd 114) 58 = .ok (.getfield 45, 3) := (congrArg (fun b => decode b 58) cd_114).trans dX8_factor_58
theorem e114_61 : decode (ma_cd 114) 61 = .ok (.ifCond .eq 7, 3) := (congrArg (fun b => decode b 61) cd_114).trans dX8_factor_61
theorem e114_64 : decode (ma_cd 114) 64 = .ok (.iconst 0, 1) := (congrArg (fun b => decode b 64) cd_114).trans dX8_factor_64
theorem e114_65 : decode (ma_cd 114) 65 = .ok (.goto 4, 3) := (congrArg (fun b => decode b 65) cd_114).trans dX8_factor_65
theorem e114_68 : decode (ma_cd 114) 68 = .ok (.iconst 1, 1) := (congrArg (fun b => decode b 68) cd_114).trans dX8_factor_68
theorem e114_69 : decode (ma_cd 114) 69 = .ok (.iadd, 1) := (congrArg (fun b => decode b 69) cd_114).trans dX8_factor_69
theorem e114_70 : decode (ma_cd 114) 70 = .ok (.putfield 39, 3) := (congrArg (fun b => decode b 70) cd_114).trans dX8_factor_70
theorem e114_73 : decode (ma_cd 114) 73 = .ok (.iload_n 1, 1) := (congrArg (fun b => decode b 73) cd_114).trans dX8_factor_73
theorem e114_74 : decode (ma_cd 114) 74 = .ok (.bipush 33, 2) := (congrArg (fun b => decode b 74) cd_114).trans dX8_factor_74
theorem e114_76 : decode (ma_cd 114) 76 = .ok (.if_icmp .ne 15, 3) := (congrArg (fun b => decode b 76) cd_114).trans dX8_factor_76
theorem e114_79 : decode (ma_cd 114) 79 = .ok (.aload_n 0, 1) := (congrArg (fun b => decode b 79) cd_114).trans dX8_factor_79
theorem e114_80 : decode (ma_cd 114) 80 = .ok (.invokevirtual 72, 3) := (congrArg (fun b => decode b 80) cd_114).trans dX8_factor_80
theorem e114_83 : decode (ma_cd 114) 83 = .ok (.aload_n 0, 1) := (congrArg (fun b => decode b 83) cd_114).trans dX8_factor_83
theorem e114_84 : decode (ma_cd 114) 84 = .ok (.iconst (-1), 1) := (congrArg (fun b => decode b 84) cd_114).trans dX8_factor_84
theorem e114_85 : decode (ma_cd 114) 85 = .ok (.invokevirtual 75, 3) := (congrArg (fun b => decode b 85) cd_114).trans dX8_factor_85
theorem e114_88 : decode (ma_cd 114) 88 = .ok (.goto 13, 3) := (congrArg (fun b => decode b 88) cd_114).trans dX8_factor_88
theorem e114_91 : decode (ma_cd 114) 91 = .ok (.aload_n 0, 1) := (congrArg (fun b => decode b 91) cd_114).trans dX8_factor_91
theorem e114_92 : decode (ma_cd 114) 92 = .ok (.invokevirtual 78, 3) := (congrArg (fun b => decode b 92) cd_114).trans dX8_factor_92
theorem e114_95 : decode (ma_cd 114) 95 = .ok (.aload_n 0, 1) := (congrArg (fun b => decode b 95) cd_114).trans dX8_factor_95
theorem e114_96 : decode (ma_cd 114) 96 = .ok (.bipush 41, 2) := (congrArg (fun b => decode b 96) cd_114).trans dX8_factor_96
theorem e114_98 : decode (ma_cd 114) 98 = .ok (.invokevirtual 62, 3) := (congrArg (fun b => decode b 98) cd_114).trans dX8_factor_98
theorem e114_101 : decode (ma_cd 114) 101 = .ok (.aload_n 0, 1) := (congrArg (fun b => decode b 101) cd_114).trans dX8_factor_101
theorem e114_102 : decode (ma_cd 114) 102 = .ok (.dup, 1) := (congrArg (fun b => decode b 102) cd_114).trans dX8_factor_102
theorem e114_103 : decode (ma_cd 114) 103 = .ok (.getfield 69, 3) := (congrArg (fun b => decode b 103) cd_114).trans dX8_factor_103
theorem e114_106 : decode (ma_cd 114) 106 = .ok (.iconst 1, 1) := (congrArg (fun b => decode b 106) cd_114).trans dX8_factor_106
theorem e114_107 : decode (ma_cd 114) 107 = .ok (.isub, 1) := (congrArg (fun b => decode b 107) cd_114).trans dX8_factor_107
theorem e114_108 : decode (ma_cd 114) 108 = .ok (.putfield 69, 3) := (congrArg (fun b => decode b 108) cd_114).trans dX8_factor_108
theorem e114_111 : decode (ma_cd 114) 111 = .ok (.return_, 1) := (congrArg (fun b => decode b 111) cd_114).trans dX8_factor_111
theorem e114_112 : decode (ma_cd 114) 112 = .ok (.aload_n 0, 1) := (congrArg (fun b => decode b 112) cd_114).trans dX8_factor_112
theorem e114_113 : decode (ma_cd 114) 113 = .ok (.ldc 81, 2) := (congrArg (fun b => decode b 113) cd_114).trans dX8_factor_113
theorem e114_115 : decode (ma_cd 114) 115 = .ok (.invokevirtual 83, 3) := (congrArg (fun b => decode b 115) cd_114).trans dX8_factor_115
theorem e114_118 : decode (ma_cd 114) 118 = .ok (.istore_n 2, 1) := (congrArg (fun b => decode b 118) cd_114).trans dX8_factor_118
theorem e114_119 : decode (ma_cd 114) 119 = .ok (.aload_n 0, 1) := (congrArg (fun b => decode b 119) cd_114).trans dX8_factor_119
theorem e114_120 : decode (ma_cd 114) 120 = .ok (.iload_n 2, 1) := (congrArg (fun b => decode b 120) cd_114).trans dX8_factor_120
theorem e114_121 : decode (ma_cd 114) 121 = .ok (.iconst (-1), 1) := (congrArg (fun b => decode b 121) cd_114).trans dX8_factor_121
theorem e114_122 : decode (ma_cd 114) 122 = .ok (.if_icmp .ne 7, 3) := (congrArg (fun b => decode b 122) cd_114).trans dX8_factor_122
theorem e114_125 : decode (ma_cd 114) 125 = .ok (.iconst 1, 1) := (congrArg (fun b => decode b 125) cd_114).trans dX8_factor_125
theorem e114_126 : decode (ma_cd 114) 126 = .ok (.goto 4, 3) := (congrArg (fun b => decode b 126) cd_114).trans dX8_factor_126
theorem e114_129 : decode (ma_cd 114) 129 = .ok (.iconst 0, 1) := (congrArg (fun b => decode b 129) cd_114).trans dX8_factor_129
theorem e114_130 : decode (ma_cd 114) 130 = .ok (.putfield 45, 3) := (congrArg (fun b => decode b 130) cd_114).trans dX8_factor_130
theorem e114_133 : decode (ma_cd 114) 133 = .ok (.aload_n 0, 1) := (congrArg (fun b => decode b 133) cd_114).trans dX8_factor_133
theorem e114_134 : decode (ma_cd 114) 134 = .ok (.getfield 45, 3) := (congrArg (fun b => decode b 134) cd_114).trans dX8_factor_134
theorem e114_137 : decode (ma_cd 114) 137 = .ok (.ifCond .eq 7, 3) := (congrArg (fun b => decode b 137) cd_114).trans dX8_factor_137
theorem e114_140 : decode (ma_cd 114) 140 = .ok (.iconst 0, 1) := (congrArg (fun b => decode b 140) cd_114).trans dX8_factor_140
theorem e114_141 : decode (ma_cd 114) 141 = .ok (.goto 9, 3) := (congrArg (fun b => decode b 141) cd_114).trans dX8_factor_141
theorem e114_144 : decode (ma_cd 114) 144 = .ok (.aload_n 0, 1) := (congrArg (fun b => decode b 144) cd_114).trans dX8_factor_144
theorem e114_145 : decode (ma_cd 114) 145 = .ok (.ldc 87, 2) := (congrArg (fun b => decode b 145) cd_114).trans dX8_factor_145
theorem e114_147 : decode (ma_cd 114) 147 = .ok (.invokevirtual 83, 3) := (congrArg (fun b => decode b 147) cd_114).trans dX8_factor_147
theorem e114_150 : decode (ma_cd 114) 150 = .ok (.istore_n 3, 1) := (congrArg (fun b => decode b 150) cd_114).trans dX8_factor_150
theorem e114_151 : decode (ma_cd 114) 151 = .ok (.aload_n 0, 1) := (congrArg (fun b => decode b 151) cd_114).trans dX8_factor_151
theorem e114_152 : decode (ma_cd 114) 152 = .ok (.aload_n 0, 1) := (congrArg (fun b => decode b 152) cd_114).trans dX8_factor_152
theorem e114_153 : decode (ma_cd 114) 153 = .ok (.getfield 45, 3) := (congrArg (fun b => decode b 153) cd_114).trans dX8_factor_153
theorem e114_156 : decode (ma_cd 114) 156 = .ok (.ifCond .ne 8, 3) := (congrArg (fun b => decode b 156) cd_114).trans dX8_factor_156
theorem e114_159 : decode (ma_cd 114) 159 = .ok (.iload_n 3, 1) := (congrArg (fun b => decode b 159) cd_114).trans dX8_factor_159
theorem e114_160 : decode (ma_cd 114) 160 = .ok (.iconst (-1), 1) := (congrArg (fun b => decode b 160) cd_114).trans dX8_factor_160
theorem e114_161 : decode (ma_cd 114) 161 = .ok (.if_icmp .ne 7, 3) := (congrArg (fun b => decode b 161) cd_114).trans dX8_factor_161
theorem e114_164 : decode (ma_cd 114) 164 = .ok (.iconst 1, 1) := (congrArg (fun b => decode b 164) cd_114).trans dX8_factor_164
theorem e114_165 : decode (ma_cd 114) 165 = .ok (.goto 4, 3) := (congrArg (fun b => decode b 165) cd_114).trans dX8_factor_165
theorem e114_168 : decode (ma_cd 114) 168 = .ok (.iconst 0, 1) := (congrArg (fun b => decode b 168) cd_114).trans dX8_factor_168
theorem e114_169 : decode (ma_cd 114) 169 = .ok (.putfield 45, 3) := (congrArg (fun b => decode b 169) cd_114).trans dX8_factor_169
theorem e114_172 : decode (ma_cd 114) 172 = .ok (.aload_n 0, 1) := (congrArg (fun b => decode b 172) cd_114).trans dX8_factor_172
theorem e114_173 : decode (ma_cd 114) 173 = .ok (.invokevirtual 89, 3) := (congrArg (fun b => decode b 173) cd_114).trans dX8_factor_173
theorem e114_176 : decode (ma_cd 114) 176 = .ok (.istore 4, 2) := (congrArg (fun b => decode b 176) cd_114).trans dX8_factor_176
theorem e114_178 : decode (ma_cd 114) 178 = .ok (.aload_n 0, 1) := (congrArg (fun b => decode b 178) cd_114).trans dX8_factor_178
theorem e114_179 : decode (ma_cd 114) 179 = .ok (.iload_n 2, 1) := (congrArg (fun b => decode b 179) cd_114).trans dX8_factor_179
theorem e114_180 : decode (ma_cd 114) 180 = .ok (.bipush 8, 2) := (congrArg (fun b => decode b 180) cd_114).trans dX8_factor_180
theorem e114_182 : decode (ma_cd 114) 182 = .ok (.iload_n 3, 1) := (congrArg (fun b => decode b 182) cd_114).trans dX8_factor_182
theorem e114_183 : decode (ma_cd 114) 183 = .ok (.imul, 1) := (congrArg (fun b => decode b 183) cd_114).trans dX8_factor_183
theorem e114_184 : decode (ma_cd 114) 184 = .ok (.iadd, 1) := (congrArg (fun b => decode b 184) cd_114).trans dX8_factor_184
theorem e114_185 : decode (ma_cd 114) 185 = .ok (.bipush 32, 2) := (congrArg (fun b => decode b 185) cd_114).trans dX8_factor_185
theorem e114_187 : decode (ma_cd 114) 187 = .ok (.iload 4, 2) := (congrArg (fun b => decode b 187) cd_114).trans dX8_factor_187
theorem e114_189 : decode (ma_cd 114) 189 = .ok (.imul, 1) := (congrArg (fun b => decode b 189) cd_114).trans dX8_factor_189
theorem e114_190 : decode (ma_cd 114) 190 = .ok (.iadd, 1) := (congrArg (fun b => decode b 190) cd_114).trans dX8_factor_190
theorem e114_191 : decode (ma_cd 114) 191 = .ok (.invokevirtual 75, 3) := (congrArg (fun b => decode b 191) cd_114).trans dX8_factor_191
theorem e114_194 : decode (ma_cd 114) 194 = .ok (.return_, 1) := (congrArg (fun b => decode b 194) cd_114).trans dX8_factor_194
theorem S114 {ro : ma_RO} {d : Nat} : (∀ (v1 : Option Value) (v2 : Option Value) (v3 : Option Value) (v4 : Option Value) (a1 : Nat) (st : List Value) (σ : ma_H), ma_rn ro d 114 (0, [some (.ref a1), v1, v2, v3, v4], st, SH, σ) = ma_rn ro d 114 (1, [some (.ref a1), v1, v2, v3, v4], .ref a1 :: st, SH, σ)) ∧
  (∀ (v0 : Option Value) (v1 : Option Value) (v2 : Option Value) (v3 : Option Value) (v4 : Option Value) (a1 : Nat) (st : List Value) (σ : ma_H) (hc : hk_cls a1 = 8), ma_rn ro d 114 (1, [v0, v1, v2, v3, v4], .ref a1 :: st, SH, σ) = ma_rn ro d 114 (4, [v0, v1, v2, v3, v4], .int (σ a1 8) :: st, SH, σ)) ∧
  (∀ (v0 : Option Value) (v1 : Option Value) (v2 : Option Value) (v3 : Option Value) (v4 : Option Value) (x1 : Int32) (st : List Value) (σ : ma_H), ma_rn ro d 114 (4, [v0, v1, v2, v3, v4], .int x1 :: st, SH, σ) = if x1 = nI 0 then ma_rn ro d 114 (8, [v0, v1, v2, v3, v4], st, SH, σ) else ma_rn ro d 114 (7, [v0, v1, v2, v3, v4], st, SH, σ)) ∧
  (∀ (v0 : Option Value) (v1 : Option Value) (v2 : Option Value) (v3 : Option Value) (v4 : Option Value) (σ : ma_H), ma_rn ro d 114 (7, [v0, v1, v2, v3, v4], [], SH, σ) = some (none, SH, σ)) ∧
  (∀ (v1 : Option Value) (v2 : Option Value) (v3 : Option Value) (v4 : Option Value) (a1 : Nat) (st : List Value) (σ : ma_H), ma_rn ro d 114 (8, [some (.ref a1), v1, v2, v3, v4], st, SH, σ) = ma_rn ro d 114 (9, [some (.ref a1), v1, v2, v3, v4], .ref a1 :: st, SH, σ)) ∧
  (∀ (v0 : Option Value) (v1 : Option Value) (v2 : Option Value) (v3 : Option Value) (v4 : Option Value) (a0 : Nat) (σ : ma_H) (hc : hk_cls a0 = 8), ma_rn ro (d + 1) 114 (9, [v0, v1, v2, v3, v4], .ref a0 :: [], SH, σ) = (ma_ev ro d 108 [.ref a0] SH σ).bind (fun q => ma_rn ro (d + 1) 114 (12, [v0, v1, v2, v3, v4], (q.1.toList ++ []), q.2.1, q.2.2))) ∧
  (∀ (v1 : Option Value) (v2 : Option Value) (v3 : Option Value) (v4 : Option Value) (a9 : Nat) (x1 : Int32) (st : List Value) (σ : ma_H), ma_rn ro d 114 (12, [some (.ref a9), v1, v2, v3, v4], .int x1 :: st, SH, σ) = ma_rn ro d 114 (13, [some (.ref a9), some (.int x1), v2, v3, v4], st, SH, σ)) ∧
  (∀ (v0 : Option Value) (v2 : Option Value) (v3 : Option Value) (v4 : Option Value) (x1 : Int32) (st : List Value) (σ : ma_H), ma_rn ro d 114 (13, [v0, some (.int x1), v2, v3, v4], st, SH, σ) = ma_rn ro d 114 (14, [v0, some (.int x1), v2, v3, v4], .int x1 :: st, SH, σ)) ∧
  (∀ (v0 : Option Value) (v1 : Option Value) (v2 : Option Value) (v3 : Option Value) (v4 : Option Value) (st : List Value) (σ : ma_H), ma_rn ro d 114 (14, [v0, v1, v2, v3, v4], st, SH, σ) = ma_rn ro d 114 (16, [v0, v1, v2, v3, v4], .int (nI 33) :: st, SH, σ)) ∧
  (∀ (v0 : Option Value) (v1 : Option Value) (v2 : Option Value) (v3 : Option Value) (v4 : Option Value) (x1 : Int32) (x2 : Int32) (st : List Value) (σ : ma_H), ma_rn ro d 114 (16, [v0, v1, v2, v3, v4], .int x1 :: .int x2 :: st, SH, σ) = if x2 = x1 then ma_rn ro d 114 (25, [v0, v1, v2, v3, v4], st, SH, σ) else ma_rn ro d 114 (19, [v0, v1, v2, v3, v4], st, SH, σ)) ∧
  (∀ (v0 : Option Value) (v2 : Option Value) (v3 : Option Value) (v4 : Option Value) (x1 : Int32) (st : List Value) (σ : ma_H), ma_rn ro d 114 (19, [v0, some (.int x1), v2, v3, v4], st, SH, σ) = ma_rn ro d 114 (20, [v0, some (.int x1), v2, v3, v4], .int x1 :: st, SH, σ)) ∧
  (∀ (v0 : Option Value) (v1 : Option Value) (v2 : Option Value) (v3 : Option Value) (v4 : Option Value) (st : List Value) (σ : ma_H), ma_rn ro d 114 (20, [v0, v1, v2, v3, v4], st, SH, σ) = ma_rn ro d 114 (22, [v0, v1, v2, v3, v4], .int (nI 40) :: st, SH, σ)) ∧
  (∀ (v0 : Option Value) (v1 : Option Value) (v2 : Option Value) (v3 : Option Value) (v4 : Option Value) (x1 : Int32) (x2 : Int32) (st : List Value) (σ : ma_H), ma_rn ro d 114 (22, [v0, v1, v2, v3, v4], .int x1 :: .int x2 :: st, SH, σ) = if x2 = x1 then ma_rn ro d 114 (25, [v0, v1, v2, v3, v4], st, SH, σ) else ma_rn ro d 114 (112, [v0, v1, v2, v3, v4], st, SH, σ)) ∧
  (∀ (v1 : Option Value) (v2 : Option Value) (v3 : Option Value) (v4 : Option Value) (a1 : Nat) (st : List Value) (σ : ma_H), ma_rn ro d 114 (25, [some (.ref a1), v1, v2, v3, v4], st, SH, σ) = ma_rn ro d 114 (26, [some (.ref a1), v1, v2, v3, v4], .ref a1 :: st, SH, σ)) ∧
  (∀ (v1 : Option Value) (v2 : Option Value) (v3 : Option Value) (v4 : Option Value) (a1 : Nat) (st : List Value) (σ : ma_H), ma_rn ro d 114 (26, [some (.ref a1), v1, v2, v3, v4], st, SH, σ) = ma_rn ro d 114 (27, [some (.ref a1), v1, v2, v3, v4], .ref a1 :: st, SH, σ)) ∧
  (∀ (v0 : Option Value) (v1 : Option Value) (v2 : Option Value) (v3 : Option Value) (v4 : Option Value) (a1 : Nat) (st : List Value) (σ : ma_H) (hc : hk_cls a1 = 8), ma_rn ro d 114 (27, [v0, v1, v2, v3, v4], .ref a1 :: st, SH, σ) = ma_rn ro d 114 (30, [v0, v1, v2, v3, v4], .int (σ a1 9) :: st, SH, σ)) ∧
  (∀ (v0 : Option Value) (v1 : Option Value) (v2 : Option Value) (v3 : Option Value) (v4 : Option Value) (st : List Value) (σ : ma_H), ma_rn ro d 114 (30, [v0, v1, v2, v3, v4], st, SH, σ) = ma_rn ro d 114 (31, [v0, v1, v2, v3, v4], .int (nI 5) :: st, SH, σ)) ∧
  (∀ (v0 : Option Value) (v1 : Option Value) (v2 : Option Value) (v3 : Option Value) (v4 : Option Value) (x1 : Int32) (x2 : Int32) (st : List Value) (σ : ma_H), ma_rn ro d 114 (31, [v0, v1, v2, v3, v4], .int x1 :: .int x2 :: st, SH, σ) = if x2 = x1 then ma_rn ro d 114 (34, [v0, v1, v2, v3, v4], st, SH, σ) else ma_rn ro d 114 (38, [v0, v1, v2, v3, v4], st, SH, σ)) ∧
  (∀ (v0 : Option Value) (v1 : Option Value) (v2 : Option Value) (v3 : Option Value) (v4 : Option Value) (st : List Value) (σ : ma_H), ma_rn ro d 114 (34, [v0, v1, v2, v3, v4], st, SH, σ) = ma_rn ro d 114 (35, [v0, v1, v2, v3, v4], .int (nI 1) :: st, SH, σ)) ∧
  (∀ (v0 : Option Value) (v1 : Option Value) (v2 : Option Value) (v3 : Option Value) (v4 : Option Value) (st : List Value) (σ : ma_H), ma_rn ro d 114 (35, [v0, v1, v2, v3, v4], st, SH, σ) = ma_rn ro d 114 (39, [v0, v1, v2, v3, v4], st, SH, σ)) ∧
  (∀ (v0 : Option Value) (v1 : Option Value) (v2 : Option Value) (v3 : Option Value) (v4 : Option Value) (st : List Value) (σ : ma_H), ma_rn ro d 114 (38, [v0, v1, v2, v3, v4], st, SH, σ) = ma_rn ro d 114 (39, [v0, v1, v2, v3, v4], .int (nI 0) :: st, SH, σ)) ∧
  (∀ (v0 : Option Value) (v1 : Option Value) (v2 : Option Value) (v3 : Option Value) (v4 : Option Value) (x1 : Int32) (a2 : Nat) (st : List Value) (σ : ma_H) (hx : ma_fitI .boolean x1 = true) (hc : hk_cls a2 = 8), ma_rn ro d 114 (39, [v0, v1, v2, v3, v4], .int x1 :: .ref a2 :: st, SH, σ) = ma_rn ro d 114 (42, [v0, v1, v2, v3, v4], st, SH, (ma_up σ a2 8 x1))) ∧
  (∀ (v1 : Option Value) (v2 : Option Value) (v3 : Option Value) (v4 : Option Value) (a1 : Nat) (st : List Value) (σ : ma_H), ma_rn ro d 114 (42, [some (.ref a1), v1, v2, v3, v4], st, SH, σ) = ma_rn ro d 114 (43, [some (.ref a1), v1, v2, v3, v4], .ref a1 :: st, SH, σ)) ∧
  (∀ (v0 : Option Value) (v1 : Option Value) (v2 : Option Value) (v3 : Option Value) (v4 : Option Value) (a1 : Nat) (st : List Value) (σ : ma_H), ma_rn ro d 114 (43, [v0, v1, v2, v3, v4], .ref a1 :: st, SH, σ) = ma_rn ro d 114 (44, [v0, v1, v2, v3, v4], .ref a1 :: .ref a1 :: st, SH, σ)) ∧
  (∀ (v0 : Option Value) (v1 : Option Value) (v2 : Option Value) (v3 : Option Value) (v4 : Option Value) (a1 : Nat) (st : List Value) (σ : ma_H) (hc : hk_cls a1 = 8), ma_rn ro d 114 (44, [v0, v1, v2, v3, v4], .ref a1 :: st, SH, σ) = ma_rn ro d 114 (47, [v0, v1, v2, v3, v4], .int (σ a1 9) :: st, SH, σ)) ∧
  (∀ (v0 : Option Value) (v1 : Option Value) (v2 : Option Value) (v3 : Option Value) (v4 : Option Value) (st : List Value) (σ : ma_H), ma_rn ro d 114 (47, [v0, v1, v2, v3, v4], st, SH, σ) = ma_rn ro d 114 (48, [v0, v1, v2, v3, v4], .int (nI 1) :: st, SH, σ)) ∧
  (∀ (v0 : Option Value) (v1 : Option Value) (v2 : Option Value) (v3 : Option Value) (v4 : Option Value) (x1 : Int32) (x2 : Int32) (st : List Value) (σ : ma_H), ma_rn ro d 114 (48, [v0, v1, v2, v3, v4], .int x1 :: .int x2 :: st, SH, σ) = ma_rn ro d 114 (49, [v0, v1, v2, v3, v4], .int (x2 + x1) :: st, SH, σ)) ∧
  (∀ (v0 : Option Value) (v1 : Option Value) (v2 : Option Value) (v3 : Option Value) (v4 : Option Value) (x1 : Int32) (a2 : Nat) (st : List Value) (σ : ma_H) (hc : hk_cls a2 = 8), ma_rn ro d 114 (49, [v0, v1, v2, v3, v4], .int x1 :: .ref a2 :: st, SH, σ) = ma_rn ro d 114 (52, [v0, v1, v2, v3, v4], st, SH, (ma_up σ a2 9 x1))) ∧
  (∀ (v1 : Option Value) (v2 : Option Value) (v3 : Option Value) (v4 : Option Value) (a1 : Nat) (st : List Value) (σ : ma_H), ma_rn ro d 114 (52, [some (.ref a1), v1, v2, v3, v4], st, SH, σ) = ma_rn ro d 114 (53, [some (.ref a1), v1, v2, v3, v4], .ref a1 :: st, SH, σ)) ∧
  (∀ (v0 : Option Value) (v1 : Option Value) (v2 : Option Value) (v3 : Option Value) (v4 : Option Value) (a1 : Nat) (st : List Value) (σ : ma_H), ma_rn ro d 114 (53, [v0, v1, v2, v3, v4], .ref a1 :: st, SH, σ) = ma_rn ro d 114 (54, [v0, v1, v2, v3, v4], .ref a1 :: .ref a1 :: st, SH, σ)) ∧
  (∀ (v0 : Option Value) (v1 : Option Value) (v2 : Option Value) (v3 : Option Value) (v4 : Option Value) (a1 : Nat) (st : List Value) (σ : ma_H) (hc : hk_cls a1 = 8), ma_rn ro d 114 (54, [v0, v1, v2, v3, v4], .ref a1 :: st, SH, σ) = ma_rn ro d 114 (57, [v0, v1, v2, v3, v4], .int (σ a1 6) :: st, SH, σ)) ∧
  (∀ (v1 : Option Value) (v2 : Option Value) (v3 : Option Value) (v4 : Option Value) (a1 : Nat) (st : List Value) (σ : ma_H), ma_rn ro d 114 (57, [some (.ref a1), v1, v2, v3, v4], st, SH, σ) = ma_rn ro d 114 (58, [some (.ref a1), v1, v2, v3, v4], .ref a1 :: st, SH, σ)) ∧
  (∀ (v0 : Option Value) (v1 : Option Value) (v2 : Option Value) (v3 : Option Value) (v4 : Option Value) (a1 : Nat) (st : List Value) (σ : ma_H) (hc : hk_cls a1 = 8), ma_rn ro d 114 (58, [v0, v1, v2, v3, v4], .ref a1 :: st, SH, σ) = ma_rn ro d 114 (61, [v0, v1, v2, v3, v4], .int (σ a1 8) :: st, SH, σ)) ∧
  (∀ (v0 : Option Value) (v1 : Option Value) (v2 : Option Value) (v3 : Option Value) (v4 : Option Value) (x1 : Int32) (st : List Value) (σ : ma_H), ma_rn ro d 114 (61, [v0, v1, v2, v3, v4], .int x1 :: st, SH, σ) = if x1 = nI 0 then ma_rn ro d 114 (68, [v0, v1, v2, v3, v4], st, SH, σ) else ma_rn ro d 114 (64, [v0, v1, v2, v3, v4], st, SH, σ)) ∧
  (∀ (v0 : Option Value) (v1 : Option Value) (v2 : Option Value) (v3 : Option Value) (v4 : Option Value) (st : List Value) (σ : ma_H), ma_rn ro d 114 (64, [v0, v1, v2, v3, v4], st, SH, σ) = ma_rn ro d 114 (65, [v0, v1, v2, v3, v4], .int (nI 0) :: st, SH, σ)) ∧
  (∀ (v0 : Option Value) (v1 : Option Value) (v2 : Option Value) (v3 : Option Value) (v4 : Option Value) (st : List Value) (σ : ma_H), ma_rn ro d 114 (65, [v0, v1, v2, v3, v4], st, SH, σ) = ma_rn ro d 114 (69, [v0, v1, v2, v3, v4], st, SH, σ)) ∧
  (∀ (v0 : Option Value) (v1 : Option Value) (v2 : Option Value) (v3 : Option Value) (v4 : Option Value) (st : List Value) (σ : ma_H), ma_rn ro d 114 (68, [v0, v1, v2, v3, v4], st, SH, σ) = ma_rn ro d 114 (69, [v0, v1, v2, v3, v4], .int (nI 1) :: st, SH, σ)) ∧
  (∀ (v0 : Option Value) (v1 : Option Value) (v2 : Option Value) (v3 : Option Value) (v4 : Option Value) (x1 : Int32) (x2 : Int32) (st : List Value) (σ : ma_H), ma_rn ro d 114 (69, [v0, v1, v2, v3, v4], .int x1 :: .int x2 :: st, SH, σ) = ma_rn ro d 114 (70, [v0, v1, v2, v3, v4], .int (x2 + x1) :: st, SH, σ)) ∧
  (∀ (v0 : Option Value) (v1 : Option Value) (v2 : Option Value) (v3 : Option Value) (v4 : Option Value) (x1 : Int32) (a2 : Nat) (st : List Value) (σ : ma_H) (hc : hk_cls a2 = 8), ma_rn ro d 114 (70, [v0, v1, v2, v3, v4], .int x1 :: .ref a2 :: st, SH, σ) = ma_rn ro d 114 (73, [v0, v1, v2, v3, v4], st, SH, (ma_up σ a2 6 x1))) ∧
  (∀ (v0 : Option Value) (v2 : Option Value) (v3 : Option Value) (v4 : Option Value) (x1 : Int32) (st : List Value) (σ : ma_H), ma_rn ro d 114 (73, [v0, some (.int x1), v2, v3, v4], st, SH, σ) = ma_rn ro d 114 (74, [v0, some (.int x1), v2, v3, v4], .int x1 :: st, SH, σ)) ∧
  (∀ (v0 : Option Value) (v1 : Option Value) (v2 : Option Value) (v3 : Option Value) (v4 : Option Value) (st : List Value) (σ : ma_H), ma_rn ro d 114 (74, [v0, v1, v2, v3, v4], st, SH, σ) = ma_rn ro d 114 (76, [v0, v1, v2, v3, v4], .int (nI 33) :: st, SH, σ)) ∧
  (∀ (v0 : Option Value) (v1 : Option Value) (v2 : Option Value) (v3 : Option Value) (v4 : Option Value) (x1 : Int32) (x2 : Int32) (st : List Value) (σ : ma_H), ma_rn ro d 114 (76, [v0, v1, v2, v3, v4], .int x1 :: .int x2 :: st, SH, σ) = if x2 = x1 then ma_rn ro d 114 (79, [v0, v1, v2, v3, v4], st, SH, σ) else ma_rn ro d 114 (91, [v0, v1, v2, v3, v4], st, SH, σ)) ∧
  (∀ (v1 : Option Value) (v2 : Option Value) (v3 : Option Value) (v4 : Option Value) (a1 : Nat) (st : List Value) (σ : ma_H), ma_rn ro d 114 (79, [some (.ref a1), v1, v2, v3, v4], st, SH, σ) = ma_rn ro d 114 (80, [some (.ref a1), v1, v2, v3, v4], .ref a1 :: st, SH, σ)) ∧
  (∀ (v0 : Option Value) (v1 : Option Value) (v2 : Option Value) (v3 : Option Value) (v4 : Option Value) (a0 : Nat) (σ : ma_H) (hc : hk_cls a0 = 8), ma_rn ro (d + 1) 114 (80, [v0, v1, v2, v3, v4], .ref a0 :: [], SH, σ) = (ma_ev ro d 114 [.ref a0] SH σ).bind (fun q => ma_rn ro (d + 1) 114 (83, [v0, v1, v2, v3, v4], (q.1.toList ++ []), q.2.1, q.2.2))) ∧
  (∀ (v1 : Option Value) (v2 : Option Value) (v3 : Option Value) (v4 : Option Value) (a1 : Nat) (st : List Value) (σ : ma_H), ma_rn ro d 114 (83, [some (.ref a1), v1, v2, v3, v4], st, SH, σ) = ma_rn ro d 114 (84, [some (.ref a1), v1, v2, v3, v4], .ref a1 :: st, SH, σ)) ∧
  (∀ (v0 : Option Value) (v1 : Option Value) (v2 : Option Value) (v3 : Option Value) (v4 : Option Value) (st : List Value) (σ : ma_H), ma_rn ro d 114 (84, [v0, v1, v2, v3, v4], st, SH, σ) = ma_rn ro d 114 (85, [v0, v1, v2, v3, v4], .int ((-1)) :: st, SH, σ)) ∧
  (∀ (v0 : Option Value) (v1 : Option Value) (v2 : Option Value) (v3 : Option Value) (v4 : Option Value) (x1 : Int32) (a0 : Nat) (σ : ma_H) (hc : hk_cls a0 = 8), ma_rn ro (d + 1) 114 (85, [v0, v1, v2, v3, v4], .int x1 :: .ref a0 :: [], SH, σ) = (ma_ev ro d 113 [.ref a0, .int x1] SH σ).bind (fun q => ma_rn ro (d + 1) 114 (88, [v0, v1, v2, v3, v4], (q.1.toList ++ []), q.2.1, q.2.2))) ∧
  (∀ (v0 : Option Value) (v1 : Option Value) (v2 : Option Value) (v3 : Option Value) (v4 : Option Value) (st : List Value) (σ : ma_H), ma_rn ro d 114 (88, [v0, v1, v2, v3, v4], st, SH, σ) = ma_rn ro d 114 (101, [v0, v1, v2, v3, v4], st, SH, σ)) ∧
  (∀ (v1 : Option Value) (v2 : Option Value) (v3 : Option Value) (v4 : Option Value) (a1 : Nat) (st : List Value) (σ : ma_H), ma_rn ro d 114 (91, [some (.ref a1), v1, v2, v3, v4], st, SH, σ) = ma_rn ro d 114 (92, [some (.ref a1), v1, v2, v3, v4], .ref a1 :: st, SH, σ)) ∧
  (∀ (v0 : Option Value) (v1 : Option Value) (v2 : Option Value) (v3 : Option Value) (v4 : Option Value) (a0 : Nat) (σ : ma_H) (hc : hk_cls a0 = 8), ma_rn ro (d + 1) 114 (92, [v0, v1, v2, v3, v4], .ref a0 :: [], SH, σ) = (ma_ev ro d 116 [.ref a0] SH σ).bind (fun q => ma_rn ro (d + 1) 114 (95, [v0, v1, v2, v3, v4], (q.1.toList ++ []), q.2.1, q.2.2))) ∧
  (∀ (v1 : Option Value) (v2 : Option Value) (v3 : Option Value) (v4 : Option Value) (a1 : Nat) (st : List Value) (σ : ma_H), ma_rn ro d 114 (95, [some (.ref a1), v1, v2, v3, v4], st, SH, σ) = ma_rn ro d 114 (96, [some (.ref a1), v1, v2, v3, v4], .ref a1 :: st, SH, σ)) ∧
  (∀ (v0 : Option Value) (v1 : Option Value) (v2 : Option Value) (v3 : Option Value) (v4 : Option Value) (st : List Value) (σ : ma_H), ma_rn ro d 114 (96, [v0, v1, v2, v3, v4], st, SH, σ) = ma_rn ro d 114 (98, [v0, v1, v2, v3, v4], .int (nI 41) :: st, SH, σ)) ∧
  (∀ (v0 : Option Value) (v1 : Option Value) (v2 : Option Value) (v3 : Option Value) (v4 : Option Value) (x1 : Int32) (a0 : Nat) (σ : ma_H) (hc : hk_cls a0 = 8), ma_rn ro (d + 1) 114 (98, [v0, v1, v2, v3, v4], .int x1 :: .ref a0 :: [], SH, σ) = (ma_ev ro d 109 [.ref a0, .int x1] SH σ).bind (fun q => ma_rn ro (d + 1) 114 (101, [v0, v1, v2, v3, v4], (q.1.toList ++ []), q.2.1, q.2.2))) ∧
  (∀ (v1 : Option Value) (v2 : Option Value) (v3 : Option Value) (v4 : Option Value) (a1 : Nat) (st : List Value) (σ : ma_H), ma_rn ro d 114 (101, [some (.ref a1), v1, v2, v3, v4], st, SH, σ) = ma_rn ro d 114 (102, [some (.ref a1), v1, v2, v3, v4], .ref a1 :: st, SH, σ)) ∧
  (∀ (v0 : Option Value) (v1 : Option Value) (v2 : Option Value) (v3 : Option Value) (v4 : Option Value) (a1 : Nat) (st : List Value) (σ : ma_H), ma_rn ro d 114 (102, [v0, v1, v2, v3, v4], .ref a1 :: st, SH, σ) = ma_rn ro d 114 (103, [v0, v1, v2, v3, v4], .ref a1 :: .ref a1 :: st, SH, σ)) ∧
  (∀ (v0 : Option Value) (v1 : Option Value) (v2 : Option Value) (v3 : Option Value) (v4 : Option Value) (a1 : Nat) (st : List Value) (σ : ma_H) (hc : hk_cls a1 = 8), ma_rn ro d 114 (103, [v0, v1, v2, v3, v4], .ref a1 :: st, SH, σ) = ma_rn ro d 114 (106, [v0, v1, v2, v3, v4], .int (σ a1 9) :: st, SH, σ)) ∧
  (∀ (v0 : Option Value) (v1 : Option Value) (v2 : Option Value) (v3 : Option Value) (v4 : Option Value) (st : List Value) (σ : ma_H), ma_rn ro d 114 (106, [v0, v1, v2, v3, v4], st, SH, σ) = ma_rn ro d 114 (107, [v0, v1, v2, v3, v4], .int (nI 1) :: st, SH, σ)) ∧
  (∀ (v0 : Option Value) (v1 : Option Value) (v2 : Option Value) (v3 : Option Value) (v4 : Option Value) (x1 : Int32) (x2 : Int32) (st : List Value) (σ : ma_H), ma_rn ro d 114 (107, [v0, v1, v2, v3, v4], .int x1 :: .int x2 :: st, SH, σ) = ma_rn ro d 114 (108, [v0, v1, v2, v3, v4], .int (x2 - x1) :: st, SH, σ)) ∧
  (∀ (v0 : Option Value) (v1 : Option Value) (v2 : Option Value) (v3 : Option Value) (v4 : Option Value) (x1 : Int32) (a2 : Nat) (st : List Value) (σ : ma_H) (hc : hk_cls a2 = 8), ma_rn ro d 114 (108, [v0, v1, v2, v3, v4], .int x1 :: .ref a2 :: st, SH, σ) = ma_rn ro d 114 (111, [v0, v1, v2, v3, v4], st, SH, (ma_up σ a2 9 x1))) ∧
  (∀ (v0 : Option Value) (v1 : Option Value) (v2 : Option Value) (v3 : Option Value) (v4 : Option Value) (σ : ma_H), ma_rn ro d 114 (111, [v0, v1, v2, v3, v4], [], SH, σ) = some (none, SH, σ)) ∧
  (∀ (v1 : Option Value) (v2 : Option Value) (v3 : Option Value) (v4 : Option Value) (a1 : Nat) (st : List Value) (σ : ma_H), ma_rn ro d 114 (112, [some (.ref a1), v1, v2, v3, v4], st, SH, σ) = ma_rn ro d 114 (113, [some (.ref a1), v1, v2, v3, v4], .ref a1 :: st, SH, σ)) ∧
  (∀ (v0 : Option Value) (v1 : Option Value) (v2 : Option Value) (v3 : Option Value) (v4 : Option Value) (st : List Value) (σ : ma_H), ma_rn ro d 114 (113, [v0, v1, v2, v3, v4], st, SH, σ) = ma_rn ro d 114 (115, [v0, v1, v2, v3, v4], .ref (1000000 + 4) :: st, SH, σ)) ∧
  (∀ (v0 : Option Value) (v1 : Option Value) (v2 : Option Value) (v3 : Option Value) (v4 : Option Value) (a1 : Nat) (a0 : Nat) (σ : ma_H) (hc : hk_cls a0 = 8), ma_rn ro (d + 1) 114 (115, [v0, v1, v2, v3, v4], .ref a1 :: .ref a0 :: [], SH, σ) = (ma_ev ro d 112 [.ref a0, .ref a1] SH σ).bind (fun q => ma_rn ro (d + 1) 114 (118, [v0, v1, v2, v3, v4], (q.1.toList ++ []), q.2.1, q.2.2))) ∧
  (∀ (v0 : Option Value) (v2 : Option Value) (v3 : Option Value) (v4 : Option Value) (x9 : Int32) (x1 : Int32) (st : List Value) (σ : ma_H), ma_rn ro d 114 (118, [v0, some (.int x9), v2, v3, v4], .int x1 :: st, SH, σ) = ma_rn ro d 114 (119, [v0, some (.int x9), some (.int x1), v3, v4], st, SH, σ)) ∧
  (∀ (v1 : Option Value) (v2 : Option Value) (v3 : Option Value) (v4 : Option Value) (a1 : Nat) (st : List Value) (σ : ma_H), ma_rn ro d 114 (119, [some (.ref a1), v1, v2, v3, v4], st, SH, σ) = ma_rn ro d 114 (120, [some (.ref a1), v1, v2, v3, v4], .ref a1 :: st, SH, σ)) ∧
  (∀ (v0 : Option Value) (v1 : Option Value) (v3 : Option Value) (v4 : Option Value) (x1 : Int32) (st : List Value) (σ : ma_H), ma_rn ro d 114 (120, [v0, v1, some (.int x1), v3, v4], st, SH, σ) = ma_rn ro d 114 (121, [v0, v1, some (.int x1), v3, v4], .int x1 :: st, SH, σ)) ∧
  (∀ (v0 : Option Value) (v1 : Option Value) (v2 : Option Value) (v3 : Option Value) (v4 : Option Value) (st : List Value) (σ : ma_H), ma_rn ro d 114 (121, [v0, v1, v2, v3, v4], st, SH, σ) = ma_rn ro d 114 (122, [v0, v1, v2, v3, v4], .int ((-1)) :: st, SH, σ)) ∧
  (∀ (v0 : Option Value) (v1 : Option Value) (v2 : Option Value) (v3 : Option Value) (v4 : Option Value) (x1 : Int32) (x2 : Int32) (st : List Value) (σ : ma_H), ma_rn ro d 114 (122, [v0, v1, v2, v3, v4], .int x1 :: .int x2 :: st, SH, σ) = if x2 = x1 then ma_rn ro d 114 (125, [v0, v1, v2, v3, v4], st, SH, σ) else ma_rn ro d 114 (129, [v0, v1, v2, v3, v4], st, SH, σ)) ∧
  (∀ (v0 : Option Value) (v1 : Option Value) (v2 : Option Value) (v3 : Option Value) (v4 : Option Value) (st : List Value) (σ : ma_H), ma_rn ro d 114 (125, [v0, v1, v2, v3, v4], st, SH, σ) = ma_rn ro d 114 (126, [v0, v1, v2, v3, v4], .int (nI 1) :: st, SH, σ)) ∧
  (∀ (v0 : Option Value) (v1 : Option Value) (v2 : Option Value) (v3 : Option Value) (v4 : Option Value) (st : List Value) (σ : ma_H), ma_rn ro d 114 (126, [v0, v1, v2, v3, v4], st, SH, σ) = ma_rn ro d 114 (130, [v0, v1, v2, v3, v4], st, SH, σ)) ∧
  (∀ (v0 : Option Value) (v1 : Option Value) (v2 : Option Value) (v3 : Option Value) (v4 : Option Value) (st : List Value) (σ : ma_H), ma_rn ro d 114 (129, [v0, v1, v2, v3, v4], st, SH, σ) = ma_rn ro d 114 (130, [v0, v1, v2, v3, v4], .int (nI 0) :: st, SH, σ)) ∧
  (∀ (v0 : Option Value) (v1 : Option Value) (v2 : Option Value) (v3 : Option Value) (v4 : Option Value) (x1 : Int32) (a2 : Nat) (st : List Value) (σ : ma_H) (hx : ma_fitI .boolean x1 = true) (hc : hk_cls a2 = 8), ma_rn ro d 114 (130, [v0, v1, v2, v3, v4], .int x1 :: .ref a2 :: st, SH, σ) = ma_rn ro d 114 (133, [v0, v1, v2, v3, v4], st, SH, (ma_up σ a2 8 x1))) ∧
  (∀ (v1 : Option Value) (v2 : Option Value) (v3 : Option Value) (v4 : Option Value) (a1 : Nat) (st : List Value) (σ : ma_H), ma_rn ro d 114 (133, [some (.ref a1), v1, v2, v3, v4], st, SH, σ) = ma_rn ro d 114 (134, [some (.ref a1), v1, v2, v3, v4], .ref a1 :: st, SH, σ)) ∧
  (∀ (v0 : Option Value) (v1 : Option Value) (v2 : Option Value) (v3 : Option Value) (v4 : Option Value) (a1 : Nat) (st : List Value) (σ : ma_H) (hc : hk_cls a1 = 8), ma_rn ro d 114 (134, [v0, v1, v2, v3, v4], .ref a1 :: st, SH, σ) = ma_rn ro d 114 (137, [v0, v1, v2, v3, v4], .int (σ a1 8) :: st, SH, σ)) ∧
  (∀ (v0 : Option Value) (v1 : Option Value) (v2 : Option Value) (v3 : Option Value) (v4 : Option Value) (x1 : Int32) (st : List Value) (σ : ma_H), ma_rn ro d 114 (137, [v0, v1, v2, v3, v4], .int x1 :: st, SH, σ) = if x1 = nI 0 then ma_rn ro d 114 (144, [v0, v1, v2, v3, v4], st, SH, σ) else ma_rn ro d 114 (140, [v0, v1, v2, v3, v4], st, SH, σ)) ∧
  (∀ (v0 : Option Value) (v1 : Option Value) (v2 : Option Value) (v3 : Option Value) (v4 : Option Value) (st : List Value) (σ : ma_H), ma_rn ro d 114 (140, [v0, v1, v2, v3, v4], st, SH, σ) = ma_rn ro d 114 (141, [v0, v1, v2, v3, v4], .int (nI 0) :: st, SH, σ)) ∧
  (∀ (v0 : Option Value) (v1 : Option Value) (v2 : Option Value) (v3 : Option Value) (v4 : Option Value) (st : List Value) (σ : ma_H), ma_rn ro d 114 (141, [v0, v1, v2, v3, v4], st, SH, σ) = ma_rn ro d 114 (150, [v0, v1, v2, v3, v4], st, SH, σ)) ∧
  (∀ (v1 : Option Value) (v2 : Option Value) (v3 : Option Value) (v4 : Option Value) (a1 : Nat) (st : List Value) (σ : ma_H), ma_rn ro d 114 (144, [some (.ref a1), v1, v2, v3, v4], st, SH, σ) = ma_rn ro d 114 (145, [some (.ref a1), v1, v2, v3, v4], .ref a1 :: st, SH, σ)) ∧
  (∀ (v0 : Option Value) (v1 : Option Value) (v2 : Option Value) (v3 : Option Value) (v4 : Option Value) (st : List Value) (σ : ma_H), ma_rn ro d 114 (145, [v0, v1, v2, v3, v4], st, SH, σ) = ma_rn ro d 114 (147, [v0, v1, v2, v3, v4], .ref (1000000 + 5) :: st, SH, σ)) ∧
  (∀ (v0 : Option Value) (v1 : Option Value) (v2 : Option Value) (v3 : Option Value) (v4 : Option Value) (a1 : Nat) (a0 : Nat) (σ : ma_H) (hc : hk_cls a0 = 8), ma_rn ro (d + 1) 114 (147, [v0, v1, v2, v3, v4], .ref a1 :: .ref a0 :: [], SH, σ) = (ma_ev ro d 112 [.ref a0, .ref a1] SH σ).bind (fun q => ma_rn ro (d + 1) 114 (150, [v0, v1, v2, v3, v4], (q.1.toList ++ []), q.2.1, q.2.2))) ∧
  (∀ (v0 : Option Value) (v1 : Option Value) (v3 : Option Value) (v4 : Option Value) (x9 : Int32) (x1 : Int32) (st : List Value) (σ : ma_H), ma_rn ro d 114 (150, [v0, v1, some (.int x9), v3, v4], .int x1 :: st, SH, σ) = ma_rn ro d 114 (151, [v0, v1, some (.int x9), some (.int x1), v4], st, SH, σ)) ∧
  (∀ (v1 : Option Value) (v2 : Option Value) (v3 : Option Value) (v4 : Option Value) (a1 : Nat) (st : List Value) (σ : ma_H), ma_rn ro d 114 (151, [some (.ref a1), v1, v2, v3, v4], st, SH, σ) = ma_rn ro d 114 (152, [some (.ref a1), v1, v2, v3, v4], .ref a1 :: st, SH, σ)) ∧
  (∀ (v1 : Option Value) (v2 : Option Value) (v3 : Option Value) (v4 : Option Value) (a1 : Nat) (st : List Value) (σ : ma_H), ma_rn ro d 114 (152, [some (.ref a1), v1, v2, v3, v4], st, SH, σ) = ma_rn ro d 114 (153, [some (.ref a1), v1, v2, v3, v4], .ref a1 :: st, SH, σ)) ∧
  (∀ (v0 : Option Value) (v1 : Option Value) (v2 : Option Value) (v3 : Option Value) (v4 : Option Value) (a1 : Nat) (st : List Value) (σ : ma_H) (hc : hk_cls a1 = 8), ma_rn ro d 114 (153, [v0, v1, v2, v3, v4], .ref a1 :: st, SH, σ) = ma_rn ro d 114 (156, [v0, v1, v2, v3, v4], .int (σ a1 8) :: st, SH, σ)) ∧
  (∀ (v0 : Option Value) (v1 : Option Value) (v2 : Option Value) (v3 : Option Value) (v4 : Option Value) (x1 : Int32) (st : List Value) (σ : ma_H), ma_rn ro d 114 (156, [v0, v1, v2, v3, v4], .int x1 :: st, SH, σ) = if x1 = nI 0 then ma_rn ro d 114 (159, [v0, v1, v2, v3, v4], st, SH, σ) else ma_rn ro d 114 (164, [v0, v1, v2, v3, v4], st, SH, σ)) ∧
  (∀ (v0 : Option Value) (v1 : Option Value) (v2 : Option Value) (v4 : Option Value) (x1 : Int32) (st : List Value) (σ : ma_H), ma_rn ro d 114 (159, [v0, v1, v2, some (.int x1), v4], st, SH, σ) = ma_rn ro d 114 (160, [v0, v1, v2, some (.int x1), v4], .int x1 :: st, SH, σ)) ∧
  (∀ (v0 : Option Value) (v1 : Option Value) (v2 : Option Value) (v3 : Option Value) (v4 : Option Value) (st : List Value) (σ : ma_H), ma_rn ro d 114 (160, [v0, v1, v2, v3, v4], st, SH, σ) = ma_rn ro d 114 (161, [v0, v1, v2, v3, v4], .int ((-1)) :: st, SH, σ)) ∧
  (∀ (v0 : Option Value) (v1 : Option Value) (v2 : Option Value) (v3 : Option Value) (v4 : Option Value) (x1 : Int32) (x2 : Int32) (st : List Value) (σ : ma_H), ma_rn ro d 114 (161, [v0, v1, v2, v3, v4], .int x1 :: .int x2 :: st, SH, σ) = if x2 = x1 then ma_rn ro d 114 (164, [v0, v1, v2, v3, v4], st, SH, σ) else ma_rn ro d 114 (168, [v0, v1, v2, v3, v4], st, SH, σ)) ∧
  (∀ (v0 : Option Value) (v1 : Option Value) (v2 : Option Value) (v3 : Option Value) (v4 : Option Value) (st : List Value) (σ : ma_H), ma_rn ro d 114 (164, [v0, v1, v2, v3, v4], st, SH, σ) = ma_rn ro d 114 (165, [v0, v1, v2, v3, v4], .int (nI 1) :: st, SH, σ)) ∧
  (∀ (v0 : Option Value) (v1 : Option Value) (v2 : Option Value) (v3 : Option Value) (v4 : Option Value) (st : List Value) (σ : ma_H), ma_rn ro d 114 (165, [v0, v1, v2, v3, v4], st, SH, σ) = ma_rn ro d 114 (169, [v0, v1, v2, v3, v4], st, SH, σ)) ∧
  (∀ (v0 : Option Value) (v1 : Option Value) (v2 : Option Value) (v3 : Option Value) (v4 : Option Value) (st : List Value) (σ : ma_H), ma_rn ro d 114 (168, [v0, v1, v2, v3, v4], st, SH, σ) = ma_rn ro d 114 (169, [v0, v1, v2, v3, v4], .int (nI 0) :: st, SH, σ)) ∧
  (∀ (v0 : Option Value) (v1 : Option Value) (v2 : Option Value) (v3 : Option Value) (v4 : Option Value) (x1 : Int32) (a2 : Nat) (st : List Value) (σ : ma_H) (hx : ma_fitI .boolean x1 = true) (hc : hk_cls a2 = 8), ma_rn ro d 114 (169, [v0, v1, v2, v3, v4], .int x1 :: .ref a2 :: st, SH, σ) = ma_rn ro d 114 (172, [v0, v1, v2, v3, v4], st, SH, (ma_up σ a2 8 x1))) ∧
  (∀ (v1 : Option Value) (v2 : Option Value) (v3 : Option Value) (v4 : Option Value) (a1 : Nat) (st : List Value) (σ : ma_H), ma_rn ro d 114 (172, [some (.ref a1), v1, v2, v3, v4], st, SH, σ) = ma_rn ro d 114 (173, [some (.ref a1), v1, v2, v3, v4], .ref a1 :: st, SH, σ)) ∧
  (∀ (v0 : Option Value) (v1 : Option Value) (v2 : Option Value) (v3 : Option Value) (v4 : Option Value) (a0 : Nat) (σ : ma_H) (hc : hk_cls a0 = 8), ma_rn ro (d + 1) 114 (173, [v0, v1, v2, v3, v4], .ref a0 :: [], SH, σ) = (ma_ev ro d 111 [.ref a0] SH σ).bind (fun q => ma_rn ro (d + 1) 114 (176, [v0, v1, v2, v3, v4], (q.1.toList ++ []), q.2.1, q.2.2))) ∧
  (∀ (v0 : Option Value) (v1 : Option Value) (v2 : Option Value) (v4 : Option Value) (x9 : Int32) (x1 : Int32) (st : List Value) (σ : ma_H), ma_rn ro d 114 (176, [v0, v1, v2, some (.int x9), v4], .int x1 :: st, SH, σ) = ma_rn ro d 114 (178, [v0, v1, v2, some (.int x9), some (.int x1)], st, SH, σ)) ∧
  (∀ (v1 : Option Value) (v2 : Option Value) (v3 : Option Value) (v4 : Option Value) (a1 : Nat) (st : List Value) (σ : ma_H), ma_rn ro d 114 (178, [some (.ref a1), v1, v2, v3, v4], st, SH, σ) = ma_rn ro d 114 (179, [some (.ref a1), v1, v2, v3, v4], .ref a1 :: st, SH, σ)) ∧
  (∀ (v0 : Option Value) (v1 : Option Value) (v3 : Option Value) (v4 : Option Value) (x1 : Int32) (st : List Value) (σ : ma_H), ma_rn ro d 114 (179, [v0, v1, some (.int x1), v3, v4], st, SH, σ) = ma_rn ro d 114 (180, [v0, v1, some (.int x1), v3, v4], .int x1 :: st, SH, σ)) ∧
  (∀ (v0 : Option Value) (v1 : Option Value) (v2 : Option Value) (v3 : Option Value) (v4 : Option Value) (st : List Value) (σ : ma_H), ma_rn ro d 114 (180, [v0, v1, v2, v3, v4], st, SH, σ) = ma_rn ro d 114 (182, [v0, v1, v2, v3, v4], .int (nI 8) :: st, SH, σ)) ∧
  (∀ (v0 : Option Value) (v1 : Option Value) (v2 : Option Value) (v4 : Option Value) (x1 : Int32) (st : List Value) (σ : ma_H), ma_rn ro d 114 (182, [v0, v1, v2, some (.int x1), v4], st, SH, σ) = ma_rn ro d 114 (183, [v0, v1, v2, some (.int x1), v4], .int x1 :: st, SH, σ)) ∧
  (∀ (v0 : Option Value) (v1 : Option Value) (v2 : Option Value) (v3 : Option Value) (v4 : Option Value) (x1 : Int32) (x2 : Int32) (st : List Value) (σ : ma_H), ma_rn ro d 114 (183, [v0, v1, v2, v3, v4], .int x1 :: .int x2 :: st, SH, σ) = ma_rn ro d 114 (184, [v0, v1, v2, v3, v4], .int (x2 * x1) :: st, SH, σ)) ∧
  (∀ (v0 : Option Value) (v1 : Option Value) (v2 : Option Value) (v3 : Option Value) (v4 : Option Value) (x1 : Int32) (x2 : Int32) (st : List Value) (σ : ma_H), ma_rn ro d 114 (184, [v0, v1, v2, v3, v4], .int x1 :: .int x2 :: st, SH, σ) = ma_rn ro d 114 (185, [v0, v1, v2, v3, v4], .int (x2 + x1) :: st, SH, σ)) ∧
  (∀ (v0 : Option Value) (v1 : Option Value) (v2 : Option Value) (v3 : Option Value) (v4 : Option Value) (st : List Value) (σ : ma_H), ma_rn ro d 114 (185, [v0, v1, v2, v3, v4], st, SH, σ) = ma_rn ro d 114 (187, [v0, v1, v2, v3, v4], .int (nI 32) :: st, SH, σ)) ∧
  (∀ (v0 : Option Value) (v1 : Option Value) (v2 : Option Value) (v3 : Option Value) (x1 : Int32) (st : List Value) (σ : ma_H), ma_rn ro d 114 (187, [v0, v1, v2, v3, some (.int x1)], st, SH, σ) = ma_rn ro d 114 (189, [v0, v1, v2, v3, some (.int x1)], .int x1 :: st, SH, σ)) ∧
  (∀ (v0 : Option Value) (v1 : Option Value) (v2 : Option Value) (v3 : Option Value) (v4 : Option Value) (x1 : Int32) (x2 : Int32) (st : List Value) (σ : ma_H), ma_rn ro d 114 (189, [v0, v1, v2, v3, v4], .int x1 :: .int x2 :: st, SH, σ) = ma_rn ro d 114 (190, [v0, v1, v2, v3, v4], .int (x2 * x1) :: st, SH, σ)) ∧
  (∀ (v0 : Option Value) (v1 : Option Value) (v2 : Option Value) (v3 : Option Value) (v4 : Option Value) (x1 : Int32) (x2 : Int32) (st : List Value) (σ : ma_H), ma_rn ro d 114 (190, [v0, v1, v2, v3, v4], .int x1 :: .int x2 :: st, SH, σ) = ma_rn ro d 114 (191, [v0, v1, v2, v3, v4], .int (x2 + x1) :: st, SH, σ)) ∧
  (∀ (v0 : Option Value) (v1 : Option Value) (v2 : Option Value) (v3 : Option Value) (v4 : Option Value) (x1 : Int32) (a0 : Nat) (σ : ma_H) (hc : hk_cls a0 = 8), ma_rn ro (d + 1) 114 (191, [v0, v1, v2, v3, v4], .int x1 :: .ref a0 :: [], SH, σ) = (ma_ev ro d 113 [.ref a0, .int x1] SH σ).bind (fun q => ma_rn ro (d + 1) 114 (194, [v0, v1, v2, v3, v4], (q.1.toList ++ []), q.2.1, q.2.2))) ∧
  (∀ (v0 : Option Value) (v1 : Option Value) (v2 : Option Value) (v3 : Option Value) (v4 : Option Value) (σ : ma_H), ma_rn ro d 114 (194, [v0, v1, v2, v3, v4], [], SH, σ) = some (none, SH, σ)) := ⟨fun v1 v2 v3 v4 a1 st σ => q_go e114_0 rfl rfl,
  fun v0 v1 v2 v3 v4 a1 st σ hc => q_getI e114_1 o_114 f_8_45 (by decide) hc,
  fun v0 v1 v2 v3 v4 x1 st σ => (q_if e114_4 rfl).trans q_eq,
  fun v0 v1 v2 v3 v4 σ => q_vret e114_7 r_114,
  fun v1 v2 v3 v4 a1 st σ => q_go e114_8 rfl rfl,
  fun v0 v1 v2 v3 v4 a0 σ hc => q_invV (as := []) (rest := []) e114_9 o_114 bn_8_49 c_8_49 m_108 (by decide) rfl rfl (Nat.le_of_ble_eq_true rfl) (Nat.le_of_ble_eq_true rfl) hc,
  fun v1 v2 v3 v4 a9 x1 st σ => q_go e114_12 rfl rfl,
  fun v0 v2 v3 v4 x1 st σ => q_go e114_13 rfl rfl,
  fun v0 v1 v2 v3 v4 st σ => q_bipush e114_14 (by decide),
  fun v0 v1 v2 v3 v4 x1 x2 st σ => (q_cmp e114_16 rfl).trans q_eq,
  fun v0 v2 v3 v4 x1 st σ => q_go e114_19 rfl rfl,
  fun v0 v1 v2 v3 v4 st σ => q_bipush e114_20 (by decide),
  fun v0 v1 v2 v3 v4 x1 x2 st σ => (q_cmp e114_22 rfl).trans q_ne,
  fun v1 v2 v3 v4 a1 st σ => q_go e114_25 rfl rfl,
  fun v1 v2 v3 v4 a1 st σ => q_go e114_26 rfl rfl,
  fun v0 v1 v2 v3 v4 a1 st σ hc => q_getI e114_27 o_114 f_8_69 (by decide) hc,
  fun v0 v1 v2 v3 v4 st σ => q_iconst e114_30 (by decide),
  fun v0 v1 v2 v3 v4 x1 x2 st σ => (q_cmp e114_31 rfl).trans q_ne,
  fun v0 v1 v2 v3 v4 st σ => q_iconst e114_34 (by decide),
  fun v0 v1 v2 v3 v4 st σ => q_goto e114_35 rfl,
  fun v0 v1 v2 v3 v4 st σ => q_iconst e114_38 (by decide),
  fun v0 v1 v2 v3 v4 x1 a2 st σ hx hc => q_putI e114_39 o_114 f_8_45 (by decide) hx hc,
  fun v1 v2 v3 v4 a1 st σ => q_go e114_42 rfl rfl,
  fun v0 v1 v2 v3 v4 a1 st σ => q_go e114_43 rfl rfl,
  fun v0 v1 v2 v3 v4 a1 st σ hc => q_getI e114_44 o_114 f_8_69 (by decide) hc,
  fun v0 v1 v2 v3 v4 st σ => q_iconst e114_47 (by decide),
  fun v0 v1 v2 v3 v4 x1 x2 st σ => q_go e114_48 rfl rfl,
  fun v0 v1 v2 v3 v4 x1 a2 st σ hc => q_putI e114_49 o_114 f_8_69 (by decide) rfl hc,
  fun v1 v2 v3 v4 a1 st σ => q_go e114_52 rfl rfl,
  fun v0 v1 v2 v3 v4 a1 st σ => q_go e114_53 rfl rfl,
  fun v0 v1 v2 v3 v4 a1 st σ hc => q_getI e114_54 o_114 f_8_39 (by decide) hc,
  fun v1 v2 v3 v4 a1 st σ => q_go e114_57 rfl rfl,
  fun v0 v1 v2 v3 v4 a1 st σ hc => q_getI e114_58 o_114 f_8_45 (by decide) hc,
  fun v0 v1 v2 v3 v4 x1 st σ => (q_if e114_61 rfl).trans q_eq,
  fun v0 v1 v2 v3 v4 st σ => q_iconst e114_64 (by decide),
  fun v0 v1 v2 v3 v4 st σ => q_goto e114_65 rfl,
  fun v0 v1 v2 v3 v4 st σ => q_iconst e114_68 (by decide),
  fun v0 v1 v2 v3 v4 x1 x2 st σ => q_go e114_69 rfl rfl,
  fun v0 v1 v2 v3 v4 x1 a2 st σ hc => q_putI e114_70 o_114 f_8_39 (by decide) rfl hc,
  fun v0 v2 v3 v4 x1 st σ => q_go e114_73 rfl rfl,
  fun v0 v1 v2 v3 v4 st σ => q_bipush e114_74 (by decide),
  fun v0 v1 v2 v3 v4 x1 x2 st σ => (q_cmp e114_76 rfl).trans q_ne,
  fun v1 v2 v3 v4 a1 st σ => q_go e114_79 rfl rfl,
  fun v0 v1 v2 v3 v4 a0 σ hc => q_invV (as := []) (rest := []) e114_80 o_114 bn_8_72 c_8_72 m_114 (by decide) rfl rfl (Nat.le_of_ble_eq_true rfl) (Nat.le_of_ble_eq_true rfl) hc,
  fun v1 v2 v3 v4 a1 st σ => q_go e114_83 rfl rfl,
  fun v0 v1 v2 v3 v4 st σ => q_iconst e114_84 (by decide),
  fun v0 v1 v2 v3 v4 x1 a0 σ hc => q_invV (as := [.int x1]) (rest := []) e114_85 o_114 bn_8_75 c_8_75 m_113 (by decide) rfl rfl (Nat.le_of_ble_eq_true rfl) (Nat.le_of_ble_eq_true rfl) hc,
  fun v0 v1 v2 v3 v4 st σ => q_goto e114_88 rfl,
  fun v1 v2 v3 v4 a1 st σ => q_go e114_91 rfl rfl,
  fun v0 v1 v2 v3 v4 a0 σ hc => q_invV (as := []) (rest := []) e114_92 o_114 bn_8_78 c_8_78 m_116 (by decide) rfl rfl (Nat.le_of_ble_eq_true rfl) (Nat.le_of_ble_eq_true rfl) hc,
  fun v1 v2 v3 v4 a1 st σ => q_go e114_95 rfl rfl,
  fun v0 v1 v2 v3 v4 st σ => q_bipush e114_96 (by decide),
  fun v0 v1 v2 v3 v4 x1 a0 σ hc => q_invV (as := [.int x1]) (rest := []) e114_98 o_114 bn_8_62 c_8_62 m_109 (by decide) rfl rfl (Nat.le_of_ble_eq_true rfl) (Nat.le_of_ble_eq_true rfl) hc,
  fun v1 v2 v3 v4 a1 st σ => q_go e114_101 rfl rfl,
  fun v0 v1 v2 v3 v4 a1 st σ => q_go e114_102 rfl rfl,
  fun v0 v1 v2 v3 v4 a1 st σ hc => q_getI e114_103 o_114 f_8_69 (by decide) hc,
  fun v0 v1 v2 v3 v4 st σ => q_iconst e114_106 (by decide),
  fun v0 v1 v2 v3 v4 x1 x2 st σ => q_go e114_107 rfl rfl,
  fun v0 v1 v2 v3 v4 x1 a2 st σ hc => q_putI e114_108 o_114 f_8_69 (by decide) rfl hc,
  fun v0 v1 v2 v3 v4 σ => q_vret e114_111 r_114,
  fun v1 v2 v3 v4 a1 st σ => q_go e114_112 rfl rfl,
  fun v0 v1 v2 v3 v4 st σ => q_ldcS e114_113 o_114 kn_8_81 s_8_81,
  fun v0 v1 v2 v3 v4 a1 a0 σ hc => q_invV (as := [.ref a1]) (rest := []) e114_115 o_114 bn_8_83 c_8_83 m_112 (by decide) rfl rfl (Nat.le_of_ble_eq_true rfl) (Nat.le_of_ble_eq_true rfl) hc,
  fun v0 v2 v3 v4 x9 x1 st σ => q_go e114_118 rfl rfl,
  fun v1 v2 v3 v4 a1 st σ => q_go e114_119 rfl rfl,
  fun v0 v1 v3 v4 x1 st σ => q_go e114_120 rfl rfl,
  fun v0 v1 v2 v3 v4 st σ => q_iconst e114_121 (by decide),
  fun v0 v1 v2 v3 v4 x1 x2 st σ => (q_cmp e114_122 rfl).trans q_ne,
  fun v0 v1 v2 v3 v4 st σ => q_iconst e114_125 (by decide),
  fun v0 v1 v2 v3 v4 st σ => q_goto e114_126 rfl,
  fun v0 v1 v2 v3 v4 st σ => q_iconst e114_129 (by decide),
  fun v0 v1 v2 v3 v4 x1 a2 st σ hx hc => q_putI e114_130 o_114 f_8_45 (by decide) hx hc,
  fun v1 v2 v3 v4 a1 st σ => q_go e114_133 rfl rfl,
  fun v0 v1 v2 v3 v4 a1 st σ hc => q_getI e114_134 o_114 f_8_45 (by decide) hc,
  fun v0 v1 v2 v3 v4 x1 st σ => (q_if e114_137 rfl).trans q_eq,
  fun v0 v1 v2 v3 v4 st σ => q_iconst e114_140 (by decide),
  fun v0 v1 v2 v3 v4 st σ => q_goto e114_141 rfl,
  fun v1 v2 v3 v4 a1 st σ => q_go e114_144 rfl rfl,
  fun v0 v1 v2 v3 v4 st σ => q_ldcS e114_145 o_114 kn_8_87 s_8_87,
  fun v0 v1 v2 v3 v4 a1 a0 σ hc => q_invV (as := [.ref a1]) (rest := []) e114_147 o_114 bn_8_83 c_8_83 m_112 (by decide) rfl rfl (Nat.le_of_ble_eq_true rfl) (Nat.le_of_ble_eq_true rfl) hc,
  fun v0 v1 v3 v4 x9 x1 st σ => q_go e114_150 rfl rfl,
  fun v1 v2 v3 v4 a1 st σ => q_go e114_151 rfl rfl,
  fun v1 v2 v3 v4 a1 st σ => q_go e114_152 rfl rfl,
  fun v0 v1 v2 v3 v4 a1 st σ hc => q_getI e114_153 o_114 f_8_45 (by decide) hc,
  fun v0 v1 v2 v3 v4 x1 st σ => (q_if e114_156 rfl).trans q_ne,
  fun v0 v1 v2 v4 x1 st σ => q_go e114_159 rfl rfl,
  fun v0 v1 v2 v3 v4 st σ => q_iconst e114_160 (by decide),
  fun v0 v1 v2 v3 v4 x1 x2 st σ => (q_cmp e114_161 rfl).trans q_ne,
  fun v0 v1 v2 v3 v4 st σ => q_iconst e114_164 (by decide),
  fun v0 v1 v2 v3 v4 st σ => q_goto e114_165 rfl,
  fun v0 v1 v2 v3 v4 st σ => q_iconst e114_168 (by decide),
  fun v0 v1 v2 v3 v4 x1 a2 st σ hx hc => q_putI e114_169 o_114 f_8_45 (by decide) hx hc,
  fun v1 v2 v3 v4 a1 st σ => q_go e114_172 rfl rfl,
  fun v0 v1 v2 v3 v4 a0 σ hc => q_invV (as := []) (rest := []) e114_173 o_114 bn_8_89 c_8_89 m_111 (by decide) rfl rfl (Nat.le_of_ble_eq_true rfl) (Nat.le_of_ble_eq_true rfl) hc,
  fun v0 v1 v2 v4 x9 x1 st σ => q_go e114_176 rfl rfl,
  fun v1 v2 v3 v4 a1 st σ => q_go e114_178 rfl rfl,
  fun v0 v1 v3 v4 x1 st σ => q_go e114_179 rfl rfl,
  fun v0 v1 v2 v3 v4 st σ => q_bipush e114_180 (by decide),
  fun v0 v1 v2 v4 x1 st σ => q_go e114_182 rfl rfl,
  fun v0 v1 v2 v3 v4 x1 x2 st σ => q_go e114_183 rfl rfl,
  fun v0 v1 v2 v3 v4 x1 x2 st σ => q_go e114_184 rfl rfl,
  fun v0 v1 v2 v3 v4 st σ => q_bipush e114_185 (by decide),
  fun v0 v1 v2 v3 x1 st σ => q_go e114_187 rfl rfl,
  fun v0 v1 v2 v3 v4 x1 x2 st σ => q_go e114_189 rfl rfl,
  fun v0 v1 v2 v3 v4 x1 x2 st σ => q_go e114_190 rfl rfl,
  fun v0 v1 v2 v3 v4 x1 a0 σ hc => q_invV (as := [.int x1]) (rest := []) e114_191 o_114 bn_8_75 c_8_75 m_113 (by decide) rfl rfl (Nat.le_of_ble_eq_true rfl) (Nat.le_of_ble_eq_true rfl) hc,
  fun v0 v1 v2 v3 v4 σ => q_vret e114_194 r_114⟩
theorem E114 {ro : ma_RO} {d : Nat} (a0 : Nat) (sh : List ma_Sh) (σ : ma_H) : ma_ev ro d 114 [.ref a0] sh σ = ma_rn ro d 114 (0, [some (.ref a0), none, none, none, none], [], sh, σ) := q_ent x_114 rfl
theorem e115_0 : decode (ma_cd 115) 0 = .ok (.aload_n 0, 1) := (congrArg (fun b => decode b 0) cd_115).trans dX8_every_0
theorem e115_1 : decode (ma_cd 115) 1 = .ok (.invokevirtual 72, 3) := (congrArg (fun b => decode b 1) cd_115).trans dX8_every_1
theorem e115_4 : decode (ma_cd 115) 4 = .ok (.aload_n 0, 1) := (congrArg (fun b => decode b 4) cd_115).trans dX8_every_4
theorem e115_5 : decode (ma_cd 115) 5 = .ok (.getfield 45, 3) := (congrArg (fun b => decode b 5) cd_115).trans dX8_every_5
theorem e115_8 : decode (ma_cd 115) 8 = .ok (.ifCond .ne 35, 3) := (congrArg (fun b => decode b 8) cd_115).trans dX8_every_8
theorem e115_11 : decode (ma_cd 115) 11 = .ok (.aload_n 0, 1) := (congrArg (fun b => decode b 11) cd_115).trans dX8_every_11
theorem e115_12 : decode (ma_cd 115) 12 = .ok (.invokevirtual 49, 3) := (congrArg (fun b => decode b 12) cd_115).trans dX8_every_12
theorem e115_15 : decode (ma_cd 115) 15 = .ok (.bipush 38, 2) := (congrArg (fun b => decode b 15) cd_115).trans dX8_every_15
theorem e115_17 : decode (ma_cd 115) 17 = .ok (.if_icmp .ne 26, 3) := (congrArg (fun b => decode b 17) cd_115).trans dX8_every_17
theorem e115_20 : decode (ma_cd 115) 20 = .ok (.aload_n 0, 1) := (congrArg (fun b => decode b 20) cd_115).trans dX8_every_20
theorem e115_21 : decode (ma_cd 115) 21 = .ok (.dup, 1) := (congrArg (fun b => decode b 21) cd_115).trans dX8_every_21
theorem e115_22 : decode (ma_cd 115) 22 = .ok (.getfield 39, 3) := (congrArg (fun b => decode b 22) cd_115).trans dX8_every_22
theorem e115_25 : decode (ma_cd 115) 25 = .ok (.iconst 1, 1) := (congrArg (fun b => decode b 25) cd_115).trans dX8_every_25
theorem e115_26 : decode (ma_cd 115) 26 = .ok (.iadd, 1) := (congrArg (fun b => decode b 26) cd_115).trans dX8_every_26
theorem e115_27 : decode (ma_cd 115) 27 = .ok (.putfield 39, 3) := (congrArg (fun b => decode b 27) cd_115).trans dX8_every_27
theorem e115_30 : decode (ma_cd 115) 30 = .ok (.aload_n 0, 1) := (congrArg (fun b => decode b 30) cd_115).trans dX8_every_30
theorem e115_31 : decode (ma_cd 115) 31 = .ok (.invokevirtual 72, 3) := (congrArg (fun b => decode b 31) cd_115).trans dX8_every_31
theorem e115_34 : decode (ma_cd 115) 34 = .ok (.aload_n 0, 1) := (congrArg (fun b => decode b 34) cd_115).trans dX8_every_34
theorem e115_35 : decode (ma_cd 115) 35 = .ok (.bipush (-2), 2) := (congrArg (fun b => decode b 35) cd_115).trans dX8_every_35
theorem e115_37 : decode (ma_cd 115) 37 = .ok (.invokevirtual 75, 3) := (congrArg (fun b => decode b 37) cd_115).trans dX8_every_37
theorem e115_40 : decode (ma_cd 115) 40 = .ok (.goto (-36), 3) := (congrArg (fun b => decode b 40) cd_115).trans dX8_every_40
theorem e115_43 : decode (ma_cd 115) 43 = .ok (.return_, 1) := (congrArg (fun b => decode b 43) cd_115).trans dX8_every_43
theorem Sh115_4 {ro : ma_RO} {d : Nat} : (∀ (a1 : Nat) (st : List Value) (σ : ma_H), ma_rn ro d 115 (4, [some (.ref a1)], st, SH, σ) = ma_rn ro d 115 (5, [some (.ref a1)], .ref a1 :: st, SH, σ)) := fun a1 st σ => q_go e115_4 rfl rfl
theorem S115 {ro : ma_RO} {d : Nat} : (∀ (a1 : Nat) (st : List Value) (σ : ma_H), ma_rn ro d 115 (0, [some (.ref a1)], st, SH, σ) = ma_rn ro d 115 (1, [some (.ref a1)], .ref a1 :: st, SH, σ)) ∧
  (∀ (v0 : Option Value) (a0 : Nat) (σ : ma_H) (hc : hk_cls a0 = 8), ma_rn ro (d + 1) 115 (1, [v0], .ref a0 :: [], SH, σ) = (ma_ev ro d 114 [.ref a0] SH σ).bind (fun q => ma_rn ro (d + 1) 115 (4, [v0], (q.1.toList ++ []), q.2.1, q.2.2))) ∧
  (∀ (v0 : Option Value) (a1 : Nat) (st : List Value) (σ : ma_H) (hc : hk_cls a1 = 8), ma_rn ro d 115 (5, [v0], .ref a1 :: st, SH, σ) = ma_rn ro d 115 (8, [v0], .int (σ a1 8) :: st, SH, σ)) ∧
  (∀ (v0 : Option Value) (x1 : Int32) (st : List Value) (σ : ma_H), ma_rn ro d 115 (8, [v0], .int x1 :: st, SH, σ) = if x1 = nI 0 then ma_rn ro d 115 (11, [v0], st, SH, σ) else ma_rn ro d 115 (43, [v0], st, SH, σ)) ∧
  (∀ (a1 : Nat) (st : List Value) (σ : ma_H), ma_rn ro d 115 (11, [some (.ref a1)], st, SH, σ) = ma_rn ro d 115 (12, [some (.ref a1)], .ref a1 :: st, SH, σ)) ∧
  (∀ (v0 : Option Value) (a0 : Nat) (σ : ma_H) (hc : hk_cls a0 = 8), ma_rn ro (d + 1) 115 (12, [v0], .ref a0 :: [], SH, σ) = (ma_ev ro d 108 [.ref a0] SH σ).bind (fun q => ma_rn ro (d + 1) 115 (15, [v0], (q.1.toList ++ []), q.2.1, q.2.2))) ∧
  (∀ (v0 : Option Value) (st : List Value) (σ : ma_H), ma_rn ro d 115 (15, [v0], st, SH, σ) = ma_rn ro d 115 (17, [v0], .int (nI 38) :: st, SH, σ)) ∧
  (∀ (v0 : Option Value) (x1 : Int32) (x2 : Int32) (st : List Value) (σ : ma_H), ma_rn ro d 115 (17, [v0], .int x1 :: .int x2 :: st, SH, σ) = if x2 = x1 then ma_rn ro d 115 (20, [v0], st, SH, σ) else ma_rn ro d 115 (43, [v0], st, SH, σ)) ∧
  (∀ (a1 : Nat) (st : List Value) (σ : ma_H), ma_rn ro d 115 (20, [some (.ref a1)], st, SH, σ) = ma_rn ro d 115 (21, [some (.ref a1)], .ref a1 :: st, SH, σ)) ∧
  (∀ (v0 : Option Value) (a1 : Nat) (st : List Value) (σ : ma_H), ma_rn ro d 115 (21, [v0], .ref a1 :: st, SH, σ) = ma_rn ro d 115 (22, [v0], .ref a1 :: .ref a1 :: st, SH, σ)) ∧
  (∀ (v0 : Option Value) (a1 : Nat) (st : List Value) (σ : ma_H) (hc : hk_cls a1 = 8), ma_rn ro d 115 (22, [v0], .ref a1 :: st, SH, σ) = ma_rn ro d 115 (25, [v0], .int (σ a1 6) :: st, SH, σ)) ∧
  (∀ (v0 : Option Value) (st : List Value) (σ : ma_H), ma_rn ro d 115 (25, [v0], st, SH, σ) = ma_rn ro d 115 (26, [v0], .int (nI 1) :: st, SH, σ)) ∧
  (∀ (v0 : Option Value) (x1 : Int32) (x2 : Int32) (st : List Value) (σ : ma_H), ma_rn ro d 115 (26, [v0], .int x1 :: .int x2 :: st, SH, σ) = ma_rn ro d 115 (27, [v0], .int (x2 + x1) :: st, SH, σ)) ∧
  (∀ (v0 : Option Value) (x1 : Int32) (a2 : Nat) (st : List Value) (σ : ma_H) (hc : hk_cls a2 = 8), ma_rn ro d 115 (27, [v0], .int x1 :: .ref a2 :: st, SH, σ) = ma_rn ro d 115 (30, [v0], st, SH, (ma_up σ a2 6 x1))) ∧
  (∀ (a1 : Nat) (st : List Value) (σ : ma_H), ma_rn ro d 115 (30, [some (.ref a1)], st, SH, σ) = ma_rn ro d 115 (31, [some (.ref a1)], .ref a1 :: st, SH, σ)) ∧
  (∀ (v0 : Option Value) (a0 : Nat) (σ : ma_H) (hc : hk_cls a0 = 8), ma_rn ro (d + 1) 115 (31, [v0], .ref a0 :: [], SH, σ) = (ma_ev ro d 114 [.ref a0] SH σ).bind (fun q => ma_rn ro (d + 1) 115 (34, [v0], (q.1.toList ++ []), q.2.1, q.2.2))) ∧
  (∀ (a1 : Nat) (st : List Value) (σ : ma_H), ma_rn ro d 115 (34, [some (.ref a1)], st, SH, σ) = ma_rn ro d 115 (35, [some (.ref a1)], .ref a1 :: st, SH, σ)) ∧
  (∀ (v0 : Option Value) (st : List Value) (σ : ma_H), ma_rn ro d 115 (35, [v0], st, SH, σ) = ma_rn ro d 115 (37, [v0], .int ((-2)) :: st, SH, σ)) ∧
  (∀ (v0 : Option Value) (x1 : Int32) (a0 : Nat) (σ : ma_H) (hc : hk_cls a0 = 8), ma_rn ro (d + 1) 115 (37, [v0], .int x1 :: .ref a0 :: [], SH, σ) = (ma_ev ro d 113 [.ref a0, .int x1] SH σ).bind (fun q => ma_rn ro (d + 1) 115 (40, [v0], (q.1.toList ++ []), q.2.1, q.2.2))) ∧
  (∀ (v0 : Option Value) (st : List Value) (σ : ma_H), ma_rn ro d 115 (40, [v0], st, SH, σ) = ma_rn ro d 115 (4, [v0], st, SH, σ)) ∧
  (∀ (v0 : Option Value) (σ : ma_H), ma_rn ro d 115 (43, [v0], [], SH, σ) = some (none, SH, σ)) := ⟨fun a1 st σ => q_go e115_0 rfl rfl,
  fun v0 a0 σ hc => q_invV (as := []) (rest := []) e115_1 o_115 bn_8_72 c_8_72 m_114 (by decide) rfl rfl (Nat.le_of_ble_eq_true rfl) (Nat.le_of_ble_eq_true rfl) hc,
  fun v0 a1 st σ hc => q_getI e115_5 o_115 f_8_45 (by decide) hc,
  fun v0 x1 st σ => (q_if e115_8 rfl).trans q_ne,
  fun a1 st σ => q_go e115_11 rfl rfl,
  fun v0 a0 σ hc => q_invV (as := []) (rest := []) e115_12 o_115 bn_8_49 c_8_49 m_108 (by decide) rfl rfl (Nat.le_of_ble_eq_true rfl) (Nat.le_of_ble_eq_true rfl) hc,
  fun v0 st σ => q_bipush e115_15 (by decide),
  fun v0 x1 x2 st σ => (q_cmp e115_17 rfl).trans q_ne,
  fun a1 st σ => q_go e115_20 rfl rfl,
  fun v0 a1 st σ => q_go e115_21 rfl rfl,
  fun v0 a1 st σ hc => q_getI e115_22 o_115 f_8_39 (by decide) hc,
  fun v0 st σ => q_iconst e115_25 (by decide),
  fun v0 x1 x2 st σ => q_go e115_26 rfl rfl,
  fun v0 x1 a2 st σ hc => q_putI e115_27 o_115 f_8_39 (by decide) rfl hc,
  fun a1 st σ => q_go e115_30 rfl rfl,
  fun v0 a0 σ hc => q_invV (as := []) (rest := []) e115_31 o_115 bn_8_72 c_8_72 m_114 (by decide) rfl rfl (Nat.le_of_ble_eq_true rfl) (Nat.le_of_ble_eq_true rfl) hc,
  fun a1 st σ => q_go e115_34 rfl rfl,
  fun v0 st σ => q_bipush e115_35 (by decide),
  fun v0 x1 a0 σ hc => q_invV (as := [.int x1]) (rest := []) e115_37 o_115 bn_8_75 c_8_75 m_113 (by decide) rfl rfl (Nat.le_of_ble_eq_true rfl) (Nat.le_of_ble_eq_true rfl) hc,
  fun v0 st σ => q_goto e115_40 rfl,
  fun v0 σ => q_vret e115_43 r_115⟩
theorem E115 {ro : ma_RO} {d : Nat} (a0 : Nat) (sh : List ma_Sh) (σ : ma_H) : ma_ev ro d 115 [.ref a0] sh σ = ma_rn ro d 115 (0, [some (.ref a0)], [], sh, σ) := q_ent x_115 rfl
theorem e116_0 : decode (ma_cd 116) 0 = .ok (.aload_n 0, 1) := (congrArg (fun b => decode b 0) cd_116).trans dX8_some_0
theorem e116_1 : decode (ma_cd 116) 1 = .ok (.invokevirtual 92, 3) := (congrArg (fun b => decode b 1) cd_116).trans dX8_some_1
theorem e116_4 : decode (ma_cd 116) 4 = .ok (.aload_n 0, 1) := (congrArg (fun b => decode b 4) cd_116).trans dX8_some_4
theorem e116_5 : decode (ma_cd 116) 5 = .ok (.getfield 45, 3) := (congrArg (fun b => decode b 5) cd_116).trans dX8_some_5
theorem e116_8 : decode (ma_cd 116) 8 = .ok (.ifCond .ne 35, 3) := (congrArg (fun b => decode b 8) cd_116).trans dX8_some_8
theorem e116_11 : decode (ma_cd 116) 11 = .ok (.aload_n 0, 1) := (congrArg (fun b => decode b 11) cd_116).trans dX8_some_11
theorem e116_12 : decode (ma_cd 116) 12 = .ok (.invokevirtual 49, 3) := (congrArg (fun b => decode b 12) cd_116).trans dX8_some_12
theorem e116_15 : decode (ma_cd 116) 15 = .ok (.bipush 124, 2) := (congrArg (fun b => decode b 15) cd_116).trans dX8_some_15
theorem e116_17 : decode (ma_cd 116) 17 = .ok (.if_icmp .ne 26, 3) := (congrArg (fun b => decode b 17) cd_116).trans dX8_some_17
theorem e116_20 : decode (ma_cd 116) 20 = .ok (.aload_n 0, 1) := (congrArg (fun b => decode b 20) cd_116).trans dX8_some_20
theorem e116_21 : decode (ma_cd 116) 21 = .ok (.dup, 1) := (congrArg (fun b => decode b 21) cd_116).trans dX8_some_21
theorem e116_22 : decode (ma_cd 116) 22 = .ok (.getfield 39, 3) := (congrArg (fun b => decode b 22) cd_116).trans dX8_some_22
theorem e116_25 : decode (ma_cd 116) 25 = .ok (.iconst 1, 1) := (congrArg (fun b => decode b 25) cd_116).trans dX8_some_25
theorem e116_26 : decode (ma_cd 116) 26 = .ok (.iadd, 1) := (congrArg (fun b => decode b 26) cd_116).trans dX8_some_26
theorem e116_27 : decode (ma_cd 116) 27 = .ok (.putfield 39, 3) := (congrArg (fun b => decode b 27) cd_116).trans dX8_some_27
theorem e116_30 : decode (ma_cd 116) 30 = .ok (.aload_n 0, 1) := (congrArg (fun b => decode b 30) cd_116).trans dX8_some_30
theorem e116_31 : decode (ma_cd 116) 31 = .ok (.invokevirtual 92, 3) := (congrArg (fun b => decode b 31) cd_116).trans dX8_some_31
theorem e116_34 : decode (ma_cd 116) 34 = .ok (.aload_n 0, 1) := (congrArg (fun b => decode b 34) cd_116).trans dX8_some_34
theorem e116_35 : decode (ma_cd 116) 35 = .ok (.bipush (-3), 2) := (congrArg (fun b => decode b 35) cd_116).trans dX8_some_35
theorem e116_37 : decode (ma_cd 116) 37 = .ok (.invokevirtual 75, 3) := (congrArg (fun b => decode b 37) cd_116).trans dX8_some_37
theorem e116_40 : decode (ma_cd 116) 40 = .ok (.goto (-36), 3) := (congrArg (fun b => decode b 40) cd_116).trans dX8_some_40
theorem e116_43 : decode (ma_cd 116) 43 = .ok (.return_, 1) := (congrArg (fun b => decode b 43) cd_116).trans dX8_some_43
theorem Sh116_4 {ro : ma_RO} {d : Nat} : (∀ (a1 : Nat) (st : List Value) (σ : ma_H), ma_rn ro d 116 (4, [some (.ref a1)], st, SH, σ) = ma_rn ro d 116 (5, [some (.ref a1)], .ref a1 :: st, SH, σ)) := fun a1 st σ => q_go e116_4 rfl rfl
theorem S116 {ro : ma_RO} {d : Nat} : (∀ (a1 : Nat) (st : List Value) (σ : ma_H), ma_rn ro d 116 (0, [some (.ref a1)], st, SH, σ) = ma_rn ro d 116 (1, [some (.ref a1)], .ref a1 :: st, SH, σ)) ∧
  (∀ (v0 : Option Value) (a0 : Nat) (σ : ma_H) (hc : hk_cls a0 = 8), ma_rn ro (d + 1) 116 (1, [v0], .ref a0 :: [], SH, σ) = (ma_ev ro d 115 [.ref a0] SH σ).bind (fun q => ma_rn ro (d + 1) 116 (4, [v0], (q.1.toList ++ []), q.2.1, q.2.2))) ∧
  (∀ (v0 : Option Value) (a1 : Nat) (st : List Value) (σ : ma_H) (hc : hk_cls a1 = 8), ma_rn ro d 116 (5, [v0], .ref a1 :: st, SH, σ) = ma_rn ro d 116 (8, [v0], .int (σ a1 8) :: st, SH, σ)) ∧
  (∀ (v0 : Option Value) (x1 : Int32) (st : List Value) (σ : ma_H), ma_rn ro d 116 (8, [v0], .int x1 :: st, SH, σ) = if x1 = nI 0 then ma_rn ro d 116 (11, [v0], st, SH, σ) else ma_rn ro d 116 (43, [v0], st, SH, σ)) ∧
  (∀ (a1 : Nat) (st : List Value) (σ : ma_H), ma_rn ro d 116 (11, [some (.ref a1)], st, SH, σ) = ma_rn ro d 116 (12, [some (.ref a1)], .ref a1 :: st, SH, σ)) ∧
  (∀ (v0 : Option Value) (a0 : Nat) (σ : ma_H) (hc : hk_cls a0 = 8), ma_rn ro (d + 1) 116 (12, [v0], .ref a0 :: [], SH, σ) = (ma_ev ro d 108 [.ref a0] SH σ).bind (fun q => ma_rn ro (d + 1) 116 (15, [v0], (q.1.toList ++ []), q.2.1, q.2.2))) ∧
  (∀ (v0 : Option Value) (st : List Value) (σ : ma_H), ma_rn ro d 116 (15, [v0], st, SH, σ) = ma_rn ro d 116 (17, [v0], .int (nI 124) :: st, SH, σ)) ∧
  (∀ (v0 : Option Value) (x1 : Int32) (x2 : Int32) (st : List Value) (σ : ma_H), ma_rn ro d 116 (17, [v0], .int x1 :: .int x2 :: st, SH, σ) = if x2 = x1 then ma_rn ro d 116 (20, [v0], st, SH, σ) else ma_rn ro d 116 (43, [v0], st, SH, σ)) ∧
  (∀ (a1 : Nat) (st : List Value) (σ : ma_H), ma_rn ro d 116 (20, [some (.ref a1)], st, SH, σ) = ma_rn ro d 116 (21, [some (.ref a1)], .ref a1 :: st, SH, σ)) ∧
  (∀ (v0 : Option Value) (a1 : Nat) (st : List Value) (σ : ma_H), ma_rn ro d 116 (21, [v0], .ref a1 :: st, SH, σ) = ma_rn ro d 116 (22, [v0], .ref a1 :: .ref a1 :: st, SH, σ)) ∧
  (∀ (v0 : Option Value) (a1 : Nat) (st : List Value) (σ : ma_H) (hc : hk_cls a1 = 8), ma_rn ro d 116 (22, [v0], .ref a1 :: st, SH, σ) = ma_rn ro d 116 (25, [v0], .int (σ a1 6) :: st, SH, σ)) ∧
  (∀ (v0 : Option Value) (st : List Value) (σ : ma_H), ma_rn ro d 116 (25, [v0], st, SH, σ) = ma_rn ro d 116 (26, [v0], .int (nI 1) :: st, SH, σ)) ∧
  (∀ (v0 : Option Value) (x1 : Int32) (x2 : Int32) (st : List Value) (σ : ma_H), ma_rn ro d 116 (26, [v0], .int x1 :: .int x2 :: st, SH, σ) = ma_rn ro d 116 (27, [v0], .int (x2 + x1) :: st, SH, σ)) ∧
  (∀ (v0 : Option Value) (x1 : Int32) (a2 : Nat) (st : List Value) (σ : ma_H) (hc : hk_cls a2 = 8), ma_rn ro d 116 (27, [v0], .int x1 :: .ref a2 :: st, SH, σ) = ma_rn ro d 116 (30, [v0], st, SH, (ma_up σ a2 6 x1))) ∧
  (∀ (a1 : Nat) (st : List Value) (σ : ma_H), ma_rn ro d 116 (30, [some (.ref a1)], st, SH, σ) = ma_rn ro d 116 (31, [some (.ref a1)], .ref a1 :: st, SH, σ)) ∧
  (∀ (v0 : Option Value) (a0 : Nat) (σ : ma_H) (hc : hk_cls a0 = 8), ma_rn ro (d + 1) 116 (31, [v0], .ref a0 :: [], SH, σ) = (ma_ev ro d 115 [.ref a0] SH σ).bind (fun q => ma_rn ro (d + 1) 116 (34, [v0], (q.1.toList ++ []), q.2.1, q.2.2))) ∧
  (∀ (a1 : Nat) (st : List Value) (σ : ma_H), ma_rn ro d 116 (34, [some (.ref a1)], st, SH, σ) = ma_rn ro d 116 (35, [some (.ref a1)], .ref a1 :: st, SH, σ)) ∧
  (∀ (v0 : Option Value) (st : List Value) (σ : ma_H), ma_rn ro d 116 (35, [v0], st, SH, σ) = ma_rn ro d 116 (37, [v0], .int ((-3)) :: st, SH, σ)) ∧
  (∀ (v0 : Option Value) (x1 : Int32) (a0 : Nat) (σ : ma_H) (hc : hk_cls a0 = 8), ma_rn ro (d + 1) 116 (37, [v0], .int x1 :: .ref a0 :: [], SH, σ) = (ma_ev ro d 113 [.ref a0, .int x1] SH σ).bind (fun q => ma_rn ro (d + 1) 116 (40, [v0], (q.1.toList ++ []), q.2.1, q.2.2))) ∧
  (∀ (v0 : Option Value) (st : List Value) (σ : ma_H), ma_rn ro d 116 (40, [v0], st, SH, σ) = ma_rn ro d 116 (4, [v0], st, SH, σ)) ∧
  (∀ (v0 : Option Value) (σ : ma_H), ma_rn ro d 116 (43, [v0], [], SH, σ) = some (none, SH, σ)) := ⟨fun a1 st σ => q_go e116_0 rfl rfl,
  fun v0 a0 σ hc => q_invV (as := []) (rest := []) e116_1 o_116 bn_8_92 c_8_92 m_115 (by decide) rfl rfl (Nat.le_of_ble_eq_true rfl) (Nat.le_of_ble_eq_true rfl) hc,
  fun v0 a1 st σ hc => q_getI e116_5 o_116 f_8_45 (by decide) hc,
  fun v0 x1 st σ => (q_if e116_8 rfl).trans q_ne,
  fun a1 st σ => q_go e116_11 rfl rfl,
  fun v0 a0 σ hc => q_invV (as := []) (rest := []) e116_12 o_116 bn_8_49 c_8_49 m_108 (by decide) rfl rfl (Nat.le_of_ble_eq_true rfl) (Nat.le_of_ble_eq_true rfl) hc,
  fun v0 st σ => q_bipush e116_15 (by decide),
  fun v0 x1 x2 st σ => (q_cmp e116_17 rfl).trans q_ne,
  fun a1 st σ => q_go e116_20 rfl rfl,
  fun v0 a1 st σ => q_go e116_21 rfl rfl,
  fun v0 a1 st σ hc => q_getI e116_22 o_116 f_8_39 (by decide) hc,
  fun v0 st σ => q_iconst e116_25 (by decide),
  fun v0 x1 x2 st σ => q_go e116_26 rfl rfl,
  fun v0 x1 a2 st σ hc => q_putI e116_27 o_116 f_8_39 (by decide) rfl hc,
  fun a1 st σ => q_go e116_30 rfl rfl,
  fun v0 a0 σ hc => q_invV (as := []) (rest := []) e116_31 o_116 bn_8_92 c_8_92 m_115 (by decide) rfl rfl (Nat.le_of_ble_eq_true rfl) (Nat.le_of_ble_eq_true rfl) hc,
  fun a1 st σ => q_go e116_34 rfl rfl,
  fun v0 st σ => q_bipush e116_35 (by decide),
  fun v0 x1 a0 σ hc => q_invV (as := [.int x1]) (rest := []) e116_37 o_116 bn_8_75 c_8_75 m_113 (by decide) rfl rfl (Nat.le_of_ble_eq_true rfl) (Nat.le_of_ble_eq_true rfl) hc,
  fun v0 st σ => q_goto e116_40 rfl,
  fun v0 σ => q_vret e116_43 r_116⟩
theorem E116 {ro : ma_RO} {d : Nat} (a0 : Nat) (sh : List ma_Sh) (σ : ma_H) : ma_ev ro d 116 [.ref a0] sh σ = ma_rn ro d 116 (0, [some (.ref a0)], [], sh, σ) := q_ent x_116 rfl
theorem e117_0 : decode (ma_cd 117) 0 = .ok (.aload_n 0, 1) := (congrArg (fun b => decode b 0) cd_117).trans dX8_much_0
theorem e117_1 : decode (ma_cd 117) 1 = .ok (.aload_n 2, 1) := (congrArg (fun b => decode b 1) cd_117).trans dX8_much_1
theorem e117_2 : decode (ma_cd 117) 2 = .ok (.invokevirtual 95, 3) := (congrArg (fun b => decode b 2) cd_117).trans dX8_much_2
theorem e117_5 : decode (ma_cd 117) 5 = .ok (.aload_n 0, 1) := (congrArg (fun b => decode b 5) cd_117).trans dX8_much_5
theorem e117_6 : decode (ma_cd 117) 6 = .ok (.invokevirtual 89, 3) := (congrArg (fun b => decode b 6) cd_117).trans dX8_much_6
theorem e117_9 : decode (ma_cd 117) 9 = .ok (.istore_n 3, 1) := (congrArg (fun b => decode b 9) cd_117).trans dX8_much_9
theorem e117_10 : decode (ma_cd 117) 10 = .ok (.aload_n 0, 1) := (congrArg (fun b => decode b 10) cd_117).trans dX8_much_10
theorem e117_11 : decode (ma_cd 117) 11 = .ok (.bipush 32, 2) := (congrArg (fun b => decode b 11) cd_117).trans dX8_much_11
theorem e117_13 : decode (ma_cd 117) 13 = .ok (.invokevirtual 62, 3) := (congrArg (fun b => decode b 13) cd_117).trans dX8_much_13
theorem e117_16 : decode (ma_cd 117) 16 = .ok (.aload_n 0, 1) := (congrArg (fun b => decode b 16) cd_117).trans dX8_much_16
theorem e117_17 : decode (ma_cd 117) 17 = .ok (.invokevirtual 78, 3) := (congrArg (fun b => decode b 17) cd_117).trans dX8_much_17
theorem e117_20 : decode (ma_cd 117) 20 = .ok (.aload_n 0, 1) := (congrArg (fun b => decode b 20) cd_117).trans dX8_much_20
theorem e117_21 : decode (ma_cd 117) 21 = .ok (.iload_n 1, 1) := (congrArg (fun b => decode b 21) cd_117).trans dX8_much_21
theorem e117_22 : decode (ma_cd 117) 22 = .ok (.iload_n 3, 1) := (congrArg (fun b => decode b 22) cd_117).trans dX8_much_22
theorem e117_23 : decode (ma_cd 117) 23 = .ok (.isub, 1) := (congrArg (fun b => decode b 23) cd_117).trans dX8_much_23
theorem e117_24 : decode (ma_cd 117) 24 = .ok (.invokevirtual 75, 3) := (congrArg (fun b => decode b 24) cd_117).trans dX8_much_24
theorem e117_27 : decode (ma_cd 117) 27 = .ok (.return_, 1) := (congrArg (fun b => decode b 27) cd_117).trans dX8_much_27
theorem S117 {ro : ma_RO} {d : Nat} : (∀ (v1 : Option Value) (v2 : Option Value) (v3 : Option Value) (a1 : Nat) (st : List Value) (σ : ma_H), ma_rn ro d 117 (0, [some (.ref a1), v1, v2, v3], st, SH, σ) = ma_rn ro d 117 (1, [some (.ref a1), v1, v2, v3], .ref a1 :: st, SH, σ)) ∧
  (∀ (v0 : Option Value) (v1 : Option Value) (v3 : Option Value) (a1 : Nat) (st : List Value) (σ : ma_H), ma_rn ro d 117 (1, [v0, v1, some (.ref a1), v3], st, SH, σ) = ma_rn ro d 117 (2, [v0, v1, some (.ref a1), v3], .ref a1 :: st, SH, σ)) ∧
  (∀ (v0 : Option Value) (v1 : Option Value) (v2 : Option Value) (v3 : Option Value) (a1 : Nat) (a0 : Nat) (σ : ma_H) (hc : hk_cls a0 = 8), ma_rn ro (d + 1) 117 (2, [v0, v1, v2, v3], .ref a1 :: .ref a0 :: [], SH, σ) = (ma_ev ro d 110 [.ref a0, .ref a1] SH σ).bind (fun q => ma_rn ro (d + 1) 117 (5, [v0, v1, v2, v3], (q.1.toList ++ []), q.2.1, q.2.2))) ∧
  (∀ (v1 : Option Value) (v2 : Option Value) (v3 : Option Value) (a1 : Nat) (st : List Value) (σ : ma_H), ma_rn ro d 117 (5, [some (.ref a1), v1, v2, v3], st, SH, σ) = ma_rn ro d 117 (6, [some (.ref a1), v1, v2, v3], .ref a1 :: st, SH, σ)) ∧
  (∀ (v0 : Option Value) (v1 : Option Value) (v2 : Option Value) (v3 : Option Value) (a0 : Nat) (σ : ma_H) (hc : hk_cls a0 = 8), ma_rn ro (d + 1) 117 (6, [v0, v1, v2, v3], .ref a0 :: [], SH, σ) = (ma_ev ro d 111 [.ref a0] SH σ).bind (fun q => ma_rn ro (d + 1) 117 (9, [v0, v1, v2, v3], (q.1.toList ++ []), q.2.1, q.2.2))) ∧
  (∀ (v0 : Option Value) (v1 : Option Value) (v3 : Option Value) (a9 : Nat) (x1 : Int32) (st : List Value) (σ : ma_H), ma_rn ro d 117 (9, [v0, v1, some (.ref a9), v3], .int x1 :: st, SH, σ) = ma_rn ro d 117 (10, [v0, v1, some (.ref a9), some (.int x1)], st, SH, σ)) ∧
  (∀ (v1 : Option Value) (v2 : Option Value) (v3 : Option Value) (a1 : Nat) (st : List Value) (σ : ma_H), ma_rn ro d 117 (10, [some (.ref a1), v1, v2, v3], st, SH, σ) = ma_rn ro d 117 (11, [some (.ref a1), v1, v2, v3], .ref a1 :: st, SH, σ)) ∧
  (∀ (v0 : Option Value) (v1 : Option Value) (v2 : Option Value) (v3 : Option Value) (st : List Value) (σ : ma_H), ma_rn ro d 117 (11, [v0, v1, v2, v3], st, SH, σ) = ma_rn ro d 117 (13, [v0, v1, v2, v3], .int (nI 32) :: st, SH, σ)) ∧
  (∀ (v0 : Option Value) (v1 : Option Value) (v2 : Option Value) (v3 : Option Value) (x1 : Int32) (a0 : Nat) (σ : ma_H) (hc : hk_cls a0 = 8), ma_rn ro (d + 1) 117 (13, [v0, v1, v2, v3], .int x1 :: .ref a0 :: [], SH, σ) = (ma_ev ro d 109 [.ref a0, .int x1] SH σ).bind (fun q => ma_rn ro (d + 1) 117 (16, [v0, v1, v2, v3], (q.1.toList ++ []), q.2.1, q.2.2))) ∧
  (∀ (v1 : Option Value) (v2 : Option Value) (v3 : Option Value) (a1 : Nat) (st : List Value) (σ : ma_H), ma_rn ro d 117 (16, [some (.ref a1), v1, v2, v3], st, SH, σ) = ma_rn ro d 117 (17, [some (.ref a1), v1, v2, v3], .ref a1 :: st, SH, σ)) ∧
  (∀ (v0 : Option Value) (v1 : Option Value) (v2 : Option Value) (v3 : Option Value) (a0 : Nat) (σ : ma_H) (hc : hk_cls a0 = 8), ma_rn ro (d + 1) 117 (17, [v0, v1, v2, v3], .ref a0 :: [], SH, σ) = (ma_ev ro d 116 [.ref a0] SH σ).bind (fun q => ma_rn ro (d + 1) 117 (20, [v0, v1, v2, v3], (q.1.toList ++ []), q.2.1, q.2.2))) ∧
  (∀ (v1 : Option Value) (v2 : Option Value) (v3 : Option Value) (a1 : Nat) (st : List Value) (σ : ma_H), ma_rn ro d 117 (20, [some (.ref a1), v1, v2, v3], st, SH, σ) = ma_rn ro d 117 (21, [some (.ref a1), v1, v2, v3], .ref a1 :: st, SH, σ)) ∧
  (∀ (v0 : Option Value) (v2 : Option Value) (v3 : Option Value) (x1 : Int32) (st : List Value) (σ : ma_H), ma_rn ro d 117 (21, [v0, some (.int x1), v2, v3], st, SH, σ) = ma_rn ro d 117 (22, [v0, some (.int x1), v2, v3], .int x1 :: st, SH, σ)) ∧
  (∀ (v0 : Option Value) (v1 : Option Value) (v2 : Option Value) (x1 : Int32) (st : List Value) (σ : ma_H), ma_rn ro d 117 (22, [v0, v1, v2, some (.int x1)], st, SH, σ) = ma_rn ro d 117 (23, [v0, v1, v2, some (.int x1)], .int x1 :: st, SH, σ)) ∧
  (∀ (v0 : Option Value) (v1 : Option Value) (v2 : Option Value) (v3 : Option Value) (x1 : Int32) (x2 : Int32) (st : List Value) (σ : ma_H), ma_rn ro d 117 (23, [v0, v1, v2, v3], .int x1 :: .int x2 :: st, SH, σ) = ma_rn ro d 117 (24, [v0, v1, v2, v3], .int (x2 - x1) :: st, SH, σ)) ∧
  (∀ (v0 : Option Value) (v1 : Option Value) (v2 : Option Value) (v3 : Option Value) (x1 : Int32) (a0 : Nat) (σ : ma_H) (hc : hk_cls a0 = 8), ma_rn ro (d + 1) 117 (24, [v0, v1, v2, v3], .int x1 :: .ref a0 :: [], SH, σ) = (ma_ev ro d 113 [.ref a0, .int x1] SH σ).bind (fun q => ma_rn ro (d + 1) 117 (27, [v0, v1, v2, v3], (q.1.toList ++ []), q.2.1, q.2.2))) ∧
  (∀ (v0 : Option Value) (v1 : Option Value) (v2 : Option Value) (v3 : Option Value) (σ : ma_H), ma_rn ro d 117 (27, [v0, v1, v2, v3], [], SH, σ) = some (none, SH, σ)) := ⟨fun v1 v2 v3 a1 st σ => q_go e117_0 rfl rfl,
  fun v0 v1 v3 a1 st σ => q_go e117_1 rfl rfl,
  fun v0 v1 v2 v3 a1 a0 σ hc => q_invV (as := [.ref a1]) (rest := []) e117_2 o_117 bn_8_95 c_8_95 m_110 (by decide) rfl rfl (Nat.le_of_ble_eq_true rfl) (Nat.le_of_ble_eq_true rfl) hc,
  fun v1 v2 v3 a1 st σ => q_go e117_5 rfl rfl,
  fun v0 v1 v2 v3 a0 σ hc => q_invV (as := []) (rest := []) e117_6 o_117 bn_8_89 c_8_89 m_111 (by decide) rfl rfl (Nat.le_of_ble_eq_true rfl) (Nat.le_of_ble_eq_true rfl) hc,
  fun v0 v1 v3 a9 x1 st σ => q_go e117_9 rfl rfl,
  fun v1 v2 v3 a1 st σ => q_go e117_10 rfl rfl,
  fun v0 v1 v2 v3 st σ => q_bipush e117_11 (by decide),
  fun v0 v1 v2 v3 x1 a0 σ hc => q_invV (as := [.int x1]) (rest := []) e117_13 o_117 bn_8_62 c_8_62 m_109 (by decide) rfl rfl (Nat.le_of_ble_eq_true rfl) (Nat.le_of_ble_eq_true rfl) hc,
  fun v1 v2 v3 a1 st σ => q_go e117_16 rfl rfl,
  fun v0 v1 v2 v3 a0 σ hc => q_invV (as := []) (rest := []) e117_17 o_117 bn_8_78 c_8_78 m_116 (by decide) rfl rfl (Nat.le_of_ble_eq_true rfl) (Nat.le_of_ble_eq_true rfl) hc,
  fun v1 v2 v3 a1 st σ => q_go e117_20 rfl rfl,
  fun v0 v2 v3 x1 st σ => q_go e117_21 rfl rfl,
  fun v0 v1 v2 x1 st σ => q_go e117_22 rfl rfl,
  fun v0 v1 v2 v3 x1 x2 st σ => q_go e117_23 rfl rfl,
  fun v0 v1 v2 v3 x1 a0 σ hc => q_invV (as := [.int x1]) (rest := []) e117_24 o_117 bn_8_75 c_8_75 m_113 (by decide) rfl rfl (Nat.le_of_ble_eq_true rfl) (Nat.le_of_ble_eq_true rfl) hc,
  fun v0 v1 v2 v3 σ => q_vret e117_27 r_117⟩
theorem E117 {ro : ma_RO} {d : Nat} (a0 : Nat) (x1 : Int32) (a2 : Nat) (sh : List ma_Sh) (σ : ma_H) : ma_ev ro d 117 [.ref a0, .int x1, .ref a2] sh σ = ma_rn ro d 117 (0, [some (.ref a0), some (.int x1), some (.ref a2), none], [], sh, σ) := q_ent x_117 rfl
theorem e118_0 : decode (ma_cd 118) 0 = .ok (.aload_n 0, 1) := (congrArg (fun b => decode b 0) cd_118).trans dX8_tellsHere_0
theorem e118_1 : decode (ma_cd 118) 1 = .ok (.aload_n 2, 1) := (congrArg (fun b => decode b 1) cd_118).trans dX8_tellsHere_1
theorem e118_2 : decode (ma_cd 118) 2 = .ok (.invokevirtual 95, 3) := (congrArg (fun b => decode b 2) cd_118).trans dX8_tellsHere_2
theorem e118_5 : decode (ma_cd 118) 5 = .ok (.aload_n 0, 1) := (congrArg (fun b => decode b 5) cd_118).trans dX8_tellsHere_5
theorem e118_6 : decode (ma_cd 118) 6 = .ok (.invokevirtual 89, 3) := (congrArg (fun b => decode b 6) cd_118).trans dX8_tellsHere_6
theorem e118_9 : decode (ma_cd 118) 9 = .ok (.istore_n 3, 1) := (congrArg (fun b => decode b 9) cd_118).trans dX8_tellsHere_9
theorem e118_10 : decode (ma_cd 118) 10 = .ok (.aload_n 0, 1) := (congrArg (fun b => decode b 10) cd_118).trans dX8_tellsHere_10
theorem e118_11 : decode (ma_cd 118) 11 = .ok (.getfield 45, 3) := (congrArg (fun b => decode b 11) cd_118).trans dX8_tellsHere_11
theorem e118_14 : decode (ma_cd 118) 14 = .ok (.ifCond .ne 15, 3) := (congrArg (fun b => decode b 14) cd_118).trans dX8_tellsHere_14
theorem e118_17 : decode (ma_cd 118) 17 = .ok (.aload_n 0, 1) := (congrArg (fun b => decode b 17) cd_118).trans dX8_tellsHere_17
theorem e118_18 : decode (ma_cd 118) 18 = .ok (.getfield 9, 3) := (congrArg (fun b => decode b 18) cd_118).trans dX8_tellsHere_18
theorem e118_21 : decode (ma_cd 118) 21 = .ok (.iload_n 1, 1) := (congrArg (fun b => decode b 21) cd_118).trans dX8_tellsHere_21
theorem e118_22 : decode (ma_cd 118) 22 = .ok (.aload_n 0, 1) := (congrArg (fun b => decode b 22) cd_118).trans dX8_tellsHere_22
theorem e118_23 : decode (ma_cd 118) 23 = .ok (.getfield 66, 3) := (congrArg (fun b => decode b 23) cd_118).trans dX8_tellsHere_23
theorem e118_26 : decode (ma_cd 118) 26 = .ok (.iadd, 1) := (congrArg (fun b => decode b 26) cd_118).trans dX8_tellsHere_26
theorem e118_27 : decode (ma_cd 118) 27 = .ok (.iload_n 3, 1) := (congrArg (fun b => decode b 27) cd_118).trans dX8_tellsHere_27
theorem e118_28 : decode (ma_cd 118) 28 = .ok (.iastore, 1) := (congrArg (fun b => decode b 28) cd_118).trans dX8_tellsHere_28
theorem e118_29 : decode (ma_cd 118) 29 = .ok (.return_, 1) := (congrArg (fun b => decode b 29) cd_118).trans dX8_tellsHere_29
theorem S118 {ro : ma_RO} {d : Nat} : (∀ (v1 : Option Value) (v2 : Option Value) (v3 : Option Value) (a1 : Nat) (st : List Value) (σ : ma_H), ma_rn ro d 118 (0, [some (.ref a1), v1, v2, v3], st, SH, σ) = ma_rn ro d 118 (1, [some (.ref a1), v1, v2, v3], .ref a1 :: st, SH, σ)) ∧
  (∀ (v0 : Option Value) (v1 : Option Value) (v3 : Option Value) (a1 : Nat) (st : List Value) (σ : ma_H), ma_rn ro d 118 (1, [v0, v1, some (.ref a1), v3], st, SH, σ) = ma_rn ro d 118 (2, [v0, v1, some (.ref a1), v3], .ref a1 :: st, SH, σ)) ∧
  (∀ (v0 : Option Value) (v1 : Option Value) (v2 : Option Value) (v3 : Option Value) (a1 : Nat) (a0 : Nat) (σ : ma_H) (hc : hk_cls a0 = 8), ma_rn ro (d + 1) 118 (2, [v0, v1, v2, v3], .ref a1 :: .ref a0 :: [], SH, σ) = (ma_ev ro d 110 [.ref a0, .ref a1] SH σ).bind (fun q => ma_rn ro (d + 1) 118 (5, [v0, v1, v2, v3], (q.1.toList ++ []), q.2.1, q.2.2))) ∧
  (∀ (v1 : Option Value) (v2 : Option Value) (v3 : Option Value) (a1 : Nat) (st : List Value) (σ : ma_H), ma_rn ro d 118 (5, [some (.ref a1), v1, v2, v3], st, SH, σ) = ma_rn ro d 118 (6, [some (.ref a1), v1, v2, v3], .ref a1 :: st, SH, σ)) ∧
  (∀ (v0 : Option Value) (v1 : Option Value) (v2 : Option Value) (v3 : Option Value) (a0 : Nat) (σ : ma_H) (hc : hk_cls a0 = 8), ma_rn ro (d + 1) 118 (6, [v0, v1, v2, v3], .ref a0 :: [], SH, σ) = (ma_ev ro d 111 [.ref a0] SH σ).bind (fun q => ma_rn ro (d + 1) 118 (9, [v0, v1, v2, v3], (q.1.toList ++ []), q.2.1, q.2.2))) ∧
  (∀ (v0 : Option Value) (v1 : Option Value) (v3 : Option Value) (a9 : Nat) (x1 : Int32) (st : List Value) (σ : ma_H), ma_rn ro d 118 (9, [v0, v1, some (.ref a9), v3], .int x1 :: st, SH, σ) = ma_rn ro d 118 (10, [v0, v1, some (.ref a9), some (.int x1)], st, SH, σ)) ∧
  (∀ (v1 : Option Value) (v2 : Option Value) (v3 : Option Value) (a1 : Nat) (st : List Value) (σ : ma_H), ma_rn ro d 118 (10, [some (.ref a1), v1, v2, v3], st, SH, σ) = ma_rn ro d 118 (11, [some (.ref a1), v1, v2, v3], .ref a1 :: st, SH, σ)) ∧
  (∀ (v0 : Option Value) (v1 : Option Value) (v2 : Option Value) (v3 : Option Value) (a1 : Nat) (st : List Value) (σ : ma_H) (hc : hk_cls a1 = 8), ma_rn ro d 118 (11, [v0, v1, v2, v3], .ref a1 :: st, SH, σ) = ma_rn ro d 118 (14, [v0, v1, v2, v3], .int (σ a1 8) :: st, SH, σ)) ∧
  (∀ (v0 : Option Value) (v1 : Option Value) (v2 : Option Value) (v3 : Option Value) (x1 : Int32) (st : List Value) (σ : ma_H), ma_rn ro d 118 (14, [v0, v1, v2, v3], .int x1 :: st, SH, σ) = if x1 = nI 0 then ma_rn ro d 118 (17, [v0, v1, v2, v3], st, SH, σ) else ma_rn ro d 118 (29, [v0, v1, v2, v3], st, SH, σ)) ∧
  (∀ (v1 : Option Value) (v2 : Option Value) (v3 : Option Value) (a1 : Nat) (st : List Value) (σ : ma_H), ma_rn ro d 118 (17, [some (.ref a1), v1, v2, v3], st, SH, σ) = ma_rn ro d 118 (18, [some (.ref a1), v1, v2, v3], .ref a1 :: st, SH, σ)) ∧
  (∀ (v0 : Option Value) (v1 : Option Value) (v2 : Option Value) (v3 : Option Value) (a1 : Nat) (st : List Value) (σ : ma_H) (hc : hk_cls a1 = 8), ma_rn ro d 118 (18, [v0, v1, v2, v3], .ref a1 :: st, SH, σ) = ma_rn ro d 118 (21, [v0, v1, v2, v3], .ref (91) :: st, SH, σ)) ∧
  (∀ (v0 : Option Value) (v2 : Option Value) (v3 : Option Value) (x1 : Int32) (st : List Value) (σ : ma_H), ma_rn ro d 118 (21, [v0, some (.int x1), v2, v3], st, SH, σ) = ma_rn ro d 118 (22, [v0, some (.int x1), v2, v3], .int x1 :: st, SH, σ)) ∧
  (∀ (v1 : Option Value) (v2 : Option Value) (v3 : Option Value) (a1 : Nat) (st : List Value) (σ : ma_H), ma_rn ro d 118 (22, [some (.ref a1), v1, v2, v3], st, SH, σ) = ma_rn ro d 118 (23, [some (.ref a1), v1, v2, v3], .ref a1 :: st, SH, σ)) ∧
  (∀ (v0 : Option Value) (v1 : Option Value) (v2 : Option Value) (v3 : Option Value) (a1 : Nat) (st : List Value) (σ : ma_H) (hc : hk_cls a1 = 8), ma_rn ro d 118 (23, [v0, v1, v2, v3], .ref a1 :: st, SH, σ) = ma_rn ro d 118 (26, [v0, v1, v2, v3], .int (σ a1 5) :: st, SH, σ)) ∧
  (∀ (v0 : Option Value) (v1 : Option Value) (v2 : Option Value) (v3 : Option Value) (x1 : Int32) (x2 : Int32) (st : List Value) (σ : ma_H), ma_rn ro d 118 (26, [v0, v1, v2, v3], .int x1 :: .int x2 :: st, SH, σ) = ma_rn ro d 118 (27, [v0, v1, v2, v3], .int (x2 + x1) :: st, SH, σ)) ∧
  (∀ (v0 : Option Value) (v1 : Option Value) (v2 : Option Value) (x1 : Int32) (st : List Value) (σ : ma_H), ma_rn ro d 118 (27, [v0, v1, v2, some (.int x1)], st, SH, σ) = ma_rn ro d 118 (28, [v0, v1, v2, some (.int x1)], .int x1 :: st, SH, σ)) ∧
  (∀ (v0 : Option Value) (v1 : Option Value) (v2 : Option Value) (v3 : Option Value) (x1 : Int32) (k : Nat) (a3 : Nat) (st : List Value) (σ : ma_H) (hk : k < hk_len a3), ma_rn ro d 118 (28, [v0, v1, v2, v3], .int x1 :: .int (nI k) :: .ref a3 :: st, SH, σ) = ma_rn ro d 118 (29, [v0, v1, v2, v3], st, SH, (ma_up σ a3 k x1))) ∧
  (∀ (v0 : Option Value) (v1 : Option Value) (v2 : Option Value) (v3 : Option Value) (σ : ma_H), ma_rn ro d 118 (29, [v0, v1, v2, v3], [], SH, σ) = some (none, SH, σ)) := ⟨fun v1 v2 v3 a1 st σ => q_go e118_0 rfl rfl,
  fun v0 v1 v3 a1 st σ => q_go e118_1 rfl rfl,
  fun v0 v1 v2 v3 a1 a0 σ hc => q_invV (as := [.ref a1]) (rest := []) e118_2 o_118 bn_8_95 c_8_95 m_110 (by decide) rfl rfl (Nat.le_of_ble_eq_true rfl) (Nat.le_of_ble_eq_true rfl) hc,
  fun v1 v2 v3 a1 st σ => q_go e118_5 rfl rfl,
  fun v0 v1 v2 v3 a0 σ hc => q_invV (as := []) (rest := []) e118_6 o_118 bn_8_89 c_8_89 m_111 (by decide) rfl rfl (Nat.le_of_ble_eq_true rfl) (Nat.le_of_ble_eq_true rfl) hc,
  fun v0 v1 v3 a9 x1 st σ => q_go e118_9 rfl rfl,
  fun v1 v2 v3 a1 st σ => q_go e118_10 rfl rfl,
  fun v0 v1 v2 v3 a1 st σ hc => q_getI e118_11 o_118 f_8_45 (by decide) hc,
  fun v0 v1 v2 v3 x1 st σ => (q_if e118_14 rfl).trans q_ne,
  fun v1 v2 v3 a1 st σ => q_go e118_17 rfl rfl,
  fun v0 v1 v2 v3 a1 st σ hc => q_getA e118_18 o_118 f_8_9 (by decide) hc,
  fun v0 v2 v3 x1 st σ => q_go e118_21 rfl rfl,
  fun v1 v2 v3 a1 st σ => q_go e118_22 rfl rfl,
  fun v0 v1 v2 v3 a1 st σ hc => q_getI e118_23 o_118 f_8_66 (by decide) hc,
  fun v0 v1 v2 v3 x1 x2 st σ => q_go e118_26 rfl rfl,
  fun v0 v1 v2 x1 st σ => q_go e118_27 rfl rfl,
  fun v0 v1 v2 v3 x1 k a3 st σ hk => q_iast e118_28 hk,
  fun v0 v1 v2 v3 σ => q_vret e118_29 r_118⟩
theorem E118 {ro : ma_RO} {d : Nat} (a0 : Nat) (x1 : Int32) (a2 : Nat) (sh : List ma_Sh) (σ : ma_H) : ma_ev ro d 118 [.ref a0, .int x1, .ref a2] sh σ = ma_rn ro d 118 (0, [some (.ref a0), some (.int x1), some (.ref a2), none], [], sh, σ) := q_ent x_118 rfl
theorem e119_0 : decode (ma_cd 119) 0 = .ok (.aload_n 0, 1) := (congrArg (fun b => decode b 0) cd_119).trans dX8_second_0
theorem e119_1 : decode (ma_cd 119) 1 = .ok (.getfield 39, 3) := (congrArg (fun b => decode b 1) cd_119).trans dX8_second_1
theorem e119_4 : decode (ma_cd 119) 4 = .ok (.iconst 1, 1) := (congrArg (fun b => decode b 4) cd_119).trans dX8_second_4
theorem e119_5 : decode (ma_cd 119) 5 = .ok (.iadd, 1) := (congrArg (fun b => decode b 5) cd_119).trans dX8_second_5
theorem e119_6 : decode (ma_cd 119) 6 = .ok (.aload_n 0, 1) := (congrArg (fun b => decode b 6) cd_119).trans dX8_second_6
theorem e119_7 : decode (ma_cd 119) 7 = .ok (.getfield 42, 3) := (congrArg (fun b => decode b 7) cd_119).trans dX8_second_7
theorem e119_10 : decode (ma_cd 119) 10 = .ok (.if_icmp .ge 20, 3) := (congrArg (fun b => decode b 10) cd_119).trans dX8_second_10
theorem e119_13 : decode (ma_cd 119) 13 = .ok (.aload_n 0, 1) := (congrArg (fun b => decode b 13) cd_119).trans dX8_second_13
theorem e119_14 : decode (ma_cd 119) 14 = .ok (.getfield 9, 3) := (congrArg (fun b => decode b 14) cd_119).trans dX8_second_14
theorem e119_17 : decode (ma_cd 119) 17 = .ok (.bipush 123, 2) := (congrArg (fun b => decode b 17) cd_119).trans dX8_second_17
theorem e119_19 : decode (ma_cd 119) 19 = .ok (.aload_n 0, 1) := (congrArg (fun b => decode b 19) cd_119).trans dX8_second_19
theorem e119_20 : decode (ma_cd 119) 20 = .ok (.getfield 39, 3) := (congrArg (fun b => decode b 20) cd_119).trans dX8_second_20
theorem e119_23 : decode (ma_cd 119) 23 = .ok (.iadd, 1) := (congrArg (fun b => decode b 23) cd_119).trans dX8_second_23
theorem e119_24 : decode (ma_cd 119) 24 = .ok (.iconst 1, 1) := (congrArg (fun b => decode b 24) cd_119).trans dX8_second_24
theorem e119_25 : decode (ma_cd 119) 25 = .ok (.iadd, 1) := (congrArg (fun b => decode b 25) cd_119).trans dX8_second_25
theorem e119_26 : decode (ma_cd 119) 26 = .ok (.iaload, 1) := (congrArg (fun b => decode b 26) cd_119).trans dX8_second_26
theorem e119_27 : decode (ma_cd 119) 27 = .ok (.goto 4, 3) := (congrArg (fun b => decode b 27) cd_119).trans dX8_second_27
theorem e119_30 : decode (ma_cd 119) 30 = .ok (.iconst (-1), 1) := (congrArg (fun b => decode b 30) cd_119).trans dX8_second_30
theorem e119_31 : decode (ma_cd 119) 31 = .ok (.ireturn, 1) := (congrArg (fun b => decode b 31) cd_119).trans dX8_second_31
theorem S119 {ro : ma_RO} {d : Nat} : (∀ (a1 : Nat) (st : List Value) (σ : ma_H), ma_rn ro d 119 (0, [some (.ref a1)], st, SH, σ) = ma_rn ro d 119 (1, [some (.ref a1)], .ref a1 :: st, SH, σ)) ∧
  (∀ (v0 : Option Value) (a1 : Nat) (st : List Value) (σ : ma_H) (hc : hk_cls a1 = 8), ma_rn ro d 119 (1, [v0], .ref a1 :: st, SH, σ) = ma_rn ro d 119 (4, [v0], .int (σ a1 6) :: st, SH, σ)) ∧
  (∀ (v0 : Option Value) (st : List Value) (σ : ma_H), ma_rn ro d 119 (4, [v0], st, SH, σ) = ma_rn ro d 119 (5, [v0], .int (nI 1) :: st, SH, σ)) ∧
  (∀ (v0 : Option Value) (x1 : Int32) (x2 : Int32) (st : List Value) (σ : ma_H), ma_rn ro d 119 (5, [v0], .int x1 :: .int x2 :: st, SH, σ) = ma_rn ro d 119 (6, [v0], .int (x2 + x1) :: st, SH, σ)) ∧
  (∀ (a1 : Nat) (st : List Value) (σ : ma_H), ma_rn ro d 119 (6, [some (.ref a1)], st, SH, σ) = ma_rn ro d 119 (7, [some (.ref a1)], .ref a1 :: st, SH, σ)) ∧
  (∀ (v0 : Option Value) (a1 : Nat) (st : List Value) (σ : ma_H) (hc : hk_cls a1 = 8), ma_rn ro d 119 (7, [v0], .ref a1 :: st, SH, σ) = ma_rn ro d 119 (10, [v0], .int (σ a1 7) :: st, SH, σ)) ∧
  (∀ (v0 : Option Value) (x1 : Int32) (x2 : Int32) (st : List Value) (σ : ma_H), ma_rn ro d 119 (10, [v0], .int x1 :: .int x2 :: st, SH, σ) = if x2 < x1 then ma_rn ro d 119 (13, [v0], st, SH, σ) else ma_rn ro d 119 (30, [v0], st, SH, σ)) ∧
  (∀ (a1 : Nat) (st : List Value) (σ : ma_H), ma_rn ro d 119 (13, [some (.ref a1)], st, SH, σ) = ma_rn ro d 119 (14, [some (.ref a1)], .ref a1 :: st, SH, σ)) ∧
  (∀ (v0 : Option Value) (a1 : Nat) (st : List Value) (σ : ma_H) (hc : hk_cls a1 = 8), ma_rn ro d 119 (14, [v0], .ref a1 :: st, SH, σ) = ma_rn ro d 119 (17, [v0], .ref (91) :: st, SH, σ)) ∧
  (∀ (v0 : Option Value) (st : List Value) (σ : ma_H), ma_rn ro d 119 (17, [v0], st, SH, σ) = ma_rn ro d 119 (19, [v0], .int (nI 123) :: st, SH, σ)) ∧
  (∀ (a1 : Nat) (st : List Value) (σ : ma_H), ma_rn ro d 119 (19, [some (.ref a1)], st, SH, σ) = ma_rn ro d 119 (20, [some (.ref a1)], .ref a1 :: st, SH, σ)) ∧
  (∀ (v0 : Option Value) (a1 : Nat) (st : List Value) (σ : ma_H) (hc : hk_cls a1 = 8), ma_rn ro d 119 (20, [v0], .ref a1 :: st, SH, σ) = ma_rn ro d 119 (23, [v0], .int (σ a1 6) :: st, SH, σ)) ∧
  (∀ (v0 : Option Value) (x1 : Int32) (x2 : Int32) (st : List Value) (σ : ma_H), ma_rn ro d 119 (23, [v0], .int x1 :: .int x2 :: st, SH, σ) = ma_rn ro d 119 (24, [v0], .int (x2 + x1) :: st, SH, σ)) ∧
  (∀ (v0 : Option Value) (st : List Value) (σ : ma_H), ma_rn ro d 119 (24, [v0], st, SH, σ) = ma_rn ro d 119 (25, [v0], .int (nI 1) :: st, SH, σ)) ∧
  (∀ (v0 : Option Value) (x1 : Int32) (x2 : Int32) (st : List Value) (σ : ma_H), ma_rn ro d 119 (25, [v0], .int x1 :: .int x2 :: st, SH, σ) = ma_rn ro d 119 (26, [v0], .int (x2 + x1) :: st, SH, σ)) ∧
  (∀ (v0 : Option Value) (k : Nat) (a2 : Nat) (st : List Value) (σ : ma_H) (hk : k < hk_len a2), ma_rn ro d 119 (26, [v0], .int (nI k) :: .ref a2 :: st, SH, σ) = ma_rn ro d 119 (27, [v0], .int (σ a2 k) :: st, SH, σ)) ∧
  (∀ (v0 : Option Value) (st : List Value) (σ : ma_H), ma_rn ro d 119 (27, [v0], st, SH, σ) = ma_rn ro d 119 (31, [v0], st, SH, σ)) ∧
  (∀ (v0 : Option Value) (st : List Value) (σ : ma_H), ma_rn ro d 119 (30, [v0], st, SH, σ) = ma_rn ro d 119 (31, [v0], .int ((-1)) :: st, SH, σ)) ∧
  (∀ (v0 : Option Value) (x1 : Int32) (σ : ma_H), ma_rn ro d 119 (31, [v0], [.int x1], SH, σ) = some (some (.int x1), SH, σ)) := ⟨fun a1 st σ => q_go e119_0 rfl rfl,
  fun v0 a1 st σ hc => q_getI e119_1 o_119 f_8_39 (by decide) hc,
  fun v0 st σ => q_iconst e119_4 (by decide),
  fun v0 x1 x2 st σ => q_go e119_5 rfl rfl,
  fun a1 st σ => q_go e119_6 rfl rfl,
  fun v0 a1 st σ hc => q_getI e119_7 o_119 f_8_42 (by decide) hc,
  fun v0 x1 x2 st σ => (q_cmp e119_10 rfl).trans q_nlt,
  fun a1 st σ => q_go e119_13 rfl rfl,
  fun v0 a1 st σ hc => q_getA e119_14 o_119 f_8_9 (by decide) hc,
  fun v0 st σ => q_bipush e119_17 (by decide),
  fun a1 st σ => q_go e119_19 rfl rfl,
  fun v0 a1 st σ hc => q_getI e119_20 o_119 f_8_39 (by decide) hc,
  fun v0 x1 x2 st σ => q_go e119_23 rfl rfl,
  fun v0 st σ => q_iconst e119_24 (by decide),
  fun v0 x1 x2 st σ => q_go e119_25 rfl rfl,
  fun v0 k a2 st σ hk => q_iald e119_26 hk,
  fun v0 st σ => q_goto e119_27 rfl,
  fun v0 st σ => q_iconst e119_30 (by decide),
  fun v0 x1 σ => q_iret e119_31 r_119⟩
theorem E119 {ro : ma_RO} {d : Nat} (a0 : Nat) (sh : List ma_Sh) (σ : ma_H) : ma_ev ro d 119 [.ref a0] sh σ = ma_rn ro d 119 (0, [some (.ref a0)], [], sh, σ) := q_ent x_119 rfl
theorem e120_0 : decode (ma_cd 120) 0 = .ok (.aload_n 0, 1) := (congrArg (fun b => decode b 0) cd_120).trans dX8_clauseHere_0
theorem e120_1 : decode (ma_cd 120) 1 = .ok (.invokevirtual 49, 3) := (congrArg (fun b => decode b 1) cd_120).trans dX8_clauseHere_1
theorem e120_4 : decode (ma_cd 120) 4 = .ok (.bipush 119, 2) := (congrArg (fun b => decode b 4) cd_120).trans dX8_clauseHere_4
theorem e120_6 : decode (ma_cd 120) 6 = .ok (.if_icmp .ne 15, 3) := (congrArg (fun b => decode b 6) cd_120).trans dX8_clauseHere_6
theorem e120_9 : decode (ma_cd 120) 9 = .ok (.aload_n 0, 1) := (congrArg (fun b => decode b 9) cd_120).trans dX8_clauseHere_9
theorem e120_10 : decode (ma_cd 120) 10 = .ok (.sipush 223, 3) := (congrArg (fun b => decode b 10) cd_120).trans dX8_clauseHere_10
theorem e120_13 : decode (ma_cd 120) 13 = .ok (.ldc 99, 2) := (congrArg (fun b => decode b 13) cd_120).trans dX8_clauseHere_13
theorem e120_15 : decode (ma_cd 120) 15 = .ok (.invokevirtual 101, 3) := (congrArg (fun b => decode b 15) cd_120).trans dX8_clauseHere_15
theorem e120_18 : decode (ma_cd 120) 18 = .ok (.goto 58, 3) := (congrArg (fun b => decode b 18) cd_120).trans dX8_clauseHere_18
theorem e120_21 : decode (ma_cd 120) 21 = .ok (.aload_n 0, 1) := (congrArg (fun b => decode b 21) cd_120).trans dX8_clauseHere_21
theorem e120_22 : decode (ma_cd 120) 22 = .ok (.invokevirtual 49, 3) := (congrArg (fun b => decode b 22) cd_120).trans dX8_clauseHere_22
theorem e120_25 : decode (ma_cd 120) 25 = .ok (.bipush 104, 2) := (congrArg (fun b => decode b 25) cd_120).trans dX8_clauseHere_25
theorem e120_27 : decode (ma_cd 120) 27 = .ok (.if_icmp .ne 23, 3) := (congrArg (fun b => decode b 27) cd_120).trans dX8_clauseHere_27
theorem e120_30 : decode (ma_cd 120) 30 = .ok (.aload_n 0, 1) := (congrArg (fun b => decode b 30) cd_120).trans dX8_clauseHere_30
theorem e120_31 : decode (ma_cd 120) 31 = .ok (.invokevirtual 105, 3) := (congrArg (fun b => decode b 31) cd_120).trans dX8_clauseHere_31
theorem e120_34 : decode (ma_cd 120) 34 = .ok (.bipush 101, 2) := (congrArg (fun b => decode b 34) cd_120).trans dX8_clauseHere_34
theorem e120_36 : decode (ma_cd 120) 36 = .ok (.if_icmp .ne 14, 3) := (congrArg (fun b => decode b 36) cd_120).trans dX8_clauseHere_36
theorem e120_39 : decode (ma_cd 120) 39 = .ok (.aload_n 0, 1) := (congrArg (fun b => decode b 39) cd_120).trans dX8_clauseHere_39
theorem e120_40 : decode (ma_cd 120) 40 = .ok (.bipush (-10), 2) := (congrArg (fun b => decode b 40) cd_120).trans dX8_clauseHere_40
theorem e120_42 : decode (ma_cd 120) 42 = .ok (.ldc 108, 2) := (congrArg (fun b => decode b 42) cd_120).trans dX8_clauseHere_42
theorem e120_44 : decode (ma_cd 120) 44 = .ok (.invokevirtual 110, 3) := (congrArg (fun b => decode b 44) cd_120).trans dX8_clauseHere_44
theorem e120_47 : decode (ma_cd 120) 47 = .ok (.goto 29, 3) := (congrArg (fun b => decode b 47) cd_120).trans dX8_clauseHere_47
theorem e120_50 : decode (ma_cd 120) 50 = .ok (.aload_n 0, 1) := (congrArg (fun b => decode b 50) cd_120).trans dX8_clauseHere_50
theorem e120_51 : decode (ma_cd 120) 51 = .ok (.invokevirtual 49, 3) := (congrArg (fun b => decode b 51) cd_120).trans dX8_clauseHere_51
theorem e120_54 : decode (ma_cd 120) 54 = .ok (.bipush 104, 2) := (congrArg (fun b => decode b 54) cd_120).trans dX8_clauseHere_54
theorem e120_56 : decode (ma_cd 120) 56 = .ok (.if_icmp .ne 15, 3) := (congrArg (fun b => decode b 56) cd_120).trans dX8_clauseHere_56
theorem e120_59 : decode (ma_cd 120) 59 = .ok (.aload_n 0, 1) := (congrArg (fun b => decode b 59) cd_120).trans dX8_clauseHere_59
theorem e120_60 : decode (ma_cd 120) 60 = .ok (.sipush (-200), 3) := (congrArg (fun b => decode b 60) cd_120).trans dX8_clauseHere_60
theorem e120_63 : decode (ma_cd 120) 63 = .ok (.ldc 113, 2) := (congrArg (fun b => decode b 63) cd_120).trans dX8_clauseHere_63
theorem e120_65 : decode (ma_cd 120) 65 = .ok (.invokevirtual 110, 3) := (congrArg (fun b => decode b 65) cd_120).trans dX8_clauseHere_65
theorem e120_68 : decode (ma_cd 120) 68 = .ok (.goto 8, 3) := (congrArg (fun b => decode b 68) cd_120).trans dX8_clauseHere_68
theorem e120_71 : decode (ma_cd 120) 71 = .ok (.aload_n 0, 1) := (congrArg (fun b => decode b 71) cd_120).trans dX8_clauseHere_71
theorem e120_72 : decode (ma_cd 120) 72 = .ok (.iconst 1, 1) := (congrArg (fun b => decode b 72) cd_120).trans dX8_clauseHere_72
theorem e120_73 : decode (ma_cd 120) 73 = .ok (.putfield 45, 3) := (congrArg (fun b => decode b 73) cd_120).trans dX8_clauseHere_73
theorem e120_76 : decode (ma_cd 120) 76 = .ok (.return_, 1) := (congrArg (fun b => decode b 76) cd_120).trans dX8_clauseHere_76
theorem S120 {ro : ma_RO} {d : Nat} : (∀ (a1 : Nat) (st : List Value) (σ : ma_H), ma_rn ro d 120 (0, [some (.ref a1)], st, SH, σ) = ma_rn ro d 120 (1, [some (.ref a1)], .ref a1 :: st, SH, σ)) ∧
  (∀ (v0 : Option Value) (a0 : Nat) (σ : ma_H) (hc : hk_cls a0 = 8), ma_rn ro (d + 1) 120 (1, [v0], .ref a0 :: [], SH, σ) = (ma_ev ro d 108 [.ref a0] SH σ).bind (fun q => ma_rn ro (d + 1) 120 (4, [v0], (q.1.toList ++ []), q.2.1, q.2.2))) ∧
  (∀ (v0 : Option Value) (st : List Value) (σ : ma_H), ma_rn ro d 120 (4, [v0], st, SH, σ) = ma_rn ro d 120 (6, [v0], .int (nI 119) :: st, SH, σ)) ∧
  (∀ (v0 : Option Value) (x1 : Int32) (x2 : Int32) (st : List Value) (σ : ma_H), ma_rn ro d 120 (6, [v0], .int x1 :: .int x2 :: st, SH, σ) = if x2 = x1 then ma_rn ro d 120 (9, [v0], st, SH, σ) else ma_rn ro d 120 (21, [v0], st, SH, σ)) ∧
  (∀ (a1 : Nat) (st : List Value) (σ : ma_H), ma_rn ro d 120 (9, [some (.ref a1)], st, SH, σ) = ma_rn ro d 120 (10, [some (.ref a1)], .ref a1 :: st, SH, σ)) ∧
  (∀ (v0 : Option Value) (st : List Value) (σ : ma_H), ma_rn ro d 120 (10, [v0], st, SH, σ) = ma_rn ro d 120 (13, [v0], .int (nI 223) :: st, SH, σ)) ∧
  (∀ (v0 : Option Value) (st : List Value) (σ : ma_H), ma_rn ro d 120 (13, [v0], st, SH, σ) = ma_rn ro d 120 (15, [v0], .ref (1000000 + 0) :: st, SH, σ)) ∧
  (∀ (v0 : Option Value) (x1 : Int32) (a2 : Nat) (a0 : Nat) (σ : ma_H) (hc : hk_cls a0 = 8), ma_rn ro (d + 1) 120 (15, [v0], .ref a2 :: .int x1 :: .ref a0 :: [], SH, σ) = (ma_ev ro d 118 [.ref a0, .int x1, .ref a2] SH σ).bind (fun q => ma_rn ro (d + 1) 120 (18, [v0], (q.1.toList ++ []), q.2.1, q.2.2))) ∧
  (∀ (v0 : Option Value) (st : List Value) (σ : ma_H), ma_rn ro d 120 (18, [v0], st, SH, σ) = ma_rn ro d 120 (76, [v0], st, SH, σ)) ∧
  (∀ (a1 : Nat) (st : List Value) (σ : ma_H), ma_rn ro d 120 (21, [some (.ref a1)], st, SH, σ) = ma_rn ro d 120 (22, [some (.ref a1)], .ref a1 :: st, SH, σ)) ∧
  (∀ (v0 : Option Value) (a0 : Nat) (σ : ma_H) (hc : hk_cls a0 = 8), ma_rn ro (d + 1) 120 (22, [v0], .ref a0 :: [], SH, σ) = (ma_ev ro d 108 [.ref a0] SH σ).bind (fun q => ma_rn ro (d + 1) 120 (25, [v0], (q.1.toList ++ []), q.2.1, q.2.2))) ∧
  (∀ (v0 : Option Value) (st : List Value) (σ : ma_H), ma_rn ro d 120 (25, [v0], st, SH, σ) = ma_rn ro d 120 (27, [v0], .int (nI 104) :: st, SH, σ)) ∧
  (∀ (v0 : Option Value) (x1 : Int32) (x2 : Int32) (st : List Value) (σ : ma_H), ma_rn ro d 120 (27, [v0], .int x1 :: .int x2 :: st, SH, σ) = if x2 = x1 then ma_rn ro d 120 (30, [v0], st, SH, σ) else ma_rn ro d 120 (50, [v0], st, SH, σ)) ∧
  (∀ (a1 : Nat) (st : List Value) (σ : ma_H), ma_rn ro d 120 (30, [some (.ref a1)], st, SH, σ) = ma_rn ro d 120 (31, [some (.ref a1)], .ref a1 :: st, SH, σ)) ∧
  (∀ (v0 : Option Value) (a0 : Nat) (σ : ma_H) (hc : hk_cls a0 = 8), ma_rn ro (d + 1) 120 (31, [v0], .ref a0 :: [], SH, σ) = (ma_ev ro d 119 [.ref a0] SH σ).bind (fun q => ma_rn ro (d + 1) 120 (34, [v0], (q.1.toList ++ []), q.2.1, q.2.2))) ∧
  (∀ (v0 : Option Value) (st : List Value) (σ : ma_H), ma_rn ro d 120 (34, [v0], st, SH, σ) = ma_rn ro d 120 (36, [v0], .int (nI 101) :: st, SH, σ)) ∧
  (∀ (v0 : Option Value) (x1 : Int32) (x2 : Int32) (st : List Value) (σ : ma_H), ma_rn ro d 120 (36, [v0], .int x1 :: .int x2 :: st, SH, σ) = if x2 = x1 then ma_rn ro d 120 (39, [v0], st, SH, σ) else ma_rn ro d 120 (50, [v0], st, SH, σ)) ∧
  (∀ (a1 : Nat) (st : List Value) (σ : ma_H), ma_rn ro d 120 (39, [some (.ref a1)], st, SH, σ) = ma_rn ro d 120 (40, [some (.ref a1)], .ref a1 :: st, SH, σ)) ∧
  (∀ (v0 : Option Value) (st : List Value) (σ : ma_H), ma_rn ro d 120 (40, [v0], st, SH, σ) = ma_rn ro d 120 (42, [v0], .int ((-10)) :: st, SH, σ)) ∧
  (∀ (v0 : Option Value) (st : List Value) (σ : ma_H), ma_rn ro d 120 (42, [v0], st, SH, σ) = ma_rn ro d 120 (44, [v0], .ref (1000000 + 1) :: st, SH, σ)) ∧
  (∀ (v0 : Option Value) (x1 : Int32) (a2 : Nat) (a0 : Nat) (σ : ma_H) (hc : hk_cls a0 = 8), ma_rn ro (d + 1) 120 (44, [v0], .ref a2 :: .int x1 :: .ref a0 :: [], SH, σ) = (ma_ev ro d 117 [.ref a0, .int x1, .ref a2] SH σ).bind (fun q => ma_rn ro (d + 1) 120 (47, [v0], (q.1.toList ++ []), q.2.1, q.2.2))) ∧
  (∀ (v0 : Option Value) (st : List Value) (σ : ma_H), ma_rn ro d 120 (47, [v0], st, SH, σ) = ma_rn ro d 120 (76, [v0], st, SH, σ)) ∧
  (∀ (a1 : Nat) (st : List Value) (σ : ma_H), ma_rn ro d 120 (50, [some (.ref a1)], st, SH, σ) = ma_rn ro d 120 (51, [some (.ref a1)], .ref a1 :: st, SH, σ)) ∧
  (∀ (v0 : Option Value) (a0 : Nat) (σ : ma_H) (hc : hk_cls a0 = 8), ma_rn ro (d + 1) 120 (51, [v0], .ref a0 :: [], SH, σ) = (ma_ev ro d 108 [.ref a0] SH σ).bind (fun q => ma_rn ro (d + 1) 120 (54, [v0], (q.1.toList ++ []), q.2.1, q.2.2))) ∧
  (∀ (v0 : Option Value) (st : List Value) (σ : ma_H), ma_rn ro d 120 (54, [v0], st, SH, σ) = ma_rn ro d 120 (56, [v0], .int (nI 104) :: st, SH, σ)) ∧
  (∀ (v0 : Option Value) (x1 : Int32) (x2 : Int32) (st : List Value) (σ : ma_H), ma_rn ro d 120 (56, [v0], .int x1 :: .int x2 :: st, SH, σ) = if x2 = x1 then ma_rn ro d 120 (59, [v0], st, SH, σ) else ma_rn ro d 120 (71, [v0], st, SH, σ)) ∧
  (∀ (a1 : Nat) (st : List Value) (σ : ma_H), ma_rn ro d 120 (59, [some (.ref a1)], st, SH, σ) = ma_rn ro d 120 (60, [some (.ref a1)], .ref a1 :: st, SH, σ)) ∧
  (∀ (v0 : Option Value) (st : List Value) (σ : ma_H), ma_rn ro d 120 (60, [v0], st, SH, σ) = ma_rn ro d 120 (63, [v0], .int ((-200)) :: st, SH, σ)) ∧
  (∀ (v0 : Option Value) (st : List Value) (σ : ma_H), ma_rn ro d 120 (63, [v0], st, SH, σ) = ma_rn ro d 120 (65, [v0], .ref (1000000 + 2) :: st, SH, σ)) ∧
  (∀ (v0 : Option Value) (x1 : Int32) (a2 : Nat) (a0 : Nat) (σ : ma_H) (hc : hk_cls a0 = 8), ma_rn ro (d + 1) 120 (65, [v0], .ref a2 :: .int x1 :: .ref a0 :: [], SH, σ) = (ma_ev ro d 117 [.ref a0, .int x1, .ref a2] SH σ).bind (fun q => ma_rn ro (d + 1) 120 (68, [v0], (q.1.toList ++ []), q.2.1, q.2.2))) ∧
  (∀ (v0 : Option Value) (st : List Value) (σ : ma_H), ma_rn ro d 120 (68, [v0], st, SH, σ) = ma_rn ro d 120 (76, [v0], st, SH, σ)) ∧
  (∀ (a1 : Nat) (st : List Value) (σ : ma_H), ma_rn ro d 120 (71, [some (.ref a1)], st, SH, σ) = ma_rn ro d 120 (72, [some (.ref a1)], .ref a1 :: st, SH, σ)) ∧
  (∀ (v0 : Option Value) (st : List Value) (σ : ma_H), ma_rn ro d 120 (72, [v0], st, SH, σ) = ma_rn ro d 120 (73, [v0], .int (nI 1) :: st, SH, σ)) ∧
  (∀ (v0 : Option Value) (x1 : Int32) (a2 : Nat) (st : List Value) (σ : ma_H) (hx : ma_fitI .boolean x1 = true) (hc : hk_cls a2 = 8), ma_rn ro d 120 (73, [v0], .int x1 :: .ref a2 :: st, SH, σ) = ma_rn ro d 120 (76, [v0], st, SH, (ma_up σ a2 8 x1))) ∧
  (∀ (v0 : Option Value) (σ : ma_H), ma_rn ro d 120 (76, [v0], [], SH, σ) = some (none, SH, σ)) := ⟨fun a1 st σ => q_go e120_0 rfl rfl,
  fun v0 a0 σ hc => q_invV (as := []) (rest := []) e120_1 o_120 bn_8_49 c_8_49 m_108 (by decide) rfl rfl (Nat.le_of_ble_eq_true rfl) (Nat.le_of_ble_eq_true rfl) hc,
  fun v0 st σ => q_bipush e120_4 (by decide),
  fun v0 x1 x2 st σ => (q_cmp e120_6 rfl).trans q_ne,
  fun a1 st σ => q_go e120_9 rfl rfl,
  fun v0 st σ => q_sipush e120_10 (by decide),
  fun v0 st σ => q_ldcS e120_13 o_120 kn_8_99 s_8_99,
  fun v0 x1 a2 a0 σ hc => q_invV (as := [.int x1, .ref a2]) (rest := []) e120_15 o_120 bn_8_101 c_8_101 m_118 (by decide) rfl rfl (Nat.le_of_ble_eq_true rfl) (Nat.le_of_ble_eq_true rfl) hc,
  fun v0 st σ => q_goto e120_18 rfl,
  fun a1 st σ => q_go e120_21 rfl rfl,
  fun v0 a0 σ hc => q_invV (as := []) (rest := []) e120_22 o_120 bn_8_49 c_8_49 m_108 (by decide) rfl rfl (Nat.le_of_ble_eq_true rfl) (Nat.le_of_ble_eq_true rfl) hc,
  fun v0 st σ => q_bipush e120_25 (by decide),
  fun v0 x1 x2 st σ => (q_cmp e120_27 rfl).trans q_ne,
  fun a1 st σ => q_go e120_30 rfl rfl,
  fun v0 a0 σ hc => q_invV (as := []) (rest := []) e120_31 o_120 bn_8_105 c_8_105 m_119 (by decide) rfl rfl (Nat.le_of_ble_eq_true rfl) (Nat.le_of_ble_eq_true rfl) hc,
  fun v0 st σ => q_bipush e120_34 (by decide),
  fun v0 x1 x2 st σ => (q_cmp e120_36 rfl).trans q_ne,
  fun a1 st σ => q_go e120_39 rfl rfl,
  fun v0 st σ => q_bipush e120_40 (by decide),
  fun v0 st σ => q_ldcS e120_42 o_120 kn_8_108 s_8_108,
  fun v0 x1 a2 a0 σ hc => q_invV (as := [.int x1, .ref a2]) (rest := []) e120_44 o_120 bn_8_110 c_8_110 m_117 (by decide) rfl rfl (Nat.le_of_ble_eq_true rfl) (Nat.le_of_ble_eq_true rfl) hc,
  fun v0 st σ => q_goto e120_47 rfl,
  fun a1 st σ => q_go e120_50 rfl rfl,
  fun v0 a0 σ hc => q_invV (as := []) (rest := []) e120_51 o_120 bn_8_49 c_8_49 m_108 (by decide) rfl rfl (Nat.le_of_ble_eq_true rfl) (Nat.le_of_ble_eq_true rfl) hc,
  fun v0 st σ => q_bipush e120_54 (by decide),
  fun v0 x1 x2 st σ => (q_cmp e120_56 rfl).trans q_ne,
  fun a1 st σ => q_go e120_59 rfl rfl,
  fun v0 st σ => q_sipush e120_60 (by decide),
  fun v0 st σ => q_ldcS e120_63 o_120 kn_8_113 s_8_113,
  fun v0 x1 a2 a0 σ hc => q_invV (as := [.int x1, .ref a2]) (rest := []) e120_65 o_120 bn_8_110 c_8_110 m_117 (by decide) rfl rfl (Nat.le_of_ble_eq_true rfl) (Nat.le_of_ble_eq_true rfl) hc,
  fun v0 st σ => q_goto e120_68 rfl,
  fun a1 st σ => q_go e120_71 rfl rfl,
  fun v0 st σ => q_iconst e120_72 (by decide),
  fun v0 x1 a2 st σ hx hc => q_putI e120_73 o_120 f_8_45 (by decide) hx hc,
  fun v0 σ => q_vret e120_76 r_120⟩
theorem E120 {ro : ma_RO} {d : Nat} (a0 : Nat) (sh : List ma_Sh) (σ : ma_H) : ma_ev ro d 120 [.ref a0] sh σ = ma_rn ro d 120 (0, [some (.ref a0)], [], sh, σ) := q_ent x_120 rfl
theorem e121_0 : decode (ma_cd 121) 0 = .ok (.aload_n 0, 1) := (congrArg (fun b => decode b 0) cd_121).trans dX8_house_0
theorem e121_1 : decode (ma_cd 121) 1 = .ok (.getfield 9, 3) := (congrArg (fun b => decode b 1) cd_121).trans dX8_house_1
theorem e121_4 : decode (ma_cd 121) 4 = .ok (.bipush 34, 2) := (congrArg (fun b => decode b 4) cd_121).trans dX8_house_4
theorem e121_6 : decode (ma_cd 121) 6 = .ok (.iaload, 1) := (congrArg (fun b => decode b 6) cd_121).trans dX8_house_6
theorem e121_7 : decode (ma_cd 121) 7 = .ok (.iconst 5, 1) := (congrArg (fun b => decode b 7) cd_121).trans dX8_house_7
theorem e121_8 : decode (ma_cd 121) 8 = .ok (.if_icmp .ne 6, 3) := (congrArg (fun b => decode b 8) cd_121).trans dX8_house_8
theorem e121_11 : decode (ma_cd 121) 11 = .ok (.bipush (-4), 2) := (congrArg (fun b => decode b 11) cd_121).trans dX8_house_11
theorem e121_13 : decode (ma_cd 121) 13 = .ok (.ireturn, 1) := (congrArg (fun b => decode b 13) cd_121).trans dX8_house_13
theorem e121_14 : decode (ma_cd 121) 14 = .ok (.aload_n 0, 1) := (congrArg (fun b => decode b 14) cd_121).trans dX8_house_14
theorem e121_15 : decode (ma_cd 121) 15 = .ok (.aload_n 0, 1) := (congrArg (fun b => decode b 15) cd_121).trans dX8_house_15
theorem e121_16 : decode (ma_cd 121) 16 = .ok (.getfield 9, 3) := (congrArg (fun b => decode b 16) cd_121).trans dX8_house_16
theorem e121_19 : decode (ma_cd 121) 19 = .ok (.bipush 34, 2) := (congrArg (fun b => decode b 19) cd_121).trans dX8_house_19
theorem e121_21 : decode (ma_cd 121) 21 = .ok (.iaload, 1) := (congrArg (fun b => decode b 21) cd_121).trans dX8_house_21
theorem e121_22 : decode (ma_cd 121) 22 = .ok (.putfield 66, 3) := (congrArg (fun b => decode b 22) cd_121).trans dX8_house_22
theorem e121_25 : decode (ma_cd 121) 25 = .ok (.aload_n 0, 1) := (congrArg (fun b => decode b 25) cd_121).trans dX8_house_25
theorem e121_26 : decode (ma_cd 121) 26 = .ok (.aload_n 0, 1) := (congrArg (fun b => decode b 26) cd_121).trans dX8_house_26
theorem e121_27 : decode (ma_cd 121) 27 = .ok (.getfield 9, 3) := (congrArg (fun b => decode b 27) cd_121).trans dX8_house_27
theorem e121_30 : decode (ma_cd 121) 30 = .ok (.bipush 38, 2) := (congrArg (fun b => decode b 30) cd_121).trans dX8_house_30
theorem e121_32 : decode (ma_cd 121) 32 = .ok (.iaload, 1) := (congrArg (fun b => decode b 32) cd_121).trans dX8_house_32
theorem e121_33 : decode (ma_cd 121) 33 = .ok (.putfield 42, 3) := (congrArg (fun b => decode b 33) cd_121).trans dX8_house_33
theorem e121_36 : decode (ma_cd 121) 36 = .ok (.aload_n 0, 1) := (congrArg (fun b => decode b 36) cd_121).trans dX8_house_36
theorem e121_37 : decode (ma_cd 121) 37 = .ok (.getfield 9, 3) := (congrArg (fun b => decode b 37) cd_121).trans dX8_house_37
theorem e121_40 : decode (ma_cd 121) 40 = .ok (.bipush 38, 2) := (congrArg (fun b => decode b 40) cd_121).trans dX8_house_40
theorem e121_42 : decode (ma_cd 121) 42 = .ok (.iconst 0, 1) := (congrArg (fun b => decode b 42) cd_121).trans dX8_house_42
theorem e121_43 : decode (ma_cd 121) 43 = .ok (.iastore, 1) := (congrArg (fun b => decode b 43) cd_121).trans dX8_house_43
theorem e121_44 : decode (ma_cd 121) 44 = .ok (.aload_n 0, 1) := (congrArg (fun b => decode b 44) cd_121).trans dX8_house_44
theorem e121_45 : decode (ma_cd 121) 45 = .ok (.getfield 9, 3) := (congrArg (fun b => decode b 45) cd_121).trans dX8_house_45
theorem e121_48 : decode (ma_cd 121) 48 = .ok (.sipush 223, 3) := (congrArg (fun b => decode b 48) cd_121).trans dX8_house_48
theorem e121_51 : decode (ma_cd 121) 51 = .ok (.aload_n 0, 1) := (congrArg (fun b => decode b 51) cd_121).trans dX8_house_51
theorem e121_52 : decode (ma_cd 121) 52 = .ok (.getfield 66, 3) := (congrArg (fun b => decode b 52) cd_121).trans dX8_house_52
theorem e121_55 : decode (ma_cd 121) 55 = .ok (.iadd, 1) := (congrArg (fun b => decode b 55) cd_121).trans dX8_house_55
theorem e121_56 : decode (ma_cd 121) 56 = .ok (.iconst 2, 1) := (congrArg (fun b => decode b 56) cd_121).trans dX8_house_56
theorem e121_57 : decode (ma_cd 121) 57 = .ok (.iastore, 1) := (congrArg (fun b => decode b 57) cd_121).trans dX8_house_57
theorem e121_58 : decode (ma_cd 121) 58 = .ok (.aload_n 0, 1) := (congrArg (fun b => decode b 58) cd_121).trans dX8_house_58
theorem e121_59 : decode (ma_cd 121) 59 = .ok (.getfield 9, 3) := (congrArg (fun b => decode b 59) cd_121).trans dX8_house_59
theorem e121_62 : decode (ma_cd 121) 62 = .ok (.sipush 228, 3) := (congrArg (fun b => decode b 62) cd_121).trans dX8_house_62
theorem e121_65 : decode (ma_cd 121) 65 = .ok (.aload_n 0, 1) := (congrArg (fun b => decode b 65) cd_121).trans dX8_house_65
theorem e121_66 : decode (ma_cd 121) 66 = .ok (.getfield 66, 3) := (congrArg (fun b => decode b 66) cd_121).trans dX8_house_66
theorem e121_69 : decode (ma_cd 121) 69 = .ok (.iadd, 1) := (congrArg (fun b => decode b 69) cd_121).trans dX8_house_69
theorem e121_70 : decode (ma_cd 121) 70 = .ok (.iconst 0, 1) := (congrArg (fun b => decode b 70) cd_121).trans dX8_house_70
theorem e121_71 : decode (ma_cd 121) 71 = .ok (.iastore, 1) := (congrArg (fun b => decode b 71) cd_121).trans dX8_house_71
theorem e121_72 : decode (ma_cd 121) 72 = .ok (.aload_n 0, 1) := (congrArg (fun b => decode b 72) cd_121).trans dX8_house_72
theorem e121_73 : decode (ma_cd 121) 73 = .ok (.iconst 0, 1) := (congrArg (fun b => decode b 73) cd_121).trans dX8_house_73
theorem e121_74 : decode (ma_cd 121) 74 = .ok (.putfield 39, 3) := (congrArg (fun b => decode b 74) cd_121).trans dX8_house_74
theorem e121_77 : decode (ma_cd 121) 77 = .ok (.aload_n 0, 1) := (congrArg (fun b => decode b 77) cd_121).trans dX8_house_77
theorem e121_78 : decode (ma_cd 121) 78 = .ok (.iconst 0, 1) := (congrArg (fun b => decode b 78) cd_121).trans dX8_house_78
theorem e121_79 : decode (ma_cd 121) 79 = .ok (.putfield 45, 3) := (congrArg (fun b => decode b 79) cd_121).trans dX8_house_79
theorem e121_82 : decode (ma_cd 121) 82 = .ok (.aload_n 0, 1) := (congrArg (fun b => decode b 82) cd_121).trans dX8_house_82
theorem e121_83 : decode (ma_cd 121) 83 = .ok (.iconst 0, 1) := (congrArg (fun b => decode b 83) cd_121).trans dX8_house_83
theorem e121_84 : decode (ma_cd 121) 84 = .ok (.putfield 69, 3) := (congrArg (fun b => decode b 84) cd_121).trans dX8_house_84
theorem e121_87 : decode (ma_cd 121) 87 = .ok (.iconst 1, 1) := (congrArg (fun b => decode b 87) cd_121).trans dX8_house_87
theorem e121_88 : decode (ma_cd 121) 88 = .ok (.istore_n 1, 1) := (congrArg (fun b => decode b 88) cd_121).trans dX8_house_88
theorem e121_89 : decode (ma_cd 121) 89 = .ok (.aload_n 0, 1) := (congrArg (fun b => decode b 89) cd_121).trans dX8_house_89
theorem e121_90 : decode (ma_cd 121) 90 = .ok (.invokevirtual 115, 3) := (congrArg (fun b => decode b 90) cd_121).trans dX8_house_90
theorem e121_93 : decode (ma_cd 121) 93 = .ok (.aload_n 0, 1) := (congrArg (fun b => decode b 93) cd_121).trans dX8_house_93
theorem e121_94 : decode (ma_cd 121) 94 = .ok (.getfield 45, 3) := (congrArg (fun b => decode b 94) cd_121).trans dX8_house_94
theorem e121_97 : decode (ma_cd 121) 97 = .ok (.ifCond .ne 38, 3) := (congrArg (fun b => decode b 97) cd_121).trans dX8_house_97
theorem e121_100 : decode (ma_cd 121) 100 = .ok (.iload_n 1, 1) := (congrArg (fun b => decode b 100) cd_121).trans dX8_house_100
theorem e121_101 : decode (ma_cd 121) 101 = .ok (.bipush 10, 2) := (congrArg (fun b => decode b 101) cd_121).trans dX8_house_101
theorem e121_103 : decode (ma_cd 121) 103 = .ok (.if_icmp .ge 32, 3) := (congrArg (fun b => decode b 103) cd_121).trans dX8_house_103
theorem e121_106 : decode (ma_cd 121) 106 = .ok (.aload_n 0, 1) := (congrArg (fun b => decode b 106) cd_121).trans dX8_house_106
theorem e121_107 : decode (ma_cd 121) 107 = .ok (.invokevirtual 49, 3) := (congrArg (fun b => decode b 107) cd_121).trans dX8_house_107
theorem e121_110 : decode (ma_cd 121) 110 = .ok (.bipush 59, 2) := (congrArg (fun b => decode b 110) cd_121).trans dX8_house_110
theorem e121_112 : decode (ma_cd 121) 112 = .ok (.if_icmp .ne 23, 3) := (congrArg (fun b => decode b 112) cd_121).trans dX8_house_112
theorem e121_115 : decode (ma_cd 121) 115 = .ok (.aload_n 0, 1) := (congrArg (fun b => decode b 115) cd_121).trans dX8_house_115
theorem e121_116 : decode (ma_cd 121) 116 = .ok (.dup, 1) := (congrArg (fun b => decode b 116) cd_121).trans dX8_house_116
theorem e121_117 : decode (ma_cd 121) 117 = .ok (.getfield 39, 3) := (congrArg (fun b => decode b 117) cd_121).trans dX8_house_117
theorem e121_120 : decode (ma_cd 121) 120 = .ok (.iconst 1, 1) := (congrArg (fun b => decode b 120) cd_121).trans dX8_house_120
theorem e121_121 : decode (ma_cd 121) 121 = .ok (.iadd, 1) := (congrArg (fun b => decode b 121) cd_121).trans dX8_house_121
theorem e121_122 : decode (ma_cd 121) 122 = .ok (.putfield 39, 3) := (congrArg (fun b => decode b 122) cd_121).trans dX8_house_122
theorem e121_125 : decode (ma_cd 121) 125 = .ok (.aload_n 0, 1) := (congrArg (fun b => decode b 125) cd_121).trans dX8_house_125
theorem e121_126 : decode (ma_cd 121) 126 = .ok (.invokevirtual 115, 3) := (congrArg (fun b => decode b 126) cd_121).trans dX8_house_126
theorem e121_129 : decode (ma_cd 121) 129 = .ok (.iinc 1 1, 3) := (congrArg (fun b => decode b 129) cd_121).trans dX8_house_129
theorem e121_132 : decode (ma_cd 121) 132 = .ok (.goto (-39), 3) := (congrArg (fun b => decode b 132) cd_121).trans dX8_house_132
theorem e121_135 : decode (ma_cd 121) 135 = .ok (.aload_n 0, 1) := (congrArg (fun b => decode b 135) cd_121).trans dX8_house_135
theorem e121_136 : decode (ma_cd 121) 136 = .ok (.getfield 45, 3) := (congrArg (fun b => decode b 136) cd_121).trans dX8_house_136
theorem e121_139 : decode (ma_cd 121) 139 = .ok (.ifCond .ne 14, 3) := (congrArg (fun b => decode b 139) cd_121).trans dX8_house_139
theorem e121_142 : decode (ma_cd 121) 142 = .ok (.aload_n 0, 1) := (congrArg (fun b => decode b 142) cd_121).trans dX8_house_142
theorem e121_143 : decode (ma_cd 121) 143 = .ok (.getfield 39, 3) := (congrArg (fun b => decode b 143) cd_121).trans dX8_house_143
theorem e121_146 : decode (ma_cd 121) 146 = .ok (.aload_n 0, 1) := (congrArg (fun b => decode b 146) cd_121).trans dX8_house_146
theorem e121_147 : decode (ma_cd 121) 147 = .ok (.getfield 42, 3) := (congrArg (fun b => decode b 147) cd_121).trans dX8_house_147
theorem e121_150 : decode (ma_cd 121) 150 = .ok (.if_icmp .eq 11, 3) := (congrArg (fun b => decode b 150) cd_121).trans dX8_house_150
theorem e121_153 : decode (ma_cd 121) 153 = .ok (.bipush (-10), 2) := (congrArg (fun b => decode b 153) cd_121).trans dX8_house_153
theorem e121_155 : decode (ma_cd 121) 155 = .ok (.aload_n 0, 1) := (congrArg (fun b => decode b 155) cd_121).trans dX8_house_155
theorem e121_156 : decode (ma_cd 121) 156 = .ok (.getfield 39, 3) := (congrArg (fun b => decode b 156) cd_121).trans dX8_house_156
theorem e121_159 : decode (ma_cd 121) 159 = .ok (.isub, 1) := (congrArg (fun b => decode b 159) cd_121).trans dX8_house_159
theorem e121_160 : decode (ma_cd 121) 160 = .ok (.ireturn, 1) := (congrArg (fun b => decode b 160) cd_121).trans dX8_house_160
theorem e121_161 : decode (ma_cd 121) 161 = .ok (.aload_n 0, 1) := (congrArg (fun b => decode b 161) cd_121).trans dX8_house_161
theorem e121_162 : decode (ma_cd 121) 162 = .ok (.getfield 9, 3) := (congrArg (fun b => decode b 162) cd_121).trans dX8_house_162
theorem e121_165 : decode (ma_cd 121) 165 = .ok (.bipush 34, 2) := (congrArg (fun b => decode b 165) cd_121).trans dX8_house_165
theorem e121_167 : decode (ma_cd 121) 167 = .ok (.dup2, 1) := (congrArg (fun b => decode b 167) cd_121).trans dX8_house_167
theorem e121_168 : decode (ma_cd 121) 168 = .ok (.iaload, 1) := (congrArg (fun b => decode b 168) cd_121).trans dX8_house_168
theorem e121_169 : decode (ma_cd 121) 169 = .ok (.iconst 1, 1) := (congrArg (fun b => decode b 169) cd_121).trans dX8_house_169
theorem e121_170 : decode (ma_cd 121) 170 = .ok (.iadd, 1) := (congrArg (fun b => decode b 170) cd_121).trans dX8_house_170
theorem e121_171 : decode (ma_cd 121) 171 = .ok (.iastore, 1) := (congrArg (fun b => decode b 171) cd_121).trans dX8_house_171
theorem e121_172 : decode (ma_cd 121) 172 = .ok (.aload_n 0, 1) := (congrArg (fun b => decode b 172) cd_121).trans dX8_house_172
theorem e121_173 : decode (ma_cd 121) 173 = .ok (.getfield 9, 3) := (congrArg (fun b => decode b 173) cd_121).trans dX8_house_173
theorem e121_176 : decode (ma_cd 121) 176 = .ok (.bipush 39, 2) := (congrArg (fun b => decode b 176) cd_121).trans dX8_house_176
theorem e121_178 : decode (ma_cd 121) 178 = .ok (.aload_n 0, 1) := (congrArg (fun b => decode b 178) cd_121).trans dX8_house_178
theorem e121_179 : decode (ma_cd 121) 179 = .ok (.getfield 66, 3) := (congrArg (fun b => decode b 179) cd_121).trans dX8_house_179
theorem e121_182 : decode (ma_cd 121) 182 = .ok (.iastore, 1) := (congrArg (fun b => decode b 182) cd_121).trans dX8_house_182
theorem e121_183 : decode (ma_cd 121) 183 = .ok (.aload_n 0, 1) := (congrArg (fun b => decode b 183) cd_121).trans dX8_house_183
theorem e121_184 : decode (ma_cd 121) 184 = .ok (.getfield 66, 3) := (congrArg (fun b => decode b 184) cd_121).trans dX8_house_184
theorem e121_187 : decode (ma_cd 121) 187 = .ok (.ireturn, 1) := (congrArg (fun b => decode b 187) cd_121).trans dX8_house_187
theorem Sh121_93 {ro : ma_RO} {d : Nat} : (∀ (v1 : Option Value) (a1 : Nat) (st : List Value) (σ : ma_H), ma_rn ro d 121 (93, [some (.ref a1), v1], st, SH, σ) = ma_rn ro d 121 (94, [some (.ref a1), v1], .ref a1 :: st, SH, σ)) := fun v1 a1 st σ => q_go e121_93 rfl rfl
theorem S121 {ro : ma_RO} {d : Nat} : (∀ (v1 : Option Value) (a1 : Nat) (st : List Value) (σ : ma_H), ma_rn ro d 121 (0, [some (.ref a1), v1], st, SH, σ) = ma_rn ro d 121 (1, [some (.ref a1), v1], .ref a1 :: st, SH, σ)) ∧
  (∀ (v0 : Option Value) (v1 : Option Value) (a1 : Nat) (st : List Value) (σ : ma_H) (hc : hk_cls a1 = 8), ma_rn ro d 121 (1, [v0, v1], .ref a1 :: st, SH, σ) = ma_rn ro d 121 (4, [v0, v1], .ref (91) :: st, SH, σ)) ∧
  (∀ (v0 : Option Value) (v1 : Option Value) (st : List Value) (σ : ma_H), ma_rn ro d 121 (4, [v0, v1], st, SH, σ) = ma_rn ro d 121 (6, [v0, v1], .int (nI 34) :: st, SH, σ)) ∧
  (∀ (v0 : Option Value) (v1 : Option Value) (k : Nat) (a2 : Nat) (st : List Value) (σ : ma_H) (hk : k < hk_len a2), ma_rn ro d 121 (6, [v0, v1], .int (nI k) :: .ref a2 :: st, SH, σ) = ma_rn ro d 121 (7, [v0, v1], .int (σ a2 k) :: st, SH, σ)) ∧
  (∀ (v0 : Option Value) (v1 : Option Value) (st : List Value) (σ : ma_H), ma_rn ro d 121 (7, [v0, v1], st, SH, σ) = ma_rn ro d 121 (8, [v0, v1], .int (nI 5) :: st, SH, σ)) ∧
  (∀ (v0 : Option Value) (v1 : Option Value) (x1 : Int32) (x2 : Int32) (st : List Value) (σ : ma_H), ma_rn ro d 121 (8, [v0, v1], .int x1 :: .int x2 :: st, SH, σ) = if x2 = x1 then ma_rn ro d 121 (11, [v0, v1], st, SH, σ) else ma_rn ro d 121 (14, [v0, v1], st, SH, σ)) ∧
  (∀ (v0 : Option Value) (v1 : Option Value) (st : List Value) (σ : ma_H), ma_rn ro d 121 (11, [v0, v1], st, SH, σ) = ma_rn ro d 121 (13, [v0, v1], .int ((-4)) :: st, SH, σ)) ∧
  (∀ (v0 : Option Value) (v1 : Option Value) (x1 : Int32) (σ : ma_H), ma_rn ro d 121 (13, [v0, v1], [.int x1], SH, σ) = some (some (.int x1), SH, σ)) ∧
  (∀ (v1 : Option Value) (a1 : Nat) (st : List Value) (σ : ma_H), ma_rn ro d 121 (14, [some (.ref a1), v1], st, SH, σ) = ma_rn ro d 121 (15, [some (.ref a1), v1], .ref a1 :: st, SH, σ)) ∧
  (∀ (v1 : Option Value) (a1 : Nat) (st : List Value) (σ : ma_H), ma_rn ro d 121 (15, [some (.ref a1), v1], st, SH, σ) = ma_rn ro d 121 (16, [some (.ref a1), v1], .ref a1 :: st, SH, σ)) ∧
  (∀ (v0 : Option Value) (v1 : Option Value) (a1 : Nat) (st : List Value) (σ : ma_H) (hc : hk_cls a1 = 8), ma_rn ro d 121 (16, [v0, v1], .ref a1 :: st, SH, σ) = ma_rn ro d 121 (19, [v0, v1], .ref (91) :: st, SH, σ)) ∧
  (∀ (v0 : Option Value) (v1 : Option Value) (st : List Value) (σ : ma_H), ma_rn ro d 121 (19, [v0, v1], st, SH, σ) = ma_rn ro d 121 (21, [v0, v1], .int (nI 34) :: st, SH, σ)) ∧
  (∀ (v0 : Option Value) (v1 : Option Value) (k : Nat) (a2 : Nat) (st : List Value) (σ : ma_H) (hk : k < hk_len a2), ma_rn ro d 121 (21, [v0, v1], .int (nI k) :: .ref a2 :: st, SH, σ) = ma_rn ro d 121 (22, [v0, v1], .int (σ a2 k) :: st, SH, σ)) ∧
  (∀ (v0 : Option Value) (v1 : Option Value) (x1 : Int32) (a2 : Nat) (st : List Value) (σ : ma_H) (hc : hk_cls a2 = 8), ma_rn ro d 121 (22, [v0, v1], .int x1 :: .ref a2 :: st, SH, σ) = ma_rn ro d 121 (25, [v0, v1], st, SH, (ma_up σ a2 5 x1))) ∧
  (∀ (v1 : Option Value) (a1 : Nat) (st : List Value) (σ : ma_H), ma_rn ro d 121 (25, [some (.ref a1), v1], st, SH, σ) = ma_rn ro d 121 (26, [some (.ref a1), v1], .ref a1 :: st, SH, σ)) ∧
  (∀ (v1 : Option Value) (a1 : Nat) (st : List Value) (σ : ma_H), ma_rn ro d 121 (26, [some (.ref a1), v1], st, SH, σ) = ma_rn ro d 121 (27, [some (.ref a1), v1], .ref a1 :: st, SH, σ)) ∧
  (∀ (v0 : Option Value) (v1 : Option Value) (a1 : Nat) (st : List Value) (σ : ma_H) (hc : hk_cls a1 = 8), ma_rn ro d 121 (27, [v0, v1], .ref a1 :: st, SH, σ) = ma_rn ro d 121 (30, [v0, v1], .ref (91) :: st, SH, σ)) ∧
  (∀ (v0 : Option Value) (v1 : Option Value) (st : List Value) (σ : ma_H), ma_rn ro d 121 (30, [v0, v1], st, SH, σ) = ma_rn ro d 121 (32, [v0, v1], .int (nI 38) :: st, SH, σ)) ∧
  (∀ (v0 : Option Value) (v1 : Option Value) (k : Nat) (a2 : Nat) (st : List Value) (σ : ma_H) (hk : k < hk_len a2), ma_rn ro d 121 (32, [v0, v1], .int (nI k) :: .ref a2 :: st, SH, σ) = ma_rn ro d 121 (33, [v0, v1], .int (σ a2 k) :: st, SH, σ)) ∧
  (∀ (v0 : Option Value) (v1 : Option Value) (x1 : Int32) (a2 : Nat) (st : List Value) (σ : ma_H) (hc : hk_cls a2 = 8), ma_rn ro d 121 (33, [v0, v1], .int x1 :: .ref a2 :: st, SH, σ) = ma_rn ro d 121 (36, [v0, v1], st, SH, (ma_up σ a2 7 x1))) ∧
  (∀ (v1 : Option Value) (a1 : Nat) (st : List Value) (σ : ma_H), ma_rn ro d 121 (36, [some (.ref a1), v1], st, SH, σ) = ma_rn ro d 121 (37, [some (.ref a1), v1], .ref a1 :: st, SH, σ)) ∧
  (∀ (v0 : Option Value) (v1 : Option Value) (a1 : Nat) (st : List Value) (σ : ma_H) (hc : hk_cls a1 = 8), ma_rn ro d 121 (37, [v0, v1], .ref a1 :: st, SH, σ) = ma_rn ro d 121 (40, [v0, v1], .ref (91) :: st, SH, σ)) ∧
  (∀ (v0 : Option Value) (v1 : Option Value) (st : List Value) (σ : ma_H), ma_rn ro d 121 (40, [v0, v1], st, SH, σ) = ma_rn ro d 121 (42, [v0, v1], .int (nI 38) :: st, SH, σ)) ∧
  (∀ (v0 : Option Value) (v1 : Option Value) (st : List Value) (σ : ma_H), ma_rn ro d 121 (42, [v0, v1], st, SH, σ) = ma_rn ro d 121 (43, [v0, v1], .int (nI 0) :: st, SH, σ)) ∧
  (∀ (v0 : Option Value) (v1 : Option Value) (x1 : Int32) (k : Nat) (a3 : Nat) (st : List Value) (σ : ma_H) (hk : k < hk_len a3), ma_rn ro d 121 (43, [v0, v1], .int x1 :: .int (nI k) :: .ref a3 :: st, SH, σ) = ma_rn ro d 121 (44, [v0, v1], st, SH, (ma_up σ a3 k x1))) ∧
  (∀ (v1 : Option Value) (a1 : Nat) (st : List Value) (σ : ma_H), ma_rn ro d 121 (44, [some (.ref a1), v1], st, SH, σ) = ma_rn ro d 121 (45, [some (.ref a1), v1], .ref a1 :: st, SH, σ)) ∧
  (∀ (v0 : Option Value) (v1 : Option Value) (a1 : Nat) (st : List Value) (σ : ma_H) (hc : hk_cls a1 = 8), ma_rn ro d 121 (45, [v0, v1], .ref a1 :: st, SH, σ) = ma_rn ro d 121 (48, [v0, v1], .ref (91) :: st, SH, σ)) ∧
  (∀ (v0 : Option Value) (v1 : Option Value) (st : List Value) (σ : ma_H), ma_rn ro d 121 (48, [v0, v1], st, SH, σ) = ma_rn ro d 121 (51, [v0, v1], .int (nI 223) :: st, SH, σ)) ∧
  (∀ (v1 : Option Value) (a1 : Nat) (st : List Value) (σ : ma_H), ma_rn ro d 121 (51, [some (.ref a1), v1], st, SH, σ) = ma_rn ro d 121 (52, [some (.ref a1), v1], .ref a1 :: st, SH, σ)) ∧
  (∀ (v0 : Option Value) (v1 : Option Value) (a1 : Nat) (st : List Value) (σ : ma_H) (hc : hk_cls a1 = 8), ma_rn ro d 121 (52, [v0, v1], .ref a1 :: st, SH, σ) = ma_rn ro d 121 (55, [v0, v1], .int (σ a1 5) :: st, SH, σ)) ∧
  (∀ (v0 : Option Value) (v1 : Option Value) (x1 : Int32) (x2 : Int32) (st : List Value) (σ : ma_H), ma_rn ro d 121 (55, [v0, v1], .int x1 :: .int x2 :: st, SH, σ) = ma_rn ro d 121 (56, [v0, v1], .int (x2 + x1) :: st, SH, σ)) ∧
  (∀ (v0 : Option Value) (v1 : Option Value) (st : List Value) (σ : ma_H), ma_rn ro d 121 (56, [v0, v1], st, SH, σ) = ma_rn ro d 121 (57, [v0, v1], .int (nI 2) :: st, SH, σ)) ∧
  (∀ (v0 : Option Value) (v1 : Option Value) (x1 : Int32) (k : Nat) (a3 : Nat) (st : List Value) (σ : ma_H) (hk : k < hk_len a3), ma_rn ro d 121 (57, [v0, v1], .int x1 :: .int (nI k) :: .ref a3 :: st, SH, σ) = ma_rn ro d 121 (58, [v0, v1], st, SH, (ma_up σ a3 k x1))) ∧
  (∀ (v1 : Option Value) (a1 : Nat) (st : List Value) (σ : ma_H), ma_rn ro d 121 (58, [some (.ref a1), v1], st, SH, σ) = ma_rn ro d 121 (59, [some (.ref a1), v1], .ref a1 :: st, SH, σ)) ∧
  (∀ (v0 : Option Value) (v1 : Option Value) (a1 : Nat) (st : List Value) (σ : ma_H) (hc : hk_cls a1 = 8), ma_rn ro d 121 (59, [v0, v1], .ref a1 :: st, SH, σ) = ma_rn ro d 121 (62, [v0, v1], .ref (91) :: st, SH, σ)) ∧
  (∀ (v0 : Option Value) (v1 : Option Value) (st : List Value) (σ : ma_H), ma_rn ro d 121 (62, [v0, v1], st, SH, σ) = ma_rn ro d 121 (65, [v0, v1], .int (nI 228) :: st, SH, σ)) ∧
  (∀ (v1 : Option Value) (a1 : Nat) (st : List Value) (σ : ma_H), ma_rn ro d 121 (65, [some (.ref a1), v1], st, SH, σ) = ma_rn ro d 121 (66, [some (.ref a1), v1], .ref a1 :: st, SH, σ)) ∧
  (∀ (v0 : Option Value) (v1 : Option Value) (a1 : Nat) (st : List Value) (σ : ma_H) (hc : hk_cls a1 = 8), ma_rn ro d 121 (66, [v0, v1], .ref a1 :: st, SH, σ) = ma_rn ro d 121 (69, [v0, v1], .int (σ a1 5) :: st, SH, σ)) ∧
  (∀ (v0 : Option Value) (v1 : Option Value) (x1 : Int32) (x2 : Int32) (st : List Value) (σ : ma_H), ma_rn ro d 121 (69, [v0, v1], .int x1 :: .int x2 :: st, SH, σ) = ma_rn ro d 121 (70, [v0, v1], .int (x2 + x1) :: st, SH, σ)) ∧
  (∀ (v0 : Option Value) (v1 : Option Value) (st : List Value) (σ : ma_H), ma_rn ro d 121 (70, [v0, v1], st, SH, σ) = ma_rn ro d 121 (71, [v0, v1], .int (nI 0) :: st, SH, σ)) ∧
  (∀ (v0 : Option Value) (v1 : Option Value) (x1 : Int32) (k : Nat) (a3 : Nat) (st : List Value) (σ : ma_H) (hk : k < hk_len a3), ma_rn ro d 121 (71, [v0, v1], .int x1 :: .int (nI k) :: .ref a3 :: st, SH, σ) = ma_rn ro d 121 (72, [v0, v1], st, SH, (ma_up σ a3 k x1))) ∧
  (∀ (v1 : Option Value) (a1 : Nat) (st : List Value) (σ : ma_H), ma_rn ro d 121 (72, [some (.ref a1), v1], st, SH, σ) = ma_rn ro d 121 (73, [some (.ref a1), v1], .ref a1 :: st, SH, σ)) ∧
  (∀ (v0 : Option Value) (v1 : Option Value) (st : List Value) (σ : ma_H), ma_rn ro d 121 (73, [v0, v1], st, SH, σ) = ma_rn ro d 121 (74, [v0, v1], .int (nI 0) :: st, SH, σ)) ∧
  (∀ (v0 : Option Value) (v1 : Option Value) (x1 : Int32) (a2 : Nat) (st : List Value) (σ : ma_H) (hc : hk_cls a2 = 8), ma_rn ro d 121 (74, [v0, v1], .int x1 :: .ref a2 :: st, SH, σ) = ma_rn ro d 121 (77, [v0, v1], st, SH, (ma_up σ a2 6 x1))) ∧
  (∀ (v1 : Option Value) (a1 : Nat) (st : List Value) (σ : ma_H), ma_rn ro d 121 (77, [some (.ref a1), v1], st, SH, σ) = ma_rn ro d 121 (78, [some (.ref a1), v1], .ref a1 :: st, SH, σ)) ∧
  (∀ (v0 : Option Value) (v1 : Option Value) (st : List Value) (σ : ma_H), ma_rn ro d 121 (78, [v0, v1], st, SH, σ) = ma_rn ro d 121 (79, [v0, v1], .int (nI 0) :: st, SH, σ)) ∧
  (∀ (v0 : Option Value) (v1 : Option Value) (x1 : Int32) (a2 : Nat) (st : List Value) (σ : ma_H) (hx : ma_fitI .boolean x1 = true) (hc : hk_cls a2 = 8), ma_rn ro d 121 (79, [v0, v1], .int x1 :: .ref a2 :: st, SH, σ) = ma_rn ro d 121 (82, [v0, v1], st, SH, (ma_up σ a2 8 x1))) ∧
  (∀ (v1 : Option Value) (a1 : Nat) (st : List Value) (σ : ma_H), ma_rn ro d 121 (82, [some (.ref a1), v1], st, SH, σ) = ma_rn ro d 121 (83, [some (.ref a1), v1], .ref a1 :: st, SH, σ)) ∧
  (∀ (v0 : Option Value) (v1 : Option Value) (st : List Value) (σ : ma_H), ma_rn ro d 121 (83, [v0, v1], st, SH, σ) = ma_rn ro d 121 (84, [v0, v1], .int (nI 0) :: st, SH, σ)) ∧
  (∀ (v0 : Option Value) (v1 : Option Value) (x1 : Int32) (a2 : Nat) (st : List Value) (σ : ma_H) (hc : hk_cls a2 = 8), ma_rn ro d 121 (84, [v0, v1], .int x1 :: .ref a2 :: st, SH, σ) = ma_rn ro d 121 (87, [v0, v1], st, SH, (ma_up σ a2 9 x1))) ∧
  (∀ (v0 : Option Value) (v1 : Option Value) (st : List Value) (σ : ma_H), ma_rn ro d 121 (87, [v0, v1], st, SH, σ) = ma_rn ro d 121 (88, [v0, v1], .int (nI 1) :: st, SH, σ)) ∧
  (∀ (v1 : Option Value) (a9 : Nat) (x1 : Int32) (st : List Value) (σ : ma_H), ma_rn ro d 121 (88, [some (.ref a9), v1], .int x1 :: st, SH, σ) = ma_rn ro d 121 (89, [some (.ref a9), some (.int x1)], st, SH, σ)) ∧
  (∀ (v1 : Option Value) (a1 : Nat) (st : List Value) (σ : ma_H), ma_rn ro d 121 (89, [some (.ref a1), v1], st, SH, σ) = ma_rn ro d 121 (90, [some (.ref a1), v1], .ref a1 :: st, SH, σ)) ∧
  (∀ (v0 : Option Value) (v1 : Option Value) (a0 : Nat) (σ : ma_H) (hc : hk_cls a0 = 8), ma_rn ro (d + 1) 121 (90, [v0, v1], .ref a0 :: [], SH, σ) = (ma_ev ro d 120 [.ref a0] SH σ).bind (fun q => ma_rn ro (d + 1) 121 (93, [v0, v1], (q.1.toList ++ []), q.2.1, q.2.2))) ∧
  (∀ (v0 : Option Value) (v1 : Option Value) (a1 : Nat) (st : List Value) (σ : ma_H) (hc : hk_cls a1 = 8), ma_rn ro d 121 (94, [v0, v1], .ref a1 :: st, SH, σ) = ma_rn ro d 121 (97, [v0, v1], .int (σ a1 8) :: st, SH, σ)) ∧
  (∀ (v0 : Option Value) (v1 : Option Value) (x1 : Int32) (st : List Value) (σ : ma_H), ma_rn ro d 121 (97, [v0, v1], .int x1 :: st, SH, σ) = if x1 = nI 0 then ma_rn ro d 121 (100, [v0, v1], st, SH, σ) else ma_rn ro d 121 (135, [v0, v1], st, SH, σ)) ∧
  (∀ (v0 : Option Value) (x1 : Int32) (st : List Value) (σ : ma_H), ma_rn ro d 121 (100, [v0, some (.int x1)], st, SH, σ) = ma_rn ro d 121 (101, [v0, some (.int x1)], .int x1 :: st, SH, σ)) ∧
  (∀ (v0 : Option Value) (v1 : Option Value) (st : List Value) (σ : ma_H), ma_rn ro d 121 (101, [v0, v1], st, SH, σ) = ma_rn ro d 121 (103, [v0, v1], .int (nI 10) :: st, SH, σ)) ∧
  (∀ (v0 : Option Value) (v1 : Option Value) (x1 : Int32) (x2 : Int32) (st : List Value) (σ : ma_H), ma_rn ro d 121 (103, [v0, v1], .int x1 :: .int x2 :: st, SH, σ) = if x2 < x1 then ma_rn ro d 121 (106, [v0, v1], st, SH, σ) else ma_rn ro d 121 (135, [v0, v1], st, SH, σ)) ∧
  (∀ (v1 : Option Value) (a1 : Nat) (st : List Value) (σ : ma_H), ma_rn ro d 121 (106, [some (.ref a1), v1], st, SH, σ) = ma_rn ro d 121 (107, [some (.ref a1), v1], .ref a1 :: st, SH, σ)) ∧
  (∀ (v0 : Option Value) (v1 : Option Value) (a0 : Nat) (σ : ma_H) (hc : hk_cls a0 = 8), ma_rn ro (d + 1) 121 (107, [v0, v1], .ref a0 :: [], SH, σ) = (ma_ev ro d 108 [.ref a0] SH σ).bind (fun q => ma_rn ro (d + 1) 121 (110, [v0, v1], (q.1.toList ++ []), q.2.1, q.2.2))) ∧
  (∀ (v0 : Option Value) (v1 : Option Value) (st : List Value) (σ : ma_H), ma_rn ro d 121 (110, [v0, v1], st, SH, σ) = ma_rn ro d 121 (112, [v0, v1], .int (nI 59) :: st, SH, σ)) ∧
  (∀ (v0 : Option Value) (v1 : Option Value) (x1 : Int32) (x2 : Int32) (st : List Value) (σ : ma_H), ma_rn ro d 121 (112, [v0, v1], .int x1 :: .int x2 :: st, SH, σ) = if x2 = x1 then ma_rn ro d 121 (115, [v0, v1], st, SH, σ) else ma_rn ro d 121 (135, [v0, v1], st, SH, σ)) ∧
  (∀ (v1 : Option Value) (a1 : Nat) (st : List Value) (σ : ma_H), ma_rn ro d 121 (115, [some (.ref a1), v1], st, SH, σ) = ma_rn ro d 121 (116, [some (.ref a1), v1], .ref a1 :: st, SH, σ)) ∧
  (∀ (v0 : Option Value) (v1 : Option Value) (a1 : Nat) (st : List Value) (σ : ma_H), ma_rn ro d 121 (116, [v0, v1], .ref a1 :: st, SH, σ) = ma_rn ro d 121 (117, [v0, v1], .ref a1 :: .ref a1 :: st, SH, σ)) ∧
  (∀ (v0 : Option Value) (v1 : Option Value) (a1 : Nat) (st : List Value) (σ : ma_H) (hc : hk_cls a1 = 8), ma_rn ro d 121 (117, [v0, v1], .ref a1 :: st, SH, σ) = ma_rn ro d 121 (120, [v0, v1], .int (σ a1 6) :: st, SH, σ)) ∧
  (∀ (v0 : Option Value) (v1 : Option Value) (st : List Value) (σ : ma_H), ma_rn ro d 121 (120, [v0, v1], st, SH, σ) = ma_rn ro d 121 (121, [v0, v1], .int (nI 1) :: st, SH, σ)) ∧
  (∀ (v0 : Option Value) (v1 : Option Value) (x1 : Int32) (x2 : Int32) (st : List Value) (σ : ma_H), ma_rn ro d 121 (121, [v0, v1], .int x1 :: .int x2 :: st, SH, σ) = ma_rn ro d 121 (122, [v0, v1], .int (x2 + x1) :: st, SH, σ)) ∧
  (∀ (v0 : Option Value) (v1 : Option Value) (x1 : Int32) (a2 : Nat) (st : List Value) (σ : ma_H) (hc : hk_cls a2 = 8), ma_rn ro d 121 (122, [v0, v1], .int x1 :: .ref a2 :: st, SH, σ) = ma_rn ro d 121 (125, [v0, v1], st, SH, (ma_up σ a2 6 x1))) ∧
  (∀ (v1 : Option Value) (a1 : Nat) (st : List Value) (σ : ma_H), ma_rn ro d 121 (125, [some (.ref a1), v1], st, SH, σ) = ma_rn ro d 121 (126, [some (.ref a1), v1], .ref a1 :: st, SH, σ)) ∧
  (∀ (v0 : Option Value) (v1 : Option Value) (a0 : Nat) (σ : ma_H) (hc : hk_cls a0 = 8), ma_rn ro (d + 1) 121 (126, [v0, v1], .ref a0 :: [], SH, σ) = (ma_ev ro d 120 [.ref a0] SH σ).bind (fun q => ma_rn ro (d + 1) 121 (129, [v0, v1], (q.1.toList ++ []), q.2.1, q.2.2))) ∧
  (∀ (x1 : Int32) (a9 : Nat) (st : List Value) (σ : ma_H), ma_rn ro d 121 (129, [some (.ref a9), some (.int x1)], st, SH, σ) = ma_rn ro d 121 (132, [some (.ref a9), some (.int (x1 + nI 1))], st, SH, σ)) ∧
  (∀ (v0 : Option Value) (v1 : Option Value) (st : List Value) (σ : ma_H), ma_rn ro d 121 (132, [v0, v1], st, SH, σ) = ma_rn ro d 121 (93, [v0, v1], st, SH, σ)) ∧
  (∀ (v1 : Option Value) (a1 : Nat) (st : List Value) (σ : ma_H), ma_rn ro d 121 (135, [some (.ref a1), v1], st, SH, σ) = ma_rn ro d 121 (136, [some (.ref a1), v1], .ref a1 :: st, SH, σ)) ∧
  (∀ (v0 : Option Value) (v1 : Option Value) (a1 : Nat) (st : List Value) (σ : ma_H) (hc : hk_cls a1 = 8), ma_rn ro d 121 (136, [v0, v1], .ref a1 :: st, SH, σ) = ma_rn ro d 121 (139, [v0, v1], .int (σ a1 8) :: st, SH, σ)) ∧
  (∀ (v0 : Option Value) (v1 : Option Value) (x1 : Int32) (st : List Value) (σ : ma_H), ma_rn ro d 121 (139, [v0, v1], .int x1 :: st, SH, σ) = if x1 = nI 0 then ma_rn ro d 121 (142, [v0, v1], st, SH, σ) else ma_rn ro d 121 (153, [v0, v1], st, SH, σ)) ∧
  (∀ (v1 : Option Value) (a1 : Nat) (st : List Value) (σ : ma_H), ma_rn ro d 121 (142, [some (.ref a1), v1], st, SH, σ) = ma_rn ro d 121 (143, [some (.ref a1), v1], .ref a1 :: st, SH, σ)) ∧
  (∀ (v0 : Option Value) (v1 : Option Value) (a1 : Nat) (st : List Value) (σ : ma_H) (hc : hk_cls a1 = 8), ma_rn ro d 121 (143, [v0, v1], .ref a1 :: st, SH, σ) = ma_rn ro d 121 (146, [v0, v1], .int (σ a1 6) :: st, SH, σ)) ∧
  (∀ (v1 : Option Value) (a1 : Nat) (st : List Value) (σ : ma_H), ma_rn ro d 121 (146, [some (.ref a1), v1], st, SH, σ) = ma_rn ro d 121 (147, [some (.ref a1), v1], .ref a1 :: st, SH, σ)) ∧
  (∀ (v0 : Option Value) (v1 : Option Value) (a1 : Nat) (st : List Value) (σ : ma_H) (hc : hk_cls a1 = 8), ma_rn ro d 121 (147, [v0, v1], .ref a1 :: st, SH, σ) = ma_rn ro d 121 (150, [v0, v1], .int (σ a1 7) :: st, SH, σ)) ∧
  (∀ (v0 : Option Value) (v1 : Option Value) (x1 : Int32) (x2 : Int32) (st : List Value) (σ : ma_H), ma_rn ro d 121 (150, [v0, v1], .int x1 :: .int x2 :: st, SH, σ) = if x2 = x1 then ma_rn ro d 121 (161, [v0, v1], st, SH, σ) else ma_rn ro d 121 (153, [v0, v1], st, SH, σ)) ∧
  (∀ (v0 : Option Value) (v1 : Option Value) (st : List Value) (σ : ma_H), ma_rn ro d 121 (153, [v0, v1], st, SH, σ) = ma_rn ro d 121 (155, [v0, v1], .int ((-10)) :: st, SH, σ)) ∧
  (∀ (v1 : Option Value) (a1 : Nat) (st : List Value) (σ : ma_H), ma_rn ro d 121 (155, [some (.ref a1), v1], st, SH, σ) = ma_rn ro d 121 (156, [some (.ref a1), v1], .ref a1 :: st, SH, σ)) ∧
  (∀ (v0 : Option Value) (v1 : Option Value) (a1 : Nat) (st : List Value) (σ : ma_H) (hc : hk_cls a1 = 8), ma_rn ro d 121 (156, [v0, v1], .ref a1 :: st, SH, σ) = ma_rn ro d 121 (159, [v0, v1], .int (σ a1 6) :: st, SH, σ)) ∧
  (∀ (v0 : Option Value) (v1 : Option Value) (x1 : Int32) (x2 : Int32) (st : List Value) (σ : ma_H), ma_rn ro d 121 (159, [v0, v1], .int x1 :: .int x2 :: st, SH, σ) = ma_rn ro d 121 (160, [v0, v1], .int (x2 - x1) :: st, SH, σ)) ∧
  (∀ (v0 : Option Value) (v1 : Option Value) (x1 : Int32) (σ : ma_H), ma_rn ro d 121 (160, [v0, v1], [.int x1], SH, σ) = some (some (.int x1), SH, σ)) ∧
  (∀ (v1 : Option Value) (a1 : Nat) (st : List Value) (σ : ma_H), ma_rn ro d 121 (161, [some (.ref a1), v1], st, SH, σ) = ma_rn ro d 121 (162, [some (.ref a1), v1], .ref a1 :: st, SH, σ)) ∧
  (∀ (v0 : Option Value) (v1 : Option Value) (a1 : Nat) (st : List Value) (σ : ma_H) (hc : hk_cls a1 = 8), ma_rn ro d 121 (162, [v0, v1], .ref a1 :: st, SH, σ) = ma_rn ro d 121 (165, [v0, v1], .ref (91) :: st, SH, σ)) ∧
  (∀ (v0 : Option Value) (v1 : Option Value) (st : List Value) (σ : ma_H), ma_rn ro d 121 (165, [v0, v1], st, SH, σ) = ma_rn ro d 121 (167, [v0, v1], .int (nI 34) :: st, SH, σ)) ∧
  (∀ (v0 : Option Value) (v1 : Option Value) (x1 : Int32) (a2 : Nat) (st : List Value) (σ : ma_H), ma_rn ro d 121 (167, [v0, v1], .int x1 :: .ref a2 :: st, SH, σ) = ma_rn ro d 121 (168, [v0, v1], .int x1 :: .ref a2 :: .int x1 :: .ref a2 :: st, SH, σ)) ∧
  (∀ (v0 : Option Value) (v1 : Option Value) (k : Nat) (a2 : Nat) (st : List Value) (σ : ma_H) (hk : k < hk_len a2), ma_rn ro d 121 (168, [v0, v1], .int (nI k) :: .ref a2 :: st, SH, σ) = ma_rn ro d 121 (169, [v0, v1], .int (σ a2 k) :: st, SH, σ)) ∧
  (∀ (v0 : Option Value) (v1 : Option Value) (st : List Value) (σ : ma_H), ma_rn ro d 121 (169, [v0, v1], st, SH, σ) = ma_rn ro d 121 (170, [v0, v1], .int (nI 1) :: st, SH, σ)) ∧
  (∀ (v0 : Option Value) (v1 : Option Value) (x1 : Int32) (x2 : Int32) (st : List Value) (σ : ma_H), ma_rn ro d 121 (170, [v0, v1], .int x1 :: .int x2 :: st, SH, σ) = ma_rn ro d 121 (171, [v0, v1], .int (x2 + x1) :: st, SH, σ)) ∧
  (∀ (v0 : Option Value) (v1 : Option Value) (x1 : Int32) (k : Nat) (a3 : Nat) (st : List Value) (σ : ma_H) (hk : k < hk_len a3), ma_rn ro d 121 (171, [v0, v1], .int x1 :: .int (nI k) :: .ref a3 :: st, SH, σ) = ma_rn ro d 121 (172, [v0, v1], st, SH, (ma_up σ a3 k x1))) ∧
  (∀ (v1 : Option Value) (a1 : Nat) (st : List Value) (σ : ma_H), ma_rn ro d 121 (172, [some (.ref a1), v1], st, SH, σ) = ma_rn ro d 121 (173, [some (.ref a1), v1], .ref a1 :: st, SH, σ)) ∧
  (∀ (v0 : Option Value) (v1 : Option Value) (a1 : Nat) (st : List Value) (σ : ma_H) (hc : hk_cls a1 = 8), ma_rn ro d 121 (173, [v0, v1], .ref a1 :: st, SH, σ) = ma_rn ro d 121 (176, [v0, v1], .ref (91) :: st, SH, σ)) ∧
  (∀ (v0 : Option Value) (v1 : Option Value) (st : List Value) (σ : ma_H), ma_rn ro d 121 (176, [v0, v1], st, SH, σ) = ma_rn ro d 121 (178, [v0, v1], .int (nI 39) :: st, SH, σ)) ∧
  (∀ (v1 : Option Value) (a1 : Nat) (st : List Value) (σ : ma_H), ma_rn ro d 121 (178, [some (.ref a1), v1], st, SH, σ) = ma_rn ro d 121 (179, [some (.ref a1), v1], .ref a1 :: st, SH, σ)) ∧
  (∀ (v0 : Option Value) (v1 : Option Value) (a1 : Nat) (st : List Value) (σ : ma_H) (hc : hk_cls a1 = 8), ma_rn ro d 121 (179, [v0, v1], .ref a1 :: st, SH, σ) = ma_rn ro d 121 (182, [v0, v1], .int (σ a1 5) :: st, SH, σ)) ∧
  (∀ (v0 : Option Value) (v1 : Option Value) (x1 : Int32) (k : Nat) (a3 : Nat) (st : List Value) (σ : ma_H) (hk : k < hk_len a3), ma_rn ro d 121 (182, [v0, v1], .int x1 :: .int (nI k) :: .ref a3 :: st, SH, σ) = ma_rn ro d 121 (183, [v0, v1], st, SH, (ma_up σ a3 k x1))) ∧
  (∀ (v1 : Option Value) (a1 : Nat) (st : List Value) (σ : ma_H), ma_rn ro d 121 (183, [some (.ref a1), v1], st, SH, σ) = ma_rn ro d 121 (184, [some (.ref a1), v1], .ref a1 :: st, SH, σ)) ∧
  (∀ (v0 : Option Value) (v1 : Option Value) (a1 : Nat) (st : List Value) (σ : ma_H) (hc : hk_cls a1 = 8), ma_rn ro d 121 (184, [v0, v1], .ref a1 :: st, SH, σ) = ma_rn ro d 121 (187, [v0, v1], .int (σ a1 5) :: st, SH, σ)) ∧
  (∀ (v0 : Option Value) (v1 : Option Value) (x1 : Int32) (σ : ma_H), ma_rn ro d 121 (187, [v0, v1], [.int x1], SH, σ) = some (some (.int x1), SH, σ)) := ⟨fun v1 a1 st σ => q_go e121_0 rfl rfl,
  fun v0 v1 a1 st σ hc => q_getA e121_1 o_121 f_8_9 (by decide) hc,
  fun v0 v1 st σ => q_bipush e121_4 (by decide),
  fun v0 v1 k a2 st σ hk => q_iald e121_6 hk,
  fun v0 v1 st σ => q_iconst e121_7 (by decide),
  fun v0 v1 x1 x2 st σ => (q_cmp e121_8 rfl).trans q_ne,
  fun v0 v1 st σ => q_bipush e121_11 (by decide),
  fun v0 v1 x1 σ => q_iret e121_13 r_121,
  fun v1 a1 st σ => q_go e121_14 rfl rfl,
  fun v1 a1 st σ => q_go e121_15 rfl rfl,
  fun v0 v1 a1 st σ hc => q_getA e121_16 o_121 f_8_9 (by decide) hc,
  fun v0 v1 st σ => q_bipush e121_19 (by decide),
  fun v0 v1 k a2 st σ hk => q_iald e121_21 hk,
  fun v0 v1 x1 a2 st σ hc => q_putI e121_22 o_121 f_8_66 (by decide) rfl hc,
  fun v1 a1 st σ => q_go e121_25 rfl rfl,
  fun v1 a1 st σ => q_go e121_26 rfl rfl,
  fun v0 v1 a1 st σ hc => q_getA e121_27 o_121 f_8_9 (by decide) hc,
  fun v0 v1 st σ => q_bipush e121_30 (by decide),
  fun v0 v1 k a2 st σ hk => q_iald e121_32 hk,
  fun v0 v1 x1 a2 st σ hc => q_putI e121_33 o_121 f_8_42 (by decide) rfl hc,
  fun v1 a1 st σ => q_go e121_36 rfl rfl,
  fun v0 v1 a1 st σ hc => q_getA e121_37 o_121 f_8_9 (by decide) hc,
  fun v0 v1 st σ => q_bipush e121_40 (by decide),
  fun v0 v1 st σ => q_iconst e121_42 (by decide),
  fun v0 v1 x1 k a3 st σ hk => q_iast e121_43 hk,
  fun v1 a1 st σ => q_go e121_44 rfl rfl,
  fun v0 v1 a1 st σ hc => q_getA e121_45 o_121 f_8_9 (by decide) hc,
  fun v0 v1 st σ => q_sipush e121_48 (by decide),
  fun v1 a1 st σ => q_go e121_51 rfl rfl,
  fun v0 v1 a1 st σ hc => q_getI e121_52 o_121 f_8_66 (by decide) hc,
  fun v0 v1 x1 x2 st σ => q_go e121_55 rfl rfl,
  fun v0 v1 st σ => q_iconst e121_56 (by decide),
  fun v0 v1 x1 k a3 st σ hk => q_iast e121_57 hk,
  fun v1 a1 st σ => q_go e121_58 rfl rfl,
  fun v0 v1 a1 st σ hc => q_getA e121_59 o_121 f_8_9 (by decide) hc,
  fun v0 v1 st σ => q_sipush e121_62 (by decide),
  fun v1 a1 st σ => q_go e121_65 rfl rfl,
  fun v0 v1 a1 st σ hc => q_getI e121_66 o_121 f_8_66 (by decide) hc,
  fun v0 v1 x1 x2 st σ => q_go e121_69 rfl rfl,
  fun v0 v1 st σ => q_iconst e121_70 (by decide),
  fun v0 v1 x1 k a3 st σ hk => q_iast e121_71 hk,
  fun v1 a1 st σ => q_go e121_72 rfl rfl,
  fun v0 v1 st σ => q_iconst e121_73 (by decide),
  fun v0 v1 x1 a2 st σ hc => q_putI e121_74 o_121 f_8_39 (by decide) rfl hc,
  fun v1 a1 st σ => q_go e121_77 rfl rfl,
  fun v0 v1 st σ => q_iconst e121_78 (by decide),
  fun v0 v1 x1 a2 st σ hx hc => q_putI e121_79 o_121 f_8_45 (by decide) hx hc,
  fun v1 a1 st σ => q_go e121_82 rfl rfl,
  fun v0 v1 st σ => q_iconst e121_83 (by decide),
  fun v0 v1 x1 a2 st σ hc => q_putI e121_84 o_121 f_8_69 (by decide) rfl hc,
  fun v0 v1 st σ => q_iconst e121_87 (by decide),
  fun v1 a9 x1 st σ => q_go e121_88 rfl rfl,
  fun v1 a1 st σ => q_go e121_89 rfl rfl,
  fun v0 v1 a0 σ hc => q_invV (as := []) (rest := []) e121_90 o_121 bn_8_115 c_8_115 m_120 (by decide) rfl rfl (Nat.le_of_ble_eq_true rfl) (Nat.le_of_ble_eq_true rfl) hc,
  fun v0 v1 a1 st σ hc => q_getI e121_94 o_121 f_8_45 (by decide) hc,
  fun v0 v1 x1 st σ => (q_if e121_97 rfl).trans q_ne,
  fun v0 x1 st σ => q_go e121_100 rfl rfl,
  fun v0 v1 st σ => q_bipush e121_101 (by decide),
  fun v0 v1 x1 x2 st σ => (q_cmp e121_103 rfl).trans q_nlt,
  fun v1 a1 st σ => q_go e121_106 rfl rfl,
  fun v0 v1 a0 σ hc => q_invV (as := []) (rest := []) e121_107 o_121 bn_8_49 c_8_49 m_108 (by decide) rfl rfl (Nat.le_of_ble_eq_true rfl) (Nat.le_of_ble_eq_true rfl) hc,
  fun v0 v1 st σ => q_bipush e121_110 (by decide),
  fun v0 v1 x1 x2 st σ => (q_cmp e121_112 rfl).trans q_ne,
  fun v1 a1 st σ => q_go e121_115 rfl rfl,
  fun v0 v1 a1 st σ => q_go e121_116 rfl rfl,
  fun v0 v1 a1 st σ hc => q_getI e121_117 o_121 f_8_39 (by decide) hc,
  fun v0 v1 st σ => q_iconst e121_120 (by decide),
  fun v0 v1 x1 x2 st σ => q_go e121_121 rfl rfl,
  fun v0 v1 x1 a2 st σ hc => q_putI e121_122 o_121 f_8_39 (by decide) rfl hc,
  fun v1 a1 st σ => q_go e121_125 rfl rfl,
  fun v0 v1 a0 σ hc => q_invV (as := []) (rest := []) e121_126 o_121 bn_8_115 c_8_115 m_120 (by decide) rfl rfl (Nat.le_of_ble_eq_true rfl) (Nat.le_of_ble_eq_true rfl) hc,
  fun x1 a9 st σ => q_iinc e121_129 rfl rfl (by decide),
  fun v0 v1 st σ => q_goto e121_132 rfl,
  fun v1 a1 st σ => q_go e121_135 rfl rfl,
  fun v0 v1 a1 st σ hc => q_getI e121_136 o_121 f_8_45 (by decide) hc,
  fun v0 v1 x1 st σ => (q_if e121_139 rfl).trans q_ne,
  fun v1 a1 st σ => q_go e121_142 rfl rfl,
  fun v0 v1 a1 st σ hc => q_getI e121_143 o_121 f_8_39 (by decide) hc,
  fun v1 a1 st σ => q_go e121_146 rfl rfl,
  fun v0 v1 a1 st σ hc => q_getI e121_147 o_121 f_8_42 (by decide) hc,
  fun v0 v1 x1 x2 st σ => (q_cmp e121_150 rfl).trans q_eq,
  fun v0 v1 st σ => q_bipush e121_153 (by decide),
  fun v1 a1 st σ => q_go e121_155 rfl rfl,
  fun v0 v1 a1 st σ hc => q_getI e121_156 o_121 f_8_39 (by decide) hc,
  fun v0 v1 x1 x2 st σ => q_go e121_159 rfl rfl,
  fun v0 v1 x1 σ => q_iret e121_160 r_121,
  fun v1 a1 st σ => q_go e121_161 rfl rfl,
  fun v0 v1 a1 st σ hc => q_getA e121_162 o_121 f_8_9 (by decide) hc,
  fun v0 v1 st σ => q_bipush e121_165 (by decide),
  fun v0 v1 x1 a2 st σ => q_go e121_167 rfl rfl,
  fun v0 v1 k a2 st σ hk => q_iald e121_168 hk,
  fun v0 v1 st σ => q_iconst e121_169 (by decide),
  fun v0 v1 x1 x2 st σ => q_go e121_170 rfl rfl,
  fun v0 v1 x1 k a3 st σ hk => q_iast e121_171 hk,
  fun v1 a1 st σ => q_go e121_172 rfl rfl,
  fun v0 v1 a1 st σ hc => q_getA e121_173 o_121 f_8_9 (by decide) hc,
  fun v0 v1 st σ => q_bipush e121_176 (by decide),
  fun v1 a1 st σ => q_go e121_178 rfl rfl,
  fun v0 v1 a1 st σ hc => q_getI e121_179 o_121 f_8_66 (by decide) hc,
  fun v0 v1 x1 k a3 st σ hk => q_iast e121_182 hk,
  fun v1 a1 st σ => q_go e121_183 rfl rfl,
  fun v0 v1 a1 st σ hc => q_getI e121_184 o_121 f_8_66 (by decide) hc,
  fun v0 v1 x1 σ => q_iret e121_187 r_121⟩
theorem E121 {ro : ma_RO} {d : Nat} (a0 : Nat) (sh : List ma_Sh) (σ : ma_H) : ma_ev ro d 121 [.ref a0] sh σ = ma_rn ro d 121 (0, [some (.ref a0), none], [], sh, σ) := q_ent x_121 rfl
theorem e122_0 : decode (ma_cd 122) 0 = .ok (.aload_n 0, 1) := (congrArg (fun b => decode b 0) cd_122).trans dX8_tellsOf_0
theorem e122_1 : decode (ma_cd 122) 1 = .ok (.getfield 9, 3) := (congrArg (fun b => decode b 1) cd_122).trans dX8_tellsOf_1
theorem e122_4 : decode (ma_cd 122) 4 = .ok (.bipush 39, 2) := (congrArg (fun b => decode b 4) cd_122).trans dX8_tellsOf_4
theorem e122_6 : decode (ma_cd 122) 6 = .ok (.iaload, 1) := (congrArg (fun b => decode b 6) cd_122).trans dX8_tellsOf_6
theorem e122_7 : decode (ma_cd 122) 7 = .ok (.iconst (-1), 1) := (congrArg (fun b => decode b 7) cd_122).trans dX8_tellsOf_7
theorem e122_8 : decode (ma_cd 122) 8 = .ok (.if_icmp .ne 7, 3) := (congrArg (fun b => decode b 8) cd_122).trans dX8_tellsOf_8
theorem e122_11 : decode (ma_cd 122) 11 = .ok (.iload_n 2, 1) := (congrArg (fun b => decode b 11) cd_122).trans dX8_tellsOf_11
theorem e122_12 : decode (ma_cd 122) 12 = .ok (.goto 17, 3) := (congrArg (fun b => decode b 12) cd_122).trans dX8_tellsOf_12
theorem e122_15 : decode (ma_cd 122) 15 = .ok (.aload_n 0, 1) := (congrArg (fun b => decode b 15) cd_122).trans dX8_tellsOf_15
theorem e122_16 : decode (ma_cd 122) 16 = .ok (.getfield 9, 3) := (congrArg (fun b => decode b 16) cd_122).trans dX8_tellsOf_16
theorem e122_19 : decode (ma_cd 122) 19 = .ok (.iload_n 1, 1) := (congrArg (fun b => decode b 19) cd_122).trans dX8_tellsOf_19
theorem e122_20 : decode (ma_cd 122) 20 = .ok (.aload_n 0, 1) := (congrArg (fun b => decode b 20) cd_122).trans dX8_tellsOf_20
theorem e122_21 : decode (ma_cd 122) 21 = .ok (.getfield 9, 3) := (congrArg (fun b => decode b 21) cd_122).trans dX8_tellsOf_21
theorem e122_24 : decode (ma_cd 122) 24 = .ok (.bipush 39, 2) := (congrArg (fun b => decode b 24) cd_122).trans dX8_tellsOf_24
theorem e122_26 : decode (ma_cd 122) 26 = .ok (.iaload, 1) := (congrArg (fun b => decode b 26) cd_122).trans dX8_tellsOf_26
theorem e122_27 : decode (ma_cd 122) 27 = .ok (.iadd, 1) := (congrArg (fun b => decode b 27) cd_122).trans dX8_tellsOf_27
theorem e122_28 : decode (ma_cd 122) 28 = .ok (.iaload, 1) := (congrArg (fun b => decode b 28) cd_122).trans dX8_tellsOf_28
theorem e122_29 : decode (ma_cd 122) 29 = .ok (.ireturn, 1) := (congrArg (fun b => decode b 29) cd_122).trans dX8_tellsOf_29
theorem S122 {ro : ma_RO} {d : Nat} : (∀ (v1 : Option Value) (v2 : Option Value) (a1 : Nat) (st : List Value) (σ : ma_H), ma_rn ro d 122 (0, [some (.ref a1), v1, v2], st, SH, σ) = ma_rn ro d 122 (1, [some (.ref a1), v1, v2], .ref a1 :: st, SH, σ)) ∧
  (∀ (v0 : Option Value) (v1 : Option Value) (v2 : Option Value) (a1 : Nat) (st : List Value) (σ : ma_H) (hc : hk_cls a1 = 8), ma_rn ro d 122 (1, [v0, v1, v2], .ref a1 :: st, SH, σ) = ma_rn ro d 122 (4, [v0, v1, v2], .ref (91) :: st, SH, σ)) ∧
  (∀ (v0 : Option Value) (v1 : Option Value) (v2 : Option Value) (st : List Value) (σ : ma_H), ma_rn ro d 122 (4, [v0, v1, v2], st, SH, σ) = ma_rn ro d 122 (6, [v0, v1, v2], .int (nI 39) :: st, SH, σ)) ∧
  (∀ (v0 : Option Value) (v1 : Option Value) (v2 : Option Value) (k : Nat) (a2 : Nat) (st : List Value) (σ : ma_H) (hk : k < hk_len a2), ma_rn ro d 122 (6, [v0, v1, v2], .int (nI k) :: .ref a2 :: st, SH, σ) = ma_rn ro d 122 (7, [v0, v1, v2], .int (σ a2 k) :: st, SH, σ)) ∧
  (∀ (v0 : Option Value) (v1 : Option Value) (v2 : Option Value) (st : List Value) (σ : ma_H), ma_rn ro d 122 (7, [v0, v1, v2], st, SH, σ) = ma_rn ro d 122 (8, [v0, v1, v2], .int ((-1)) :: st, SH, σ)) ∧
  (∀ (v0 : Option Value) (v1 : Option Value) (v2 : Option Value) (x1 : Int32) (x2 : Int32) (st : List Value) (σ : ma_H), ma_rn ro d 122 (8, [v0, v1, v2], .int x1 :: .int x2 :: st, SH, σ) = if x2 = x1 then ma_rn ro d 122 (11, [v0, v1, v2], st, SH, σ) else ma_rn ro d 122 (15, [v0, v1, v2], st, SH, σ)) ∧
  (∀ (v0 : Option Value) (v1 : Option Value) (x1 : Int32) (st : List Value) (σ : ma_H), ma_rn ro d 122 (11, [v0, v1, some (.int x1)], st, SH, σ) = ma_rn ro d 122 (12, [v0, v1, some (.int x1)], .int x1 :: st, SH, σ)) ∧
  (∀ (v0 : Option Value) (v1 : Option Value) (v2 : Option Value) (st : List Value) (σ : ma_H), ma_rn ro d 122 (12, [v0, v1, v2], st, SH, σ) = ma_rn ro d 122 (29, [v0, v1, v2], st, SH, σ)) ∧
  (∀ (v1 : Option Value) (v2 : Option Value) (a1 : Nat) (st : List Value) (σ : ma_H), ma_rn ro d 122 (15, [some (.ref a1), v1, v2], st, SH, σ) = ma_rn ro d 122 (16, [some (.ref a1), v1, v2], .ref a1 :: st, SH, σ)) ∧
  (∀ (v0 : Option Value) (v1 : Option Value) (v2 : Option Value) (a1 : Nat) (st : List Value) (σ : ma_H) (hc : hk_cls a1 = 8), ma_rn ro d 122 (16, [v0, v1, v2], .ref a1 :: st, SH, σ) = ma_rn ro d 122 (19, [v0, v1, v2], .ref (91) :: st, SH, σ)) ∧
  (∀ (v0 : Option Value) (v2 : Option Value) (x1 : Int32) (st : List Value) (σ : ma_H), ma_rn ro d 122 (19, [v0, some (.int x1), v2], st, SH, σ) = ma_rn ro d 122 (20, [v0, some (.int x1), v2], .int x1 :: st, SH, σ)) ∧
  (∀ (v1 : Option Value) (v2 : Option Value) (a1 : Nat) (st : List Value) (σ : ma_H), ma_rn ro d 122 (20, [some (.ref a1), v1, v2], st, SH, σ) = ma_rn ro d 122 (21, [some (.ref a1), v1, v2], .ref a1 :: st, SH, σ)) ∧
  (∀ (v0 : Option Value) (v1 : Option Value) (v2 : Option Value) (a1 : Nat) (st : List Value) (σ : ma_H) (hc : hk_cls a1 = 8), ma_rn ro d 122 (21, [v0, v1, v2], .ref a1 :: st, SH, σ) = ma_rn ro d 122 (24, [v0, v1, v2], .ref (91) :: st, SH, σ)) ∧
  (∀ (v0 : Option Value) (v1 : Option Value) (v2 : Option Value) (st : List Value) (σ : ma_H), ma_rn ro d 122 (24, [v0, v1, v2], st, SH, σ) = ma_rn ro d 122 (26, [v0, v1, v2], .int (nI 39) :: st, SH, σ)) ∧
  (∀ (v0 : Option Value) (v1 : Option Value) (v2 : Option Value) (k : Nat) (a2 : Nat) (st : List Value) (σ : ma_H) (hk : k < hk_len a2), ma_rn ro d 122 (26, [v0, v1, v2], .int (nI k) :: .ref a2 :: st, SH, σ) = ma_rn ro d 122 (27, [v0, v1, v2], .int (σ a2 k) :: st, SH, σ)) ∧
  (∀ (v0 : Option Value) (v1 : Option Value) (v2 : Option Value) (x1 : Int32) (x2 : Int32) (st : List Value) (σ : ma_H), ma_rn ro d 122 (27, [v0, v1, v2], .int x1 :: .int x2 :: st, SH, σ) = ma_rn ro d 122 (28, [v0, v1, v2], .int (x2 + x1) :: st, SH, σ)) ∧
  (∀ (v0 : Option Value) (v1 : Option Value) (v2 : Option Value) (k : Nat) (a2 : Nat) (st : List Value) (σ : ma_H) (hk : k < hk_len a2), ma_rn ro d 122 (28, [v0, v1, v2], .int (nI k) :: .ref a2 :: st, SH, σ) = ma_rn ro d 122 (29, [v0, v1, v2], .int (σ a2 k) :: st, SH, σ)) ∧
  (∀ (v0 : Option Value) (v1 : Option Value) (v2 : Option Value) (x1 : Int32) (σ : ma_H), ma_rn ro d 122 (29, [v0, v1, v2], [.int x1], SH, σ) = some (some (.int x1), SH, σ)) := ⟨fun v1 v2 a1 st σ => q_go e122_0 rfl rfl,
  fun v0 v1 v2 a1 st σ hc => q_getA e122_1 o_122 f_8_9 (by decide) hc,
  fun v0 v1 v2 st σ => q_bipush e122_4 (by decide),
  fun v0 v1 v2 k a2 st σ hk => q_iald e122_6 hk,
  fun v0 v1 v2 st σ => q_iconst e122_7 (by decide),
  fun v0 v1 v2 x1 x2 st σ => (q_cmp e122_8 rfl).trans q_ne,
  fun v0 v1 x1 st σ => q_go e122_11 rfl rfl,
  fun v0 v1 v2 st σ => q_goto e122_12 rfl,
  fun v1 v2 a1 st σ => q_go e122_15 rfl rfl,
  fun v0 v1 v2 a1 st σ hc => q_getA e122_16 o_122 f_8_9 (by decide) hc,
  fun v0 v2 x1 st σ => q_go e122_19 rfl rfl,
  fun v1 v2 a1 st σ => q_go e122_20 rfl rfl,
  fun v0 v1 v2 a1 st σ hc => q_getA e122_21 o_122 f_8_9 (by decide) hc,
  fun v0 v1 v2 st σ => q_bipush e122_24 (by decide),
  fun v0 v1 v2 k a2 st σ hk => q_iald e122_26 hk,
  fun v0 v1 v2 x1 x2 st σ => q_go e122_27 rfl rfl,
  fun v0 v1 v2 k a2 st σ hk => q_iald e122_28 hk,
  fun v0 v1 v2 x1 σ => q_iret e122_29 r_122⟩
theorem E122 {ro : ma_RO} {d : Nat} (a0 : Nat) (x1 : Int32) (x2 : Int32) (sh : List ma_Sh) (σ : ma_H) : ma_ev ro d 122 [.ref a0, .int x1, .int x2] sh σ = ma_rn ro d 122 (0, [some (.ref a0), some (.int x1), some (.int x2)], [], sh, σ) := q_ent x_122 rfl
theorem e123_0 : decode (ma_cd 123) 0 = .ok (.aload_n 0, 1) := (congrArg (fun b => decode b 0) cd_123).trans dX8_sumOf_0
theorem e123_1 : decode (ma_cd 123) 1 = .ok (.getfield 21, 3) := (congrArg (fun b => decode b 1) cd_123).trans dX8_sumOf_1
theorem e123_4 : decode (ma_cd 123) 4 = .ok (.iconst 0, 1) := (congrArg (fun b => decode b 4) cd_123).trans dX8_sumOf_4
theorem e123_5 : decode (ma_cd 123) 5 = .ok (.iload_n 1, 1) := (congrArg (fun b => decode b 5) cd_123).trans dX8_sumOf_5
theorem e123_6 : decode (ma_cd 123) 6 = .ok (.iastore, 1) := (congrArg (fun b => decode b 6) cd_123).trans dX8_sumOf_6
theorem e123_7 : decode (ma_cd 123) 7 = .ok (.aload_n 0, 1) := (congrArg (fun b => decode b 7) cd_123).trans dX8_sumOf_7
theorem e123_8 : decode (ma_cd 123) 8 = .ok (.getfield 21, 3) := (congrArg (fun b => decode b 8) cd_123).trans dX8_sumOf_8
theorem e123_11 : decode (ma_cd 123) 11 = .ok (.iconst 1, 1) := (congrArg (fun b => decode b 11) cd_123).trans dX8_sumOf_11
theorem e123_12 : decode (ma_cd 123) 12 = .ok (.aload_n 0, 1) := (congrArg (fun b => decode b 12) cd_123).trans dX8_sumOf_12
theorem e123_13 : decode (ma_cd 123) 13 = .ok (.getfield 9, 3) := (congrArg (fun b => decode b 13) cd_123).trans dX8_sumOf_13
theorem e123_16 : decode (ma_cd 123) 16 = .ok (.bipush 40, 2) := (congrArg (fun b => decode b 16) cd_123).trans dX8_sumOf_16
theorem e123_18 : decode (ma_cd 123) 18 = .ok (.iload_n 1, 1) := (congrArg (fun b => decode b 18) cd_123).trans dX8_sumOf_18
theorem e123_19 : decode (ma_cd 123) 19 = .ok (.iadd, 1) := (congrArg (fun b => decode b 19) cd_123).trans dX8_sumOf_19
theorem e123_20 : decode (ma_cd 123) 20 = .ok (.iaload, 1) := (congrArg (fun b => decode b 20) cd_123).trans dX8_sumOf_20
theorem e123_21 : decode (ma_cd 123) 21 = .ok (.iastore, 1) := (congrArg (fun b => decode b 21) cd_123).trans dX8_sumOf_21
theorem e123_22 : decode (ma_cd 123) 22 = .ok (.aload_n 0, 1) := (congrArg (fun b => decode b 22) cd_123).trans dX8_sumOf_22
theorem e123_23 : decode (ma_cd 123) 23 = .ok (.getfield 21, 3) := (congrArg (fun b => decode b 23) cd_123).trans dX8_sumOf_23
theorem e123_26 : decode (ma_cd 123) 26 = .ok (.iconst 2, 1) := (congrArg (fun b => decode b 26) cd_123).trans dX8_sumOf_26
theorem e123_27 : decode (ma_cd 123) 27 = .ok (.aload_n 0, 1) := (congrArg (fun b => decode b 27) cd_123).trans dX8_sumOf_27
theorem e123_28 : decode (ma_cd 123) 28 = .ok (.getfield 9, 3) := (congrArg (fun b => decode b 28) cd_123).trans dX8_sumOf_28
theorem e123_31 : decode (ma_cd 123) 31 = .ok (.bipush 46, 2) := (congrArg (fun b => decode b 31) cd_123).trans dX8_sumOf_31
theorem e123_33 : decode (ma_cd 123) 33 = .ok (.iload_n 1, 1) := (congrArg (fun b => decode b 33) cd_123).trans dX8_sumOf_33
theorem e123_34 : decode (ma_cd 123) 34 = .ok (.iadd, 1) := (congrArg (fun b => decode b 34) cd_123).trans dX8_sumOf_34
theorem e123_35 : decode (ma_cd 123) 35 = .ok (.iaload, 1) := (congrArg (fun b => decode b 35) cd_123).trans dX8_sumOf_35
theorem e123_36 : decode (ma_cd 123) 36 = .ok (.iastore, 1) := (congrArg (fun b => decode b 36) cd_123).trans dX8_sumOf_36
theorem e123_37 : decode (ma_cd 123) 37 = .ok (.aload_n 0, 1) := (congrArg (fun b => decode b 37) cd_123).trans dX8_sumOf_37
theorem e123_38 : decode (ma_cd 123) 38 = .ok (.getfield 21, 3) := (congrArg (fun b => decode b 38) cd_123).trans dX8_sumOf_38
theorem e123_41 : decode (ma_cd 123) 41 = .ok (.iconst 3, 1) := (congrArg (fun b => decode b 41) cd_123).trans dX8_sumOf_41
theorem e123_42 : decode (ma_cd 123) 42 = .ok (.aload_n 0, 1) := (congrArg (fun b => decode b 42) cd_123).trans dX8_sumOf_42
theorem e123_43 : decode (ma_cd 123) 43 = .ok (.getfield 9, 3) := (congrArg (fun b => decode b 43) cd_123).trans dX8_sumOf_43
theorem e123_46 : decode (ma_cd 123) 46 = .ok (.bipush 15, 2) := (congrArg (fun b => decode b 46) cd_123).trans dX8_sumOf_46
theorem e123_48 : decode (ma_cd 123) 48 = .ok (.iload_n 1, 1) := (congrArg (fun b => decode b 48) cd_123).trans dX8_sumOf_48
theorem e123_49 : decode (ma_cd 123) 49 = .ok (.iadd, 1) := (congrArg (fun b => decode b 49) cd_123).trans dX8_sumOf_49
theorem e123_50 : decode (ma_cd 123) 50 = .ok (.iaload, 1) := (congrArg (fun b => decode b 50) cd_123).trans dX8_sumOf_50
theorem e123_51 : decode (ma_cd 123) 51 = .ok (.bipush 10, 2) := (congrArg (fun b => decode b 51) cd_123).trans dX8_sumOf_51
theorem e123_53 : decode (ma_cd 123) 53 = .ok (.idiv, 1) := (congrArg (fun b => decode b 53) cd_123).trans dX8_sumOf_53
theorem e123_54 : decode (ma_cd 123) 54 = .ok (.iastore, 1) := (congrArg (fun b => decode b 54) cd_123).trans dX8_sumOf_54
theorem e123_55 : decode (ma_cd 123) 55 = .ok (.aload_n 0, 1) := (congrArg (fun b => decode b 55) cd_123).trans dX8_sumOf_55
theorem e123_56 : decode (ma_cd 123) 56 = .ok (.getfield 21, 3) := (congrArg (fun b => decode b 56) cd_123).trans dX8_sumOf_56
theorem e123_59 : decode (ma_cd 123) 59 = .ok (.iconst 4, 1) := (congrArg (fun b => decode b 59) cd_123).trans dX8_sumOf_59
theorem e123_60 : decode (ma_cd 123) 60 = .ok (.aload_n 0, 1) := (congrArg (fun b => decode b 60) cd_123).trans dX8_sumOf_60
theorem e123_61 : decode (ma_cd 123) 61 = .ok (.getfield 9, 3) := (congrArg (fun b => decode b 61) cd_123).trans dX8_sumOf_61
theorem e123_64 : decode (ma_cd 123) 64 = .ok (.bipush 21, 2) := (congrArg (fun b => decode b 64) cd_123).trans dX8_sumOf_64
theorem e123_66 : decode (ma_cd 123) 66 = .ok (.iload_n 1, 1) := (congrArg (fun b => decode b 66) cd_123).trans dX8_sumOf_66
theorem e123_67 : decode (ma_cd 123) 67 = .ok (.iadd, 1) := (congrArg (fun b => decode b 67) cd_123).trans dX8_sumOf_67
theorem e123_68 : decode (ma_cd 123) 68 = .ok (.iaload, 1) := (congrArg (fun b => decode b 68) cd_123).trans dX8_sumOf_68
theorem e123_69 : decode (ma_cd 123) 69 = .ok (.iastore, 1) := (congrArg (fun b => decode b 69) cd_123).trans dX8_sumOf_69
theorem e123_70 : decode (ma_cd 123) 70 = .ok (.aload_n 0, 1) := (congrArg (fun b => decode b 70) cd_123).trans dX8_sumOf_70
theorem e123_71 : decode (ma_cd 123) 71 = .ok (.getfield 21, 3) := (congrArg (fun b => decode b 71) cd_123).trans dX8_sumOf_71
theorem e123_74 : decode (ma_cd 123) 74 = .ok (.iconst 5, 1) := (congrArg (fun b => decode b 74) cd_123).trans dX8_sumOf_74
theorem e123_75 : decode (ma_cd 123) 75 = .ok (.aload_n 0, 1) := (congrArg (fun b => decode b 75) cd_123).trans dX8_sumOf_75
theorem e123_76 : decode (ma_cd 123) 76 = .ok (.getfield 9, 3) := (congrArg (fun b => decode b 76) cd_123).trans dX8_sumOf_76
theorem e123_79 : decode (ma_cd 123) 79 = .ok (.iconst 0, 1) := (congrArg (fun b => decode b 79) cd_123).trans dX8_sumOf_79
theorem e123_80 : decode (ma_cd 123) 80 = .ok (.iaload, 1) := (congrArg (fun b => decode b 80) cd_123).trans dX8_sumOf_80
theorem e123_81 : decode (ma_cd 123) 81 = .ok (.bipush 7, 2) := (congrArg (fun b => decode b 81) cd_123).trans dX8_sumOf_81
theorem e123_83 : decode (ma_cd 123) 83 = .ok (.irem, 1) := (congrArg (fun b => decode b 83) cd_123).trans dX8_sumOf_83
theorem e123_84 : decode (ma_cd 123) 84 = .ok (.iastore, 1) := (congrArg (fun b => decode b 84) cd_123).trans dX8_sumOf_84
theorem e123_85 : decode (ma_cd 123) 85 = .ok (.bipush 8, 2) := (congrArg (fun b => decode b 85) cd_123).trans dX8_sumOf_85
theorem e123_87 : decode (ma_cd 123) 87 = .ok (.istore_n 2, 1) := (congrArg (fun b => decode b 87) cd_123).trans dX8_sumOf_87
theorem e123_88 : decode (ma_cd 123) 88 = .ok (.aload_n 0, 1) := (congrArg (fun b => decode b 88) cd_123).trans dX8_sumOf_88
theorem e123_89 : decode (ma_cd 123) 89 = .ok (.sipush 228, 3) := (congrArg (fun b => decode b 89) cd_123).trans dX8_sumOf_89
theorem e123_92 : decode (ma_cd 123) 92 = .ok (.iconst 0, 1) := (congrArg (fun b => decode b 92) cd_123).trans dX8_sumOf_92
theorem e123_93 : decode (ma_cd 123) 93 = .ok (.invokevirtual 118, 3) := (congrArg (fun b => decode b 93) cd_123).trans dX8_sumOf_93
theorem e123_96 : decode (ma_cd 123) 96 = .ok (.istore_n 3, 1) := (congrArg (fun b => decode b 96) cd_123).trans dX8_sumOf_96
theorem e123_97 : decode (ma_cd 123) 97 = .ok (.sipush 233, 3) := (congrArg (fun b => decode b 97) cd_123).trans dX8_sumOf_97
theorem e123_100 : decode (ma_cd 123) 100 = .ok (.sipush 140, 3) := (congrArg (fun b => decode b 100) cd_123).trans dX8_sumOf_100
theorem e123_103 : decode (ma_cd 123) 103 = .ok (.aload_n 0, 1) := (congrArg (fun b => decode b 103) cd_123).trans dX8_sumOf_103
theorem e123_104 : decode (ma_cd 123) 104 = .ok (.getfield 9, 3) := (congrArg (fun b => decode b 104) cd_123).trans dX8_sumOf_104
theorem e123_107 : decode (ma_cd 123) 107 = .ok (.bipush 39, 2) := (congrArg (fun b => decode b 107) cd_123).trans dX8_sumOf_107
theorem e123_109 : decode (ma_cd 123) 109 = .ok (.iaload, 1) := (congrArg (fun b => decode b 109) cd_123).trans dX8_sumOf_109
theorem e123_110 : decode (ma_cd 123) 110 = .ok (.imul, 1) := (congrArg (fun b => decode b 110) cd_123).trans dX8_sumOf_110
theorem e123_111 : decode (ma_cd 123) 111 = .ok (.iadd, 1) := (congrArg (fun b => decode b 111) cd_123).trans dX8_sumOf_111
theorem e123_112 : decode (ma_cd 123) 112 = .ok (.istore 4, 2) := (congrArg (fun b => decode b 112) cd_123).trans dX8_sumOf_112
theorem e123_114 : decode (ma_cd 123) 114 = .ok (.iconst 0, 1) := (congrArg (fun b => decode b 114) cd_123).trans dX8_sumOf_114
theorem e123_115 : decode (ma_cd 123) 115 = .ok (.istore 5, 2) := (congrArg (fun b => decode b 115) cd_123).trans dX8_sumOf_115
theorem e123_117 : decode (ma_cd 123) 117 = .ok (.iload 4, 2) := (congrArg (fun b => decode b 117) cd_123).trans dX8_sumOf_117
theorem e123_119 : decode (ma_cd 123) 119 = .ok (.istore 6, 2) := (congrArg (fun b => decode b 119) cd_123).trans dX8_sumOf_119
theorem e123_121 : decode (ma_cd 123) 121 = .ok (.iload 6, 2) := (congrArg (fun b => decode b 121) cd_123).trans dX8_sumOf_121
theorem e123_123 : decode (ma_cd 123) 123 = .ok (.iload 4, 2) := (congrArg (fun b => decode b 123) cd_123).trans dX8_sumOf_123
theorem e123_125 : decode (ma_cd 123) 125 = .ok (.iload_n 3, 1) := (congrArg (fun b => decode b 125) cd_123).trans dX8_sumOf_125
theorem e123_126 : decode (ma_cd 123) 126 = .ok (.iadd, 1) := (congrArg (fun b => decode b 126) cd_123).trans dX8_sumOf_126
theorem e123_127 : decode (ma_cd 123) 127 = .ok (.if_icmp .ge 300, 3) := (congrArg (fun b => decode b 127) cd_123).trans dX8_sumOf_127
theorem e123_130 : decode (ma_cd 123) 130 = .ok (.aload_n 0, 1) := (congrArg (fun b => decode b 130) cd_123).trans dX8_sumOf_130
theorem e123_131 : decode (ma_cd 123) 131 = .ok (.getfield 9, 3) := (congrArg (fun b => decode b 131) cd_123).trans dX8_sumOf_131
theorem e123_134 : decode (ma_cd 123) 134 = .ok (.iload 6, 2) := (congrArg (fun b => decode b 134) cd_123).trans dX8_sumOf_134
theorem e123_136 : decode (ma_cd 123) 136 = .ok (.iaload, 1) := (congrArg (fun b => decode b 136) cd_123).trans dX8_sumOf_136
theorem e123_137 : decode (ma_cd 123) 137 = .ok (.istore 7, 2) := (congrArg (fun b => decode b 137) cd_123).trans dX8_sumOf_137
theorem e123_139 : decode (ma_cd 123) 139 = .ok (.iload 7, 2) := (congrArg (fun b => decode b 139) cd_123).trans dX8_sumOf_139
theorem e123_141 : decode (ma_cd 123) 141 = .ok (.ifCond .lt 97, 3) := (congrArg (fun b => decode b 141) cd_123).trans dX8_sumOf_141
theorem e123_144 : decode (ma_cd 123) 144 = .ok (.aload_n 0, 1) := (congrArg (fun b => decode b 144) cd_123).trans dX8_sumOf_144
theorem e123_145 : decode (ma_cd 123) 145 = .ok (.getfield 21, 3) := (congrArg (fun b => decode b 145) cd_123).trans dX8_sumOf_145
theorem e123_148 : decode (ma_cd 123) 148 = .ok (.iload 7, 2) := (congrArg (fun b => decode b 148) cd_123).trans dX8_sumOf_148
theorem e123_150 : decode (ma_cd 123) 150 = .ok (.bipush 8, 2) := (congrArg (fun b => decode b 150) cd_123).trans dX8_sumOf_150
theorem e123_152 : decode (ma_cd 123) 152 = .ok (.irem, 1) := (congrArg (fun b => decode b 152) cd_123).trans dX8_sumOf_152
theorem e123_153 : decode (ma_cd 123) 153 = .ok (.iaload, 1) := (congrArg (fun b => decode b 153) cd_123).trans dX8_sumOf_153
theorem e123_154 : decode (ma_cd 123) 154 = .ok (.istore 8, 2) := (congrArg (fun b => decode b 154) cd_123).trans dX8_sumOf_154
theorem e123_156 : decode (ma_cd 123) 156 = .ok (.iload 7, 2) := (congrArg (fun b => decode b 156) cd_123).trans dX8_sumOf_156
theorem e123_158 : decode (ma_cd 123) 158 = .ok (.bipush 8, 2) := (congrArg (fun b => decode b 158) cd_123).trans dX8_sumOf_158
theorem e123_160 : decode (ma_cd 123) 160 = .ok (.idiv, 1) := (congrArg (fun b => decode b 160) cd_123).trans dX8_sumOf_160
theorem e123_161 : decode (ma_cd 123) 161 = .ok (.iconst 4, 1) := (congrArg (fun b => decode b 161) cd_123).trans dX8_sumOf_161
theorem e123_162 : decode (ma_cd 123) 162 = .ok (.irem, 1) := (congrArg (fun b => decode b 162) cd_123).trans dX8_sumOf_162
theorem e123_163 : decode (ma_cd 123) 163 = .ok (.istore 9, 2) := (congrArg (fun b => decode b 163) cd_123).trans dX8_sumOf_163
theorem e123_165 : decode (ma_cd 123) 165 = .ok (.iload 7, 2) := (congrArg (fun b => decode b 165) cd_123).trans dX8_sumOf_165
theorem e123_167 : decode (ma_cd 123) 167 = .ok (.bipush 32, 2) := (congrArg (fun b => decode b 167) cd_123).trans dX8_sumOf_167
theorem e123_169 : decode (ma_cd 123) 169 = .ok (.idiv, 1) := (congrArg (fun b => decode b 169) cd_123).trans dX8_sumOf_169
theorem e123_170 : decode (ma_cd 123) 170 = .ok (.istore 10, 2) := (congrArg (fun b => decode b 170) cd_123).trans dX8_sumOf_170
theorem e123_172 : decode (ma_cd 123) 172 = .ok (.aload_n 0, 1) := (congrArg (fun b => decode b 172) cd_123).trans dX8_sumOf_172
theorem e123_173 : decode (ma_cd 123) 173 = .ok (.getfield 24, 3) := (congrArg (fun b => decode b 173) cd_123).trans dX8_sumOf_173
theorem e123_176 : decode (ma_cd 123) 176 = .ok (.iload 5, 2) := (congrArg (fun b => decode b 176) cd_123).trans dX8_sumOf_176
theorem e123_178 : decode (ma_cd 123) 178 = .ok (.iload 9, 2) := (congrArg (fun b => decode b 178) cd_123).trans dX8_sumOf_178
theorem e123_180 : decode (ma_cd 123) 180 = .ok (.ifCond .ne 18, 3) := (congrArg (fun b => decode b 180) cd_123).trans dX8_sumOf_180
theorem e123_183 : decode (ma_cd 123) 183 = .ok (.iload 8, 2) := (congrArg (fun b => decode b 183) cd_123).trans dX8_sumOf_183
theorem e123_185 : decode (ma_cd 123) 185 = .ok (.iload 10, 2) := (congrArg (fun b => decode b 185) cd_123).trans dX8_sumOf_185
theorem e123_187 : decode (ma_cd 123) 187 = .ok (.if_icmp .ge 7, 3) := (congrArg (fun b => decode b 187) cd_123).trans dX8_sumOf_187
theorem e123_190 : decode (ma_cd 123) 190 = .ok (.iconst 1, 1) := (congrArg (fun b => decode b 190) cd_123).trans dX8_sumOf_190
theorem e123_191 : decode (ma_cd 123) 191 = .ok (.goto 40, 3) := (congrArg (fun b => decode b 191) cd_123).trans dX8_sumOf_191
theorem e123_194 : decode (ma_cd 123) 194 = .ok (.iconst 0, 1) := (congrArg (fun b => decode b 194) cd_123).trans dX8_sumOf_194
theorem e123_195 : decode (ma_cd 123) 195 = .ok (.goto 36, 3) := (congrArg (fun b => decode b 195) cd_123).trans dX8_sumOf_195
theorem e123_198 : decode (ma_cd 123) 198 = .ok (.iload 9, 2) := (congrArg (fun b => decode b 198) cd_123).trans dX8_sumOf_198
theorem e123_200 : decode (ma_cd 123) 200 = .ok (.iconst 1, 1) := (congrArg (fun b => decode b 200) cd_123).trans dX8_sumOf_200
theorem e123_201 : decode (ma_cd 123) 201 = .ok (.if_icmp .ne 18, 3) := (congrArg (fun b => decode b 201) cd_123).trans dX8_sumOf_201
theorem e123_204 : decode (ma_cd 123) 204 = .ok (.iload 8, 2) := (congrArg (fun b => decode b 204) cd_123).trans dX8_sumOf_204
theorem e123_206 : decode (ma_cd 123) 206 = .ok (.iload 10, 2) := (congrArg (fun b => decode b 206) cd_123).trans dX8_sumOf_206
theorem e123_208 : decode (ma_cd 123) 208 = .ok (.if_icmp .ne 7, 3) := (congrArg (fun b => decode b 208) cd_123).trans dX8_sumOf_208
theorem e123_211 : decode (ma_cd 123) 211 = .ok (.iconst 1, 1) := (congrArg (fun b => decode b 211) cd_123).trans dX8_sumOf_211
theorem e123_212 : decode (ma_cd 123) 212 = .ok (.goto 19, 3) := (congrArg (fun b => decode b 212) cd_123).trans dX8_sumOf_212
theorem e123_215 : decode (ma_cd 123) 215 = .ok (.iconst 0, 1) := (congrArg (fun b => decode b 215) cd_123).trans dX8_sumOf_215
theorem e123_216 : decode (ma_cd 123) 216 = .ok (.goto 15, 3) := (congrArg (fun b => decode b 216) cd_123).trans dX8_sumOf_216
theorem e123_219 : decode (ma_cd 123) 219 = .ok (.iload 8, 2) := (congrArg (fun b => decode b 219) cd_123).trans dX8_sumOf_219
theorem e123_221 : decode (ma_cd 123) 221 = .ok (.iload 10, 2) := (congrArg (fun b => decode b 221) cd_123).trans dX8_sumOf_221
theorem e123_223 : decode (ma_cd 123) 223 = .ok (.if_icmp .le 7, 3) := (congrArg (fun b => decode b 223) cd_123).trans dX8_sumOf_223
theorem e123_226 : decode (ma_cd 123) 226 = .ok (.iconst 1, 1) := (congrArg (fun b => decode b 226) cd_123).trans dX8_sumOf_226
theorem e123_227 : decode (ma_cd 123) 227 = .ok (.goto 4, 3) := (congrArg (fun b => decode b 227) cd_123).trans dX8_sumOf_227
theorem e123_230 : decode (ma_cd 123) 230 = .ok (.iconst 0, 1) := (congrArg (fun b => decode b 230) cd_123).trans dX8_sumOf_230
theorem e123_231 : decode (ma_cd 123) 231 = .ok (.bastore, 1) := (congrArg (fun b => decode b 231) cd_123).trans dX8_sumOf_231
theorem e123_232 : decode (ma_cd 123) 232 = .ok (.iinc 5 1, 3) := (congrArg (fun b => decode b 232) cd_123).trans dX8_sumOf_232
theorem e123_235 : decode (ma_cd 123) 235 = .ok (.goto 186, 3) := (congrArg (fun b => decode b 235) cd_123).trans dX8_sumOf_235
theorem e123_238 : decode (ma_cd 123) 238 = .ok (.iload 7, 2) := (congrArg (fun b => decode b 238) cd_123).trans dX8_sumOf_238
theorem e123_240 : decode (ma_cd 123) 240 = .ok (.iconst (-1), 1) := (congrArg (fun b => decode b 240) cd_123).trans dX8_sumOf_240
theorem e123_241 : decode (ma_cd 123) 241 = .ok (.if_icmp .ne 32, 3) := (congrArg (fun b => decode b 241) cd_123).trans dX8_sumOf_241
theorem e123_244 : decode (ma_cd 123) 244 = .ok (.aload_n 0, 1) := (congrArg (fun b => decode b 244) cd_123).trans dX8_sumOf_244
theorem e123_245 : decode (ma_cd 123) 245 = .ok (.getfield 24, 3) := (congrArg (fun b => decode b 245) cd_123).trans dX8_sumOf_245
theorem e123_248 : decode (ma_cd 123) 248 = .ok (.iload 5, 2) := (congrArg (fun b => decode b 248) cd_123).trans dX8_sumOf_248
theorem e123_250 : decode (ma_cd 123) 250 = .ok (.iconst 1, 1) := (congrArg (fun b => decode b 250) cd_123).trans dX8_sumOf_250
theorem e123_251 : decode (ma_cd 123) 251 = .ok (.isub, 1) := (congrArg (fun b => decode b 251) cd_123).trans dX8_sumOf_251
theorem e123_252 : decode (ma_cd 123) 252 = .ok (.aload_n 0, 1) := (congrArg (fun b => decode b 252) cd_123).trans dX8_sumOf_252
theorem e123_253 : decode (ma_cd 123) 253 = .ok (.getfield 24, 3) := (congrArg (fun b => decode b 253) cd_123).trans dX8_sumOf_253
theorem e123_256 : decode (ma_cd 123) 256 = .ok (.iload 5, 2) := (congrArg (fun b => decode b 256) cd_123).trans dX8_sumOf_256
theorem e123_258 : decode (ma_cd 123) 258 = .ok (.iconst 1, 1) := (congrArg (fun b => decode b 258) cd_123).trans dX8_sumOf_258
theorem e123_259 : decode (ma_cd 123) 259 = .ok (.isub, 1) := (congrArg (fun b => decode b 259) cd_123).trans dX8_sumOf_259
theorem e123_260 : decode (ma_cd 123) 260 = .ok (.baload, 1) := (congrArg (fun b => decode b 260) cd_123).trans dX8_sumOf_260
theorem e123_261 : decode (ma_cd 123) 261 = .ok (.ifCond .ne 7, 3) := (congrArg (fun b => decode b 261) cd_123).trans dX8_sumOf_261
theorem e123_264 : decode (ma_cd 123) 264 = .ok (.iconst 1, 1) := (congrArg (fun b => decode b 264) cd_123).trans dX8_sumOf_264
theorem e123_265 : decode (ma_cd 123) 265 = .ok (.goto 4, 3) := (congrArg (fun b => decode b 265) cd_123).trans dX8_sumOf_265
theorem e123_268 : decode (ma_cd 123) 268 = .ok (.iconst 0, 1) := (congrArg (fun b => decode b 268) cd_123).trans dX8_sumOf_268
theorem e123_269 : decode (ma_cd 123) 269 = .ok (.bastore, 1) := (congrArg (fun b => decode b 269) cd_123).trans dX8_sumOf_269
theorem e123_270 : decode (ma_cd 123) 270 = .ok (.goto 151, 3) := (congrArg (fun b => decode b 270) cd_123).trans dX8_sumOf_270
theorem e123_273 : decode (ma_cd 123) 273 = .ok (.iload 7, 2) := (congrArg (fun b => decode b 273) cd_123).trans dX8_sumOf_273
theorem e123_275 : decode (ma_cd 123) 275 = .ok (.bipush (-10), 2) := (congrArg (fun b => decode b 275) cd_123).trans dX8_sumOf_275
theorem e123_277 : decode (ma_cd 123) 277 = .ok (.if_icmp .le 82, 3) := (congrArg (fun b => decode b 277) cd_123).trans dX8_sumOf_277
theorem e123_280 : decode (ma_cd 123) 280 = .ok (.iinc 5 (-1), 3) := (congrArg (fun b => decode b 280) cd_123).trans dX8_sumOf_280
theorem e123_283 : decode (ma_cd 123) 283 = .ok (.aload_n 0, 1) := (congrArg (fun b => decode b 283) cd_123).trans dX8_sumOf_283
theorem e123_284 : decode (ma_cd 123) 284 = .ok (.getfield 24, 3) := (congrArg (fun b => decode b 284) cd_123).trans dX8_sumOf_284
theorem e123_287 : decode (ma_cd 123) 287 = .ok (.iload 5, 2) := (congrArg (fun b => decode b 287) cd_123).trans dX8_sumOf_287
theorem e123_289 : decode (ma_cd 123) 289 = .ok (.iconst 1, 1) := (congrArg (fun b => decode b 289) cd_123).trans dX8_sumOf_289
theorem e123_290 : decode (ma_cd 123) 290 = .ok (.isub, 1) := (congrArg (fun b => decode b 290) cd_123).trans dX8_sumOf_290
theorem e123_291 : decode (ma_cd 123) 291 = .ok (.iload 7, 2) := (congrArg (fun b => decode b 291) cd_123).trans dX8_sumOf_291
theorem e123_293 : decode (ma_cd 123) 293 = .ok (.bipush (-2), 2) := (congrArg (fun b => decode b 293) cd_123).trans dX8_sumOf_293
theorem e123_295 : decode (ma_cd 123) 295 = .ok (.if_icmp .ne 33, 3) := (congrArg (fun b => decode b 295) cd_123).trans dX8_sumOf_295
theorem e123_298 : decode (ma_cd 123) 298 = .ok (.aload_n 0, 1) := (congrArg (fun b => decode b 298) cd_123).trans dX8_sumOf_298
theorem e123_299 : decode (ma_cd 123) 299 = .ok (.getfield 24, 3) := (congrArg (fun b => decode b 299) cd_123).trans dX8_sumOf_299
theorem e123_302 : decode (ma_cd 123) 302 = .ok (.iload 5, 2) := (congrArg (fun b => decode b 302) cd_123).trans dX8_sumOf_302
theorem e123_304 : decode (ma_cd 123) 304 = .ok (.iconst 1, 1) := (congrArg (fun b => decode b 304) cd_123).trans dX8_sumOf_304
theorem e123_305 : decode (ma_cd 123) 305 = .ok (.isub, 1) := (congrArg (fun b => decode b 305) cd_123).trans dX8_sumOf_305
theorem e123_306 : decode (ma_cd 123) 306 = .ok (.baload, 1) := (congrArg (fun b => decode b 306) cd_123).trans dX8_sumOf_306
theorem e123_307 : decode (ma_cd 123) 307 = .ok (.ifCond .eq 17, 3) := (congrArg (fun b => decode b 307) cd_123).trans dX8_sumOf_307
theorem e123_310 : decode (ma_cd 123) 310 = .ok (.aload_n 0, 1) := (congrArg (fun b => decode b 310) cd_123).trans dX8_sumOf_310
theorem e123_311 : decode (ma_cd 123) 311 = .ok (.getfield 24, 3) := (congrArg (fun b => decode b 311) cd_123).trans dX8_sumOf_311
theorem e123_314 : decode (ma_cd 123) 314 = .ok (.iload 5, 2) := (congrArg (fun b => decode b 314) cd_123).trans dX8_sumOf_314
theorem e123_316 : decode (ma_cd 123) 316 = .ok (.baload, 1) := (congrArg (fun b => decode b 316) cd_123).trans dX8_sumOf_316
theorem e123_317 : decode (ma_cd 123) 317 = .ok (.ifCond .eq 7, 3) := (congrArg (fun b => decode b 317) cd_123).trans dX8_sumOf_317
theorem e123_320 : decode (ma_cd 123) 320 = .ok (.iconst 1, 1) := (congrArg (fun b => decode b 320) cd_123).trans dX8_sumOf_320
theorem e123_321 : decode (ma_cd 123) 321 = .ok (.goto 34, 3) := (congrArg (fun b => decode b 321) cd_123).trans dX8_sumOf_321
theorem e123_324 : decode (ma_cd 123) 324 = .ok (.iconst 0, 1) := (congrArg (fun b => decode b 324) cd_123).trans dX8_sumOf_324
theorem e123_325 : decode (ma_cd 123) 325 = .ok (.goto 30, 3) := (congrArg (fun b => decode b 325) cd_123).trans dX8_sumOf_325
theorem e123_328 : decode (ma_cd 123) 328 = .ok (.aload_n 0, 1) := (congrArg (fun b => decode b 328) cd_123).trans dX8_sumOf_328
theorem e123_329 : decode (ma_cd 123) 329 = .ok (.getfield 24, 3) := (congrArg (fun b => decode b 329) cd_123).trans dX8_sumOf_329
theorem e123_332 : decode (ma_cd 123) 332 = .ok (.iload 5, 2) := (congrArg (fun b => decode b 332) cd_123).trans dX8_sumOf_332
theorem e123_334 : decode (ma_cd 123) 334 = .ok (.iconst 1, 1) := (congrArg (fun b => decode b 334) cd_123).trans dX8_sumOf_334
theorem e123_335 : decode (ma_cd 123) 335 = .ok (.isub, 1) := (congrArg (fun b => decode b 335) cd_123).trans dX8_sumOf_335
theorem e123_336 : decode (ma_cd 123) 336 = .ok (.baload, 1) := (congrArg (fun b => decode b 336) cd_123).trans dX8_sumOf_336
theorem e123_337 : decode (ma_cd 123) 337 = .ok (.ifCond .ne 13, 3) := (congrArg (fun b => decode b 337) cd_123).trans dX8_sumOf_337
theorem e123_340 : decode (ma_cd 123) 340 = .ok (.aload_n 0, 1) := (congrArg (fun b => decode b 340) cd_123).trans dX8_sumOf_340
theorem e123_341 : decode (ma_cd 123) 341 = .ok (.getfield 24, 3) := (congrArg (fun b => decode b 341) cd_123).trans dX8_sumOf_341
theorem e123_344 : decode (ma_cd 123) 344 = .ok (.iload 5, 2) := (congrArg (fun b => decode b 344) cd_123).trans dX8_sumOf_344
theorem e123_346 : decode (ma_cd 123) 346 = .ok (.baload, 1) := (congrArg (fun b => decode b 346) cd_123).trans dX8_sumOf_346
theorem e123_347 : decode (ma_cd 123) 347 = .ok (.ifCond .eq 7, 3) := (congrArg (fun b => decode b 347) cd_123).trans dX8_sumOf_347
theorem e123_350 : decode (ma_cd 123) 350 = .ok (.iconst 1, 1) := (congrArg (fun b => decode b 350) cd_123).trans dX8_sumOf_350
theorem e123_351 : decode (ma_cd 123) 351 = .ok (.goto 4, 3) := (congrArg (fun b => decode b 351) cd_123).trans dX8_sumOf_351
theorem e123_354 : decode (ma_cd 123) 354 = .ok (.iconst 0, 1) := (congrArg (fun b => decode b 354) cd_123).trans dX8_sumOf_354
theorem e123_355 : decode (ma_cd 123) 355 = .ok (.bastore, 1) := (congrArg (fun b => decode b 355) cd_123).trans dX8_sumOf_355
theorem e123_356 : decode (ma_cd 123) 356 = .ok (.goto 65, 3) := (congrArg (fun b => decode b 356) cd_123).trans dX8_sumOf_356
theorem e123_359 : decode (ma_cd 123) 359 = .ok (.iconst 0, 1) := (congrArg (fun b => decode b 359) cd_123).trans dX8_sumOf_359
theorem e123_360 : decode (ma_cd 123) 360 = .ok (.istore 5, 2) := (congrArg (fun b => decode b 360) cd_123).trans dX8_sumOf_360
theorem e123_362 : decode (ma_cd 123) 362 = .ok (.aload_n 0, 1) := (congrArg (fun b => decode b 362) cd_123).trans dX8_sumOf_362
theorem e123_363 : decode (ma_cd 123) 363 = .ok (.getfield 24, 3) := (congrArg (fun b => decode b 363) cd_123).trans dX8_sumOf_363
theorem e123_366 : decode (ma_cd 123) 366 = .ok (.iconst 0, 1) := (congrArg (fun b => decode b 366) cd_123).trans dX8_sumOf_366
theorem e123_367 : decode (ma_cd 123) 367 = .ok (.baload, 1) := (congrArg (fun b => decode b 367) cd_123).trans dX8_sumOf_367
theorem e123_368 : decode (ma_cd 123) 368 = .ok (.istore 8, 2) := (congrArg (fun b => decode b 368) cd_123).trans dX8_sumOf_368
theorem e123_370 : decode (ma_cd 123) 370 = .ok (.iload_n 2, 1) := (congrArg (fun b => decode b 370) cd_123).trans dX8_sumOf_370
theorem e123_371 : decode (ma_cd 123) 371 = .ok (.iload 8, 2) := (congrArg (fun b => decode b 371) cd_123).trans dX8_sumOf_371
theorem e123_373 : decode (ma_cd 123) 373 = .ok (.ifCond .eq 19, 3) := (congrArg (fun b => decode b 373) cd_123).trans dX8_sumOf_373
theorem e123_376 : decode (ma_cd 123) 376 = .ok (.iload 7, 2) := (congrArg (fun b => decode b 376) cd_123).trans dX8_sumOf_376
theorem e123_378 : decode (ma_cd 123) 378 = .ok (.sipush (-200), 3) := (congrArg (fun b => decode b 378) cd_123).trans dX8_sumOf_378
theorem e123_381 : decode (ma_cd 123) 381 = .ok (.if_icmp .le 11, 3) := (congrArg (fun b => decode b 381) cd_123).trans dX8_sumOf_381
theorem e123_384 : decode (ma_cd 123) 384 = .ok (.bipush (-10), 2) := (congrArg (fun b => decode b 384) cd_123).trans dX8_sumOf_384
theorem e123_386 : decode (ma_cd 123) 386 = .ok (.iload 7, 2) := (congrArg (fun b => decode b 386) cd_123).trans dX8_sumOf_386
theorem e123_388 : decode (ma_cd 123) 388 = .ok (.isub, 1) := (congrArg (fun b => decode b 388) cd_123).trans dX8_sumOf_388
theorem e123_389 : decode (ma_cd 123) 389 = .ok (.goto 4, 3) := (congrArg (fun b => decode b 389) cd_123).trans dX8_sumOf_389
theorem e123_392 : decode (ma_cd 123) 392 = .ok (.iconst 0, 1) := (congrArg (fun b => decode b 392) cd_123).trans dX8_sumOf_392
theorem e123_393 : decode (ma_cd 123) 393 = .ok (.iadd, 1) := (congrArg (fun b => decode b 393) cd_123).trans dX8_sumOf_393
theorem e123_394 : decode (ma_cd 123) 394 = .ok (.istore_n 2, 1) := (congrArg (fun b => decode b 394) cd_123).trans dX8_sumOf_394
theorem e123_395 : decode (ma_cd 123) 395 = .ok (.iload_n 2, 1) := (congrArg (fun b => decode b 395) cd_123).trans dX8_sumOf_395
theorem e123_396 : decode (ma_cd 123) 396 = .ok (.iload 8, 2) := (congrArg (fun b => decode b 396) cd_123).trans dX8_sumOf_396
theorem e123_398 : decode (ma_cd 123) 398 = .ok (.ifCond .eq 20, 3) := (congrArg (fun b => decode b 398) cd_123).trans dX8_sumOf_398
theorem e123_401 : decode (ma_cd 123) 401 = .ok (.iload 7, 2) := (congrArg (fun b => decode b 401) cd_123).trans dX8_sumOf_401
theorem e123_403 : decode (ma_cd 123) 403 = .ok (.sipush (-200), 3) := (congrArg (fun b => decode b 403) cd_123).trans dX8_sumOf_403
theorem e123_406 : decode (ma_cd 123) 406 = .ok (.if_icmp .gt 12, 3) := (congrArg (fun b => decode b 406) cd_123).trans dX8_sumOf_406
theorem e123_409 : decode (ma_cd 123) 409 = .ok (.sipush (-200), 3) := (congrArg (fun b => decode b 409) cd_123).trans dX8_sumOf_409
theorem e123_412 : decode (ma_cd 123) 412 = .ok (.iload 7, 2) := (congrArg (fun b => decode b 412) cd_123).trans dX8_sumOf_412
theorem e123_414 : decode (ma_cd 123) 414 = .ok (.isub, 1) := (congrArg (fun b => decode b 414) cd_123).trans dX8_sumOf_414
theorem e123_415 : decode (ma_cd 123) 415 = .ok (.goto 4, 3) := (congrArg (fun b => decode b 415) cd_123).trans dX8_sumOf_415
theorem e123_418 : decode (ma_cd 123) 418 = .ok (.iconst 0, 1) := (congrArg (fun b => decode b 418) cd_123).trans dX8_sumOf_418
theorem e123_419 : decode (ma_cd 123) 419 = .ok (.isub, 1) := (congrArg (fun b => decode b 419) cd_123).trans dX8_sumOf_419
theorem e123_420 : decode (ma_cd 123) 420 = .ok (.istore_n 2, 1) := (congrArg (fun b => decode b 420) cd_123).trans dX8_sumOf_420
theorem e123_421 : decode (ma_cd 123) 421 = .ok (.iinc 6 1, 3) := (congrArg (fun b => decode b 421) cd_123).trans dX8_sumOf_421
theorem e123_424 : decode (ma_cd 123) 424 = .ok (.goto (-303), 3) := (congrArg (fun b => decode b 424) cd_123).trans dX8_sumOf_424
theorem e123_427 : decode (ma_cd 123) 427 = .ok (.iload_n 2, 1) := (congrArg (fun b => decode b 427) cd_123).trans dX8_sumOf_427
theorem e123_428 : decode (ma_cd 123) 428 = .ok (.ireturn, 1) := (congrArg (fun b => decode b 428) cd_123).trans dX8_sumOf_428
theorem Sh123_121 {ro : ma_RO} {d : Nat} : (∀ (v0 : Option Value) (v1 : Option Value) (v2 : Option Value) (v3 : Option Value) (v4 : Option Value) (v5 : Option Value) (v7 : Option Value) (v8 : Option Value) (v9 : Option Value) (v10 : Option Value) (x1 : Int32) (st : List Value) (σ : ma_H), ma_rn ro d 123 (121, [v0, v1, v2, v3, v4, v5, some (.int x1), v7, v8, v9, v10], st, SH, σ) = ma_rn ro d 123 (123, [v0, v1, v2, v3, v4, v5, some (.int x1), v7, v8, v9, v10], .int x1 :: st, SH, σ)) := fun v0 v1 v2 v3 v4 v5 v7 v8 v9 v10 x1 st σ => q_go e123_121 rfl rfl
set_option maxRecDepth 100000 in
theorem S123 {ro : ma_RO} {d : Nat} : (∀ (v1 : Option Value) (v2 : Option Value) (v3 : Option Value) (v4 : Option Value) (v5 : Option Value) (v6 : Option Value) (v7 : Option Value) (v8 : Option Value) (v9 : Option Value) (v10 : Option Value) (a1 : Nat) (st : List Value) (σ : ma_H), ma_rn ro d 123 (0, [some (.ref a1), v1, v2, v3, v4, v5, v6, v7, v8, v9, v10], st, SH, σ) = ma_rn ro d 123 (1, [some (.ref a1), v1, v2, v3, v4, v5, v6, v7, v8, v9, v10], .ref a1 :: st, SH, σ)) ∧
  (∀ (v0 : Option Value) (v1 : Option Value) (v2 : Option Value) (v3 : Option Value) (v4 : Option Value) (v5 : Option Value) (v6 : Option Value) (v7 : Option Value) (v8 : Option Value) (v9 : Option Value) (v10 : Option Value) (a1 : Nat) (st : List Value) (σ : ma_H) (hc : hk_cls a1 = 8), ma_rn ro d 123 (1, [v0, v1, v2, v3, v4, v5, v6, v7, v8, v9, v10], .ref a1 :: st, SH, σ) = ma_rn ro d 123 (4, [v0, v1, v2, v3, v4, v5, v6, v7, v8, v9, v10], .ref (94) :: st, SH, σ)) ∧
  (∀ (v0 : Option Value) (v1 : Option Value) (v2 : Option Value) (v3 : Option Value) (v4 : Option Value) (v5 : Option Value) (v6 : Option Value) (v7 : Option Value) (v8 : Option Value) (v9 : Option Value) (v10 : Option Value) (st : List Value) (σ : ma_H), ma_rn ro d 123 (4, [v0, v1, v2, v3, v4, v5, v6, v7, v8, v9, v10], st, SH, σ) = ma_rn ro d 123 (5, [v0, v1, v2, v3, v4, v5, v6, v7, v8, v9, v10], .int (nI 0) :: st, SH, σ)) ∧
  (∀ (v0 : Option Value) (v2 : Option Value) (v3 : Option Value) (v4 : Option Value) (v5 : Option Value) (v6 : Option Value) (v7 : Option Value) (v8 : Option Value) (v9 : Option Value) (v10 : Option Value) (x1 : Int32) (st : List Value) (σ : ma_H), ma_rn ro d 123 (5, [v0, some (.int x1), v2, v3, v4, v5, v6, v7, v8, v9, v10], st, SH, σ) = ma_rn ro d 123 (6, [v0, some (.int x1), v2, v3, v4, v5, v6, v7, v8, v9, v10], .int x1 :: st, SH, σ)) ∧
  (∀ (v0 : Option Value) (v1 : Option Value) (v2 : Option Value) (v3 : Option Value) (v4 : Option Value) (v5 : Option Value) (v6 : Option Value) (v7 : Option Value) (v8 : Option Value) (v9 : Option Value) (v10 : Option Value) (x1 : Int32) (k : Nat) (a3 : Nat) (st : List Value) (σ : ma_H) (hk : k < hk_len a3), ma_rn ro d 123 (6, [v0, v1, v2, v3, v4, v5, v6, v7, v8, v9, v10], .int x1 :: .int (nI k) :: .ref a3 :: st, SH, σ) = ma_rn ro d 123 (7, [v0, v1, v2, v3, v4, v5, v6, v7, v8, v9, v10], st, SH, (ma_up σ a3 k x1))) ∧
  (∀ (v1 : Option Value) (v2 : Option Value) (v3 : Option Value) (v4 : Option Value) (v5 : Option Value) (v6 : Option Value) (v7 : Option Value) (v8 : Option Value) (v9 : Option Value) (v10 : Option Value) (a1 : Nat) (st : List Value) (σ : ma_H), ma_rn ro d 123 (7, [some (.ref a1), v1, v2, v3, v4, v5, v6, v7, v8, v9, v10], st, SH, σ) = ma_rn ro d 123 (8, [some (.ref a1), v1, v2, v3, v4, v5, v6, v7, v8, v9, v10], .ref a1 :: st, SH, σ)) ∧
  (∀ (v0 : Option Value) (v1 : Option Value) (v2 : Option Value) (v3 : Option Value) (v4 : Option Value) (v5 : Option Value) (v6 : Option Value) (v7 : Option Value) (v8 : Option Value) (v9 : Option Value) (v10 : Option Value) (a1 : Nat) (st : List Value) (σ : ma_H) (hc : hk_cls a1 = 8), ma_rn ro d 123 (8, [v0, v1, v2, v3, v4, v5, v6, v7, v8, v9, v10], .ref a1 :: st, SH, σ) = ma_rn ro d 123 (11, [v0, v1, v2, v3, v4, v5, v6, v7, v8, v9, v10], .ref (94) :: st, SH, σ)) ∧
  (∀ (v0 : Option Value) (v1 : Option Value) (v2 : Option Value) (v3 : Option Value) (v4 : Option Value) (v5 : Option Value) (v6 : Option Value) (v7 : Option Value) (v8 : Option Value) (v9 : Option Value) (v10 : Option Value) (st : List Value) (σ : ma_H), ma_rn ro d 123 (11, [v0, v1, v2, v3, v4, v5, v6, v7, v8, v9, v10], st, SH, σ) = ma_rn ro d 123 (12, [v0, v1, v2, v3, v4, v5, v6, v7, v8, v9, v10], .int (nI 1) :: st, SH, σ)) ∧
  (∀ (v1 : Option Value) (v2 : Option Value) (v3 : Option Value) (v4 : Option Value) (v5 : Option Value) (v6 : Option Value) (v7 : Option Value) (v8 : Option Value) (v9 : Option Value) (v10 : Option Value) (a1 : Nat) (st : List Value) (σ : ma_H), ma_rn ro d 123 (12, [some (.ref a1), v1, v2, v3, v4, v5, v6, v7, v8, v9, v10], st, SH, σ) = ma_rn ro d 123 (13, [some (.ref a1), v1, v2, v3, v4, v5, v6, v7, v8, v9, v10], .ref a1 :: st, SH, σ)) ∧
  (∀ (v0 : Option Value) (v1 : Option Value) (v2 : Option Value) (v3 : Option Value) (v4 : Option Value) (v5 : Option Value) (v6 : Option Value) (v7 : Option Value) (v8 : Option Value) (v9 : Option Value) (v10 : Option Value) (a1 : Nat) (st : List Value) (σ : ma_H) (hc : hk_cls a1 = 8), ma_rn ro d 123 (13, [v0, v1, v2, v3, v4, v5, v6, v7, v8, v9, v10], .ref a1 :: st, SH, σ) = ma_rn ro d 123 (16, [v0, v1, v2, v3, v4, v5, v6, v7, v8, v9, v10], .ref (91) :: st, SH, σ)) ∧
  (∀ (v0 : Option Value) (v1 : Option Value) (v2 : Option Value) (v3 : Option Value) (v4 : Option Value) (v5 : Option Value) (v6 : Option Value) (v7 : Option Value) (v8 : Option Value) (v9 : Option Value) (v10 : Option Value) (st : List Value) (σ : ma_H), ma_rn ro d 123 (16, [v0, v1, v2, v3, v4, v5, v6, v7, v8, v9, v10], st, SH, σ) = ma_rn ro d 123 (18, [v0, v1, v2, v3, v4, v5, v6, v7, v8, v9, v10], .int (nI 40) :: st, SH, σ)) ∧
  (∀ (v0 : Option Value) (v2 : Option Value) (v3 : Option Value) (v4 : Option Value) (v5 : Option Value) (v6 : Option Value) (v7 : Option Value) (v8 : Option Value) (v9 : Option Value) (v10 : Option Value) (x1 : Int32) (st : List Value) (σ : ma_H), ma_rn ro d 123 (18, [v0, some (.int x1), v2, v3, v4, v5, v6, v7, v8, v9, v10], st, SH, σ) = ma_rn ro d 123 (19, [v0, some (.int x1), v2, v3, v4, v5, v6, v7, v8, v9, v10], .int x1 :: st, SH, σ)) ∧
  (∀ (v0 : Option Value) (v1 : Option Value) (v2 : Option Value) (v3 : Option Value) (v4 : Option Value) (v5 : Option Value) (v6 : Option Value) (v7 : Option Value) (v8 : Option Value) (v9 : Option Value) (v10 : Option Value) (x1 : Int32) (x2 : Int32) (st : List Value) (σ : ma_H), ma_rn ro d 123 (19, [v0, v1, v2, v3, v4, v5, v6, v7, v8, v9, v10], .int x1 :: .int x2 :: st, SH, σ) = ma_rn ro d 123 (20, [v0, v1, v2, v3, v4, v5, v6, v7, v8, v9, v10], .int (x2 + x1) :: st, SH, σ)) ∧
  (∀ (v0 : Option Value) (v1 : Option Value) (v2 : Option Value) (v3 : Option Value) (v4 : Option Value) (v5 : Option Value) (v6 : Option Value) (v7 : Option Value) (v8 : Option Value) (v9 : Option Value) (v10 : Option Value) (k : Nat) (a2 : Nat) (st : List Value) (σ : ma_H) (hk : k < hk_len a2), ma_rn ro d 123 (20, [v0, v1, v2, v3, v4, v5, v6, v7, v8, v9, v10], .int (nI k) :: .ref a2 :: st, SH, σ) = ma_rn ro d 123 (21, [v0, v1, v2, v3, v4, v5, v6, v7, v8, v9, v10], .int (σ a2 k) :: st, SH, σ)) ∧
  (∀ (v0 : Option Value) (v1 : Option Value) (v2 : Option Value) (v3 : Option Value) (v4 : Option Value) (v5 : Option Value) (v6 : Option Value) (v7 : Option Value) (v8 : Option Value) (v9 : Option Value) (v10 : Option Value) (x1 : Int32) (k : Nat) (a3 : Nat) (st : List Value) (σ : ma_H) (hk : k < hk_len a3), ma_rn ro d 123 (21, [v0, v1, v2, v3, v4, v5, v6, v7, v8, v9, v10], .int x1 :: .int (nI k) :: .ref a3 :: st, SH, σ) = ma_rn ro d 123 (22, [v0, v1, v2, v3, v4, v5, v6, v7, v8, v9, v10], st, SH, (ma_up σ a3 k x1))) ∧
  (∀ (v1 : Option Value) (v2 : Option Value) (v3 : Option Value) (v4 : Option Value) (v5 : Option Value) (v6 : Option Value) (v7 : Option Value) (v8 : Option Value) (v9 : Option Value) (v10 : Option Value) (a1 : Nat) (st : List Value) (σ : ma_H), ma_rn ro d 123 (22, [some (.ref a1), v1, v2, v3, v4, v5, v6, v7, v8, v9, v10], st, SH, σ) = ma_rn ro d 123 (23, [some (.ref a1), v1, v2, v3, v4, v5, v6, v7, v8, v9, v10], .ref a1 :: st, SH, σ)) ∧
  (∀ (v0 : Option Value) (v1 : Option Value) (v2 : Option Value) (v3 : Option Value) (v4 : Option Value) (v5 : Option Value) (v6 : Option Value) (v7 : Option Value) (v8 : Option Value) (v9 : Option Value) (v10 : Option Value) (a1 : Nat) (st : List Value) (σ : ma_H) (hc : hk_cls a1 = 8), ma_rn ro d 123 (23, [v0, v1, v2, v3, v4, v5, v6, v7, v8, v9, v10], .ref a1 :: st, SH, σ) = ma_rn ro d 123 (26, [v0, v1, v2, v3, v4, v5, v6, v7, v8, v9, v10], .ref (94) :: st, SH, σ)) ∧
  (∀ (v0 : Option Value) (v1 : Option Value) (v2 : Option Value) (v3 : Option Value) (v4 : Option Value) (v5 : Option Value) (v6 : Option Value) (v7 : Option Value) (v8 : Option Value) (v9 : Option Value) (v10 : Option Value) (st : List Value) (σ : ma_H), ma_rn ro d 123 (26, [v0, v1, v2, v3, v4, v5, v6, v7, v8, v9, v10], st, SH, σ) = ma_rn ro d 123 (27, [v0, v1, v2, v3, v4, v5, v6, v7, v8, v9, v10], .int (nI 2) :: st, SH, σ)) ∧
  (∀ (v1 : Option Value) (v2 : Option Value) (v3 : Option Value) (v4 : Option Value) (v5 : Option Value) (v6 : Option Value) (v7 : Option Value) (v8 : Option Value) (v9 : Option Value) (v10 : Option Value) (a1 : Nat) (st : List Value) (σ : ma_H), ma_rn ro d 123 (27, [some (.ref a1), v1, v2, v3, v4, v5, v6, v7, v8, v9, v10], st, SH, σ) = ma_rn ro d 123 (28, [some (.ref a1), v1, v2, v3, v4, v5, v6, v7, v8, v9, v10], .ref a1 :: st, SH, σ)) ∧
  (∀ (v0 : Option Value) (v1 : Option Value) (v2 : Option Value) (v3 : Option Value) (v4 : Option Value) (v5 : Option Value) (v6 : Option Value) (v7 : Option Value) (v8 : Option Value) (v9 : Option Value) (v10 : Option Value) (a1 : Nat) (st : List Value) (σ : ma_H) (hc : hk_cls a1 = 8), ma_rn ro d 123 (28, [v0, v1, v2, v3, v4, v5, v6, v7, v8, v9, v10], .ref a1 :: st, SH, σ) = ma_rn ro d 123 (31, [v0, v1, v2, v3, v4, v5, v6, v7, v8, v9, v10], .ref (91) :: st, SH, σ)) ∧
  (∀ (v0 : Option Value) (v1 : Option Value) (v2 : Option Value) (v3 : Option Value) (v4 : Option Value) (v5 : Option Value) (v6 : Option Value) (v7 : Option Value) (v8 : Option Value) (v9 : Option Value) (v10 : Option Value) (st : List Value) (σ : ma_H), ma_rn ro d 123 (31, [v0, v1, v2, v3, v4, v5, v6, v7, v8, v9, v10], st, SH, σ) = ma_rn ro d 123 (33, [v0, v1, v2, v3, v4, v5, v6, v7, v8, v9, v10], .int (nI 46) :: st, SH, σ)) ∧
  (∀ (v0 : Option Value) (v2 : Option Value) (v3 : Option Value) (v4 : Option Value) (v5 : Option Value) (v6 : Option Value) (v7 : Option Value) (v8 : Option Value) (v9 : Option Value) (v10 : Option Value) (x1 : Int32) (st : List Value) (σ : ma_H), ma_rn ro d 123 (33, [v0, some (.int x1), v2, v3, v4, v5, v6, v7, v8, v9, v10], st, SH, σ) = ma_rn ro d 123 (34, [v0, some (.int x1), v2, v3, v4, v5, v6, v7, v8, v9, v10], .int x1 :: st, SH, σ)) ∧
  (∀ (v0 : Option Value) (v1 : Option Value) (v2 : Option Value) (v3 : Option Value) (v4 : Option Value) (v5 : Option Value) (v6 : Option Value) (v7 : Option Value) (v8 : Option Value) (v9 : Option Value) (v10 : Option Value) (x1 : Int32) (x2 : Int32) (st : List Value) (σ : ma_H), ma_rn ro d 123 (34, [v0, v1, v2, v3, v4, v5, v6, v7, v8, v9, v10], .int x1 :: .int x2 :: st, SH, σ) = ma_rn ro d 123 (35, [v0, v1, v2, v3, v4, v5, v6, v7, v8, v9, v10], .int (x2 + x1) :: st, SH, σ)) ∧
  (∀ (v0 : Option Value) (v1 : Option Value) (v2 : Option Value) (v3 : Option Value) (v4 : Option Value) (v5 : Option Value) (v6 : Option Value) (v7 : Option Value) (v8 : Option Value) (v9 : Option Value) (v10 : Option Value) (k : Nat) (a2 : Nat) (st : List Value) (σ : ma_H) (hk : k < hk_len a2), ma_rn ro d 123 (35, [v0, v1, v2, v3, v4, v5, v6, v7, v8, v9, v10], .int (nI k) :: .ref a2 :: st, SH, σ) = ma_rn ro d 123 (36, [v0, v1, v2, v3, v4, v5, v6, v7, v8, v9, v10], .int (σ a2 k) :: st, SH, σ)) ∧
  (∀ (v0 : Option Value) (v1 : Option Value) (v2 : Option Value) (v3 : Option Value) (v4 : Option Value) (v5 : Option Value) (v6 : Option Value) (v7 : Option Value) (v8 : Option Value) (v9 : Option Value) (v10 : Option Value) (x1 : Int32) (k : Nat) (a3 : Nat) (st : List Value) (σ : ma_H) (hk : k < hk_len a3), ma_rn ro d 123 (36, [v0, v1, v2, v3, v4, v5, v6, v7, v8, v9, v10], .int x1 :: .int (nI k) :: .ref a3 :: st, SH, σ) = ma_rn ro d 123 (37, [v0, v1, v2, v3, v4, v5, v6, v7, v8, v9, v10], st, SH, (ma_up σ a3 k x1))) ∧
  (∀ (v1 : Option Value) (v2 : Option Value) (v3 : Option Value) (v4 : Option Value) (v5 : Option Value) (v6 : Option Value) (v7 : Option Value) (v8 : Option Value) (v9 : Option Value) (v10 : Option Value) (a1 : Nat) (st : List Value) (σ : ma_H), ma_rn ro d 123 (37, [some (.ref a1), v1, v2, v3, v4, v5, v6, v7, v8, v9, v10], st, SH, σ) = ma_rn ro d 123 (38, [some (.ref a1), v1, v2, v3, v4, v5, v6, v7, v8, v9, v10], .ref a1 :: st, SH, σ)) ∧
  (∀ (v0 : Option Value) (v1 : Option Value) (v2 : Option Value) (v3 : Option Value) (v4 : Option Value) (v5 : Option Value) (v6 : Option Value) (v7 : Option Value) (v8 : Option Value) (v9 : Option Value) (v10 : Option Value) (a1 : Nat) (st : List Value) (σ : ma_H) (hc : hk_cls a1 = 8), ma_rn ro d 123 (38, [v0, v1, v2, v3, v4, v5, v6, v7, v8, v9, v10], .ref a1 :: st, SH, σ) = ma_rn ro d 123 (41, [v0, v1, v2, v3, v4, v5, v6, v7, v8, v9, v10], .ref (94) :: st, SH, σ)) ∧
  (∀ (v0 : Option Value) (v1 : Option Value) (v2 : Option Value) (v3 : Option Value) (v4 : Option Value) (v5 : Option Value) (v6 : Option Value) (v7 : Option Value) (v8 : Option Value) (v9 : Option Value) (v10 : Option Value) (st : List Value) (σ : ma_H), ma_rn ro d 123 (41, [v0, v1, v2, v3, v4, v5, v6, v7, v8, v9, v10], st, SH, σ) = ma_rn ro d 123 (42, [v0, v1, v2, v3, v4, v5, v6, v7, v8, v9, v10], .int (nI 3) :: st, SH, σ)) ∧
  (∀ (v1 : Option Value) (v2 : Option Value) (v3 : Option Value) (v4 : Option Value) (v5 : Option Value) (v6 : Option Value) (v7 : Option Value) (v8 : Option Value) (v9 : Option Value) (v10 : Option Value) (a1 : Nat) (st : List Value) (σ : ma_H), ma_rn ro d 123 (42, [some (.ref a1), v1, v2, v3, v4, v5, v6, v7, v8, v9, v10], st, SH, σ) = ma_rn ro d 123 (43, [some (.ref a1), v1, v2, v3, v4, v5, v6, v7, v8, v9, v10], .ref a1 :: st, SH, σ)) ∧
  (∀ (v0 : Option Value) (v1 : Option Value) (v2 : Option Value) (v3 : Option Value) (v4 : Option Value) (v5 : Option Value) (v6 : Option Value) (v7 : Option Value) (v8 : Option Value) (v9 : Option Value) (v10 : Option Value) (a1 : Nat) (st : List Value) (σ : ma_H) (hc : hk_cls a1 = 8), ma_rn ro d 123 (43, [v0, v1, v2, v3, v4, v5, v6, v7, v8, v9, v10], .ref a1 :: st, SH, σ) = ma_rn ro d 123 (46, [v0, v1, v2, v3, v4, v5, v6, v7, v8, v9, v10], .ref (91) :: st, SH, σ)) ∧
  (∀ (v0 : Option Value) (v1 : Option Value) (v2 : Option Value) (v3 : Option Value) (v4 : Option Value) (v5 : Option Value) (v6 : Option Value) (v7 : Option Value) (v8 : Option Value) (v9 : Option Value) (v10 : Option Value) (st : List Value) (σ : ma_H), ma_rn ro d 123 (46, [v0, v1, v2, v3, v4, v5, v6, v7, v8, v9, v10], st, SH, σ) = ma_rn ro d 123 (48, [v0, v1, v2, v3, v4, v5, v6, v7, v8, v9, v10], .int (nI 15) :: st, SH, σ)) ∧
  (∀ (v0 : Option Value) (v2 : Option Value) (v3 : Option Value) (v4 : Option Value) (v5 : Option Value) (v6 : Option Value) (v7 : Option Value) (v8 : Option Value) (v9 : Option Value) (v10 : Option Value) (x1 : Int32) (st : List Value) (σ : ma_H), ma_rn ro d 123 (48, [v0, some (.int x1), v2, v3, v4, v5, v6, v7, v8, v9, v10], st, SH, σ) = ma_rn ro d 123 (49, [v0, some (.int x1), v2, v3, v4, v5, v6, v7, v8, v9, v10], .int x1 :: st, SH, σ)) ∧
  (∀ (v0 : Option Value) (v1 : Option Value) (v2 : Option Value) (v3 : Option Value) (v4 : Option Value) (v5 : Option Value) (v6 : Option Value) (v7 : Option Value) (v8 : Option Value) (v9 : Option Value) (v10 : Option Value) (x1 : Int32) (x2 : Int32) (st : List Value) (σ : ma_H), ma_rn ro d 123 (49, [v0, v1, v2, v3, v4, v5, v6, v7, v8, v9, v10], .int x1 :: .int x2 :: st, SH, σ) = ma_rn ro d 123 (50, [v0, v1, v2, v3, v4, v5, v6, v7, v8, v9, v10], .int (x2 + x1) :: st, SH, σ)) ∧
  (∀ (v0 : Option Value) (v1 : Option Value) (v2 : Option Value) (v3 : Option Value) (v4 : Option Value) (v5 : Option Value) (v6 : Option Value) (v7 : Option Value) (v8 : Option Value) (v9 : Option Value) (v10 : Option Value) (k : Nat) (a2 : Nat) (st : List Value) (σ : ma_H) (hk : k < hk_len a2), ma_rn ro d 123 (50, [v0, v1, v2, v3, v4, v5, v6, v7, v8, v9, v10], .int (nI k) :: .ref a2 :: st, SH, σ) = ma_rn ro d 123 (51, [v0, v1, v2, v3, v4, v5, v6, v7, v8, v9, v10], .int (σ a2 k) :: st, SH, σ)) ∧
  (∀ (v0 : Option Value) (v1 : Option Value) (v2 : Option Value) (v3 : Option Value) (v4 : Option Value) (v5 : Option Value) (v6 : Option Value) (v7 : Option Value) (v8 : Option Value) (v9 : Option Value) (v10 : Option Value) (st : List Value) (σ : ma_H), ma_rn ro d 123 (51, [v0, v1, v2, v3, v4, v5, v6, v7, v8, v9, v10], st, SH, σ) = ma_rn ro d 123 (53, [v0, v1, v2, v3, v4, v5, v6, v7, v8, v9, v10], .int (nI 10) :: st, SH, σ)) ∧
  (∀ (v0 : Option Value) (v1 : Option Value) (v2 : Option Value) (v3 : Option Value) (v4 : Option Value) (v5 : Option Value) (v6 : Option Value) (v7 : Option Value) (v8 : Option Value) (v9 : Option Value) (v10 : Option Value) (x1 : Int32) (x2 : Int32) (st : List Value) (σ : ma_H) (hy : ¬ x1 = 0), ma_rn ro d 123 (53, [v0, v1, v2, v3, v4, v5, v6, v7, v8, v9, v10], .int x1 :: .int x2 :: st, SH, σ) = ma_rn ro d 123 (54, [v0, v1, v2, v3, v4, v5, v6, v7, v8, v9, v10], .int (x2 / x1) :: st, SH, σ)) ∧
  (∀ (v0 : Option Value) (v1 : Option Value) (v2 : Option Value) (v3 : Option Value) (v4 : Option Value) (v5 : Option Value) (v6 : Option Value) (v7 : Option Value) (v8 : Option Value) (v9 : Option Value) (v10 : Option Value) (x1 : Int32) (k : Nat) (a3 : Nat) (st : List Value) (σ : ma_H) (hk : k < hk_len a3), ma_rn ro d 123 (54, [v0, v1, v2, v3, v4, v5, v6, v7, v8, v9, v10], .int x1 :: .int (nI k) :: .ref a3 :: st, SH, σ) = ma_rn ro d 123 (55, [v0, v1, v2, v3, v4, v5, v6, v7, v8, v9, v10], st, SH, (ma_up σ a3 k x1))) ∧
  (∀ (v1 : Option Value) (v2 : Option Value) (v3 : Option Value) (v4 : Option Value) (v5 : Option Value) (v6 : Option Value) (v7 : Option Value) (v8 : Option Value) (v9 : Option Value) (v10 : Option Value) (a1 : Nat) (st : List Value) (σ : ma_H), ma_rn ro d 123 (55, [some (.ref a1), v1, v2, v3, v4, v5, v6, v7, v8, v9, v10], st, SH, σ) = ma_rn ro d 123 (56, [some (.ref a1), v1, v2, v3, v4, v5, v6, v7, v8, v9, v10], .ref a1 :: st, SH, σ)) ∧
  (∀ (v0 : Option Value) (v1 : Option Value) (v2 : Option Value) (v3 : Option Value) (v4 : Option Value) (v5 : Option Value) (v6 : Option Value) (v7 : Option Value) (v8 : Option Value) (v9 : Option Value) (v10 : Option Value) (a1 : Nat) (st : List Value) (σ : ma_H) (hc : hk_cls a1 = 8), ma_rn ro d 123 (56, [v0, v1, v2, v3, v4, v5, v6, v7, v8, v9, v10], .ref a1 :: st, SH, σ) = ma_rn ro d 123 (59, [v0, v1, v2, v3, v4, v5, v6, v7, v8, v9, v10], .ref (94) :: st, SH, σ)) ∧
  (∀ (v0 : Option Value) (v1 : Option Value) (v2 : Option Value) (v3 : Option Value) (v4 : Option Value) (v5 : Option Value) (v6 : Option Value) (v7 : Option Value) (v8 : Option Value) (v9 : Option Value) (v10 : Option Value) (st : List Value) (σ : ma_H), ma_rn ro d 123 (59, [v0, v1, v2, v3, v4, v5, v6, v7, v8, v9, v10], st, SH, σ) = ma_rn ro d 123 (60, [v0, v1, v2, v3, v4, v5, v6, v7, v8, v9, v10], .int (nI 4) :: st, SH, σ)) ∧
  (∀ (v1 : Option Value) (v2 : Option Value) (v3 : Option Value) (v4 : Option Value) (v5 : Option Value) (v6 : Option Value) (v7 : Option Value) (v8 : Option Value) (v9 : Option Value) (v10 : Option Value) (a1 : Nat) (st : List Value) (σ : ma_H), ma_rn ro d 123 (60, [some (.ref a1), v1, v2, v3, v4, v5, v6, v7, v8, v9, v10], st, SH, σ) = ma_rn ro d 123 (61, [some (.ref a1), v1, v2, v3, v4, v5, v6, v7, v8, v9, v10], .ref a1 :: st, SH, σ)) ∧
  (∀ (v0 : Option Value) (v1 : Option Value) (v2 : Option Value) (v3 : Option Value) (v4 : Option Value) (v5 : Option Value) (v6 : Option Value) (v7 : Option Value) (v8 : Option Value) (v9 : Option Value) (v10 : Option Value) (a1 : Nat) (st : List Value) (σ : ma_H) (hc : hk_cls a1 = 8), ma_rn ro d 123 (61, [v0, v1, v2, v3, v4, v5, v6, v7, v8, v9, v10], .ref a1 :: st, SH, σ) = ma_rn ro d 123 (64, [v0, v1, v2, v3, v4, v5, v6, v7, v8, v9, v10], .ref (91) :: st, SH, σ)) ∧
  (∀ (v0 : Option Value) (v1 : Option Value) (v2 : Option Value) (v3 : Option Value) (v4 : Option Value) (v5 : Option Value) (v6 : Option Value) (v7 : Option Value) (v8 : Option Value) (v9 : Option Value) (v10 : Option Value) (st : List Value) (σ : ma_H), ma_rn ro d 123 (64, [v0, v1, v2, v3, v4, v5, v6, v7, v8, v9, v10], st, SH, σ) = ma_rn ro d 123 (66, [v0, v1, v2, v3, v4, v5, v6, v7, v8, v9, v10], .int (nI 21) :: st, SH, σ)) ∧
  (∀ (v0 : Option Value) (v2 : Option Value) (v3 : Option Value) (v4 : Option Value) (v5 : Option Value) (v6 : Option Value) (v7 : Option Value) (v8 : Option Value) (v9 : Option Value) (v10 : Option Value) (x1 : Int32) (st : List Value) (σ : ma_H), ma_rn ro d 123 (66, [v0, some (.int x1), v2, v3, v4, v5, v6, v7, v8, v9, v10], st, SH, σ) = ma_rn ro d 123 (67, [v0, some (.int x1), v2, v3, v4, v5, v6, v7, v8, v9, v10], .int x1 :: st, SH, σ)) ∧
  (∀ (v0 : Option Value) (v1 : Option Value) (v2 : Option Value) (v3 : Option Value) (v4 : Option Value) (v5 : Option Value) (v6 : Option Value) (v7 : Option Value) (v8 : Option Value) (v9 : Option Value) (v10 : Option Value) (x1 : Int32) (x2 : Int32) (st : List Value) (σ : ma_H), ma_rn ro d 123 (67, [v0, v1, v2, v3, v4, v5, v6, v7, v8, v9, v10], .int x1 :: .int x2 :: st, SH, σ) = ma_rn ro d 123 (68, [v0, v1, v2, v3, v4, v5, v6, v7, v8, v9, v10], .int (x2 + x1) :: st, SH, σ)) ∧
  (∀ (v0 : Option Value) (v1 : Option Value) (v2 : Option Value) (v3 : Option Value) (v4 : Option Value) (v5 : Option Value) (v6 : Option Value) (v7 : Option Value) (v8 : Option Value) (v9 : Option Value) (v10 : Option Value) (k : Nat) (a2 : Nat) (st : List Value) (σ : ma_H) (hk : k < hk_len a2), ma_rn ro d 123 (68, [v0, v1, v2, v3, v4, v5, v6, v7, v8, v9, v10], .int (nI k) :: .ref a2 :: st, SH, σ) = ma_rn ro d 123 (69, [v0, v1, v2, v3, v4, v5, v6, v7, v8, v9, v10], .int (σ a2 k) :: st, SH, σ)) ∧
  (∀ (v0 : Option Value) (v1 : Option Value) (v2 : Option Value) (v3 : Option Value) (v4 : Option Value) (v5 : Option Value) (v6 : Option Value) (v7 : Option Value) (v8 : Option Value) (v9 : Option Value) (v10 : Option Value) (x1 : Int32) (k : Nat) (a3 : Nat) (st : List Value) (σ : ma_H) (hk : k < hk_len a3), ma_rn ro d 123 (69, [v0, v1, v2, v3, v4, v5, v6, v7, v8, v9, v10], .int x1 :: .int (nI k) :: .ref a3 :: st, SH, σ) = ma_rn ro d 123 (70, [v0, v1, v2, v3, v4, v5, v6, v7, v8, v9, v10], st, SH, (ma_up σ a3 k x1))) ∧
  (∀ (v1 : Option Value) (v2 : Option Value) (v3 : Option Value) (v4 : Option Value) (v5 : Option Value) (v6 : Option Value) (v7 : Option Value) (v8 : Option Value) (v9 : Option Value) (v10 : Option Value) (a1 : Nat) (st : List Value) (σ : ma_H), ma_rn ro d 123 (70, [some (.ref a1), v1, v2, v3, v4, v5, v6, v7, v8, v9, v10], st, SH, σ) = ma_rn ro d 123 (71, [some (.ref a1), v1, v2, v3, v4, v5, v6, v7, v8, v9, v10], .ref a1 :: st, SH, σ)) ∧
  (∀ (v0 : Option Value) (v1 : Option Value) (v2 : Option Value) (v3 : Option Value) (v4 : Option Value) (v5 : Option Value) (v6 : Option Value) (v7 : Option Value) (v8 : Option Value) (v9 : Option Value) (v10 : Option Value) (a1 : Nat) (st : List Value) (σ : ma_H) (hc : hk_cls a1 = 8), ma_rn ro d 123 (71, [v0, v1, v2, v3, v4, v5, v6, v7, v8, v9, v10], .ref a1 :: st, SH, σ) = ma_rn ro d 123 (74, [v0, v1, v2, v3, v4, v5, v6, v7, v8, v9, v10], .ref (94) :: st, SH, σ)) ∧
  (∀ (v0 : Option Value) (v1 : Option Value) (v2 : Option Value) (v3 : Option Value) (v4 : Option Value) (v5 : Option Value) (v6 : Option Value) (v7 : Option Value) (v8 : Option Value) (v9 : Option Value) (v10 : Option Value) (st : List Value) (σ : ma_H), ma_rn ro d 123 (74, [v0, v1, v2, v3, v4, v5, v6, v7, v8, v9, v10], st, SH, σ) = ma_rn ro d 123 (75, [v0, v1, v2, v3, v4, v5, v6, v7, v8, v9, v10], .int (nI 5) :: st, SH, σ)) ∧
  (∀ (v1 : Option Value) (v2 : Option Value) (v3 : Option Value) (v4 : Option Value) (v5 : Option Value) (v6 : Option Value) (v7 : Option Value) (v8 : Option Value) (v9 : Option Value) (v10 : Option Value) (a1 : Nat) (st : List Value) (σ : ma_H), ma_rn ro d 123 (75, [some (.ref a1), v1, v2, v3, v4, v5, v6, v7, v8, v9, v10], st, SH, σ) = ma_rn ro d 123 (76, [some (.ref a1), v1, v2, v3, v4, v5, v6, v7, v8, v9, v10], .ref a1 :: st, SH, σ)) ∧
  (∀ (v0 : Option Value) (v1 : Option Value) (v2 : Option Value) (v3 : Option Value) (v4 : Option Value) (v5 : Option Value) (v6 : Option Value) (v7 : Option Value) (v8 : Option Value) (v9 : Option Value) (v10 : Option Value) (a1 : Nat) (st : List Value) (σ : ma_H) (hc : hk_cls a1 = 8), ma_rn ro d 123 (76, [v0, v1, v2, v3, v4, v5, v6, v7, v8, v9, v10], .ref a1 :: st, SH, σ) = ma_rn ro d 123 (79, [v0, v1, v2, v3, v4, v5, v6, v7, v8, v9, v10], .ref (91) :: st, SH, σ)) ∧
  (∀ (v0 : Option Value) (v1 : Option Value) (v2 : Option Value) (v3 : Option Value) (v4 : Option Value) (v5 : Option Value) (v6 : Option Value) (v7 : Option Value) (v8 : Option Value) (v9 : Option Value) (v10 : Option Value) (st : List Value) (σ : ma_H), ma_rn ro d 123 (79, [v0, v1, v2, v3, v4, v5, v6, v7, v8, v9, v10], st, SH, σ) = ma_rn ro d 123 (80, [v0, v1, v2, v3, v4, v5, v6, v7, v8, v9, v10], .int (nI 0) :: st, SH, σ)) ∧
  (∀ (v0 : Option Value) (v1 : Option Value) (v2 : Option Value) (v3 : Option Value) (v4 : Option Value) (v5 : Option Value) (v6 : Option Value) (v7 : Option Value) (v8 : Option Value) (v9 : Option Value) (v10 : Option Value) (k : Nat) (a2 : Nat) (st : List Value) (σ : ma_H) (hk : k < hk_len a2), ma_rn ro d 123 (80, [v0, v1, v2, v3, v4, v5, v6, v7, v8, v9, v10], .int (nI k) :: .ref a2 :: st, SH, σ) = ma_rn ro d 123 (81, [v0, v1, v2, v3, v4, v5, v6, v7, v8, v9, v10], .int (σ a2 k) :: st, SH, σ)) ∧
  (∀ (v0 : Option Value) (v1 : Option Value) (v2 : Option Value) (v3 : Option Value) (v4 : Option Value) (v5 : Option Value) (v6 : Option Value) (v7 : Option Value) (v8 : Option Value) (v9 : Option Value) (v10 : Option Value) (st : List Value) (σ : ma_H), ma_rn ro d 123 (81, [v0, v1, v2, v3, v4, v5, v6, v7, v8, v9, v10], st, SH, σ) = ma_rn ro d 123 (83, [v0, v1, v2, v3, v4, v5, v6, v7, v8, v9, v10], .int (nI 7) :: st, SH, σ)) ∧
  (∀ (v0 : Option Value) (v1 : Option Value) (v2 : Option Value) (v3 : Option Value) (v4 : Option Value) (v5 : Option Value) (v6 : Option Value) (v7 : Option Value) (v8 : Option Value) (v9 : Option Value) (v10 : Option Value) (x1 : Int32) (x2 : Int32) (st : List Value) (σ : ma_H) (hy : ¬ x1 = 0), ma_rn ro d 123 (83, [v0, v1, v2, v3, v4, v5, v6, v7, v8, v9, v10], .int x1 :: .int x2 :: st, SH, σ) = ma_rn ro d 123 (84, [v0, v1, v2, v3, v4, v5, v6, v7, v8, v9, v10], .int (x2 - x2 / x1 * x1) :: st, SH, σ)) ∧
  (∀ (v0 : Option Value) (v1 : Option Value) (v2 : Option Value) (v3 : Option Value) (v4 : Option Value) (v5 : Option Value) (v6 : Option Value) (v7 : Option Value) (v8 : Option Value) (v9 : Option Value) (v10 : Option Value) (x1 : Int32) (k : Nat) (a3 : Nat) (st : List Value) (σ : ma_H) (hk : k < hk_len a3), ma_rn ro d 123 (84, [v0, v1, v2, v3, v4, v5, v6, v7, v8, v9, v10], .int x1 :: .int (nI k) :: .ref a3 :: st, SH, σ) = ma_rn ro d 123 (85, [v0, v1, v2, v3, v4, v5, v6, v7, v8, v9, v10], st, SH, (ma_up σ a3 k x1))) ∧
  (∀ (v0 : Option Value) (v1 : Option Value) (v2 : Option Value) (v3 : Option Value) (v4 : Option Value) (v5 : Option Value) (v6 : Option Value) (v7 : Option Value) (v8 : Option Value) (v9 : Option Value) (v10 : Option Value) (st : List Value) (σ : ma_H), ma_rn ro d 123 (85, [v0, v1, v2, v3, v4, v5, v6, v7, v8, v9, v10], st, SH, σ) = ma_rn ro d 123 (87, [v0, v1, v2, v3, v4, v5, v6, v7, v8, v9, v10], .int (nI 8) :: st, SH, σ)) ∧
  (∀ (v0 : Option Value) (v2 : Option Value) (v3 : Option Value) (v4 : Option Value) (v5 : Option Value) (v6 : Option Value) (v7 : Option Value) (v8 : Option Value) (v9 : Option Value) (v10 : Option Value) (x9 : Int32) (x1 : Int32) (st : List Value) (σ : ma_H), ma_rn ro d 123 (87, [v0, some (.int x9), v2, v3, v4, v5, v6, v7, v8, v9, v10], .int x1 :: st, SH, σ) = ma_rn ro d 123 (88, [v0, some (.int x9), some (.int x1), v3, v4, v5, v6, v7, v8, v9, v10], st, SH, σ)) ∧
  (∀ (v1 : Option Value) (v2 : Option Value) (v3 : Option Value) (v4 : Option Value) (v5 : Option Value) (v6 : Option Value) (v7 : Option Value) (v8 : Option Value) (v9 : Option Value) (v10 : Option Value) (a1 : Nat) (st : List Value) (σ : ma_H), ma_rn ro d 123 (88, [some (.ref a1), v1, v2, v3, v4, v5, v6, v7, v8, v9, v10], st, SH, σ) = ma_rn ro d 123 (89, [some (.ref a1), v1, v2, v3, v4, v5, v6, v7, v8, v9, v10], .ref a1 :: st, SH, σ)) ∧
  (∀ (v0 : Option Value) (v1 : Option Value) (v2 : Option Value) (v3 : Option Value) (v4 : Option Value) (v5 : Option Value) (v6 : Option Value) (v7 : Option Value) (v8 : Option Value) (v9 : Option Value) (v10 : Option Value) (st : List Value) (σ : ma_H), ma_rn ro d 123 (89, [v0, v1, v2, v3, v4, v5, v6, v7, v8, v9, v10], st, SH, σ) = ma_rn ro d 123 (92, [v0, v1, v2, v3, v4, v5, v6, v7, v8, v9, v10], .int (nI 228) :: st, SH, σ)) ∧
  (∀ (v0 : Option Value) (v1 : Option Value) (v2 : Option Value) (v3 : Option Value) (v4 : Option Value) (v5 : Option Value) (v6 : Option Value) (v7 : Option Value) (v8 : Option Value) (v9 : Option Value) (v10 : Option Value) (st : List Value) (σ : ma_H), ma_rn ro d 123 (92, [v0, v1, v2, v3, v4, v5, v6, v7, v8, v9, v10], st, SH, σ) = ma_rn ro d 123 (93, [v0, v1, v2, v3, v4, v5, v6, v7, v8, v9, v10], .int (nI 0) :: st, SH, σ)) ∧
  (∀ (v0 : Option Value) (v1 : Option Value) (v2 : Option Value) (v3 : Option Value) (v4 : Option Value) (v5 : Option Value) (v6 : Option Value) (v7 : Option Value) (v8 : Option Value) (v9 : Option Value) (v10 : Option Value) (x1 : Int32) (x2 : Int32) (a0 : Nat) (σ : ma_H) (hc : hk_cls a0 = 8), ma_rn ro (d + 1) 123 (93, [v0, v1, v2, v3, v4, v5, v6, v7, v8, v9, v10], .int x2 :: .int x1 :: .ref a0 :: [], SH, σ) = (ma_ev ro d 122 [.ref a0, .int x1, .int x2] SH σ).bind (fun q => ma_rn ro (d + 1) 123 (96, [v0, v1, v2, v3, v4, v5, v6, v7, v8, v9, v10], (q.1.toList ++ []), q.2.1, q.2.2))) ∧
  (∀ (v0 : Option Value) (v1 : Option Value) (v3 : Option Value) (v4 : Option Value) (v5 : Option Value) (v6 : Option Value) (v7 : Option Value) (v8 : Option Value) (v9 : Option Value) (v10 : Option Value) (x9 : Int32) (x1 : Int32) (st : List Value) (σ : ma_H), ma_rn ro d 123 (96, [v0, v1, some (.int x9), v3, v4, v5, v6, v7, v8, v9, v10], .int x1 :: st, SH, σ) = ma_rn ro d 123 (97, [v0, v1, some (.int x9), some (.int x1), v4, v5, v6, v7, v8, v9, v10], st, SH, σ)) ∧
  (∀ (v0 : Option Value) (v1 : Option Value) (v2 : Option Value) (v3 : Option Value) (v4 : Option Value) (v5 : Option Value) (v6 : Option Value) (v7 : Option Value) (v8 : Option Value) (v9 : Option Value) (v10 : Option Value) (st : List Value) (σ : ma_H), ma_rn ro d 123 (97, [v0, v1, v2, v3, v4, v5, v6, v7, v8, v9, v10], st, SH, σ) = ma_rn ro d 123 (100, [v0, v1, v2, v3, v4, v5, v6, v7, v8, v9, v10], .int (nI 233) :: st, SH, σ)) ∧
  (∀ (v0 : Option Value) (v1 : Option Value) (v2 : Option Value) (v3 : Option Value) (v4 : Option Value) (v5 : Option Value) (v6 : Option Value) (v7 : Option Value) (v8 : Option Value) (v9 : Option Value) (v10 : Option Value) (st : List Value) (σ : ma_H), ma_rn ro d 123 (100, [v0, v1, v2, v3, v4, v5, v6, v7, v8, v9, v10], st, SH, σ) = ma_rn ro d 123 (103, [v0, v1, v2, v3, v4, v5, v6, v7, v8, v9, v10], .int (nI 140) :: st, SH, σ)) ∧
  (∀ (v1 : Option Value) (v2 : Option Value) (v3 : Option Value) (v4 : Option Value) (v5 : Option Value) (v6 : Option Value) (v7 : Option Value) (v8 : Option Value) (v9 : Option Value) (v10 : Option Value) (a1 : Nat) (st : List Value) (σ : ma_H), ma_rn ro d 123 (103, [some (.ref a1), v1, v2, v3, v4, v5, v6, v7, v8, v9, v10], st, SH, σ) = ma_rn ro d 123 (104, [some (.ref a1), v1, v2, v3, v4, v5, v6, v7, v8, v9, v10], .ref a1 :: st, SH, σ)) ∧
  (∀ (v0 : Option Value) (v1 : Option Value) (v2 : Option Value) (v3 : Option Value) (v4 : Option Value) (v5 : Option Value) (v6 : Option Value) (v7 : Option Value) (v8 : Option Value) (v9 : Option Value) (v10 : Option Value) (a1 : Nat) (st : List Value) (σ : ma_H) (hc : hk_cls a1 = 8), ma_rn ro d 123 (104, [v0, v1, v2, v3, v4, v5, v6, v7, v8, v9, v10], .ref a1 :: st, SH, σ) = ma_rn ro d 123 (107, [v0, v1, v2, v3, v4, v5, v6, v7, v8, v9, v10], .ref (91) :: st, SH, σ)) ∧
  (∀ (v0 : Option Value) (v1 : Option Value) (v2 : Option Value) (v3 : Option Value) (v4 : Option Value) (v5 : Option Value) (v6 : Option Value) (v7 : Option Value) (v8 : Option Value) (v9 : Option Value) (v10 : Option Value) (st : List Value) (σ : ma_H), ma_rn ro d 123 (107, [v0, v1, v2, v3, v4, v5, v6, v7, v8, v9, v10], st, SH, σ) = ma_rn ro d 123 (109, [v0, v1, v2, v3, v4, v5, v6, v7, v8, v9, v10], .int (nI 39) :: st, SH, σ)) ∧
  (∀ (v0 : Option Value) (v1 : Option Value) (v2 : Option Value) (v3 : Option Value) (v4 : Option Value) (v5 : Option Value) (v6 : Option Value) (v7 : Option Value) (v8 : Option Value) (v9 : Option Value) (v10 : Option Value) (k : Nat) (a2 : Nat) (st : List Value) (σ : ma_H) (hk : k < hk_len a2), ma_rn ro d 123 (109, [v0, v1, v2, v3, v4, v5, v6, v7, v8, v9, v10], .int (nI k) :: .ref a2 :: st, SH, σ) = ma_rn ro d 123 (110, [v0, v1, v2, v3, v4, v5, v6, v7, v8, v9, v10], .int (σ a2 k) :: st, SH, σ)) ∧
  (∀ (v0 : Option Value) (v1 : Option Value) (v2 : Option Value) (v3 : Option Value) (v4 : Option Value) (v5 : Option Value) (v6 : Option Value) (v7 : Option Value) (v8 : Option Value) (v9 : Option Value) (v10 : Option Value) (x1 : Int32) (x2 : Int32) (st : List Value) (σ : ma_H), ma_rn ro d 123 (110, [v0, v1, v2, v3, v4, v5, v6, v7, v8, v9, v10], .int x1 :: .int x2 :: st, SH, σ) = ma_rn ro d 123 (111, [v0, v1, v2, v3, v4, v5, v6, v7, v8, v9, v10], .int (x2 * x1) :: st, SH, σ)) ∧
  (∀ (v0 : Option Value) (v1 : Option Value) (v2 : Option Value) (v3 : Option Value) (v4 : Option Value) (v5 : Option Value) (v6 : Option Value) (v7 : Option Value) (v8 : Option Value) (v9 : Option Value) (v10 : Option Value) (x1 : Int32) (x2 : Int32) (st : List Value) (σ : ma_H), ma_rn ro d 123 (111, [v0, v1, v2, v3, v4, v5, v6, v7, v8, v9, v10], .int x1 :: .int x2 :: st, SH, σ) = ma_rn ro d 123 (112, [v0, v1, v2, v3, v4, v5, v6, v7, v8, v9, v10], .int (x2 + x1) :: st, SH, σ)) ∧
  (∀ (v0 : Option Value) (v1 : Option Value) (v2 : Option Value) (v4 : Option Value) (v5 : Option Value) (v6 : Option Value) (v7 : Option Value) (v8 : Option Value) (v9 : Option Value) (v10 : Option Value) (x9 : Int32) (x1 : Int32) (st : List Value) (σ : ma_H), ma_rn ro d 123 (112, [v0, v1, v2, some (.int x9), v4, v5, v6, v7, v8, v9, v10], .int x1 :: st, SH, σ) = ma_rn ro d 123 (114, [v0, v1, v2, some (.int x9), some (.int x1), v5, v6, v7, v8, v9, v10], st, SH, σ)) ∧
  (∀ (v0 : Option Value) (v1 : Option Value) (v2 : Option Value) (v3 : Option Value) (v4 : Option Value) (v5 : Option Value) (v6 : Option Value) (v7 : Option Value) (v8 : Option Value) (v9 : Option Value) (v10 : Option Value) (st : List Value) (σ : ma_H), ma_rn ro d 123 (114, [v0, v1, v2, v3, v4, v5, v6, v7, v8, v9, v10], st, SH, σ) = ma_rn ro d 123 (115, [v0, v1, v2, v3, v4, v5, v6, v7, v8, v9, v10], .int (nI 0) :: st, SH, σ)) ∧
  (∀ (v0 : Option Value) (v1 : Option Value) (v2 : Option Value) (v3 : Option Value) (v5 : Option Value) (v6 : Option Value) (v7 : Option Value) (v8 : Option Value) (v9 : Option Value) (v10 : Option Value) (x9 : Int32) (x1 : Int32) (st : List Value) (σ : ma_H), ma_rn ro d 123 (115, [v0, v1, v2, v3, some (.int x9), v5, v6, v7, v8, v9, v10], .int x1 :: st, SH, σ) = ma_rn ro d 123 (117, [v0, v1, v2, v3, some (.int x9), some (.int x1), v6, v7, v8, v9, v10], st, SH, σ)) ∧
  (∀ (v0 : Option Value) (v1 : Option Value) (v2 : Option Value) (v3 : Option Value) (v5 : Option Value) (v6 : Option Value) (v7 : Option Value) (v8 : Option Value) (v9 : Option Value) (v10 : Option Value) (x1 : Int32) (st : List Value) (σ : ma_H), ma_rn ro d 123 (117, [v0, v1, v2, v3, some (.int x1), v5, v6, v7, v8, v9, v10], st, SH, σ) = ma_rn ro d 123 (119, [v0, v1, v2, v3, some (.int x1), v5, v6, v7, v8, v9, v10], .int x1 :: st, SH, σ)) ∧
  (∀ (v0 : Option Value) (v1 : Option Value) (v2 : Option Value) (v3 : Option Value) (v4 : Option Value) (v6 : Option Value) (v7 : Option Value) (v8 : Option Value) (v9 : Option Value) (v10 : Option Value) (x9 : Int32) (x1 : Int32) (st : List Value) (σ : ma_H), ma_rn ro d 123 (119, [v0, v1, v2, v3, v4, some (.int x9), v6, v7, v8, v9, v10], .int x1 :: st, SH, σ) = ma_rn ro d 123 (121, [v0, v1, v2, v3, v4, some (.int x9), some (.int x1), v7, v8, v9, v10], st, SH, σ)) ∧
  (∀ (v0 : Option Value) (v1 : Option Value) (v2 : Option Value) (v3 : Option Value) (v5 : Option Value) (v6 : Option Value) (v7 : Option Value) (v8 : Option Value) (v9 : Option Value) (v10 : Option Value) (x1 : Int32) (st : List Value) (σ : ma_H), ma_rn ro d 123 (123, [v0, v1, v2, v3, some (.int x1), v5, v6, v7, v8, v9, v10], st, SH, σ) = ma_rn ro d 123 (125, [v0, v1, v2, v3, some (.int x1), v5, v6, v7, v8, v9, v10], .int x1 :: st, SH, σ)) ∧
  (∀ (v0 : Option Value) (v1 : Option Value) (v2 : Option Value) (v4 : Option Value) (v5 : Option Value) (v6 : Option Value) (v7 : Option Value) (v8 : Option Value) (v9 : Option Value) (v10 : Option Value) (x1 : Int32) (st : List Value) (σ : ma_H), ma_rn ro d 123 (125, [v0, v1, v2, some (.int x1), v4, v5, v6, v7, v8, v9, v10], st, SH, σ) = ma_rn ro d 123 (126, [v0, v1, v2, some (.int x1), v4, v5, v6, v7, v8, v9, v10], .int x1 :: st, SH, σ)) ∧
  (∀ (v0 : Option Value) (v1 : Option Value) (v2 : Option Value) (v3 : Option Value) (v4 : Option Value) (v5 : Option Value) (v6 : Option Value) (v7 : Option Value) (v8 : Option Value) (v9 : Option Value) (v10 : Option Value) (x1 : Int32) (x2 : Int32) (st : List Value) (σ : ma_H), ma_rn ro d 123 (126, [v0, v1, v2, v3, v4, v5, v6, v7, v8, v9, v10], .int x1 :: .int x2 :: st, SH, σ) = ma_rn ro d 123 (127, [v0, v1, v2, v3, v4, v5, v6, v7, v8, v9, v10], .int (x2 + x1) :: st, SH, σ)) ∧
  (∀ (v0 : Option Value) (v1 : Option Value) (v2 : Option Value) (v3 : Option Value) (v4 : Option Value) (v5 : Option Value) (v6 : Option Value) (v7 : Option Value) (v8 : Option Value) (v9 : Option Value) (v10 : Option Value) (x1 : Int32) (x2 : Int32) (st : List Value) (σ : ma_H), ma_rn ro d 123 (127, [v0, v1, v2, v3, v4, v5, v6, v7, v8, v9, v10], .int x1 :: .int x2 :: st, SH, σ) = if x2 < x1 then ma_rn ro d 123 (130, [v0, v1, v2, v3, v4, v5, v6, v7, v8, v9, v10], st, SH, σ) else ma_rn ro d 123 (427, [v0, v1, v2, v3, v4, v5, v6, v7, v8, v9, v10], st, SH, σ)) ∧
  (∀ (v1 : Option Value) (v2 : Option Value) (v3 : Option Value) (v4 : Option Value) (v5 : Option Value) (v6 : Option Value) (v7 : Option Value) (v8 : Option Value) (v9 : Option Value) (v10 : Option Value) (a1 : Nat) (st : List Value) (σ : ma_H), ma_rn ro d 123 (130, [some (.ref a1), v1, v2, v3, v4, v5, v6, v7, v8, v9, v10], st, SH, σ) = ma_rn ro d 123 (131, [some (.ref a1), v1, v2, v3, v4, v5, v6, v7, v8, v9, v10], .ref a1 :: st, SH, σ)) ∧
  (∀ (v0 : Option Value) (v1 : Option Value) (v2 : Option Value) (v3 : Option Value) (v4 : Option Value) (v5 : Option Value) (v6 : Option Value) (v7 : Option Value) (v8 : Option Value) (v9 : Option Value) (v10 : Option Value) (a1 : Nat) (st : List Value) (σ : ma_H) (hc : hk_cls a1 = 8), ma_rn ro d 123 (131, [v0, v1, v2, v3, v4, v5, v6, v7, v8, v9, v10], .ref a1 :: st, SH, σ) = ma_rn ro d 123 (134, [v0, v1, v2, v3, v4, v5, v6, v7, v8, v9, v10], .ref (91) :: st, SH, σ)) ∧
  (∀ (v0 : Option Value) (v1 : Option Value) (v2 : Option Value) (v3 : Option Value) (v4 : Option Value) (v5 : Option Value) (v7 : Option Value) (v8 : Option Value) (v9 : Option Value) (v10 : Option Value) (x1 : Int32) (st : List Value) (σ : ma_H), ma_rn ro d 123 (134, [v0, v1, v2, v3, v4, v5, some (.int x1), v7, v8, v9, v10], st, SH, σ) = ma_rn ro d 123 (136, [v0, v1, v2, v3, v4, v5, some (.int x1), v7, v8, v9, v10], .int x1 :: st, SH, σ)) ∧
  (∀ (v0 : Option Value) (v1 : Option Value) (v2 : Option Value) (v3 : Option Value) (v4 : Option Value) (v5 : Option Value) (v6 : Option Value) (v7 : Option Value) (v8 : Option Value) (v9 : Option Value) (v10 : Option Value) (k : Nat) (a2 : Nat) (st : List Value) (σ : ma_H) (hk : k < hk_len a2), ma_rn ro d 123 (136, [v0, v1, v2, v3, v4, v5, v6, v7, v8, v9, v10], .int (nI k) :: .ref a2 :: st, SH, σ) = ma_rn ro d 123 (137, [v0, v1, v2, v3, v4, v5, v6, v7, v8, v9, v10], .int (σ a2 k) :: st, SH, σ)) ∧
  (∀ (v0 : Option Value) (v1 : Option Value) (v2 : Option Value) (v3 : Option Value) (v4 : Option Value) (v5 : Option Value) (v7 : Option Value) (v8 : Option Value) (v9 : Option Value) (v10 : Option Value) (x9 : Int32) (x1 : Int32) (st : List Value) (σ : ma_H), ma_rn ro d 123 (137, [v0, v1, v2, v3, v4, v5, some (.int x9), v7, v8, v9, v10], .int x1 :: st, SH, σ) = ma_rn ro d 123 (139, [v0, v1, v2, v3, v4, v5, some (.int x9), some (.int x1), v8, v9, v10], st, SH, σ)) ∧
  (∀ (v0 : Option Value) (v1 : Option Value) (v2 : Option Value) (v3 : Option Value) (v4 : Option Value) (v5 : Option Value) (v6 : Option Value) (v8 : Option Value) (v9 : Option Value) (v10 : Option Value) (x1 : Int32) (st : List Value) (σ : ma_H), ma_rn ro d 123 (139, [v0, v1, v2, v3, v4, v5, v6, some (.int x1), v8, v9, v10], st, SH, σ) = ma_rn ro d 123 (141, [v0, v1, v2, v3, v4, v5, v6, some (.int x1), v8, v9, v10], .int x1 :: st, SH, σ)) ∧
  (∀ (v0 : Option Value) (v1 : Option Value) (v2 : Option Value) (v3 : Option Value) (v4 : Option Value) (v5 : Option Value) (v6 : Option Value) (v7 : Option Value) (v8 : Option Value) (v9 : Option Value) (v10 : Option Value) (x1 : Int32) (st : List Value) (σ : ma_H), ma_rn ro d 123 (141, [v0, v1, v2, v3, v4, v5, v6, v7, v8, v9, v10], .int x1 :: st, SH, σ) = if x1 < nI 0 then ma_rn ro d 123 (238, [v0, v1, v2, v3, v4, v5, v6, v7, v8, v9, v10], st, SH, σ) else ma_rn ro d 123 (144, [v0, v1, v2, v3, v4, v5, v6, v7, v8, v9, v10], st, SH, σ)) ∧
  (∀ (v1 : Option Value) (v2 : Option Value) (v3 : Option Value) (v4 : Option Value) (v5 : Option Value) (v6 : Option Value) (v7 : Option Value) (v8 : Option Value) (v9 : Option Value) (v10 : Option Value) (a1 : Nat) (st : List Value) (σ : ma_H), ma_rn ro d 123 (144, [some (.ref a1), v1, v2, v3, v4, v5, v6, v7, v8, v9, v10], st, SH, σ) = ma_rn ro d 123 (145, [some (.ref a1), v1, v2, v3, v4, v5, v6, v7, v8, v9, v10], .ref a1 :: st, SH, σ)) ∧
  (∀ (v0 : Option Value) (v1 : Option Value) (v2 : Option Value) (v3 : Option Value) (v4 : Option Value) (v5 : Option Value) (v6 : Option Value) (v7 : Option Value) (v8 : Option Value) (v9 : Option Value) (v10 : Option Value) (a1 : Nat) (st : List Value) (σ : ma_H) (hc : hk_cls a1 = 8), ma_rn ro d 123 (145, [v0, v1, v2, v3, v4, v5, v6, v7, v8, v9, v10], .ref a1 :: st, SH, σ) = ma_rn ro d 123 (148, [v0, v1, v2, v3, v4, v5, v6, v7, v8, v9, v10], .ref (94) :: st, SH, σ)) ∧
  (∀ (v0 : Option Value) (v1 : Option Value) (v2 : Option Value) (v3 : Option Value) (v4 : Option Value) (v5 : Option Value) (v6 : Option Value) (v8 : Option Value) (v9 : Option Value) (v10 : Option Value) (x1 : Int32) (st : List Value) (σ : ma_H), ma_rn ro d 123 (148, [v0, v1, v2, v3, v4, v5, v6, some (.int x1), v8, v9, v10], st, SH, σ) = ma_rn ro d 123 (150, [v0, v1, v2, v3, v4, v5, v6, some (.int x1), v8, v9, v10], .int x1 :: st, SH, σ)) ∧
  (∀ (v0 : Option Value) (v1 : Option Value) (v2 : Option Value) (v3 : Option Value) (v4 : Option Value) (v5 : Option Value) (v6 : Option Value) (v7 : Option Value) (v8 : Option Value) (v9 : Option Value) (v10 : Option Value) (st : List Value) (σ : ma_H), ma_rn ro d 123 (150, [v0, v1, v2, v3, v4, v5, v6, v7, v8, v9, v10], st, SH, σ) = ma_rn ro d 123 (152, [v0, v1, v2, v3, v4, v5, v6, v7, v8, v9, v10], .int (nI 8) :: st, SH, σ)) ∧
  (∀ (v0 : Option Value) (v1 : Option Value) (v2 : Option Value) (v3 : Option Value) (v4 : Option Value) (v5 : Option Value) (v6 : Option Value) (v7 : Option Value) (v8 : Option Value) (v9 : Option Value) (v10 : Option Value) (x1 : Int32) (x2 : Int32) (st : List Value) (σ : ma_H) (hy : ¬ x1 = 0), ma_rn ro d 123 (152, [v0, v1, v2, v3, v4, v5, v6, v7, v8, v9, v10], .int x1 :: .int x2 :: st, SH, σ) = ma_rn ro d 123 (153, [v0, v1, v2, v3, v4, v5, v6, v7, v8, v9, v10], .int (x2 - x2 / x1 * x1) :: st, SH, σ)) ∧
  (∀ (v0 : Option Value) (v1 : Option Value) (v2 : Option Value) (v3 : Option Value) (v4 : Option Value) (v5 : Option Value) (v6 : Option Value) (v7 : Option Value) (v8 : Option Value) (v9 : Option Value) (v10 : Option Value) (k : Nat) (a2 : Nat) (st : List Value) (σ : ma_H) (hk : k < hk_len a2), ma_rn ro d 123 (153, [v0, v1, v2, v3, v4, v5, v6, v7, v8, v9, v10], .int (nI k) :: .ref a2 :: st, SH, σ) = ma_rn ro d 123 (154, [v0, v1, v2, v3, v4, v5, v6, v7, v8, v9, v10], .int (σ a2 k) :: st, SH, σ)) ∧
  (∀ (v0 : Option Value) (v1 : Option Value) (v2 : Option Value) (v3 : Option Value) (v4 : Option Value) (v5 : Option Value) (v6 : Option Value) (v8 : Option Value) (v9 : Option Value) (v10 : Option Value) (x9 : Int32) (x1 : Int32) (st : List Value) (σ : ma_H), ma_rn ro d 123 (154, [v0, v1, v2, v3, v4, v5, v6, some (.int x9), v8, v9, v10], .int x1 :: st, SH, σ) = ma_rn ro d 123 (156, [v0, v1, v2, v3, v4, v5, v6, some (.int x9), some (.int x1), v9, v10], st, SH, σ)) ∧
  (∀ (v0 : Option Value) (v1 : Option Value) (v2 : Option Value) (v3 : Option Value) (v4 : Option Value) (v5 : Option Value) (v6 : Option Value) (v8 : Option Value) (v9 : Option Value) (v10 : Option Value) (x1 : Int32) (st : List Value) (σ : ma_H), ma_rn ro d 123 (156, [v0, v1, v2, v3, v4, v5, v6, some (.int x1), v8, v9, v10], st, SH, σ) = ma_rn ro d 123 (158, [v0, v1, v2, v3, v4, v5, v6, some (.int x1), v8, v9, v10], .int x1 :: st, SH, σ)) ∧
  (∀ (v0 : Option Value) (v1 : Option Value) (v2 : Option Value) (v3 : Option Value) (v4 : Option Value) (v5 : Option Value) (v6 : Option Value) (v7 : Option Value) (v8 : Option Value) (v9 : Option Value) (v10 : Option Value) (st : List Value) (σ : ma_H), ma_rn ro d 123 (158, [v0, v1, v2, v3, v4, v5, v6, v7, v8, v9, v10], st, SH, σ) = ma_rn ro d 123 (160, [v0, v1, v2, v3, v4, v5, v6, v7, v8, v9, v10], .int (nI 8) :: st, SH, σ)) ∧
  (∀ (v0 : Option Value) (v1 : Option Value) (v2 : Option Value) (v3 : Option Value) (v4 : Option Value) (v5 : Option Value) (v6 : Option Value) (v7 : Option Value) (v8 : Option Value) (v9 : Option Value) (v10 : Option Value) (x1 : Int32) (x2 : Int32) (st : List Value) (σ : ma_H) (hy : ¬ x1 = 0), ma_rn ro d 123 (160, [v0, v1, v2, v3, v4, v5, v6, v7, v8, v9, v10], .int x1 :: .int x2 :: st, SH, σ) = ma_rn ro d 123 (161, [v0, v1, v2, v3, v4, v5, v6, v7, v8, v9, v10], .int (x2 / x1) :: st, SH, σ)) ∧
  (∀ (v0 : Option Value) (v1 : Option Value) (v2 : Option Value) (v3 : Option Value) (v4 : Option Value) (v5 : Option Value) (v6 : Option Value) (v7 : Option Value) (v8 : Option Value) (v9 : Option Value) (v10 : Option Value) (st : List Value) (σ : ma_H), ma_rn ro d 123 (161, [v0, v1, v2, v3, v4, v5, v6, v7, v8, v9, v10], st, SH, σ) = ma_rn ro d 123 (162, [v0, v1, v2, v3, v4, v5, v6, v7, v8, v9, v10], .int (nI 4) :: st, SH, σ)) ∧
  (∀ (v0 : Option Value) (v1 : Option Value) (v2 : Option Value) (v3 : Option Value) (v4 : Option Value) (v5 : Option Value) (v6 : Option Value) (v7 : Option Value) (v8 : Option Value) (v9 : Option Value) (v10 : Option Value) (x1 : Int32) (x2 : Int32) (st : List Value) (σ : ma_H) (hy : ¬ x1 = 0), ma_rn ro d 123 (162, [v0, v1, v2, v3, v4, v5, v6, v7, v8, v9, v10], .int x1 :: .int x2 :: st, SH, σ) = ma_rn ro d 123 (163, [v0, v1, v2, v3, v4, v5, v6, v7, v8, v9, v10], .int (x2 - x2 / x1 * x1) :: st, SH, σ)) ∧
  (∀ (v0 : Option Value) (v1 : Option Value) (v2 : Option Value) (v3 : Option Value) (v4 : Option Value) (v5 : Option Value) (v6 : Option Value) (v7 : Option Value) (v9 : Option Value) (v10 : Option Value) (x9 : Int32) (x1 : Int32) (st : List Value) (σ : ma_H), ma_rn ro d 123 (163, [v0, v1, v2, v3, v4, v5, v6, v7, some (.int x9), v9, v10], .int x1 :: st, SH, σ) = ma_rn ro d 123 (165, [v0, v1, v2, v3, v4, v5, v6, v7, some (.int x9), some (.int x1), v10], st, SH, σ)) ∧
  (∀ (v0 : Option Value) (v1 : Option Value) (v2 : Option Value) (v3 : Option Value) (v4 : Option Value) (v5 : Option Value) (v6 : Option Value) (v8 : Option Value) (v9 : Option Value) (v10 : Option Value) (x1 : Int32) (st : List Value) (σ : ma_H), ma_rn ro d 123 (165, [v0, v1, v2, v3, v4, v5, v6, some (.int x1), v8, v9, v10], st, SH, σ) = ma_rn ro d 123 (167, [v0, v1, v2, v3, v4, v5, v6, some (.int x1), v8, v9, v10], .int x1 :: st, SH, σ)) ∧
  (∀ (v0 : Option Value) (v1 : Option Value) (v2 : Option Value) (v3 : Option Value) (v4 : Option Value) (v5 : Option Value) (v6 : Option Value) (v7 : Option Value) (v8 : Option Value) (v9 : Option Value) (v10 : Option Value) (st : List Value) (σ : ma_H), ma_rn ro d 123 (167, [v0, v1, v2, v3, v4, v5, v6, v7, v8, v9, v10], st, SH, σ) = ma_rn ro d 123 (169, [v0, v1, v2, v3, v4, v5, v6, v7, v8, v9, v10], .int (nI 32) :: st, SH, σ)) ∧
  (∀ (v0 : Option Value) (v1 : Option Value) (v2 : Option Value) (v3 : Option Value) (v4 : Option Value) (v5 : Option Value) (v6 : Option Value) (v7 : Option Value) (v8 : Option Value) (v9 : Option Value) (v10 : Option Value) (x1 : Int32) (x2 : Int32) (st : List Value) (σ : ma_H) (hy : ¬ x1 = 0), ma_rn ro d 123 (169, [v0, v1, v2, v3, v4, v5, v6, v7, v8, v9, v10], .int x1 :: .int x2 :: st, SH, σ) = ma_rn ro d 123 (170, [v0, v1, v2, v3, v4, v5, v6, v7, v8, v9, v10], .int (x2 / x1) :: st, SH, σ)) ∧
  (∀ (v0 : Option Value) (v1 : Option Value) (v2 : Option Value) (v3 : Option Value) (v4 : Option Value) (v5 : Option Value) (v6 : Option Value) (v7 : Option Value) (v8 : Option Value) (v10 : Option Value) (x9 : Int32) (x1 : Int32) (st : List Value) (σ : ma_H), ma_rn ro d 123 (170, [v0, v1, v2, v3, v4, v5, v6, v7, v8, some (.int x9), v10], .int x1 :: st, SH, σ) = ma_rn ro d 123 (172, [v0, v1, v2, v3, v4, v5, v6, v7, v8, some (.int x9), some (.int x1)], st, SH, σ)) ∧
  (∀ (v1 : Option Value) (v2 : Option Value) (v3 : Option Value) (v4 : Option Value) (v5 : Option Value) (v6 : Option Value) (v7 : Option Value) (v8 : Option Value) (v9 : Option Value) (v10 : Option Value) (a1 : Nat) (st : List Value) (σ : ma_H), ma_rn ro d 123 (172, [some (.ref a1), v1, v2, v3, v4, v5, v6, v7, v8, v9, v10], st, SH, σ) = ma_rn ro d 123 (173, [some (.ref a1), v1, v2, v3, v4, v5, v6, v7, v8, v9, v10], .ref a1 :: st, SH, σ)) ∧
  (∀ (v0 : Option Value) (v1 : Option Value) (v2 : Option Value) (v3 : Option Value) (v4 : Option Value) (v5 : Option Value) (v6 : Option Value) (v7 : Option Value) (v8 : Option Value) (v9 : Option Value) (v10 : Option Value) (a1 : Nat) (st : List Value) (σ : ma_H) (hc : hk_cls a1 = 8), ma_rn ro d 123 (173, [v0, v1, v2, v3, v4, v5, v6, v7, v8, v9, v10], .ref a1 :: st, SH, σ) = ma_rn ro d 123 (176, [v0, v1, v2, v3, v4, v5, v6, v7, v8, v9, v10], .ref (95) :: st, SH, σ)) ∧
  (∀ (v0 : Option Value) (v1 : Option Value) (v2 : Option Value) (v3 : Option Value) (v4 : Option Value) (v6 : Option Value) (v7 : Option Value) (v8 : Option Value) (v9 : Option Value) (v10 : Option Value) (x1 : Int32) (st : List Value) (σ : ma_H), ma_rn ro d 123 (176, [v0, v1, v2, v3, v4, some (.int x1), v6, v7, v8, v9, v10], st, SH, σ) = ma_rn ro d 123 (178, [v0, v1, v2, v3, v4, some (.int x1), v6, v7, v8, v9, v10], .int x1 :: st, SH, σ)) ∧
  (∀ (v0 : Option Value) (v1 : Option Value) (v2 : Option Value) (v3 : Option Value) (v4 : Option Value) (v5 : Option Value) (v6 : Option Value) (v7 : Option Value) (v8 : Option Value) (v10 : Option Value) (x1 : Int32) (st : List Value) (σ : ma_H), ma_rn ro d 123 (178, [v0, v1, v2, v3, v4, v5, v6, v7, v8, some (.int x1), v10], st, SH, σ) = ma_rn ro d 123 (180, [v0, v1, v2, v3, v4, v5, v6, v7, v8, some (.int x1), v10], .int x1 :: st, SH, σ)) ∧
  (∀ (v0 : Option Value) (v1 : Option Value) (v2 : Option Value) (v3 : Option Value) (v4 : Option Value) (v5 : Option Value) (v6 : Option Value) (v7 : Option Value) (v8 : Option Value) (v9 : Option Value) (v10 : Option Value) (x1 : Int32) (st : List Value) (σ : ma_H), ma_rn ro d 123 (180, [v0, v1, v2, v3, v4, v5, v6, v7, v8, v9, v10], .int x1 :: st, SH, σ) = if x1 = nI 0 then ma_rn ro d 123 (183, [v0, v1, v2, v3, v4, v5, v6, v7, v8, v9, v10], st, SH, σ) else ma_rn ro d 123 (198, [v0, v1, v2, v3, v4, v5, v6, v7, v8, v9, v10], st, SH, σ)) ∧
  (∀ (v0 : Option Value) (v1 : Option Value) (v2 : Option Value) (v3 : Option Value) (v4 : Option Value) (v5 : Option Value) (v6 : Option Value) (v7 : Option Value) (v9 : Option Value) (v10 : Option Value) (x1 : Int32) (st : List Value) (σ : ma_H), ma_rn ro d 123 (183, [v0, v1, v2, v3, v4, v5, v6, v7, some (.int x1), v9, v10], st, SH, σ) = ma_rn ro d 123 (185, [v0, v1, v2, v3, v4, v5, v6, v7, some (.int x1), v9, v10], .int x1 :: st, SH, σ)) ∧
  (∀ (v0 : Option Value) (v1 : Option Value) (v2 : Option Value) (v3 : Option Value) (v4 : Option Value) (v5 : Option Value) (v6 : Option Value) (v7 : Option Value) (v8 : Option Value) (v9 : Option Value) (x1 : Int32) (st : List Value) (σ : ma_H), ma_rn ro d 123 (185, [v0, v1, v2, v3, v4, v5, v6, v7, v8, v9, some (.int x1)], st, SH, σ) = ma_rn ro d 123 (187, [v0, v1, v2, v3, v4, v5, v6, v7, v8, v9, some (.int x1)], .int x1 :: st, SH, σ)) ∧
  (∀ (v0 : Option Value) (v1 : Option Value) (v2 : Option Value) (v3 : Option Value) (v4 : Option Value) (v5 : Option Value) (v6 : Option Value) (v7 : Option Value) (v8 : Option Value) (v9 : Option Value) (v10 : Option Value) (x1 : Int32) (x2 : Int32) (st : List Value) (σ : ma_H), ma_rn ro d 123 (187, [v0, v1, v2, v3, v4, v5, v6, v7, v8, v9, v10], .int x1 :: .int x2 :: st, SH, σ) = if x2 < x1 then ma_rn ro d 123 (190, [v0, v1, v2, v3, v4, v5, v6, v7, v8, v9, v10], st, SH, σ) else ma_rn ro d 123 (194, [v0, v1, v2, v3, v4, v5, v6, v7, v8, v9, v10], st, SH, σ)) ∧
  (∀ (v0 : Option Value) (v1 : Option Value) (v2 : Option Value) (v3 : Option Value) (v4 : Option Value) (v5 : Option Value) (v6 : Option Value) (v7 : Option Value) (v8 : Option Value) (v9 : Option Value) (v10 : Option Value) (st : List Value) (σ : ma_H), ma_rn ro d 123 (190, [v0, v1, v2, v3, v4, v5, v6, v7, v8, v9, v10], st, SH, σ) = ma_rn ro d 123 (191, [v0, v1, v2, v3, v4, v5, v6, v7, v8, v9, v10], .int (nI 1) :: st, SH, σ)) ∧
  (∀ (v0 : Option Value) (v1 : Option Value) (v2 : Option Value) (v3 : Option Value) (v4 : Option Value) (v5 : Option Value) (v6 : Option Value) (v7 : Option Value) (v8 : Option Value) (v9 : Option Value) (v10 : Option Value) (st : List Value) (σ : ma_H), ma_rn ro d 123 (191, [v0, v1, v2, v3, v4, v5, v6, v7, v8, v9, v10], st, SH, σ) = ma_rn ro d 123 (231, [v0, v1, v2, v3, v4, v5, v6, v7, v8, v9, v10], st, SH, σ)) ∧
  (∀ (v0 : Option Value) (v1 : Option Value) (v2 : Option Value) (v3 : Option Value) (v4 : Option Value) (v5 : Option Value) (v6 : Option Value) (v7 : Option Value) (v8 : Option Value) (v9 : Option Value) (v10 : Option Value) (st : List Value) (σ : ma_H), ma_rn ro d 123 (194, [v0, v1, v2, v3, v4, v5, v6, v7, v8, v9, v10], st, SH, σ) = ma_rn ro d 123 (195, [v0, v1, v2, v3, v4, v5, v6, v7, v8, v9, v10], .int (nI 0) :: st, SH, σ)) ∧
  (∀ (v0 : Option Value) (v1 : Option Value) (v2 : Option Value) (v3 : Option Value) (v4 : Option Value) (v5 : Option Value) (v6 : Option Value) (v7 : Option Value) (v8 : Option Value) (v9 : Option Value) (v10 : Option Value) (st : List Value) (σ : ma_H), ma_rn ro d 123 (195, [v0, v1, v2, v3, v4, v5, v6, v7, v8, v9, v10], st, SH, σ) = ma_rn ro d 123 (231, [v0, v1, v2, v3, v4, v5, v6, v7, v8, v9, v10], st, SH, σ)) ∧
  (∀ (v0 : Option Value) (v1 : Option Value) (v2 : Option Value) (v3 : Option Value) (v4 : Option Value) (v5 : Option Value) (v6 : Option Value) (v7 : Option Value) (v8 : Option Value) (v10 : Option Value) (x1 : Int32) (st : List Value) (σ : ma_H), ma_rn ro d 123 (198, [v0, v1, v2, v3, v4, v5, v6, v7, v8, some (.int x1), v10], st, SH, σ) = ma_rn ro d 123 (200, [v0, v1, v2, v3, v4, v5, v6, v7, v8, some (.int x1), v10], .int x1 :: st, SH, σ)) ∧
  (∀ (v0 : Option Value) (v1 : Option Value) (v2 : Option Value) (v3 : Option Value) (v4 : Option Value) (v5 : Option Value) (v6 : Option Value) (v7 : Option Value) (v8 : Option Value) (v9 : Option Value) (v10 : Option Value) (st : List Value) (σ : ma_H), ma_rn ro d 123 (200, [v0, v1, v2, v3, v4, v5, v6, v7, v8, v9, v10], st, SH, σ) = ma_rn ro d 123 (201, [v0, v1, v2, v3, v4, v5, v6, v7, v8, v9, v10], .int (nI 1) :: st, SH, σ)) ∧
  (∀ (v0 : Option Value) (v1 : Option Value) (v2 : Option Value) (v3 : Option Value) (v4 : Option Value) (v5 : Option Value) (v6 : Option Value) (v7 : Option Value) (v8 : Option Value) (v9 : Option Value) (v10 : Option Value) (x1 : Int32) (x2 : Int32) (st : List Value) (σ : ma_H), ma_rn ro d 123 (201, [v0, v1, v2, v3, v4, v5, v6, v7, v8, v9, v10], .int x1 :: .int x2 :: st, SH, σ) = if x2 = x1 then ma_rn ro d 123 (204, [v0, v1, v2, v3, v4, v5, v6, v7, v8, v9, v10], st, SH, σ) else ma_rn ro d 123 (219, [v0, v1, v2, v3, v4, v5, v6, v7, v8, v9, v10], st, SH, σ)) ∧
  (∀ (v0 : Option Value) (v1 : Option Value) (v2 : Option Value) (v3 : Option Value) (v4 : Option Value) (v5 : Option Value) (v6 : Option Value) (v7 : Option Value) (v9 : Option Value) (v10 : Option Value) (x1 : Int32) (st : List Value) (σ : ma_H), ma_rn ro d 123 (204, [v0, v1, v2, v3, v4, v5, v6, v7, some (.int x1), v9, v10], st, SH, σ) = ma_rn ro d 123 (206, [v0, v1, v2, v3, v4, v5, v6, v7, some (.int x1), v9, v10], .int x1 :: st, SH, σ)) ∧
  (∀ (v0 : Option Value) (v1 : Option Value) (v2 : Option Value) (v3 : Option Value) (v4 : Option Value) (v5 : Option Value) (v6 : Option Value) (v7 : Option Value) (v8 : Option Value) (v9 : Option Value) (x1 : Int32) (st : List Value) (σ : ma_H), ma_rn ro d 123 (206, [v0, v1, v2, v3, v4, v5, v6, v7, v8, v9, some (.int x1)], st, SH, σ) = ma_rn ro d 123 (208, [v0, v1, v2, v3, v4, v5, v6, v7, v8, v9, some (.int x1)], .int x1 :: st, SH, σ)) ∧
  (∀ (v0 : Option Value) (v1 : Option Value) (v2 : Option Value) (v3 : Option Value) (v4 : Option Value) (v5 : Option Value) (v6 : Option Value) (v7 : Option Value) (v8 : Option Value) (v9 : Option Value) (v10 : Option Value) (x1 : Int32) (x2 : Int32) (st : List Value) (σ : ma_H), ma_rn ro d 123 (208, [v0, v1, v2, v3, v4, v5, v6, v7, v8, v9, v10], .int x1 :: .int x2 :: st, SH, σ) = if x2 = x1 then ma_rn ro d 123 (211, [v0, v1, v2, v3, v4, v5, v6, v7, v8, v9, v10], st, SH, σ) else ma_rn ro d 123 (215, [v0, v1, v2, v3, v4, v5, v6, v7, v8, v9, v10], st, SH, σ)) ∧
  (∀ (v0 : Option Value) (v1 : Option Value) (v2 : Option Value) (v3 : Option Value) (v4 : Option Value) (v5 : Option Value) (v6 : Option Value) (v7 : Option Value) (v8 : Option Value) (v9 : Option Value) (v10 : Option Value) (st : List Value) (σ : ma_H), ma_rn ro d 123 (211, [v0, v1, v2, v3, v4, v5, v6, v7, v8, v9, v10], st, SH, σ) = ma_rn ro d 123 (212, [v0, v1, v2, v3, v4, v5, v6, v7, v8, v9, v10], .int (nI 1) :: st, SH, σ)) ∧
  (∀ (v0 : Option Value) (v1 : Option Value) (v2 : Option Value) (v3 : Option Value) (v4 : Option Value) (v5 : Option Value) (v6 : Option Value) (v7 : Option Value) (v8 : Option Value) (v9 : Option Value) (v10 : Option Value) (st : List Value) (σ : ma_H), ma_rn ro d 123 (212, [v0, v1, v2, v3, v4, v5, v6, v7, v8, v9, v10], st, SH, σ) = ma_rn ro d 123 (231, [v0, v1, v2, v3, v4, v5, v6, v7, v8, v9, v10], st, SH, σ)) ∧
  (∀ (v0 : Option Value) (v1 : Option Value) (v2 : Option Value) (v3 : Option Value) (v4 : Option Value) (v5 : Option Value) (v6 : Option Value) (v7 : Option Value) (v8 : Option Value) (v9 : Option Value) (v10 : Option Value) (st : List Value) (σ : ma_H), ma_rn ro d 123 (215, [v0, v1, v2, v3, v4, v5, v6, v7, v8, v9, v10], st, SH, σ) = ma_rn ro d 123 (216, [v0, v1, v2, v3, v4, v5, v6, v7, v8, v9, v10], .int (nI 0) :: st, SH, σ)) ∧
  (∀ (v0 : Option Value) (v1 : Option Value) (v2 : Option Value) (v3 : Option Value) (v4 : Option Value) (v5 : Option Value) (v6 : Option Value) (v7 : Option Value) (v8 : Option Value) (v9 : Option Value) (v10 : Option Value) (st : List Value) (σ : ma_H), ma_rn ro d 123 (216, [v0, v1, v2, v3, v4, v5, v6, v7, v8, v9, v10], st, SH, σ) = ma_rn ro d 123 (231, [v0, v1, v2, v3, v4, v5, v6, v7, v8, v9, v10], st, SH, σ)) ∧
  (∀ (v0 : Option Value) (v1 : Option Value) (v2 : Option Value) (v3 : Option Value) (v4 : Option Value) (v5 : Option Value) (v6 : Option Value) (v7 : Option Value) (v9 : Option Value) (v10 : Option Value) (x1 : Int32) (st : List Value) (σ : ma_H), ma_rn ro d 123 (219, [v0, v1, v2, v3, v4, v5, v6, v7, some (.int x1), v9, v10], st, SH, σ) = ma_rn ro d 123 (221, [v0, v1, v2, v3, v4, v5, v6, v7, some (.int x1), v9, v10], .int x1 :: st, SH, σ)) ∧
  (∀ (v0 : Option Value) (v1 : Option Value) (v2 : Option Value) (v3 : Option Value) (v4 : Option Value) (v5 : Option Value) (v6 : Option Value) (v7 : Option Value) (v8 : Option Value) (v9 : Option Value) (x1 : Int32) (st : List Value) (σ : ma_H), ma_rn ro d 123 (221, [v0, v1, v2, v3, v4, v5, v6, v7, v8, v9, some (.int x1)], st, SH, σ) = ma_rn ro d 123 (223, [v0, v1, v2, v3, v4, v5, v6, v7, v8, v9, some (.int x1)], .int x1 :: st, SH, σ)) ∧
  (∀ (v0 : Option Value) (v1 : Option Value) (v2 : Option Value) (v3 : Option Value) (v4 : Option Value) (v5 : Option Value) (v6 : Option Value) (v7 : Option Value) (v8 : Option Value) (v9 : Option Value) (v10 : Option Value) (x1 : Int32) (x2 : Int32) (st : List Value) (σ : ma_H), ma_rn ro d 123 (223, [v0, v1, v2, v3, v4, v5, v6, v7, v8, v9, v10], .int x1 :: .int x2 :: st, SH, σ) = if x1 < x2 then ma_rn ro d 123 (226, [v0, v1, v2, v3, v4, v5, v6, v7, v8, v9, v10], st, SH, σ) else ma_rn ro d 123 (230, [v0, v1, v2, v3, v4, v5, v6, v7, v8, v9, v10], st, SH, σ)) ∧
  (∀ (v0 : Option Value) (v1 : Option Value) (v2 : Option Value) (v3 : Option Value) (v4 : Option Value) (v5 : Option Value) (v6 : Option Value) (v7 : Option Value) (v8 : Option Value) (v9 : Option Value) (v10 : Option Value) (st : List Value) (σ : ma_H), ma_rn ro d 123 (226, [v0, v1, v2, v3, v4, v5, v6, v7, v8, v9, v10], st, SH, σ) = ma_rn ro d 123 (227, [v0, v1, v2, v3, v4, v5, v6, v7, v8, v9, v10], .int (nI 1) :: st, SH, σ)) ∧
  (∀ (v0 : Option Value) (v1 : Option Value) (v2 : Option Value) (v3 : Option Value) (v4 : Option Value) (v5 : Option Value) (v6 : Option Value) (v7 : Option Value) (v8 : Option Value) (v9 : Option Value) (v10 : Option Value) (st : List Value) (σ : ma_H), ma_rn ro d 123 (227, [v0, v1, v2, v3, v4, v5, v6, v7, v8, v9, v10], st, SH, σ) = ma_rn ro d 123 (231, [v0, v1, v2, v3, v4, v5, v6, v7, v8, v9, v10], st, SH, σ)) ∧
  (∀ (v0 : Option Value) (v1 : Option Value) (v2 : Option Value) (v3 : Option Value) (v4 : Option Value) (v5 : Option Value) (v6 : Option Value) (v7 : Option Value) (v8 : Option Value) (v9 : Option Value) (v10 : Option Value) (st : List Value) (σ : ma_H), ma_rn ro d 123 (230, [v0, v1, v2, v3, v4, v5, v6, v7, v8, v9, v10], st, SH, σ) = ma_rn ro d 123 (231, [v0, v1, v2, v3, v4, v5, v6, v7, v8, v9, v10], .int (nI 0) :: st, SH, σ)) ∧
  (∀ (v0 : Option Value) (v1 : Option Value) (v2 : Option Value) (v3 : Option Value) (v4 : Option Value) (v5 : Option Value) (v6 : Option Value) (v7 : Option Value) (v8 : Option Value) (v9 : Option Value) (v10 : Option Value) (x1 : Int32) (k : Nat) (a3 : Nat) (st : List Value) (σ : ma_H) (hk : k < hk_zlen a3), ma_rn ro d 123 (231, [v0, v1, v2, v3, v4, v5, v6, v7, v8, v9, v10], .int x1 :: .int (nI k) :: .ref a3 :: st, SH, σ) = ma_rn ro d 123 (232, [v0, v1, v2, v3, v4, v5, v6, v7, v8, v9, v10], st, SH, (ma_up σ a3 k (vp_nar .boolean x1)))) ∧
  (∀ (v0 : Option Value) (v1 : Option Value) (v2 : Option Value) (v3 : Option Value) (v6 : Option Value) (v7 : Option Value) (v8 : Option Value) (v9 : Option Value) (v10 : Option Value) (x1 : Int32) (x9 : Int32) (st : List Value) (σ : ma_H), ma_rn ro d 123 (232, [v0, v1, v2, v3, some (.int x9), some (.int x1), v6, v7, v8, v9, v10], st, SH, σ) = ma_rn ro d 123 (235, [v0, v1, v2, v3, some (.int x9), some (.int (x1 + nI 1)), v6, v7, v8, v9, v10], st, SH, σ)) ∧
  (∀ (v0 : Option Value) (v1 : Option Value) (v2 : Option Value) (v3 : Option Value) (v4 : Option Value) (v5 : Option Value) (v6 : Option Value) (v7 : Option Value) (v8 : Option Value) (v9 : Option Value) (v10 : Option Value) (st : List Value) (σ : ma_H), ma_rn ro d 123 (235, [v0, v1, v2, v3, v4, v5, v6, v7, v8, v9, v10], st, SH, σ) = ma_rn ro d 123 (421, [v0, v1, v2, v3, v4, v5, v6, v7, v8, v9, v10], st, SH, σ)) ∧
  (∀ (v0 : Option Value) (v1 : Option Value) (v2 : Option Value) (v3 : Option Value) (v4 : Option Value) (v5 : Option Value) (v6 : Option Value) (v8 : Option Value) (v9 : Option Value) (v10 : Option Value) (x1 : Int32) (st : List Value) (σ : ma_H), ma_rn ro d 123 (238, [v0, v1, v2, v3, v4, v5, v6, some (.int x1), v8, v9, v10], st, SH, σ) = ma_rn ro d 123 (240, [v0, v1, v2, v3, v4, v5, v6, some (.int x1), v8, v9, v10], .int x1 :: st, SH, σ)) ∧
  (∀ (v0 : Option Value) (v1 : Option Value) (v2 : Option Value) (v3 : Option Value) (v4 : Option Value) (v5 : Option Value) (v6 : Option Value) (v7 : Option Value) (v8 : Option Value) (v9 : Option Value) (v10 : Option Value) (st : List Value) (σ : ma_H), ma_rn ro d 123 (240, [v0, v1, v2, v3, v4, v5, v6, v7, v8, v9, v10], st, SH, σ) = ma_rn ro d 123 (241, [v0, v1, v2, v3, v4, v5, v6, v7, v8, v9, v10], .int ((-1)) :: st, SH, σ)) ∧
  (∀ (v0 : Option Value) (v1 : Option Value) (v2 : Option Value) (v3 : Option Value) (v4 : Option Value) (v5 : Option Value) (v6 : Option Value) (v7 : Option Value) (v8 : Option Value) (v9 : Option Value) (v10 : Option Value) (x1 : Int32) (x2 : Int32) (st : List Value) (σ : ma_H), ma_rn ro d 123 (241, [v0, v1, v2, v3, v4, v5, v6, v7, v8, v9, v10], .int x1 :: .int x2 :: st, SH, σ) = if x2 = x1 then ma_rn ro d 123 (244, [v0, v1, v2, v3, v4, v5, v6, v7, v8, v9, v10], st, SH, σ) else ma_rn ro d 123 (273, [v0, v1, v2, v3, v4, v5, v6, v7, v8, v9, v10], st, SH, σ)) ∧
  (∀ (v1 : Option Value) (v2 : Option Value) (v3 : Option Value) (v4 : Option Value) (v5 : Option Value) (v6 : Option Value) (v7 : Option Value) (v8 : Option Value) (v9 : Option Value) (v10 : Option Value) (a1 : Nat) (st : List Value) (σ : ma_H), ma_rn ro d 123 (244, [some (.ref a1), v1, v2, v3, v4, v5, v6, v7, v8, v9, v10], st, SH, σ) = ma_rn ro d 123 (245, [some (.ref a1), v1, v2, v3, v4, v5, v6, v7, v8, v9, v10], .ref a1 :: st, SH, σ)) ∧
  (∀ (v0 : Option Value) (v1 : Option Value) (v2 : Option Value) (v3 : Option Value) (v4 : Option Value) (v5 : Option Value) (v6 : Option Value) (v7 : Option Value) (v8 : Option Value) (v9 : Option Value) (v10 : Option Value) (a1 : Nat) (st : List Value) (σ : ma_H) (hc : hk_cls a1 = 8), ma_rn ro d 123 (245, [v0, v1, v2, v3, v4, v5, v6, v7, v8, v9, v10], .ref a1 :: st, SH, σ) = ma_rn ro d 123 (248, [v0, v1, v2, v3, v4, v5, v6, v7, v8, v9, v10], .ref (95) :: st, SH, σ)) ∧
  (∀ (v0 : Option Value) (v1 : Option Value) (v2 : Option Value) (v3 : Option Value) (v4 : Option Value) (v6 : Option Value) (v7 : Option Value) (v8 : Option Value) (v9 : Option Value) (v10 : Option Value) (x1 : Int32) (st : List Value) (σ : ma_H), ma_rn ro d 123 (248, [v0, v1, v2, v3, v4, some (.int x1), v6, v7, v8, v9, v10], st, SH, σ) = ma_rn ro d 123 (250, [v0, v1, v2, v3, v4, some (.int x1), v6, v7, v8, v9, v10], .int x1 :: st, SH, σ)) ∧
  (∀ (v0 : Option Value) (v1 : Option Value) (v2 : Option Value) (v3 : Option Value) (v4 : Option Value) (v5 : Option Value) (v6 : Option Value) (v7 : Option Value) (v8 : Option Value) (v9 : Option Value) (v10 : Option Value) (st : List Value) (σ : ma_H), ma_rn ro d 123 (250, [v0, v1, v2, v3, v4, v5, v6, v7, v8, v9, v10], st, SH, σ) = ma_rn ro d 123 (251, [v0, v1, v2, v3, v4, v5, v6, v7, v8, v9, v10], .int (nI 1) :: st, SH, σ)) ∧
  (∀ (v0 : Option Value) (v1 : Option Value) (v2 : Option Value) (v3 : Option Value) (v4 : Option Value) (v5 : Option Value) (v6 : Option Value) (v7 : Option Value) (v8 : Option Value) (v9 : Option Value) (v10 : Option Value) (x1 : Int32) (x2 : Int32) (st : List Value) (σ : ma_H), ma_rn ro d 123 (251, [v0, v1, v2, v3, v4, v5, v6, v7, v8, v9, v10], .int x1 :: .int x2 :: st, SH, σ) = ma_rn ro d 123 (252, [v0, v1, v2, v3, v4, v5, v6, v7, v8, v9, v10], .int (x2 - x1) :: st, SH, σ)) ∧
  (∀ (v1 : Option Value) (v2 : Option Value) (v3 : Option Value) (v4 : Option Value) (v5 : Option Value) (v6 : Option Value) (v7 : Option Value) (v8 : Option Value) (v9 : Option Value) (v10 : Option Value) (a1 : Nat) (st : List Value) (σ : ma_H), ma_rn ro d 123 (252, [some (.ref a1), v1, v2, v3, v4, v5, v6, v7, v8, v9, v10], st, SH, σ) = ma_rn ro d 123 (253, [some (.ref a1), v1, v2, v3, v4, v5, v6, v7, v8, v9, v10], .ref a1 :: st, SH, σ)) ∧
  (∀ (v0 : Option Value) (v1 : Option Value) (v2 : Option Value) (v3 : Option Value) (v4 : Option Value) (v5 : Option Value) (v6 : Option Value) (v7 : Option Value) (v8 : Option Value) (v9 : Option Value) (v10 : Option Value) (a1 : Nat) (st : List Value) (σ : ma_H) (hc : hk_cls a1 = 8), ma_rn ro d 123 (253, [v0, v1, v2, v3, v4, v5, v6, v7, v8, v9, v10], .ref a1 :: st, SH, σ) = ma_rn ro d 123 (256, [v0, v1, v2, v3, v4, v5, v6, v7, v8, v9, v10], .ref (95) :: st, SH, σ)) ∧
  (∀ (v0 : Option Value) (v1 : Option Value) (v2 : Option Value) (v3 : Option Value) (v4 : Option Value) (v6 : Option Value) (v7 : Option Value) (v8 : Option Value) (v9 : Option Value) (v10 : Option Value) (x1 : Int32) (st : List Value) (σ : ma_H), ma_rn ro d 123 (256, [v0, v1, v2, v3, v4, some (.int x1), v6, v7, v8, v9, v10], st, SH, σ) = ma_rn ro d 123 (258, [v0, v1, v2, v3, v4, some (.int x1), v6, v7, v8, v9, v10], .int x1 :: st, SH, σ)) ∧
  (∀ (v0 : Option Value) (v1 : Option Value) (v2 : Option Value) (v3 : Option Value) (v4 : Option Value) (v5 : Option Value) (v6 : Option Value) (v7 : Option Value) (v8 : Option Value) (v9 : Option Value) (v10 : Option Value) (st : List Value) (σ : ma_H), ma_rn ro d 123 (258, [v0, v1, v2, v3, v4, v5, v6, v7, v8, v9, v10], st, SH, σ) = ma_rn ro d 123 (259, [v0, v1, v2, v3, v4, v5, v6, v7, v8, v9, v10], .int (nI 1) :: st, SH, σ)) ∧
  (∀ (v0 : Option Value) (v1 : Option Value) (v2 : Option Value) (v3 : Option Value) (v4 : Option Value) (v5 : Option Value) (v6 : Option Value) (v7 : Option Value) (v8 : Option Value) (v9 : Option Value) (v10 : Option Value) (x1 : Int32) (x2 : Int32) (st : List Value) (σ : ma_H), ma_rn ro d 123 (259, [v0, v1, v2, v3, v4, v5, v6, v7, v8, v9, v10], .int x1 :: .int x2 :: st, SH, σ) = ma_rn ro d 123 (260, [v0, v1, v2, v3, v4, v5, v6, v7, v8, v9, v10], .int (x2 - x1) :: st, SH, σ)) ∧
  (∀ (v0 : Option Value) (v1 : Option Value) (v2 : Option Value) (v3 : Option Value) (v4 : Option Value) (v5 : Option Value) (v6 : Option Value) (v7 : Option Value) (v8 : Option Value) (v9 : Option Value) (v10 : Option Value) (k : Nat) (a2 : Nat) (st : List Value) (σ : ma_H) (hk : k < hk_zlen a2), ma_rn ro d 123 (260, [v0, v1, v2, v3, v4, v5, v6, v7, v8, v9, v10], .int (nI k) :: .ref a2 :: st, SH, σ) = ma_rn ro d 123 (261, [v0, v1, v2, v3, v4, v5, v6, v7, v8, v9, v10], .int (σ a2 k) :: st, SH, σ)) ∧
  (∀ (v0 : Option Value) (v1 : Option Value) (v2 : Option Value) (v3 : Option Value) (v4 : Option Value) (v5 : Option Value) (v6 : Option Value) (v7 : Option Value) (v8 : Option Value) (v9 : Option Value) (v10 : Option Value) (x1 : Int32) (st : List Value) (σ : ma_H), ma_rn ro d 123 (261, [v0, v1, v2, v3, v4, v5, v6, v7, v8, v9, v10], .int x1 :: st, SH, σ) = if x1 = nI 0 then ma_rn ro d 123 (264, [v0, v1, v2, v3, v4, v5, v6, v7, v8, v9, v10], st, SH, σ) else ma_rn ro d 123 (268, [v0, v1, v2, v3, v4, v5, v6, v7, v8, v9, v10], st, SH, σ)) ∧
  (∀ (v0 : Option Value) (v1 : Option Value) (v2 : Option Value) (v3 : Option Value) (v4 : Option Value) (v5 : Option Value) (v6 : Option Value) (v7 : Option Value) (v8 : Option Value) (v9 : Option Value) (v10 : Option Value) (st : List Value) (σ : ma_H), ma_rn ro d 123 (264, [v0, v1, v2, v3, v4, v5, v6, v7, v8, v9, v10], st, SH, σ) = ma_rn ro d 123 (265, [v0, v1, v2, v3, v4, v5, v6, v7, v8, v9, v10], .int (nI 1) :: st, SH, σ)) ∧
  (∀ (v0 : Option Value) (v1 : Option Value) (v2 : Option Value) (v3 : Option Value) (v4 : Option Value) (v5 : Option Value) (v6 : Option Value) (v7 : Option Value) (v8 : Option Value) (v9 : Option Value) (v10 : Option Value) (st : List Value) (σ : ma_H), ma_rn ro d 123 (265, [v0, v1, v2, v3, v4, v5, v6, v7, v8, v9, v10], st, SH, σ) = ma_rn ro d 123 (269, [v0, v1, v2, v3, v4, v5, v6, v7, v8, v9, v10], st, SH, σ)) ∧
  (∀ (v0 : Option Value) (v1 : Option Value) (v2 : Option Value) (v3 : Option Value) (v4 : Option Value) (v5 : Option Value) (v6 : Option Value) (v7 : Option Value) (v8 : Option Value) (v9 : Option Value) (v10 : Option Value) (st : List Value) (σ : ma_H), ma_rn ro d 123 (268, [v0, v1, v2, v3, v4, v5, v6, v7, v8, v9, v10], st, SH, σ) = ma_rn ro d 123 (269, [v0, v1, v2, v3, v4, v5, v6, v7, v8, v9, v10], .int (nI 0) :: st, SH, σ)) ∧
  (∀ (v0 : Option Value) (v1 : Option Value) (v2 : Option Value) (v3 : Option Value) (v4 : Option Value) (v5 : Option Value) (v6 : Option Value) (v7 : Option Value) (v8 : Option Value) (v9 : Option Value) (v10 : Option Value) (x1 : Int32) (k : Nat) (a3 : Nat) (st : List Value) (σ : ma_H) (hk : k < hk_zlen a3), ma_rn ro d 123 (269, [v0, v1, v2, v3, v4, v5, v6, v7, v8, v9, v10], .int x1 :: .int (nI k) :: .ref a3 :: st, SH, σ) = ma_rn ro d 123 (270, [v0, v1, v2, v3, v4, v5, v6, v7, v8, v9, v10], st, SH, (ma_up σ a3 k (vp_nar .boolean x1)))) ∧
  (∀ (v0 : Option Value) (v1 : Option Value) (v2 : Option Value) (v3 : Option Value) (v4 : Option Value) (v5 : Option Value) (v6 : Option Value) (v7 : Option Value) (v8 : Option Value) (v9 : Option Value) (v10 : Option Value) (st : List Value) (σ : ma_H), ma_rn ro d 123 (270, [v0, v1, v2, v3, v4, v5, v6, v7, v8, v9, v10], st, SH, σ) = ma_rn ro d 123 (421, [v0, v1, v2, v3, v4, v5, v6, v7, v8, v9, v10], st, SH, σ)) ∧
  (∀ (v0 : Option Value) (v1 : Option Value) (v2 : Option Value) (v3 : Option Value) (v4 : Option Value) (v5 : Option Value) (v6 : Option Value) (v8 : Option Value) (v9 : Option Value) (v10 : Option Value) (x1 : Int32) (st : List Value) (σ : ma_H), ma_rn ro d 123 (273, [v0, v1, v2, v3, v4, v5, v6, some (.int x1), v8, v9, v10], st, SH, σ) = ma_rn ro d 123 (275, [v0, v1, v2, v3, v4, v5, v6, some (.int x1), v8, v9, v10], .int x1 :: st, SH, σ)) ∧
  (∀ (v0 : Option Value) (v1 : Option Value) (v2 : Option Value) (v3 : Option Value) (v4 : Option Value) (v5 : Option Value) (v6 : Option Value) (v7 : Option Value) (v8 : Option Value) (v9 : Option Value) (v10 : Option Value) (st : List Value) (σ : ma_H), ma_rn ro d 123 (275, [v0, v1, v2, v3, v4, v5, v6, v7, v8, v9, v10], st, SH, σ) = ma_rn ro d 123 (277, [v0, v1, v2, v3, v4, v5, v6, v7, v8, v9, v10], .int ((-10)) :: st, SH, σ)) ∧
  (∀ (v0 : Option Value) (v1 : Option Value) (v2 : Option Value) (v3 : Option Value) (v4 : Option Value) (v5 : Option Value) (v6 : Option Value) (v7 : Option Value) (v8 : Option Value) (v9 : Option Value) (v10 : Option Value) (x1 : Int32) (x2 : Int32) (st : List Value) (σ : ma_H), ma_rn ro d 123 (277, [v0, v1, v2, v3, v4, v5, v6, v7, v8, v9, v10], .int x1 :: .int x2 :: st, SH, σ) = if x1 < x2 then ma_rn ro d 123 (280, [v0, v1, v2, v3, v4, v5, v6, v7, v8, v9, v10], st, SH, σ) else ma_rn ro d 123 (359, [v0, v1, v2, v3, v4, v5, v6, v7, v8, v9, v10], st, SH, σ)) ∧
  (∀ (v0 : Option Value) (v1 : Option Value) (v2 : Option Value) (v3 : Option Value) (v6 : Option Value) (v7 : Option Value) (v8 : Option Value) (v9 : Option Value) (v10 : Option Value) (x1 : Int32) (x9 : Int32) (st : List Value) (σ : ma_H), ma_rn ro d 123 (280, [v0, v1, v2, v3, some (.int x9), some (.int x1), v6, v7, v8, v9, v10], st, SH, σ) = ma_rn ro d 123 (283, [v0, v1, v2, v3, some (.int x9), some (.int (x1 + (-1))), v6, v7, v8, v9, v10], st, SH, σ)) ∧
  (∀ (v1 : Option Value) (v2 : Option Value) (v3 : Option Value) (v4 : Option Value) (v5 : Option Value) (v6 : Option Value) (v7 : Option Value) (v8 : Option Value) (v9 : Option Value) (v10 : Option Value) (a1 : Nat) (st : List Value) (σ : ma_H), ma_rn ro d 123 (283, [some (.ref a1), v1, v2, v3, v4, v5, v6, v7, v8, v9, v10], st, SH, σ) = ma_rn ro d 123 (284, [some (.ref a1), v1, v2, v3, v4, v5, v6, v7, v8, v9, v10], .ref a1 :: st, SH, σ)) ∧
  (∀ (v0 : Option Value) (v1 : Option Value) (v2 : Option Value) (v3 : Option Value) (v4 : Option Value) (v5 : Option Value) (v6 : Option Value) (v7 : Option Value) (v8 : Option Value) (v9 : Option Value) (v10 : Option Value) (a1 : Nat) (st : List Value) (σ : ma_H) (hc : hk_cls a1 = 8), ma_rn ro d 123 (284, [v0, v1, v2, v3, v4, v5, v6, v7, v8, v9, v10], .ref a1 :: st, SH, σ) = ma_rn ro d 123 (287, [v0, v1, v2, v3, v4, v5, v6, v7, v8, v9, v10], .ref (95) :: st, SH, σ)) ∧
  (∀ (v0 : Option Value) (v1 : Option Value) (v2 : Option Value) (v3 : Option Value) (v4 : Option Value) (v6 : Option Value) (v7 : Option Value) (v8 : Option Value) (v9 : Option Value) (v10 : Option Value) (x1 : Int32) (st : List Value) (σ : ma_H), ma_rn ro d 123 (287, [v0, v1, v2, v3, v4, some (.int x1), v6, v7, v8, v9, v10], st, SH, σ) = ma_rn ro d 123 (289, [v0, v1, v2, v3, v4, some (.int x1), v6, v7, v8, v9, v10], .int x1 :: st, SH, σ)) ∧
  (∀ (v0 : Option Value) (v1 : Option Value) (v2 : Option Value) (v3 : Option Value) (v4 : Option Value) (v5 : Option Value) (v6 : Option Value) (v7 : Option Value) (v8 : Option Value) (v9 : Option Value) (v10 : Option Value) (st : List Value) (σ : ma_H), ma_rn ro d 123 (289, [v0, v1, v2, v3, v4, v5, v6, v7, v8, v9, v10], st, SH, σ) = ma_rn ro d 123 (290, [v0, v1, v2, v3, v4, v5, v6, v7, v8, v9, v10], .int (nI 1) :: st, SH, σ)) ∧
  (∀ (v0 : Option Value) (v1 : Option Value) (v2 : Option Value) (v3 : Option Value) (v4 : Option Value) (v5 : Option Value) (v6 : Option Value) (v7 : Option Value) (v8 : Option Value) (v9 : Option Value) (v10 : Option Value) (x1 : Int32) (x2 : Int32) (st : List Value) (σ : ma_H), ma_rn ro d 123 (290, [v0, v1, v2, v3, v4, v5, v6, v7, v8, v9, v10], .int x1 :: .int x2 :: st, SH, σ) = ma_rn ro d 123 (291, [v0, v1, v2, v3, v4, v5, v6, v7, v8, v9, v10], .int (x2 - x1) :: st, SH, σ)) ∧
  (∀ (v0 : Option Value) (v1 : Option Value) (v2 : Option Value) (v3 : Option Value) (v4 : Option Value) (v5 : Option Value) (v6 : Option Value) (v8 : Option Value) (v9 : Option Value) (v10 : Option Value) (x1 : Int32) (st : List Value) (σ : ma_H), ma_rn ro d 123 (291, [v0, v1, v2, v3, v4, v5, v6, some (.int x1), v8, v9, v10], st, SH, σ) = ma_rn ro d 123 (293, [v0, v1, v2, v3, v4, v5, v6, some (.int x1), v8, v9, v10], .int x1 :: st, SH, σ)) ∧
  (∀ (v0 : Option Value) (v1 : Option Value) (v2 : Option Value) (v3 : Option Value) (v4 : Option Value) (v5 : Option Value) (v6 : Option Value) (v7 : Option Value) (v8 : Option Value) (v9 : Option Value) (v10 : Option Value) (st : List Value) (σ : ma_H), ma_rn ro d 123 (293, [v0, v1, v2, v3, v4, v5, v6, v7, v8, v9, v10], st, SH, σ) = ma_rn ro d 123 (295, [v0, v1, v2, v3, v4, v5, v6, v7, v8, v9, v10], .int ((-2)) :: st, SH, σ)) ∧
  (∀ (v0 : Option Value) (v1 : Option Value) (v2 : Option Value) (v3 : Option Value) (v4 : Option Value) (v5 : Option Value) (v6 : Option Value) (v7 : Option Value) (v8 : Option Value) (v9 : Option Value) (v10 : Option Value) (x1 : Int32) (x2 : Int32) (st : List Value) (σ : ma_H), ma_rn ro d 123 (295, [v0, v1, v2, v3, v4, v5, v6, v7, v8, v9, v10], .int x1 :: .int x2 :: st, SH, σ) = if x2 = x1 then ma_rn ro d 123 (298, [v0, v1, v2, v3, v4, v5, v6, v7, v8, v9, v10], st, SH, σ) else ma_rn ro d 123 (328, [v0, v1, v2, v3, v4, v5, v6, v7, v8, v9, v10], st, SH, σ)) ∧
  (∀ (v1 : Option Value) (v2 : Option Value) (v3 : Option Value) (v4 : Option Value) (v5 : Option Value) (v6 : Option Value) (v7 : Option Value) (v8 : Option Value) (v9 : Option Value) (v10 : Option Value) (a1 : Nat) (st : List Value) (σ : ma_H), ma_rn ro d 123 (298, [some (.ref a1), v1, v2, v3, v4, v5, v6, v7, v8, v9, v10], st, SH, σ) = ma_rn ro d 123 (299, [some (.ref a1), v1, v2, v3, v4, v5, v6, v7, v8, v9, v10], .ref a1 :: st, SH, σ)) ∧
  (∀ (v0 : Option Value) (v1 : Option Value) (v2 : Option Value) (v3 : Option Value) (v4 : Option Value) (v5 : Option Value) (v6 : Option Value) (v7 : Option Value) (v8 : Option Value) (v9 : Option Value) (v10 : Option Value) (a1 : Nat) (st : List Value) (σ : ma_H) (hc : hk_cls a1 = 8), ma_rn ro d 123 (299, [v0, v1, v2, v3, v4, v5, v6, v7, v8, v9, v10], .ref a1 :: st, SH, σ) = ma_rn ro d 123 (302, [v0, v1, v2, v3, v4, v5, v6, v7, v8, v9, v10], .ref (95) :: st, SH, σ)) ∧
  (∀ (v0 : Option Value) (v1 : Option Value) (v2 : Option Value) (v3 : Option Value) (v4 : Option Value) (v6 : Option Value) (v7 : Option Value) (v8 : Option Value) (v9 : Option Value) (v10 : Option Value) (x1 : Int32) (st : List Value) (σ : ma_H), ma_rn ro d 123 (302, [v0, v1, v2, v3, v4, some (.int x1), v6, v7, v8, v9, v10], st, SH, σ) = ma_rn ro d 123 (304, [v0, v1, v2, v3, v4, some (.int x1), v6, v7, v8, v9, v10], .int x1 :: st, SH, σ)) ∧
  (∀ (v0 : Option Value) (v1 : Option Value) (v2 : Option Value) (v3 : Option Value) (v4 : Option Value) (v5 : Option Value) (v6 : Option Value) (v7 : Option Value) (v8 : Option Value) (v9 : Option Value) (v10 : Option Value) (st : List Value) (σ : ma_H), ma_rn ro d 123 (304, [v0, v1, v2, v3, v4, v5, v6, v7, v8, v9, v10], st, SH, σ) = ma_rn ro d 123 (305, [v0, v1, v2, v3, v4, v5, v6, v7, v8, v9, v10], .int (nI 1) :: st, SH, σ)) ∧
  (∀ (v0 : Option Value) (v1 : Option Value) (v2 : Option Value) (v3 : Option Value) (v4 : Option Value) (v5 : Option Value) (v6 : Option Value) (v7 : Option Value) (v8 : Option Value) (v9 : Option Value) (v10 : Option Value) (x1 : Int32) (x2 : Int32) (st : List Value) (σ : ma_H), ma_rn ro d 123 (305, [v0, v1, v2, v3, v4, v5, v6, v7, v8, v9, v10], .int x1 :: .int x2 :: st, SH, σ) = ma_rn ro d 123 (306, [v0, v1, v2, v3, v4, v5, v6, v7, v8, v9, v10], .int (x2 - x1) :: st, SH, σ)) ∧
  (∀ (v0 : Option Value) (v1 : Option Value) (v2 : Option Value) (v3 : Option Value) (v4 : Option Value) (v5 : Option Value) (v6 : Option Value) (v7 : Option Value) (v8 : Option Value) (v9 : Option Value) (v10 : Option Value) (k : Nat) (a2 : Nat) (st : List Value) (σ : ma_H) (hk : k < hk_zlen a2), ma_rn ro d 123 (306, [v0, v1, v2, v3, v4, v5, v6, v7, v8, v9, v10], .int (nI k) :: .ref a2 :: st, SH, σ) = ma_rn ro d 123 (307, [v0, v1, v2, v3, v4, v5, v6, v7, v8, v9, v10], .int (σ a2 k) :: st, SH, σ)) ∧
  (∀ (v0 : Option Value) (v1 : Option Value) (v2 : Option Value) (v3 : Option Value) (v4 : Option Value) (v5 : Option Value) (v6 : Option Value) (v7 : Option Value) (v8 : Option Value) (v9 : Option Value) (v10 : Option Value) (x1 : Int32) (st : List Value) (σ : ma_H), ma_rn ro d 123 (307, [v0, v1, v2, v3, v4, v5, v6, v7, v8, v9, v10], .int x1 :: st, SH, σ) = if x1 = nI 0 then ma_rn ro d 123 (324, [v0, v1, v2, v3, v4, v5, v6, v7, v8, v9, v10], st, SH, σ) else ma_rn ro d 123 (310, [v0, v1, v2, v3, v4, v5, v6, v7, v8, v9, v10], st, SH, σ)) ∧
  (∀ (v1 : Option Value) (v2 : Option Value) (v3 : Option Value) (v4 : Option Value) (v5 : Option Value) (v6 : Option Value) (v7 : Option Value) (v8 : Option Value) (v9 : Option Value) (v10 : Option Value) (a1 : Nat) (st : List Value) (σ : ma_H), ma_rn ro d 123 (310, [some (.ref a1), v1, v2, v3, v4, v5, v6, v7, v8, v9, v10], st, SH, σ) = ma_rn ro d 123 (311, [some (.ref a1), v1, v2, v3, v4, v5, v6, v7, v8, v9, v10], .ref a1 :: st, SH, σ)) ∧
  (∀ (v0 : Option Value) (v1 : Option Value) (v2 : Option Value) (v3 : Option Value) (v4 : Option Value) (v5 : Option Value) (v6 : Option Value) (v7 : Option Value) (v8 : Option Value) (v9 : Option Value) (v10 : Option Value) (a1 : Nat) (st : List Value) (σ : ma_H) (hc : hk_cls a1 = 8), ma_rn ro d 123 (311, [v0, v1, v2, v3, v4, v5, v6, v7, v8, v9, v10], .ref a1 :: st, SH, σ) = ma_rn ro d 123 (314, [v0, v1, v2, v3, v4, v5, v6, v7, v8, v9, v10], .ref (95) :: st, SH, σ)) ∧
  (∀ (v0 : Option Value) (v1 : Option Value) (v2 : Option Value) (v3 : Option Value) (v4 : Option Value) (v6 : Option Value) (v7 : Option Value) (v8 : Option Value) (v9 : Option Value) (v10 : Option Value) (x1 : Int32) (st : List Value) (σ : ma_H), ma_rn ro d 123 (314, [v0, v1, v2, v3, v4, some (.int x1), v6, v7, v8, v9, v10], st, SH, σ) = ma_rn ro d 123 (316, [v0, v1, v2, v3, v4, some (.int x1), v6, v7, v8, v9, v10], .int x1 :: st, SH, σ)) ∧
  (∀ (v0 : Option Value) (v1 : Option Value) (v2 : Option Value) (v3 : Option Value) (v4 : Option Value) (v5 : Option Value) (v6 : Option Value) (v7 : Option Value) (v8 : Option Value) (v9 : Option Value) (v10 : Option Value) (k : Nat) (a2 : Nat) (st : List Value) (σ : ma_H) (hk : k < hk_zlen a2), ma_rn ro d 123 (316, [v0, v1, v2, v3, v4, v5, v6, v7, v8, v9, v10], .int (nI k) :: .ref a2 :: st, SH, σ) = ma_rn ro d 123 (317, [v0, v1, v2, v3, v4, v5, v6, v7, v8, v9, v10], .int (σ a2 k) :: st, SH, σ)) ∧
  (∀ (v0 : Option Value) (v1 : Option Value) (v2 : Option Value) (v3 : Option Value) (v4 : Option Value) (v5 : Option Value) (v6 : Option Value) (v7 : Option Value) (v8 : Option Value) (v9 : Option Value) (v10 : Option Value) (x1 : Int32) (st : List Value) (σ : ma_H), ma_rn ro d 123 (317, [v0, v1, v2, v3, v4, v5, v6, v7, v8, v9, v10], .int x1 :: st, SH, σ) = if x1 = nI 0 then ma_rn ro d 123 (324, [v0, v1, v2, v3, v4, v5, v6, v7, v8, v9, v10], st, SH, σ) else ma_rn ro d 123 (320, [v0, v1, v2, v3, v4, v5, v6, v7, v8, v9, v10], st, SH, σ)) ∧
  (∀ (v0 : Option Value) (v1 : Option Value) (v2 : Option Value) (v3 : Option Value) (v4 : Option Value) (v5 : Option Value) (v6 : Option Value) (v7 : Option Value) (v8 : Option Value) (v9 : Option Value) (v10 : Option Value) (st : List Value) (σ : ma_H), ma_rn ro d 123 (320, [v0, v1, v2, v3, v4, v5, v6, v7, v8, v9, v10], st, SH, σ) = ma_rn ro d 123 (321, [v0, v1, v2, v3, v4, v5, v6, v7, v8, v9, v10], .int (nI 1) :: st, SH, σ)) ∧
  (∀ (v0 : Option Value) (v1 : Option Value) (v2 : Option Value) (v3 : Option Value) (v4 : Option Value) (v5 : Option Value) (v6 : Option Value) (v7 : Option Value) (v8 : Option Value) (v9 : Option Value) (v10 : Option Value) (st : List Value) (σ : ma_H), ma_rn ro d 123 (321, [v0, v1, v2, v3, v4, v5, v6, v7, v8, v9, v10], st, SH, σ) = ma_rn ro d 123 (355, [v0, v1, v2, v3, v4, v5, v6, v7, v8, v9, v10], st, SH, σ)) ∧
  (∀ (v0 : Option Value) (v1 : Option Value) (v2 : Option Value) (v3 : Option Value) (v4 : Option Value) (v5 : Option Value) (v6 : Option Value) (v7 : Option Value) (v8 : Option Value) (v9 : Option Value) (v10 : Option Value) (st : List Value) (σ : ma_H), ma_rn ro d 123 (324, [v0, v1, v2, v3, v4, v5, v6, v7, v8, v9, v10], st, SH, σ) = ma_rn ro d 123 (325, [v0, v1, v2, v3, v4, v5, v6, v7, v8, v9, v10], .int (nI 0) :: st, SH, σ)) ∧
  (∀ (v0 : Option Value) (v1 : Option Value) (v2 : Option Value) (v3 : Option Value) (v4 : Option Value) (v5 : Option Value) (v6 : Option Value) (v7 : Option Value) (v8 : Option Value) (v9 : Option Value) (v10 : Option Value) (st : List Value) (σ : ma_H), ma_rn ro d 123 (325, [v0, v1, v2, v3, v4, v5, v6, v7, v8, v9, v10], st, SH, σ) = ma_rn ro d 123 (355, [v0, v1, v2, v3, v4, v5, v6, v7, v8, v9, v10], st, SH, σ)) ∧
  (∀ (v1 : Option Value) (v2 : Option Value) (v3 : Option Value) (v4 : Option Value) (v5 : Option Value) (v6 : Option Value) (v7 : Option Value) (v8 : Option Value) (v9 : Option Value) (v10 : Option Value) (a1 : Nat) (st : List Value) (σ : ma_H), ma_rn ro d 123 (328, [some (.ref a1), v1, v2, v3, v4, v5, v6, v7, v8, v9, v10], st, SH, σ) = ma_rn ro d 123 (329, [some (.ref a1), v1, v2, v3, v4, v5, v6, v7, v8, v9, v10], .ref a1 :: st, SH, σ)) ∧
  (∀ (v0 : Option Value) (v1 : Option Value) (v2 : Option Value) (v3 : Option Value) (v4 : Option Value) (v5 : Option Value) (v6 : Option Value) (v7 : Option Value) (v8 : Option Value) (v9 : Option Value) (v10 : Option Value) (a1 : Nat) (st : List Value) (σ : ma_H) (hc : hk_cls a1 = 8), ma_rn ro d 123 (329, [v0, v1, v2, v3, v4, v5, v6, v7, v8, v9, v10], .ref a1 :: st, SH, σ) = ma_rn ro d 123 (332, [v0, v1, v2, v3, v4, v5, v6, v7, v8, v9, v10], .ref (95) :: st, SH, σ)) ∧
  (∀ (v0 : Option Value) (v1 : Option Value) (v2 : Option Value) (v3 : Option Value) (v4 : Option Value) (v6 : Option Value) (v7 : Option Value) (v8 : Option Value) (v9 : Option Value) (v10 : Option Value) (x1 : Int32) (st : List Value) (σ : ma_H), ma_rn ro d 123 (332, [v0, v1, v2, v3, v4, some (.int x1), v6, v7, v8, v9, v10], st, SH, σ) = ma_rn ro d 123 (334, [v0, v1, v2, v3, v4, some (.int x1), v6, v7, v8, v9, v10], .int x1 :: st, SH, σ)) ∧
  (∀ (v0 : Option Value) (v1 : Option Value) (v2 : Option Value) (v3 : Option Value) (v4 : Option Value) (v5 : Option Value) (v6 : Option Value) (v7 : Option Value) (v8 : Option Value) (v9 : Option Value) (v10 : Option Value) (st : List Value) (σ : ma_H), ma_rn ro d 123 (334, [v0, v1, v2, v3, v4, v5, v6, v7, v8, v9, v10], st, SH, σ) = ma_rn ro d 123 (335, [v0, v1, v2, v3, v4, v5, v6, v7, v8, v9, v10], .int (nI 1) :: st, SH, σ)) ∧
  (∀ (v0 : Option Value) (v1 : Option Value) (v2 : Option Value) (v3 : Option Value) (v4 : Option Value) (v5 : Option Value) (v6 : Option Value) (v7 : Option Value) (v8 : Option Value) (v9 : Option Value) (v10 : Option Value) (x1 : Int32) (x2 : Int32) (st : List Value) (σ : ma_H), ma_rn ro d 123 (335, [v0, v1, v2, v3, v4, v5, v6, v7, v8, v9, v10], .int x1 :: .int x2 :: st, SH, σ) = ma_rn ro d 123 (336, [v0, v1, v2, v3, v4, v5, v6, v7, v8, v9, v10], .int (x2 - x1) :: st, SH, σ)) ∧
  (∀ (v0 : Option Value) (v1 : Option Value) (v2 : Option Value) (v3 : Option Value) (v4 : Option Value) (v5 : Option Value) (v6 : Option Value) (v7 : Option Value) (v8 : Option Value) (v9 : Option Value) (v10 : Option Value) (k : Nat) (a2 : Nat) (st : List Value) (σ : ma_H) (hk : k < hk_zlen a2), ma_rn ro d 123 (336, [v0, v1, v2, v3, v4, v5, v6, v7, v8, v9, v10], .int (nI k) :: .ref a2 :: st, SH, σ) = ma_rn ro d 123 (337, [v0, v1, v2, v3, v4, v5, v6, v7, v8, v9, v10], .int (σ a2 k) :: st, SH, σ)) ∧
  (∀ (v0 : Option Value) (v1 : Option Value) (v2 : Option Value) (v3 : Option Value) (v4 : Option Value) (v5 : Option Value) (v6 : Option Value) (v7 : Option Value) (v8 : Option Value) (v9 : Option Value) (v10 : Option Value) (x1 : Int32) (st : List Value) (σ : ma_H), ma_rn ro d 123 (337, [v0, v1, v2, v3, v4, v5, v6, v7, v8, v9, v10], .int x1 :: st, SH, σ) = if x1 = nI 0 then ma_rn ro d 123 (340, [v0, v1, v2, v3, v4, v5, v6, v7, v8, v9, v10], st, SH, σ) else ma_rn ro d 123 (350, [v0, v1, v2, v3, v4, v5, v6, v7, v8, v9, v10], st, SH, σ)) ∧
  (∀ (v1 : Option Value) (v2 : Option Value) (v3 : Option Value) (v4 : Option Value) (v5 : Option Value) (v6 : Option Value) (v7 : Option Value) (v8 : Option Value) (v9 : Option Value) (v10 : Option Value) (a1 : Nat) (st : List Value) (σ : ma_H), ma_rn ro d 123 (340, [some (.ref a1), v1, v2, v3, v4, v5, v6, v7, v8, v9, v10], st, SH, σ) = ma_rn ro d 123 (341, [some (.ref a1), v1, v2, v3, v4, v5, v6, v7, v8, v9, v10], .ref a1 :: st, SH, σ)) ∧
  (∀ (v0 : Option Value) (v1 : Option Value) (v2 : Option Value) (v3 : Option Value) (v4 : Option Value) (v5 : Option Value) (v6 : Option Value) (v7 : Option Value) (v8 : Option Value) (v9 : Option Value) (v10 : Option Value) (a1 : Nat) (st : List Value) (σ : ma_H) (hc : hk_cls a1 = 8), ma_rn ro d 123 (341, [v0, v1, v2, v3, v4, v5, v6, v7, v8, v9, v10], .ref a1 :: st, SH, σ) = ma_rn ro d 123 (344, [v0, v1, v2, v3, v4, v5, v6, v7, v8, v9, v10], .ref (95) :: st, SH, σ)) ∧
  (∀ (v0 : Option Value) (v1 : Option Value) (v2 : Option Value) (v3 : Option Value) (v4 : Option Value) (v6 : Option Value) (v7 : Option Value) (v8 : Option Value) (v9 : Option Value) (v10 : Option Value) (x1 : Int32) (st : List Value) (σ : ma_H), ma_rn ro d 123 (344, [v0, v1, v2, v3, v4, some (.int x1), v6, v7, v8, v9, v10], st, SH, σ) = ma_rn ro d 123 (346, [v0, v1, v2, v3, v4, some (.int x1), v6, v7, v8, v9, v10], .int x1 :: st, SH, σ)) ∧
  (∀ (v0 : Option Value) (v1 : Option Value) (v2 : Option Value) (v3 : Option Value) (v4 : Option Value) (v5 : Option Value) (v6 : Option Value) (v7 : Option Value) (v8 : Option Value) (v9 : Option Value) (v10 : Option Value) (k : Nat) (a2 : Nat) (st : List Value) (σ : ma_H) (hk : k < hk_zlen a2), ma_rn ro d 123 (346, [v0, v1, v2, v3, v4, v5, v6, v7, v8, v9, v10], .int (nI k) :: .ref a2 :: st, SH, σ) = ma_rn ro d 123 (347, [v0, v1, v2, v3, v4, v5, v6, v7, v8, v9, v10], .int (σ a2 k) :: st, SH, σ)) ∧
  (∀ (v0 : Option Value) (v1 : Option Value) (v2 : Option Value) (v3 : Option Value) (v4 : Option Value) (v5 : Option Value) (v6 : Option Value) (v7 : Option Value) (v8 : Option Value) (v9 : Option Value) (v10 : Option Value) (x1 : Int32) (st : List Value) (σ : ma_H), ma_rn ro d 123 (347, [v0, v1, v2, v3, v4, v5, v6, v7, v8, v9, v10], .int x1 :: st, SH, σ) = if x1 = nI 0 then ma_rn ro d 123 (354, [v0, v1, v2, v3, v4, v5, v6, v7, v8, v9, v10], st, SH, σ) else ma_rn ro d 123 (350, [v0, v1, v2, v3, v4, v5, v6, v7, v8, v9, v10], st, SH, σ)) ∧
  (∀ (v0 : Option Value) (v1 : Option Value) (v2 : Option Value) (v3 : Option Value) (v4 : Option Value) (v5 : Option Value) (v6 : Option Value) (v7 : Option Value) (v8 : Option Value) (v9 : Option Value) (v10 : Option Value) (st : List Value) (σ : ma_H), ma_rn ro d 123 (350, [v0, v1, v2, v3, v4, v5, v6, v7, v8, v9, v10], st, SH, σ) = ma_rn ro d 123 (351, [v0, v1, v2, v3, v4, v5, v6, v7, v8, v9, v10], .int (nI 1) :: st, SH, σ)) ∧
  (∀ (v0 : Option Value) (v1 : Option Value) (v2 : Option Value) (v3 : Option Value) (v4 : Option Value) (v5 : Option Value) (v6 : Option Value) (v7 : Option Value) (v8 : Option Value) (v9 : Option Value) (v10 : Option Value) (st : List Value) (σ : ma_H), ma_rn ro d 123 (351, [v0, v1, v2, v3, v4, v5, v6, v7, v8, v9, v10], st, SH, σ) = ma_rn ro d 123 (355, [v0, v1, v2, v3, v4, v5, v6, v7, v8, v9, v10], st, SH, σ)) ∧
  (∀ (v0 : Option Value) (v1 : Option Value) (v2 : Option Value) (v3 : Option Value) (v4 : Option Value) (v5 : Option Value) (v6 : Option Value) (v7 : Option Value) (v8 : Option Value) (v9 : Option Value) (v10 : Option Value) (st : List Value) (σ : ma_H), ma_rn ro d 123 (354, [v0, v1, v2, v3, v4, v5, v6, v7, v8, v9, v10], st, SH, σ) = ma_rn ro d 123 (355, [v0, v1, v2, v3, v4, v5, v6, v7, v8, v9, v10], .int (nI 0) :: st, SH, σ)) ∧
  (∀ (v0 : Option Value) (v1 : Option Value) (v2 : Option Value) (v3 : Option Value) (v4 : Option Value) (v5 : Option Value) (v6 : Option Value) (v7 : Option Value) (v8 : Option Value) (v9 : Option Value) (v10 : Option Value) (x1 : Int32) (k : Nat) (a3 : Nat) (st : List Value) (σ : ma_H) (hk : k < hk_zlen a3), ma_rn ro d 123 (355, [v0, v1, v2, v3, v4, v5, v6, v7, v8, v9, v10], .int x1 :: .int (nI k) :: .ref a3 :: st, SH, σ) = ma_rn ro d 123 (356, [v0, v1, v2, v3, v4, v5, v6, v7, v8, v9, v10], st, SH, (ma_up σ a3 k (vp_nar .boolean x1)))) ∧
  (∀ (v0 : Option Value) (v1 : Option Value) (v2 : Option Value) (v3 : Option Value) (v4 : Option Value) (v5 : Option Value) (v6 : Option Value) (v7 : Option Value) (v8 : Option Value) (v9 : Option Value) (v10 : Option Value) (st : List Value) (σ : ma_H), ma_rn ro d 123 (356, [v0, v1, v2, v3, v4, v5, v6, v7, v8, v9, v10], st, SH, σ) = ma_rn ro d 123 (421, [v0, v1, v2, v3, v4, v5, v6, v7, v8, v9, v10], st, SH, σ)) ∧
  (∀ (v0 : Option Value) (v1 : Option Value) (v2 : Option Value) (v3 : Option Value) (v4 : Option Value) (v5 : Option Value) (v6 : Option Value) (v7 : Option Value) (v8 : Option Value) (v9 : Option Value) (v10 : Option Value) (st : List Value) (σ : ma_H), ma_rn ro d 123 (359, [v0, v1, v2, v3, v4, v5, v6, v7, v8, v9, v10], st, SH, σ) = ma_rn ro d 123 (360, [v0, v1, v2, v3, v4, v5, v6, v7, v8, v9, v10], .int (nI 0) :: st, SH, σ)) ∧
  (∀ (v0 : Option Value) (v1 : Option Value) (v2 : Option Value) (v3 : Option Value) (v5 : Option Value) (v6 : Option Value) (v7 : Option Value) (v8 : Option Value) (v9 : Option Value) (v10 : Option Value) (x9 : Int32) (x1 : Int32) (st : List Value) (σ : ma_H), ma_rn ro d 123 (360, [v0, v1, v2, v3, some (.int x9), v5, v6, v7, v8, v9, v10], .int x1 :: st, SH, σ) = ma_rn ro d 123 (362, [v0, v1, v2, v3, some (.int x9), some (.int x1), v6, v7, v8, v9, v10], st, SH, σ)) ∧
  (∀ (v1 : Option Value) (v2 : Option Value) (v3 : Option Value) (v4 : Option Value) (v5 : Option Value) (v6 : Option Value) (v7 : Option Value) (v8 : Option Value) (v9 : Option Value) (v10 : Option Value) (a1 : Nat) (st : List Value) (σ : ma_H), ma_rn ro d 123 (362, [some (.ref a1), v1, v2, v3, v4, v5, v6, v7, v8, v9, v10], st, SH, σ) = ma_rn ro d 123 (363, [some (.ref a1), v1, v2, v3, v4, v5, v6, v7, v8, v9, v10], .ref a1 :: st, SH, σ)) ∧
  (∀ (v0 : Option Value) (v1 : Option Value) (v2 : Option Value) (v3 : Option Value) (v4 : Option Value) (v5 : Option Value) (v6 : Option Value) (v7 : Option Value) (v8 : Option Value) (v9 : Option Value) (v10 : Option Value) (a1 : Nat) (st : List Value) (σ : ma_H) (hc : hk_cls a1 = 8), ma_rn ro d 123 (363, [v0, v1, v2, v3, v4, v5, v6, v7, v8, v9, v10], .ref a1 :: st, SH, σ) = ma_rn ro d 123 (366, [v0, v1, v2, v3, v4, v5, v6, v7, v8, v9, v10], .ref (95) :: st, SH, σ)) ∧
  (∀ (v0 : Option Value) (v1 : Option Value) (v2 : Option Value) (v3 : Option Value) (v4 : Option Value) (v5 : Option Value) (v6 : Option Value) (v7 : Option Value) (v8 : Option Value) (v9 : Option Value) (v10 : Option Value) (st : List Value) (σ : ma_H), ma_rn ro d 123 (366, [v0, v1, v2, v3, v4, v5, v6, v7, v8, v9, v10], st, SH, σ) = ma_rn ro d 123 (367, [v0, v1, v2, v3, v4, v5, v6, v7, v8, v9, v10], .int (nI 0) :: st, SH, σ)) ∧
  (∀ (v0 : Option Value) (v1 : Option Value) (v2 : Option Value) (v3 : Option Value) (v4 : Option Value) (v5 : Option Value) (v6 : Option Value) (v7 : Option Value) (v8 : Option Value) (v9 : Option Value) (v10 : Option Value) (k : Nat) (a2 : Nat) (st : List Value) (σ : ma_H) (hk : k < hk_zlen a2), ma_rn ro d 123 (367, [v0, v1, v2, v3, v4, v5, v6, v7, v8, v9, v10], .int (nI k) :: .ref a2 :: st, SH, σ) = ma_rn ro d 123 (368, [v0, v1, v2, v3, v4, v5, v6, v7, v8, v9, v10], .int (σ a2 k) :: st, SH, σ)) ∧
  (∀ (v0 : Option Value) (v1 : Option Value) (v2 : Option Value) (v3 : Option Value) (v4 : Option Value) (v5 : Option Value) (v6 : Option Value) (v8 : Option Value) (v9 : Option Value) (v10 : Option Value) (x9 : Int32) (x1 : Int32) (st : List Value) (σ : ma_H), ma_rn ro d 123 (368, [v0, v1, v2, v3, v4, v5, v6, some (.int x9), v8, v9, v10], .int x1 :: st, SH, σ) = ma_rn ro d 123 (370, [v0, v1, v2, v3, v4, v5, v6, some (.int x9), some (.int x1), v9, v10], st, SH, σ)) ∧
  (∀ (v0 : Option Value) (v1 : Option Value) (v3 : Option Value) (v4 : Option Value) (v5 : Option Value) (v6 : Option Value) (v7 : Option Value) (v8 : Option Value) (v9 : Option Value) (v10 : Option Value) (x1 : Int32) (st : List Value) (σ : ma_H), ma_rn ro d 123 (370, [v0, v1, some (.int x1), v3, v4, v5, v6, v7, v8, v9, v10], st, SH, σ) = ma_rn ro d 123 (371, [v0, v1, some (.int x1), v3, v4, v5, v6, v7, v8, v9, v10], .int x1 :: st, SH, σ)) ∧
  (∀ (v0 : Option Value) (v1 : Option Value) (v2 : Option Value) (v3 : Option Value) (v4 : Option Value) (v5 : Option Value) (v6 : Option Value) (v7 : Option Value) (v9 : Option Value) (v10 : Option Value) (x1 : Int32) (st : List Value) (σ : ma_H), ma_rn ro d 123 (371, [v0, v1, v2, v3, v4, v5, v6, v7, some (.int x1), v9, v10], st, SH, σ) = ma_rn ro d 123 (373, [v0, v1, v2, v3, v4, v5, v6, v7, some (.int x1), v9, v10], .int x1 :: st, SH, σ)) ∧
  (∀ (v0 : Option Value) (v1 : Option Value) (v2 : Option Value) (v3 : Option Value) (v4 : Option Value) (v5 : Option Value) (v6 : Option Value) (v7 : Option Value) (v8 : Option Value) (v9 : Option Value) (v10 : Option Value) (x1 : Int32) (st : List Value) (σ : ma_H), ma_rn ro d 123 (373, [v0, v1, v2, v3, v4, v5, v6, v7, v8, v9, v10], .int x1 :: st, SH, σ) = if x1 = nI 0 then ma_rn ro d 123 (392, [v0, v1, v2, v3, v4, v5, v6, v7, v8, v9, v10], st, SH, σ) else ma_rn ro d 123 (376, [v0, v1, v2, v3, v4, v5, v6, v7, v8, v9, v10], st, SH, σ)) ∧
  (∀ (v0 : Option Value) (v1 : Option Value) (v2 : Option Value) (v3 : Option Value) (v4 : Option Value) (v5 : Option Value) (v6 : Option Value) (v8 : Option Value) (v9 : Option Value) (v10 : Option Value) (x1 : Int32) (st : List Value) (σ : ma_H), ma_rn ro d 123 (376, [v0, v1, v2, v3, v4, v5, v6, some (.int x1), v8, v9, v10], st, SH, σ) = ma_rn ro d 123 (378, [v0, v1, v2, v3, v4, v5, v6, some (.int x1), v8, v9, v10], .int x1 :: st, SH, σ)) ∧
  (∀ (v0 : Option Value) (v1 : Option Value) (v2 : Option Value) (v3 : Option Value) (v4 : Option Value) (v5 : Option Value) (v6 : Option Value) (v7 : Option Value) (v8 : Option Value) (v9 : Option Value) (v10 : Option Value) (st : List Value) (σ : ma_H), ma_rn ro d 123 (378, [v0, v1, v2, v3, v4, v5, v6, v7, v8, v9, v10], st, SH, σ) = ma_rn ro d 123 (381, [v0, v1, v2, v3, v4, v5, v6, v7, v8, v9, v10], .int ((-200)) :: st, SH, σ)) ∧
  (∀ (v0 : Option Value) (v1 : Option Value) (v2 : Option Value) (v3 : Option Value) (v4 : Option Value) (v5 : Option Value) (v6 : Option Value) (v7 : Option Value) (v8 : Option Value) (v9 : Option Value) (v10 : Option Value) (x1 : Int32) (x2 : Int32) (st : List Value) (σ : ma_H), ma_rn ro d 123 (381, [v0, v1, v2, v3, v4, v5, v6, v7, v8, v9, v10], .int x1 :: .int x2 :: st, SH, σ) = if x1 < x2 then ma_rn ro d 123 (384, [v0, v1, v2, v3, v4, v5, v6, v7, v8, v9, v10], st, SH, σ) else ma_rn ro d 123 (392, [v0, v1, v2, v3, v4, v5, v6, v7, v8, v9, v10], st, SH, σ)) ∧
  (∀ (v0 : Option Value) (v1 : Option Value) (v2 : Option Value) (v3 : Option Value) (v4 : Option Value) (v5 : Option Value) (v6 : Option Value) (v7 : Option Value) (v8 : Option Value) (v9 : Option Value) (v10 : Option Value) (st : List Value) (σ : ma_H), ma_rn ro d 123 (384, [v0, v1, v2, v3, v4, v5, v6, v7, v8, v9, v10], st, SH, σ) = ma_rn ro d 123 (386, [v0, v1, v2, v3, v4, v5, v6, v7, v8, v9, v10], .int ((-10)) :: st, SH, σ)) ∧
  (∀ (v0 : Option Value) (v1 : Option Value) (v2 : Option Value) (v3 : Option Value) (v4 : Option Value) (v5 : Option Value) (v6 : Option Value) (v8 : Option Value) (v9 : Option Value) (v10 : Option Value) (x1 : Int32) (st : List Value) (σ : ma_H), ma_rn ro d 123 (386, [v0, v1, v2, v3, v4, v5, v6, some (.int x1), v8, v9, v10], st, SH, σ) = ma_rn ro d 123 (388, [v0, v1, v2, v3, v4, v5, v6, some (.int x1), v8, v9, v10], .int x1 :: st, SH, σ)) ∧
  (∀ (v0 : Option Value) (v1 : Option Value) (v2 : Option Value) (v3 : Option Value) (v4 : Option Value) (v5 : Option Value) (v6 : Option Value) (v7 : Option Value) (v8 : Option Value) (v9 : Option Value) (v10 : Option Value) (x1 : Int32) (x2 : Int32) (st : List Value) (σ : ma_H), ma_rn ro d 123 (388, [v0, v1, v2, v3, v4, v5, v6, v7, v8, v9, v10], .int x1 :: .int x2 :: st, SH, σ) = ma_rn ro d 123 (389, [v0, v1, v2, v3, v4, v5, v6, v7, v8, v9, v10], .int (x2 - x1) :: st, SH, σ)) ∧
  (∀ (v0 : Option Value) (v1 : Option Value) (v2 : Option Value) (v3 : Option Value) (v4 : Option Value) (v5 : Option Value) (v6 : Option Value) (v7 : Option Value) (v8 : Option Value) (v9 : Option Value) (v10 : Option Value) (st : List Value) (σ : ma_H), ma_rn ro d 123 (389, [v0, v1, v2, v3, v4, v5, v6, v7, v8, v9, v10], st, SH, σ) = ma_rn ro d 123 (393, [v0, v1, v2, v3, v4, v5, v6, v7, v8, v9, v10], st, SH, σ)) ∧
  (∀ (v0 : Option Value) (v1 : Option Value) (v2 : Option Value) (v3 : Option Value) (v4 : Option Value) (v5 : Option Value) (v6 : Option Value) (v7 : Option Value) (v8 : Option Value) (v9 : Option Value) (v10 : Option Value) (st : List Value) (σ : ma_H), ma_rn ro d 123 (392, [v0, v1, v2, v3, v4, v5, v6, v7, v8, v9, v10], st, SH, σ) = ma_rn ro d 123 (393, [v0, v1, v2, v3, v4, v5, v6, v7, v8, v9, v10], .int (nI 0) :: st, SH, σ)) ∧
  (∀ (v0 : Option Value) (v1 : Option Value) (v2 : Option Value) (v3 : Option Value) (v4 : Option Value) (v5 : Option Value) (v6 : Option Value) (v7 : Option Value) (v8 : Option Value) (v9 : Option Value) (v10 : Option Value) (x1 : Int32) (x2 : Int32) (st : List Value) (σ : ma_H), ma_rn ro d 123 (393, [v0, v1, v2, v3, v4, v5, v6, v7, v8, v9, v10], .int x1 :: .int x2 :: st, SH, σ) = ma_rn ro d 123 (394, [v0, v1, v2, v3, v4, v5, v6, v7, v8, v9, v10], .int (x2 + x1) :: st, SH, σ)) ∧
  (∀ (v0 : Option Value) (v2 : Option Value) (v3 : Option Value) (v4 : Option Value) (v5 : Option Value) (v6 : Option Value) (v7 : Option Value) (v8 : Option Value) (v9 : Option Value) (v10 : Option Value) (x9 : Int32) (x1 : Int32) (st : List Value) (σ : ma_H), ma_rn ro d 123 (394, [v0, some (.int x9), v2, v3, v4, v5, v6, v7, v8, v9, v10], .int x1 :: st, SH, σ) = ma_rn ro d 123 (395, [v0, some (.int x9), some (.int x1), v3, v4, v5, v6, v7, v8, v9, v10], st, SH, σ)) ∧
  (∀ (v0 : Option Value) (v1 : Option Value) (v3 : Option Value) (v4 : Option Value) (v5 : Option Value) (v6 : Option Value) (v7 : Option Value) (v8 : Option Value) (v9 : Option Value) (v10 : Option Value) (x1 : Int32) (st : List Value) (σ : ma_H), ma_rn ro d 123 (395, [v0, v1, some (.int x1), v3, v4, v5, v6, v7, v8, v9, v10], st, SH, σ) = ma_rn ro d 123 (396, [v0, v1, some (.int x1), v3, v4, v5, v6, v7, v8, v9, v10], .int x1 :: st, SH, σ)) ∧
  (∀ (v0 : Option Value) (v1 : Option Value) (v2 : Option Value) (v3 : Option Value) (v4 : Option Value) (v5 : Option Value) (v6 : Option Value) (v7 : Option Value) (v9 : Option Value) (v10 : Option Value) (x1 : Int32) (st : List Value) (σ : ma_H), ma_rn ro d 123 (396, [v0, v1, v2, v3, v4, v5, v6, v7, some (.int x1), v9, v10], st, SH, σ) = ma_rn ro d 123 (398, [v0, v1, v2, v3, v4, v5, v6, v7, some (.int x1), v9, v10], .int x1 :: st, SH, σ)) ∧
  (∀ (v0 : Option Value) (v1 : Option Value) (v2 : Option Value) (v3 : Option Value) (v4 : Option Value) (v5 : Option Value) (v6 : Option Value) (v7 : Option Value) (v8 : Option Value) (v9 : Option Value) (v10 : Option Value) (x1 : Int32) (st : List Value) (σ : ma_H), ma_rn ro d 123 (398, [v0, v1, v2, v3, v4, v5, v6, v7, v8, v9, v10], .int x1 :: st, SH, σ) = if x1 = nI 0 then ma_rn ro d 123 (418, [v0, v1, v2, v3, v4, v5, v6, v7, v8, v9, v10], st, SH, σ) else ma_rn ro d 123 (401, [v0, v1, v2, v3, v4, v5, v6, v7, v8, v9, v10], st, SH, σ)) ∧
  (∀ (v0 : Option Value) (v1 : Option Value) (v2 : Option Value) (v3 : Option Value) (v4 : Option Value) (v5 : Option Value) (v6 : Option Value) (v8 : Option Value) (v9 : Option Value) (v10 : Option Value) (x1 : Int32) (st : List Value) (σ : ma_H), ma_rn ro d 123 (401, [v0, v1, v2, v3, v4, v5, v6, some (.int x1), v8, v9, v10], st, SH, σ) = ma_rn ro d 123 (403, [v0, v1, v2, v3, v4, v5, v6, some (.int x1), v8, v9, v10], .int x1 :: st, SH, σ)) ∧
  (∀ (v0 : Option Value) (v1 : Option Value) (v2 : Option Value) (v3 : Option Value) (v4 : Option Value) (v5 : Option Value) (v6 : Option Value) (v7 : Option Value) (v8 : Option Value) (v9 : Option Value) (v10 : Option Value) (st : List Value) (σ : ma_H), ma_rn ro d 123 (403, [v0, v1, v2, v3, v4, v5, v6, v7, v8, v9, v10], st, SH, σ) = ma_rn ro d 123 (406, [v0, v1, v2, v3, v4, v5, v6, v7, v8, v9, v10], .int ((-200)) :: st, SH, σ)) ∧
  (∀ (v0 : Option Value) (v1 : Option Value) (v2 : Option Value) (v3 : Option Value) (v4 : Option Value) (v5 : Option Value) (v6 : Option Value) (v7 : Option Value) (v8 : Option Value) (v9 : Option Value) (v10 : Option Value) (x1 : Int32) (x2 : Int32) (st : List Value) (σ : ma_H), ma_rn ro d 123 (406, [v0, v1, v2, v3, v4, v5, v6, v7, v8, v9, v10], .int x1 :: .int x2 :: st, SH, σ) = if x1 < x2 then ma_rn ro d 123 (418, [v0, v1, v2, v3, v4, v5, v6, v7, v8, v9, v10], st, SH, σ) else ma_rn ro d 123 (409, [v0, v1, v2, v3, v4, v5, v6, v7, v8, v9, v10], st, SH, σ)) ∧
  (∀ (v0 : Option Value) (v1 : Option Value) (v2 : Option Value) (v3 : Option Value) (v4 : Option Value) (v5 : Option Value) (v6 : Option Value) (v7 : Option Value) (v8 : Option Value) (v9 : Option Value) (v10 : Option Value) (st : List Value) (σ : ma_H), ma_rn ro d 123 (409, [v0, v1, v2, v3, v4, v5, v6, v7, v8, v9, v10], st, SH, σ) = ma_rn ro d 123 (412, [v0, v1, v2, v3, v4, v5, v6, v7, v8, v9, v10], .int ((-200)) :: st, SH, σ)) ∧
  (∀ (v0 : Option Value) (v1 : Option Value) (v2 : Option Value) (v3 : Option Value) (v4 : Option Value) (v5 : Option Value) (v6 : Option Value) (v8 : Option Value) (v9 : Option Value) (v10 : Option Value) (x1 : Int32) (st : List Value) (σ : ma_H), ma_rn ro d 123 (412, [v0, v1, v2, v3, v4, v5, v6, some (.int x1), v8, v9, v10], st, SH, σ) = ma_rn ro d 123 (414, [v0, v1, v2, v3, v4, v5, v6, some (.int x1), v8, v9, v10], .int x1 :: st, SH, σ)) ∧
  (∀ (v0 : Option Value) (v1 : Option Value) (v2 : Option Value) (v3 : Option Value) (v4 : Option Value) (v5 : Option Value) (v6 : Option Value) (v7 : Option Value) (v8 : Option Value) (v9 : Option Value) (v10 : Option Value) (x1 : Int32) (x2 : Int32) (st : List Value) (σ : ma_H), ma_rn ro d 123 (414, [v0, v1, v2, v3, v4, v5, v6, v7, v8, v9, v10], .int x1 :: .int x2 :: st, SH, σ) = ma_rn ro d 123 (415, [v0, v1, v2, v3, v4, v5, v6, v7, v8, v9, v10], .int (x2 - x1) :: st, SH, σ)) ∧
  (∀ (v0 : Option Value) (v1 : Option Value) (v2 : Option Value) (v3 : Option Value) (v4 : Option Value) (v5 : Option Value) (v6 : Option Value) (v7 : Option Value) (v8 : Option Value) (v9 : Option Value) (v10 : Option Value) (st : List Value) (σ : ma_H), ma_rn ro d 123 (415, [v0, v1, v2, v3, v4, v5, v6, v7, v8, v9, v10], st, SH, σ) = ma_rn ro d 123 (419, [v0, v1, v2, v3, v4, v5, v6, v7, v8, v9, v10], st, SH, σ)) ∧
  (∀ (v0 : Option Value) (v1 : Option Value) (v2 : Option Value) (v3 : Option Value) (v4 : Option Value) (v5 : Option Value) (v6 : Option Value) (v7 : Option Value) (v8 : Option Value) (v9 : Option Value) (v10 : Option Value) (st : List Value) (σ : ma_H), ma_rn ro d 123 (418, [v0, v1, v2, v3, v4, v5, v6, v7, v8, v9, v10], st, SH, σ) = ma_rn ro d 123 (419, [v0, v1, v2, v3, v4, v5, v6, v7, v8, v9, v10], .int (nI 0) :: st, SH, σ)) ∧
  (∀ (v0 : Option Value) (v1 : Option Value) (v2 : Option Value) (v3 : Option Value) (v4 : Option Value) (v5 : Option Value) (v6 : Option Value) (v7 : Option Value) (v8 : Option Value) (v9 : Option Value) (v10 : Option Value) (x1 : Int32) (x2 : Int32) (st : List Value) (σ : ma_H), ma_rn ro d 123 (419, [v0, v1, v2, v3, v4, v5, v6, v7, v8, v9, v10], .int x1 :: .int x2 :: st, SH, σ) = ma_rn ro d 123 (420, [v0, v1, v2, v3, v4, v5, v6, v7, v8, v9, v10], .int (x2 - x1) :: st, SH, σ)) ∧
  (∀ (v0 : Option Value) (v2 : Option Value) (v3 : Option Value) (v4 : Option Value) (v5 : Option Value) (v6 : Option Value) (v7 : Option Value) (v8 : Option Value) (v9 : Option Value) (v10 : Option Value) (x9 : Int32) (x1 : Int32) (st : List Value) (σ : ma_H), ma_rn ro d 123 (420, [v0, some (.int x9), v2, v3, v4, v5, v6, v7, v8, v9, v10], .int x1 :: st, SH, σ) = ma_rn ro d 123 (421, [v0, some (.int x9), some (.int x1), v3, v4, v5, v6, v7, v8, v9, v10], st, SH, σ)) ∧
  (∀ (v0 : Option Value) (v1 : Option Value) (v2 : Option Value) (v3 : Option Value) (v4 : Option Value) (v7 : Option Value) (v8 : Option Value) (v9 : Option Value) (v10 : Option Value) (x1 : Int32) (x9 : Int32) (st : List Value) (σ : ma_H), ma_rn ro d 123 (421, [v0, v1, v2, v3, v4, some (.int x9), some (.int x1), v7, v8, v9, v10], st, SH, σ) = ma_rn ro d 123 (424, [v0, v1, v2, v3, v4, some (.int x9), some (.int (x1 + nI 1)), v7, v8, v9, v10], st, SH, σ)) ∧
  (∀ (v0 : Option Value) (v1 : Option Value) (v2 : Option Value) (v3 : Option Value) (v4 : Option Value) (v5 : Option Value) (v6 : Option Value) (v7 : Option Value) (v8 : Option Value) (v9 : Option Value) (v10 : Option Value) (st : List Value) (σ : ma_H), ma_rn ro d 123 (424, [v0, v1, v2, v3, v4, v5, v6, v7, v8, v9, v10], st, SH, σ) = ma_rn ro d 123 (121, [v0, v1, v2, v3, v4, v5, v6, v7, v8, v9, v10], st, SH, σ)) ∧
  (∀ (v0 : Option Value) (v1 : Option Value) (v3 : Option Value) (v4 : Option Value) (v5 : Option Value) (v6 : Option Value) (v7 : Option Value) (v8 : Option Value) (v9 : Option Value) (v10 : Option Value) (x1 : Int32) (st : List Value) (σ : ma_H), ma_rn ro d 123 (427, [v0, v1, some (.int x1), v3, v4, v5, v6, v7, v8, v9, v10], st, SH, σ) = ma_rn ro d 123 (428, [v0, v1, some (.int x1), v3, v4, v5, v6, v7, v8, v9, v10], .int x1 :: st, SH, σ)) ∧
  (∀ (v0 : Option Value) (v1 : Option Value) (v2 : Option Value) (v3 : Option Value) (v4 : Option Value) (v5 : Option Value) (v6 : Option Value) (v7 : Option Value) (v8 : Option Value) (v9 : Option Value) (v10 : Option Value) (x1 : Int32) (σ : ma_H), ma_rn ro d 123 (428, [v0, v1, v2, v3, v4, v5, v6, v7, v8, v9, v10], [.int x1], SH, σ) = some (some (.int x1), SH, σ)) := ⟨fun v1 v2 v3 v4 v5 v6 v7 v8 v9 v10 a1 st σ => q_go e123_0 rfl rfl,
  fun v0 v1 v2 v3 v4 v5 v6 v7 v8 v9 v10 a1 st σ hc => q_getA e123_1 o_123 f_8_21 (by decide) hc,
  fun v0 v1 v2 v3 v4 v5 v6 v7 v8 v9 v10 st σ => q_iconst e123_4 (by decide),
  fun v0 v2 v3 v4 v5 v6 v7 v8 v9 v10 x1 st σ => q_go e123_5 rfl rfl,
  fun v0 v1 v2 v3 v4 v5 v6 v7 v8 v9 v10 x1 k a3 st σ hk => q_iast e123_6 hk,
  fun v1 v2 v3 v4 v5 v6 v7 v8 v9 v10 a1 st σ => q_go e123_7 rfl rfl,
  fun v0 v1 v2 v3 v4 v5 v6 v7 v8 v9 v10 a1 st σ hc => q_getA e123_8 o_123 f_8_21 (by decide) hc,
  fun v0 v1 v2 v3 v4 v5 v6 v7 v8 v9 v10 st σ => q_iconst e123_11 (by decide),
  fun v1 v2 v3 v4 v5 v6 v7 v8 v9 v10 a1 st σ => q_go e123_12 rfl rfl,
  fun v0 v1 v2 v3 v4 v5 v6 v7 v8 v9 v10 a1 st σ hc => q_getA e123_13 o_123 f_8_9 (by decide) hc,
  fun v0 v1 v2 v3 v4 v5 v6 v7 v8 v9 v10 st σ => q_bipush e123_16 (by decide),
  fun v0 v2 v3 v4 v5 v6 v7 v8 v9 v10 x1 st σ => q_go e123_18 rfl rfl,
  fun v0 v1 v2 v3 v4 v5 v6 v7 v8 v9 v10 x1 x2 st σ => q_go e123_19 rfl rfl,
  fun v0 v1 v2 v3 v4 v5 v6 v7 v8 v9 v10 k a2 st σ hk => q_iald e123_20 hk,
  fun v0 v1 v2 v3 v4 v5 v6 v7 v8 v9 v10 x1 k a3 st σ hk => q_iast e123_21 hk,
  fun v1 v2 v3 v4 v5 v6 v7 v8 v9 v10 a1 st σ => q_go e123_22 rfl rfl,
  fun v0 v1 v2 v3 v4 v5 v6 v7 v8 v9 v10 a1 st σ hc => q_getA e123_23 o_123 f_8_21 (by decide) hc,
  fun v0 v1 v2 v3 v4 v5 v6 v7 v8 v9 v10 st σ => q_iconst e123_26 (by decide),
  fun v1 v2 v3 v4 v5 v6 v7 v8 v9 v10 a1 st σ => q_go e123_27 rfl rfl,
  fun v0 v1 v2 v3 v4 v5 v6 v7 v8 v9 v10 a1 st σ hc => q_getA e123_28 o_123 f_8_9 (by decide) hc,
  fun v0 v1 v2 v3 v4 v5 v6 v7 v8 v9 v10 st σ => q_bipush e123_31 (by decide),
  fun v0 v2 v3 v4 v5 v6 v7 v8 v9 v10 x1 st σ => q_go e123_33 rfl rfl,
  fun v0 v1 v2 v3 v4 v5 v6 v7 v8 v9 v10 x1 x2 st σ => q_go e123_34 rfl rfl,
  fun v0 v1 v2 v3 v4 v5 v6 v7 v8 v9 v10 k a2 st σ hk => q_iald e123_35 hk,
  fun v0 v1 v2 v3 v4 v5 v6 v7 v8 v9 v10 x1 k a3 st σ hk => q_iast e123_36 hk,
  fun v1 v2 v3 v4 v5 v6 v7 v8 v9 v10 a1 st σ => q_go e123_37 rfl rfl,
  fun v0 v1 v2 v3 v4 v5 v6 v7 v8 v9 v10 a1 st σ hc => q_getA e123_38 o_123 f_8_21 (by decide) hc,
  fun v0 v1 v2 v3 v4 v5 v6 v7 v8 v9 v10 st σ => q_iconst e123_41 (by decide),
  fun v1 v2 v3 v4 v5 v6 v7 v8 v9 v10 a1 st σ => q_go e123_42 rfl rfl,
  fun v0 v1 v2 v3 v4 v5 v6 v7 v8 v9 v10 a1 st σ hc => q_getA e123_43 o_123 f_8_9 (by decide) hc,
  fun v0 v1 v2 v3 v4 v5 v6 v7 v8 v9 v10 st σ => q_bipush e123_46 (by decide),
  fun v0 v2 v3 v4 v5 v6 v7 v8 v9 v10 x1 st σ => q_go e123_48 rfl rfl,
  fun v0 v1 v2 v3 v4 v5 v6 v7 v8 v9 v10 x1 x2 st σ => q_go e123_49 rfl rfl,
  fun v0 v1 v2 v3 v4 v5 v6 v7 v8 v9 v10 k a2 st σ hk => q_iald e123_50 hk,
  fun v0 v1 v2 v3 v4 v5 v6 v7 v8 v9 v10 st σ => q_bipush e123_51 (by decide),
  fun v0 v1 v2 v3 v4 v5 v6 v7 v8 v9 v10 x1 x2 st σ hy => q_idiv e123_53 hy,
  fun v0 v1 v2 v3 v4 v5 v6 v7 v8 v9 v10 x1 k a3 st σ hk => q_iast e123_54 hk,
  fun v1 v2 v3 v4 v5 v6 v7 v8 v9 v10 a1 st σ => q_go e123_55 rfl rfl,
  fun v0 v1 v2 v3 v4 v5 v6 v7 v8 v9 v10 a1 st σ hc => q_getA e123_56 o_123 f_8_21 (by decide) hc,
  fun v0 v1 v2 v3 v4 v5 v6 v7 v8 v9 v10 st σ => q_iconst e123_59 (by decide),
  fun v1 v2 v3 v4 v5 v6 v7 v8 v9 v10 a1 st σ => q_go e123_60 rfl rfl,
  fun v0 v1 v2 v3 v4 v5 v6 v7 v8 v9 v10 a1 st σ hc => q_getA e123_61 o_123 f_8_9 (by decide) hc,
  fun v0 v1 v2 v3 v4 v5 v6 v7 v8 v9 v10 st σ => q_bipush e123_64 (by decide),
  fun v0 v2 v3 v4 v5 v6 v7 v8 v9 v10 x1 st σ => q_go e123_66 rfl rfl,
  fun v0 v1 v2 v3 v4 v5 v6 v7 v8 v9 v10 x1 x2 st σ => q_go e123_67 rfl rfl,
  fun v0 v1 v2 v3 v4 v5 v6 v7 v8 v9 v10 k a2 st σ hk => q_iald e123_68 hk,
  fun v0 v1 v2 v3 v4 v5 v6 v7 v8 v9 v10 x1 k a3 st σ hk => q_iast e123_69 hk,
  fun v1 v2 v3 v4 v5 v6 v7 v8 v9 v10 a1 st σ => q_go e123_70 rfl rfl,
  fun v0 v1 v2 v3 v4 v5 v6 v7 v8 v9 v10 a1 st σ hc => q_getA e123_71 o_123 f_8_21 (by decide) hc,
  fun v0 v1 v2 v3 v4 v5 v6 v7 v8 v9 v10 st σ => q_iconst e123_74 (by decide),
  fun v1 v2 v3 v4 v5 v6 v7 v8 v9 v10 a1 st σ => q_go e123_75 rfl rfl,
  fun v0 v1 v2 v3 v4 v5 v6 v7 v8 v9 v10 a1 st σ hc => q_getA e123_76 o_123 f_8_9 (by decide) hc,
  fun v0 v1 v2 v3 v4 v5 v6 v7 v8 v9 v10 st σ => q_iconst e123_79 (by decide),
  fun v0 v1 v2 v3 v4 v5 v6 v7 v8 v9 v10 k a2 st σ hk => q_iald e123_80 hk,
  fun v0 v1 v2 v3 v4 v5 v6 v7 v8 v9 v10 st σ => q_bipush e123_81 (by decide),
  fun v0 v1 v2 v3 v4 v5 v6 v7 v8 v9 v10 x1 x2 st σ hy => q_irem e123_83 hy,
  fun v0 v1 v2 v3 v4 v5 v6 v7 v8 v9 v10 x1 k a3 st σ hk => q_iast e123_84 hk,
  fun v0 v1 v2 v3 v4 v5 v6 v7 v8 v9 v10 st σ => q_bipush e123_85 (by decide),
  fun v0 v2 v3 v4 v5 v6 v7 v8 v9 v10 x9 x1 st σ => q_go e123_87 rfl rfl,
  fun v1 v2 v3 v4 v5 v6 v7 v8 v9 v10 a1 st σ => q_go e123_88 rfl rfl,
  fun v0 v1 v2 v3 v4 v5 v6 v7 v8 v9 v10 st σ => q_sipush e123_89 (by decide),
  fun v0 v1 v2 v3 v4 v5 v6 v7 v8 v9 v10 st σ => q_iconst e123_92 (by decide),
  fun v0 v1 v2 v3 v4 v5 v6 v7 v8 v9 v10 x1 x2 a0 σ hc => q_invV (as := [.int x1, .int x2]) (rest := []) e123_93 o_123 bn_8_118 c_8_118 m_122 (by decide) rfl rfl (Nat.le_of_ble_eq_true rfl) (Nat.le_of_ble_eq_true rfl) hc,
  fun v0 v1 v3 v4 v5 v6 v7 v8 v9 v10 x9 x1 st σ => q_go e123_96 rfl rfl,
  fun v0 v1 v2 v3 v4 v5 v6 v7 v8 v9 v10 st σ => q_sipush e123_97 (by decide),
  fun v0 v1 v2 v3 v4 v5 v6 v7 v8 v9 v10 st σ => q_sipush e123_100 (by decide),
  fun v1 v2 v3 v4 v5 v6 v7 v8 v9 v10 a1 st σ => q_go e123_103 rfl rfl,
  fun v0 v1 v2 v3 v4 v5 v6 v7 v8 v9 v10 a1 st σ hc => q_getA e123_104 o_123 f_8_9 (by decide) hc,
  fun v0 v1 v2 v3 v4 v5 v6 v7 v8 v9 v10 st σ => q_bipush e123_107 (by decide),
  fun v0 v1 v2 v3 v4 v5 v6 v7 v8 v9 v10 k a2 st σ hk => q_iald e123_109 hk,
  fun v0 v1 v2 v3 v4 v5 v6 v7 v8 v9 v10 x1 x2 st σ => q_go e123_110 rfl rfl,
  fun v0 v1 v2 v3 v4 v5 v6 v7 v8 v9 v10 x1 x2 st σ => q_go e123_111 rfl rfl,
  fun v0 v1 v2 v4 v5 v6 v7 v8 v9 v10 x9 x1 st σ => q_go e123_112 rfl rfl,
  fun v0 v1 v2 v3 v4 v5 v6 v7 v8 v9 v10 st σ => q_iconst e123_114 (by decide),
  fun v0 v1 v2 v3 v5 v6 v7 v8 v9 v10 x9 x1 st σ => q_go e123_115 rfl rfl,
  fun v0 v1 v2 v3 v5 v6 v7 v8 v9 v10 x1 st σ => q_go e123_117 rfl rfl,
  fun v0 v1 v2 v3 v4 v6 v7 v8 v9 v10 x9 x1 st σ => q_go e123_119 rfl rfl,
  fun v0 v1 v2 v3 v5 v6 v7 v8 v9 v10 x1 st σ => q_go e123_123 rfl rfl,
  fun v0 v1 v2 v4 v5 v6 v7 v8 v9 v10 x1 st σ => q_go e123_125 rfl rfl,
  fun v0 v1 v2 v3 v4 v5 v6 v7 v8 v9 v10 x1 x2 st σ => q_go e123_126 rfl rfl,
  fun v0 v1 v2 v3 v4 v5 v6 v7 v8 v9 v10 x1 x2 st σ => (q_cmp e123_127 rfl).trans q_nlt,
  fun v1 v2 v3 v4 v5 v6 v7 v8 v9 v10 a1 st σ => q_go e123_130 rfl rfl,
  fun v0 v1 v2 v3 v4 v5 v6 v7 v8 v9 v10 a1 st σ hc => q_getA e123_131 o_123 f_8_9 (by decide) hc,
  fun v0 v1 v2 v3 v4 v5 v7 v8 v9 v10 x1 st σ => q_go e123_134 rfl rfl,
  fun v0 v1 v2 v3 v4 v5 v6 v7 v8 v9 v10 k a2 st σ hk => q_iald e123_136 hk,
  fun v0 v1 v2 v3 v4 v5 v7 v8 v9 v10 x9 x1 st σ => q_go e123_137 rfl rfl,
  fun v0 v1 v2 v3 v4 v5 v6 v8 v9 v10 x1 st σ => q_go e123_139 rfl rfl,
  fun v0 v1 v2 v3 v4 v5 v6 v7 v8 v9 v10 x1 st σ => (q_if e123_141 rfl).trans q_lt,
  fun v1 v2 v3 v4 v5 v6 v7 v8 v9 v10 a1 st σ => q_go e123_144 rfl rfl,
  fun v0 v1 v2 v3 v4 v5 v6 v7 v8 v9 v10 a1 st σ hc => q_getA e123_145 o_123 f_8_21 (by decide) hc,
  fun v0 v1 v2 v3 v4 v5 v6 v8 v9 v10 x1 st σ => q_go e123_148 rfl rfl,
  fun v0 v1 v2 v3 v4 v5 v6 v7 v8 v9 v10 st σ => q_bipush e123_150 (by decide),
  fun v0 v1 v2 v3 v4 v5 v6 v7 v8 v9 v10 x1 x2 st σ hy => q_irem e123_152 hy,
  fun v0 v1 v2 v3 v4 v5 v6 v7 v8 v9 v10 k a2 st σ hk => q_iald e123_153 hk,
  fun v0 v1 v2 v3 v4 v5 v6 v8 v9 v10 x9 x1 st σ => q_go e123_154 rfl rfl,
  fun v0 v1 v2 v3 v4 v5 v6 v8 v9 v10 x1 st σ => q_go e123_156 rfl rfl,
  fun v0 v1 v2 v3 v4 v5 v6 v7 v8 v9 v10 st σ => q_bipush e123_158 (by decide),
  fun v0 v1 v2 v3 v4 v5 v6 v7 v8 v9 v10 x1 x2 st σ hy => q_idiv e123_160 hy,
  fun v0 v1 v2 v3 v4 v5 v6 v7 v8 v9 v10 st σ => q_iconst e123_161 (by decide),
  fun v0 v1 v2 v3 v4 v5 v6 v7 v8 v9 v10 x1 x2 st σ hy => q_irem e123_162 hy,
  fun v0 v1 v2 v3 v4 v5 v6 v7 v9 v10 x9 x1 st σ => q_go e123_163 rfl rfl,
  fun v0 v1 v2 v3 v4 v5 v6 v8 v9 v10 x1 st σ => q_go e123_165 rfl rfl,
  fun v0 v1 v2 v3 v4 v5 v6 v7 v8 v9 v10 st σ => q_bipush e123_167 (by decide),
  fun v0 v1 v2 v3 v4 v5 v6 v7 v8 v9 v10 x1 x2 st σ hy => q_idiv e123_169 hy,
  fun v0 v1 v2 v3 v4 v5 v6 v7 v8 v10 x9 x1 st σ => q_go e123_170 rfl rfl,
  fun v1 v2 v3 v4 v5 v6 v7 v8 v9 v10 a1 st σ => q_go e123_172 rfl rfl,
  fun v0 v1 v2 v3 v4 v5 v6 v7 v8 v9 v10 a1 st σ hc => q_getA e123_173 o_123 f_8_24 (by decide) hc,
  fun v0 v1 v2 v3 v4 v6 v7 v8 v9 v10 x1 st σ => q_go e123_176 rfl rfl,
  fun v0 v1 v2 v3 v4 v5 v6 v7 v8 v10 x1 st σ => q_go e123_178 rfl rfl,
  fun v0 v1 v2 v3 v4 v5 v6 v7 v8 v9 v10 x1 st σ => (q_if e123_180 rfl).trans q_ne,
  fun v0 v1 v2 v3 v4 v5 v6 v7 v9 v10 x1 st σ => q_go e123_183 rfl rfl,
  fun v0 v1 v2 v3 v4 v5 v6 v7 v8 v9 x1 st σ => q_go e123_185 rfl rfl,
  fun v0 v1 v2 v3 v4 v5 v6 v7 v8 v9 v10 x1 x2 st σ => (q_cmp e123_187 rfl).trans q_nlt,
  fun v0 v1 v2 v3 v4 v5 v6 v7 v8 v9 v10 st σ => q_iconst e123_190 (by decide),
  fun v0 v1 v2 v3 v4 v5 v6 v7 v8 v9 v10 st σ => q_goto e123_191 rfl,
  fun v0 v1 v2 v3 v4 v5 v6 v7 v8 v9 v10 st σ => q_iconst e123_194 (by decide),
  fun v0 v1 v2 v3 v4 v5 v6 v7 v8 v9 v10 st σ => q_goto e123_195 rfl,
  fun v0 v1 v2 v3 v4 v5 v6 v7 v8 v10 x1 st σ => q_go e123_198 rfl rfl,
  fun v0 v1 v2 v3 v4 v5 v6 v7 v8 v9 v10 st σ => q_iconst e123_200 (by decide),
  fun v0 v1 v2 v3 v4 v5 v6 v7 v8 v9 v10 x1 x2 st σ => (q_cmp e123_201 rfl).trans q_ne,
  fun v0 v1 v2 v3 v4 v5 v6 v7 v9 v10 x1 st σ => q_go e123_204 rfl rfl,
  fun v0 v1 v2 v3 v4 v5 v6 v7 v8 v9 x1 st σ => q_go e123_206 rfl rfl,
  fun v0 v1 v2 v3 v4 v5 v6 v7 v8 v9 v10 x1 x2 st σ => (q_cmp e123_208 rfl).trans q_ne,
  fun v0 v1 v2 v3 v4 v5 v6 v7 v8 v9 v10 st σ => q_iconst e123_211 (by decide),
  fun v0 v1 v2 v3 v4 v5 v6 v7 v8 v9 v10 st σ => q_goto e123_212 rfl,
  fun v0 v1 v2 v3 v4 v5 v6 v7 v8 v9 v10 st σ => q_iconst e123_215 (by decide),
  fun v0 v1 v2 v3 v4 v5 v6 v7 v8 v9 v10 st σ => q_goto e123_216 rfl,
  fun v0 v1 v2 v3 v4 v5 v6 v7 v9 v10 x1 st σ => q_go e123_219 rfl rfl,
  fun v0 v1 v2 v3 v4 v5 v6 v7 v8 v9 x1 st σ => q_go e123_221 rfl rfl,
  fun v0 v1 v2 v3 v4 v5 v6 v7 v8 v9 v10 x1 x2 st σ => (q_cmp e123_223 rfl).trans q_ngt,
  fun v0 v1 v2 v3 v4 v5 v6 v7 v8 v9 v10 st σ => q_iconst e123_226 (by decide),
  fun v0 v1 v2 v3 v4 v5 v6 v7 v8 v9 v10 st σ => q_goto e123_227 rfl,
  fun v0 v1 v2 v3 v4 v5 v6 v7 v8 v9 v10 st σ => q_iconst e123_230 (by decide),
  fun v0 v1 v2 v3 v4 v5 v6 v7 v8 v9 v10 x1 k a3 st σ hk => q_bast e123_231 hk,
  fun v0 v1 v2 v3 v6 v7 v8 v9 v10 x1 x9 st σ => q_iinc e123_232 rfl rfl (by decide),
  fun v0 v1 v2 v3 v4 v5 v6 v7 v8 v9 v10 st σ => q_goto e123_235 rfl,
  fun v0 v1 v2 v3 v4 v5 v6 v8 v9 v10 x1 st σ => q_go e123_238 rfl rfl,
  fun v0 v1 v2 v3 v4 v5 v6 v7 v8 v9 v10 st σ => q_iconst e123_240 (by decide),
  fun v0 v1 v2 v3 v4 v5 v6 v7 v8 v9 v10 x1 x2 st σ => (q_cmp e123_241 rfl).trans q_ne,
  fun v1 v2 v3 v4 v5 v6 v7 v8 v9 v10 a1 st σ => q_go e123_244 rfl rfl,
  fun v0 v1 v2 v3 v4 v5 v6 v7 v8 v9 v10 a1 st σ hc => q_getA e123_245 o_123 f_8_24 (by decide) hc,
  fun v0 v1 v2 v3 v4 v6 v7 v8 v9 v10 x1 st σ => q_go e123_248 rfl rfl,
  fun v0 v1 v2 v3 v4 v5 v6 v7 v8 v9 v10 st σ => q_iconst e123_250 (by decide),
  fun v0 v1 v2 v3 v4 v5 v6 v7 v8 v9 v10 x1 x2 st σ => q_go e123_251 rfl rfl,
  fun v1 v2 v3 v4 v5 v6 v7 v8 v9 v10 a1 st σ => q_go e123_252 rfl rfl,
  fun v0 v1 v2 v3 v4 v5 v6 v7 v8 v9 v10 a1 st σ hc => q_getA e123_253 o_123 f_8_24 (by decide) hc,
  fun v0 v1 v2 v3 v4 v6 v7 v8 v9 v10 x1 st σ => q_go e123_256 rfl rfl,
  fun v0 v1 v2 v3 v4 v5 v6 v7 v8 v9 v10 st σ => q_iconst e123_258 (by decide),
  fun v0 v1 v2 v3 v4 v5 v6 v7 v8 v9 v10 x1 x2 st σ => q_go e123_259 rfl rfl,
  fun v0 v1 v2 v3 v4 v5 v6 v7 v8 v9 v10 k a2 st σ hk => q_bald e123_260 hk,
  fun v0 v1 v2 v3 v4 v5 v6 v7 v8 v9 v10 x1 st σ => (q_if e123_261 rfl).trans q_ne,
  fun v0 v1 v2 v3 v4 v5 v6 v7 v8 v9 v10 st σ => q_iconst e123_264 (by decide),
  fun v0 v1 v2 v3 v4 v5 v6 v7 v8 v9 v10 st σ => q_goto e123_265 rfl,
  fun v0 v1 v2 v3 v4 v5 v6 v7 v8 v9 v10 st σ => q_iconst e123_268 (by decide),
  fun v0 v1 v2 v3 v4 v5 v6 v7 v8 v9 v10 x1 k a3 st σ hk => q_bast e123_269 hk,
  fun v0 v1 v2 v3 v4 v5 v6 v7 v8 v9 v10 st σ => q_goto e123_270 rfl,
  fun v0 v1 v2 v3 v4 v5 v6 v8 v9 v10 x1 st σ => q_go e123_273 rfl rfl,
  fun v0 v1 v2 v3 v4 v5 v6 v7 v8 v9 v10 st σ => q_bipush e123_275 (by decide),
  fun v0 v1 v2 v3 v4 v5 v6 v7 v8 v9 v10 x1 x2 st σ => (q_cmp e123_277 rfl).trans q_ngt,
  fun v0 v1 v2 v3 v6 v7 v8 v9 v10 x1 x9 st σ => q_iinc e123_280 rfl rfl (by decide),
  fun v1 v2 v3 v4 v5 v6 v7 v8 v9 v10 a1 st σ => q_go e123_283 rfl rfl,
  fun v0 v1 v2 v3 v4 v5 v6 v7 v8 v9 v10 a1 st σ hc => q_getA e123_284 o_123 f_8_24 (by decide) hc,
  fun v0 v1 v2 v3 v4 v6 v7 v8 v9 v10 x1 st σ => q_go e123_287 rfl rfl,
  fun v0 v1 v2 v3 v4 v5 v6 v7 v8 v9 v10 st σ => q_iconst e123_289 (by decide),
  fun v0 v1 v2 v3 v4 v5 v6 v7 v8 v9 v10 x1 x2 st σ => q_go e123_290 rfl rfl,
  fun v0 v1 v2 v3 v4 v5 v6 v8 v9 v10 x1 st σ => q_go e123_291 rfl rfl,
  fun v0 v1 v2 v3 v4 v5 v6 v7 v8 v9 v10 st σ => q_bipush e123_293 (by decide),
  fun v0 v1 v2 v3 v4 v5 v6 v7 v8 v9 v10 x1 x2 st σ => (q_cmp e123_295 rfl).trans q_ne,
  fun v1 v2 v3 v4 v5 v6 v7 v8 v9 v10 a1 st σ => q_go e123_298 rfl rfl,
  fun v0 v1 v2 v3 v4 v5 v6 v7 v8 v9 v10 a1 st σ hc => q_getA e123_299 o_123 f_8_24 (by decide) hc,
  fun v0 v1 v2 v3 v4 v6 v7 v8 v9 v10 x1 st σ => q_go e123_302 rfl rfl,
  fun v0 v1 v2 v3 v4 v5 v6 v7 v8 v9 v10 st σ => q_iconst e123_304 (by decide),
  fun v0 v1 v2 v3 v4 v5 v6 v7 v8 v9 v10 x1 x2 st σ => q_go e123_305 rfl rfl,
  fun v0 v1 v2 v3 v4 v5 v6 v7 v8 v9 v10 k a2 st σ hk => q_bald e123_306 hk,
  fun v0 v1 v2 v3 v4 v5 v6 v7 v8 v9 v10 x1 st σ => (q_if e123_307 rfl).trans q_eq,
  fun v1 v2 v3 v4 v5 v6 v7 v8 v9 v10 a1 st σ => q_go e123_310 rfl rfl,
  fun v0 v1 v2 v3 v4 v5 v6 v7 v8 v9 v10 a1 st σ hc => q_getA e123_311 o_123 f_8_24 (by decide) hc,
  fun v0 v1 v2 v3 v4 v6 v7 v8 v9 v10 x1 st σ => q_go e123_314 rfl rfl,
  fun v0 v1 v2 v3 v4 v5 v6 v7 v8 v9 v10 k a2 st σ hk => q_bald e123_316 hk,
  fun v0 v1 v2 v3 v4 v5 v6 v7 v8 v9 v10 x1 st σ => (q_if e123_317 rfl).trans q_eq,
  fun v0 v1 v2 v3 v4 v5 v6 v7 v8 v9 v10 st σ => q_iconst e123_320 (by decide),
  fun v0 v1 v2 v3 v4 v5 v6 v7 v8 v9 v10 st σ => q_goto e123_321 rfl,
  fun v0 v1 v2 v3 v4 v5 v6 v7 v8 v9 v10 st σ => q_iconst e123_324 (by decide),
  fun v0 v1 v2 v3 v4 v5 v6 v7 v8 v9 v10 st σ => q_goto e123_325 rfl,
  fun v1 v2 v3 v4 v5 v6 v7 v8 v9 v10 a1 st σ => q_go e123_328 rfl rfl,
  fun v0 v1 v2 v3 v4 v5 v6 v7 v8 v9 v10 a1 st σ hc => q_getA e123_329 o_123 f_8_24 (by decide) hc,
  fun v0 v1 v2 v3 v4 v6 v7 v8 v9 v10 x1 st σ => q_go e123_332 rfl rfl,
  fun v0 v1 v2 v3 v4 v5 v6 v7 v8 v9 v10 st σ => q_iconst e123_334 (by decide),
  fun v0 v1 v2 v3 v4 v5 v6 v7 v8 v9 v10 x1 x2 st σ => q_go e123_335 rfl rfl,
  fun v0 v1 v2 v3 v4 v5 v6 v7 v8 v9 v10 k a2 st σ hk => q_bald e123_336 hk,
  fun v0 v1 v2 v3 v4 v5 v6 v7 v8 v9 v10 x1 st σ => (q_if e123_337 rfl).trans q_ne,
  fun v1 v2 v3 v4 v5 v6 v7 v8 v9 v10 a1 st σ => q_go e123_340 rfl rfl,
  fun v0 v1 v2 v3 v4 v5 v6 v7 v8 v9 v10 a1 st σ hc => q_getA e123_341 o_123 f_8_24 (by decide) hc,
  fun v0 v1 v2 v3 v4 v6 v7 v8 v9 v10 x1 st σ => q_go e123_344 rfl rfl,
  fun v0 v1 v2 v3 v4 v5 v6 v7 v8 v9 v10 k a2 st σ hk => q_bald e123_346 hk,
  fun v0 v1 v2 v3 v4 v5 v6 v7 v8 v9 v10 x1 st σ => (q_if e123_347 rfl).trans q_eq,
  fun v0 v1 v2 v3 v4 v5 v6 v7 v8 v9 v10 st σ => q_iconst e123_350 (by decide),
  fun v0 v1 v2 v3 v4 v5 v6 v7 v8 v9 v10 st σ => q_goto e123_351 rfl,
  fun v0 v1 v2 v3 v4 v5 v6 v7 v8 v9 v10 st σ => q_iconst e123_354 (by decide),
  fun v0 v1 v2 v3 v4 v5 v6 v7 v8 v9 v10 x1 k a3 st σ hk => q_bast e123_355 hk,
  fun v0 v1 v2 v3 v4 v5 v6 v7 v8 v9 v10 st σ => q_goto e123_356 rfl,
  fun v0 v1 v2 v3 v4 v5 v6 v7 v8 v9 v10 st σ => q_iconst e123_359 (by decide),
  fun v0 v1 v2 v3 v5 v6 v7 v8 v9 v10 x9 x1 st σ => q_go e123_360 rfl rfl,
  fun v1 v2 v3 v4 v5 v6 v7 v8 v9 v10 a1 st σ => q_go e123_362 rfl rfl,
  fun v0 v1 v2 v3 v4 v5 v6 v7 v8 v9 v10 a1 st σ hc => q_getA e123_363 o_123 f_8_24 (by decide) hc,
  fun v0 v1 v2 v3 v4 v5 v6 v7 v8 v9 v10 st σ => q_iconst e123_366 (by decide),
  fun v0 v1 v2 v3 v4 v5 v6 v7 v8 v9 v10 k a2 st σ hk => q_bald e123_367 hk,
  fun v0 v1 v2 v3 v4 v5 v6 v8 v9 v10 x9 x1 st σ => q_go e123_368 rfl rfl,
  fun v0 v1 v3 v4 v5 v6 v7 v8 v9 v10 x1 st σ => q_go e123_370 rfl rfl,
  fun v0 v1 v2 v3 v4 v5 v6 v7 v9 v10 x1 st σ => q_go e123_371 rfl rfl,
  fun v0 v1 v2 v3 v4 v5 v6 v7 v8 v9 v10 x1 st σ => (q_if e123_373 rfl).trans q_eq,
  fun v0 v1 v2 v3 v4 v5 v6 v8 v9 v10 x1 st σ => q_go e123_376 rfl rfl,
  fun v0 v1 v2 v3 v4 v5 v6 v7 v8 v9 v10 st σ => q_sipush e123_378 (by decide),
  fun v0 v1 v2 v3 v4 v5 v6 v7 v8 v9 v10 x1 x2 st σ => (q_cmp e123_381 rfl).trans q_ngt,
  fun v0 v1 v2 v3 v4 v5 v6 v7 v8 v9 v10 st σ => q_bipush e123_384 (by decide),
  fun v0 v1 v2 v3 v4 v5 v6 v8 v9 v10 x1 st σ => q_go e123_386 rfl rfl,
  fun v0 v1 v2 v3 v4 v5 v6 v7 v8 v9 v10 x1 x2 st σ => q_go e123_388 rfl rfl,
  fun v0 v1 v2 v3 v4 v5 v6 v7 v8 v9 v10 st σ => q_goto e123_389 rfl,
  fun v0 v1 v2 v3 v4 v5 v6 v7 v8 v9 v10 st σ => q_iconst e123_392 (by decide),
  fun v0 v1 v2 v3 v4 v5 v6 v7 v8 v9 v10 x1 x2 st σ => q_go e123_393 rfl rfl,
  fun v0 v2 v3 v4 v5 v6 v7 v8 v9 v10 x9 x1 st σ => q_go e123_394 rfl rfl,
  fun v0 v1 v3 v4 v5 v6 v7 v8 v9 v10 x1 st σ => q_go e123_395 rfl rfl,
  fun v0 v1 v2 v3 v4 v5 v6 v7 v9 v10 x1 st σ => q_go e123_396 rfl rfl,
  fun v0 v1 v2 v3 v4 v5 v6 v7 v8 v9 v10 x1 st σ => (q_if e123_398 rfl).trans q_eq,
  fun v0 v1 v2 v3 v4 v5 v6 v8 v9 v10 x1 st σ => q_go e123_401 rfl rfl,
  fun v0 v1 v2 v3 v4 v5 v6 v7 v8 v9 v10 st σ => q_sipush e123_403 (by decide),
  fun v0 v1 v2 v3 v4 v5 v6 v7 v8 v9 v10 x1 x2 st σ => (q_cmp e123_406 rfl).trans q_gt,
  fun v0 v1 v2 v3 v4 v5 v6 v7 v8 v9 v10 st σ => q_sipush e123_409 (by decide),
  fun v0 v1 v2 v3 v4 v5 v6 v8 v9 v10 x1 st σ => q_go e123_412 rfl rfl,
  fun v0 v1 v2 v3 v4 v5 v6 v7 v8 v9 v10 x1 x2 st σ => q_go e123_414 rfl rfl,
  fun v0 v1 v2 v3 v4 v5 v6 v7 v8 v9 v10 st σ => q_goto e123_415 rfl,
  fun v0 v1 v2 v3 v4 v5 v6 v7 v8 v9 v10 st σ => q_iconst e123_418 (by decide),
  fun v0 v1 v2 v3 v4 v5 v6 v7 v8 v9 v10 x1 x2 st σ => q_go e123_419 rfl rfl,
  fun v0 v2 v3 v4 v5 v6 v7 v8 v9 v10 x9 x1 st σ => q_go e123_420 rfl rfl,
  fun v0 v1 v2 v3 v4 v7 v8 v9 v10 x1 x9 st σ => q_iinc e123_421 rfl rfl (by decide),
  fun v0 v1 v2 v3 v4 v5 v6 v7 v8 v9 v10 st σ => q_goto e123_424 rfl,
  fun v0 v1 v3 v4 v5 v6 v7 v8 v9 v10 x1 st σ => q_go e123_427 rfl rfl,
  fun v0 v1 v2 v3 v4 v5 v6 v7 v8 v9 v10 x1 σ => q_iret e123_428 r_123⟩
theorem E123 {ro : ma_RO} {d : Nat} (a0 : Nat) (x1 : Int32) (sh : List ma_Sh) (σ : ma_H) : ma_ev ro d 123 [.ref a0, .int x1] sh σ = ma_rn ro d 123 (0, [some (.ref a0), some (.int x1), none, none, none, none, none, none, none, none, none], [], sh, σ) := q_ent x_123 rfl
theorem e124_0 : decode (ma_cd 124) 0 = .ok (.aload_n 0, 1) := (congrArg (fun b => decode b 0) cd_124).trans dX8_careOf_0
theorem e124_1 : decode (ma_cd 124) 1 = .ok (.iload_n 1, 1) := (congrArg (fun b => decode b 1) cd_124).trans dX8_careOf_1
theorem e124_2 : decode (ma_cd 124) 2 = .ok (.invokevirtual 122, 3) := (congrArg (fun b => decode b 2) cd_124).trans dX8_careOf_2
theorem e124_5 : decode (ma_cd 124) 5 = .ok (.istore_n 2, 1) := (congrArg (fun b => decode b 5) cd_124).trans dX8_careOf_5
theorem e124_6 : decode (ma_cd 124) 6 = .ok (.iload_n 2, 1) := (congrArg (fun b => decode b 6) cd_124).trans dX8_careOf_6
theorem e124_7 : decode (ma_cd 124) 7 = .ok (.aload_n 0, 1) := (congrArg (fun b => decode b 7) cd_124).trans dX8_careOf_7
theorem e124_8 : decode (ma_cd 124) 8 = .ok (.getfield 9, 3) := (congrArg (fun b => decode b 8) cd_124).trans dX8_careOf_8
theorem e124_11 : decode (ma_cd 124) 11 = .ok (.bipush 15, 2) := (congrArg (fun b => decode b 11) cd_124).trans dX8_careOf_11
theorem e124_13 : decode (ma_cd 124) 13 = .ok (.iload_n 1, 1) := (congrArg (fun b => decode b 13) cd_124).trans dX8_careOf_13
theorem e124_14 : decode (ma_cd 124) 14 = .ok (.iadd, 1) := (congrArg (fun b => decode b 14) cd_124).trans dX8_careOf_14
theorem e124_15 : decode (ma_cd 124) 15 = .ok (.iaload, 1) := (congrArg (fun b => decode b 15) cd_124).trans dX8_careOf_15
theorem e124_16 : decode (ma_cd 124) 16 = .ok (.bipush 10, 2) := (congrArg (fun b => decode b 16) cd_124).trans dX8_careOf_16
theorem e124_18 : decode (ma_cd 124) 18 = .ok (.idiv, 1) := (congrArg (fun b => decode b 18) cd_124).trans dX8_careOf_18
theorem e124_19 : decode (ma_cd 124) 19 = .ok (.isub, 1) := (congrArg (fun b => decode b 19) cd_124).trans dX8_careOf_19
theorem e124_20 : decode (ma_cd 124) 20 = .ok (.istore_n 3, 1) := (congrArg (fun b => decode b 20) cd_124).trans dX8_careOf_20
theorem e124_21 : decode (ma_cd 124) 21 = .ok (.aload_n 0, 1) := (congrArg (fun b => decode b 21) cd_124).trans dX8_careOf_21
theorem e124_22 : decode (ma_cd 124) 22 = .ok (.getfield 9, 3) := (congrArg (fun b => decode b 22) cd_124).trans dX8_careOf_22
theorem e124_25 : decode (ma_cd 124) 25 = .ok (.bipush 40, 2) := (congrArg (fun b => decode b 25) cd_124).trans dX8_careOf_25
theorem e124_27 : decode (ma_cd 124) 27 = .ok (.iload_n 1, 1) := (congrArg (fun b => decode b 27) cd_124).trans dX8_careOf_27
theorem e124_28 : decode (ma_cd 124) 28 = .ok (.iadd, 1) := (congrArg (fun b => decode b 28) cd_124).trans dX8_careOf_28
theorem e124_29 : decode (ma_cd 124) 29 = .ok (.iaload, 1) := (congrArg (fun b => decode b 29) cd_124).trans dX8_careOf_29
theorem e124_30 : decode (ma_cd 124) 30 = .ok (.tableswitch 123 1 6 #[38, 50, 54, 56, 86, 100], 38) := (congrArg (fun b => decode b 30) cd_124).trans dX8_careOf_30
theorem e124_68 : decode (ma_cd 124) 68 = .ok (.iload_n 2, 1) := (congrArg (fun b => decode b 68) cd_124).trans dX8_careOf_68
theorem e124_69 : decode (ma_cd 124) 69 = .ok (.aload_n 0, 1) := (congrArg (fun b => decode b 69) cd_124).trans dX8_careOf_69
theorem e124_70 : decode (ma_cd 124) 70 = .ok (.getfield 9, 3) := (congrArg (fun b => decode b 70) cd_124).trans dX8_careOf_70
theorem e124_73 : decode (ma_cd 124) 73 = .ok (.bipush 46, 2) := (congrArg (fun b => decode b 73) cd_124).trans dX8_careOf_73
theorem e124_75 : decode (ma_cd 124) 75 = .ok (.iload_n 1, 1) := (congrArg (fun b => decode b 75) cd_124).trans dX8_careOf_75
theorem e124_76 : decode (ma_cd 124) 76 = .ok (.iadd, 1) := (congrArg (fun b => decode b 76) cd_124).trans dX8_careOf_76
theorem e124_77 : decode (ma_cd 124) 77 = .ok (.iaload, 1) := (congrArg (fun b => decode b 77) cd_124).trans dX8_careOf_77
theorem e124_78 : decode (ma_cd 124) 78 = .ok (.iadd, 1) := (congrArg (fun b => decode b 78) cd_124).trans dX8_careOf_78
theorem e124_79 : decode (ma_cd 124) 79 = .ok (.ireturn, 1) := (congrArg (fun b => decode b 79) cd_124).trans dX8_careOf_79
theorem e124_80 : decode (ma_cd 124) 80 = .ok (.iload_n 2, 1) := (congrArg (fun b => decode b 80) cd_124).trans dX8_careOf_80
theorem e124_81 : decode (ma_cd 124) 81 = .ok (.iconst 2, 1) := (congrArg (fun b => decode b 81) cd_124).trans dX8_careOf_81
theorem e124_82 : decode (ma_cd 124) 82 = .ok (.idiv, 1) := (congrArg (fun b => decode b 82) cd_124).trans dX8_careOf_82
theorem e124_83 : decode (ma_cd 124) 83 = .ok (.ireturn, 1) := (congrArg (fun b => decode b 83) cd_124).trans dX8_careOf_83
theorem e124_84 : decode (ma_cd 124) 84 = .ok (.iload_n 3, 1) := (congrArg (fun b => decode b 84) cd_124).trans dX8_careOf_84
theorem e124_85 : decode (ma_cd 124) 85 = .ok (.ireturn, 1) := (congrArg (fun b => decode b 85) cd_124).trans dX8_careOf_85
theorem e124_86 : decode (ma_cd 124) 86 = .ok (.aload_n 0, 1) := (congrArg (fun b => decode b 86) cd_124).trans dX8_careOf_86
theorem e124_87 : decode (ma_cd 124) 87 = .ok (.getfield 9, 3) := (congrArg (fun b => decode b 87) cd_124).trans dX8_careOf_87
theorem e124_90 : decode (ma_cd 124) 90 = .ok (.iconst 0, 1) := (congrArg (fun b => decode b 90) cd_124).trans dX8_careOf_90
theorem e124_91 : decode (ma_cd 124) 91 = .ok (.iaload, 1) := (congrArg (fun b => decode b 91) cd_124).trans dX8_careOf_91
theorem e124_92 : decode (ma_cd 124) 92 = .ok (.bipush 7, 2) := (congrArg (fun b => decode b 92) cd_124).trans dX8_careOf_92
theorem e124_94 : decode (ma_cd 124) 94 = .ok (.irem, 1) := (congrArg (fun b => decode b 94) cd_124).trans dX8_careOf_94
theorem e124_95 : decode (ma_cd 124) 95 = .ok (.bipush 6, 2) := (congrArg (fun b => decode b 95) cd_124).trans dX8_careOf_95
theorem e124_97 : decode (ma_cd 124) 97 = .ok (.if_icmp .ne 7, 3) := (congrArg (fun b => decode b 97) cd_124).trans dX8_careOf_97
theorem e124_100 : decode (ma_cd 124) 100 = .ok (.iconst 0, 1) := (congrArg (fun b => decode b 100) cd_124).trans dX8_careOf_100
theorem e124_101 : decode (ma_cd 124) 101 = .ok (.goto 14, 3) := (congrArg (fun b => decode b 101) cd_124).trans dX8_careOf_101
theorem e124_104 : decode (ma_cd 124) 104 = .ok (.iload_n 2, 1) := (congrArg (fun b => decode b 104) cd_124).trans dX8_careOf_104
theorem e124_105 : decode (ma_cd 124) 105 = .ok (.aload_n 0, 1) := (congrArg (fun b => decode b 105) cd_124).trans dX8_careOf_105
theorem e124_106 : decode (ma_cd 124) 106 = .ok (.getfield 9, 3) := (congrArg (fun b => decode b 106) cd_124).trans dX8_careOf_106
theorem e124_109 : decode (ma_cd 124) 109 = .ok (.bipush 46, 2) := (congrArg (fun b => decode b 109) cd_124).trans dX8_careOf_109
theorem e124_111 : decode (ma_cd 124) 111 = .ok (.iload_n 1, 1) := (congrArg (fun b => decode b 111) cd_124).trans dX8_careOf_111
theorem e124_112 : decode (ma_cd 124) 112 = .ok (.iadd, 1) := (congrArg (fun b => decode b 112) cd_124).trans dX8_careOf_112
theorem e124_113 : decode (ma_cd 124) 113 = .ok (.iaload, 1) := (congrArg (fun b => decode b 113) cd_124).trans dX8_careOf_113
theorem e124_114 : decode (ma_cd 124) 114 = .ok (.iadd, 1) := (congrArg (fun b => decode b 114) cd_124).trans dX8_careOf_114
theorem e124_115 : decode (ma_cd 124) 115 = .ok (.ireturn, 1) := (congrArg (fun b => decode b 115) cd_124).trans dX8_careOf_115
theorem e124_116 : decode (ma_cd 124) 116 = .ok (.iload_n 2, 1) := (congrArg (fun b => decode b 116) cd_124).trans dX8_careOf_116
theorem e124_117 : decode (ma_cd 124) 117 = .ok (.iconst 2, 1) := (congrArg (fun b => decode b 117) cd_124).trans dX8_careOf_117
theorem e124_118 : decode (ma_cd 124) 118 = .ok (.idiv, 1) := (congrArg (fun b => decode b 118) cd_124).trans dX8_careOf_118
theorem e124_119 : decode (ma_cd 124) 119 = .ok (.aload_n 0, 1) := (congrArg (fun b => decode b 119) cd_124).trans dX8_careOf_119
theorem e124_120 : decode (ma_cd 124) 120 = .ok (.getfield 9, 3) := (congrArg (fun b => decode b 120) cd_124).trans dX8_careOf_120
theorem e124_123 : decode (ma_cd 124) 123 = .ok (.bipush 21, 2) := (congrArg (fun b => decode b 123) cd_124).trans dX8_careOf_123
theorem e124_125 : decode (ma_cd 124) 125 = .ok (.iload_n 1, 1) := (congrArg (fun b => decode b 125) cd_124).trans dX8_careOf_125
theorem e124_126 : decode (ma_cd 124) 126 = .ok (.iadd, 1) := (congrArg (fun b => decode b 126) cd_124).trans dX8_careOf_126
theorem e124_127 : decode (ma_cd 124) 127 = .ok (.iaload, 1) := (congrArg (fun b => decode b 127) cd_124).trans dX8_careOf_127
theorem e124_128 : decode (ma_cd 124) 128 = .ok (.iadd, 1) := (congrArg (fun b => decode b 128) cd_124).trans dX8_careOf_128
theorem e124_129 : decode (ma_cd 124) 129 = .ok (.ireturn, 1) := (congrArg (fun b => decode b 129) cd_124).trans dX8_careOf_129
theorem e124_130 : decode (ma_cd 124) 130 = .ok (.iload_n 3, 1) := (congrArg (fun b => decode b 130) cd_124).trans dX8_careOf_130
theorem e124_131 : decode (ma_cd 124) 131 = .ok (.aload_n 0, 1) := (congrArg (fun b => decode b 131) cd_124).trans dX8_careOf_131
theorem e124_132 : decode (ma_cd 124) 132 = .ok (.getfield 9, 3) := (congrArg (fun b => decode b 132) cd_124).trans dX8_careOf_132
theorem e124_135 : decode (ma_cd 124) 135 = .ok (.bipush 52, 2) := (congrArg (fun b => decode b 135) cd_124).trans dX8_careOf_135
theorem e124_137 : decode (ma_cd 124) 137 = .ok (.iconst 4, 1) := (congrArg (fun b => decode b 137) cd_124).trans dX8_careOf_137
theorem e124_138 : decode (ma_cd 124) 138 = .ok (.iload_n 1, 1) := (congrArg (fun b => decode b 138) cd_124).trans dX8_careOf_138
theorem e124_139 : decode (ma_cd 124) 139 = .ok (.imul, 1) := (congrArg (fun b => decode b 139) cd_124).trans dX8_careOf_139
theorem e124_140 : decode (ma_cd 124) 140 = .ok (.iadd, 1) := (congrArg (fun b => decode b 140) cd_124).trans dX8_careOf_140
theorem e124_141 : decode (ma_cd 124) 141 = .ok (.aload_n 0, 1) := (congrArg (fun b => decode b 141) cd_124).trans dX8_careOf_141
theorem e124_142 : decode (ma_cd 124) 142 = .ok (.getfield 9, 3) := (congrArg (fun b => decode b 142) cd_124).trans dX8_careOf_142
theorem e124_145 : decode (ma_cd 124) 145 = .ok (.iconst 0, 1) := (congrArg (fun b => decode b 145) cd_124).trans dX8_careOf_145
theorem e124_146 : decode (ma_cd 124) 146 = .ok (.iaload, 1) := (congrArg (fun b => decode b 146) cd_124).trans dX8_careOf_146
theorem e124_147 : decode (ma_cd 124) 147 = .ok (.iconst 4, 1) := (congrArg (fun b => decode b 147) cd_124).trans dX8_careOf_147
theorem e124_148 : decode (ma_cd 124) 148 = .ok (.irem, 1) := (congrArg (fun b => decode b 148) cd_124).trans dX8_careOf_148
theorem e124_149 : decode (ma_cd 124) 149 = .ok (.iadd, 1) := (congrArg (fun b => decode b 149) cd_124).trans dX8_careOf_149
theorem e124_150 : decode (ma_cd 124) 150 = .ok (.iaload, 1) := (congrArg (fun b => decode b 150) cd_124).trans dX8_careOf_150
theorem e124_151 : decode (ma_cd 124) 151 = .ok (.iadd, 1) := (congrArg (fun b => decode b 151) cd_124).trans dX8_careOf_151
theorem e124_152 : decode (ma_cd 124) 152 = .ok (.ireturn, 1) := (congrArg (fun b => decode b 152) cd_124).trans dX8_careOf_152
theorem e124_153 : decode (ma_cd 124) 153 = .ok (.iload_n 2, 1) := (congrArg (fun b => decode b 153) cd_124).trans dX8_careOf_153
theorem e124_154 : decode (ma_cd 124) 154 = .ok (.ireturn, 1) := (congrArg (fun b => decode b 154) cd_124).trans dX8_careOf_154
theorem S124 {ro : ma_RO} {d : Nat} : (∀ (v1 : Option Value) (v2 : Option Value) (v3 : Option Value) (a1 : Nat) (st : List Value) (σ : ma_H), ma_rn ro d 124 (0, [some (.ref a1), v1, v2, v3], st, SH, σ) = ma_rn ro d 124 (1, [some (.ref a1), v1, v2, v3], .ref a1 :: st, SH, σ)) ∧
  (∀ (v0 : Option Value) (v2 : Option Value) (v3 : Option Value) (x1 : Int32) (st : List Value) (σ : ma_H), ma_rn ro d 124 (1, [v0, some (.int x1), v2, v3], st, SH, σ) = ma_rn ro d 124 (2, [v0, some (.int x1), v2, v3], .int x1 :: st, SH, σ)) ∧
  (∀ (v0 : Option Value) (v1 : Option Value) (v2 : Option Value) (v3 : Option Value) (x1 : Int32) (a0 : Nat) (σ : ma_H) (hc : hk_cls a0 = 8), ma_rn ro (d + 1) 124 (2, [v0, v1, v2, v3], .int x1 :: .ref a0 :: [], SH, σ) = (ma_ev ro d 123 [.ref a0, .int x1] SH σ).bind (fun q => ma_rn ro (d + 1) 124 (5, [v0, v1, v2, v3], (q.1.toList ++ []), q.2.1, q.2.2))) ∧
  (∀ (v0 : Option Value) (v2 : Option Value) (v3 : Option Value) (x9 : Int32) (x1 : Int32) (st : List Value) (σ : ma_H), ma_rn ro d 124 (5, [v0, some (.int x9), v2, v3], .int x1 :: st, SH, σ) = ma_rn ro d 124 (6, [v0, some (.int x9), some (.int x1), v3], st, SH, σ)) ∧
  (∀ (v0 : Option Value) (v1 : Option Value) (v3 : Option Value) (x1 : Int32) (st : List Value) (σ : ma_H), ma_rn ro d 124 (6, [v0, v1, some (.int x1), v3], st, SH, σ) = ma_rn ro d 124 (7, [v0, v1, some (.int x1), v3], .int x1 :: st, SH, σ)) ∧
  (∀ (v1 : Option Value) (v2 : Option Value) (v3 : Option Value) (a1 : Nat) (st : List Value) (σ : ma_H), ma_rn ro d 124 (7, [some (.ref a1), v1, v2, v3], st, SH, σ) = ma_rn ro d 124 (8, [some (.ref a1), v1, v2, v3], .ref a1 :: st, SH, σ)) ∧
  (∀ (v0 : Option Value) (v1 : Option Value) (v2 : Option Value) (v3 : Option Value) (a1 : Nat) (st : List Value) (σ : ma_H) (hc : hk_cls a1 = 8), ma_rn ro d 124 (8, [v0, v1, v2, v3], .ref a1 :: st, SH, σ) = ma_rn ro d 124 (11, [v0, v1, v2, v3], .ref (91) :: st, SH, σ)) ∧
  (∀ (v0 : Option Value) (v1 : Option Value) (v2 : Option Value) (v3 : Option Value) (st : List Value) (σ : ma_H), ma_rn ro d 124 (11, [v0, v1, v2, v3], st, SH, σ) = ma_rn ro d 124 (13, [v0, v1, v2, v3], .int (nI 15) :: st, SH, σ)) ∧
  (∀ (v0 : Option Value) (v2 : Option Value) (v3 : Option Value) (x1 : Int32) (st : List Value) (σ : ma_H), ma_rn ro d 124 (13, [v0, some (.int x1), v2, v3], st, SH, σ) = ma_rn ro d 124 (14, [v0, some (.int x1), v2, v3], .int x1 :: st, SH, σ)) ∧
  (∀ (v0 : Option Value) (v1 : Option Value) (v2 : Option Value) (v3 : Option Value) (x1 : Int32) (x2 : Int32) (st : List Value) (σ : ma_H), ma_rn ro d 124 (14, [v0, v1, v2, v3], .int x1 :: .int x2 :: st, SH, σ) = ma_rn ro d 124 (15, [v0, v1, v2, v3], .int (x2 + x1) :: st, SH, σ)) ∧
  (∀ (v0 : Option Value) (v1 : Option Value) (v2 : Option Value) (v3 : Option Value) (k : Nat) (a2 : Nat) (st : List Value) (σ : ma_H) (hk : k < hk_len a2), ma_rn ro d 124 (15, [v0, v1, v2, v3], .int (nI k) :: .ref a2 :: st, SH, σ) = ma_rn ro d 124 (16, [v0, v1, v2, v3], .int (σ a2 k) :: st, SH, σ)) ∧
  (∀ (v0 : Option Value) (v1 : Option Value) (v2 : Option Value) (v3 : Option Value) (st : List Value) (σ : ma_H), ma_rn ro d 124 (16, [v0, v1, v2, v3], st, SH, σ) = ma_rn ro d 124 (18, [v0, v1, v2, v3], .int (nI 10) :: st, SH, σ)) ∧
  (∀ (v0 : Option Value) (v1 : Option Value) (v2 : Option Value) (v3 : Option Value) (x1 : Int32) (x2 : Int32) (st : List Value) (σ : ma_H) (hy : ¬ x1 = 0), ma_rn ro d 124 (18, [v0, v1, v2, v3], .int x1 :: .int x2 :: st, SH, σ) = ma_rn ro d 124 (19, [v0, v1, v2, v3], .int (x2 / x1) :: st, SH, σ)) ∧
  (∀ (v0 : Option Value) (v1 : Option Value) (v2 : Option Value) (v3 : Option Value) (x1 : Int32) (x2 : Int32) (st : List Value) (σ : ma_H), ma_rn ro d 124 (19, [v0, v1, v2, v3], .int x1 :: .int x2 :: st, SH, σ) = ma_rn ro d 124 (20, [v0, v1, v2, v3], .int (x2 - x1) :: st, SH, σ)) ∧
  (∀ (v0 : Option Value) (v1 : Option Value) (v3 : Option Value) (x9 : Int32) (x1 : Int32) (st : List Value) (σ : ma_H), ma_rn ro d 124 (20, [v0, v1, some (.int x9), v3], .int x1 :: st, SH, σ) = ma_rn ro d 124 (21, [v0, v1, some (.int x9), some (.int x1)], st, SH, σ)) ∧
  (∀ (v1 : Option Value) (v2 : Option Value) (v3 : Option Value) (a1 : Nat) (st : List Value) (σ : ma_H), ma_rn ro d 124 (21, [some (.ref a1), v1, v2, v3], st, SH, σ) = ma_rn ro d 124 (22, [some (.ref a1), v1, v2, v3], .ref a1 :: st, SH, σ)) ∧
  (∀ (v0 : Option Value) (v1 : Option Value) (v2 : Option Value) (v3 : Option Value) (a1 : Nat) (st : List Value) (σ : ma_H) (hc : hk_cls a1 = 8), ma_rn ro d 124 (22, [v0, v1, v2, v3], .ref a1 :: st, SH, σ) = ma_rn ro d 124 (25, [v0, v1, v2, v3], .ref (91) :: st, SH, σ)) ∧
  (∀ (v0 : Option Value) (v1 : Option Value) (v2 : Option Value) (v3 : Option Value) (st : List Value) (σ : ma_H), ma_rn ro d 124 (25, [v0, v1, v2, v3], st, SH, σ) = ma_rn ro d 124 (27, [v0, v1, v2, v3], .int (nI 40) :: st, SH, σ)) ∧
  (∀ (v0 : Option Value) (v2 : Option Value) (v3 : Option Value) (x1 : Int32) (st : List Value) (σ : ma_H), ma_rn ro d 124 (27, [v0, some (.int x1), v2, v3], st, SH, σ) = ma_rn ro d 124 (28, [v0, some (.int x1), v2, v3], .int x1 :: st, SH, σ)) ∧
  (∀ (v0 : Option Value) (v1 : Option Value) (v2 : Option Value) (v3 : Option Value) (x1 : Int32) (x2 : Int32) (st : List Value) (σ : ma_H), ma_rn ro d 124 (28, [v0, v1, v2, v3], .int x1 :: .int x2 :: st, SH, σ) = ma_rn ro d 124 (29, [v0, v1, v2, v3], .int (x2 + x1) :: st, SH, σ)) ∧
  (∀ (v0 : Option Value) (v1 : Option Value) (v2 : Option Value) (v3 : Option Value) (k : Nat) (a2 : Nat) (st : List Value) (σ : ma_H) (hk : k < hk_len a2), ma_rn ro d 124 (29, [v0, v1, v2, v3], .int (nI k) :: .ref a2 :: st, SH, σ) = ma_rn ro d 124 (30, [v0, v1, v2, v3], .int (σ a2 k) :: st, SH, σ)) ∧
  (∀ (v0 : Option Value) (v1 : Option Value) (v2 : Option Value) (v3 : Option Value) (x1 : Int32) (st : List Value) (σ : ma_H), ma_rn ro d 124 (30, [v0, v1, v2, v3], .int x1 :: st, SH, σ) = if x1 = nI 1 then ma_rn ro d 124 (68, [v0, v1, v2, v3], st, SH, σ) else if x1 = nI 2 then ma_rn ro d 124 (80, [v0, v1, v2, v3], st, SH, σ) else if x1 = nI 3 then ma_rn ro d 124 (84, [v0, v1, v2, v3], st, SH, σ) else if x1 = nI 4 then ma_rn ro d 124 (86, [v0, v1, v2, v3], st, SH, σ) else if x1 = nI 5 then ma_rn ro d 124 (116, [v0, v1, v2, v3], st, SH, σ) else if x1 = nI 6 then ma_rn ro d 124 (130, [v0, v1, v2, v3], st, SH, σ) else ma_rn ro d 124 (153, [v0, v1, v2, v3], st, SH, σ)) ∧
  (∀ (v0 : Option Value) (v1 : Option Value) (v3 : Option Value) (x1 : Int32) (st : List Value) (σ : ma_H), ma_rn ro d 124 (68, [v0, v1, some (.int x1), v3], st, SH, σ) = ma_rn ro d 124 (69, [v0, v1, some (.int x1), v3], .int x1 :: st, SH, σ)) ∧
  (∀ (v1 : Option Value) (v2 : Option Value) (v3 : Option Value) (a1 : Nat) (st : List Value) (σ : ma_H), ma_rn ro d 124 (69, [some (.ref a1), v1, v2, v3], st, SH, σ) = ma_rn ro d 124 (70, [some (.ref a1), v1, v2, v3], .ref a1 :: st, SH, σ)) ∧
  (∀ (v0 : Option Value) (v1 : Option Value) (v2 : Option Value) (v3 : Option Value) (a1 : Nat) (st : List Value) (σ : ma_H) (hc : hk_cls a1 = 8), ma_rn ro d 124 (70, [v0, v1, v2, v3], .ref a1 :: st, SH, σ) = ma_rn ro d 124 (73, [v0, v1, v2, v3], .ref (91) :: st, SH, σ)) ∧
  (∀ (v0 : Option Value) (v1 : Option Value) (v2 : Option Value) (v3 : Option Value) (st : List Value) (σ : ma_H), ma_rn ro d 124 (73, [v0, v1, v2, v3], st, SH, σ) = ma_rn ro d 124 (75, [v0, v1, v2, v3], .int (nI 46) :: st, SH, σ)) ∧
  (∀ (v0 : Option Value) (v2 : Option Value) (v3 : Option Value) (x1 : Int32) (st : List Value) (σ : ma_H), ma_rn ro d 124 (75, [v0, some (.int x1), v2, v3], st, SH, σ) = ma_rn ro d 124 (76, [v0, some (.int x1), v2, v3], .int x1 :: st, SH, σ)) ∧
  (∀ (v0 : Option Value) (v1 : Option Value) (v2 : Option Value) (v3 : Option Value) (x1 : Int32) (x2 : Int32) (st : List Value) (σ : ma_H), ma_rn ro d 124 (76, [v0, v1, v2, v3], .int x1 :: .int x2 :: st, SH, σ) = ma_rn ro d 124 (77, [v0, v1, v2, v3], .int (x2 + x1) :: st, SH, σ)) ∧
  (∀ (v0 : Option Value) (v1 : Option Value) (v2 : Option Value) (v3 : Option Value) (k : Nat) (a2 : Nat) (st : List Value) (σ : ma_H) (hk : k < hk_len a2), ma_rn ro d 124 (77, [v0, v1, v2, v3], .int (nI k) :: .ref a2 :: st, SH, σ) = ma_rn ro d 124 (78, [v0, v1, v2, v3], .int (σ a2 k) :: st, SH, σ)) ∧
  (∀ (v0 : Option Value) (v1 : Option Value) (v2 : Option Value) (v3 : Option Value) (x1 : Int32) (x2 : Int32) (st : List Value) (σ : ma_H), ma_rn ro d 124 (78, [v0, v1, v2, v3], .int x1 :: .int x2 :: st, SH, σ) = ma_rn ro d 124 (79, [v0, v1, v2, v3], .int (x2 + x1) :: st, SH, σ)) ∧
  (∀ (v0 : Option Value) (v1 : Option Value) (v2 : Option Value) (v3 : Option Value) (x1 : Int32) (σ : ma_H), ma_rn ro d 124 (79, [v0, v1, v2, v3], [.int x1], SH, σ) = some (some (.int x1), SH, σ)) ∧
  (∀ (v0 : Option Value) (v1 : Option Value) (v3 : Option Value) (x1 : Int32) (st : List Value) (σ : ma_H), ma_rn ro d 124 (80, [v0, v1, some (.int x1), v3], st, SH, σ) = ma_rn ro d 124 (81, [v0, v1, some (.int x1), v3], .int x1 :: st, SH, σ)) ∧
  (∀ (v0 : Option Value) (v1 : Option Value) (v2 : Option Value) (v3 : Option Value) (st : List Value) (σ : ma_H), ma_rn ro d 124 (81, [v0, v1, v2, v3], st, SH, σ) = ma_rn ro d 124 (82, [v0, v1, v2, v3], .int (nI 2) :: st, SH, σ)) ∧
  (∀ (v0 : Option Value) (v1 : Option Value) (v2 : Option Value) (v3 : Option Value) (x1 : Int32) (x2 : Int32) (st : List Value) (σ : ma_H) (hy : ¬ x1 = 0), ma_rn ro d 124 (82, [v0, v1, v2, v3], .int x1 :: .int x2 :: st, SH, σ) = ma_rn ro d 124 (83, [v0, v1, v2, v3], .int (x2 / x1) :: st, SH, σ)) ∧
  (∀ (v0 : Option Value) (v1 : Option Value) (v2 : Option Value) (v3 : Option Value) (x1 : Int32) (σ : ma_H), ma_rn ro d 124 (83, [v0, v1, v2, v3], [.int x1], SH, σ) = some (some (.int x1), SH, σ)) ∧
  (∀ (v0 : Option Value) (v1 : Option Value) (v2 : Option Value) (x1 : Int32) (st : List Value) (σ : ma_H), ma_rn ro d 124 (84, [v0, v1, v2, some (.int x1)], st, SH, σ) = ma_rn ro d 124 (85, [v0, v1, v2, some (.int x1)], .int x1 :: st, SH, σ)) ∧
  (∀ (v0 : Option Value) (v1 : Option Value) (v2 : Option Value) (v3 : Option Value) (x1 : Int32) (σ : ma_H), ma_rn ro d 124 (85, [v0, v1, v2, v3], [.int x1], SH, σ) = some (some (.int x1), SH, σ)) ∧
  (∀ (v1 : Option Value) (v2 : Option Value) (v3 : Option Value) (a1 : Nat) (st : List Value) (σ : ma_H), ma_rn ro d 124 (86, [some (.ref a1), v1, v2, v3], st, SH, σ) = ma_rn ro d 124 (87, [some (.ref a1), v1, v2, v3], .ref a1 :: st, SH, σ)) ∧
  (∀ (v0 : Option Value) (v1 : Option Value) (v2 : Option Value) (v3 : Option Value) (a1 : Nat) (st : List Value) (σ : ma_H) (hc : hk_cls a1 = 8), ma_rn ro d 124 (87, [v0, v1, v2, v3], .ref a1 :: st, SH, σ) = ma_rn ro d 124 (90, [v0, v1, v2, v3], .ref (91) :: st, SH, σ)) ∧
  (∀ (v0 : Option Value) (v1 : Option Value) (v2 : Option Value) (v3 : Option Value) (st : List Value) (σ : ma_H), ma_rn ro d 124 (90, [v0, v1, v2, v3], st, SH, σ) = ma_rn ro d 124 (91, [v0, v1, v2, v3], .int (nI 0) :: st, SH, σ)) ∧
  (∀ (v0 : Option Value) (v1 : Option Value) (v2 : Option Value) (v3 : Option Value) (k : Nat) (a2 : Nat) (st : List Value) (σ : ma_H) (hk : k < hk_len a2), ma_rn ro d 124 (91, [v0, v1, v2, v3], .int (nI k) :: .ref a2 :: st, SH, σ) = ma_rn ro d 124 (92, [v0, v1, v2, v3], .int (σ a2 k) :: st, SH, σ)) ∧
  (∀ (v0 : Option Value) (v1 : Option Value) (v2 : Option Value) (v3 : Option Value) (st : List Value) (σ : ma_H), ma_rn ro d 124 (92, [v0, v1, v2, v3], st, SH, σ) = ma_rn ro d 124 (94, [v0, v1, v2, v3], .int (nI 7) :: st, SH, σ)) ∧
  (∀ (v0 : Option Value) (v1 : Option Value) (v2 : Option Value) (v3 : Option Value) (x1 : Int32) (x2 : Int32) (st : List Value) (σ : ma_H) (hy : ¬ x1 = 0), ma_rn ro d 124 (94, [v0, v1, v2, v3], .int x1 :: .int x2 :: st, SH, σ) = ma_rn ro d 124 (95, [v0, v1, v2, v3], .int (x2 - x2 / x1 * x1) :: st, SH, σ)) ∧
  (∀ (v0 : Option Value) (v1 : Option Value) (v2 : Option Value) (v3 : Option Value) (st : List Value) (σ : ma_H), ma_rn ro d 124 (95, [v0, v1, v2, v3], st, SH, σ) = ma_rn ro d 124 (97, [v0, v1, v2, v3], .int (nI 6) :: st, SH, σ)) ∧
  (∀ (v0 : Option Value) (v1 : Option Value) (v2 : Option Value) (v3 : Option Value) (x1 : Int32) (x2 : Int32) (st : List Value) (σ : ma_H), ma_rn ro d 124 (97, [v0, v1, v2, v3], .int x1 :: .int x2 :: st, SH, σ) = if x2 = x1 then ma_rn ro d 124 (100, [v0, v1, v2, v3], st, SH, σ) else ma_rn ro d 124 (104, [v0, v1, v2, v3], st, SH, σ)) ∧
  (∀ (v0 : Option Value) (v1 : Option Value) (v2 : Option Value) (v3 : Option Value) (st : List Value) (σ : ma_H), ma_rn ro d 124 (100, [v0, v1, v2, v3], st, SH, σ) = ma_rn ro d 124 (101, [v0, v1, v2, v3], .int (nI 0) :: st, SH, σ)) ∧
  (∀ (v0 : Option Value) (v1 : Option Value) (v2 : Option Value) (v3 : Option Value) (st : List Value) (σ : ma_H), ma_rn ro d 124 (101, [v0, v1, v2, v3], st, SH, σ) = ma_rn ro d 124 (115, [v0, v1, v2, v3], st, SH, σ)) ∧
  (∀ (v0 : Option Value) (v1 : Option Value) (v3 : Option Value) (x1 : Int32) (st : List Value) (σ : ma_H), ma_rn ro d 124 (104, [v0, v1, some (.int x1), v3], st, SH, σ) = ma_rn ro d 124 (105, [v0, v1, some (.int x1), v3], .int x1 :: st, SH, σ)) ∧
  (∀ (v1 : Option Value) (v2 : Option Value) (v3 : Option Value) (a1 : Nat) (st : List Value) (σ : ma_H), ma_rn ro d 124 (105, [some (.ref a1), v1, v2, v3], st, SH, σ) = ma_rn ro d 124 (106, [some (.ref a1), v1, v2, v3], .ref a1 :: st, SH, σ)) ∧
  (∀ (v0 : Option Value) (v1 : Option Value) (v2 : Option Value) (v3 : Option Value) (a1 : Nat) (st : List Value) (σ : ma_H) (hc : hk_cls a1 = 8), ma_rn ro d 124 (106, [v0, v1, v2, v3], .ref a1 :: st, SH, σ) = ma_rn ro d 124 (109, [v0, v1, v2, v3], .ref (91) :: st, SH, σ)) ∧
  (∀ (v0 : Option Value) (v1 : Option Value) (v2 : Option Value) (v3 : Option Value) (st : List Value) (σ : ma_H), ma_rn ro d 124 (109, [v0, v1, v2, v3], st, SH, σ) = ma_rn ro d 124 (111, [v0, v1, v2, v3], .int (nI 46) :: st, SH, σ)) ∧
  (∀ (v0 : Option Value) (v2 : Option Value) (v3 : Option Value) (x1 : Int32) (st : List Value) (σ : ma_H), ma_rn ro d 124 (111, [v0, some (.int x1), v2, v3], st, SH, σ) = ma_rn ro d 124 (112, [v0, some (.int x1), v2, v3], .int x1 :: st, SH, σ)) ∧
  (∀ (v0 : Option Value) (v1 : Option Value) (v2 : Option Value) (v3 : Option Value) (x1 : Int32) (x2 : Int32) (st : List Value) (σ : ma_H), ma_rn ro d 124 (112, [v0, v1, v2, v3], .int x1 :: .int x2 :: st, SH, σ) = ma_rn ro d 124 (113, [v0, v1, v2, v3], .int (x2 + x1) :: st, SH, σ)) ∧
  (∀ (v0 : Option Value) (v1 : Option Value) (v2 : Option Value) (v3 : Option Value) (k : Nat) (a2 : Nat) (st : List Value) (σ : ma_H) (hk : k < hk_len a2), ma_rn ro d 124 (113, [v0, v1, v2, v3], .int (nI k) :: .ref a2 :: st, SH, σ) = ma_rn ro d 124 (114, [v0, v1, v2, v3], .int (σ a2 k) :: st, SH, σ)) ∧
  (∀ (v0 : Option Value) (v1 : Option Value) (v2 : Option Value) (v3 : Option Value) (x1 : Int32) (x2 : Int32) (st : List Value) (σ : ma_H), ma_rn ro d 124 (114, [v0, v1, v2, v3], .int x1 :: .int x2 :: st, SH, σ) = ma_rn ro d 124 (115, [v0, v1, v2, v3], .int (x2 + x1) :: st, SH, σ)) ∧
  (∀ (v0 : Option Value) (v1 : Option Value) (v2 : Option Value) (v3 : Option Value) (x1 : Int32) (σ : ma_H), ma_rn ro d 124 (115, [v0, v1, v2, v3], [.int x1], SH, σ) = some (some (.int x1), SH, σ)) ∧
  (∀ (v0 : Option Value) (v1 : Option Value) (v3 : Option Value) (x1 : Int32) (st : List Value) (σ : ma_H), ma_rn ro d 124 (116, [v0, v1, some (.int x1), v3], st, SH, σ) = ma_rn ro d 124 (117, [v0, v1, some (.int x1), v3], .int x1 :: st, SH, σ)) ∧
  (∀ (v0 : Option Value) (v1 : Option Value) (v2 : Option Value) (v3 : Option Value) (st : List Value) (σ : ma_H), ma_rn ro d 124 (117, [v0, v1, v2, v3], st, SH, σ) = ma_rn ro d 124 (118, [v0, v1, v2, v3], .int (nI 2) :: st, SH, σ)) ∧
  (∀ (v0 : Option Value) (v1 : Option Value) (v2 : Option Value) (v3 : Option Value) (x1 : Int32) (x2 : Int32) (st : List Value) (σ : ma_H) (hy : ¬ x1 = 0), ma_rn ro d 124 (118, [v0, v1, v2, v3], .int x1 :: .int x2 :: st, SH, σ) = ma_rn ro d 124 (119, [v0, v1, v2, v3], .int (x2 / x1) :: st, SH, σ)) ∧
  (∀ (v1 : Option Value) (v2 : Option Value) (v3 : Option Value) (a1 : Nat) (st : List Value) (σ : ma_H), ma_rn ro d 124 (119, [some (.ref a1), v1, v2, v3], st, SH, σ) = ma_rn ro d 124 (120, [some (.ref a1), v1, v2, v3], .ref a1 :: st, SH, σ)) ∧
  (∀ (v0 : Option Value) (v1 : Option Value) (v2 : Option Value) (v3 : Option Value) (a1 : Nat) (st : List Value) (σ : ma_H) (hc : hk_cls a1 = 8), ma_rn ro d 124 (120, [v0, v1, v2, v3], .ref a1 :: st, SH, σ) = ma_rn ro d 124 (123, [v0, v1, v2, v3], .ref (91) :: st, SH, σ)) ∧
  (∀ (v0 : Option Value) (v1 : Option Value) (v2 : Option Value) (v3 : Option Value) (st : List Value) (σ : ma_H), ma_rn ro d 124 (123, [v0, v1, v2, v3], st, SH, σ) = ma_rn ro d 124 (125, [v0, v1, v2, v3], .int (nI 21) :: st, SH, σ)) ∧
  (∀ (v0 : Option Value) (v2 : Option Value) (v3 : Option Value) (x1 : Int32) (st : List Value) (σ : ma_H), ma_rn ro d 124 (125, [v0, some (.int x1), v2, v3], st, SH, σ) = ma_rn ro d 124 (126, [v0, some (.int x1), v2, v3], .int x1 :: st, SH, σ)) ∧
  (∀ (v0 : Option Value) (v1 : Option Value) (v2 : Option Value) (v3 : Option Value) (x1 : Int32) (x2 : Int32) (st : List Value) (σ : ma_H), ma_rn ro d 124 (126, [v0, v1, v2, v3], .int x1 :: .int x2 :: st, SH, σ) = ma_rn ro d 124 (127, [v0, v1, v2, v3], .int (x2 + x1) :: st, SH, σ)) ∧
  (∀ (v0 : Option Value) (v1 : Option Value) (v2 : Option Value) (v3 : Option Value) (k : Nat) (a2 : Nat) (st : List Value) (σ : ma_H) (hk : k < hk_len a2), ma_rn ro d 124 (127, [v0, v1, v2, v3], .int (nI k) :: .ref a2 :: st, SH, σ) = ma_rn ro d 124 (128, [v0, v1, v2, v3], .int (σ a2 k) :: st, SH, σ)) ∧
  (∀ (v0 : Option Value) (v1 : Option Value) (v2 : Option Value) (v3 : Option Value) (x1 : Int32) (x2 : Int32) (st : List Value) (σ : ma_H), ma_rn ro d 124 (128, [v0, v1, v2, v3], .int x1 :: .int x2 :: st, SH, σ) = ma_rn ro d 124 (129, [v0, v1, v2, v3], .int (x2 + x1) :: st, SH, σ)) ∧
  (∀ (v0 : Option Value) (v1 : Option Value) (v2 : Option Value) (v3 : Option Value) (x1 : Int32) (σ : ma_H), ma_rn ro d 124 (129, [v0, v1, v2, v3], [.int x1], SH, σ) = some (some (.int x1), SH, σ)) ∧
  (∀ (v0 : Option Value) (v1 : Option Value) (v2 : Option Value) (x1 : Int32) (st : List Value) (σ : ma_H), ma_rn ro d 124 (130, [v0, v1, v2, some (.int x1)], st, SH, σ) = ma_rn ro d 124 (131, [v0, v1, v2, some (.int x1)], .int x1 :: st, SH, σ)) ∧
  (∀ (v1 : Option Value) (v2 : Option Value) (v3 : Option Value) (a1 : Nat) (st : List Value) (σ : ma_H), ma_rn ro d 124 (131, [some (.ref a1), v1, v2, v3], st, SH, σ) = ma_rn ro d 124 (132, [some (.ref a1), v1, v2, v3], .ref a1 :: st, SH, σ)) ∧
  (∀ (v0 : Option Value) (v1 : Option Value) (v2 : Option Value) (v3 : Option Value) (a1 : Nat) (st : List Value) (σ : ma_H) (hc : hk_cls a1 = 8), ma_rn ro d 124 (132, [v0, v1, v2, v3], .ref a1 :: st, SH, σ) = ma_rn ro d 124 (135, [v0, v1, v2, v3], .ref (91) :: st, SH, σ)) ∧
  (∀ (v0 : Option Value) (v1 : Option Value) (v2 : Option Value) (v3 : Option Value) (st : List Value) (σ : ma_H), ma_rn ro d 124 (135, [v0, v1, v2, v3], st, SH, σ) = ma_rn ro d 124 (137, [v0, v1, v2, v3], .int (nI 52) :: st, SH, σ)) ∧
  (∀ (v0 : Option Value) (v1 : Option Value) (v2 : Option Value) (v3 : Option Value) (st : List Value) (σ : ma_H), ma_rn ro d 124 (137, [v0, v1, v2, v3], st, SH, σ) = ma_rn ro d 124 (138, [v0, v1, v2, v3], .int (nI 4) :: st, SH, σ)) ∧
  (∀ (v0 : Option Value) (v2 : Option Value) (v3 : Option Value) (x1 : Int32) (st : List Value) (σ : ma_H), ma_rn ro d 124 (138, [v0, some (.int x1), v2, v3], st, SH, σ) = ma_rn ro d 124 (139, [v0, some (.int x1), v2, v3], .int x1 :: st, SH, σ)) ∧
  (∀ (v0 : Option Value) (v1 : Option Value) (v2 : Option Value) (v3 : Option Value) (x1 : Int32) (x2 : Int32) (st : List Value) (σ : ma_H), ma_rn ro d 124 (139, [v0, v1, v2, v3], .int x1 :: .int x2 :: st, SH, σ) = ma_rn ro d 124 (140, [v0, v1, v2, v3], .int (x2 * x1) :: st, SH, σ)) ∧
  (∀ (v0 : Option Value) (v1 : Option Value) (v2 : Option Value) (v3 : Option Value) (x1 : Int32) (x2 : Int32) (st : List Value) (σ : ma_H), ma_rn ro d 124 (140, [v0, v1, v2, v3], .int x1 :: .int x2 :: st, SH, σ) = ma_rn ro d 124 (141, [v0, v1, v2, v3], .int (x2 + x1) :: st, SH, σ)) ∧
  (∀ (v1 : Option Value) (v2 : Option Value) (v3 : Option Value) (a1 : Nat) (st : List Value) (σ : ma_H), ma_rn ro d 124 (141, [some (.ref a1), v1, v2, v3], st, SH, σ) = ma_rn ro d 124 (142, [some (.ref a1), v1, v2, v3], .ref a1 :: st, SH, σ)) ∧
  (∀ (v0 : Option Value) (v1 : Option Value) (v2 : Option Value) (v3 : Option Value) (a1 : Nat) (st : List Value) (σ : ma_H) (hc : hk_cls a1 = 8), ma_rn ro d 124 (142, [v0, v1, v2, v3], .ref a1 :: st, SH, σ) = ma_rn ro d 124 (145, [v0, v1, v2, v3], .ref (91) :: st, SH, σ)) ∧
  (∀ (v0 : Option Value) (v1 : Option Value) (v2 : Option Value) (v3 : Option Value) (st : List Value) (σ : ma_H), ma_rn ro d 124 (145, [v0, v1, v2, v3], st, SH, σ) = ma_rn ro d 124 (146, [v0, v1, v2, v3], .int (nI 0) :: st, SH, σ)) ∧
  (∀ (v0 : Option Value) (v1 : Option Value) (v2 : Option Value) (v3 : Option Value) (k : Nat) (a2 : Nat) (st : List Value) (σ : ma_H) (hk : k < hk_len a2), ma_rn ro d 124 (146, [v0, v1, v2, v3], .int (nI k) :: .ref a2 :: st, SH, σ) = ma_rn ro d 124 (147, [v0, v1, v2, v3], .int (σ a2 k) :: st, SH, σ)) ∧
  (∀ (v0 : Option Value) (v1 : Option Value) (v2 : Option Value) (v3 : Option Value) (st : List Value) (σ : ma_H), ma_rn ro d 124 (147, [v0, v1, v2, v3], st, SH, σ) = ma_rn ro d 124 (148, [v0, v1, v2, v3], .int (nI 4) :: st, SH, σ)) ∧
  (∀ (v0 : Option Value) (v1 : Option Value) (v2 : Option Value) (v3 : Option Value) (x1 : Int32) (x2 : Int32) (st : List Value) (σ : ma_H) (hy : ¬ x1 = 0), ma_rn ro d 124 (148, [v0, v1, v2, v3], .int x1 :: .int x2 :: st, SH, σ) = ma_rn ro d 124 (149, [v0, v1, v2, v3], .int (x2 - x2 / x1 * x1) :: st, SH, σ)) ∧
  (∀ (v0 : Option Value) (v1 : Option Value) (v2 : Option Value) (v3 : Option Value) (x1 : Int32) (x2 : Int32) (st : List Value) (σ : ma_H), ma_rn ro d 124 (149, [v0, v1, v2, v3], .int x1 :: .int x2 :: st, SH, σ) = ma_rn ro d 124 (150, [v0, v1, v2, v3], .int (x2 + x1) :: st, SH, σ)) ∧
  (∀ (v0 : Option Value) (v1 : Option Value) (v2 : Option Value) (v3 : Option Value) (k : Nat) (a2 : Nat) (st : List Value) (σ : ma_H) (hk : k < hk_len a2), ma_rn ro d 124 (150, [v0, v1, v2, v3], .int (nI k) :: .ref a2 :: st, SH, σ) = ma_rn ro d 124 (151, [v0, v1, v2, v3], .int (σ a2 k) :: st, SH, σ)) ∧
  (∀ (v0 : Option Value) (v1 : Option Value) (v2 : Option Value) (v3 : Option Value) (x1 : Int32) (x2 : Int32) (st : List Value) (σ : ma_H), ma_rn ro d 124 (151, [v0, v1, v2, v3], .int x1 :: .int x2 :: st, SH, σ) = ma_rn ro d 124 (152, [v0, v1, v2, v3], .int (x2 + x1) :: st, SH, σ)) ∧
  (∀ (v0 : Option Value) (v1 : Option Value) (v2 : Option Value) (v3 : Option Value) (x1 : Int32) (σ : ma_H), ma_rn ro d 124 (152, [v0, v1, v2, v3], [.int x1], SH, σ) = some (some (.int x1), SH, σ)) ∧
  (∀ (v0 : Option Value) (v1 : Option Value) (v3 : Option Value) (x1 : Int32) (st : List Value) (σ : ma_H), ma_rn ro d 124 (153, [v0, v1, some (.int x1), v3], st, SH, σ) = ma_rn ro d 124 (154, [v0, v1, some (.int x1), v3], .int x1 :: st, SH, σ)) ∧
  (∀ (v0 : Option Value) (v1 : Option Value) (v2 : Option Value) (v3 : Option Value) (x1 : Int32) (σ : ma_H), ma_rn ro d 124 (154, [v0, v1, v2, v3], [.int x1], SH, σ) = some (some (.int x1), SH, σ)) := ⟨fun v1 v2 v3 a1 st σ => q_go e124_0 rfl rfl,
  fun v0 v2 v3 x1 st σ => q_go e124_1 rfl rfl,
  fun v0 v1 v2 v3 x1 a0 σ hc => q_invV (as := [.int x1]) (rest := []) e124_2 o_124 bn_8_122 c_8_122 m_123 (by decide) rfl rfl (Nat.le_of_ble_eq_true rfl) (Nat.le_of_ble_eq_true rfl) hc,
  fun v0 v2 v3 x9 x1 st σ => q_go e124_5 rfl rfl,
  fun v0 v1 v3 x1 st σ => q_go e124_6 rfl rfl,
  fun v1 v2 v3 a1 st σ => q_go e124_7 rfl rfl,
  fun v0 v1 v2 v3 a1 st σ hc => q_getA e124_8 o_124 f_8_9 (by decide) hc,
  fun v0 v1 v2 v3 st σ => q_bipush e124_11 (by decide),
  fun v0 v2 v3 x1 st σ => q_go e124_13 rfl rfl,
  fun v0 v1 v2 v3 x1 x2 st σ => q_go e124_14 rfl rfl,
  fun v0 v1 v2 v3 k a2 st σ hk => q_iald e124_15 hk,
  fun v0 v1 v2 v3 st σ => q_bipush e124_16 (by decide),
  fun v0 v1 v2 v3 x1 x2 st σ hy => q_idiv e124_18 hy,
  fun v0 v1 v2 v3 x1 x2 st σ => q_go e124_19 rfl rfl,
  fun v0 v1 v3 x9 x1 st σ => q_go e124_20 rfl rfl,
  fun v1 v2 v3 a1 st σ => q_go e124_21 rfl rfl,
  fun v0 v1 v2 v3 a1 st σ hc => q_getA e124_22 o_124 f_8_9 (by decide) hc,
  fun v0 v1 v2 v3 st σ => q_bipush e124_25 (by decide),
  fun v0 v2 v3 x1 st σ => q_go e124_27 rfl rfl,
  fun v0 v1 v2 v3 x1 x2 st σ => q_go e124_28 rfl rfl,
  fun v0 v1 v2 v3 k a2 st σ hk => q_iald e124_29 hk,
  fun v0 v1 v2 v3 x1 st σ => by
    by_cases h0 : x1 = nI 1
    · rw [if_pos h0]; exact q_tswIn e124_30 h0 (k := 1) (by decide) (by decide) (by decide) rfl rfl
    rw [if_neg h0]
    by_cases h1 : x1 = nI 2
    · rw [if_pos h1]; exact q_tswIn e124_30 h1 (k := 2) (by decide) (by decide) (by decide) rfl rfl
    rw [if_neg h1]
    by_cases h2 : x1 = nI 3
    · rw [if_pos h2]; exact q_tswIn e124_30 h2 (k := 3) (by decide) (by decide) (by decide) rfl rfl
    rw [if_neg h2]
    by_cases h3 : x1 = nI 4
    · rw [if_pos h3]; exact q_tswIn e124_30 h3 (k := 4) (by decide) (by decide) (by decide) rfl rfl
    rw [if_neg h3]
    by_cases h4 : x1 = nI 5
    · rw [if_pos h4]; exact q_tswIn e124_30 h4 (k := 5) (by decide) (by decide) (by decide) rfl rfl
    rw [if_neg h4]
    by_cases h5 : x1 = nI 6
    · rw [if_pos h5]; exact q_tswIn e124_30 h5 (k := 6) (by decide) (by decide) (by decide) rfl rfl
    rw [if_neg h5]
    have g0 := q_nnI h0 (by decide)
    have g1 := q_nnI h1 (by decide)
    have g2 := q_nnI h2 (by decide)
    have g3 := q_nnI h3 (by decide)
    have g4 := q_nnI h4 (by decide)
    have g5 := q_nnI h5 (by decide)
    exact q_tswOut e124_30 (by omega) rfl,
  fun v0 v1 v3 x1 st σ => q_go e124_68 rfl rfl,
  fun v1 v2 v3 a1 st σ => q_go e124_69 rfl rfl,
  fun v0 v1 v2 v3 a1 st σ hc => q_getA e124_70 o_124 f_8_9 (by decide) hc,
  fun v0 v1 v2 v3 st σ => q_bipush e124_73 (by decide),
  fun v0 v2 v3 x1 st σ => q_go e124_75 rfl rfl,
  fun v0 v1 v2 v3 x1 x2 st σ => q_go e124_76 rfl rfl,
  fun v0 v1 v2 v3 k a2 st σ hk => q_iald e124_77 hk,
  fun v0 v1 v2 v3 x1 x2 st σ => q_go e124_78 rfl rfl,
  fun v0 v1 v2 v3 x1 σ => q_iret e124_79 r_124,
  fun v0 v1 v3 x1 st σ => q_go e124_80 rfl rfl,
  fun v0 v1 v2 v3 st σ => q_iconst e124_81 (by decide),
  fun v0 v1 v2 v3 x1 x2 st σ hy => q_idiv e124_82 hy,
  fun v0 v1 v2 v3 x1 σ => q_iret e124_83 r_124,
  fun v0 v1 v2 x1 st σ => q_go e124_84 rfl rfl,
  fun v0 v1 v2 v3 x1 σ => q_iret e124_85 r_124,
  fun v1 v2 v3 a1 st σ => q_go e124_86 rfl rfl,
  fun v0 v1 v2 v3 a1 st σ hc => q_getA e124_87 o_124 f_8_9 (by decide) hc,
  fun v0 v1 v2 v3 st σ => q_iconst e124_90 (by decide),
  fun v0 v1 v2 v3 k a2 st σ hk => q_iald e124_91 hk,
  fun v0 v1 v2 v3 st σ => q_bipush e124_92 (by decide),
  fun v0 v1 v2 v3 x1 x2 st σ hy => q_irem e124_94 hy,
  fun v0 v1 v2 v3 st σ => q_bipush e124_95 (by decide),
  fun v0 v1 v2 v3 x1 x2 st σ => (q_cmp e124_97 rfl).trans q_ne,
  fun v0 v1 v2 v3 st σ => q_iconst e124_100 (by decide),
  fun v0 v1 v2 v3 st σ => q_goto e124_101 rfl,
  fun v0 v1 v3 x1 st σ => q_go e124_104 rfl rfl,
  fun v1 v2 v3 a1 st σ => q_go e124_105 rfl rfl,
  fun v0 v1 v2 v3 a1 st σ hc => q_getA e124_106 o_124 f_8_9 (by decide) hc,
  fun v0 v1 v2 v3 st σ => q_bipush e124_109 (by decide),
  fun v0 v2 v3 x1 st σ => q_go e124_111 rfl rfl,
  fun v0 v1 v2 v3 x1 x2 st σ => q_go e124_112 rfl rfl,
  fun v0 v1 v2 v3 k a2 st σ hk => q_iald e124_113 hk,
  fun v0 v1 v2 v3 x1 x2 st σ => q_go e124_114 rfl rfl,
  fun v0 v1 v2 v3 x1 σ => q_iret e124_115 r_124,
  fun v0 v1 v3 x1 st σ => q_go e124_116 rfl rfl,
  fun v0 v1 v2 v3 st σ => q_iconst e124_117 (by decide),
  fun v0 v1 v2 v3 x1 x2 st σ hy => q_idiv e124_118 hy,
  fun v1 v2 v3 a1 st σ => q_go e124_119 rfl rfl,
  fun v0 v1 v2 v3 a1 st σ hc => q_getA e124_120 o_124 f_8_9 (by decide) hc,
  fun v0 v1 v2 v3 st σ => q_bipush e124_123 (by decide),
  fun v0 v2 v3 x1 st σ => q_go e124_125 rfl rfl,
  fun v0 v1 v2 v3 x1 x2 st σ => q_go e124_126 rfl rfl,
  fun v0 v1 v2 v3 k a2 st σ hk => q_iald e124_127 hk,
  fun v0 v1 v2 v3 x1 x2 st σ => q_go e124_128 rfl rfl,
  fun v0 v1 v2 v3 x1 σ => q_iret e124_129 r_124,
  fun v0 v1 v2 x1 st σ => q_go e124_130 rfl rfl,
  fun v1 v2 v3 a1 st σ => q_go e124_131 rfl rfl,
  fun v0 v1 v2 v3 a1 st σ hc => q_getA e124_132 o_124 f_8_9 (by decide) hc,
  fun v0 v1 v2 v3 st σ => q_bipush e124_135 (by decide),
  fun v0 v1 v2 v3 st σ => q_iconst e124_137 (by decide),
  fun v0 v2 v3 x1 st σ => q_go e124_138 rfl rfl,
  fun v0 v1 v2 v3 x1 x2 st σ => q_go e124_139 rfl rfl,
  fun v0 v1 v2 v3 x1 x2 st σ => q_go e124_140 rfl rfl,
  fun v1 v2 v3 a1 st σ => q_go e124_141 rfl rfl,
  fun v0 v1 v2 v3 a1 st σ hc => q_getA e124_142 o_124 f_8_9 (by decide) hc,
  fun v0 v1 v2 v3 st σ => q_iconst e124_145 (by decide),
  fun v0 v1 v2 v3 k a2 st σ hk => q_iald e124_146 hk,
  fun v0 v1 v2 v3 st σ => q_iconst e124_147 (by decide),
  fun v0 v1 v2 v3 x1 x2 st σ hy => q_irem e124_148 hy,
  fun v0 v1 v2 v3 x1 x2 st σ => q_go e124_149 rfl rfl,
  fun v0 v1 v2 v3 k a2 st σ hk => q_iald e124_150 hk,
  fun v0 v1 v2 v3 x1 x2 st σ => q_go e124_151 rfl rfl,
  fun v0 v1 v2 v3 x1 σ => q_iret e124_152 r_124,
  fun v0 v1 v3 x1 st σ => q_go e124_153 rfl rfl,
  fun v0 v1 v2 v3 x1 σ => q_iret e124_154 r_124⟩
theorem E124 {ro : ma_RO} {d : Nat} (a0 : Nat) (x1 : Int32) (sh : List ma_Sh) (σ : ma_H) : ma_ev ro d 124 [.ref a0, .int x1] sh σ = ma_rn ro d 124 (0, [some (.ref a0), some (.int x1), none, none], [], sh, σ) := q_ent x_124 rfl
theorem e125_0 : decode (ma_cd 125) 0 = .ok (.aload_n 0, 1) := (congrArg (fun b => decode b 0) cd_125).trans dX8_doubtOf_0
theorem e125_1 : decode (ma_cd 125) 1 = .ok (.sipush 223, 3) := (congrArg (fun b => decode b 1) cd_125).trans dX8_doubtOf_1
theorem e125_4 : decode (ma_cd 125) 4 = .ok (.iconst 2, 1) := (congrArg (fun b => decode b 4) cd_125).trans dX8_doubtOf_4
theorem e125_5 : decode (ma_cd 125) 5 = .ok (.invokevirtual 118, 3) := (congrArg (fun b => decode b 5) cd_125).trans dX8_doubtOf_5
theorem e125_8 : decode (ma_cd 125) 8 = .ok (.iload_n 2, 1) := (congrArg (fun b => decode b 8) cd_125).trans dX8_doubtOf_8
theorem e125_9 : decode (ma_cd 125) 9 = .ok (.imul, 1) := (congrArg (fun b => decode b 9) cd_125).trans dX8_doubtOf_9
theorem e125_10 : decode (ma_cd 125) 10 = .ok (.aload_n 0, 1) := (congrArg (fun b => decode b 10) cd_125).trans dX8_doubtOf_10
theorem e125_11 : decode (ma_cd 125) 11 = .ok (.getfield 9, 3) := (congrArg (fun b => decode b 11) cd_125).trans dX8_doubtOf_11
theorem e125_14 : decode (ma_cd 125) 14 = .ok (.bipush 9, 2) := (congrArg (fun b => decode b 14) cd_125).trans dX8_doubtOf_14
theorem e125_16 : decode (ma_cd 125) 16 = .ok (.iload_n 1, 1) := (congrArg (fun b => decode b 16) cd_125).trans dX8_doubtOf_16
theorem e125_17 : decode (ma_cd 125) 17 = .ok (.iadd, 1) := (congrArg (fun b => decode b 17) cd_125).trans dX8_doubtOf_17
theorem e125_18 : decode (ma_cd 125) 18 = .ok (.iaload, 1) := (congrArg (fun b => decode b 18) cd_125).trans dX8_doubtOf_18
theorem e125_19 : decode (ma_cd 125) 19 = .ok (.isub, 1) := (congrArg (fun b => decode b 19) cd_125).trans dX8_doubtOf_19
theorem e125_20 : decode (ma_cd 125) 20 = .ok (.ireturn, 1) := (congrArg (fun b => decode b 20) cd_125).trans dX8_doubtOf_20
theorem S125 {ro : ma_RO} {d : Nat} : (∀ (v1 : Option Value) (v2 : Option Value) (a1 : Nat) (st : List Value) (σ : ma_H), ma_rn ro d 125 (0, [some (.ref a1), v1, v2], st, SH, σ) = ma_rn ro d 125 (1, [some (.ref a1), v1, v2], .ref a1 :: st, SH, σ)) ∧
  (∀ (v0 : Option Value) (v1 : Option Value) (v2 : Option Value) (st : List Value) (σ : ma_H), ma_rn ro d 125 (1, [v0, v1, v2], st, SH, σ) = ma_rn ro d 125 (4, [v0, v1, v2], .int (nI 223) :: st, SH, σ)) ∧
  (∀ (v0 : Option Value) (v1 : Option Value) (v2 : Option Value) (st : List Value) (σ : ma_H), ma_rn ro d 125 (4, [v0, v1, v2], st, SH, σ) = ma_rn ro d 125 (5, [v0, v1, v2], .int (nI 2) :: st, SH, σ)) ∧
  (∀ (v0 : Option Value) (v1 : Option Value) (v2 : Option Value) (x1 : Int32) (x2 : Int32) (a0 : Nat) (σ : ma_H) (hc : hk_cls a0 = 8), ma_rn ro (d + 1) 125 (5, [v0, v1, v2], .int x2 :: .int x1 :: .ref a0 :: [], SH, σ) = (ma_ev ro d 122 [.ref a0, .int x1, .int x2] SH σ).bind (fun q => ma_rn ro (d + 1) 125 (8, [v0, v1, v2], (q.1.toList ++ []), q.2.1, q.2.2))) ∧
  (∀ (v0 : Option Value) (v1 : Option Value) (x1 : Int32) (st : List Value) (σ : ma_H), ma_rn ro d 125 (8, [v0, v1, some (.int x1)], st, SH, σ) = ma_rn ro d 125 (9, [v0, v1, some (.int x1)], .int x1 :: st, SH, σ)) ∧
  (∀ (v0 : Option Value) (v1 : Option Value) (v2 : Option Value) (x1 : Int32) (x2 : Int32) (st : List Value) (σ : ma_H), ma_rn ro d 125 (9, [v0, v1, v2], .int x1 :: .int x2 :: st, SH, σ) = ma_rn ro d 125 (10, [v0, v1, v2], .int (x2 * x1) :: st, SH, σ)) ∧
  (∀ (v1 : Option Value) (v2 : Option Value) (a1 : Nat) (st : List Value) (σ : ma_H), ma_rn ro d 125 (10, [some (.ref a1), v1, v2], st, SH, σ) = ma_rn ro d 125 (11, [some (.ref a1), v1, v2], .ref a1 :: st, SH, σ)) ∧
  (∀ (v0 : Option Value) (v1 : Option Value) (v2 : Option Value) (a1 : Nat) (st : List Value) (σ : ma_H) (hc : hk_cls a1 = 8), ma_rn ro d 125 (11, [v0, v1, v2], .ref a1 :: st, SH, σ) = ma_rn ro d 125 (14, [v0, v1, v2], .ref (91) :: st, SH, σ)) ∧
  (∀ (v0 : Option Value) (v1 : Option Value) (v2 : Option Value) (st : List Value) (σ : ma_H), ma_rn ro d 125 (14, [v0, v1, v2], st, SH, σ) = ma_rn ro d 125 (16, [v0, v1, v2], .int (nI 9) :: st, SH, σ)) ∧
  (∀ (v0 : Option Value) (v2 : Option Value) (x1 : Int32) (st : List Value) (σ : ma_H), ma_rn ro d 125 (16, [v0, some (.int x1), v2], st, SH, σ) = ma_rn ro d 125 (17, [v0, some (.int x1), v2], .int x1 :: st, SH, σ)) ∧
  (∀ (v0 : Option Value) (v1 : Option Value) (v2 : Option Value) (x1 : Int32) (x2 : Int32) (st : List Value) (σ : ma_H), ma_rn ro d 125 (17, [v0, v1, v2], .int x1 :: .int x2 :: st, SH, σ) = ma_rn ro d 125 (18, [v0, v1, v2], .int (x2 + x1) :: st, SH, σ)) ∧
  (∀ (v0 : Option Value) (v1 : Option Value) (v2 : Option Value) (k : Nat) (a2 : Nat) (st : List Value) (σ : ma_H) (hk : k < hk_len a2), ma_rn ro d 125 (18, [v0, v1, v2], .int (nI k) :: .ref a2 :: st, SH, σ) = ma_rn ro d 125 (19, [v0, v1, v2], .int (σ a2 k) :: st, SH, σ)) ∧
  (∀ (v0 : Option Value) (v1 : Option Value) (v2 : Option Value) (x1 : Int32) (x2 : Int32) (st : List Value) (σ : ma_H), ma_rn ro d 125 (19, [v0, v1, v2], .int x1 :: .int x2 :: st, SH, σ) = ma_rn ro d 125 (20, [v0, v1, v2], .int (x2 - x1) :: st, SH, σ)) ∧
  (∀ (v0 : Option Value) (v1 : Option Value) (v2 : Option Value) (x1 : Int32) (σ : ma_H), ma_rn ro d 125 (20, [v0, v1, v2], [.int x1], SH, σ) = some (some (.int x1), SH, σ)) := ⟨fun v1 v2 a1 st σ => q_go e125_0 rfl rfl,
  fun v0 v1 v2 st σ => q_sipush e125_1 (by decide),
  fun v0 v1 v2 st σ => q_iconst e125_4 (by decide),
  fun v0 v1 v2 x1 x2 a0 σ hc => q_invV (as := [.int x1, .int x2]) (rest := []) e125_5 o_125 bn_8_118 c_8_118 m_122 (by decide) rfl rfl (Nat.le_of_ble_eq_true rfl) (Nat.le_of_ble_eq_true rfl) hc,
  fun v0 v1 x1 st σ => q_go e125_8 rfl rfl,
  fun v0 v1 v2 x1 x2 st σ => q_go e125_9 rfl rfl,
  fun v1 v2 a1 st σ => q_go e125_10 rfl rfl,
  fun v0 v1 v2 a1 st σ hc => q_getA e125_11 o_125 f_8_9 (by decide) hc,
  fun v0 v1 v2 st σ => q_bipush e125_14 (by decide),
  fun v0 v2 x1 st σ => q_go e125_16 rfl rfl,
  fun v0 v1 v2 x1 x2 st σ => q_go e125_17 rfl rfl,
  fun v0 v1 v2 k a2 st σ hk => q_iald e125_18 hk,
  fun v0 v1 v2 x1 x2 st σ => q_go e125_19 rfl rfl,
  fun v0 v1 v2 x1 σ => q_iret e125_20 r_125⟩
theorem E125 {ro : ma_RO} {d : Nat} (a0 : Nat) (x1 : Int32) (x2 : Int32) (sh : List ma_Sh) (σ : ma_H) : ma_ev ro d 125 [.ref a0, .int x1, .int x2] sh σ = ma_rn ro d 125 (0, [some (.ref a0), some (.int x1), some (.int x2)], [], sh, σ) := q_ent x_125 rfl
theorem e126_0 : decode (ma_cd 126) 0 = .ok (.iconst 0, 1) := (congrArg (fun b => decode b 0) cd_126).trans dX8_backOf_0
theorem e126_1 : decode (ma_cd 126) 1 = .ok (.istore_n 2, 1) := (congrArg (fun b => decode b 1) cd_126).trans dX8_backOf_1
theorem e126_2 : decode (ma_cd 126) 2 = .ok (.iload_n 2, 1) := (congrArg (fun b => decode b 2) cd_126).trans dX8_backOf_2
theorem e126_3 : decode (ma_cd 126) 3 = .ok (.bipush 60, 2) := (congrArg (fun b => decode b 3) cd_126).trans dX8_backOf_3
theorem e126_5 : decode (ma_cd 126) 5 = .ok (.if_icmp .gt 20, 3) := (congrArg (fun b => decode b 5) cd_126).trans dX8_backOf_5
theorem e126_8 : decode (ma_cd 126) 8 = .ok (.aload_n 0, 1) := (congrArg (fun b => decode b 8) cd_126).trans dX8_backOf_8
theorem e126_9 : decode (ma_cd 126) 9 = .ok (.iload_n 1, 1) := (congrArg (fun b => decode b 9) cd_126).trans dX8_backOf_9
theorem e126_10 : decode (ma_cd 126) 10 = .ok (.iload_n 2, 1) := (congrArg (fun b => decode b 10) cd_126).trans dX8_backOf_10
theorem e126_11 : decode (ma_cd 126) 11 = .ok (.invokevirtual 126, 3) := (congrArg (fun b => decode b 11) cd_126).trans dX8_backOf_11
theorem e126_14 : decode (ma_cd 126) 14 = .ok (.ifCond .le 5, 3) := (congrArg (fun b => decode b 14) cd_126).trans dX8_backOf_14
theorem e126_17 : decode (ma_cd 126) 17 = .ok (.iload_n 2, 1) := (congrArg (fun b => decode b 17) cd_126).trans dX8_backOf_17
theorem e126_18 : decode (ma_cd 126) 18 = .ok (.ireturn, 1) := (congrArg (fun b => decode b 18) cd_126).trans dX8_backOf_18
theorem e126_19 : decode (ma_cd 126) 19 = .ok (.iinc 2 1, 3) := (congrArg (fun b => decode b 19) cd_126).trans dX8_backOf_19
theorem e126_22 : decode (ma_cd 126) 22 = .ok (.goto (-20), 3) := (congrArg (fun b => decode b 22) cd_126).trans dX8_backOf_22
theorem e126_25 : decode (ma_cd 126) 25 = .ok (.bipush (-5), 2) := (congrArg (fun b => decode b 25) cd_126).trans dX8_backOf_25
theorem e126_27 : decode (ma_cd 126) 27 = .ok (.ireturn, 1) := (congrArg (fun b => decode b 27) cd_126).trans dX8_backOf_27
theorem Sh126_2 {ro : ma_RO} {d : Nat} : (∀ (v0 : Option Value) (v1 : Option Value) (x1 : Int32) (st : List Value) (σ : ma_H), ma_rn ro d 126 (2, [v0, v1, some (.int x1)], st, SH, σ) = ma_rn ro d 126 (3, [v0, v1, some (.int x1)], .int x1 :: st, SH, σ)) := fun v0 v1 x1 st σ => q_go e126_2 rfl rfl
theorem S126 {ro : ma_RO} {d : Nat} : (∀ (v0 : Option Value) (v1 : Option Value) (v2 : Option Value) (st : List Value) (σ : ma_H), ma_rn ro d 126 (0, [v0, v1, v2], st, SH, σ) = ma_rn ro d 126 (1, [v0, v1, v2], .int (nI 0) :: st, SH, σ)) ∧
  (∀ (v0 : Option Value) (v2 : Option Value) (x9 : Int32) (x1 : Int32) (st : List Value) (σ : ma_H), ma_rn ro d 126 (1, [v0, some (.int x9), v2], .int x1 :: st, SH, σ) = ma_rn ro d 126 (2, [v0, some (.int x9), some (.int x1)], st, SH, σ)) ∧
  (∀ (v0 : Option Value) (v1 : Option Value) (v2 : Option Value) (st : List Value) (σ : ma_H), ma_rn ro d 126 (3, [v0, v1, v2], st, SH, σ) = ma_rn ro d 126 (5, [v0, v1, v2], .int (nI 60) :: st, SH, σ)) ∧
  (∀ (v0 : Option Value) (v1 : Option Value) (v2 : Option Value) (x1 : Int32) (x2 : Int32) (st : List Value) (σ : ma_H), ma_rn ro d 126 (5, [v0, v1, v2], .int x1 :: .int x2 :: st, SH, σ) = if x1 < x2 then ma_rn ro d 126 (25, [v0, v1, v2], st, SH, σ) else ma_rn ro d 126 (8, [v0, v1, v2], st, SH, σ)) ∧
  (∀ (v1 : Option Value) (v2 : Option Value) (a1 : Nat) (st : List Value) (σ : ma_H), ma_rn ro d 126 (8, [some (.ref a1), v1, v2], st, SH, σ) = ma_rn ro d 126 (9, [some (.ref a1), v1, v2], .ref a1 :: st, SH, σ)) ∧
  (∀ (v0 : Option Value) (v2 : Option Value) (x1 : Int32) (st : List Value) (σ : ma_H), ma_rn ro d 126 (9, [v0, some (.int x1), v2], st, SH, σ) = ma_rn ro d 126 (10, [v0, some (.int x1), v2], .int x1 :: st, SH, σ)) ∧
  (∀ (v0 : Option Value) (v1 : Option Value) (x1 : Int32) (st : List Value) (σ : ma_H), ma_rn ro d 126 (10, [v0, v1, some (.int x1)], st, SH, σ) = ma_rn ro d 126 (11, [v0, v1, some (.int x1)], .int x1 :: st, SH, σ)) ∧
  (∀ (v0 : Option Value) (v1 : Option Value) (v2 : Option Value) (x1 : Int32) (x2 : Int32) (a0 : Nat) (σ : ma_H) (hc : hk_cls a0 = 8), ma_rn ro (d + 1) 126 (11, [v0, v1, v2], .int x2 :: .int x1 :: .ref a0 :: [], SH, σ) = (ma_ev ro d 125 [.ref a0, .int x1, .int x2] SH σ).bind (fun q => ma_rn ro (d + 1) 126 (14, [v0, v1, v2], (q.1.toList ++ []), q.2.1, q.2.2))) ∧
  (∀ (v0 : Option Value) (v1 : Option Value) (v2 : Option Value) (x1 : Int32) (st : List Value) (σ : ma_H), ma_rn ro d 126 (14, [v0, v1, v2], .int x1 :: st, SH, σ) = if nI 0 < x1 then ma_rn ro d 126 (17, [v0, v1, v2], st, SH, σ) else ma_rn ro d 126 (19, [v0, v1, v2], st, SH, σ)) ∧
  (∀ (v0 : Option Value) (v1 : Option Value) (x1 : Int32) (st : List Value) (σ : ma_H), ma_rn ro d 126 (17, [v0, v1, some (.int x1)], st, SH, σ) = ma_rn ro d 126 (18, [v0, v1, some (.int x1)], .int x1 :: st, SH, σ)) ∧
  (∀ (v0 : Option Value) (v1 : Option Value) (v2 : Option Value) (x1 : Int32) (σ : ma_H), ma_rn ro d 126 (18, [v0, v1, v2], [.int x1], SH, σ) = some (some (.int x1), SH, σ)) ∧
  (∀ (v0 : Option Value) (x1 : Int32) (x9 : Int32) (st : List Value) (σ : ma_H), ma_rn ro d 126 (19, [v0, some (.int x9), some (.int x1)], st, SH, σ) = ma_rn ro d 126 (22, [v0, some (.int x9), some (.int (x1 + nI 1))], st, SH, σ)) ∧
  (∀ (v0 : Option Value) (v1 : Option Value) (v2 : Option Value) (st : List Value) (σ : ma_H), ma_rn ro d 126 (22, [v0, v1, v2], st, SH, σ) = ma_rn ro d 126 (2, [v0, v1, v2], st, SH, σ)) ∧
  (∀ (v0 : Option Value) (v1 : Option Value) (v2 : Option Value) (st : List Value) (σ : ma_H), ma_rn ro d 126 (25, [v0, v1, v2], st, SH, σ) = ma_rn ro d 126 (27, [v0, v1, v2], .int ((-5)) :: st, SH, σ)) ∧
  (∀ (v0 : Option Value) (v1 : Option Value) (v2 : Option Value) (x1 : Int32) (σ : ma_H), ma_rn ro d 126 (27, [v0, v1, v2], [.int x1], SH, σ) = some (some (.int x1), SH, σ)) := ⟨fun v0 v1 v2 st σ => q_iconst e126_0 (by decide),
  fun v0 v2 x9 x1 st σ => q_go e126_1 rfl rfl,
  fun v0 v1 v2 st σ => q_bipush e126_3 (by decide),
  fun v0 v1 v2 x1 x2 st σ => (q_cmp e126_5 rfl).trans q_gt,
  fun v1 v2 a1 st σ => q_go e126_8 rfl rfl,
  fun v0 v2 x1 st σ => q_go e126_9 rfl rfl,
  fun v0 v1 x1 st σ => q_go e126_10 rfl rfl,
  fun v0 v1 v2 x1 x2 a0 σ hc => q_invV (as := [.int x1, .int x2]) (rest := []) e126_11 o_126 bn_8_126 c_8_126 m_125 (by decide) rfl rfl (Nat.le_of_ble_eq_true rfl) (Nat.le_of_ble_eq_true rfl) hc,
  fun v0 v1 v2 x1 st σ => (q_if e126_14 rfl).trans q_ngt,
  fun v0 v1 x1 st σ => q_go e126_17 rfl rfl,
  fun v0 v1 v2 x1 σ => q_iret e126_18 r_126,
  fun v0 x1 x9 st σ => q_iinc e126_19 rfl rfl (by decide),
  fun v0 v1 v2 st σ => q_goto e126_22 rfl,
  fun v0 v1 v2 st σ => q_bipush e126_25 (by decide),
  fun v0 v1 v2 x1 σ => q_iret e126_27 r_126⟩
theorem E126 {ro : ma_RO} {d : Nat} (a0 : Nat) (x1 : Int32) (sh : List ma_Sh) (σ : ma_H) : ma_ev ro d 126 [.ref a0, .int x1] sh σ = ma_rn ro d 126 (0, [some (.ref a0), some (.int x1), none], [], sh, σ) := q_ent x_126 rfl
theorem e127_0 : decode (ma_cd 127) 0 = .ok (.aload_n 0, 1) := (congrArg (fun b => decode b 0) cd_127).trans dX8_becomes_0
theorem e127_1 : decode (ma_cd 127) 1 = .ok (.getfield 9, 3) := (congrArg (fun b => decode b 1) cd_127).trans dX8_becomes_1
theorem e127_4 : decode (ma_cd 127) 4 = .ok (.iload_n 1, 1) := (congrArg (fun b => decode b 4) cd_127).trans dX8_becomes_4
theorem e127_5 : decode (ma_cd 127) 5 = .ok (.iaload, 1) := (congrArg (fun b => decode b 5) cd_127).trans dX8_becomes_5
theorem e127_6 : decode (ma_cd 127) 6 = .ok (.istore_n 3, 1) := (congrArg (fun b => decode b 6) cd_127).trans dX8_becomes_6
theorem e127_7 : decode (ma_cd 127) 7 = .ok (.aload_n 0, 1) := (congrArg (fun b => decode b 7) cd_127).trans dX8_becomes_7
theorem e127_8 : decode (ma_cd 127) 8 = .ok (.getfield 9, 3) := (congrArg (fun b => decode b 8) cd_127).trans dX8_becomes_8
theorem e127_11 : decode (ma_cd 127) 11 = .ok (.iload_n 1, 1) := (congrArg (fun b => decode b 11) cd_127).trans dX8_becomes_11
theorem e127_12 : decode (ma_cd 127) 12 = .ok (.iload_n 2, 1) := (congrArg (fun b => decode b 12) cd_127).trans dX8_becomes_12
theorem e127_13 : decode (ma_cd 127) 13 = .ok (.iastore, 1) := (congrArg (fun b => decode b 13) cd_127).trans dX8_becomes_13
theorem e127_14 : decode (ma_cd 127) 14 = .ok (.iload_n 3, 1) := (congrArg (fun b => decode b 14) cd_127).trans dX8_becomes_14
theorem e127_15 : decode (ma_cd 127) 15 = .ok (.ireturn, 1) := (congrArg (fun b => decode b 15) cd_127).trans dX8_becomes_15
theorem S127 {ro : ma_RO} {d : Nat} : (∀ (v1 : Option Value) (v2 : Option Value) (v3 : Option Value) (a1 : Nat) (st : List Value) (σ : ma_H), ma_rn ro d 127 (0, [some (.ref a1), v1, v2, v3], st, SH, σ) = ma_rn ro d 127 (1, [some (.ref a1), v1, v2, v3], .ref a1 :: st, SH, σ)) ∧
  (∀ (v0 : Option Value) (v1 : Option Value) (v2 : Option Value) (v3 : Option Value) (a1 : Nat) (st : List Value) (σ : ma_H) (hc : hk_cls a1 = 8), ma_rn ro d 127 (1, [v0, v1, v2, v3], .ref a1 :: st, SH, σ) = ma_rn ro d 127 (4, [v0, v1, v2, v3], .ref (91) :: st, SH, σ)) ∧
  (∀ (v0 : Option Value) (v2 : Option Value) (v3 : Option Value) (x1 : Int32) (st : List Value) (σ : ma_H), ma_rn ro d 127 (4, [v0, some (.int x1), v2, v3], st, SH, σ) = ma_rn ro d 127 (5, [v0, some (.int x1), v2, v3], .int x1 :: st, SH, σ)) ∧
  (∀ (v0 : Option Value) (v1 : Option Value) (v2 : Option Value) (v3 : Option Value) (k : Nat) (a2 : Nat) (st : List Value) (σ : ma_H) (hk : k < hk_len a2), ma_rn ro d 127 (5, [v0, v1, v2, v3], .int (nI k) :: .ref a2 :: st, SH, σ) = ma_rn ro d 127 (6, [v0, v1, v2, v3], .int (σ a2 k) :: st, SH, σ)) ∧
  (∀ (v0 : Option Value) (v1 : Option Value) (v3 : Option Value) (x9 : Int32) (x1 : Int32) (st : List Value) (σ : ma_H), ma_rn ro d 127 (6, [v0, v1, some (.int x9), v3], .int x1 :: st, SH, σ) = ma_rn ro d 127 (7, [v0, v1, some (.int x9), some (.int x1)], st, SH, σ)) ∧
  (∀ (v1 : Option Value) (v2 : Option Value) (v3 : Option Value) (a1 : Nat) (st : List Value) (σ : ma_H), ma_rn ro d 127 (7, [some (.ref a1), v1, v2, v3], st, SH, σ) = ma_rn ro d 127 (8, [some (.ref a1), v1, v2, v3], .ref a1 :: st, SH, σ)) ∧
  (∀ (v0 : Option Value) (v1 : Option Value) (v2 : Option Value) (v3 : Option Value) (a1 : Nat) (st : List Value) (σ : ma_H) (hc : hk_cls a1 = 8), ma_rn ro d 127 (8, [v0, v1, v2, v3], .ref a1 :: st, SH, σ) = ma_rn ro d 127 (11, [v0, v1, v2, v3], .ref (91) :: st, SH, σ)) ∧
  (∀ (v0 : Option Value) (v2 : Option Value) (v3 : Option Value) (x1 : Int32) (st : List Value) (σ : ma_H), ma_rn ro d 127 (11, [v0, some (.int x1), v2, v3], st, SH, σ) = ma_rn ro d 127 (12, [v0, some (.int x1), v2, v3], .int x1 :: st, SH, σ)) ∧
  (∀ (v0 : Option Value) (v1 : Option Value) (v3 : Option Value) (x1 : Int32) (st : List Value) (σ : ma_H), ma_rn ro d 127 (12, [v0, v1, some (.int x1), v3], st, SH, σ) = ma_rn ro d 127 (13, [v0, v1, some (.int x1), v3], .int x1 :: st, SH, σ)) ∧
  (∀ (v0 : Option Value) (v1 : Option Value) (v2 : Option Value) (v3 : Option Value) (x1 : Int32) (k : Nat) (a3 : Nat) (st : List Value) (σ : ma_H) (hk : k < hk_len a3), ma_rn ro d 127 (13, [v0, v1, v2, v3], .int x1 :: .int (nI k) :: .ref a3 :: st, SH, σ) = ma_rn ro d 127 (14, [v0, v1, v2, v3], st, SH, (ma_up σ a3 k x1))) ∧
  (∀ (v0 : Option Value) (v1 : Option Value) (v2 : Option Value) (x1 : Int32) (st : List Value) (σ : ma_H), ma_rn ro d 127 (14, [v0, v1, v2, some (.int x1)], st, SH, σ) = ma_rn ro d 127 (15, [v0, v1, v2, some (.int x1)], .int x1 :: st, SH, σ)) ∧
  (∀ (v0 : Option Value) (v1 : Option Value) (v2 : Option Value) (v3 : Option Value) (x1 : Int32) (σ : ma_H), ma_rn ro d 127 (15, [v0, v1, v2, v3], [.int x1], SH, σ) = some (some (.int x1), SH, σ)) := ⟨fun v1 v2 v3 a1 st σ => q_go e127_0 rfl rfl,
  fun v0 v1 v2 v3 a1 st σ hc => q_getA e127_1 o_127 f_8_9 (by decide) hc,
  fun v0 v2 v3 x1 st σ => q_go e127_4 rfl rfl,
  fun v0 v1 v2 v3 k a2 st σ hk => q_iald e127_5 hk,
  fun v0 v1 v3 x9 x1 st σ => q_go e127_6 rfl rfl,
  fun v1 v2 v3 a1 st σ => q_go e127_7 rfl rfl,
  fun v0 v1 v2 v3 a1 st σ hc => q_getA e127_8 o_127 f_8_9 (by decide) hc,
  fun v0 v2 v3 x1 st σ => q_go e127_11 rfl rfl,
  fun v0 v1 v3 x1 st σ => q_go e127_12 rfl rfl,
  fun v0 v1 v2 v3 x1 k a3 st σ hk => q_iast e127_13 hk,
  fun v0 v1 v2 x1 st σ => q_go e127_14 rfl rfl,
  fun v0 v1 v2 v3 x1 σ => q_iret e127_15 r_127⟩
theorem E127 {ro : ma_RO} {d : Nat} (a0 : Nat) (x1 : Int32) (x2 : Int32) (sh : List ma_Sh) (σ : ma_H) : ma_ev ro d 127 [.ref a0, .int x1, .int x2] sh σ = ma_rn ro d 127 (0, [some (.ref a0), some (.int x1), some (.int x2), none], [], sh, σ) := q_ent x_127 rfl
theorem e128_0 : decode (ma_cd 128) 0 = .ok (.iload_n 1, 1) := (congrArg (fun b => decode b 0) cd_128).trans dX8_deed_0
theorem e128_1 : decode (ma_cd 128) 1 = .ok (.iconst 0, 1) := (congrArg (fun b => decode b 1) cd_128).trans dX8_deed_1
theorem e128_2 : decode (ma_cd 128) 2 = .ok (.bipush 6, 2) := (congrArg (fun b => decode b 2) cd_128).trans dX8_deed_2
theorem e128_4 : decode (ma_cd 128) 4 = .ok (.invokestatic 35, 3) := (congrArg (fun b => decode b 4) cd_128).trans dX8_deed_4
theorem e128_7 : decode (ma_cd 128) 7 = .ok (.ifCond .ne 5, 3) := (congrArg (fun b => decode b 7) cd_128).trans dX8_deed_7
theorem e128_10 : decode (ma_cd 128) 10 = .ok (.iconst (-1), 1) := (congrArg (fun b => decode b 10) cd_128).trans dX8_deed_10
theorem e128_11 : decode (ma_cd 128) 11 = .ok (.ireturn, 1) := (congrArg (fun b => decode b 11) cd_128).trans dX8_deed_11
theorem e128_12 : decode (ma_cd 128) 12 = .ok (.iload_n 2, 1) := (congrArg (fun b => decode b 12) cd_128).trans dX8_deed_12
theorem e128_13 : decode (ma_cd 128) 13 = .ok (.iconst 0, 1) := (congrArg (fun b => decode b 13) cd_128).trans dX8_deed_13
theorem e128_14 : decode (ma_cd 128) 14 = .ok (.bipush 9, 2) := (congrArg (fun b => decode b 14) cd_128).trans dX8_deed_14
theorem e128_16 : decode (ma_cd 128) 16 = .ok (.invokestatic 35, 3) := (congrArg (fun b => decode b 16) cd_128).trans dX8_deed_16
theorem e128_19 : decode (ma_cd 128) 19 = .ok (.ifCond .ne 6, 3) := (congrArg (fun b => decode b 19) cd_128).trans dX8_deed_19
theorem e128_22 : decode (ma_cd 128) 22 = .ok (.bipush (-2), 2) := (congrArg (fun b => decode b 22) cd_128).trans dX8_deed_22
theorem e128_24 : decode (ma_cd 128) 24 = .ok (.ireturn, 1) := (congrArg (fun b => decode b 24) cd_128).trans dX8_deed_24
theorem e128_25 : decode (ma_cd 128) 25 = .ok (.aload_n 0, 1) := (congrArg (fun b => decode b 25) cd_128).trans dX8_deed_25
theorem e128_26 : decode (ma_cd 128) 26 = .ok (.getfield 9, 3) := (congrArg (fun b => decode b 26) cd_128).trans dX8_deed_26
theorem e128_29 : decode (ma_cd 128) 29 = .ok (.bipush 33, 2) := (congrArg (fun b => decode b 29) cd_128).trans dX8_deed_29
theorem e128_31 : decode (ma_cd 128) 31 = .ok (.iaload, 1) := (congrArg (fun b => decode b 31) cd_128).trans dX8_deed_31
theorem e128_32 : decode (ma_cd 128) 32 = .ok (.bipush 6, 2) := (congrArg (fun b => decode b 32) cd_128).trans dX8_deed_32
theorem e128_34 : decode (ma_cd 128) 34 = .ok (.if_icmp .ne 6, 3) := (congrArg (fun b => decode b 34) cd_128).trans dX8_deed_34
theorem e128_37 : decode (ma_cd 128) 37 = .ok (.bipush (-4), 2) := (congrArg (fun b => decode b 37) cd_128).trans dX8_deed_37
theorem e128_39 : decode (ma_cd 128) 39 = .ok (.ireturn, 1) := (congrArg (fun b => decode b 39) cd_128).trans dX8_deed_39
theorem e128_40 : decode (ma_cd 128) 40 = .ok (.aload_n 0, 1) := (congrArg (fun b => decode b 40) cd_128).trans dX8_deed_40
theorem e128_41 : decode (ma_cd 128) 41 = .ok (.getfield 9, 3) := (congrArg (fun b => decode b 41) cd_128).trans dX8_deed_41
theorem e128_44 : decode (ma_cd 128) 44 = .ok (.bipush 33, 2) := (congrArg (fun b => decode b 44) cd_128).trans dX8_deed_44
theorem e128_46 : decode (ma_cd 128) 46 = .ok (.iaload, 1) := (congrArg (fun b => decode b 46) cd_128).trans dX8_deed_46
theorem e128_47 : decode (ma_cd 128) 47 = .ok (.istore_n 3, 1) := (congrArg (fun b => decode b 47) cd_128).trans dX8_deed_47
theorem e128_48 : decode (ma_cd 128) 48 = .ok (.aload_n 0, 1) := (congrArg (fun b => decode b 48) cd_128).trans dX8_deed_48
theorem e128_49 : decode (ma_cd 128) 49 = .ok (.getfield 9, 3) := (congrArg (fun b => decode b 49) cd_128).trans dX8_deed_49
theorem e128_52 : decode (ma_cd 128) 52 = .ok (.bipush 40, 2) := (congrArg (fun b => decode b 52) cd_128).trans dX8_deed_52
theorem e128_54 : decode (ma_cd 128) 54 = .ok (.iload_n 3, 1) := (congrArg (fun b => decode b 54) cd_128).trans dX8_deed_54
theorem e128_55 : decode (ma_cd 128) 55 = .ok (.iadd, 1) := (congrArg (fun b => decode b 55) cd_128).trans dX8_deed_55
theorem e128_56 : decode (ma_cd 128) 56 = .ok (.iload_n 1, 1) := (congrArg (fun b => decode b 56) cd_128).trans dX8_deed_56
theorem e128_57 : decode (ma_cd 128) 57 = .ok (.iastore, 1) := (congrArg (fun b => decode b 57) cd_128).trans dX8_deed_57
theorem e128_58 : decode (ma_cd 128) 58 = .ok (.aload_n 0, 1) := (congrArg (fun b => decode b 58) cd_128).trans dX8_deed_58
theorem e128_59 : decode (ma_cd 128) 59 = .ok (.getfield 9, 3) := (congrArg (fun b => decode b 59) cd_128).trans dX8_deed_59
theorem e128_62 : decode (ma_cd 128) 62 = .ok (.bipush 46, 2) := (congrArg (fun b => decode b 62) cd_128).trans dX8_deed_62
theorem e128_64 : decode (ma_cd 128) 64 = .ok (.iload_n 3, 1) := (congrArg (fun b => decode b 64) cd_128).trans dX8_deed_64
theorem e128_65 : decode (ma_cd 128) 65 = .ok (.iadd, 1) := (congrArg (fun b => decode b 65) cd_128).trans dX8_deed_65
theorem e128_66 : decode (ma_cd 128) 66 = .ok (.iload_n 2, 1) := (congrArg (fun b => decode b 66) cd_128).trans dX8_deed_66
theorem e128_67 : decode (ma_cd 128) 67 = .ok (.iastore, 1) := (congrArg (fun b => decode b 67) cd_128).trans dX8_deed_67
theorem e128_68 : decode (ma_cd 128) 68 = .ok (.aload_n 0, 1) := (congrArg (fun b => decode b 68) cd_128).trans dX8_deed_68
theorem e128_69 : decode (ma_cd 128) 69 = .ok (.getfield 9, 3) := (congrArg (fun b => decode b 69) cd_128).trans dX8_deed_69
theorem e128_72 : decode (ma_cd 128) 72 = .ok (.iconst 3, 1) := (congrArg (fun b => decode b 72) cd_128).trans dX8_deed_72
theorem e128_73 : decode (ma_cd 128) 73 = .ok (.iload_n 3, 1) := (congrArg (fun b => decode b 73) cd_128).trans dX8_deed_73
theorem e128_74 : decode (ma_cd 128) 74 = .ok (.iadd, 1) := (congrArg (fun b => decode b 74) cd_128).trans dX8_deed_74
theorem e128_75 : decode (ma_cd 128) 75 = .ok (.iconst 0, 1) := (congrArg (fun b => decode b 75) cd_128).trans dX8_deed_75
theorem e128_76 : decode (ma_cd 128) 76 = .ok (.iastore, 1) := (congrArg (fun b => decode b 76) cd_128).trans dX8_deed_76
theorem e128_77 : decode (ma_cd 128) 77 = .ok (.aload_n 0, 1) := (congrArg (fun b => decode b 77) cd_128).trans dX8_deed_77
theorem e128_78 : decode (ma_cd 128) 78 = .ok (.getfield 9, 3) := (congrArg (fun b => decode b 78) cd_128).trans dX8_deed_78
theorem e128_81 : decode (ma_cd 128) 81 = .ok (.bipush 9, 2) := (congrArg (fun b => decode b 81) cd_128).trans dX8_deed_81
theorem e128_83 : decode (ma_cd 128) 83 = .ok (.iload_n 3, 1) := (congrArg (fun b => decode b 83) cd_128).trans dX8_deed_83
theorem e128_84 : decode (ma_cd 128) 84 = .ok (.iadd, 1) := (congrArg (fun b => decode b 84) cd_128).trans dX8_deed_84
theorem e128_85 : decode (ma_cd 128) 85 = .ok (.bipush 50, 2) := (congrArg (fun b => decode b 85) cd_128).trans dX8_deed_85
theorem e128_87 : decode (ma_cd 128) 87 = .ok (.iastore, 1) := (congrArg (fun b => decode b 87) cd_128).trans dX8_deed_87
theorem e128_88 : decode (ma_cd 128) 88 = .ok (.aload_n 0, 1) := (congrArg (fun b => decode b 88) cd_128).trans dX8_deed_88
theorem e128_89 : decode (ma_cd 128) 89 = .ok (.getfield 9, 3) := (congrArg (fun b => decode b 89) cd_128).trans dX8_deed_89
theorem e128_92 : decode (ma_cd 128) 92 = .ok (.bipush 15, 2) := (congrArg (fun b => decode b 92) cd_128).trans dX8_deed_92
theorem e128_94 : decode (ma_cd 128) 94 = .ok (.iload_n 3, 1) := (congrArg (fun b => decode b 94) cd_128).trans dX8_deed_94
theorem e128_95 : decode (ma_cd 128) 95 = .ok (.iadd, 1) := (congrArg (fun b => decode b 95) cd_128).trans dX8_deed_95
theorem e128_96 : decode (ma_cd 128) 96 = .ok (.iconst 0, 1) := (congrArg (fun b => decode b 96) cd_128).trans dX8_deed_96
theorem e128_97 : decode (ma_cd 128) 97 = .ok (.iastore, 1) := (congrArg (fun b => decode b 97) cd_128).trans dX8_deed_97
theorem e128_98 : decode (ma_cd 128) 98 = .ok (.aload_n 0, 1) := (congrArg (fun b => decode b 98) cd_128).trans dX8_deed_98
theorem e128_99 : decode (ma_cd 128) 99 = .ok (.getfield 9, 3) := (congrArg (fun b => decode b 99) cd_128).trans dX8_deed_99
theorem e128_102 : decode (ma_cd 128) 102 = .ok (.bipush 21, 2) := (congrArg (fun b => decode b 102) cd_128).trans dX8_deed_102
theorem e128_104 : decode (ma_cd 128) 104 = .ok (.iload_n 3, 1) := (congrArg (fun b => decode b 104) cd_128).trans dX8_deed_104
theorem e128_105 : decode (ma_cd 128) 105 = .ok (.iadd, 1) := (congrArg (fun b => decode b 105) cd_128).trans dX8_deed_105
theorem e128_106 : decode (ma_cd 128) 106 = .ok (.iconst 0, 1) := (congrArg (fun b => decode b 106) cd_128).trans dX8_deed_106
theorem e128_107 : decode (ma_cd 128) 107 = .ok (.iastore, 1) := (congrArg (fun b => decode b 107) cd_128).trans dX8_deed_107
theorem e128_108 : decode (ma_cd 128) 108 = .ok (.aload_n 0, 1) := (congrArg (fun b => decode b 108) cd_128).trans dX8_deed_108
theorem e128_109 : decode (ma_cd 128) 109 = .ok (.getfield 9, 3) := (congrArg (fun b => decode b 109) cd_128).trans dX8_deed_109
theorem e128_112 : decode (ma_cd 128) 112 = .ok (.bipush 27, 2) := (congrArg (fun b => decode b 112) cd_128).trans dX8_deed_112
theorem e128_114 : decode (ma_cd 128) 114 = .ok (.iload_n 3, 1) := (congrArg (fun b => decode b 114) cd_128).trans dX8_deed_114
theorem e128_115 : decode (ma_cd 128) 115 = .ok (.iadd, 1) := (congrArg (fun b => decode b 115) cd_128).trans dX8_deed_115
theorem e128_116 : decode (ma_cd 128) 116 = .ok (.iconst 0, 1) := (congrArg (fun b => decode b 116) cd_128).trans dX8_deed_116
theorem e128_117 : decode (ma_cd 128) 117 = .ok (.iastore, 1) := (congrArg (fun b => decode b 117) cd_128).trans dX8_deed_117
theorem e128_118 : decode (ma_cd 128) 118 = .ok (.iconst 0, 1) := (congrArg (fun b => decode b 118) cd_128).trans dX8_deed_118
theorem e128_119 : decode (ma_cd 128) 119 = .ok (.istore 4, 2) := (congrArg (fun b => decode b 119) cd_128).trans dX8_deed_119
theorem e128_121 : decode (ma_cd 128) 121 = .ok (.iload 4, 2) := (congrArg (fun b => decode b 121) cd_128).trans dX8_deed_121
theorem e128_123 : decode (ma_cd 128) 123 = .ok (.iconst 4, 1) := (congrArg (fun b => decode b 123) cd_128).trans dX8_deed_123
theorem e128_124 : decode (ma_cd 128) 124 = .ok (.if_icmp .ge 24, 3) := (congrArg (fun b => decode b 124) cd_128).trans dX8_deed_124
theorem e128_127 : decode (ma_cd 128) 127 = .ok (.aload_n 0, 1) := (congrArg (fun b => decode b 127) cd_128).trans dX8_deed_127
theorem e128_128 : decode (ma_cd 128) 128 = .ok (.getfield 9, 3) := (congrArg (fun b => decode b 128) cd_128).trans dX8_deed_128
theorem e128_131 : decode (ma_cd 128) 131 = .ok (.bipush 52, 2) := (congrArg (fun b => decode b 131) cd_128).trans dX8_deed_131
theorem e128_133 : decode (ma_cd 128) 133 = .ok (.iconst 4, 1) := (congrArg (fun b => decode b 133) cd_128).trans dX8_deed_133
theorem e128_134 : decode (ma_cd 128) 134 = .ok (.iload_n 3, 1) := (congrArg (fun b => decode b 134) cd_128).trans dX8_deed_134
theorem e128_135 : decode (ma_cd 128) 135 = .ok (.imul, 1) := (congrArg (fun b => decode b 135) cd_128).trans dX8_deed_135
theorem e128_136 : decode (ma_cd 128) 136 = .ok (.iadd, 1) := (congrArg (fun b => decode b 136) cd_128).trans dX8_deed_136
theorem e128_137 : decode (ma_cd 128) 137 = .ok (.iload 4, 2) := (congrArg (fun b => decode b 137) cd_128).trans dX8_deed_137
theorem e128_139 : decode (ma_cd 128) 139 = .ok (.iadd, 1) := (congrArg (fun b => decode b 139) cd_128).trans dX8_deed_139
theorem e128_140 : decode (ma_cd 128) 140 = .ok (.iconst 0, 1) := (congrArg (fun b => decode b 140) cd_128).trans dX8_deed_140
theorem e128_141 : decode (ma_cd 128) 141 = .ok (.iastore, 1) := (congrArg (fun b => decode b 141) cd_128).trans dX8_deed_141
theorem e128_142 : decode (ma_cd 128) 142 = .ok (.iinc 4 1, 3) := (congrArg (fun b => decode b 142) cd_128).trans dX8_deed_142
theorem e128_145 : decode (ma_cd 128) 145 = .ok (.goto (-24), 3) := (congrArg (fun b => decode b 145) cd_128).trans dX8_deed_145
theorem e128_148 : decode (ma_cd 128) 148 = .ok (.aload_n 0, 1) := (congrArg (fun b => decode b 148) cd_128).trans dX8_deed_148
theorem e128_149 : decode (ma_cd 128) 149 = .ok (.getfield 9, 3) := (congrArg (fun b => decode b 149) cd_128).trans dX8_deed_149
theorem e128_152 : decode (ma_cd 128) 152 = .ok (.bipush 33, 2) := (congrArg (fun b => decode b 152) cd_128).trans dX8_deed_152
theorem e128_154 : decode (ma_cd 128) 154 = .ok (.dup2, 1) := (congrArg (fun b => decode b 154) cd_128).trans dX8_deed_154
theorem e128_155 : decode (ma_cd 128) 155 = .ok (.iaload, 1) := (congrArg (fun b => decode b 155) cd_128).trans dX8_deed_155
theorem e128_156 : decode (ma_cd 128) 156 = .ok (.iconst 1, 1) := (congrArg (fun b => decode b 156) cd_128).trans dX8_deed_156
theorem e128_157 : decode (ma_cd 128) 157 = .ok (.iadd, 1) := (congrArg (fun b => decode b 157) cd_128).trans dX8_deed_157
theorem e128_158 : decode (ma_cd 128) 158 = .ok (.iastore, 1) := (congrArg (fun b => decode b 158) cd_128).trans dX8_deed_158
theorem e128_159 : decode (ma_cd 128) 159 = .ok (.iload_n 3, 1) := (congrArg (fun b => decode b 159) cd_128).trans dX8_deed_159
theorem e128_160 : decode (ma_cd 128) 160 = .ok (.ireturn, 1) := (congrArg (fun b => decode b 160) cd_128).trans dX8_deed_160
theorem Sh128_121 {ro : ma_RO} {d : Nat} : (∀ (v0 : Option Value) (v1 : Option Value) (v2 : Option Value) (v3 : Option Value) (x1 : Int32) (st : List Value) (σ : ma_H), ma_rn ro d 128 (121, [v0, v1, v2, v3, some (.int x1)], st, SH, σ) = ma_rn ro d 128 (123, [v0, v1, v2, v3, some (.int x1)], .int x1 :: st, SH, σ)) := fun v0 v1 v2 v3 x1 st σ => q_go e128_121 rfl rfl
theorem S128 {ro : ma_RO} {d : Nat} : (∀ (v0 : Option Value) (v2 : Option Value) (v3 : Option Value) (v4 : Option Value) (x1 : Int32) (st : List Value) (σ : ma_H), ma_rn ro d 128 (0, [v0, some (.int x1), v2, v3, v4], st, SH, σ) = ma_rn ro d 128 (1, [v0, some (.int x1), v2, v3, v4], .int x1 :: st, SH, σ)) ∧
  (∀ (v0 : Option Value) (v1 : Option Value) (v2 : Option Value) (v3 : Option Value) (v4 : Option Value) (st : List Value) (σ : ma_H), ma_rn ro d 128 (1, [v0, v1, v2, v3, v4], st, SH, σ) = ma_rn ro d 128 (2, [v0, v1, v2, v3, v4], .int (nI 0) :: st, SH, σ)) ∧
  (∀ (v0 : Option Value) (v1 : Option Value) (v2 : Option Value) (v3 : Option Value) (v4 : Option Value) (st : List Value) (σ : ma_H), ma_rn ro d 128 (2, [v0, v1, v2, v3, v4], st, SH, σ) = ma_rn ro d 128 (4, [v0, v1, v2, v3, v4], .int (nI 6) :: st, SH, σ)) ∧
  (∀ (v0 : Option Value) (v1 : Option Value) (v2 : Option Value) (v3 : Option Value) (v4 : Option Value) (x1 : Int32) (x2 : Int32) (x3 : Int32) (σ : ma_H), ma_rn ro (d + 1) 128 (4, [v0, v1, v2, v3, v4], .int x3 :: .int x2 :: .int x1 :: [], SH, σ) = (ma_ev ro d 102 [.int x1, .int x2, .int x3] SH σ).bind (fun q => ma_rn ro (d + 1) 128 (7, [v0, v1, v2, v3, v4], (q.1.toList ++ []), q.2.1, q.2.2))) ∧
  (∀ (v0 : Option Value) (v1 : Option Value) (v2 : Option Value) (v3 : Option Value) (v4 : Option Value) (x1 : Int32) (st : List Value) (σ : ma_H), ma_rn ro d 128 (7, [v0, v1, v2, v3, v4], .int x1 :: st, SH, σ) = if x1 = nI 0 then ma_rn ro d 128 (10, [v0, v1, v2, v3, v4], st, SH, σ) else ma_rn ro d 128 (12, [v0, v1, v2, v3, v4], st, SH, σ)) ∧
  (∀ (v0 : Option Value) (v1 : Option Value) (v2 : Option Value) (v3 : Option Value) (v4 : Option Value) (st : List Value) (σ : ma_H), ma_rn ro d 128 (10, [v0, v1, v2, v3, v4], st, SH, σ) = ma_rn ro d 128 (11, [v0, v1, v2, v3, v4], .int ((-1)) :: st, SH, σ)) ∧
  (∀ (v0 : Option Value) (v1 : Option Value) (v2 : Option Value) (v3 : Option Value) (v4 : Option Value) (x1 : Int32) (σ : ma_H), ma_rn ro d 128 (11, [v0, v1, v2, v3, v4], [.int x1], SH, σ) = some (some (.int x1), SH, σ)) ∧
  (∀ (v0 : Option Value) (v1 : Option Value) (v3 : Option Value) (v4 : Option Value) (x1 : Int32) (st : List Value) (σ : ma_H), ma_rn ro d 128 (12, [v0, v1, some (.int x1), v3, v4], st, SH, σ) = ma_rn ro d 128 (13, [v0, v1, some (.int x1), v3, v4], .int x1 :: st, SH, σ)) ∧
  (∀ (v0 : Option Value) (v1 : Option Value) (v2 : Option Value) (v3 : Option Value) (v4 : Option Value) (st : List Value) (σ : ma_H), ma_rn ro d 128 (13, [v0, v1, v2, v3, v4], st, SH, σ) = ma_rn ro d 128 (14, [v0, v1, v2, v3, v4], .int (nI 0) :: st, SH, σ)) ∧
  (∀ (v0 : Option Value) (v1 : Option Value) (v2 : Option Value) (v3 : Option Value) (v4 : Option Value) (st : List Value) (σ : ma_H), ma_rn ro d 128 (14, [v0, v1, v2, v3, v4], st, SH, σ) = ma_rn ro d 128 (16, [v0, v1, v2, v3, v4], .int (nI 9) :: st, SH, σ)) ∧
  (∀ (v0 : Option Value) (v1 : Option Value) (v2 : Option Value) (v3 : Option Value) (v4 : Option Value) (x1 : Int32) (x2 : Int32) (x3 : Int32) (σ : ma_H), ma_rn ro (d + 1) 128 (16, [v0, v1, v2, v3, v4], .int x3 :: .int x2 :: .int x1 :: [], SH, σ) = (ma_ev ro d 102 [.int x1, .int x2, .int x3] SH σ).bind (fun q => ma_rn ro (d + 1) 128 (19, [v0, v1, v2, v3, v4], (q.1.toList ++ []), q.2.1, q.2.2))) ∧
  (∀ (v0 : Option Value) (v1 : Option Value) (v2 : Option Value) (v3 : Option Value) (v4 : Option Value) (x1 : Int32) (st : List Value) (σ : ma_H), ma_rn ro d 128 (19, [v0, v1, v2, v3, v4], .int x1 :: st, SH, σ) = if x1 = nI 0 then ma_rn ro d 128 (22, [v0, v1, v2, v3, v4], st, SH, σ) else ma_rn ro d 128 (25, [v0, v1, v2, v3, v4], st, SH, σ)) ∧
  (∀ (v0 : Option Value) (v1 : Option Value) (v2 : Option Value) (v3 : Option Value) (v4 : Option Value) (st : List Value) (σ : ma_H), ma_rn ro d 128 (22, [v0, v1, v2, v3, v4], st, SH, σ) = ma_rn ro d 128 (24, [v0, v1, v2, v3, v4], .int ((-2)) :: st, SH, σ)) ∧
  (∀ (v0 : Option Value) (v1 : Option Value) (v2 : Option Value) (v3 : Option Value) (v4 : Option Value) (x1 : Int32) (σ : ma_H), ma_rn ro d 128 (24, [v0, v1, v2, v3, v4], [.int x1], SH, σ) = some (some (.int x1), SH, σ)) ∧
  (∀ (v1 : Option Value) (v2 : Option Value) (v3 : Option Value) (v4 : Option Value) (a1 : Nat) (st : List Value) (σ : ma_H), ma_rn ro d 128 (25, [some (.ref a1), v1, v2, v3, v4], st, SH, σ) = ma_rn ro d 128 (26, [some (.ref a1), v1, v2, v3, v4], .ref a1 :: st, SH, σ)) ∧
  (∀ (v0 : Option Value) (v1 : Option Value) (v2 : Option Value) (v3 : Option Value) (v4 : Option Value) (a1 : Nat) (st : List Value) (σ : ma_H) (hc : hk_cls a1 = 8), ma_rn ro d 128 (26, [v0, v1, v2, v3, v4], .ref a1 :: st, SH, σ) = ma_rn ro d 128 (29, [v0, v1, v2, v3, v4], .ref (91) :: st, SH, σ)) ∧
  (∀ (v0 : Option Value) (v1 : Option Value) (v2 : Option Value) (v3 : Option Value) (v4 : Option Value) (st : List Value) (σ : ma_H), ma_rn ro d 128 (29, [v0, v1, v2, v3, v4], st, SH, σ) = ma_rn ro d 128 (31, [v0, v1, v2, v3, v4], .int (nI 33) :: st, SH, σ)) ∧
  (∀ (v0 : Option Value) (v1 : Option Value) (v2 : Option Value) (v3 : Option Value) (v4 : Option Value) (k : Nat) (a2 : Nat) (st : List Value) (σ : ma_H) (hk : k < hk_len a2), ma_rn ro d 128 (31, [v0, v1, v2, v3, v4], .int (nI k) :: .ref a2 :: st, SH, σ) = ma_rn ro d 128 (32, [v0, v1, v2, v3, v4], .int (σ a2 k) :: st, SH, σ)) ∧
  (∀ (v0 : Option Value) (v1 : Option Value) (v2 : Option Value) (v3 : Option Value) (v4 : Option Value) (st : List Value) (σ : ma_H), ma_rn ro d 128 (32, [v0, v1, v2, v3, v4], st, SH, σ) = ma_rn ro d 128 (34, [v0, v1, v2, v3, v4], .int (nI 6) :: st, SH, σ)) ∧
  (∀ (v0 : Option Value) (v1 : Option Value) (v2 : Option Value) (v3 : Option Value) (v4 : Option Value) (x1 : Int32) (x2 : Int32) (st : List Value) (σ : ma_H), ma_rn ro d 128 (34, [v0, v1, v2, v3, v4], .int x1 :: .int x2 :: st, SH, σ) = if x2 = x1 then ma_rn ro d 128 (37, [v0, v1, v2, v3, v4], st, SH, σ) else ma_rn ro d 128 (40, [v0, v1, v2, v3, v4], st, SH, σ)) ∧
  (∀ (v0 : Option Value) (v1 : Option Value) (v2 : Option Value) (v3 : Option Value) (v4 : Option Value) (st : List Value) (σ : ma_H), ma_rn ro d 128 (37, [v0, v1, v2, v3, v4], st, SH, σ) = ma_rn ro d 128 (39, [v0, v1, v2, v3, v4], .int ((-4)) :: st, SH, σ)) ∧
  (∀ (v0 : Option Value) (v1 : Option Value) (v2 : Option Value) (v3 : Option Value) (v4 : Option Value) (x1 : Int32) (σ : ma_H), ma_rn ro d 128 (39, [v0, v1, v2, v3, v4], [.int x1], SH, σ) = some (some (.int x1), SH, σ)) ∧
  (∀ (v1 : Option Value) (v2 : Option Value) (v3 : Option Value) (v4 : Option Value) (a1 : Nat) (st : List Value) (σ : ma_H), ma_rn ro d 128 (40, [some (.ref a1), v1, v2, v3, v4], st, SH, σ) = ma_rn ro d 128 (41, [some (.ref a1), v1, v2, v3, v4], .ref a1 :: st, SH, σ)) ∧
  (∀ (v0 : Option Value) (v1 : Option Value) (v2 : Option Value) (v3 : Option Value) (v4 : Option Value) (a1 : Nat) (st : List Value) (σ : ma_H) (hc : hk_cls a1 = 8), ma_rn ro d 128 (41, [v0, v1, v2, v3, v4], .ref a1 :: st, SH, σ) = ma_rn ro d 128 (44, [v0, v1, v2, v3, v4], .ref (91) :: st, SH, σ)) ∧
  (∀ (v0 : Option Value) (v1 : Option Value) (v2 : Option Value) (v3 : Option Value) (v4 : Option Value) (st : List Value) (σ : ma_H), ma_rn ro d 128 (44, [v0, v1, v2, v3, v4], st, SH, σ) = ma_rn ro d 128 (46, [v0, v1, v2, v3, v4], .int (nI 33) :: st, SH, σ)) ∧
  (∀ (v0 : Option Value) (v1 : Option Value) (v2 : Option Value) (v3 : Option Value) (v4 : Option Value) (k : Nat) (a2 : Nat) (st : List Value) (σ : ma_H) (hk : k < hk_len a2), ma_rn ro d 128 (46, [v0, v1, v2, v3, v4], .int (nI k) :: .ref a2 :: st, SH, σ) = ma_rn ro d 128 (47, [v0, v1, v2, v3, v4], .int (σ a2 k) :: st, SH, σ)) ∧
  (∀ (v0 : Option Value) (v1 : Option Value) (v3 : Option Value) (v4 : Option Value) (x9 : Int32) (x1 : Int32) (st : List Value) (σ : ma_H), ma_rn ro d 128 (47, [v0, v1, some (.int x9), v3, v4], .int x1 :: st, SH, σ) = ma_rn ro d 128 (48, [v0, v1, some (.int x9), some (.int x1), v4], st, SH, σ)) ∧
  (∀ (v1 : Option Value) (v2 : Option Value) (v3 : Option Value) (v4 : Option Value) (a1 : Nat) (st : List Value) (σ : ma_H), ma_rn ro d 128 (48, [some (.ref a1), v1, v2, v3, v4], st, SH, σ) = ma_rn ro d 128 (49, [some (.ref a1), v1, v2, v3, v4], .ref a1 :: st, SH, σ)) ∧
  (∀ (v0 : Option Value) (v1 : Option Value) (v2 : Option Value) (v3 : Option Value) (v4 : Option Value) (a1 : Nat) (st : List Value) (σ : ma_H) (hc : hk_cls a1 = 8), ma_rn ro d 128 (49, [v0, v1, v2, v3, v4], .ref a1 :: st, SH, σ) = ma_rn ro d 128 (52, [v0, v1, v2, v3, v4], .ref (91) :: st, SH, σ)) ∧
  (∀ (v0 : Option Value) (v1 : Option Value) (v2 : Option Value) (v3 : Option Value) (v4 : Option Value) (st : List Value) (σ : ma_H), ma_rn ro d 128 (52, [v0, v1, v2, v3, v4], st, SH, σ) = ma_rn ro d 128 (54, [v0, v1, v2, v3, v4], .int (nI 40) :: st, SH, σ)) ∧
  (∀ (v0 : Option Value) (v1 : Option Value) (v2 : Option Value) (v4 : Option Value) (x1 : Int32) (st : List Value) (σ : ma_H), ma_rn ro d 128 (54, [v0, v1, v2, some (.int x1), v4], st, SH, σ) = ma_rn ro d 128 (55, [v0, v1, v2, some (.int x1), v4], .int x1 :: st, SH, σ)) ∧
  (∀ (v0 : Option Value) (v1 : Option Value) (v2 : Option Value) (v3 : Option Value) (v4 : Option Value) (x1 : Int32) (x2 : Int32) (st : List Value) (σ : ma_H), ma_rn ro d 128 (55, [v0, v1, v2, v3, v4], .int x1 :: .int x2 :: st, SH, σ) = ma_rn ro d 128 (56, [v0, v1, v2, v3, v4], .int (x2 + x1) :: st, SH, σ)) ∧
  (∀ (v0 : Option Value) (v2 : Option Value) (v3 : Option Value) (v4 : Option Value) (x1 : Int32) (st : List Value) (σ : ma_H), ma_rn ro d 128 (56, [v0, some (.int x1), v2, v3, v4], st, SH, σ) = ma_rn ro d 128 (57, [v0, some (.int x1), v2, v3, v4], .int x1 :: st, SH, σ)) ∧
  (∀ (v0 : Option Value) (v1 : Option Value) (v2 : Option Value) (v3 : Option Value) (v4 : Option Value) (x1 : Int32) (k : Nat) (a3 : Nat) (st : List Value) (σ : ma_H) (hk : k < hk_len a3), ma_rn ro d 128 (57, [v0, v1, v2, v3, v4], .int x1 :: .int (nI k) :: .ref a3 :: st, SH, σ) = ma_rn ro d 128 (58, [v0, v1, v2, v3, v4], st, SH, (ma_up σ a3 k x1))) ∧
  (∀ (v1 : Option Value) (v2 : Option Value) (v3 : Option Value) (v4 : Option Value) (a1 : Nat) (st : List Value) (σ : ma_H), ma_rn ro d 128 (58, [some (.ref a1), v1, v2, v3, v4], st, SH, σ) = ma_rn ro d 128 (59, [some (.ref a1), v1, v2, v3, v4], .ref a1 :: st, SH, σ)) ∧
  (∀ (v0 : Option Value) (v1 : Option Value) (v2 : Option Value) (v3 : Option Value) (v4 : Option Value) (a1 : Nat) (st : List Value) (σ : ma_H) (hc : hk_cls a1 = 8), ma_rn ro d 128 (59, [v0, v1, v2, v3, v4], .ref a1 :: st, SH, σ) = ma_rn ro d 128 (62, [v0, v1, v2, v3, v4], .ref (91) :: st, SH, σ)) ∧
  (∀ (v0 : Option Value) (v1 : Option Value) (v2 : Option Value) (v3 : Option Value) (v4 : Option Value) (st : List Value) (σ : ma_H), ma_rn ro d 128 (62, [v0, v1, v2, v3, v4], st, SH, σ) = ma_rn ro d 128 (64, [v0, v1, v2, v3, v4], .int (nI 46) :: st, SH, σ)) ∧
  (∀ (v0 : Option Value) (v1 : Option Value) (v2 : Option Value) (v4 : Option Value) (x1 : Int32) (st : List Value) (σ : ma_H), ma_rn ro d 128 (64, [v0, v1, v2, some (.int x1), v4], st, SH, σ) = ma_rn ro d 128 (65, [v0, v1, v2, some (.int x1), v4], .int x1 :: st, SH, σ)) ∧
  (∀ (v0 : Option Value) (v1 : Option Value) (v2 : Option Value) (v3 : Option Value) (v4 : Option Value) (x1 : Int32) (x2 : Int32) (st : List Value) (σ : ma_H), ma_rn ro d 128 (65, [v0, v1, v2, v3, v4], .int x1 :: .int x2 :: st, SH, σ) = ma_rn ro d 128 (66, [v0, v1, v2, v3, v4], .int (x2 + x1) :: st, SH, σ)) ∧
  (∀ (v0 : Option Value) (v1 : Option Value) (v3 : Option Value) (v4 : Option Value) (x1 : Int32) (st : List Value) (σ : ma_H), ma_rn ro d 128 (66, [v0, v1, some (.int x1), v3, v4], st, SH, σ) = ma_rn ro d 128 (67, [v0, v1, some (.int x1), v3, v4], .int x1 :: st, SH, σ)) ∧
  (∀ (v0 : Option Value) (v1 : Option Value) (v2 : Option Value) (v3 : Option Value) (v4 : Option Value) (x1 : Int32) (k : Nat) (a3 : Nat) (st : List Value) (σ : ma_H) (hk : k < hk_len a3), ma_rn ro d 128 (67, [v0, v1, v2, v3, v4], .int x1 :: .int (nI k) :: .ref a3 :: st, SH, σ) = ma_rn ro d 128 (68, [v0, v1, v2, v3, v4], st, SH, (ma_up σ a3 k x1))) ∧
  (∀ (v1 : Option Value) (v2 : Option Value) (v3 : Option Value) (v4 : Option Value) (a1 : Nat) (st : List Value) (σ : ma_H), ma_rn ro d 128 (68, [some (.ref a1), v1, v2, v3, v4], st, SH, σ) = ma_rn ro d 128 (69, [some (.ref a1), v1, v2, v3, v4], .ref a1 :: st, SH, σ)) ∧
  (∀ (v0 : Option Value) (v1 : Option Value) (v2 : Option Value) (v3 : Option Value) (v4 : Option Value) (a1 : Nat) (st : List Value) (σ : ma_H) (hc : hk_cls a1 = 8), ma_rn ro d 128 (69, [v0, v1, v2, v3, v4], .ref a1 :: st, SH, σ) = ma_rn ro d 128 (72, [v0, v1, v2, v3, v4], .ref (91) :: st, SH, σ)) ∧
  (∀ (v0 : Option Value) (v1 : Option Value) (v2 : Option Value) (v3 : Option Value) (v4 : Option Value) (st : List Value) (σ : ma_H), ma_rn ro d 128 (72, [v0, v1, v2, v3, v4], st, SH, σ) = ma_rn ro d 128 (73, [v0, v1, v2, v3, v4], .int (nI 3) :: st, SH, σ)) ∧
  (∀ (v0 : Option Value) (v1 : Option Value) (v2 : Option Value) (v4 : Option Value) (x1 : Int32) (st : List Value) (σ : ma_H), ma_rn ro d 128 (73, [v0, v1, v2, some (.int x1), v4], st, SH, σ) = ma_rn ro d 128 (74, [v0, v1, v2, some (.int x1), v4], .int x1 :: st, SH, σ)) ∧
  (∀ (v0 : Option Value) (v1 : Option Value) (v2 : Option Value) (v3 : Option Value) (v4 : Option Value) (x1 : Int32) (x2 : Int32) (st : List Value) (σ : ma_H), ma_rn ro d 128 (74, [v0, v1, v2, v3, v4], .int x1 :: .int x2 :: st, SH, σ) = ma_rn ro d 128 (75, [v0, v1, v2, v3, v4], .int (x2 + x1) :: st, SH, σ)) ∧
  (∀ (v0 : Option Value) (v1 : Option Value) (v2 : Option Value) (v3 : Option Value) (v4 : Option Value) (st : List Value) (σ : ma_H), ma_rn ro d 128 (75, [v0, v1, v2, v3, v4], st, SH, σ) = ma_rn ro d 128 (76, [v0, v1, v2, v3, v4], .int (nI 0) :: st, SH, σ)) ∧
  (∀ (v0 : Option Value) (v1 : Option Value) (v2 : Option Value) (v3 : Option Value) (v4 : Option Value) (x1 : Int32) (k : Nat) (a3 : Nat) (st : List Value) (σ : ma_H) (hk : k < hk_len a3), ma_rn ro d 128 (76, [v0, v1, v2, v3, v4], .int x1 :: .int (nI k) :: .ref a3 :: st, SH, σ) = ma_rn ro d 128 (77, [v0, v1, v2, v3, v4], st, SH, (ma_up σ a3 k x1))) ∧
  (∀ (v1 : Option Value) (v2 : Option Value) (v3 : Option Value) (v4 : Option Value) (a1 : Nat) (st : List Value) (σ : ma_H), ma_rn ro d 128 (77, [some (.ref a1), v1, v2, v3, v4], st, SH, σ) = ma_rn ro d 128 (78, [some (.ref a1), v1, v2, v3, v4], .ref a1 :: st, SH, σ)) ∧
  (∀ (v0 : Option Value) (v1 : Option Value) (v2 : Option Value) (v3 : Option Value) (v4 : Option Value) (a1 : Nat) (st : List Value) (σ : ma_H) (hc : hk_cls a1 = 8), ma_rn ro d 128 (78, [v0, v1, v2, v3, v4], .ref a1 :: st, SH, σ) = ma_rn ro d 128 (81, [v0, v1, v2, v3, v4], .ref (91) :: st, SH, σ)) ∧
  (∀ (v0 : Option Value) (v1 : Option Value) (v2 : Option Value) (v3 : Option Value) (v4 : Option Value) (st : List Value) (σ : ma_H), ma_rn ro d 128 (81, [v0, v1, v2, v3, v4], st, SH, σ) = ma_rn ro d 128 (83, [v0, v1, v2, v3, v4], .int (nI 9) :: st, SH, σ)) ∧
  (∀ (v0 : Option Value) (v1 : Option Value) (v2 : Option Value) (v4 : Option Value) (x1 : Int32) (st : List Value) (σ : ma_H), ma_rn ro d 128 (83, [v0, v1, v2, some (.int x1), v4], st, SH, σ) = ma_rn ro d 128 (84, [v0, v1, v2, some (.int x1), v4], .int x1 :: st, SH, σ)) ∧
  (∀ (v0 : Option Value) (v1 : Option Value) (v2 : Option Value) (v3 : Option Value) (v4 : Option Value) (x1 : Int32) (x2 : Int32) (st : List Value) (σ : ma_H), ma_rn ro d 128 (84, [v0, v1, v2, v3, v4], .int x1 :: .int x2 :: st, SH, σ) = ma_rn ro d 128 (85, [v0, v1, v2, v3, v4], .int (x2 + x1) :: st, SH, σ)) ∧
  (∀ (v0 : Option Value) (v1 : Option Value) (v2 : Option Value) (v3 : Option Value) (v4 : Option Value) (st : List Value) (σ : ma_H), ma_rn ro d 128 (85, [v0, v1, v2, v3, v4], st, SH, σ) = ma_rn ro d 128 (87, [v0, v1, v2, v3, v4], .int (nI 50) :: st, SH, σ)) ∧
  (∀ (v0 : Option Value) (v1 : Option Value) (v2 : Option Value) (v3 : Option Value) (v4 : Option Value) (x1 : Int32) (k : Nat) (a3 : Nat) (st : List Value) (σ : ma_H) (hk : k < hk_len a3), ma_rn ro d 128 (87, [v0, v1, v2, v3, v4], .int x1 :: .int (nI k) :: .ref a3 :: st, SH, σ) = ma_rn ro d 128 (88, [v0, v1, v2, v3, v4], st, SH, (ma_up σ a3 k x1))) ∧
  (∀ (v1 : Option Value) (v2 : Option Value) (v3 : Option Value) (v4 : Option Value) (a1 : Nat) (st : List Value) (σ : ma_H), ma_rn ro d 128 (88, [some (.ref a1), v1, v2, v3, v4], st, SH, σ) = ma_rn ro d 128 (89, [some (.ref a1), v1, v2, v3, v4], .ref a1 :: st, SH, σ)) ∧
  (∀ (v0 : Option Value) (v1 : Option Value) (v2 : Option Value) (v3 : Option Value) (v4 : Option Value) (a1 : Nat) (st : List Value) (σ : ma_H) (hc : hk_cls a1 = 8), ma_rn ro d 128 (89, [v0, v1, v2, v3, v4], .ref a1 :: st, SH, σ) = ma_rn ro d 128 (92, [v0, v1, v2, v3, v4], .ref (91) :: st, SH, σ)) ∧
  (∀ (v0 : Option Value) (v1 : Option Value) (v2 : Option Value) (v3 : Option Value) (v4 : Option Value) (st : List Value) (σ : ma_H), ma_rn ro d 128 (92, [v0, v1, v2, v3, v4], st, SH, σ) = ma_rn ro d 128 (94, [v0, v1, v2, v3, v4], .int (nI 15) :: st, SH, σ)) ∧
  (∀ (v0 : Option Value) (v1 : Option Value) (v2 : Option Value) (v4 : Option Value) (x1 : Int32) (st : List Value) (σ : ma_H), ma_rn ro d 128 (94, [v0, v1, v2, some (.int x1), v4], st, SH, σ) = ma_rn ro d 128 (95, [v0, v1, v2, some (.int x1), v4], .int x1 :: st, SH, σ)) ∧
  (∀ (v0 : Option Value) (v1 : Option Value) (v2 : Option Value) (v3 : Option Value) (v4 : Option Value) (x1 : Int32) (x2 : Int32) (st : List Value) (σ : ma_H), ma_rn ro d 128 (95, [v0, v1, v2, v3, v4], .int x1 :: .int x2 :: st, SH, σ) = ma_rn ro d 128 (96, [v0, v1, v2, v3, v4], .int (x2 + x1) :: st, SH, σ)) ∧
  (∀ (v0 : Option Value) (v1 : Option Value) (v2 : Option Value) (v3 : Option Value) (v4 : Option Value) (st : List Value) (σ : ma_H), ma_rn ro d 128 (96, [v0, v1, v2, v3, v4], st, SH, σ) = ma_rn ro d 128 (97, [v0, v1, v2, v3, v4], .int (nI 0) :: st, SH, σ)) ∧
  (∀ (v0 : Option Value) (v1 : Option Value) (v2 : Option Value) (v3 : Option Value) (v4 : Option Value) (x1 : Int32) (k : Nat) (a3 : Nat) (st : List Value) (σ : ma_H) (hk : k < hk_len a3), ma_rn ro d 128 (97, [v0, v1, v2, v3, v4], .int x1 :: .int (nI k) :: .ref a3 :: st, SH, σ) = ma_rn ro d 128 (98, [v0, v1, v2, v3, v4], st, SH, (ma_up σ a3 k x1))) ∧
  (∀ (v1 : Option Value) (v2 : Option Value) (v3 : Option Value) (v4 : Option Value) (a1 : Nat) (st : List Value) (σ : ma_H), ma_rn ro d 128 (98, [some (.ref a1), v1, v2, v3, v4], st, SH, σ) = ma_rn ro d 128 (99, [some (.ref a1), v1, v2, v3, v4], .ref a1 :: st, SH, σ)) ∧
  (∀ (v0 : Option Value) (v1 : Option Value) (v2 : Option Value) (v3 : Option Value) (v4 : Option Value) (a1 : Nat) (st : List Value) (σ : ma_H) (hc : hk_cls a1 = 8), ma_rn ro d 128 (99, [v0, v1, v2, v3, v4], .ref a1 :: st, SH, σ) = ma_rn ro d 128 (102, [v0, v1, v2, v3, v4], .ref (91) :: st, SH, σ)) ∧
  (∀ (v0 : Option Value) (v1 : Option Value) (v2 : Option Value) (v3 : Option Value) (v4 : Option Value) (st : List Value) (σ : ma_H), ma_rn ro d 128 (102, [v0, v1, v2, v3, v4], st, SH, σ) = ma_rn ro d 128 (104, [v0, v1, v2, v3, v4], .int (nI 21) :: st, SH, σ)) ∧
  (∀ (v0 : Option Value) (v1 : Option Value) (v2 : Option Value) (v4 : Option Value) (x1 : Int32) (st : List Value) (σ : ma_H), ma_rn ro d 128 (104, [v0, v1, v2, some (.int x1), v4], st, SH, σ) = ma_rn ro d 128 (105, [v0, v1, v2, some (.int x1), v4], .int x1 :: st, SH, σ)) ∧
  (∀ (v0 : Option Value) (v1 : Option Value) (v2 : Option Value) (v3 : Option Value) (v4 : Option Value) (x1 : Int32) (x2 : Int32) (st : List Value) (σ : ma_H), ma_rn ro d 128 (105, [v0, v1, v2, v3, v4], .int x1 :: .int x2 :: st, SH, σ) = ma_rn ro d 128 (106, [v0, v1, v2, v3, v4], .int (x2 + x1) :: st, SH, σ)) ∧
  (∀ (v0 : Option Value) (v1 : Option Value) (v2 : Option Value) (v3 : Option Value) (v4 : Option Value) (st : List Value) (σ : ma_H), ma_rn ro d 128 (106, [v0, v1, v2, v3, v4], st, SH, σ) = ma_rn ro d 128 (107, [v0, v1, v2, v3, v4], .int (nI 0) :: st, SH, σ)) ∧
  (∀ (v0 : Option Value) (v1 : Option Value) (v2 : Option Value) (v3 : Option Value) (v4 : Option Value) (x1 : Int32) (k : Nat) (a3 : Nat) (st : List Value) (σ : ma_H) (hk : k < hk_len a3), ma_rn ro d 128 (107, [v0, v1, v2, v3, v4], .int x1 :: .int (nI k) :: .ref a3 :: st, SH, σ) = ma_rn ro d 128 (108, [v0, v1, v2, v3, v4], st, SH, (ma_up σ a3 k x1))) ∧
  (∀ (v1 : Option Value) (v2 : Option Value) (v3 : Option Value) (v4 : Option Value) (a1 : Nat) (st : List Value) (σ : ma_H), ma_rn ro d 128 (108, [some (.ref a1), v1, v2, v3, v4], st, SH, σ) = ma_rn ro d 128 (109, [some (.ref a1), v1, v2, v3, v4], .ref a1 :: st, SH, σ)) ∧
  (∀ (v0 : Option Value) (v1 : Option Value) (v2 : Option Value) (v3 : Option Value) (v4 : Option Value) (a1 : Nat) (st : List Value) (σ : ma_H) (hc : hk_cls a1 = 8), ma_rn ro d 128 (109, [v0, v1, v2, v3, v4], .ref a1 :: st, SH, σ) = ma_rn ro d 128 (112, [v0, v1, v2, v3, v4], .ref (91) :: st, SH, σ)) ∧
  (∀ (v0 : Option Value) (v1 : Option Value) (v2 : Option Value) (v3 : Option Value) (v4 : Option Value) (st : List Value) (σ : ma_H), ma_rn ro d 128 (112, [v0, v1, v2, v3, v4], st, SH, σ) = ma_rn ro d 128 (114, [v0, v1, v2, v3, v4], .int (nI 27) :: st, SH, σ)) ∧
  (∀ (v0 : Option Value) (v1 : Option Value) (v2 : Option Value) (v4 : Option Value) (x1 : Int32) (st : List Value) (σ : ma_H), ma_rn ro d 128 (114, [v0, v1, v2, some (.int x1), v4], st, SH, σ) = ma_rn ro d 128 (115, [v0, v1, v2, some (.int x1), v4], .int x1 :: st, SH, σ)) ∧
  (∀ (v0 : Option Value) (v1 : Option Value) (v2 : Option Value) (v3 : Option Value) (v4 : Option Value) (x1 : Int32) (x2 : Int32) (st : List Value) (σ : ma_H), ma_rn ro d 128 (115, [v0, v1, v2, v3, v4], .int x1 :: .int x2 :: st, SH, σ) = ma_rn ro d 128 (116, [v0, v1, v2, v3, v4], .int (x2 + x1) :: st, SH, σ)) ∧
  (∀ (v0 : Option Value) (v1 : Option Value) (v2 : Option Value) (v3 : Option Value) (v4 : Option Value) (st : List Value) (σ : ma_H), ma_rn ro d 128 (116, [v0, v1, v2, v3, v4], st, SH, σ) = ma_rn ro d 128 (117, [v0, v1, v2, v3, v4], .int (nI 0) :: st, SH, σ)) ∧
  (∀ (v0 : Option Value) (v1 : Option Value) (v2 : Option Value) (v3 : Option Value) (v4 : Option Value) (x1 : Int32) (k : Nat) (a3 : Nat) (st : List Value) (σ : ma_H) (hk : k < hk_len a3), ma_rn ro d 128 (117, [v0, v1, v2, v3, v4], .int x1 :: .int (nI k) :: .ref a3 :: st, SH, σ) = ma_rn ro d 128 (118, [v0, v1, v2, v3, v4], st, SH, (ma_up σ a3 k x1))) ∧
  (∀ (v0 : Option Value) (v1 : Option Value) (v2 : Option Value) (v3 : Option Value) (v4 : Option Value) (st : List Value) (σ : ma_H), ma_rn ro d 128 (118, [v0, v1, v2, v3, v4], st, SH, σ) = ma_rn ro d 128 (119, [v0, v1, v2, v3, v4], .int (nI 0) :: st, SH, σ)) ∧
  (∀ (v0 : Option Value) (v1 : Option Value) (v2 : Option Value) (v4 : Option Value) (x9 : Int32) (x1 : Int32) (st : List Value) (σ : ma_H), ma_rn ro d 128 (119, [v0, v1, v2, some (.int x9), v4], .int x1 :: st, SH, σ) = ma_rn ro d 128 (121, [v0, v1, v2, some (.int x9), some (.int x1)], st, SH, σ)) ∧
  (∀ (v0 : Option Value) (v1 : Option Value) (v2 : Option Value) (v3 : Option Value) (v4 : Option Value) (st : List Value) (σ : ma_H), ma_rn ro d 128 (123, [v0, v1, v2, v3, v4], st, SH, σ) = ma_rn ro d 128 (124, [v0, v1, v2, v3, v4], .int (nI 4) :: st, SH, σ)) ∧
  (∀ (v0 : Option Value) (v1 : Option Value) (v2 : Option Value) (v3 : Option Value) (v4 : Option Value) (x1 : Int32) (x2 : Int32) (st : List Value) (σ : ma_H), ma_rn ro d 128 (124, [v0, v1, v2, v3, v4], .int x1 :: .int x2 :: st, SH, σ) = if x2 < x1 then ma_rn ro d 128 (127, [v0, v1, v2, v3, v4], st, SH, σ) else ma_rn ro d 128 (148, [v0, v1, v2, v3, v4], st, SH, σ)) ∧
  (∀ (v1 : Option Value) (v2 : Option Value) (v3 : Option Value) (v4 : Option Value) (a1 : Nat) (st : List Value) (σ : ma_H), ma_rn ro d 128 (127, [some (.ref a1), v1, v2, v3, v4], st, SH, σ) = ma_rn ro d 128 (128, [some (.ref a1), v1, v2, v3, v4], .ref a1 :: st, SH, σ)) ∧
  (∀ (v0 : Option Value) (v1 : Option Value) (v2 : Option Value) (v3 : Option Value) (v4 : Option Value) (a1 : Nat) (st : List Value) (σ : ma_H) (hc : hk_cls a1 = 8), ma_rn ro d 128 (128, [v0, v1, v2, v3, v4], .ref a1 :: st, SH, σ) = ma_rn ro d 128 (131, [v0, v1, v2, v3, v4], .ref (91) :: st, SH, σ)) ∧
  (∀ (v0 : Option Value) (v1 : Option Value) (v2 : Option Value) (v3 : Option Value) (v4 : Option Value) (st : List Value) (σ : ma_H), ma_rn ro d 128 (131, [v0, v1, v2, v3, v4], st, SH, σ) = ma_rn ro d 128 (133, [v0, v1, v2, v3, v4], .int (nI 52) :: st, SH, σ)) ∧
  (∀ (v0 : Option Value) (v1 : Option Value) (v2 : Option Value) (v3 : Option Value) (v4 : Option Value) (st : List Value) (σ : ma_H), ma_rn ro d 128 (133, [v0, v1, v2, v3, v4], st, SH, σ) = ma_rn ro d 128 (134, [v0, v1, v2, v3, v4], .int (nI 4) :: st, SH, σ)) ∧
  (∀ (v0 : Option Value) (v1 : Option Value) (v2 : Option Value) (v4 : Option Value) (x1 : Int32) (st : List Value) (σ : ma_H), ma_rn ro d 128 (134, [v0, v1, v2, some (.int x1), v4], st, SH, σ) = ma_rn ro d 128 (135, [v0, v1, v2, some (.int x1), v4], .int x1 :: st, SH, σ)) ∧
  (∀ (v0 : Option Value) (v1 : Option Value) (v2 : Option Value) (v3 : Option Value) (v4 : Option Value) (x1 : Int32) (x2 : Int32) (st : List Value) (σ : ma_H), ma_rn ro d 128 (135, [v0, v1, v2, v3, v4], .int x1 :: .int x2 :: st, SH, σ) = ma_rn ro d 128 (136, [v0, v1, v2, v3, v4], .int (x2 * x1) :: st, SH, σ)) ∧
  (∀ (v0 : Option Value) (v1 : Option Value) (v2 : Option Value) (v3 : Option Value) (v4 : Option Value) (x1 : Int32) (x2 : Int32) (st : List Value) (σ : ma_H), ma_rn ro d 128 (136, [v0, v1, v2, v3, v4], .int x1 :: .int x2 :: st, SH, σ) = ma_rn ro d 128 (137, [v0, v1, v2, v3, v4], .int (x2 + x1) :: st, SH, σ)) ∧
  (∀ (v0 : Option Value) (v1 : Option Value) (v2 : Option Value) (v3 : Option Value) (x1 : Int32) (st : List Value) (σ : ma_H), ma_rn ro d 128 (137, [v0, v1, v2, v3, some (.int x1)], st, SH, σ) = ma_rn ro d 128 (139, [v0, v1, v2, v3, some (.int x1)], .int x1 :: st, SH, σ)) ∧
  (∀ (v0 : Option Value) (v1 : Option Value) (v2 : Option Value) (v3 : Option Value) (v4 : Option Value) (x1 : Int32) (x2 : Int32) (st : List Value) (σ : ma_H), ma_rn ro d 128 (139, [v0, v1, v2, v3, v4], .int x1 :: .int x2 :: st, SH, σ) = ma_rn ro d 128 (140, [v0, v1, v2, v3, v4], .int (x2 + x1) :: st, SH, σ)) ∧
  (∀ (v0 : Option Value) (v1 : Option Value) (v2 : Option Value) (v3 : Option Value) (v4 : Option Value) (st : List Value) (σ : ma_H), ma_rn ro d 128 (140, [v0, v1, v2, v3, v4], st, SH, σ) = ma_rn ro d 128 (141, [v0, v1, v2, v3, v4], .int (nI 0) :: st, SH, σ)) ∧
  (∀ (v0 : Option Value) (v1 : Option Value) (v2 : Option Value) (v3 : Option Value) (v4 : Option Value) (x1 : Int32) (k : Nat) (a3 : Nat) (st : List Value) (σ : ma_H) (hk : k < hk_len a3), ma_rn ro d 128 (141, [v0, v1, v2, v3, v4], .int x1 :: .int (nI k) :: .ref a3 :: st, SH, σ) = ma_rn ro d 128 (142, [v0, v1, v2, v3, v4], st, SH, (ma_up σ a3 k x1))) ∧
  (∀ (v0 : Option Value) (v1 : Option Value) (v2 : Option Value) (x1 : Int32) (x9 : Int32) (st : List Value) (σ : ma_H), ma_rn ro d 128 (142, [v0, v1, v2, some (.int x9), some (.int x1)], st, SH, σ) = ma_rn ro d 128 (145, [v0, v1, v2, some (.int x9), some (.int (x1 + nI 1))], st, SH, σ)) ∧
  (∀ (v0 : Option Value) (v1 : Option Value) (v2 : Option Value) (v3 : Option Value) (v4 : Option Value) (st : List Value) (σ : ma_H), ma_rn ro d 128 (145, [v0, v1, v2, v3, v4], st, SH, σ) = ma_rn ro d 128 (121, [v0, v1, v2, v3, v4], st, SH, σ)) ∧
  (∀ (v1 : Option Value) (v2 : Option Value) (v3 : Option Value) (v4 : Option Value) (a1 : Nat) (st : List Value) (σ : ma_H), ma_rn ro d 128 (148, [some (.ref a1), v1, v2, v3, v4], st, SH, σ) = ma_rn ro d 128 (149, [some (.ref a1), v1, v2, v3, v4], .ref a1 :: st, SH, σ)) ∧
  (∀ (v0 : Option Value) (v1 : Option Value) (v2 : Option Value) (v3 : Option Value) (v4 : Option Value) (a1 : Nat) (st : List Value) (σ : ma_H) (hc : hk_cls a1 = 8), ma_rn ro d 128 (149, [v0, v1, v2, v3, v4], .ref a1 :: st, SH, σ) = ma_rn ro d 128 (152, [v0, v1, v2, v3, v4], .ref (91) :: st, SH, σ)) ∧
  (∀ (v0 : Option Value) (v1 : Option Value) (v2 : Option Value) (v3 : Option Value) (v4 : Option Value) (st : List Value) (σ : ma_H), ma_rn ro d 128 (152, [v0, v1, v2, v3, v4], st, SH, σ) = ma_rn ro d 128 (154, [v0, v1, v2, v3, v4], .int (nI 33) :: st, SH, σ)) ∧
  (∀ (v0 : Option Value) (v1 : Option Value) (v2 : Option Value) (v3 : Option Value) (v4 : Option Value) (x1 : Int32) (a2 : Nat) (st : List Value) (σ : ma_H), ma_rn ro d 128 (154, [v0, v1, v2, v3, v4], .int x1 :: .ref a2 :: st, SH, σ) = ma_rn ro d 128 (155, [v0, v1, v2, v3, v4], .int x1 :: .ref a2 :: .int x1 :: .ref a2 :: st, SH, σ)) ∧
  (∀ (v0 : Option Value) (v1 : Option Value) (v2 : Option Value) (v3 : Option Value) (v4 : Option Value) (k : Nat) (a2 : Nat) (st : List Value) (σ : ma_H) (hk : k < hk_len a2), ma_rn ro d 128 (155, [v0, v1, v2, v3, v4], .int (nI k) :: .ref a2 :: st, SH, σ) = ma_rn ro d 128 (156, [v0, v1, v2, v3, v4], .int (σ a2 k) :: st, SH, σ)) ∧
  (∀ (v0 : Option Value) (v1 : Option Value) (v2 : Option Value) (v3 : Option Value) (v4 : Option Value) (st : List Value) (σ : ma_H), ma_rn ro d 128 (156, [v0, v1, v2, v3, v4], st, SH, σ) = ma_rn ro d 128 (157, [v0, v1, v2, v3, v4], .int (nI 1) :: st, SH, σ)) ∧
  (∀ (v0 : Option Value) (v1 : Option Value) (v2 : Option Value) (v3 : Option Value) (v4 : Option Value) (x1 : Int32) (x2 : Int32) (st : List Value) (σ : ma_H), ma_rn ro d 128 (157, [v0, v1, v2, v3, v4], .int x1 :: .int x2 :: st, SH, σ) = ma_rn ro d 128 (158, [v0, v1, v2, v3, v4], .int (x2 + x1) :: st, SH, σ)) ∧
  (∀ (v0 : Option Value) (v1 : Option Value) (v2 : Option Value) (v3 : Option Value) (v4 : Option Value) (x1 : Int32) (k : Nat) (a3 : Nat) (st : List Value) (σ : ma_H) (hk : k < hk_len a3), ma_rn ro d 128 (158, [v0, v1, v2, v3, v4], .int x1 :: .int (nI k) :: .ref a3 :: st, SH, σ) = ma_rn ro d 128 (159, [v0, v1, v2, v3, v4], st, SH, (ma_up σ a3 k x1))) ∧
  (∀ (v0 : Option Value) (v1 : Option Value) (v2 : Option Value) (v4 : Option Value) (x1 : Int32) (st : List Value) (σ : ma_H), ma_rn ro d 128 (159, [v0, v1, v2, some (.int x1), v4], st, SH, σ) = ma_rn ro d 128 (160, [v0, v1, v2, some (.int x1), v4], .int x1 :: st, SH, σ)) ∧
  (∀ (v0 : Option Value) (v1 : Option Value) (v2 : Option Value) (v3 : Option Value) (v4 : Option Value) (x1 : Int32) (σ : ma_H), ma_rn ro d 128 (160, [v0, v1, v2, v3, v4], [.int x1], SH, σ) = some (some (.int x1), SH, σ)) := ⟨fun v0 v2 v3 v4 x1 st σ => q_go e128_0 rfl rfl,
  fun v0 v1 v2 v3 v4 st σ => q_iconst e128_1 (by decide),
  fun v0 v1 v2 v3 v4 st σ => q_bipush e128_2 (by decide),
  fun v0 v1 v2 v3 v4 x1 x2 x3 σ => q_invS (as := [.int x1, .int x2, .int x3]) (rest := []) e128_4 o_128 bn_8_35 c_8_35 ⟨m_102.1, m_102.2.1, m_102.2.2.1⟩ rfl rfl (Nat.le_of_ble_eq_true rfl) (Nat.le_of_ble_eq_true rfl),
  fun v0 v1 v2 v3 v4 x1 st σ => (q_if e128_7 rfl).trans q_ne,
  fun v0 v1 v2 v3 v4 st σ => q_iconst e128_10 (by decide),
  fun v0 v1 v2 v3 v4 x1 σ => q_iret e128_11 r_128,
  fun v0 v1 v3 v4 x1 st σ => q_go e128_12 rfl rfl,
  fun v0 v1 v2 v3 v4 st σ => q_iconst e128_13 (by decide),
  fun v0 v1 v2 v3 v4 st σ => q_bipush e128_14 (by decide),
  fun v0 v1 v2 v3 v4 x1 x2 x3 σ => q_invS (as := [.int x1, .int x2, .int x3]) (rest := []) e128_16 o_128 bn_8_35 c_8_35 ⟨m_102.1, m_102.2.1, m_102.2.2.1⟩ rfl rfl (Nat.le_of_ble_eq_true rfl) (Nat.le_of_ble_eq_true rfl),
  fun v0 v1 v2 v3 v4 x1 st σ => (q_if e128_19 rfl).trans q_ne,
  fun v0 v1 v2 v3 v4 st σ => q_bipush e128_22 (by decide),
  fun v0 v1 v2 v3 v4 x1 σ => q_iret e128_24 r_128,
  fun v1 v2 v3 v4 a1 st σ => q_go e128_25 rfl rfl,
  fun v0 v1 v2 v3 v4 a1 st σ hc => q_getA e128_26 o_128 f_8_9 (by decide) hc,
  fun v0 v1 v2 v3 v4 st σ => q_bipush e128_29 (by decide),
  fun v0 v1 v2 v3 v4 k a2 st σ hk => q_iald e128_31 hk,
  fun v0 v1 v2 v3 v4 st σ => q_bipush e128_32 (by decide),
  fun v0 v1 v2 v3 v4 x1 x2 st σ => (q_cmp e128_34 rfl).trans q_ne,
  fun v0 v1 v2 v3 v4 st σ => q_bipush e128_37 (by decide),
  fun v0 v1 v2 v3 v4 x1 σ => q_iret e128_39 r_128,
  fun v1 v2 v3 v4 a1 st σ => q_go e128_40 rfl rfl,
  fun v0 v1 v2 v3 v4 a1 st σ hc => q_getA e128_41 o_128 f_8_9 (by decide) hc,
  fun v0 v1 v2 v3 v4 st σ => q_bipush e128_44 (by decide),
  fun v0 v1 v2 v3 v4 k a2 st σ hk => q_iald e128_46 hk,
  fun v0 v1 v3 v4 x9 x1 st σ => q_go e128_47 rfl rfl,
  fun v1 v2 v3 v4 a1 st σ => q_go e128_48 rfl rfl,
  fun v0 v1 v2 v3 v4 a1 st σ hc => q_getA e128_49 o_128 f_8_9 (by decide) hc,
  fun v0 v1 v2 v3 v4 st σ => q_bipush e128_52 (by decide),
  fun v0 v1 v2 v4 x1 st σ => q_go e128_54 rfl rfl,
  fun v0 v1 v2 v3 v4 x1 x2 st σ => q_go e128_55 rfl rfl,
  fun v0 v2 v3 v4 x1 st σ => q_go e128_56 rfl rfl,
  fun v0 v1 v2 v3 v4 x1 k a3 st σ hk => q_iast e128_57 hk,
  fun v1 v2 v3 v4 a1 st σ => q_go e128_58 rfl rfl,
  fun v0 v1 v2 v3 v4 a1 st σ hc => q_getA e128_59 o_128 f_8_9 (by decide) hc,
  fun v0 v1 v2 v3 v4 st σ => q_bipush e128_62 (by decide),
  fun v0 v1 v2 v4 x1 st σ => q_go e128_64 rfl rfl,
  fun v0 v1 v2 v3 v4 x1 x2 st σ => q_go e128_65 rfl rfl,
  fun v0 v1 v3 v4 x1 st σ => q_go e128_66 rfl rfl,
  fun v0 v1 v2 v3 v4 x1 k a3 st σ hk => q_iast e128_67 hk,
  fun v1 v2 v3 v4 a1 st σ => q_go e128_68 rfl rfl,
  fun v0 v1 v2 v3 v4 a1 st σ hc => q_getA e128_69 o_128 f_8_9 (by decide) hc,
  fun v0 v1 v2 v3 v4 st σ => q_iconst e128_72 (by decide),
  fun v0 v1 v2 v4 x1 st σ => q_go e128_73 rfl rfl,
  fun v0 v1 v2 v3 v4 x1 x2 st σ => q_go e128_74 rfl rfl,
  fun v0 v1 v2 v3 v4 st σ => q_iconst e128_75 (by decide),
  fun v0 v1 v2 v3 v4 x1 k a3 st σ hk => q_iast e128_76 hk,
  fun v1 v2 v3 v4 a1 st σ => q_go e128_77 rfl rfl,
  fun v0 v1 v2 v3 v4 a1 st σ hc => q_getA e128_78 o_128 f_8_9 (by decide) hc,
  fun v0 v1 v2 v3 v4 st σ => q_bipush e128_81 (by decide),
  fun v0 v1 v2 v4 x1 st σ => q_go e128_83 rfl rfl,
  fun v0 v1 v2 v3 v4 x1 x2 st σ => q_go e128_84 rfl rfl,
  fun v0 v1 v2 v3 v4 st σ => q_bipush e128_85 (by decide),
  fun v0 v1 v2 v3 v4 x1 k a3 st σ hk => q_iast e128_87 hk,
  fun v1 v2 v3 v4 a1 st σ => q_go e128_88 rfl rfl,
  fun v0 v1 v2 v3 v4 a1 st σ hc => q_getA e128_89 o_128 f_8_9 (by decide) hc,
  fun v0 v1 v2 v3 v4 st σ => q_bipush e128_92 (by decide),
  fun v0 v1 v2 v4 x1 st σ => q_go e128_94 rfl rfl,
  fun v0 v1 v2 v3 v4 x1 x2 st σ => q_go e128_95 rfl rfl,
  fun v0 v1 v2 v3 v4 st σ => q_iconst e128_96 (by decide),
  fun v0 v1 v2 v3 v4 x1 k a3 st σ hk => q_iast e128_97 hk,
  fun v1 v2 v3 v4 a1 st σ => q_go e128_98 rfl rfl,
  fun v0 v1 v2 v3 v4 a1 st σ hc => q_getA e128_99 o_128 f_8_9 (by decide) hc,
  fun v0 v1 v2 v3 v4 st σ => q_bipush e128_102 (by decide),
  fun v0 v1 v2 v4 x1 st σ => q_go e128_104 rfl rfl,
  fun v0 v1 v2 v3 v4 x1 x2 st σ => q_go e128_105 rfl rfl,
  fun v0 v1 v2 v3 v4 st σ => q_iconst e128_106 (by decide),
  fun v0 v1 v2 v3 v4 x1 k a3 st σ hk => q_iast e128_107 hk,
  fun v1 v2 v3 v4 a1 st σ => q_go e128_108 rfl rfl,
  fun v0 v1 v2 v3 v4 a1 st σ hc => q_getA e128_109 o_128 f_8_9 (by decide) hc,
  fun v0 v1 v2 v3 v4 st σ => q_bipush e128_112 (by decide),
  fun v0 v1 v2 v4 x1 st σ => q_go e128_114 rfl rfl,
  fun v0 v1 v2 v3 v4 x1 x2 st σ => q_go e128_115 rfl rfl,
  fun v0 v1 v2 v3 v4 st σ => q_iconst e128_116 (by decide),
  fun v0 v1 v2 v3 v4 x1 k a3 st σ hk => q_iast e128_117 hk,
  fun v0 v1 v2 v3 v4 st σ => q_iconst e128_118 (by decide),
  fun v0 v1 v2 v4 x9 x1 st σ => q_go e128_119 rfl rfl,
  fun v0 v1 v2 v3 v4 st σ => q_iconst e128_123 (by decide),
  fun v0 v1 v2 v3 v4 x1 x2 st σ => (q_cmp e128_124 rfl).trans q_nlt,
  fun v1 v2 v3 v4 a1 st σ => q_go e128_127 rfl rfl,
  fun v0 v1 v2 v3 v4 a1 st σ hc => q_getA e128_128 o_128 f_8_9 (by decide) hc,
  fun v0 v1 v2 v3 v4 st σ => q_bipush e128_131 (by decide),
  fun v0 v1 v2 v3 v4 st σ => q_iconst e128_133 (by decide),
  fun v0 v1 v2 v4 x1 st σ => q_go e128_134 rfl rfl,
  fun v0 v1 v2 v3 v4 x1 x2 st σ => q_go e128_135 rfl rfl,
  fun v0 v1 v2 v3 v4 x1 x2 st σ => q_go e128_136 rfl rfl,
  fun v0 v1 v2 v3 x1 st σ => q_go e128_137 rfl rfl,
  fun v0 v1 v2 v3 v4 x1 x2 st σ => q_go e128_139 rfl rfl,
  fun v0 v1 v2 v3 v4 st σ => q_iconst e128_140 (by decide),
  fun v0 v1 v2 v3 v4 x1 k a3 st σ hk => q_iast e128_141 hk,
  fun v0 v1 v2 x1 x9 st σ => q_iinc e128_142 rfl rfl (by decide),
  fun v0 v1 v2 v3 v4 st σ => q_goto e128_145 rfl,
  fun v1 v2 v3 v4 a1 st σ => q_go e128_148 rfl rfl,
  fun v0 v1 v2 v3 v4 a1 st σ hc => q_getA e128_149 o_128 f_8_9 (by decide) hc,
  fun v0 v1 v2 v3 v4 st σ => q_bipush e128_152 (by decide),
  fun v0 v1 v2 v3 v4 x1 a2 st σ => q_go e128_154 rfl rfl,
  fun v0 v1 v2 v3 v4 k a2 st σ hk => q_iald e128_155 hk,
  fun v0 v1 v2 v3 v4 st σ => q_iconst e128_156 (by decide),
  fun v0 v1 v2 v3 v4 x1 x2 st σ => q_go e128_157 rfl rfl,
  fun v0 v1 v2 v3 v4 x1 k a3 st σ hk => q_iast e128_158 hk,
  fun v0 v1 v2 v4 x1 st σ => q_go e128_159 rfl rfl,
  fun v0 v1 v2 v3 v4 x1 σ => q_iret e128_160 r_128⟩
theorem E128 {ro : ma_RO} {d : Nat} (a0 : Nat) (x1 : Int32) (x2 : Int32) (sh : List ma_Sh) (σ : ma_H) : ma_ev ro d 128 [.ref a0, .int x1, .int x2] sh σ = ma_rn ro d 128 (0, [some (.ref a0), some (.int x1), some (.int x2), none, none], [], sh, σ) := q_ent x_128 rfl
theorem e129_0 : decode (ma_cd 129) 0 = .ok (.aload_n 0, 1) := (congrArg (fun b => decode b 0) cd_129).trans dX8_of_0
theorem e129_1 : decode (ma_cd 129) 1 = .ok (.iload_n 1, 1) := (congrArg (fun b => decode b 1) cd_129).trans dX8_of_1
theorem e129_2 : decode (ma_cd 129) 2 = .ok (.invokevirtual 129, 3) := (congrArg (fun b => decode b 2) cd_129).trans dX8_of_2
theorem e129_5 : decode (ma_cd 129) 5 = .ok (.ifCond .ne 6, 3) := (congrArg (fun b => decode b 5) cd_129).trans dX8_of_5
theorem e129_8 : decode (ma_cd 129) 8 = .ok (.ldc 133, 2) := (congrArg (fun b => decode b 8) cd_129).trans dX8_of_8
theorem e129_10 : decode (ma_cd 129) 10 = .ok (.ireturn, 1) := (congrArg (fun b => decode b 10) cd_129).trans dX8_of_10
theorem e129_11 : decode (ma_cd 129) 11 = .ok (.iload_n 2, 1) := (congrArg (fun b => decode b 11) cd_129).trans dX8_of_11
theorem e129_12 : decode (ma_cd 129) 12 = .ok (.tableswitch 133 0 8 #[52, 62, 72, 81, 91, 101, 111, 121, 127], 52) := (congrArg (fun b => decode b 12) cd_129).trans dX8_of_12
theorem e129_64 : decode (ma_cd 129) 64 = .ok (.aload_n 0, 1) := (congrArg (fun b => decode b 64) cd_129).trans dX8_of_64
theorem e129_65 : decode (ma_cd 129) 65 = .ok (.getfield 9, 3) := (congrArg (fun b => decode b 65) cd_129).trans dX8_of_65
theorem e129_68 : decode (ma_cd 129) 68 = .ok (.bipush 40, 2) := (congrArg (fun b => decode b 68) cd_129).trans dX8_of_68
theorem e129_70 : decode (ma_cd 129) 70 = .ok (.iload_n 1, 1) := (congrArg (fun b => decode b 70) cd_129).trans dX8_of_70
theorem e129_71 : decode (ma_cd 129) 71 = .ok (.iadd, 1) := (congrArg (fun b => decode b 71) cd_129).trans dX8_of_71
theorem e129_72 : decode (ma_cd 129) 72 = .ok (.iaload, 1) := (congrArg (fun b => decode b 72) cd_129).trans dX8_of_72
theorem e129_73 : decode (ma_cd 129) 73 = .ok (.ireturn, 1) := (congrArg (fun b => decode b 73) cd_129).trans dX8_of_73
theorem e129_74 : decode (ma_cd 129) 74 = .ok (.aload_n 0, 1) := (congrArg (fun b => decode b 74) cd_129).trans dX8_of_74
theorem e129_75 : decode (ma_cd 129) 75 = .ok (.getfield 9, 3) := (congrArg (fun b => decode b 75) cd_129).trans dX8_of_75
theorem e129_78 : decode (ma_cd 129) 78 = .ok (.bipush 46, 2) := (congrArg (fun b => decode b 78) cd_129).trans dX8_of_78
theorem e129_80 : decode (ma_cd 129) 80 = .ok (.iload_n 1, 1) := (congrArg (fun b => decode b 80) cd_129).trans dX8_of_80
theorem e129_81 : decode (ma_cd 129) 81 = .ok (.iadd, 1) := (congrArg (fun b => decode b 81) cd_129).trans dX8_of_81
theorem e129_82 : decode (ma_cd 129) 82 = .ok (.iaload, 1) := (congrArg (fun b => decode b 82) cd_129).trans dX8_of_82
theorem e129_83 : decode (ma_cd 129) 83 = .ok (.ireturn, 1) := (congrArg (fun b => decode b 83) cd_129).trans dX8_of_83
theorem e129_84 : decode (ma_cd 129) 84 = .ok (.aload_n 0, 1) := (congrArg (fun b => decode b 84) cd_129).trans dX8_of_84
theorem e129_85 : decode (ma_cd 129) 85 = .ok (.getfield 9, 3) := (congrArg (fun b => decode b 85) cd_129).trans dX8_of_85
theorem e129_88 : decode (ma_cd 129) 88 = .ok (.iconst 3, 1) := (congrArg (fun b => decode b 88) cd_129).trans dX8_of_88
theorem e129_89 : decode (ma_cd 129) 89 = .ok (.iload_n 1, 1) := (congrArg (fun b => decode b 89) cd_129).trans dX8_of_89
theorem e129_90 : decode (ma_cd 129) 90 = .ok (.iadd, 1) := (congrArg (fun b => decode b 90) cd_129).trans dX8_of_90
theorem e129_91 : decode (ma_cd 129) 91 = .ok (.iaload, 1) := (congrArg (fun b => decode b 91) cd_129).trans dX8_of_91
theorem e129_92 : decode (ma_cd 129) 92 = .ok (.ireturn, 1) := (congrArg (fun b => decode b 92) cd_129).trans dX8_of_92
theorem e129_93 : decode (ma_cd 129) 93 = .ok (.aload_n 0, 1) := (congrArg (fun b => decode b 93) cd_129).trans dX8_of_93
theorem e129_94 : decode (ma_cd 129) 94 = .ok (.getfield 9, 3) := (congrArg (fun b => decode b 94) cd_129).trans dX8_of_94
theorem e129_97 : decode (ma_cd 129) 97 = .ok (.bipush 9, 2) := (congrArg (fun b => decode b 97) cd_129).trans dX8_of_97
theorem e129_99 : decode (ma_cd 129) 99 = .ok (.iload_n 1, 1) := (congrArg (fun b => decode b 99) cd_129).trans dX8_of_99
theorem e129_100 : decode (ma_cd 129) 100 = .ok (.iadd, 1) := (congrArg (fun b => decode b 100) cd_129).trans dX8_of_100
theorem e129_101 : decode (ma_cd 129) 101 = .ok (.iaload, 1) := (congrArg (fun b => decode b 101) cd_129).trans dX8_of_101
theorem e129_102 : decode (ma_cd 129) 102 = .ok (.ireturn, 1) := (congrArg (fun b => decode b 102) cd_129).trans dX8_of_102
theorem e129_103 : decode (ma_cd 129) 103 = .ok (.aload_n 0, 1) := (congrArg (fun b => decode b 103) cd_129).trans dX8_of_103
theorem e129_104 : decode (ma_cd 129) 104 = .ok (.getfield 9, 3) := (congrArg (fun b => decode b 104) cd_129).trans dX8_of_104
theorem e129_107 : decode (ma_cd 129) 107 = .ok (.bipush 15, 2) := (congrArg (fun b => decode b 107) cd_129).trans dX8_of_107
theorem e129_109 : decode (ma_cd 129) 109 = .ok (.iload_n 1, 1) := (congrArg (fun b => decode b 109) cd_129).trans dX8_of_109
theorem e129_110 : decode (ma_cd 129) 110 = .ok (.iadd, 1) := (congrArg (fun b => decode b 110) cd_129).trans dX8_of_110
theorem e129_111 : decode (ma_cd 129) 111 = .ok (.iaload, 1) := (congrArg (fun b => decode b 111) cd_129).trans dX8_of_111
theorem e129_112 : decode (ma_cd 129) 112 = .ok (.ireturn, 1) := (congrArg (fun b => decode b 112) cd_129).trans dX8_of_112
theorem e129_113 : decode (ma_cd 129) 113 = .ok (.aload_n 0, 1) := (congrArg (fun b => decode b 113) cd_129).trans dX8_of_113
theorem e129_114 : decode (ma_cd 129) 114 = .ok (.getfield 9, 3) := (congrArg (fun b => decode b 114) cd_129).trans dX8_of_114
theorem e129_117 : decode (ma_cd 129) 117 = .ok (.bipush 21, 2) := (congrArg (fun b => decode b 117) cd_129).trans dX8_of_117
theorem e129_119 : decode (ma_cd 129) 119 = .ok (.iload_n 1, 1) := (congrArg (fun b => decode b 119) cd_129).trans dX8_of_119
theorem e129_120 : decode (ma_cd 129) 120 = .ok (.iadd, 1) := (congrArg (fun b => decode b 120) cd_129).trans dX8_of_120
theorem e129_121 : decode (ma_cd 129) 121 = .ok (.iaload, 1) := (congrArg (fun b => decode b 121) cd_129).trans dX8_of_121
theorem e129_122 : decode (ma_cd 129) 122 = .ok (.ireturn, 1) := (congrArg (fun b => decode b 122) cd_129).trans dX8_of_122
theorem e129_123 : decode (ma_cd 129) 123 = .ok (.aload_n 0, 1) := (congrArg (fun b => decode b 123) cd_129).trans dX8_of_123
theorem e129_124 : decode (ma_cd 129) 124 = .ok (.getfield 9, 3) := (congrArg (fun b => decode b 124) cd_129).trans dX8_of_124
theorem e129_127 : decode (ma_cd 129) 127 = .ok (.bipush 27, 2) := (congrArg (fun b => decode b 127) cd_129).trans dX8_of_127
theorem e129_129 : decode (ma_cd 129) 129 = .ok (.iload_n 1, 1) := (congrArg (fun b => decode b 129) cd_129).trans dX8_of_129
theorem e129_130 : decode (ma_cd 129) 130 = .ok (.iadd, 1) := (congrArg (fun b => decode b 130) cd_129).trans dX8_of_130
theorem e129_131 : decode (ma_cd 129) 131 = .ok (.iaload, 1) := (congrArg (fun b => decode b 131) cd_129).trans dX8_of_131
theorem e129_132 : decode (ma_cd 129) 132 = .ok (.ireturn, 1) := (congrArg (fun b => decode b 132) cd_129).trans dX8_of_132
theorem e129_133 : decode (ma_cd 129) 133 = .ok (.aload_n 0, 1) := (congrArg (fun b => decode b 133) cd_129).trans dX8_of_133
theorem e129_134 : decode (ma_cd 129) 134 = .ok (.iload_n 1, 1) := (congrArg (fun b => decode b 134) cd_129).trans dX8_of_134
theorem e129_135 : decode (ma_cd 129) 135 = .ok (.invokevirtual 134, 3) := (congrArg (fun b => decode b 135) cd_129).trans dX8_of_135
theorem e129_138 : decode (ma_cd 129) 138 = .ok (.ireturn, 1) := (congrArg (fun b => decode b 138) cd_129).trans dX8_of_138
theorem e129_139 : decode (ma_cd 129) 139 = .ok (.aload_n 0, 1) := (congrArg (fun b => decode b 139) cd_129).trans dX8_of_139
theorem e129_140 : decode (ma_cd 129) 140 = .ok (.iload_n 1, 1) := (congrArg (fun b => decode b 140) cd_129).trans dX8_of_140
theorem e129_141 : decode (ma_cd 129) 141 = .ok (.invokevirtual 137, 3) := (congrArg (fun b => decode b 141) cd_129).trans dX8_of_141
theorem e129_144 : decode (ma_cd 129) 144 = .ok (.ireturn, 1) := (congrArg (fun b => decode b 144) cd_129).trans dX8_of_144
theorem e129_145 : decode (ma_cd 129) 145 = .ok (.ldc 133, 2) := (congrArg (fun b => decode b 145) cd_129).trans dX8_of_145
theorem e129_147 : decode (ma_cd 129) 147 = .ok (.ireturn, 1) := (congrArg (fun b => decode b 147) cd_129).trans dX8_of_147
theorem S129 {ro : ma_RO} {d : Nat} : (∀ (v1 : Option Value) (v2 : Option Value) (a1 : Nat) (st : List Value) (σ : ma_H), ma_rn ro d 129 (0, [some (.ref a1), v1, v2], st, SH, σ) = ma_rn ro d 129 (1, [some (.ref a1), v1, v2], .ref a1 :: st, SH, σ)) ∧
  (∀ (v0 : Option Value) (v2 : Option Value) (x1 : Int32) (st : List Value) (σ : ma_H), ma_rn ro d 129 (1, [v0, some (.int x1), v2], st, SH, σ) = ma_rn ro d 129 (2, [v0, some (.int x1), v2], .int x1 :: st, SH, σ)) ∧
  (∀ (v0 : Option Value) (v1 : Option Value) (v2 : Option Value) (x1 : Int32) (a0 : Nat) (σ : ma_H) (hc : hk_cls a0 = 8), ma_rn ro (d + 1) 129 (2, [v0, v1, v2], .int x1 :: .ref a0 :: [], SH, σ) = (ma_ev ro d 103 [.ref a0, .int x1] SH σ).bind (fun q => ma_rn ro (d + 1) 129 (5, [v0, v1, v2], (q.1.toList ++ []), q.2.1, q.2.2))) ∧
  (∀ (v0 : Option Value) (v1 : Option Value) (v2 : Option Value) (x1 : Int32) (st : List Value) (σ : ma_H), ma_rn ro d 129 (5, [v0, v1, v2], .int x1 :: st, SH, σ) = if x1 = nI 0 then ma_rn ro d 129 (8, [v0, v1, v2], st, SH, σ) else ma_rn ro d 129 (11, [v0, v1, v2], st, SH, σ)) ∧
  (∀ (v0 : Option Value) (v1 : Option Value) (v2 : Option Value) (st : List Value) (σ : ma_H), ma_rn ro d 129 (8, [v0, v1, v2], st, SH, σ) = ma_rn ro d 129 (10, [v0, v1, v2], .int ((-999999)) :: st, SH, σ)) ∧
  (∀ (v0 : Option Value) (v1 : Option Value) (v2 : Option Value) (x1 : Int32) (σ : ma_H), ma_rn ro d 129 (10, [v0, v1, v2], [.int x1], SH, σ) = some (some (.int x1), SH, σ)) ∧
  (∀ (v0 : Option Value) (v1 : Option Value) (x1 : Int32) (st : List Value) (σ : ma_H), ma_rn ro d 129 (11, [v0, v1, some (.int x1)], st, SH, σ) = ma_rn ro d 129 (12, [v0, v1, some (.int x1)], .int x1 :: st, SH, σ)) ∧
  (∀ (v0 : Option Value) (v1 : Option Value) (v2 : Option Value) (x1 : Int32) (st : List Value) (σ : ma_H), ma_rn ro d 129 (12, [v0, v1, v2], .int x1 :: st, SH, σ) = if x1 = nI 0 then ma_rn ro d 129 (64, [v0, v1, v2], st, SH, σ) else if x1 = nI 1 then ma_rn ro d 129 (74, [v0, v1, v2], st, SH, σ) else if x1 = nI 2 then ma_rn ro d 129 (84, [v0, v1, v2], st, SH, σ) else if x1 = nI 3 then ma_rn ro d 129 (93, [v0, v1, v2], st, SH, σ) else if x1 = nI 4 then ma_rn ro d 129 (103, [v0, v1, v2], st, SH, σ) else if x1 = nI 5 then ma_rn ro d 129 (113, [v0, v1, v2], st, SH, σ) else if x1 = nI 6 then ma_rn ro d 129 (123, [v0, v1, v2], st, SH, σ) else if x1 = nI 7 then ma_rn ro d 129 (133, [v0, v1, v2], st, SH, σ) else if x1 = nI 8 then ma_rn ro d 129 (139, [v0, v1, v2], st, SH, σ) else ma_rn ro d 129 (145, [v0, v1, v2], st, SH, σ)) ∧
  (∀ (v1 : Option Value) (v2 : Option Value) (a1 : Nat) (st : List Value) (σ : ma_H), ma_rn ro d 129 (64, [some (.ref a1), v1, v2], st, SH, σ) = ma_rn ro d 129 (65, [some (.ref a1), v1, v2], .ref a1 :: st, SH, σ)) ∧
  (∀ (v0 : Option Value) (v1 : Option Value) (v2 : Option Value) (a1 : Nat) (st : List Value) (σ : ma_H) (hc : hk_cls a1 = 8), ma_rn ro d 129 (65, [v0, v1, v2], .ref a1 :: st, SH, σ) = ma_rn ro d 129 (68, [v0, v1, v2], .ref (91) :: st, SH, σ)) ∧
  (∀ (v0 : Option Value) (v1 : Option Value) (v2 : Option Value) (st : List Value) (σ : ma_H), ma_rn ro d 129 (68, [v0, v1, v2], st, SH, σ) = ma_rn ro d 129 (70, [v0, v1, v2], .int (nI 40) :: st, SH, σ)) ∧
  (∀ (v0 : Option Value) (v2 : Option Value) (x1 : Int32) (st : List Value) (σ : ma_H), ma_rn ro d 129 (70, [v0, some (.int x1), v2], st, SH, σ) = ma_rn ro d 129 (71, [v0, some (.int x1), v2], .int x1 :: st, SH, σ)) ∧
  (∀ (v0 : Option Value) (v1 : Option Value) (v2 : Option Value) (x1 : Int32) (x2 : Int32) (st : List Value) (σ : ma_H), ma_rn ro d 129 (71, [v0, v1, v2], .int x1 :: .int x2 :: st, SH, σ) = ma_rn ro d 129 (72, [v0, v1, v2], .int (x2 + x1) :: st, SH, σ)) ∧
  (∀ (v0 : Option Value) (v1 : Option Value) (v2 : Option Value) (k : Nat) (a2 : Nat) (st : List Value) (σ : ma_H) (hk : k < hk_len a2), ma_rn ro d 129 (72, [v0, v1, v2], .int (nI k) :: .ref a2 :: st, SH, σ) = ma_rn ro d 129 (73, [v0, v1, v2], .int (σ a2 k) :: st, SH, σ)) ∧
  (∀ (v0 : Option Value) (v1 : Option Value) (v2 : Option Value) (x1 : Int32) (σ : ma_H), ma_rn ro d 129 (73, [v0, v1, v2], [.int x1], SH, σ) = some (some (.int x1), SH, σ)) ∧
  (∀ (v1 : Option Value) (v2 : Option Value) (a1 : Nat) (st : List Value) (σ : ma_H), ma_rn ro d 129 (74, [some (.ref a1), v1, v2], st, SH, σ) = ma_rn ro d 129 (75, [some (.ref a1), v1, v2], .ref a1 :: st, SH, σ)) ∧
  (∀ (v0 : Option Value) (v1 : Option Value) (v2 : Option Value) (a1 : Nat) (st : List Value) (σ : ma_H) (hc : hk_cls a1 = 8), ma_rn ro d 129 (75, [v0, v1, v2], .ref a1 :: st, SH, σ) = ma_rn ro d 129 (78, [v0, v1, v2], .ref (91) :: st, SH, σ)) ∧
  (∀ (v0 : Option Value) (v1 : Option Value) (v2 : Option Value) (st : List Value) (σ : ma_H), ma_rn ro d 129 (78, [v0, v1, v2], st, SH, σ) = ma_rn ro d 129 (80, [v0, v1, v2], .int (nI 46) :: st, SH, σ)) ∧
  (∀ (v0 : Option Value) (v2 : Option Value) (x1 : Int32) (st : List Value) (σ : ma_H), ma_rn ro d 129 (80, [v0, some (.int x1), v2], st, SH, σ) = ma_rn ro d 129 (81, [v0, some (.int x1), v2], .int x1 :: st, SH, σ)) ∧
  (∀ (v0 : Option Value) (v1 : Option Value) (v2 : Option Value) (x1 : Int32) (x2 : Int32) (st : List Value) (σ : ma_H), ma_rn ro d 129 (81, [v0, v1, v2], .int x1 :: .int x2 :: st, SH, σ) = ma_rn ro d 129 (82, [v0, v1, v2], .int (x2 + x1) :: st, SH, σ)) ∧
  (∀ (v0 : Option Value) (v1 : Option Value) (v2 : Option Value) (k : Nat) (a2 : Nat) (st : List Value) (σ : ma_H) (hk : k < hk_len a2), ma_rn ro d 129 (82, [v0, v1, v2], .int (nI k) :: .ref a2 :: st, SH, σ) = ma_rn ro d 129 (83, [v0, v1, v2], .int (σ a2 k) :: st, SH, σ)) ∧
  (∀ (v0 : Option Value) (v1 : Option Value) (v2 : Option Value) (x1 : Int32) (σ : ma_H), ma_rn ro d 129 (83, [v0, v1, v2], [.int x1], SH, σ) = some (some (.int x1), SH, σ)) ∧
  (∀ (v1 : Option Value) (v2 : Option Value) (a1 : Nat) (st : List Value) (σ : ma_H), ma_rn ro d 129 (84, [some (.ref a1), v1, v2], st, SH, σ) = ma_rn ro d 129 (85, [some (.ref a1), v1, v2], .ref a1 :: st, SH, σ)) ∧
  (∀ (v0 : Option Value) (v1 : Option Value) (v2 : Option Value) (a1 : Nat) (st : List Value) (σ : ma_H) (hc : hk_cls a1 = 8), ma_rn ro d 129 (85, [v0, v1, v2], .ref a1 :: st, SH, σ) = ma_rn ro d 129 (88, [v0, v1, v2], .ref (91) :: st, SH, σ)) ∧
  (∀ (v0 : Option Value) (v1 : Option Value) (v2 : Option Value) (st : List Value) (σ : ma_H), ma_rn ro d 129 (88, [v0, v1, v2], st, SH, σ) = ma_rn ro d 129 (89, [v0, v1, v2], .int (nI 3) :: st, SH, σ)) ∧
  (∀ (v0 : Option Value) (v2 : Option Value) (x1 : Int32) (st : List Value) (σ : ma_H), ma_rn ro d 129 (89, [v0, some (.int x1), v2], st, SH, σ) = ma_rn ro d 129 (90, [v0, some (.int x1), v2], .int x1 :: st, SH, σ)) ∧
  (∀ (v0 : Option Value) (v1 : Option Value) (v2 : Option Value) (x1 : Int32) (x2 : Int32) (st : List Value) (σ : ma_H), ma_rn ro d 129 (90, [v0, v1, v2], .int x1 :: .int x2 :: st, SH, σ) = ma_rn ro d 129 (91, [v0, v1, v2], .int (x2 + x1) :: st, SH, σ)) ∧
  (∀ (v0 : Option Value) (v1 : Option Value) (v2 : Option Value) (k : Nat) (a2 : Nat) (st : List Value) (σ : ma_H) (hk : k < hk_len a2), ma_rn ro d 129 (91, [v0, v1, v2], .int (nI k) :: .ref a2 :: st, SH, σ) = ma_rn ro d 129 (92, [v0, v1, v2], .int (σ a2 k) :: st, SH, σ)) ∧
  (∀ (v0 : Option Value) (v1 : Option Value) (v2 : Option Value) (x1 : Int32) (σ : ma_H), ma_rn ro d 129 (92, [v0, v1, v2], [.int x1], SH, σ) = some (some (.int x1), SH, σ)) ∧
  (∀ (v1 : Option Value) (v2 : Option Value) (a1 : Nat) (st : List Value) (σ : ma_H), ma_rn ro d 129 (93, [some (.ref a1), v1, v2], st, SH, σ) = ma_rn ro d 129 (94, [some (.ref a1), v1, v2], .ref a1 :: st, SH, σ)) ∧
  (∀ (v0 : Option Value) (v1 : Option Value) (v2 : Option Value) (a1 : Nat) (st : List Value) (σ : ma_H) (hc : hk_cls a1 = 8), ma_rn ro d 129 (94, [v0, v1, v2], .ref a1 :: st, SH, σ) = ma_rn ro d 129 (97, [v0, v1, v2], .ref (91) :: st, SH, σ)) ∧
  (∀ (v0 : Option Value) (v1 : Option Value) (v2 : Option Value) (st : List Value) (σ : ma_H), ma_rn ro d 129 (97, [v0, v1, v2], st, SH, σ) = ma_rn ro d 129 (99, [v0, v1, v2], .int (nI 9) :: st, SH, σ)) ∧
  (∀ (v0 : Option Value) (v2 : Option Value) (x1 : Int32) (st : List Value) (σ : ma_H), ma_rn ro d 129 (99, [v0, some (.int x1), v2], st, SH, σ) = ma_rn ro d 129 (100, [v0, some (.int x1), v2], .int x1 :: st, SH, σ)) ∧
  (∀ (v0 : Option Value) (v1 : Option Value) (v2 : Option Value) (x1 : Int32) (x2 : Int32) (st : List Value) (σ : ma_H), ma_rn ro d 129 (100, [v0, v1, v2], .int x1 :: .int x2 :: st, SH, σ) = ma_rn ro d 129 (101, [v0, v1, v2], .int (x2 + x1) :: st, SH, σ)) ∧
  (∀ (v0 : Option Value) (v1 : Option Value) (v2 : Option Value) (k : Nat) (a2 : Nat) (st : List Value) (σ : ma_H) (hk : k < hk_len a2), ma_rn ro d 129 (101, [v0, v1, v2], .int (nI k) :: .ref a2 :: st, SH, σ) = ma_rn ro d 129 (102, [v0, v1, v2], .int (σ a2 k) :: st, SH, σ)) ∧
  (∀ (v0 : Option Value) (v1 : Option Value) (v2 : Option Value) (x1 : Int32) (σ : ma_H), ma_rn ro d 129 (102, [v0, v1, v2], [.int x1], SH, σ) = some (some (.int x1), SH, σ)) ∧
  (∀ (v1 : Option Value) (v2 : Option Value) (a1 : Nat) (st : List Value) (σ : ma_H), ma_rn ro d 129 (103, [some (.ref a1), v1, v2], st, SH, σ) = ma_rn ro d 129 (104, [some (.ref a1), v1, v2], .ref a1 :: st, SH, σ)) ∧
  (∀ (v0 : Option Value) (v1 : Option Value) (v2 : Option Value) (a1 : Nat) (st : List Value) (σ : ma_H) (hc : hk_cls a1 = 8), ma_rn ro d 129 (104, [v0, v1, v2], .ref a1 :: st, SH, σ) = ma_rn ro d 129 (107, [v0, v1, v2], .ref (91) :: st, SH, σ)) ∧
  (∀ (v0 : Option Value) (v1 : Option Value) (v2 : Option Value) (st : List Value) (σ : ma_H), ma_rn ro d 129 (107, [v0, v1, v2], st, SH, σ) = ma_rn ro d 129 (109, [v0, v1, v2], .int (nI 15) :: st, SH, σ)) ∧
  (∀ (v0 : Option Value) (v2 : Option Value) (x1 : Int32) (st : List Value) (σ : ma_H), ma_rn ro d 129 (109, [v0, some (.int x1), v2], st, SH, σ) = ma_rn ro d 129 (110, [v0, some (.int x1), v2], .int x1 :: st, SH, σ)) ∧
  (∀ (v0 : Option Value) (v1 : Option Value) (v2 : Option Value) (x1 : Int32) (x2 : Int32) (st : List Value) (σ : ma_H), ma_rn ro d 129 (110, [v0, v1, v2], .int x1 :: .int x2 :: st, SH, σ) = ma_rn ro d 129 (111, [v0, v1, v2], .int (x2 + x1) :: st, SH, σ)) ∧
  (∀ (v0 : Option Value) (v1 : Option Value) (v2 : Option Value) (k : Nat) (a2 : Nat) (st : List Value) (σ : ma_H) (hk : k < hk_len a2), ma_rn ro d 129 (111, [v0, v1, v2], .int (nI k) :: .ref a2 :: st, SH, σ) = ma_rn ro d 129 (112, [v0, v1, v2], .int (σ a2 k) :: st, SH, σ)) ∧
  (∀ (v0 : Option Value) (v1 : Option Value) (v2 : Option Value) (x1 : Int32) (σ : ma_H), ma_rn ro d 129 (112, [v0, v1, v2], [.int x1], SH, σ) = some (some (.int x1), SH, σ)) ∧
  (∀ (v1 : Option Value) (v2 : Option Value) (a1 : Nat) (st : List Value) (σ : ma_H), ma_rn ro d 129 (113, [some (.ref a1), v1, v2], st, SH, σ) = ma_rn ro d 129 (114, [some (.ref a1), v1, v2], .ref a1 :: st, SH, σ)) ∧
  (∀ (v0 : Option Value) (v1 : Option Value) (v2 : Option Value) (a1 : Nat) (st : List Value) (σ : ma_H) (hc : hk_cls a1 = 8), ma_rn ro d 129 (114, [v0, v1, v2], .ref a1 :: st, SH, σ) = ma_rn ro d 129 (117, [v0, v1, v2], .ref (91) :: st, SH, σ)) ∧
  (∀ (v0 : Option Value) (v1 : Option Value) (v2 : Option Value) (st : List Value) (σ : ma_H), ma_rn ro d 129 (117, [v0, v1, v2], st, SH, σ) = ma_rn ro d 129 (119, [v0, v1, v2], .int (nI 21) :: st, SH, σ)) ∧
  (∀ (v0 : Option Value) (v2 : Option Value) (x1 : Int32) (st : List Value) (σ : ma_H), ma_rn ro d 129 (119, [v0, some (.int x1), v2], st, SH, σ) = ma_rn ro d 129 (120, [v0, some (.int x1), v2], .int x1 :: st, SH, σ)) ∧
  (∀ (v0 : Option Value) (v1 : Option Value) (v2 : Option Value) (x1 : Int32) (x2 : Int32) (st : List Value) (σ : ma_H), ma_rn ro d 129 (120, [v0, v1, v2], .int x1 :: .int x2 :: st, SH, σ) = ma_rn ro d 129 (121, [v0, v1, v2], .int (x2 + x1) :: st, SH, σ)) ∧
  (∀ (v0 : Option Value) (v1 : Option Value) (v2 : Option Value) (k : Nat) (a2 : Nat) (st : List Value) (σ : ma_H) (hk : k < hk_len a2), ma_rn ro d 129 (121, [v0, v1, v2], .int (nI k) :: .ref a2 :: st, SH, σ) = ma_rn ro d 129 (122, [v0, v1, v2], .int (σ a2 k) :: st, SH, σ)) ∧
  (∀ (v0 : Option Value) (v1 : Option Value) (v2 : Option Value) (x1 : Int32) (σ : ma_H), ma_rn ro d 129 (122, [v0, v1, v2], [.int x1], SH, σ) = some (some (.int x1), SH, σ)) ∧
  (∀ (v1 : Option Value) (v2 : Option Value) (a1 : Nat) (st : List Value) (σ : ma_H), ma_rn ro d 129 (123, [some (.ref a1), v1, v2], st, SH, σ) = ma_rn ro d 129 (124, [some (.ref a1), v1, v2], .ref a1 :: st, SH, σ)) ∧
  (∀ (v0 : Option Value) (v1 : Option Value) (v2 : Option Value) (a1 : Nat) (st : List Value) (σ : ma_H) (hc : hk_cls a1 = 8), ma_rn ro d 129 (124, [v0, v1, v2], .ref a1 :: st, SH, σ) = ma_rn ro d 129 (127, [v0, v1, v2], .ref (91) :: st, SH, σ)) ∧
  (∀ (v0 : Option Value) (v1 : Option Value) (v2 : Option Value) (st : List Value) (σ : ma_H), ma_rn ro d 129 (127, [v0, v1, v2], st, SH, σ) = ma_rn ro d 129 (129, [v0, v1, v2], .int (nI 27) :: st, SH, σ)) ∧
  (∀ (v0 : Option Value) (v2 : Option Value) (x1 : Int32) (st : List Value) (σ : ma_H), ma_rn ro d 129 (129, [v0, some (.int x1), v2], st, SH, σ) = ma_rn ro d 129 (130, [v0, some (.int x1), v2], .int x1 :: st, SH, σ)) ∧
  (∀ (v0 : Option Value) (v1 : Option Value) (v2 : Option Value) (x1 : Int32) (x2 : Int32) (st : List Value) (σ : ma_H), ma_rn ro d 129 (130, [v0, v1, v2], .int x1 :: .int x2 :: st, SH, σ) = ma_rn ro d 129 (131, [v0, v1, v2], .int (x2 + x1) :: st, SH, σ)) ∧
  (∀ (v0 : Option Value) (v1 : Option Value) (v2 : Option Value) (k : Nat) (a2 : Nat) (st : List Value) (σ : ma_H) (hk : k < hk_len a2), ma_rn ro d 129 (131, [v0, v1, v2], .int (nI k) :: .ref a2 :: st, SH, σ) = ma_rn ro d 129 (132, [v0, v1, v2], .int (σ a2 k) :: st, SH, σ)) ∧
  (∀ (v0 : Option Value) (v1 : Option Value) (v2 : Option Value) (x1 : Int32) (σ : ma_H), ma_rn ro d 129 (132, [v0, v1, v2], [.int x1], SH, σ) = some (some (.int x1), SH, σ)) ∧
  (∀ (v1 : Option Value) (v2 : Option Value) (a1 : Nat) (st : List Value) (σ : ma_H), ma_rn ro d 129 (133, [some (.ref a1), v1, v2], st, SH, σ) = ma_rn ro d 129 (134, [some (.ref a1), v1, v2], .ref a1 :: st, SH, σ)) ∧
  (∀ (v0 : Option Value) (v2 : Option Value) (x1 : Int32) (st : List Value) (σ : ma_H), ma_rn ro d 129 (134, [v0, some (.int x1), v2], st, SH, σ) = ma_rn ro d 129 (135, [v0, some (.int x1), v2], .int x1 :: st, SH, σ)) ∧
  (∀ (v0 : Option Value) (v1 : Option Value) (v2 : Option Value) (x1 : Int32) (a0 : Nat) (σ : ma_H) (hc : hk_cls a0 = 8), ma_rn ro (d + 1) 129 (135, [v0, v1, v2], .int x1 :: .ref a0 :: [], SH, σ) = (ma_ev ro d 124 [.ref a0, .int x1] SH σ).bind (fun q => ma_rn ro (d + 1) 129 (138, [v0, v1, v2], (q.1.toList ++ []), q.2.1, q.2.2))) ∧
  (∀ (v0 : Option Value) (v1 : Option Value) (v2 : Option Value) (x1 : Int32) (σ : ma_H), ma_rn ro d 129 (138, [v0, v1, v2], [.int x1], SH, σ) = some (some (.int x1), SH, σ)) ∧
  (∀ (v1 : Option Value) (v2 : Option Value) (a1 : Nat) (st : List Value) (σ : ma_H), ma_rn ro d 129 (139, [some (.ref a1), v1, v2], st, SH, σ) = ma_rn ro d 129 (140, [some (.ref a1), v1, v2], .ref a1 :: st, SH, σ)) ∧
  (∀ (v0 : Option Value) (v2 : Option Value) (x1 : Int32) (st : List Value) (σ : ma_H), ma_rn ro d 129 (140, [v0, some (.int x1), v2], st, SH, σ) = ma_rn ro d 129 (141, [v0, some (.int x1), v2], .int x1 :: st, SH, σ)) ∧
  (∀ (v0 : Option Value) (v1 : Option Value) (v2 : Option Value) (x1 : Int32) (a0 : Nat) (σ : ma_H) (hc : hk_cls a0 = 8), ma_rn ro (d + 1) 129 (141, [v0, v1, v2], .int x1 :: .ref a0 :: [], SH, σ) = (ma_ev ro d 126 [.ref a0, .int x1] SH σ).bind (fun q => ma_rn ro (d + 1) 129 (144, [v0, v1, v2], (q.1.toList ++ []), q.2.1, q.2.2))) ∧
  (∀ (v0 : Option Value) (v1 : Option Value) (v2 : Option Value) (x1 : Int32) (σ : ma_H), ma_rn ro d 129 (144, [v0, v1, v2], [.int x1], SH, σ) = some (some (.int x1), SH, σ)) ∧
  (∀ (v0 : Option Value) (v1 : Option Value) (v2 : Option Value) (st : List Value) (σ : ma_H), ma_rn ro d 129 (145, [v0, v1, v2], st, SH, σ) = ma_rn ro d 129 (147, [v0, v1, v2], .int ((-999999)) :: st, SH, σ)) ∧
  (∀ (v0 : Option Value) (v1 : Option Value) (v2 : Option Value) (x1 : Int32) (σ : ma_H), ma_rn ro d 129 (147, [v0, v1, v2], [.int x1], SH, σ) = some (some (.int x1), SH, σ)) := ⟨fun v1 v2 a1 st σ => q_go e129_0 rfl rfl,
  fun v0 v2 x1 st σ => q_go e129_1 rfl rfl,
  fun v0 v1 v2 x1 a0 σ hc => q_invV (as := [.int x1]) (rest := []) e129_2 o_129 bn_8_129 c_8_129 m_103 (by decide) rfl rfl (Nat.le_of_ble_eq_true rfl) (Nat.le_of_ble_eq_true rfl) hc,
  fun v0 v1 v2 x1 st σ => (q_if e129_5 rfl).trans q_ne,
  fun v0 v1 v2 st σ => q_ldc e129_8 o_129 k_8_133,
  fun v0 v1 v2 x1 σ => q_iret e129_10 r_129,
  fun v0 v1 x1 st σ => q_go e129_11 rfl rfl,
  fun v0 v1 v2 x1 st σ => by
    by_cases h0 : x1 = nI 0
    · rw [if_pos h0]; exact q_tswIn e129_12 h0 (k := 0) (by decide) (by decide) (by decide) rfl rfl
    rw [if_neg h0]
    by_cases h1 : x1 = nI 1
    · rw [if_pos h1]; exact q_tswIn e129_12 h1 (k := 1) (by decide) (by decide) (by decide) rfl rfl
    rw [if_neg h1]
    by_cases h2 : x1 = nI 2
    · rw [if_pos h2]; exact q_tswIn e129_12 h2 (k := 2) (by decide) (by decide) (by decide) rfl rfl
    rw [if_neg h2]
    by_cases h3 : x1 = nI 3
    · rw [if_pos h3]; exact q_tswIn e129_12 h3 (k := 3) (by decide) (by decide) (by decide) rfl rfl
    rw [if_neg h3]
    by_cases h4 : x1 = nI 4
    · rw [if_pos h4]; exact q_tswIn e129_12 h4 (k := 4) (by decide) (by decide) (by decide) rfl rfl
    rw [if_neg h4]
    by_cases h5 : x1 = nI 5
    · rw [if_pos h5]; exact q_tswIn e129_12 h5 (k := 5) (by decide) (by decide) (by decide) rfl rfl
    rw [if_neg h5]
    by_cases h6 : x1 = nI 6
    · rw [if_pos h6]; exact q_tswIn e129_12 h6 (k := 6) (by decide) (by decide) (by decide) rfl rfl
    rw [if_neg h6]
    by_cases h7 : x1 = nI 7
    · rw [if_pos h7]; exact q_tswIn e129_12 h7 (k := 7) (by decide) (by decide) (by decide) rfl rfl
    rw [if_neg h7]
    by_cases h8 : x1 = nI 8
    · rw [if_pos h8]; exact q_tswIn e129_12 h8 (k := 8) (by decide) (by decide) (by decide) rfl rfl
    rw [if_neg h8]
    have g0 := q_nnI h0 (by decide)
    have g1 := q_nnI h1 (by decide)
    have g2 := q_nnI h2 (by decide)
    have g3 := q_nnI h3 (by decide)
    have g4 := q_nnI h4 (by decide)
    have g5 := q_nnI h5 (by decide)
    have g6 := q_nnI h6 (by decide)
    have g7 := q_nnI h7 (by decide)
    have g8 := q_nnI h8 (by decide)
    exact q_tswOut e129_12 (by omega) rfl,
  fun v1 v2 a1 st σ => q_go e129_64 rfl rfl,
  fun v0 v1 v2 a1 st σ hc => q_getA e129_65 o_129 f_8_9 (by decide) hc,
  fun v0 v1 v2 st σ => q_bipush e129_68 (by decide),
  fun v0 v2 x1 st σ => q_go e129_70 rfl rfl,
  fun v0 v1 v2 x1 x2 st σ => q_go e129_71 rfl rfl,
  fun v0 v1 v2 k a2 st σ hk => q_iald e129_72 hk,
  fun v0 v1 v2 x1 σ => q_iret e129_73 r_129,
  fun v1 v2 a1 st σ => q_go e129_74 rfl rfl,
  fun v0 v1 v2 a1 st σ hc => q_getA e129_75 o_129 f_8_9 (by decide) hc,
  fun v0 v1 v2 st σ => q_bipush e129_78 (by decide),
  fun v0 v2 x1 st σ => q_go e129_80 rfl rfl,
  fun v0 v1 v2 x1 x2 st σ => q_go e129_81 rfl rfl,
  fun v0 v1 v2 k a2 st σ hk => q_iald e129_82 hk,
  fun v0 v1 v2 x1 σ => q_iret e129_83 r_129,
  fun v1 v2 a1 st σ => q_go e129_84 rfl rfl,
  fun v0 v1 v2 a1 st σ hc => q_getA e129_85 o_129 f_8_9 (by decide) hc,
  fun v0 v1 v2 st σ => q_iconst e129_88 (by decide),
  fun v0 v2 x1 st σ => q_go e129_89 rfl rfl,
  fun v0 v1 v2 x1 x2 st σ => q_go e129_90 rfl rfl,
  fun v0 v1 v2 k a2 st σ hk => q_iald e129_91 hk,
  fun v0 v1 v2 x1 σ => q_iret e129_92 r_129,
  fun v1 v2 a1 st σ => q_go e129_93 rfl rfl,
  fun v0 v1 v2 a1 st σ hc => q_getA e129_94 o_129 f_8_9 (by decide) hc,
  fun v0 v1 v2 st σ => q_bipush e129_97 (by decide),
  fun v0 v2 x1 st σ => q_go e129_99 rfl rfl,
  fun v0 v1 v2 x1 x2 st σ => q_go e129_100 rfl rfl,
  fun v0 v1 v2 k a2 st σ hk => q_iald e129_101 hk,
  fun v0 v1 v2 x1 σ => q_iret e129_102 r_129,
  fun v1 v2 a1 st σ => q_go e129_103 rfl rfl,
  fun v0 v1 v2 a1 st σ hc => q_getA e129_104 o_129 f_8_9 (by decide) hc,
  fun v0 v1 v2 st σ => q_bipush e129_107 (by decide),
  fun v0 v2 x1 st σ => q_go e129_109 rfl rfl,
  fun v0 v1 v2 x1 x2 st σ => q_go e129_110 rfl rfl,
  fun v0 v1 v2 k a2 st σ hk => q_iald e129_111 hk,
  fun v0 v1 v2 x1 σ => q_iret e129_112 r_129,
  fun v1 v2 a1 st σ => q_go e129_113 rfl rfl,
  fun v0 v1 v2 a1 st σ hc => q_getA e129_114 o_129 f_8_9 (by decide) hc,
  fun v0 v1 v2 st σ => q_bipush e129_117 (by decide),
  fun v0 v2 x1 st σ => q_go e129_119 rfl rfl,
  fun v0 v1 v2 x1 x2 st σ => q_go e129_120 rfl rfl,
  fun v0 v1 v2 k a2 st σ hk => q_iald e129_121 hk,
  fun v0 v1 v2 x1 σ => q_iret e129_122 r_129,
  fun v1 v2 a1 st σ => q_go e129_123 rfl rfl,
  fun v0 v1 v2 a1 st σ hc => q_getA e129_124 o_129 f_8_9 (by decide) hc,
  fun v0 v1 v2 st σ => q_bipush e129_127 (by decide),
  fun v0 v2 x1 st σ => q_go e129_129 rfl rfl,
  fun v0 v1 v2 x1 x2 st σ => q_go e129_130 rfl rfl,
  fun v0 v1 v2 k a2 st σ hk => q_iald e129_131 hk,
  fun v0 v1 v2 x1 σ => q_iret e129_132 r_129,
  fun v1 v2 a1 st σ => q_go e129_133 rfl rfl,
  fun v0 v2 x1 st σ => q_go e129_134 rfl rfl,
  fun v0 v1 v2 x1 a0 σ hc => q_invV (as := [.int x1]) (rest := []) e129_135 o_129 bn_8_134 c_8_134 m_124 (by decide) rfl rfl (Nat.le_of_ble_eq_true rfl) (Nat.le_of_ble_eq_true rfl) hc,
  fun v0 v1 v2 x1 σ => q_iret e129_138 r_129,
  fun v1 v2 a1 st σ => q_go e129_139 rfl rfl,
  fun v0 v2 x1 st σ => q_go e129_140 rfl rfl,
  fun v0 v1 v2 x1 a0 σ hc => q_invV (as := [.int x1]) (rest := []) e129_141 o_129 bn_8_137 c_8_137 m_126 (by decide) rfl rfl (Nat.le_of_ble_eq_true rfl) (Nat.le_of_ble_eq_true rfl) hc,
  fun v0 v1 v2 x1 σ => q_iret e129_144 r_129,
  fun v0 v1 v2 st σ => q_ldc e129_145 o_129 k_8_133,
  fun v0 v1 v2 x1 σ => q_iret e129_147 r_129⟩
theorem E129 {ro : ma_RO} {d : Nat} (a0 : Nat) (x1 : Int32) (x2 : Int32) (sh : List ma_Sh) (σ : ma_H) : ma_ev ro d 129 [.ref a0, .int x1, .int x2] sh σ = ma_rn ro d 129 (0, [some (.ref a0), some (.int x1), some (.int x2)], [], sh, σ) := q_ent x_129 rfl
theorem e130_0 : decode (ma_cd 130) 0 = .ok (.aload_n 0, 1) := (congrArg (fun b => decode b 0) cd_130).trans dX8_row_0
theorem e130_1 : decode (ma_cd 130) 1 = .ok (.iload_n 1, 1) := (congrArg (fun b => decode b 1) cd_130).trans dX8_row_1
theorem e130_2 : decode (ma_cd 130) 2 = .ok (.invokevirtual 129, 3) := (congrArg (fun b => decode b 2) cd_130).trans dX8_row_2
theorem e130_5 : decode (ma_cd 130) 5 = .ok (.ifCond .eq 12, 3) := (congrArg (fun b => decode b 5) cd_130).trans dX8_row_5
theorem e130_8 : decode (ma_cd 130) 8 = .ok (.iload_n 2, 1) := (congrArg (fun b => decode b 8) cd_130).trans dX8_row_8
theorem e130_9 : decode (ma_cd 130) 9 = .ok (.iconst 0, 1) := (congrArg (fun b => decode b 9) cd_130).trans dX8_row_9
theorem e130_10 : decode (ma_cd 130) 10 = .ok (.iconst 3, 1) := (congrArg (fun b => decode b 10) cd_130).trans dX8_row_10
theorem e130_11 : decode (ma_cd 130) 11 = .ok (.invokestatic 35, 3) := (congrArg (fun b => decode b 11) cd_130).trans dX8_row_11
theorem e130_14 : decode (ma_cd 130) 14 = .ok (.ifCond .ne 5, 3) := (congrArg (fun b => decode b 14) cd_130).trans dX8_row_14
theorem e130_17 : decode (ma_cd 130) 17 = .ok (.iconst (-1), 1) := (congrArg (fun b => decode b 17) cd_130).trans dX8_row_17
theorem e130_18 : decode (ma_cd 130) 18 = .ok (.ireturn, 1) := (congrArg (fun b => decode b 18) cd_130).trans dX8_row_18
theorem e130_19 : decode (ma_cd 130) 19 = .ok (.iload_n 3, 1) := (congrArg (fun b => decode b 19) cd_130).trans dX8_row_19
theorem e130_20 : decode (ma_cd 130) 20 = .ok (.iconst 0, 1) := (congrArg (fun b => decode b 20) cd_130).trans dX8_row_20
theorem e130_21 : decode (ma_cd 130) 21 = .ok (.bipush 9, 2) := (congrArg (fun b => decode b 21) cd_130).trans dX8_row_21
theorem e130_23 : decode (ma_cd 130) 23 = .ok (.invokestatic 35, 3) := (congrArg (fun b => decode b 23) cd_130).trans dX8_row_23
theorem e130_26 : decode (ma_cd 130) 26 = .ok (.ifCond .ne 6, 3) := (congrArg (fun b => decode b 26) cd_130).trans dX8_row_26
theorem e130_29 : decode (ma_cd 130) 29 = .ok (.bipush (-2), 2) := (congrArg (fun b => decode b 29) cd_130).trans dX8_row_29
theorem e130_31 : decode (ma_cd 130) 31 = .ok (.ireturn, 1) := (congrArg (fun b => decode b 31) cd_130).trans dX8_row_31
theorem e130_32 : decode (ma_cd 130) 32 = .ok (.aload_n 0, 1) := (congrArg (fun b => decode b 32) cd_130).trans dX8_row_32
theorem e130_33 : decode (ma_cd 130) 33 = .ok (.getfield 9, 3) := (congrArg (fun b => decode b 33) cd_130).trans dX8_row_33
theorem e130_36 : decode (ma_cd 130) 36 = .ok (.bipush 40, 2) := (congrArg (fun b => decode b 36) cd_130).trans dX8_row_36
theorem e130_38 : decode (ma_cd 130) 38 = .ok (.iload_n 1, 1) := (congrArg (fun b => decode b 38) cd_130).trans dX8_row_38
theorem e130_39 : decode (ma_cd 130) 39 = .ok (.iadd, 1) := (congrArg (fun b => decode b 39) cd_130).trans dX8_row_39
theorem e130_40 : decode (ma_cd 130) 40 = .ok (.iaload, 1) := (congrArg (fun b => decode b 40) cd_130).trans dX8_row_40
theorem e130_41 : decode (ma_cd 130) 41 = .ok (.bipush 6, 2) := (congrArg (fun b => decode b 41) cd_130).trans dX8_row_41
theorem e130_43 : decode (ma_cd 130) 43 = .ok (.if_icmp .ne 19, 3) := (congrArg (fun b => decode b 43) cd_130).trans dX8_row_43
theorem e130_46 : decode (ma_cd 130) 46 = .ok (.aload_n 0, 1) := (congrArg (fun b => decode b 46) cd_130).trans dX8_row_46
theorem e130_47 : decode (ma_cd 130) 47 = .ok (.bipush 52, 2) := (congrArg (fun b => decode b 47) cd_130).trans dX8_row_47
theorem e130_49 : decode (ma_cd 130) 49 = .ok (.iconst 4, 1) := (congrArg (fun b => decode b 49) cd_130).trans dX8_row_49
theorem e130_50 : decode (ma_cd 130) 50 = .ok (.iload_n 1, 1) := (congrArg (fun b => decode b 50) cd_130).trans dX8_row_50
theorem e130_51 : decode (ma_cd 130) 51 = .ok (.imul, 1) := (congrArg (fun b => decode b 51) cd_130).trans dX8_row_51
theorem e130_52 : decode (ma_cd 130) 52 = .ok (.iadd, 1) := (congrArg (fun b => decode b 52) cd_130).trans dX8_row_52
theorem e130_53 : decode (ma_cd 130) 53 = .ok (.iload_n 2, 1) := (congrArg (fun b => decode b 53) cd_130).trans dX8_row_53
theorem e130_54 : decode (ma_cd 130) 54 = .ok (.iadd, 1) := (congrArg (fun b => decode b 54) cd_130).trans dX8_row_54
theorem e130_55 : decode (ma_cd 130) 55 = .ok (.iload_n 3, 1) := (congrArg (fun b => decode b 55) cd_130).trans dX8_row_55
theorem e130_56 : decode (ma_cd 130) 56 = .ok (.invokevirtual 140, 3) := (congrArg (fun b => decode b 56) cd_130).trans dX8_row_56
theorem e130_59 : decode (ma_cd 130) 59 = .ok (.goto 5, 3) := (congrArg (fun b => decode b 59) cd_130).trans dX8_row_59
theorem e130_62 : decode (ma_cd 130) 62 = .ok (.bipush (-3), 2) := (congrArg (fun b => decode b 62) cd_130).trans dX8_row_62
theorem e130_64 : decode (ma_cd 130) 64 = .ok (.ireturn, 1) := (congrArg (fun b => decode b 64) cd_130).trans dX8_row_64
theorem S130 {ro : ma_RO} {d : Nat} : (∀ (v1 : Option Value) (v2 : Option Value) (v3 : Option Value) (a1 : Nat) (st : List Value) (σ : ma_H), ma_rn ro d 130 (0, [some (.ref a1), v1, v2, v3], st, SH, σ) = ma_rn ro d 130 (1, [some (.ref a1), v1, v2, v3], .ref a1 :: st, SH, σ)) ∧
  (∀ (v0 : Option Value) (v2 : Option Value) (v3 : Option Value) (x1 : Int32) (st : List Value) (σ : ma_H), ma_rn ro d 130 (1, [v0, some (.int x1), v2, v3], st, SH, σ) = ma_rn ro d 130 (2, [v0, some (.int x1), v2, v3], .int x1 :: st, SH, σ)) ∧
  (∀ (v0 : Option Value) (v1 : Option Value) (v2 : Option Value) (v3 : Option Value) (x1 : Int32) (a0 : Nat) (σ : ma_H) (hc : hk_cls a0 = 8), ma_rn ro (d + 1) 130 (2, [v0, v1, v2, v3], .int x1 :: .ref a0 :: [], SH, σ) = (ma_ev ro d 103 [.ref a0, .int x1] SH σ).bind (fun q => ma_rn ro (d + 1) 130 (5, [v0, v1, v2, v3], (q.1.toList ++ []), q.2.1, q.2.2))) ∧
  (∀ (v0 : Option Value) (v1 : Option Value) (v2 : Option Value) (v3 : Option Value) (x1 : Int32) (st : List Value) (σ : ma_H), ma_rn ro d 130 (5, [v0, v1, v2, v3], .int x1 :: st, SH, σ) = if x1 = nI 0 then ma_rn ro d 130 (17, [v0, v1, v2, v3], st, SH, σ) else ma_rn ro d 130 (8, [v0, v1, v2, v3], st, SH, σ)) ∧
  (∀ (v0 : Option Value) (v1 : Option Value) (v3 : Option Value) (x1 : Int32) (st : List Value) (σ : ma_H), ma_rn ro d 130 (8, [v0, v1, some (.int x1), v3], st, SH, σ) = ma_rn ro d 130 (9, [v0, v1, some (.int x1), v3], .int x1 :: st, SH, σ)) ∧
  (∀ (v0 : Option Value) (v1 : Option Value) (v2 : Option Value) (v3 : Option Value) (st : List Value) (σ : ma_H), ma_rn ro d 130 (9, [v0, v1, v2, v3], st, SH, σ) = ma_rn ro d 130 (10, [v0, v1, v2, v3], .int (nI 0) :: st, SH, σ)) ∧
  (∀ (v0 : Option Value) (v1 : Option Value) (v2 : Option Value) (v3 : Option Value) (st : List Value) (σ : ma_H), ma_rn ro d 130 (10, [v0, v1, v2, v3], st, SH, σ) = ma_rn ro d 130 (11, [v0, v1, v2, v3], .int (nI 3) :: st, SH, σ)) ∧
  (∀ (v0 : Option Value) (v1 : Option Value) (v2 : Option Value) (v3 : Option Value) (x1 : Int32) (x2 : Int32) (x3 : Int32) (σ : ma_H), ma_rn ro (d + 1) 130 (11, [v0, v1, v2, v3], .int x3 :: .int x2 :: .int x1 :: [], SH, σ) = (ma_ev ro d 102 [.int x1, .int x2, .int x3] SH σ).bind (fun q => ma_rn ro (d + 1) 130 (14, [v0, v1, v2, v3], (q.1.toList ++ []), q.2.1, q.2.2))) ∧
  (∀ (v0 : Option Value) (v1 : Option Value) (v2 : Option Value) (v3 : Option Value) (x1 : Int32) (st : List Value) (σ : ma_H), ma_rn ro d 130 (14, [v0, v1, v2, v3], .int x1 :: st, SH, σ) = if x1 = nI 0 then ma_rn ro d 130 (17, [v0, v1, v2, v3], st, SH, σ) else ma_rn ro d 130 (19, [v0, v1, v2, v3], st, SH, σ)) ∧
  (∀ (v0 : Option Value) (v1 : Option Value) (v2 : Option Value) (v3 : Option Value) (st : List Value) (σ : ma_H), ma_rn ro d 130 (17, [v0, v1, v2, v3], st, SH, σ) = ma_rn ro d 130 (18, [v0, v1, v2, v3], .int ((-1)) :: st, SH, σ)) ∧
  (∀ (v0 : Option Value) (v1 : Option Value) (v2 : Option Value) (v3 : Option Value) (x1 : Int32) (σ : ma_H), ma_rn ro d 130 (18, [v0, v1, v2, v3], [.int x1], SH, σ) = some (some (.int x1), SH, σ)) ∧
  (∀ (v0 : Option Value) (v1 : Option Value) (v2 : Option Value) (x1 : Int32) (st : List Value) (σ : ma_H), ma_rn ro d 130 (19, [v0, v1, v2, some (.int x1)], st, SH, σ) = ma_rn ro d 130 (20, [v0, v1, v2, some (.int x1)], .int x1 :: st, SH, σ)) ∧
  (∀ (v0 : Option Value) (v1 : Option Value) (v2 : Option Value) (v3 : Option Value) (st : List Value) (σ : ma_H), ma_rn ro d 130 (20, [v0, v1, v2, v3], st, SH, σ) = ma_rn ro d 130 (21, [v0, v1, v2, v3], .int (nI 0) :: st, SH, σ)) ∧
  (∀ (v0 : Option Value) (v1 : Option Value) (v2 : Option Value) (v3 : Option Value) (st : List Value) (σ : ma_H), ma_rn ro d 130 (21, [v0, v1, v2, v3], st, SH, σ) = ma_rn ro d 130 (23, [v0, v1, v2, v3], .int (nI 9) :: st, SH, σ)) ∧
  (∀ (v0 : Option Value) (v1 : Option Value) (v2 : Option Value) (v3 : Option Value) (x1 : Int32) (x2 : Int32) (x3 : Int32) (σ : ma_H), ma_rn ro (d + 1) 130 (23, [v0, v1, v2, v3], .int x3 :: .int x2 :: .int x1 :: [], SH, σ) = (ma_ev ro d 102 [.int x1, .int x2, .int x3] SH σ).bind (fun q => ma_rn ro (d + 1) 130 (26, [v0, v1, v2, v3], (q.1.toList ++ []), q.2.1, q.2.2))) ∧
  (∀ (v0 : Option Value) (v1 : Option Value) (v2 : Option Value) (v3 : Option Value) (x1 : Int32) (st : List Value) (σ : ma_H), ma_rn ro d 130 (26, [v0, v1, v2, v3], .int x1 :: st, SH, σ) = if x1 = nI 0 then ma_rn ro d 130 (29, [v0, v1, v2, v3], st, SH, σ) else ma_rn ro d 130 (32, [v0, v1, v2, v3], st, SH, σ)) ∧
  (∀ (v0 : Option Value) (v1 : Option Value) (v2 : Option Value) (v3 : Option Value) (st : List Value) (σ : ma_H), ma_rn ro d 130 (29, [v0, v1, v2, v3], st, SH, σ) = ma_rn ro d 130 (31, [v0, v1, v2, v3], .int ((-2)) :: st, SH, σ)) ∧
  (∀ (v0 : Option Value) (v1 : Option Value) (v2 : Option Value) (v3 : Option Value) (x1 : Int32) (σ : ma_H), ma_rn ro d 130 (31, [v0, v1, v2, v3], [.int x1], SH, σ) = some (some (.int x1), SH, σ)) ∧
  (∀ (v1 : Option Value) (v2 : Option Value) (v3 : Option Value) (a1 : Nat) (st : List Value) (σ : ma_H), ma_rn ro d 130 (32, [some (.ref a1), v1, v2, v3], st, SH, σ) = ma_rn ro d 130 (33, [some (.ref a1), v1, v2, v3], .ref a1 :: st, SH, σ)) ∧
  (∀ (v0 : Option Value) (v1 : Option Value) (v2 : Option Value) (v3 : Option Value) (a1 : Nat) (st : List Value) (σ : ma_H) (hc : hk_cls a1 = 8), ma_rn ro d 130 (33, [v0, v1, v2, v3], .ref a1 :: st, SH, σ) = ma_rn ro d 130 (36, [v0, v1, v2, v3], .ref (91) :: st, SH, σ)) ∧
  (∀ (v0 : Option Value) (v1 : Option Value) (v2 : Option Value) (v3 : Option Value) (st : List Value) (σ : ma_H), ma_rn ro d 130 (36, [v0, v1, v2, v3], st, SH, σ) = ma_rn ro d 130 (38, [v0, v1, v2, v3], .int (nI 40) :: st, SH, σ)) ∧
  (∀ (v0 : Option Value) (v2 : Option Value) (v3 : Option Value) (x1 : Int32) (st : List Value) (σ : ma_H), ma_rn ro d 130 (38, [v0, some (.int x1), v2, v3], st, SH, σ) = ma_rn ro d 130 (39, [v0, some (.int x1), v2, v3], .int x1 :: st, SH, σ)) ∧
  (∀ (v0 : Option Value) (v1 : Option Value) (v2 : Option Value) (v3 : Option Value) (x1 : Int32) (x2 : Int32) (st : List Value) (σ : ma_H), ma_rn ro d 130 (39, [v0, v1, v2, v3], .int x1 :: .int x2 :: st, SH, σ) = ma_rn ro d 130 (40, [v0, v1, v2, v3], .int (x2 + x1) :: st, SH, σ)) ∧
  (∀ (v0 : Option Value) (v1 : Option Value) (v2 : Option Value) (v3 : Option Value) (k : Nat) (a2 : Nat) (st : List Value) (σ : ma_H) (hk : k < hk_len a2), ma_rn ro d 130 (40, [v0, v1, v2, v3], .int (nI k) :: .ref a2 :: st, SH, σ) = ma_rn ro d 130 (41, [v0, v1, v2, v3], .int (σ a2 k) :: st, SH, σ)) ∧
  (∀ (v0 : Option Value) (v1 : Option Value) (v2 : Option Value) (v3 : Option Value) (st : List Value) (σ : ma_H), ma_rn ro d 130 (41, [v0, v1, v2, v3], st, SH, σ) = ma_rn ro d 130 (43, [v0, v1, v2, v3], .int (nI 6) :: st, SH, σ)) ∧
  (∀ (v0 : Option Value) (v1 : Option Value) (v2 : Option Value) (v3 : Option Value) (x1 : Int32) (x2 : Int32) (st : List Value) (σ : ma_H), ma_rn ro d 130 (43, [v0, v1, v2, v3], .int x1 :: .int x2 :: st, SH, σ) = if x2 = x1 then ma_rn ro d 130 (46, [v0, v1, v2, v3], st, SH, σ) else ma_rn ro d 130 (62, [v0, v1, v2, v3], st, SH, σ)) ∧
  (∀ (v1 : Option Value) (v2 : Option Value) (v3 : Option Value) (a1 : Nat) (st : List Value) (σ : ma_H), ma_rn ro d 130 (46, [some (.ref a1), v1, v2, v3], st, SH, σ) = ma_rn ro d 130 (47, [some (.ref a1), v1, v2, v3], .ref a1 :: st, SH, σ)) ∧
  (∀ (v0 : Option Value) (v1 : Option Value) (v2 : Option Value) (v3 : Option Value) (st : List Value) (σ : ma_H), ma_rn ro d 130 (47, [v0, v1, v2, v3], st, SH, σ) = ma_rn ro d 130 (49, [v0, v1, v2, v3], .int (nI 52) :: st, SH, σ)) ∧
  (∀ (v0 : Option Value) (v1 : Option Value) (v2 : Option Value) (v3 : Option Value) (st : List Value) (σ : ma_H), ma_rn ro d 130 (49, [v0, v1, v2, v3], st, SH, σ) = ma_rn ro d 130 (50, [v0, v1, v2, v3], .int (nI 4) :: st, SH, σ)) ∧
  (∀ (v0 : Option Value) (v2 : Option Value) (v3 : Option Value) (x1 : Int32) (st : List Value) (σ : ma_H), ma_rn ro d 130 (50, [v0, some (.int x1), v2, v3], st, SH, σ) = ma_rn ro d 130 (51, [v0, some (.int x1), v2, v3], .int x1 :: st, SH, σ)) ∧
  (∀ (v0 : Option Value) (v1 : Option Value) (v2 : Option Value) (v3 : Option Value) (x1 : Int32) (x2 : Int32) (st : List Value) (σ : ma_H), ma_rn ro d 130 (51, [v0, v1, v2, v3], .int x1 :: .int x2 :: st, SH, σ) = ma_rn ro d 130 (52, [v0, v1, v2, v3], .int (x2 * x1) :: st, SH, σ)) ∧
  (∀ (v0 : Option Value) (v1 : Option Value) (v2 : Option Value) (v3 : Option Value) (x1 : Int32) (x2 : Int32) (st : List Value) (σ : ma_H), ma_rn ro d 130 (52, [v0, v1, v2, v3], .int x1 :: .int x2 :: st, SH, σ) = ma_rn ro d 130 (53, [v0, v1, v2, v3], .int (x2 + x1) :: st, SH, σ)) ∧
  (∀ (v0 : Option Value) (v1 : Option Value) (v3 : Option Value) (x1 : Int32) (st : List Value) (σ : ma_H), ma_rn ro d 130 (53, [v0, v1, some (.int x1), v3], st, SH, σ) = ma_rn ro d 130 (54, [v0, v1, some (.int x1), v3], .int x1 :: st, SH, σ)) ∧
  (∀ (v0 : Option Value) (v1 : Option Value) (v2 : Option Value) (v3 : Option Value) (x1 : Int32) (x2 : Int32) (st : List Value) (σ : ma_H), ma_rn ro d 130 (54, [v0, v1, v2, v3], .int x1 :: .int x2 :: st, SH, σ) = ma_rn ro d 130 (55, [v0, v1, v2, v3], .int (x2 + x1) :: st, SH, σ)) ∧
  (∀ (v0 : Option Value) (v1 : Option Value) (v2 : Option Value) (x1 : Int32) (st : List Value) (σ : ma_H), ma_rn ro d 130 (55, [v0, v1, v2, some (.int x1)], st, SH, σ) = ma_rn ro d 130 (56, [v0, v1, v2, some (.int x1)], .int x1 :: st, SH, σ)) ∧
  (∀ (v0 : Option Value) (v1 : Option Value) (v2 : Option Value) (v3 : Option Value) (x1 : Int32) (x2 : Int32) (a0 : Nat) (σ : ma_H) (hc : hk_cls a0 = 8), ma_rn ro (d + 1) 130 (56, [v0, v1, v2, v3], .int x2 :: .int x1 :: .ref a0 :: [], SH, σ) = (ma_ev ro d 127 [.ref a0, .int x1, .int x2] SH σ).bind (fun q => ma_rn ro (d + 1) 130 (59, [v0, v1, v2, v3], (q.1.toList ++ []), q.2.1, q.2.2))) ∧
  (∀ (v0 : Option Value) (v1 : Option Value) (v2 : Option Value) (v3 : Option Value) (st : List Value) (σ : ma_H), ma_rn ro d 130 (59, [v0, v1, v2, v3], st, SH, σ) = ma_rn ro d 130 (64, [v0, v1, v2, v3], st, SH, σ)) ∧
  (∀ (v0 : Option Value) (v1 : Option Value) (v2 : Option Value) (v3 : Option Value) (st : List Value) (σ : ma_H), ma_rn ro d 130 (62, [v0, v1, v2, v3], st, SH, σ) = ma_rn ro d 130 (64, [v0, v1, v2, v3], .int ((-3)) :: st, SH, σ)) ∧
  (∀ (v0 : Option Value) (v1 : Option Value) (v2 : Option Value) (v3 : Option Value) (x1 : Int32) (σ : ma_H), ma_rn ro d 130 (64, [v0, v1, v2, v3], [.int x1], SH, σ) = some (some (.int x1), SH, σ)) := ⟨fun v1 v2 v3 a1 st σ => q_go e130_0 rfl rfl,
  fun v0 v2 v3 x1 st σ => q_go e130_1 rfl rfl,
  fun v0 v1 v2 v3 x1 a0 σ hc => q_invV (as := [.int x1]) (rest := []) e130_2 o_130 bn_8_129 c_8_129 m_103 (by decide) rfl rfl (Nat.le_of_ble_eq_true rfl) (Nat.le_of_ble_eq_true rfl) hc,
  fun v0 v1 v2 v3 x1 st σ => (q_if e130_5 rfl).trans q_eq,
  fun v0 v1 v3 x1 st σ => q_go e130_8 rfl rfl,
  fun v0 v1 v2 v3 st σ => q_iconst e130_9 (by decide),
  fun v0 v1 v2 v3 st σ => q_iconst e130_10 (by decide),
  fun v0 v1 v2 v3 x1 x2 x3 σ => q_invS (as := [.int x1, .int x2, .int x3]) (rest := []) e130_11 o_130 bn_8_35 c_8_35 ⟨m_102.1, m_102.2.1, m_102.2.2.1⟩ rfl rfl (Nat.le_of_ble_eq_true rfl) (Nat.le_of_ble_eq_true rfl),
  fun v0 v1 v2 v3 x1 st σ => (q_if e130_14 rfl).trans q_ne,
  fun v0 v1 v2 v3 st σ => q_iconst e130_17 (by decide),
  fun v0 v1 v2 v3 x1 σ => q_iret e130_18 r_130,
  fun v0 v1 v2 x1 st σ => q_go e130_19 rfl rfl,
  fun v0 v1 v2 v3 st σ => q_iconst e130_20 (by decide),
  fun v0 v1 v2 v3 st σ => q_bipush e130_21 (by decide),
  fun v0 v1 v2 v3 x1 x2 x3 σ => q_invS (as := [.int x1, .int x2, .int x3]) (rest := []) e130_23 o_130 bn_8_35 c_8_35 ⟨m_102.1, m_102.2.1, m_102.2.2.1⟩ rfl rfl (Nat.le_of_ble_eq_true rfl) (Nat.le_of_ble_eq_true rfl),
  fun v0 v1 v2 v3 x1 st σ => (q_if e130_26 rfl).trans q_ne,
  fun v0 v1 v2 v3 st σ => q_bipush e130_29 (by decide),
  fun v0 v1 v2 v3 x1 σ => q_iret e130_31 r_130,
  fun v1 v2 v3 a1 st σ => q_go e130_32 rfl rfl,
  fun v0 v1 v2 v3 a1 st σ hc => q_getA e130_33 o_130 f_8_9 (by decide) hc,
  fun v0 v1 v2 v3 st σ => q_bipush e130_36 (by decide),
  fun v0 v2 v3 x1 st σ => q_go e130_38 rfl rfl,
  fun v0 v1 v2 v3 x1 x2 st σ => q_go e130_39 rfl rfl,
  fun v0 v1 v2 v3 k a2 st σ hk => q_iald e130_40 hk,
  fun v0 v1 v2 v3 st σ => q_bipush e130_41 (by decide),
  fun v0 v1 v2 v3 x1 x2 st σ => (q_cmp e130_43 rfl).trans q_ne,
  fun v1 v2 v3 a1 st σ => q_go e130_46 rfl rfl,
  fun v0 v1 v2 v3 st σ => q_bipush e130_47 (by decide),
  fun v0 v1 v2 v3 st σ => q_iconst e130_49 (by decide),
  fun v0 v2 v3 x1 st σ => q_go e130_50 rfl rfl,
  fun v0 v1 v2 v3 x1 x2 st σ => q_go e130_51 rfl rfl,
  fun v0 v1 v2 v3 x1 x2 st σ => q_go e130_52 rfl rfl,
  fun v0 v1 v3 x1 st σ => q_go e130_53 rfl rfl,
  fun v0 v1 v2 v3 x1 x2 st σ => q_go e130_54 rfl rfl,
  fun v0 v1 v2 x1 st σ => q_go e130_55 rfl rfl,
  fun v0 v1 v2 v3 x1 x2 a0 σ hc => q_invV (as := [.int x1, .int x2]) (rest := []) e130_56 o_130 bn_8_140 c_8_140 m_127 (by decide) rfl rfl (Nat.le_of_ble_eq_true rfl) (Nat.le_of_ble_eq_true rfl) hc,
  fun v0 v1 v2 v3 st σ => q_goto e130_59 rfl,
  fun v0 v1 v2 v3 st σ => q_bipush e130_62 (by decide),
  fun v0 v1 v2 v3 x1 σ => q_iret e130_64 r_130⟩
theorem E130 {ro : ma_RO} {d : Nat} (a0 : Nat) (x1 : Int32) (x2 : Int32) (x3 : Int32) (sh : List ma_Sh) (σ : ma_H) : ma_ev ro d 130 [.ref a0, .int x1, .int x2, .int x3] sh σ = ma_rn ro d 130 (0, [some (.ref a0), some (.int x1), some (.int x2), some (.int x3)], [], sh, σ) := q_ent x_130 rfl
theorem e131_0 : decode (ma_cd 131) 0 = .ok (.aload_n 0, 1) := (congrArg (fun b => decode b 0) cd_131).trans dX8_set_0
theorem e131_1 : decode (ma_cd 131) 1 = .ok (.iload_n 1, 1) := (congrArg (fun b => decode b 1) cd_131).trans dX8_set_1
theorem e131_2 : decode (ma_cd 131) 2 = .ok (.invokevirtual 129, 3) := (congrArg (fun b => decode b 2) cd_131).trans dX8_set_2
theorem e131_5 : decode (ma_cd 131) 5 = .ok (.ifCond .eq 12, 3) := (congrArg (fun b => decode b 5) cd_131).trans dX8_set_5
theorem e131_8 : decode (ma_cd 131) 8 = .ok (.iload_n 2, 1) := (congrArg (fun b => decode b 8) cd_131).trans dX8_set_8
theorem e131_9 : decode (ma_cd 131) 9 = .ok (.iconst 0, 1) := (congrArg (fun b => decode b 9) cd_131).trans dX8_set_9
theorem e131_10 : decode (ma_cd 131) 10 = .ok (.iconst 2, 1) := (congrArg (fun b => decode b 10) cd_131).trans dX8_set_10
theorem e131_11 : decode (ma_cd 131) 11 = .ok (.invokestatic 35, 3) := (congrArg (fun b => decode b 11) cd_131).trans dX8_set_11
theorem e131_14 : decode (ma_cd 131) 14 = .ok (.ifCond .ne 5, 3) := (congrArg (fun b => decode b 14) cd_131).trans dX8_set_14
theorem e131_17 : decode (ma_cd 131) 17 = .ok (.iconst (-1), 1) := (congrArg (fun b => decode b 17) cd_131).trans dX8_set_17
theorem e131_18 : decode (ma_cd 131) 18 = .ok (.ireturn, 1) := (congrArg (fun b => decode b 18) cd_131).trans dX8_set_18
theorem e131_19 : decode (ma_cd 131) 19 = .ok (.iload_n 3, 1) := (congrArg (fun b => decode b 19) cd_131).trans dX8_set_19
theorem e131_20 : decode (ma_cd 131) 20 = .ok (.iconst 0, 1) := (congrArg (fun b => decode b 20) cd_131).trans dX8_set_20
theorem e131_21 : decode (ma_cd 131) 21 = .ok (.iload_n 2, 1) := (congrArg (fun b => decode b 21) cd_131).trans dX8_set_21
theorem e131_22 : decode (ma_cd 131) 22 = .ok (.iconst 2, 1) := (congrArg (fun b => decode b 22) cd_131).trans dX8_set_22
theorem e131_23 : decode (ma_cd 131) 23 = .ok (.if_icmp .ne 8, 3) := (congrArg (fun b => decode b 23) cd_131).trans dX8_set_23
theorem e131_26 : decode (ma_cd 131) 26 = .ok (.bipush 9, 2) := (congrArg (fun b => decode b 26) cd_131).trans dX8_set_26
theorem e131_28 : decode (ma_cd 131) 28 = .ok (.goto 5, 3) := (congrArg (fun b => decode b 28) cd_131).trans dX8_set_28
theorem e131_31 : decode (ma_cd 131) 31 = .ok (.bipush 99, 2) := (congrArg (fun b => decode b 31) cd_131).trans dX8_set_31
theorem e131_33 : decode (ma_cd 131) 33 = .ok (.invokestatic 35, 3) := (congrArg (fun b => decode b 33) cd_131).trans dX8_set_33
theorem e131_36 : decode (ma_cd 131) 36 = .ok (.ifCond .ne 6, 3) := (congrArg (fun b => decode b 36) cd_131).trans dX8_set_36
theorem e131_39 : decode (ma_cd 131) 39 = .ok (.bipush (-2), 2) := (congrArg (fun b => decode b 39) cd_131).trans dX8_set_39
theorem e131_41 : decode (ma_cd 131) 41 = .ok (.ireturn, 1) := (congrArg (fun b => decode b 41) cd_131).trans dX8_set_41
theorem e131_42 : decode (ma_cd 131) 42 = .ok (.aload_n 0, 1) := (congrArg (fun b => decode b 42) cd_131).trans dX8_set_42
theorem e131_43 : decode (ma_cd 131) 43 = .ok (.iload_n 2, 1) := (congrArg (fun b => decode b 43) cd_131).trans dX8_set_43
theorem e131_44 : decode (ma_cd 131) 44 = .ok (.ifCond .ne 8, 3) := (congrArg (fun b => decode b 44) cd_131).trans dX8_set_44
theorem e131_47 : decode (ma_cd 131) 47 = .ok (.bipush 9, 2) := (congrArg (fun b => decode b 47) cd_131).trans dX8_set_47
theorem e131_49 : decode (ma_cd 131) 49 = .ok (.goto 15, 3) := (congrArg (fun b => decode b 49) cd_131).trans dX8_set_49
theorem e131_52 : decode (ma_cd 131) 52 = .ok (.iload_n 2, 1) := (congrArg (fun b => decode b 52) cd_131).trans dX8_set_52
theorem e131_53 : decode (ma_cd 131) 53 = .ok (.iconst 1, 1) := (congrArg (fun b => decode b 53) cd_131).trans dX8_set_53
theorem e131_54 : decode (ma_cd 131) 54 = .ok (.if_icmp .ne 8, 3) := (congrArg (fun b => decode b 54) cd_131).trans dX8_set_54
theorem e131_57 : decode (ma_cd 131) 57 = .ok (.bipush 15, 2) := (congrArg (fun b => decode b 57) cd_131).trans dX8_set_57
theorem e131_59 : decode (ma_cd 131) 59 = .ok (.goto 5, 3) := (congrArg (fun b => decode b 59) cd_131).trans dX8_set_59
theorem e131_62 : decode (ma_cd 131) 62 = .ok (.bipush 21, 2) := (congrArg (fun b => decode b 62) cd_131).trans dX8_set_62
theorem e131_64 : decode (ma_cd 131) 64 = .ok (.iload_n 1, 1) := (congrArg (fun b => decode b 64) cd_131).trans dX8_set_64
theorem e131_65 : decode (ma_cd 131) 65 = .ok (.iadd, 1) := (congrArg (fun b => decode b 65) cd_131).trans dX8_set_65
theorem e131_66 : decode (ma_cd 131) 66 = .ok (.iload_n 3, 1) := (congrArg (fun b => decode b 66) cd_131).trans dX8_set_66
theorem e131_67 : decode (ma_cd 131) 67 = .ok (.invokevirtual 140, 3) := (congrArg (fun b => decode b 67) cd_131).trans dX8_set_67
theorem e131_70 : decode (ma_cd 131) 70 = .ok (.ireturn, 1) := (congrArg (fun b => decode b 70) cd_131).trans dX8_set_70
theorem S131 {ro : ma_RO} {d : Nat} : (∀ (v1 : Option Value) (v2 : Option Value) (v3 : Option Value) (a1 : Nat) (st : List Value) (σ : ma_H), ma_rn ro d 131 (0, [some (.ref a1), v1, v2, v3], st, SH, σ) = ma_rn ro d 131 (1, [some (.ref a1), v1, v2, v3], .ref a1 :: st, SH, σ)) ∧
  (∀ (v0 : Option Value) (v2 : Option Value) (v3 : Option Value) (x1 : Int32) (st : List Value) (σ : ma_H), ma_rn ro d 131 (1, [v0, some (.int x1), v2, v3], st, SH, σ) = ma_rn ro d 131 (2, [v0, some (.int x1), v2, v3], .int x1 :: st, SH, σ)) ∧
  (∀ (v0 : Option Value) (v1 : Option Value) (v2 : Option Value) (v3 : Option Value) (x1 : Int32) (a0 : Nat) (σ : ma_H) (hc : hk_cls a0 = 8), ma_rn ro (d + 1) 131 (2, [v0, v1, v2, v3], .int x1 :: .ref a0 :: [], SH, σ) = (ma_ev ro d 103 [.ref a0, .int x1] SH σ).bind (fun q => ma_rn ro (d + 1) 131 (5, [v0, v1, v2, v3], (q.1.toList ++ []), q.2.1, q.2.2))) ∧
  (∀ (v0 : Option Value) (v1 : Option Value) (v2 : Option Value) (v3 : Option Value) (x1 : Int32) (st : List Value) (σ : ma_H), ma_rn ro d 131 (5, [v0, v1, v2, v3], .int x1 :: st, SH, σ) = if x1 = nI 0 then ma_rn ro d 131 (17, [v0, v1, v2, v3], st, SH, σ) else ma_rn ro d 131 (8, [v0, v1, v2, v3], st, SH, σ)) ∧
  (∀ (v0 : Option Value) (v1 : Option Value) (v3 : Option Value) (x1 : Int32) (st : List Value) (σ : ma_H), ma_rn ro d 131 (8, [v0, v1, some (.int x1), v3], st, SH, σ) = ma_rn ro d 131 (9, [v0, v1, some (.int x1), v3], .int x1 :: st, SH, σ)) ∧
  (∀ (v0 : Option Value) (v1 : Option Value) (v2 : Option Value) (v3 : Option Value) (st : List Value) (σ : ma_H), ma_rn ro d 131 (9, [v0, v1, v2, v3], st, SH, σ) = ma_rn ro d 131 (10, [v0, v1, v2, v3], .int (nI 0) :: st, SH, σ)) ∧
  (∀ (v0 : Option Value) (v1 : Option Value) (v2 : Option Value) (v3 : Option Value) (st : List Value) (σ : ma_H), ma_rn ro d 131 (10, [v0, v1, v2, v3], st, SH, σ) = ma_rn ro d 131 (11, [v0, v1, v2, v3], .int (nI 2) :: st, SH, σ)) ∧
  (∀ (v0 : Option Value) (v1 : Option Value) (v2 : Option Value) (v3 : Option Value) (x1 : Int32) (x2 : Int32) (x3 : Int32) (σ : ma_H), ma_rn ro (d + 1) 131 (11, [v0, v1, v2, v3], .int x3 :: .int x2 :: .int x1 :: [], SH, σ) = (ma_ev ro d 102 [.int x1, .int x2, .int x3] SH σ).bind (fun q => ma_rn ro (d + 1) 131 (14, [v0, v1, v2, v3], (q.1.toList ++ []), q.2.1, q.2.2))) ∧
  (∀ (v0 : Option Value) (v1 : Option Value) (v2 : Option Value) (v3 : Option Value) (x1 : Int32) (st : List Value) (σ : ma_H), ma_rn ro d 131 (14, [v0, v1, v2, v3], .int x1 :: st, SH, σ) = if x1 = nI 0 then ma_rn ro d 131 (17, [v0, v1, v2, v3], st, SH, σ) else ma_rn ro d 131 (19, [v0, v1, v2, v3], st, SH, σ)) ∧
  (∀ (v0 : Option Value) (v1 : Option Value) (v2 : Option Value) (v3 : Option Value) (st : List Value) (σ : ma_H), ma_rn ro d 131 (17, [v0, v1, v2, v3], st, SH, σ) = ma_rn ro d 131 (18, [v0, v1, v2, v3], .int ((-1)) :: st, SH, σ)) ∧
  (∀ (v0 : Option Value) (v1 : Option Value) (v2 : Option Value) (v3 : Option Value) (x1 : Int32) (σ : ma_H), ma_rn ro d 131 (18, [v0, v1, v2, v3], [.int x1], SH, σ) = some (some (.int x1), SH, σ)) ∧
  (∀ (v0 : Option Value) (v1 : Option Value) (v2 : Option Value) (x1 : Int32) (st : List Value) (σ : ma_H), ma_rn ro d 131 (19, [v0, v1, v2, some (.int x1)], st, SH, σ) = ma_rn ro d 131 (20, [v0, v1, v2, some (.int x1)], .int x1 :: st, SH, σ)) ∧
  (∀ (v0 : Option Value) (v1 : Option Value) (v2 : Option Value) (v3 : Option Value) (st : List Value) (σ : ma_H), ma_rn ro d 131 (20, [v0, v1, v2, v3], st, SH, σ) = ma_rn ro d 131 (21, [v0, v1, v2, v3], .int (nI 0) :: st, SH, σ)) ∧
  (∀ (v0 : Option Value) (v1 : Option Value) (v3 : Option Value) (x1 : Int32) (st : List Value) (σ : ma_H), ma_rn ro d 131 (21, [v0, v1, some (.int x1), v3], st, SH, σ) = ma_rn ro d 131 (22, [v0, v1, some (.int x1), v3], .int x1 :: st, SH, σ)) ∧
  (∀ (v0 : Option Value) (v1 : Option Value) (v2 : Option Value) (v3 : Option Value) (st : List Value) (σ : ma_H), ma_rn ro d 131 (22, [v0, v1, v2, v3], st, SH, σ) = ma_rn ro d 131 (23, [v0, v1, v2, v3], .int (nI 2) :: st, SH, σ)) ∧
  (∀ (v0 : Option Value) (v1 : Option Value) (v2 : Option Value) (v3 : Option Value) (x1 : Int32) (x2 : Int32) (st : List Value) (σ : ma_H), ma_rn ro d 131 (23, [v0, v1, v2, v3], .int x1 :: .int x2 :: st, SH, σ) = if x2 = x1 then ma_rn ro d 131 (26, [v0, v1, v2, v3], st, SH, σ) else ma_rn ro d 131 (31, [v0, v1, v2, v3], st, SH, σ)) ∧
  (∀ (v0 : Option Value) (v1 : Option Value) (v2 : Option Value) (v3 : Option Value) (st : List Value) (σ : ma_H), ma_rn ro d 131 (26, [v0, v1, v2, v3], st, SH, σ) = ma_rn ro d 131 (28, [v0, v1, v2, v3], .int (nI 9) :: st, SH, σ)) ∧
  (∀ (v0 : Option Value) (v1 : Option Value) (v2 : Option Value) (v3 : Option Value) (st : List Value) (σ : ma_H), ma_rn ro d 131 (28, [v0, v1, v2, v3], st, SH, σ) = ma_rn ro d 131 (33, [v0, v1, v2, v3], st, SH, σ)) ∧
  (∀ (v0 : Option Value) (v1 : Option Value) (v2 : Option Value) (v3 : Option Value) (st : List Value) (σ : ma_H), ma_rn ro d 131 (31, [v0, v1, v2, v3], st, SH, σ) = ma_rn ro d 131 (33, [v0, v1, v2, v3], .int (nI 99) :: st, SH, σ)) ∧
  (∀ (v0 : Option Value) (v1 : Option Value) (v2 : Option Value) (v3 : Option Value) (x1 : Int32) (x2 : Int32) (x3 : Int32) (σ : ma_H), ma_rn ro (d + 1) 131 (33, [v0, v1, v2, v3], .int x3 :: .int x2 :: .int x1 :: [], SH, σ) = (ma_ev ro d 102 [.int x1, .int x2, .int x3] SH σ).bind (fun q => ma_rn ro (d + 1) 131 (36, [v0, v1, v2, v3], (q.1.toList ++ []), q.2.1, q.2.2))) ∧
  (∀ (v0 : Option Value) (v1 : Option Value) (v2 : Option Value) (v3 : Option Value) (x1 : Int32) (st : List Value) (σ : ma_H), ma_rn ro d 131 (36, [v0, v1, v2, v3], .int x1 :: st, SH, σ) = if x1 = nI 0 then ma_rn ro d 131 (39, [v0, v1, v2, v3], st, SH, σ) else ma_rn ro d 131 (42, [v0, v1, v2, v3], st, SH, σ)) ∧
  (∀ (v0 : Option Value) (v1 : Option Value) (v2 : Option Value) (v3 : Option Value) (st : List Value) (σ : ma_H), ma_rn ro d 131 (39, [v0, v1, v2, v3], st, SH, σ) = ma_rn ro d 131 (41, [v0, v1, v2, v3], .int ((-2)) :: st, SH, σ)) ∧
  (∀ (v0 : Option Value) (v1 : Option Value) (v2 : Option Value) (v3 : Option Value) (x1 : Int32) (σ : ma_H), ma_rn ro d 131 (41, [v0, v1, v2, v3], [.int x1], SH, σ) = some (some (.int x1), SH, σ)) ∧
  (∀ (v1 : Option Value) (v2 : Option Value) (v3 : Option Value) (a1 : Nat) (st : List Value) (σ : ma_H), ma_rn ro d 131 (42, [some (.ref a1), v1, v2, v3], st, SH, σ) = ma_rn ro d 131 (43, [some (.ref a1), v1, v2, v3], .ref a1 :: st, SH, σ)) ∧
  (∀ (v0 : Option Value) (v1 : Option Value) (v3 : Option Value) (x1 : Int32) (st : List Value) (σ : ma_H), ma_rn ro d 131 (43, [v0, v1, some (.int x1), v3], st, SH, σ) = ma_rn ro d 131 (44, [v0, v1, some (.int x1), v3], .int x1 :: st, SH, σ)) ∧
  (∀ (v0 : Option Value) (v1 : Option Value) (v2 : Option Value) (v3 : Option Value) (x1 : Int32) (st : List Value) (σ : ma_H), ma_rn ro d 131 (44, [v0, v1, v2, v3], .int x1 :: st, SH, σ) = if x1 = nI 0 then ma_rn ro d 131 (47, [v0, v1, v2, v3], st, SH, σ) else ma_rn ro d 131 (52, [v0, v1, v2, v3], st, SH, σ)) ∧
  (∀ (v0 : Option Value) (v1 : Option Value) (v2 : Option Value) (v3 : Option Value) (st : List Value) (σ : ma_H), ma_rn ro d 131 (47, [v0, v1, v2, v3], st, SH, σ) = ma_rn ro d 131 (49, [v0, v1, v2, v3], .int (nI 9) :: st, SH, σ)) ∧
  (∀ (v0 : Option Value) (v1 : Option Value) (v2 : Option Value) (v3 : Option Value) (st : List Value) (σ : ma_H), ma_rn ro d 131 (49, [v0, v1, v2, v3], st, SH, σ) = ma_rn ro d 131 (64, [v0, v1, v2, v3], st, SH, σ)) ∧
  (∀ (v0 : Option Value) (v1 : Option Value) (v3 : Option Value) (x1 : Int32) (st : List Value) (σ : ma_H), ma_rn ro d 131 (52, [v0, v1, some (.int x1), v3], st, SH, σ) = ma_rn ro d 131 (53, [v0, v1, some (.int x1), v3], .int x1 :: st, SH, σ)) ∧
  (∀ (v0 : Option Value) (v1 : Option Value) (v2 : Option Value) (v3 : Option Value) (st : List Value) (σ : ma_H), ma_rn ro d 131 (53, [v0, v1, v2, v3], st, SH, σ) = ma_rn ro d 131 (54, [v0, v1, v2, v3], .int (nI 1) :: st, SH, σ)) ∧
  (∀ (v0 : Option Value) (v1 : Option Value) (v2 : Option Value) (v3 : Option Value) (x1 : Int32) (x2 : Int32) (st : List Value) (σ : ma_H), ma_rn ro d 131 (54, [v0, v1, v2, v3], .int x1 :: .int x2 :: st, SH, σ) = if x2 = x1 then ma_rn ro d 131 (57, [v0, v1, v2, v3], st, SH, σ) else ma_rn ro d 131 (62, [v0, v1, v2, v3], st, SH, σ)) ∧
  (∀ (v0 : Option Value) (v1 : Option Value) (v2 : Option Value) (v3 : Option Value) (st : List Value) (σ : ma_H), ma_rn ro d 131 (57, [v0, v1, v2, v3], st, SH, σ) = ma_rn ro d 131 (59, [v0, v1, v2, v3], .int (nI 15) :: st, SH, σ)) ∧
  (∀ (v0 : Option Value) (v1 : Option Value) (v2 : Option Value) (v3 : Option Value) (st : List Value) (σ : ma_H), ma_rn ro d 131 (59, [v0, v1, v2, v3], st, SH, σ) = ma_rn ro d 131 (64, [v0, v1, v2, v3], st, SH, σ)) ∧
  (∀ (v0 : Option Value) (v1 : Option Value) (v2 : Option Value) (v3 : Option Value) (st : List Value) (σ : ma_H), ma_rn ro d 131 (62, [v0, v1, v2, v3], st, SH, σ) = ma_rn ro d 131 (64, [v0, v1, v2, v3], .int (nI 21) :: st, SH, σ)) ∧
  (∀ (v0 : Option Value) (v2 : Option Value) (v3 : Option Value) (x1 : Int32) (st : List Value) (σ : ma_H), ma_rn ro d 131 (64, [v0, some (.int x1), v2, v3], st, SH, σ) = ma_rn ro d 131 (65, [v0, some (.int x1), v2, v3], .int x1 :: st, SH, σ)) ∧
  (∀ (v0 : Option Value) (v1 : Option Value) (v2 : Option Value) (v3 : Option Value) (x1 : Int32) (x2 : Int32) (st : List Value) (σ : ma_H), ma_rn ro d 131 (65, [v0, v1, v2, v3], .int x1 :: .int x2 :: st, SH, σ) = ma_rn ro d 131 (66, [v0, v1, v2, v3], .int (x2 + x1) :: st, SH, σ)) ∧
  (∀ (v0 : Option Value) (v1 : Option Value) (v2 : Option Value) (x1 : Int32) (st : List Value) (σ : ma_H), ma_rn ro d 131 (66, [v0, v1, v2, some (.int x1)], st, SH, σ) = ma_rn ro d 131 (67, [v0, v1, v2, some (.int x1)], .int x1 :: st, SH, σ)) ∧
  (∀ (v0 : Option Value) (v1 : Option Value) (v2 : Option Value) (v3 : Option Value) (x1 : Int32) (x2 : Int32) (a0 : Nat) (σ : ma_H) (hc : hk_cls a0 = 8), ma_rn ro (d + 1) 131 (67, [v0, v1, v2, v3], .int x2 :: .int x1 :: .ref a0 :: [], SH, σ) = (ma_ev ro d 127 [.ref a0, .int x1, .int x2] SH σ).bind (fun q => ma_rn ro (d + 1) 131 (70, [v0, v1, v2, v3], (q.1.toList ++ []), q.2.1, q.2.2))) ∧
  (∀ (v0 : Option Value) (v1 : Option Value) (v2 : Option Value) (v3 : Option Value) (x1 : Int32) (σ : ma_H), ma_rn ro d 131 (70, [v0, v1, v2, v3], [.int x1], SH, σ) = some (some (.int x1), SH, σ)) := ⟨fun v1 v2 v3 a1 st σ => q_go e131_0 rfl rfl,
  fun v0 v2 v3 x1 st σ => q_go e131_1 rfl rfl,
  fun v0 v1 v2 v3 x1 a0 σ hc => q_invV (as := [.int x1]) (rest := []) e131_2 o_131 bn_8_129 c_8_129 m_103 (by decide) rfl rfl (Nat.le_of_ble_eq_true rfl) (Nat.le_of_ble_eq_true rfl) hc,
  fun v0 v1 v2 v3 x1 st σ => (q_if e131_5 rfl).trans q_eq,
  fun v0 v1 v3 x1 st σ => q_go e131_8 rfl rfl,
  fun v0 v1 v2 v3 st σ => q_iconst e131_9 (by decide),
  fun v0 v1 v2 v3 st σ => q_iconst e131_10 (by decide),
  fun v0 v1 v2 v3 x1 x2 x3 σ => q_invS (as := [.int x1, .int x2, .int x3]) (rest := []) e131_11 o_131 bn_8_35 c_8_35 ⟨m_102.1, m_102.2.1, m_102.2.2.1⟩ rfl rfl (Nat.le_of_ble_eq_true rfl) (Nat.le_of_ble_eq_true rfl),
  fun v0 v1 v2 v3 x1 st σ => (q_if e131_14 rfl).trans q_ne,
  fun v0 v1 v2 v3 st σ => q_iconst e131_17 (by decide),
  fun v0 v1 v2 v3 x1 σ => q_iret e131_18 r_131,
  fun v0 v1 v2 x1 st σ => q_go e131_19 rfl rfl,
  fun v0 v1 v2 v3 st σ => q_iconst e131_20 (by decide),
  fun v0 v1 v3 x1 st σ => q_go e131_21 rfl rfl,
  fun v0 v1 v2 v3 st σ => q_iconst e131_22 (by decide),
  fun v0 v1 v2 v3 x1 x2 st σ => (q_cmp e131_23 rfl).trans q_ne,
  fun v0 v1 v2 v3 st σ => q_bipush e131_26 (by decide),
  fun v0 v1 v2 v3 st σ => q_goto e131_28 rfl,
  fun v0 v1 v2 v3 st σ => q_bipush e131_31 (by decide),
  fun v0 v1 v2 v3 x1 x2 x3 σ => q_invS (as := [.int x1, .int x2, .int x3]) (rest := []) e131_33 o_131 bn_8_35 c_8_35 ⟨m_102.1, m_102.2.1, m_102.2.2.1⟩ rfl rfl (Nat.le_of_ble_eq_true rfl) (Nat.le_of_ble_eq_true rfl),
  fun v0 v1 v2 v3 x1 st σ => (q_if e131_36 rfl).trans q_ne,
  fun v0 v1 v2 v3 st σ => q_bipush e131_39 (by decide),
  fun v0 v1 v2 v3 x1 σ => q_iret e131_41 r_131,
  fun v1 v2 v3 a1 st σ => q_go e131_42 rfl rfl,
  fun v0 v1 v3 x1 st σ => q_go e131_43 rfl rfl,
  fun v0 v1 v2 v3 x1 st σ => (q_if e131_44 rfl).trans q_ne,
  fun v0 v1 v2 v3 st σ => q_bipush e131_47 (by decide),
  fun v0 v1 v2 v3 st σ => q_goto e131_49 rfl,
  fun v0 v1 v3 x1 st σ => q_go e131_52 rfl rfl,
  fun v0 v1 v2 v3 st σ => q_iconst e131_53 (by decide),
  fun v0 v1 v2 v3 x1 x2 st σ => (q_cmp e131_54 rfl).trans q_ne,
  fun v0 v1 v2 v3 st σ => q_bipush e131_57 (by decide),
  fun v0 v1 v2 v3 st σ => q_goto e131_59 rfl,
  fun v0 v1 v2 v3 st σ => q_bipush e131_62 (by decide),
  fun v0 v2 v3 x1 st σ => q_go e131_64 rfl rfl,
  fun v0 v1 v2 v3 x1 x2 st σ => q_go e131_65 rfl rfl,
  fun v0 v1 v2 x1 st σ => q_go e131_66 rfl rfl,
  fun v0 v1 v2 v3 x1 x2 a0 σ hc => q_invV (as := [.int x1, .int x2]) (rest := []) e131_67 o_131 bn_8_140 c_8_140 m_127 (by decide) rfl rfl (Nat.le_of_ble_eq_true rfl) (Nat.le_of_ble_eq_true rfl) hc,
  fun v0 v1 v2 v3 x1 σ => q_iret e131_70 r_131⟩
theorem E131 {ro : ma_RO} {d : Nat} (a0 : Nat) (x1 : Int32) (x2 : Int32) (x3 : Int32) (sh : List ma_Sh) (σ : ma_H) : ma_ev ro d 131 [.ref a0, .int x1, .int x2, .int x3] sh σ = ma_rn ro d 131 (0, [some (.ref a0), some (.int x1), some (.int x2), some (.int x3)], [], sh, σ) := q_ent x_131 rfl
theorem e132_0 : decode (ma_cd 132) 0 = .ok (.iload_n 1, 1) := (congrArg (fun b => decode b 0) cd_132).trans dX8_hurry_0
theorem e132_1 : decode (ma_cd 132) 1 = .ok (.iconst 0, 1) := (congrArg (fun b => decode b 1) cd_132).trans dX8_hurry_1
theorem e132_2 : decode (ma_cd 132) 2 = .ok (.bipush 20, 2) := (congrArg (fun b => decode b 2) cd_132).trans dX8_hurry_2
theorem e132_4 : decode (ma_cd 132) 4 = .ok (.invokestatic 35, 3) := (congrArg (fun b => decode b 4) cd_132).trans dX8_hurry_4
theorem e132_7 : decode (ma_cd 132) 7 = .ok (.ifCond .eq 12, 3) := (congrArg (fun b => decode b 7) cd_132).trans dX8_hurry_7
theorem e132_10 : decode (ma_cd 132) 10 = .ok (.aload_n 0, 1) := (congrArg (fun b => decode b 10) cd_132).trans dX8_hurry_10
theorem e132_11 : decode (ma_cd 132) 11 = .ok (.iconst 1, 1) := (congrArg (fun b => decode b 11) cd_132).trans dX8_hurry_11
theorem e132_12 : decode (ma_cd 132) 12 = .ok (.iload_n 1, 1) := (congrArg (fun b => decode b 12) cd_132).trans dX8_hurry_12
theorem e132_13 : decode (ma_cd 132) 13 = .ok (.invokevirtual 140, 3) := (congrArg (fun b => decode b 13) cd_132).trans dX8_hurry_13
theorem e132_16 : decode (ma_cd 132) 16 = .ok (.goto 5, 3) := (congrArg (fun b => decode b 16) cd_132).trans dX8_hurry_16
theorem e132_19 : decode (ma_cd 132) 19 = .ok (.bipush (-2), 2) := (congrArg (fun b => decode b 19) cd_132).trans dX8_hurry_19
theorem e132_21 : decode (ma_cd 132) 21 = .ok (.ireturn, 1) := (congrArg (fun b => decode b 21) cd_132).trans dX8_hurry_21
theorem S132 {ro : ma_RO} {d : Nat} : (∀ (v0 : Option Value) (x1 : Int32) (st : List Value) (σ : ma_H), ma_rn ro d 132 (0, [v0, some (.int x1)], st, SH, σ) = ma_rn ro d 132 (1, [v0, some (.int x1)], .int x1 :: st, SH, σ)) ∧
  (∀ (v0 : Option Value) (v1 : Option Value) (st : List Value) (σ : ma_H), ma_rn ro d 132 (1, [v0, v1], st, SH, σ) = ma_rn ro d 132 (2, [v0, v1], .int (nI 0) :: st, SH, σ)) ∧
  (∀ (v0 : Option Value) (v1 : Option Value) (st : List Value) (σ : ma_H), ma_rn ro d 132 (2, [v0, v1], st, SH, σ) = ma_rn ro d 132 (4, [v0, v1], .int (nI 20) :: st, SH, σ)) ∧
  (∀ (v0 : Option Value) (v1 : Option Value) (x1 : Int32) (x2 : Int32) (x3 : Int32) (σ : ma_H), ma_rn ro (d + 1) 132 (4, [v0, v1], .int x3 :: .int x2 :: .int x1 :: [], SH, σ) = (ma_ev ro d 102 [.int x1, .int x2, .int x3] SH σ).bind (fun q => ma_rn ro (d + 1) 132 (7, [v0, v1], (q.1.toList ++ []), q.2.1, q.2.2))) ∧
  (∀ (v0 : Option Value) (v1 : Option Value) (x1 : Int32) (st : List Value) (σ : ma_H), ma_rn ro d 132 (7, [v0, v1], .int x1 :: st, SH, σ) = if x1 = nI 0 then ma_rn ro d 132 (19, [v0, v1], st, SH, σ) else ma_rn ro d 132 (10, [v0, v1], st, SH, σ)) ∧
  (∀ (v1 : Option Value) (a1 : Nat) (st : List Value) (σ : ma_H), ma_rn ro d 132 (10, [some (.ref a1), v1], st, SH, σ) = ma_rn ro d 132 (11, [some (.ref a1), v1], .ref a1 :: st, SH, σ)) ∧
  (∀ (v0 : Option Value) (v1 : Option Value) (st : List Value) (σ : ma_H), ma_rn ro d 132 (11, [v0, v1], st, SH, σ) = ma_rn ro d 132 (12, [v0, v1], .int (nI 1) :: st, SH, σ)) ∧
  (∀ (v0 : Option Value) (x1 : Int32) (st : List Value) (σ : ma_H), ma_rn ro d 132 (12, [v0, some (.int x1)], st, SH, σ) = ma_rn ro d 132 (13, [v0, some (.int x1)], .int x1 :: st, SH, σ)) ∧
  (∀ (v0 : Option Value) (v1 : Option Value) (x1 : Int32) (x2 : Int32) (a0 : Nat) (σ : ma_H) (hc : hk_cls a0 = 8), ma_rn ro (d + 1) 132 (13, [v0, v1], .int x2 :: .int x1 :: .ref a0 :: [], SH, σ) = (ma_ev ro d 127 [.ref a0, .int x1, .int x2] SH σ).bind (fun q => ma_rn ro (d + 1) 132 (16, [v0, v1], (q.1.toList ++ []), q.2.1, q.2.2))) ∧
  (∀ (v0 : Option Value) (v1 : Option Value) (st : List Value) (σ : ma_H), ma_rn ro d 132 (16, [v0, v1], st, SH, σ) = ma_rn ro d 132 (21, [v0, v1], st, SH, σ)) ∧
  (∀ (v0 : Option Value) (v1 : Option Value) (st : List Value) (σ : ma_H), ma_rn ro d 132 (19, [v0, v1], st, SH, σ) = ma_rn ro d 132 (21, [v0, v1], .int ((-2)) :: st, SH, σ)) ∧
  (∀ (v0 : Option Value) (v1 : Option Value) (x1 : Int32) (σ : ma_H), ma_rn ro d 132 (21, [v0, v1], [.int x1], SH, σ) = some (some (.int x1), SH, σ)) := ⟨fun v0 x1 st σ => q_go e132_0 rfl rfl,
  fun v0 v1 st σ => q_iconst e132_1 (by decide),
  fun v0 v1 st σ => q_bipush e132_2 (by decide),
  fun v0 v1 x1 x2 x3 σ => q_invS (as := [.int x1, .int x2, .int x3]) (rest := []) e132_4 o_132 bn_8_35 c_8_35 ⟨m_102.1, m_102.2.1, m_102.2.2.1⟩ rfl rfl (Nat.le_of_ble_eq_true rfl) (Nat.le_of_ble_eq_true rfl),
  fun v0 v1 x1 st σ => (q_if e132_7 rfl).trans q_eq,
  fun v1 a1 st σ => q_go e132_10 rfl rfl,
  fun v0 v1 st σ => q_iconst e132_11 (by decide),
  fun v0 x1 st σ => q_go e132_12 rfl rfl,
  fun v0 v1 x1 x2 a0 σ hc => q_invV (as := [.int x1, .int x2]) (rest := []) e132_13 o_132 bn_8_140 c_8_140 m_127 (by decide) rfl rfl (Nat.le_of_ble_eq_true rfl) (Nat.le_of_ble_eq_true rfl) hc,
  fun v0 v1 st σ => q_goto e132_16 rfl,
  fun v0 v1 st σ => q_bipush e132_19 (by decide),
  fun v0 v1 x1 σ => q_iret e132_21 r_132⟩
theorem E132 {ro : ma_RO} {d : Nat} (a0 : Nat) (x1 : Int32) (sh : List ma_Sh) (σ : ma_H) : ma_ev ro d 132 [.ref a0, .int x1] sh σ = ma_rn ro d 132 (0, [some (.ref a0), some (.int x1)], [], sh, σ) := q_ent x_132 rfl
theorem e133_0 : decode (ma_cd 133) 0 = .ok (.aload_n 0, 1) := (congrArg (fun b => decode b 0) cd_133).trans dX8_looksAfter_0
theorem e133_1 : decode (ma_cd 133) 1 = .ok (.getfield 9, 3) := (congrArg (fun b => decode b 1) cd_133).trans dX8_looksAfter_1
theorem e133_4 : decode (ma_cd 133) 4 = .ok (.bipush 9, 2) := (congrArg (fun b => decode b 4) cd_133).trans dX8_looksAfter_4
theorem e133_6 : decode (ma_cd 133) 6 = .ok (.iload_n 1, 1) := (congrArg (fun b => decode b 6) cd_133).trans dX8_looksAfter_6
theorem e133_7 : decode (ma_cd 133) 7 = .ok (.iadd, 1) := (congrArg (fun b => decode b 7) cd_133).trans dX8_looksAfter_7
theorem e133_8 : decode (ma_cd 133) 8 = .ok (.bipush 90, 2) := (congrArg (fun b => decode b 8) cd_133).trans dX8_looksAfter_8
theorem e133_10 : decode (ma_cd 133) 10 = .ok (.bipush 10, 2) := (congrArg (fun b => decode b 10) cd_133).trans dX8_looksAfter_10
theorem e133_12 : decode (ma_cd 133) 12 = .ok (.aload_n 0, 1) := (congrArg (fun b => decode b 12) cd_133).trans dX8_looksAfter_12
theorem e133_13 : decode (ma_cd 133) 13 = .ok (.getfield 9, 3) := (congrArg (fun b => decode b 13) cd_133).trans dX8_looksAfter_13
theorem e133_16 : decode (ma_cd 133) 16 = .ok (.bipush 27, 2) := (congrArg (fun b => decode b 16) cd_133).trans dX8_looksAfter_16
theorem e133_18 : decode (ma_cd 133) 18 = .ok (.iload_n 1, 1) := (congrArg (fun b => decode b 18) cd_133).trans dX8_looksAfter_18
theorem e133_19 : decode (ma_cd 133) 19 = .ok (.iadd, 1) := (congrArg (fun b => decode b 19) cd_133).trans dX8_looksAfter_19
theorem e133_20 : decode (ma_cd 133) 20 = .ok (.iaload, 1) := (congrArg (fun b => decode b 20) cd_133).trans dX8_looksAfter_20
theorem e133_21 : decode (ma_cd 133) 21 = .ok (.imul, 1) := (congrArg (fun b => decode b 21) cd_133).trans dX8_looksAfter_21
theorem e133_22 : decode (ma_cd 133) 22 = .ok (.isub, 1) := (congrArg (fun b => decode b 22) cd_133).trans dX8_looksAfter_22
theorem e133_23 : decode (ma_cd 133) 23 = .ok (.bipush 99, 2) := (congrArg (fun b => decode b 23) cd_133).trans dX8_looksAfter_23
theorem e133_25 : decode (ma_cd 133) 25 = .ok (.invokestatic 143, 3) := (congrArg (fun b => decode b 25) cd_133).trans dX8_looksAfter_25
theorem e133_28 : decode (ma_cd 133) 28 = .ok (.iastore, 1) := (congrArg (fun b => decode b 28) cd_133).trans dX8_looksAfter_28
theorem e133_29 : decode (ma_cd 133) 29 = .ok (.aload_n 0, 1) := (congrArg (fun b => decode b 29) cd_133).trans dX8_looksAfter_29
theorem e133_30 : decode (ma_cd 133) 30 = .ok (.getfield 9, 3) := (congrArg (fun b => decode b 30) cd_133).trans dX8_looksAfter_30
theorem e133_33 : decode (ma_cd 133) 33 = .ok (.bipush 27, 2) := (congrArg (fun b => decode b 33) cd_133).trans dX8_looksAfter_33
theorem e133_35 : decode (ma_cd 133) 35 = .ok (.iload_n 1, 1) := (congrArg (fun b => decode b 35) cd_133).trans dX8_looksAfter_35
theorem e133_36 : decode (ma_cd 133) 36 = .ok (.iadd, 1) := (congrArg (fun b => decode b 36) cd_133).trans dX8_looksAfter_36
theorem e133_37 : decode (ma_cd 133) 37 = .ok (.aload_n 0, 1) := (congrArg (fun b => decode b 37) cd_133).trans dX8_looksAfter_37
theorem e133_38 : decode (ma_cd 133) 38 = .ok (.getfield 9, 3) := (congrArg (fun b => decode b 38) cd_133).trans dX8_looksAfter_38
theorem e133_41 : decode (ma_cd 133) 41 = .ok (.bipush 27, 2) := (congrArg (fun b => decode b 41) cd_133).trans dX8_looksAfter_41
theorem e133_43 : decode (ma_cd 133) 43 = .ok (.iload_n 1, 1) := (congrArg (fun b => decode b 43) cd_133).trans dX8_looksAfter_43
theorem e133_44 : decode (ma_cd 133) 44 = .ok (.iadd, 1) := (congrArg (fun b => decode b 44) cd_133).trans dX8_looksAfter_44
theorem e133_45 : decode (ma_cd 133) 45 = .ok (.iaload, 1) := (congrArg (fun b => decode b 45) cd_133).trans dX8_looksAfter_45
theorem e133_46 : decode (ma_cd 133) 46 = .ok (.iconst 1, 1) := (congrArg (fun b => decode b 46) cd_133).trans dX8_looksAfter_46
theorem e133_47 : decode (ma_cd 133) 47 = .ok (.iadd, 1) := (congrArg (fun b => decode b 47) cd_133).trans dX8_looksAfter_47
theorem e133_48 : decode (ma_cd 133) 48 = .ok (.bipush 9, 2) := (congrArg (fun b => decode b 48) cd_133).trans dX8_looksAfter_48
theorem e133_50 : decode (ma_cd 133) 50 = .ok (.invokestatic 143, 3) := (congrArg (fun b => decode b 50) cd_133).trans dX8_looksAfter_50
theorem e133_53 : decode (ma_cd 133) 53 = .ok (.iastore, 1) := (congrArg (fun b => decode b 53) cd_133).trans dX8_looksAfter_53
theorem e133_54 : decode (ma_cd 133) 54 = .ok (.aload_n 0, 1) := (congrArg (fun b => decode b 54) cd_133).trans dX8_looksAfter_54
theorem e133_55 : decode (ma_cd 133) 55 = .ok (.getfield 9, 3) := (congrArg (fun b => decode b 55) cd_133).trans dX8_looksAfter_55
theorem e133_58 : decode (ma_cd 133) 58 = .ok (.bipush 15, 2) := (congrArg (fun b => decode b 58) cd_133).trans dX8_looksAfter_58
theorem e133_60 : decode (ma_cd 133) 60 = .ok (.iload_n 1, 1) := (congrArg (fun b => decode b 60) cd_133).trans dX8_looksAfter_60
theorem e133_61 : decode (ma_cd 133) 61 = .ok (.iadd, 1) := (congrArg (fun b => decode b 61) cd_133).trans dX8_looksAfter_61
theorem e133_62 : decode (ma_cd 133) 62 = .ok (.aload_n 0, 1) := (congrArg (fun b => decode b 62) cd_133).trans dX8_looksAfter_62
theorem e133_63 : decode (ma_cd 133) 63 = .ok (.getfield 9, 3) := (congrArg (fun b => decode b 63) cd_133).trans dX8_looksAfter_63
theorem e133_66 : decode (ma_cd 133) 66 = .ok (.bipush 15, 2) := (congrArg (fun b => decode b 66) cd_133).trans dX8_looksAfter_66
theorem e133_68 : decode (ma_cd 133) 68 = .ok (.iload_n 1, 1) := (congrArg (fun b => decode b 68) cd_133).trans dX8_looksAfter_68
theorem e133_69 : decode (ma_cd 133) 69 = .ok (.iadd, 1) := (congrArg (fun b => decode b 69) cd_133).trans dX8_looksAfter_69
theorem e133_70 : decode (ma_cd 133) 70 = .ok (.iaload, 1) := (congrArg (fun b => decode b 70) cd_133).trans dX8_looksAfter_70
theorem e133_71 : decode (ma_cd 133) 71 = .ok (.iconst 2, 1) := (congrArg (fun b => decode b 71) cd_133).trans dX8_looksAfter_71
theorem e133_72 : decode (ma_cd 133) 72 = .ok (.iadd, 1) := (congrArg (fun b => decode b 72) cd_133).trans dX8_looksAfter_72
theorem e133_73 : decode (ma_cd 133) 73 = .ok (.bipush 99, 2) := (congrArg (fun b => decode b 73) cd_133).trans dX8_looksAfter_73
theorem e133_75 : decode (ma_cd 133) 75 = .ok (.invokestatic 143, 3) := (congrArg (fun b => decode b 75) cd_133).trans dX8_looksAfter_75
theorem e133_78 : decode (ma_cd 133) 78 = .ok (.iastore, 1) := (congrArg (fun b => decode b 78) cd_133).trans dX8_looksAfter_78
theorem e133_79 : decode (ma_cd 133) 79 = .ok (.aload_n 0, 1) := (congrArg (fun b => decode b 79) cd_133).trans dX8_looksAfter_79
theorem e133_80 : decode (ma_cd 133) 80 = .ok (.iconst 3, 1) := (congrArg (fun b => decode b 80) cd_133).trans dX8_looksAfter_80
theorem e133_81 : decode (ma_cd 133) 81 = .ok (.iload_n 1, 1) := (congrArg (fun b => decode b 81) cd_133).trans dX8_looksAfter_81
theorem e133_82 : decode (ma_cd 133) 82 = .ok (.iadd, 1) := (congrArg (fun b => decode b 82) cd_133).trans dX8_looksAfter_82
theorem e133_83 : decode (ma_cd 133) 83 = .ok (.iconst 0, 1) := (congrArg (fun b => decode b 83) cd_133).trans dX8_looksAfter_83
theorem e133_84 : decode (ma_cd 133) 84 = .ok (.invokevirtual 140, 3) := (congrArg (fun b => decode b 84) cd_133).trans dX8_looksAfter_84
theorem e133_87 : decode (ma_cd 133) 87 = .ok (.ireturn, 1) := (congrArg (fun b => decode b 87) cd_133).trans dX8_looksAfter_87
theorem S133 {ro : ma_RO} {d : Nat} : (∀ (v1 : Option Value) (a1 : Nat) (st : List Value) (σ : ma_H), ma_rn ro d 133 (0, [some (.ref a1), v1], st, SH, σ) = ma_rn ro d 133 (1, [some (.ref a1), v1], .ref a1 :: st, SH, σ)) ∧
  (∀ (v0 : Option Value) (v1 : Option Value) (a1 : Nat) (st : List Value) (σ : ma_H) (hc : hk_cls a1 = 8), ma_rn ro d 133 (1, [v0, v1], .ref a1 :: st, SH, σ) = ma_rn ro d 133 (4, [v0, v1], .ref (91) :: st, SH, σ)) ∧
  (∀ (v0 : Option Value) (v1 : Option Value) (st : List Value) (σ : ma_H), ma_rn ro d 133 (4, [v0, v1], st, SH, σ) = ma_rn ro d 133 (6, [v0, v1], .int (nI 9) :: st, SH, σ)) ∧
  (∀ (v0 : Option Value) (x1 : Int32) (st : List Value) (σ : ma_H), ma_rn ro d 133 (6, [v0, some (.int x1)], st, SH, σ) = ma_rn ro d 133 (7, [v0, some (.int x1)], .int x1 :: st, SH, σ)) ∧
  (∀ (v0 : Option Value) (v1 : Option Value) (x1 : Int32) (x2 : Int32) (st : List Value) (σ : ma_H), ma_rn ro d 133 (7, [v0, v1], .int x1 :: .int x2 :: st, SH, σ) = ma_rn ro d 133 (8, [v0, v1], .int (x2 + x1) :: st, SH, σ)) ∧
  (∀ (v0 : Option Value) (v1 : Option Value) (st : List Value) (σ : ma_H), ma_rn ro d 133 (8, [v0, v1], st, SH, σ) = ma_rn ro d 133 (10, [v0, v1], .int (nI 90) :: st, SH, σ)) ∧
  (∀ (v0 : Option Value) (v1 : Option Value) (st : List Value) (σ : ma_H), ma_rn ro d 133 (10, [v0, v1], st, SH, σ) = ma_rn ro d 133 (12, [v0, v1], .int (nI 10) :: st, SH, σ)) ∧
  (∀ (v1 : Option Value) (a1 : Nat) (st : List Value) (σ : ma_H), ma_rn ro d 133 (12, [some (.ref a1), v1], st, SH, σ) = ma_rn ro d 133 (13, [some (.ref a1), v1], .ref a1 :: st, SH, σ)) ∧
  (∀ (v0 : Option Value) (v1 : Option Value) (a1 : Nat) (st : List Value) (σ : ma_H) (hc : hk_cls a1 = 8), ma_rn ro d 133 (13, [v0, v1], .ref a1 :: st, SH, σ) = ma_rn ro d 133 (16, [v0, v1], .ref (91) :: st, SH, σ)) ∧
  (∀ (v0 : Option Value) (v1 : Option Value) (st : List Value) (σ : ma_H), ma_rn ro d 133 (16, [v0, v1], st, SH, σ) = ma_rn ro d 133 (18, [v0, v1], .int (nI 27) :: st, SH, σ)) ∧
  (∀ (v0 : Option Value) (x1 : Int32) (st : List Value) (σ : ma_H), ma_rn ro d 133 (18, [v0, some (.int x1)], st, SH, σ) = ma_rn ro d 133 (19, [v0, some (.int x1)], .int x1 :: st, SH, σ)) ∧
  (∀ (v0 : Option Value) (v1 : Option Value) (x1 : Int32) (x2 : Int32) (st : List Value) (σ : ma_H), ma_rn ro d 133 (19, [v0, v1], .int x1 :: .int x2 :: st, SH, σ) = ma_rn ro d 133 (20, [v0, v1], .int (x2 + x1) :: st, SH, σ)) ∧
  (∀ (v0 : Option Value) (v1 : Option Value) (k : Nat) (a2 : Nat) (st : List Value) (σ : ma_H) (hk : k < hk_len a2), ma_rn ro d 133 (20, [v0, v1], .int (nI k) :: .ref a2 :: st, SH, σ) = ma_rn ro d 133 (21, [v0, v1], .int (σ a2 k) :: st, SH, σ)) ∧
  (∀ (v0 : Option Value) (v1 : Option Value) (x1 : Int32) (x2 : Int32) (st : List Value) (σ : ma_H), ma_rn ro d 133 (21, [v0, v1], .int x1 :: .int x2 :: st, SH, σ) = ma_rn ro d 133 (22, [v0, v1], .int (x2 * x1) :: st, SH, σ)) ∧
  (∀ (v0 : Option Value) (v1 : Option Value) (x1 : Int32) (x2 : Int32) (st : List Value) (σ : ma_H), ma_rn ro d 133 (22, [v0, v1], .int x1 :: .int x2 :: st, SH, σ) = ma_rn ro d 133 (23, [v0, v1], .int (x2 - x1) :: st, SH, σ)) ∧
  (∀ (v0 : Option Value) (v1 : Option Value) (st : List Value) (σ : ma_H), ma_rn ro d 133 (23, [v0, v1], st, SH, σ) = ma_rn ro d 133 (25, [v0, v1], .int (nI 99) :: st, SH, σ)) ∧
  (∀ (v0 : Option Value) (v1 : Option Value) (x20 : Int32) (a21 : Nat) (x1 : Int32) (x2 : Int32) (σ : ma_H), ma_rn ro (d + 1) 133 (25, [v0, v1], .int x2 :: .int x1 :: .int x20 :: .ref a21 :: [], SH, σ) = (ma_ev ro d 104 [.int x1, .int x2] SH σ).bind (fun q => ma_rn ro (d + 1) 133 (28, [v0, v1], (q.1.toList ++ (.int x20 :: .ref a21 :: [])), q.2.1, q.2.2))) ∧
  (∀ (v0 : Option Value) (v1 : Option Value) (x1 : Int32) (k : Nat) (a3 : Nat) (st : List Value) (σ : ma_H) (hk : k < hk_len a3), ma_rn ro d 133 (28, [v0, v1], .int x1 :: .int (nI k) :: .ref a3 :: st, SH, σ) = ma_rn ro d 133 (29, [v0, v1], st, SH, (ma_up σ a3 k x1))) ∧
  (∀ (v1 : Option Value) (a1 : Nat) (st : List Value) (σ : ma_H), ma_rn ro d 133 (29, [some (.ref a1), v1], st, SH, σ) = ma_rn ro d 133 (30, [some (.ref a1), v1], .ref a1 :: st, SH, σ)) ∧
  (∀ (v0 : Option Value) (v1 : Option Value) (a1 : Nat) (st : List Value) (σ : ma_H) (hc : hk_cls a1 = 8), ma_rn ro d 133 (30, [v0, v1], .ref a1 :: st, SH, σ) = ma_rn ro d 133 (33, [v0, v1], .ref (91) :: st, SH, σ)) ∧
  (∀ (v0 : Option Value) (v1 : Option Value) (st : List Value) (σ : ma_H), ma_rn ro d 133 (33, [v0, v1], st, SH, σ) = ma_rn ro d 133 (35, [v0, v1], .int (nI 27) :: st, SH, σ)) ∧
  (∀ (v0 : Option Value) (x1 : Int32) (st : List Value) (σ : ma_H), ma_rn ro d 133 (35, [v0, some (.int x1)], st, SH, σ) = ma_rn ro d 133 (36, [v0, some (.int x1)], .int x1 :: st, SH, σ)) ∧
  (∀ (v0 : Option Value) (v1 : Option Value) (x1 : Int32) (x2 : Int32) (st : List Value) (σ : ma_H), ma_rn ro d 133 (36, [v0, v1], .int x1 :: .int x2 :: st, SH, σ) = ma_rn ro d 133 (37, [v0, v1], .int (x2 + x1) :: st, SH, σ)) ∧
  (∀ (v1 : Option Value) (a1 : Nat) (st : List Value) (σ : ma_H), ma_rn ro d 133 (37, [some (.ref a1), v1], st, SH, σ) = ma_rn ro d 133 (38, [some (.ref a1), v1], .ref a1 :: st, SH, σ)) ∧
  (∀ (v0 : Option Value) (v1 : Option Value) (a1 : Nat) (st : List Value) (σ : ma_H) (hc : hk_cls a1 = 8), ma_rn ro d 133 (38, [v0, v1], .ref a1 :: st, SH, σ) = ma_rn ro d 133 (41, [v0, v1], .ref (91) :: st, SH, σ)) ∧
  (∀ (v0 : Option Value) (v1 : Option Value) (st : List Value) (σ : ma_H), ma_rn ro d 133 (41, [v0, v1], st, SH, σ) = ma_rn ro d 133 (43, [v0, v1], .int (nI 27) :: st, SH, σ)) ∧
  (∀ (v0 : Option Value) (x1 : Int32) (st : List Value) (σ : ma_H), ma_rn ro d 133 (43, [v0, some (.int x1)], st, SH, σ) = ma_rn ro d 133 (44, [v0, some (.int x1)], .int x1 :: st, SH, σ)) ∧
  (∀ (v0 : Option Value) (v1 : Option Value) (x1 : Int32) (x2 : Int32) (st : List Value) (σ : ma_H), ma_rn ro d 133 (44, [v0, v1], .int x1 :: .int x2 :: st, SH, σ) = ma_rn ro d 133 (45, [v0, v1], .int (x2 + x1) :: st, SH, σ)) ∧
  (∀ (v0 : Option Value) (v1 : Option Value) (k : Nat) (a2 : Nat) (st : List Value) (σ : ma_H) (hk : k < hk_len a2), ma_rn ro d 133 (45, [v0, v1], .int (nI k) :: .ref a2 :: st, SH, σ) = ma_rn ro d 133 (46, [v0, v1], .int (σ a2 k) :: st, SH, σ)) ∧
  (∀ (v0 : Option Value) (v1 : Option Value) (st : List Value) (σ : ma_H), ma_rn ro d 133 (46, [v0, v1], st, SH, σ) = ma_rn ro d 133 (47, [v0, v1], .int (nI 1) :: st, SH, σ)) ∧
  (∀ (v0 : Option Value) (v1 : Option Value) (x1 : Int32) (x2 : Int32) (st : List Value) (σ : ma_H), ma_rn ro d 133 (47, [v0, v1], .int x1 :: .int x2 :: st, SH, σ) = ma_rn ro d 133 (48, [v0, v1], .int (x2 + x1) :: st, SH, σ)) ∧
  (∀ (v0 : Option Value) (v1 : Option Value) (st : List Value) (σ : ma_H), ma_rn ro d 133 (48, [v0, v1], st, SH, σ) = ma_rn ro d 133 (50, [v0, v1], .int (nI 9) :: st, SH, σ)) ∧
  (∀ (v0 : Option Value) (v1 : Option Value) (x20 : Int32) (a21 : Nat) (x1 : Int32) (x2 : Int32) (σ : ma_H), ma_rn ro (d + 1) 133 (50, [v0, v1], .int x2 :: .int x1 :: .int x20 :: .ref a21 :: [], SH, σ) = (ma_ev ro d 104 [.int x1, .int x2] SH σ).bind (fun q => ma_rn ro (d + 1) 133 (53, [v0, v1], (q.1.toList ++ (.int x20 :: .ref a21 :: [])), q.2.1, q.2.2))) ∧
  (∀ (v0 : Option Value) (v1 : Option Value) (x1 : Int32) (k : Nat) (a3 : Nat) (st : List Value) (σ : ma_H) (hk : k < hk_len a3), ma_rn ro d 133 (53, [v0, v1], .int x1 :: .int (nI k) :: .ref a3 :: st, SH, σ) = ma_rn ro d 133 (54, [v0, v1], st, SH, (ma_up σ a3 k x1))) ∧
  (∀ (v1 : Option Value) (a1 : Nat) (st : List Value) (σ : ma_H), ma_rn ro d 133 (54, [some (.ref a1), v1], st, SH, σ) = ma_rn ro d 133 (55, [some (.ref a1), v1], .ref a1 :: st, SH, σ)) ∧
  (∀ (v0 : Option Value) (v1 : Option Value) (a1 : Nat) (st : List Value) (σ : ma_H) (hc : hk_cls a1 = 8), ma_rn ro d 133 (55, [v0, v1], .ref a1 :: st, SH, σ) = ma_rn ro d 133 (58, [v0, v1], .ref (91) :: st, SH, σ)) ∧
  (∀ (v0 : Option Value) (v1 : Option Value) (st : List Value) (σ : ma_H), ma_rn ro d 133 (58, [v0, v1], st, SH, σ) = ma_rn ro d 133 (60, [v0, v1], .int (nI 15) :: st, SH, σ)) ∧
  (∀ (v0 : Option Value) (x1 : Int32) (st : List Value) (σ : ma_H), ma_rn ro d 133 (60, [v0, some (.int x1)], st, SH, σ) = ma_rn ro d 133 (61, [v0, some (.int x1)], .int x1 :: st, SH, σ)) ∧
  (∀ (v0 : Option Value) (v1 : Option Value) (x1 : Int32) (x2 : Int32) (st : List Value) (σ : ma_H), ma_rn ro d 133 (61, [v0, v1], .int x1 :: .int x2 :: st, SH, σ) = ma_rn ro d 133 (62, [v0, v1], .int (x2 + x1) :: st, SH, σ)) ∧
  (∀ (v1 : Option Value) (a1 : Nat) (st : List Value) (σ : ma_H), ma_rn ro d 133 (62, [some (.ref a1), v1], st, SH, σ) = ma_rn ro d 133 (63, [some (.ref a1), v1], .ref a1 :: st, SH, σ)) ∧
  (∀ (v0 : Option Value) (v1 : Option Value) (a1 : Nat) (st : List Value) (σ : ma_H) (hc : hk_cls a1 = 8), ma_rn ro d 133 (63, [v0, v1], .ref a1 :: st, SH, σ) = ma_rn ro d 133 (66, [v0, v1], .ref (91) :: st, SH, σ)) ∧
  (∀ (v0 : Option Value) (v1 : Option Value) (st : List Value) (σ : ma_H), ma_rn ro d 133 (66, [v0, v1], st, SH, σ) = ma_rn ro d 133 (68, [v0, v1], .int (nI 15) :: st, SH, σ)) ∧
  (∀ (v0 : Option Value) (x1 : Int32) (st : List Value) (σ : ma_H), ma_rn ro d 133 (68, [v0, some (.int x1)], st, SH, σ) = ma_rn ro d 133 (69, [v0, some (.int x1)], .int x1 :: st, SH, σ)) ∧
  (∀ (v0 : Option Value) (v1 : Option Value) (x1 : Int32) (x2 : Int32) (st : List Value) (σ : ma_H), ma_rn ro d 133 (69, [v0, v1], .int x1 :: .int x2 :: st, SH, σ) = ma_rn ro d 133 (70, [v0, v1], .int (x2 + x1) :: st, SH, σ)) ∧
  (∀ (v0 : Option Value) (v1 : Option Value) (k : Nat) (a2 : Nat) (st : List Value) (σ : ma_H) (hk : k < hk_len a2), ma_rn ro d 133 (70, [v0, v1], .int (nI k) :: .ref a2 :: st, SH, σ) = ma_rn ro d 133 (71, [v0, v1], .int (σ a2 k) :: st, SH, σ)) ∧
  (∀ (v0 : Option Value) (v1 : Option Value) (st : List Value) (σ : ma_H), ma_rn ro d 133 (71, [v0, v1], st, SH, σ) = ma_rn ro d 133 (72, [v0, v1], .int (nI 2) :: st, SH, σ)) ∧
  (∀ (v0 : Option Value) (v1 : Option Value) (x1 : Int32) (x2 : Int32) (st : List Value) (σ : ma_H), ma_rn ro d 133 (72, [v0, v1], .int x1 :: .int x2 :: st, SH, σ) = ma_rn ro d 133 (73, [v0, v1], .int (x2 + x1) :: st, SH, σ)) ∧
  (∀ (v0 : Option Value) (v1 : Option Value) (st : List Value) (σ : ma_H), ma_rn ro d 133 (73, [v0, v1], st, SH, σ) = ma_rn ro d 133 (75, [v0, v1], .int (nI 99) :: st, SH, σ)) ∧
  (∀ (v0 : Option Value) (v1 : Option Value) (x20 : Int32) (a21 : Nat) (x1 : Int32) (x2 : Int32) (σ : ma_H), ma_rn ro (d + 1) 133 (75, [v0, v1], .int x2 :: .int x1 :: .int x20 :: .ref a21 :: [], SH, σ) = (ma_ev ro d 104 [.int x1, .int x2] SH σ).bind (fun q => ma_rn ro (d + 1) 133 (78, [v0, v1], (q.1.toList ++ (.int x20 :: .ref a21 :: [])), q.2.1, q.2.2))) ∧
  (∀ (v0 : Option Value) (v1 : Option Value) (x1 : Int32) (k : Nat) (a3 : Nat) (st : List Value) (σ : ma_H) (hk : k < hk_len a3), ma_rn ro d 133 (78, [v0, v1], .int x1 :: .int (nI k) :: .ref a3 :: st, SH, σ) = ma_rn ro d 133 (79, [v0, v1], st, SH, (ma_up σ a3 k x1))) ∧
  (∀ (v1 : Option Value) (a1 : Nat) (st : List Value) (σ : ma_H), ma_rn ro d 133 (79, [some (.ref a1), v1], st, SH, σ) = ma_rn ro d 133 (80, [some (.ref a1), v1], .ref a1 :: st, SH, σ)) ∧
  (∀ (v0 : Option Value) (v1 : Option Value) (st : List Value) (σ : ma_H), ma_rn ro d 133 (80, [v0, v1], st, SH, σ) = ma_rn ro d 133 (81, [v0, v1], .int (nI 3) :: st, SH, σ)) ∧
  (∀ (v0 : Option Value) (x1 : Int32) (st : List Value) (σ : ma_H), ma_rn ro d 133 (81, [v0, some (.int x1)], st, SH, σ) = ma_rn ro d 133 (82, [v0, some (.int x1)], .int x1 :: st, SH, σ)) ∧
  (∀ (v0 : Option Value) (v1 : Option Value) (x1 : Int32) (x2 : Int32) (st : List Value) (σ : ma_H), ma_rn ro d 133 (82, [v0, v1], .int x1 :: .int x2 :: st, SH, σ) = ma_rn ro d 133 (83, [v0, v1], .int (x2 + x1) :: st, SH, σ)) ∧
  (∀ (v0 : Option Value) (v1 : Option Value) (st : List Value) (σ : ma_H), ma_rn ro d 133 (83, [v0, v1], st, SH, σ) = ma_rn ro d 133 (84, [v0, v1], .int (nI 0) :: st, SH, σ)) ∧
  (∀ (v0 : Option Value) (v1 : Option Value) (x1 : Int32) (x2 : Int32) (a0 : Nat) (σ : ma_H) (hc : hk_cls a0 = 8), ma_rn ro (d + 1) 133 (84, [v0, v1], .int x2 :: .int x1 :: .ref a0 :: [], SH, σ) = (ma_ev ro d 127 [.ref a0, .int x1, .int x2] SH σ).bind (fun q => ma_rn ro (d + 1) 133 (87, [v0, v1], (q.1.toList ++ []), q.2.1, q.2.2))) ∧
  (∀ (v0 : Option Value) (v1 : Option Value) (x1 : Int32) (σ : ma_H), ma_rn ro d 133 (87, [v0, v1], [.int x1], SH, σ) = some (some (.int x1), SH, σ)) := ⟨fun v1 a1 st σ => q_go e133_0 rfl rfl,
  fun v0 v1 a1 st σ hc => q_getA e133_1 o_133 f_8_9 (by decide) hc,
  fun v0 v1 st σ => q_bipush e133_4 (by decide),
  fun v0 x1 st σ => q_go e133_6 rfl rfl,
  fun v0 v1 x1 x2 st σ => q_go e133_7 rfl rfl,
  fun v0 v1 st σ => q_bipush e133_8 (by decide),
  fun v0 v1 st σ => q_bipush e133_10 (by decide),
  fun v1 a1 st σ => q_go e133_12 rfl rfl,
  fun v0 v1 a1 st σ hc => q_getA e133_13 o_133 f_8_9 (by decide) hc,
  fun v0 v1 st σ => q_bipush e133_16 (by decide),
  fun v0 x1 st σ => q_go e133_18 rfl rfl,
  fun v0 v1 x1 x2 st σ => q_go e133_19 rfl rfl,
  fun v0 v1 k a2 st σ hk => q_iald e133_20 hk,
  fun v0 v1 x1 x2 st σ => q_go e133_21 rfl rfl,
  fun v0 v1 x1 x2 st σ => q_go e133_22 rfl rfl,
  fun v0 v1 st σ => q_bipush e133_23 (by decide),
  fun v0 v1 x20 a21 x1 x2 σ => q_invS (as := [.int x1, .int x2]) (rest := .int x20 :: .ref a21 :: []) e133_25 o_133 bn_8_143 c_8_143 ⟨m_104.1, m_104.2.1, m_104.2.2.1⟩ rfl rfl (Nat.le_of_ble_eq_true rfl) (Nat.le_of_ble_eq_true rfl),
  fun v0 v1 x1 k a3 st σ hk => q_iast e133_28 hk,
  fun v1 a1 st σ => q_go e133_29 rfl rfl,
  fun v0 v1 a1 st σ hc => q_getA e133_30 o_133 f_8_9 (by decide) hc,
  fun v0 v1 st σ => q_bipush e133_33 (by decide),
  fun v0 x1 st σ => q_go e133_35 rfl rfl,
  fun v0 v1 x1 x2 st σ => q_go e133_36 rfl rfl,
  fun v1 a1 st σ => q_go e133_37 rfl rfl,
  fun v0 v1 a1 st σ hc => q_getA e133_38 o_133 f_8_9 (by decide) hc,
  fun v0 v1 st σ => q_bipush e133_41 (by decide),
  fun v0 x1 st σ => q_go e133_43 rfl rfl,
  fun v0 v1 x1 x2 st σ => q_go e133_44 rfl rfl,
  fun v0 v1 k a2 st σ hk => q_iald e133_45 hk,
  fun v0 v1 st σ => q_iconst e133_46 (by decide),
  fun v0 v1 x1 x2 st σ => q_go e133_47 rfl rfl,
  fun v0 v1 st σ => q_bipush e133_48 (by decide),
  fun v0 v1 x20 a21 x1 x2 σ => q_invS (as := [.int x1, .int x2]) (rest := .int x20 :: .ref a21 :: []) e133_50 o_133 bn_8_143 c_8_143 ⟨m_104.1, m_104.2.1, m_104.2.2.1⟩ rfl rfl (Nat.le_of_ble_eq_true rfl) (Nat.le_of_ble_eq_true rfl),
  fun v0 v1 x1 k a3 st σ hk => q_iast e133_53 hk,
  fun v1 a1 st σ => q_go e133_54 rfl rfl,
  fun v0 v1 a1 st σ hc => q_getA e133_55 o_133 f_8_9 (by decide) hc,
  fun v0 v1 st σ => q_bipush e133_58 (by decide),
  fun v0 x1 st σ => q_go e133_60 rfl rfl,
  fun v0 v1 x1 x2 st σ => q_go e133_61 rfl rfl,
  fun v1 a1 st σ => q_go e133_62 rfl rfl,
  fun v0 v1 a1 st σ hc => q_getA e133_63 o_133 f_8_9 (by decide) hc,
  fun v0 v1 st σ => q_bipush e133_66 (by decide),
  fun v0 x1 st σ => q_go e133_68 rfl rfl,
  fun v0 v1 x1 x2 st σ => q_go e133_69 rfl rfl,
  fun v0 v1 k a2 st σ hk => q_iald e133_70 hk,
  fun v0 v1 st σ => q_iconst e133_71 (by decide),
  fun v0 v1 x1 x2 st σ => q_go e133_72 rfl rfl,
  fun v0 v1 st σ => q_bipush e133_73 (by decide),
  fun v0 v1 x20 a21 x1 x2 σ => q_invS (as := [.int x1, .int x2]) (rest := .int x20 :: .ref a21 :: []) e133_75 o_133 bn_8_143 c_8_143 ⟨m_104.1, m_104.2.1, m_104.2.2.1⟩ rfl rfl (Nat.le_of_ble_eq_true rfl) (Nat.le_of_ble_eq_true rfl),
  fun v0 v1 x1 k a3 st σ hk => q_iast e133_78 hk,
  fun v1 a1 st σ => q_go e133_79 rfl rfl,
  fun v0 v1 st σ => q_iconst e133_80 (by decide),
  fun v0 x1 st σ => q_go e133_81 rfl rfl,
  fun v0 v1 x1 x2 st σ => q_go e133_82 rfl rfl,
  fun v0 v1 st σ => q_iconst e133_83 (by decide),
  fun v0 v1 x1 x2 a0 σ hc => q_invV (as := [.int x1, .int x2]) (rest := []) e133_84 o_133 bn_8_140 c_8_140 m_127 (by decide) rfl rfl (Nat.le_of_ble_eq_true rfl) (Nat.le_of_ble_eq_true rfl) hc,
  fun v0 v1 x1 σ => q_iret e133_87 r_133⟩
theorem E133 {ro : ma_RO} {d : Nat} (a0 : Nat) (x1 : Int32) (sh : List ma_Sh) (σ : ma_H) : ma_ev ro d 133 [.ref a0, .int x1] sh σ = ma_rn ro d 133 (0, [some (.ref a0), some (.int x1)], [], sh, σ) := q_ent x_133 rfl
theorem e134_0 : decode (ma_cd 134) 0 = .ok (.aload_n 0, 1) := (congrArg (fun b => decode b 0) cd_134).trans dX8_look_0
theorem e134_1 : decode (ma_cd 134) 1 = .ok (.iload_n 1, 1) := (congrArg (fun b => decode b 1) cd_134).trans dX8_look_1
theorem e134_2 : decode (ma_cd 134) 2 = .ok (.invokevirtual 129, 3) := (congrArg (fun b => decode b 2) cd_134).trans dX8_look_2
theorem e134_5 : decode (ma_cd 134) 5 = .ok (.ifCond .eq 11, 3) := (congrArg (fun b => decode b 5) cd_134).trans dX8_look_5
theorem e134_8 : decode (ma_cd 134) 8 = .ok (.aload_n 0, 1) := (congrArg (fun b => decode b 8) cd_134).trans dX8_look_8
theorem e134_9 : decode (ma_cd 134) 9 = .ok (.iload_n 1, 1) := (congrArg (fun b => decode b 9) cd_134).trans dX8_look_9
theorem e134_10 : decode (ma_cd 134) 10 = .ok (.invokevirtual 146, 3) := (congrArg (fun b => decode b 10) cd_134).trans dX8_look_10
theorem e134_13 : decode (ma_cd 134) 13 = .ok (.goto 4, 3) := (congrArg (fun b => decode b 13) cd_134).trans dX8_look_13
theorem e134_16 : decode (ma_cd 134) 16 = .ok (.iconst (-1), 1) := (congrArg (fun b => decode b 16) cd_134).trans dX8_look_16
theorem e134_17 : decode (ma_cd 134) 17 = .ok (.ireturn, 1) := (congrArg (fun b => decode b 17) cd_134).trans dX8_look_17
theorem S134 {ro : ma_RO} {d : Nat} : (∀ (v1 : Option Value) (a1 : Nat) (st : List Value) (σ : ma_H), ma_rn ro d 134 (0, [some (.ref a1), v1], st, SH, σ) = ma_rn ro d 134 (1, [some (.ref a1), v1], .ref a1 :: st, SH, σ)) ∧
  (∀ (v0 : Option Value) (x1 : Int32) (st : List Value) (σ : ma_H), ma_rn ro d 134 (1, [v0, some (.int x1)], st, SH, σ) = ma_rn ro d 134 (2, [v0, some (.int x1)], .int x1 :: st, SH, σ)) ∧
  (∀ (v0 : Option Value) (v1 : Option Value) (x1 : Int32) (a0 : Nat) (σ : ma_H) (hc : hk_cls a0 = 8), ma_rn ro (d + 1) 134 (2, [v0, v1], .int x1 :: .ref a0 :: [], SH, σ) = (ma_ev ro d 103 [.ref a0, .int x1] SH σ).bind (fun q => ma_rn ro (d + 1) 134 (5, [v0, v1], (q.1.toList ++ []), q.2.1, q.2.2))) ∧
  (∀ (v0 : Option Value) (v1 : Option Value) (x1 : Int32) (st : List Value) (σ : ma_H), ma_rn ro d 134 (5, [v0, v1], .int x1 :: st, SH, σ) = if x1 = nI 0 then ma_rn ro d 134 (16, [v0, v1], st, SH, σ) else ma_rn ro d 134 (8, [v0, v1], st, SH, σ)) ∧
  (∀ (v1 : Option Value) (a1 : Nat) (st : List Value) (σ : ma_H), ma_rn ro d 134 (8, [some (.ref a1), v1], st, SH, σ) = ma_rn ro d 134 (9, [some (.ref a1), v1], .ref a1 :: st, SH, σ)) ∧
  (∀ (v0 : Option Value) (x1 : Int32) (st : List Value) (σ : ma_H), ma_rn ro d 134 (9, [v0, some (.int x1)], st, SH, σ) = ma_rn ro d 134 (10, [v0, some (.int x1)], .int x1 :: st, SH, σ)) ∧
  (∀ (v0 : Option Value) (v1 : Option Value) (x1 : Int32) (a0 : Nat) (σ : ma_H) (hc : hk_cls a0 = 8), ma_rn ro (d + 1) 134 (10, [v0, v1], .int x1 :: .ref a0 :: [], SH, σ) = (ma_ev ro d 133 [.ref a0, .int x1] SH σ).bind (fun q => ma_rn ro (d + 1) 134 (13, [v0, v1], (q.1.toList ++ []), q.2.1, q.2.2))) ∧
  (∀ (v0 : Option Value) (v1 : Option Value) (st : List Value) (σ : ma_H), ma_rn ro d 134 (13, [v0, v1], st, SH, σ) = ma_rn ro d 134 (17, [v0, v1], st, SH, σ)) ∧
  (∀ (v0 : Option Value) (v1 : Option Value) (st : List Value) (σ : ma_H), ma_rn ro d 134 (16, [v0, v1], st, SH, σ) = ma_rn ro d 134 (17, [v0, v1], .int ((-1)) :: st, SH, σ)) ∧
  (∀ (v0 : Option Value) (v1 : Option Value) (x1 : Int32) (σ : ma_H), ma_rn ro d 134 (17, [v0, v1], [.int x1], SH, σ) = some (some (.int x1), SH, σ)) := ⟨fun v1 a1 st σ => q_go e134_0 rfl rfl,
  fun v0 x1 st σ => q_go e134_1 rfl rfl,
  fun v0 v1 x1 a0 σ hc => q_invV (as := [.int x1]) (rest := []) e134_2 o_134 bn_8_129 c_8_129 m_103 (by decide) rfl rfl (Nat.le_of_ble_eq_true rfl) (Nat.le_of_ble_eq_true rfl) hc,
  fun v0 v1 x1 st σ => (q_if e134_5 rfl).trans q_eq,
  fun v1 a1 st σ => q_go e134_8 rfl rfl,
  fun v0 x1 st σ => q_go e134_9 rfl rfl,
  fun v0 v1 x1 a0 σ hc => q_invV (as := [.int x1]) (rest := []) e134_10 o_134 bn_8_146 c_8_146 m_133 (by decide) rfl rfl (Nat.le_of_ble_eq_true rfl) (Nat.le_of_ble_eq_true rfl) hc,
  fun v0 v1 st σ => q_goto e134_13 rfl,
  fun v0 v1 st σ => q_iconst e134_16 (by decide),
  fun v0 v1 x1 σ => q_iret e134_17 r_134⟩
theorem E134 {ro : ma_RO} {d : Nat} (a0 : Nat) (x1 : Int32) (sh : List ma_Sh) (σ : ma_H) : ma_ev ro d 134 [.ref a0, .int x1] sh σ = ma_rn ro d 134 (0, [some (.ref a0), some (.int x1)], [], sh, σ) := q_ent x_134 rfl
theorem e135_0 : decode (ma_cd 135) 0 = .ok (.aload_n 0, 1) := (congrArg (fun b => decode b 0) cd_135).trans dX8_doubt_0
theorem e135_1 : decode (ma_cd 135) 1 = .ok (.iload_n 1, 1) := (congrArg (fun b => decode b 1) cd_135).trans dX8_doubt_1
theorem e135_2 : decode (ma_cd 135) 2 = .ok (.invokevirtual 129, 3) := (congrArg (fun b => decode b 2) cd_135).trans dX8_doubt_2
theorem e135_5 : decode (ma_cd 135) 5 = .ok (.ifCond .eq 22, 3) := (congrArg (fun b => decode b 5) cd_135).trans dX8_doubt_5
theorem e135_8 : decode (ma_cd 135) 8 = .ok (.iload_n 2, 1) := (congrArg (fun b => decode b 8) cd_135).trans dX8_doubt_8
theorem e135_9 : decode (ma_cd 135) 9 = .ok (.iconst 0, 1) := (congrArg (fun b => decode b 9) cd_135).trans dX8_doubt_9
theorem e135_10 : decode (ma_cd 135) 10 = .ok (.bipush 60, 2) := (congrArg (fun b => decode b 10) cd_135).trans dX8_doubt_10
theorem e135_12 : decode (ma_cd 135) 12 = .ok (.invokestatic 35, 3) := (congrArg (fun b => decode b 12) cd_135).trans dX8_doubt_12
theorem e135_15 : decode (ma_cd 135) 15 = .ok (.ifCond .eq 12, 3) := (congrArg (fun b => decode b 15) cd_135).trans dX8_doubt_15
theorem e135_18 : decode (ma_cd 135) 18 = .ok (.aload_n 0, 1) := (congrArg (fun b => decode b 18) cd_135).trans dX8_doubt_18
theorem e135_19 : decode (ma_cd 135) 19 = .ok (.iload_n 1, 1) := (congrArg (fun b => decode b 19) cd_135).trans dX8_doubt_19
theorem e135_20 : decode (ma_cd 135) 20 = .ok (.iload_n 2, 1) := (congrArg (fun b => decode b 20) cd_135).trans dX8_doubt_20
theorem e135_21 : decode (ma_cd 135) 21 = .ok (.invokevirtual 126, 3) := (congrArg (fun b => decode b 21) cd_135).trans dX8_doubt_21
theorem e135_24 : decode (ma_cd 135) 24 = .ok (.goto 5, 3) := (congrArg (fun b => decode b 24) cd_135).trans dX8_doubt_24
theorem e135_27 : decode (ma_cd 135) 27 = .ok (.ldc 133, 2) := (congrArg (fun b => decode b 27) cd_135).trans dX8_doubt_27
theorem e135_29 : decode (ma_cd 135) 29 = .ok (.ireturn, 1) := (congrArg (fun b => decode b 29) cd_135).trans dX8_doubt_29
theorem S135 {ro : ma_RO} {d : Nat} : (∀ (v1 : Option Value) (v2 : Option Value) (a1 : Nat) (st : List Value) (σ : ma_H), ma_rn ro d 135 (0, [some (.ref a1), v1, v2], st, SH, σ) = ma_rn ro d 135 (1, [some (.ref a1), v1, v2], .ref a1 :: st, SH, σ)) ∧
  (∀ (v0 : Option Value) (v2 : Option Value) (x1 : Int32) (st : List Value) (σ : ma_H), ma_rn ro d 135 (1, [v0, some (.int x1), v2], st, SH, σ) = ma_rn ro d 135 (2, [v0, some (.int x1), v2], .int x1 :: st, SH, σ)) ∧
  (∀ (v0 : Option Value) (v1 : Option Value) (v2 : Option Value) (x1 : Int32) (a0 : Nat) (σ : ma_H) (hc : hk_cls a0 = 8), ma_rn ro (d + 1) 135 (2, [v0, v1, v2], .int x1 :: .ref a0 :: [], SH, σ) = (ma_ev ro d 103 [.ref a0, .int x1] SH σ).bind (fun q => ma_rn ro (d + 1) 135 (5, [v0, v1, v2], (q.1.toList ++ []), q.2.1, q.2.2))) ∧
  (∀ (v0 : Option Value) (v1 : Option Value) (v2 : Option Value) (x1 : Int32) (st : List Value) (σ : ma_H), ma_rn ro d 135 (5, [v0, v1, v2], .int x1 :: st, SH, σ) = if x1 = nI 0 then ma_rn ro d 135 (27, [v0, v1, v2], st, SH, σ) else ma_rn ro d 135 (8, [v0, v1, v2], st, SH, σ)) ∧
  (∀ (v0 : Option Value) (v1 : Option Value) (x1 : Int32) (st : List Value) (σ : ma_H), ma_rn ro d 135 (8, [v0, v1, some (.int x1)], st, SH, σ) = ma_rn ro d 135 (9, [v0, v1, some (.int x1)], .int x1 :: st, SH, σ)) ∧
  (∀ (v0 : Option Value) (v1 : Option Value) (v2 : Option Value) (st : List Value) (σ : ma_H), ma_rn ro d 135 (9, [v0, v1, v2], st, SH, σ) = ma_rn ro d 135 (10, [v0, v1, v2], .int (nI 0) :: st, SH, σ)) ∧
  (∀ (v0 : Option Value) (v1 : Option Value) (v2 : Option Value) (st : List Value) (σ : ma_H), ma_rn ro d 135 (10, [v0, v1, v2], st, SH, σ) = ma_rn ro d 135 (12, [v0, v1, v2], .int (nI 60) :: st, SH, σ)) ∧
  (∀ (v0 : Option Value) (v1 : Option Value) (v2 : Option Value) (x1 : Int32) (x2 : Int32) (x3 : Int32) (σ : ma_H), ma_rn ro (d + 1) 135 (12, [v0, v1, v2], .int x3 :: .int x2 :: .int x1 :: [], SH, σ) = (ma_ev ro d 102 [.int x1, .int x2, .int x3] SH σ).bind (fun q => ma_rn ro (d + 1) 135 (15, [v0, v1, v2], (q.1.toList ++ []), q.2.1, q.2.2))) ∧
  (∀ (v0 : Option Value) (v1 : Option Value) (v2 : Option Value) (x1 : Int32) (st : List Value) (σ : ma_H), ma_rn ro d 135 (15, [v0, v1, v2], .int x1 :: st, SH, σ) = if x1 = nI 0 then ma_rn ro d 135 (27, [v0, v1, v2], st, SH, σ) else ma_rn ro d 135 (18, [v0, v1, v2], st, SH, σ)) ∧
  (∀ (v1 : Option Value) (v2 : Option Value) (a1 : Nat) (st : List Value) (σ : ma_H), ma_rn ro d 135 (18, [some (.ref a1), v1, v2], st, SH, σ) = ma_rn ro d 135 (19, [some (.ref a1), v1, v2], .ref a1 :: st, SH, σ)) ∧
  (∀ (v0 : Option Value) (v2 : Option Value) (x1 : Int32) (st : List Value) (σ : ma_H), ma_rn ro d 135 (19, [v0, some (.int x1), v2], st, SH, σ) = ma_rn ro d 135 (20, [v0, some (.int x1), v2], .int x1 :: st, SH, σ)) ∧
  (∀ (v0 : Option Value) (v1 : Option Value) (x1 : Int32) (st : List Value) (σ : ma_H), ma_rn ro d 135 (20, [v0, v1, some (.int x1)], st, SH, σ) = ma_rn ro d 135 (21, [v0, v1, some (.int x1)], .int x1 :: st, SH, σ)) ∧
  (∀ (v0 : Option Value) (v1 : Option Value) (v2 : Option Value) (x1 : Int32) (x2 : Int32) (a0 : Nat) (σ : ma_H) (hc : hk_cls a0 = 8), ma_rn ro (d + 1) 135 (21, [v0, v1, v2], .int x2 :: .int x1 :: .ref a0 :: [], SH, σ) = (ma_ev ro d 125 [.ref a0, .int x1, .int x2] SH σ).bind (fun q => ma_rn ro (d + 1) 135 (24, [v0, v1, v2], (q.1.toList ++ []), q.2.1, q.2.2))) ∧
  (∀ (v0 : Option Value) (v1 : Option Value) (v2 : Option Value) (st : List Value) (σ : ma_H), ma_rn ro d 135 (24, [v0, v1, v2], st, SH, σ) = ma_rn ro d 135 (29, [v0, v1, v2], st, SH, σ)) ∧
  (∀ (v0 : Option Value) (v1 : Option Value) (v2 : Option Value) (st : List Value) (σ : ma_H), ma_rn ro d 135 (27, [v0, v1, v2], st, SH, σ) = ma_rn ro d 135 (29, [v0, v1, v2], .int ((-999999)) :: st, SH, σ)) ∧
  (∀ (v0 : Option Value) (v1 : Option Value) (v2 : Option Value) (x1 : Int32) (σ : ma_H), ma_rn ro d 135 (29, [v0, v1, v2], [.int x1], SH, σ) = some (some (.int x1), SH, σ)) := ⟨fun v1 v2 a1 st σ => q_go e135_0 rfl rfl,
  fun v0 v2 x1 st σ => q_go e135_1 rfl rfl,
  fun v0 v1 v2 x1 a0 σ hc => q_invV (as := [.int x1]) (rest := []) e135_2 o_135 bn_8_129 c_8_129 m_103 (by decide) rfl rfl (Nat.le_of_ble_eq_true rfl) (Nat.le_of_ble_eq_true rfl) hc,
  fun v0 v1 v2 x1 st σ => (q_if e135_5 rfl).trans q_eq,
  fun v0 v1 x1 st σ => q_go e135_8 rfl rfl,
  fun v0 v1 v2 st σ => q_iconst e135_9 (by decide),
  fun v0 v1 v2 st σ => q_bipush e135_10 (by decide),
  fun v0 v1 v2 x1 x2 x3 σ => q_invS (as := [.int x1, .int x2, .int x3]) (rest := []) e135_12 o_135 bn_8_35 c_8_35 ⟨m_102.1, m_102.2.1, m_102.2.2.1⟩ rfl rfl (Nat.le_of_ble_eq_true rfl) (Nat.le_of_ble_eq_true rfl),
  fun v0 v1 v2 x1 st σ => (q_if e135_15 rfl).trans q_eq,
  fun v1 v2 a1 st σ => q_go e135_18 rfl rfl,
  fun v0 v2 x1 st σ => q_go e135_19 rfl rfl,
  fun v0 v1 x1 st σ => q_go e135_20 rfl rfl,
  fun v0 v1 v2 x1 x2 a0 σ hc => q_invV (as := [.int x1, .int x2]) (rest := []) e135_21 o_135 bn_8_126 c_8_126 m_125 (by decide) rfl rfl (Nat.le_of_ble_eq_true rfl) (Nat.le_of_ble_eq_true rfl) hc,
  fun v0 v1 v2 st σ => q_goto e135_24 rfl,
  fun v0 v1 v2 st σ => q_ldc e135_27 o_135 k_8_133,
  fun v0 v1 v2 x1 σ => q_iret e135_29 r_135⟩
theorem E135 {ro : ma_RO} {d : Nat} (a0 : Nat) (x1 : Int32) (x2 : Int32) (sh : List ma_Sh) (σ : ma_H) : ma_ev ro d 135 [.ref a0, .int x1, .int x2] sh σ = ma_rn ro d 135 (0, [some (.ref a0), some (.int x1), some (.int x2)], [], sh, σ) := q_ent x_135 rfl
theorem e136_0 : decode (ma_cd 136) 0 = .ok (.iconst 0, 1) := (congrArg (fun b => decode b 0) cd_136).trans dX8_leftOnes_0
theorem e136_1 : decode (ma_cd 136) 1 = .ok (.istore_n 1, 1) := (congrArg (fun b => decode b 1) cd_136).trans dX8_leftOnes_1
theorem e136_2 : decode (ma_cd 136) 2 = .ok (.iconst 0, 1) := (congrArg (fun b => decode b 2) cd_136).trans dX8_leftOnes_2
theorem e136_3 : decode (ma_cd 136) 3 = .ok (.istore_n 2, 1) := (congrArg (fun b => decode b 3) cd_136).trans dX8_leftOnes_3
theorem e136_4 : decode (ma_cd 136) 4 = .ok (.iload_n 2, 1) := (congrArg (fun b => decode b 4) cd_136).trans dX8_leftOnes_4
theorem e136_5 : decode (ma_cd 136) 5 = .ok (.aload_n 0, 1) := (congrArg (fun b => decode b 5) cd_136).trans dX8_leftOnes_5
theorem e136_6 : decode (ma_cd 136) 6 = .ok (.getfield 9, 3) := (congrArg (fun b => decode b 6) cd_136).trans dX8_leftOnes_6
theorem e136_9 : decode (ma_cd 136) 9 = .ok (.bipush 33, 2) := (congrArg (fun b => decode b 9) cd_136).trans dX8_leftOnes_9
theorem e136_11 : decode (ma_cd 136) 11 = .ok (.iaload, 1) := (congrArg (fun b => decode b 11) cd_136).trans dX8_leftOnes_11
theorem e136_12 : decode (ma_cd 136) 12 = .ok (.if_icmp .ge 22, 3) := (congrArg (fun b => decode b 12) cd_136).trans dX8_leftOnes_12
theorem e136_15 : decode (ma_cd 136) 15 = .ok (.iload_n 1, 1) := (congrArg (fun b => decode b 15) cd_136).trans dX8_leftOnes_15
theorem e136_16 : decode (ma_cd 136) 16 = .ok (.aload_n 0, 1) := (congrArg (fun b => decode b 16) cd_136).trans dX8_leftOnes_16
theorem e136_17 : decode (ma_cd 136) 17 = .ok (.getfield 9, 3) := (congrArg (fun b => decode b 17) cd_136).trans dX8_leftOnes_17
theorem e136_20 : decode (ma_cd 136) 20 = .ok (.iconst 3, 1) := (congrArg (fun b => decode b 20) cd_136).trans dX8_leftOnes_20
theorem e136_21 : decode (ma_cd 136) 21 = .ok (.iload_n 2, 1) := (congrArg (fun b => decode b 21) cd_136).trans dX8_leftOnes_21
theorem e136_22 : decode (ma_cd 136) 22 = .ok (.iadd, 1) := (congrArg (fun b => decode b 22) cd_136).trans dX8_leftOnes_22
theorem e136_23 : decode (ma_cd 136) 23 = .ok (.iaload, 1) := (congrArg (fun b => decode b 23) cd_136).trans dX8_leftOnes_23
theorem e136_24 : decode (ma_cd 136) 24 = .ok (.iload_n 2, 1) := (congrArg (fun b => decode b 24) cd_136).trans dX8_leftOnes_24
theorem e136_25 : decode (ma_cd 136) 25 = .ok (.ishl, 1) := (congrArg (fun b => decode b 25) cd_136).trans dX8_leftOnes_25
theorem e136_26 : decode (ma_cd 136) 26 = .ok (.ior, 1) := (congrArg (fun b => decode b 26) cd_136).trans dX8_leftOnes_26
theorem e136_27 : decode (ma_cd 136) 27 = .ok (.istore_n 1, 1) := (congrArg (fun b => decode b 27) cd_136).trans dX8_leftOnes_27
theorem e136_28 : decode (ma_cd 136) 28 = .ok (.iinc 2 1, 3) := (congrArg (fun b => decode b 28) cd_136).trans dX8_leftOnes_28
theorem e136_31 : decode (ma_cd 136) 31 = .ok (.goto (-27), 3) := (congrArg (fun b => decode b 31) cd_136).trans dX8_leftOnes_31
theorem e136_34 : decode (ma_cd 136) 34 = .ok (.iload_n 1, 1) := (congrArg (fun b => decode b 34) cd_136).trans dX8_leftOnes_34
theorem e136_35 : decode (ma_cd 136) 35 = .ok (.ireturn, 1) := (congrArg (fun b => decode b 35) cd_136).trans dX8_leftOnes_35
theorem Sh136_4 {ro : ma_RO} {d : Nat} : (∀ (v0 : Option Value) (v1 : Option Value) (x1 : Int32) (st : List Value) (σ : ma_H), ma_rn ro d 136 (4, [v0, v1, some (.int x1)], st, SH, σ) = ma_rn ro d 136 (5, [v0, v1, some (.int x1)], .int x1 :: st, SH, σ)) := fun v0 v1 x1 st σ => q_go e136_4 rfl rfl
theorem S136 {ro : ma_RO} {d : Nat} : (∀ (v0 : Option Value) (v1 : Option Value) (v2 : Option Value) (st : List Value) (σ : ma_H), ma_rn ro d 136 (0, [v0, v1, v2], st, SH, σ) = ma_rn ro d 136 (1, [v0, v1, v2], .int (nI 0) :: st, SH, σ)) ∧
  (∀ (v1 : Option Value) (v2 : Option Value) (a9 : Nat) (x1 : Int32) (st : List Value) (σ : ma_H), ma_rn ro d 136 (1, [some (.ref a9), v1, v2], .int x1 :: st, SH, σ) = ma_rn ro d 136 (2, [some (.ref a9), some (.int x1), v2], st, SH, σ)) ∧
  (∀ (v0 : Option Value) (v1 : Option Value) (v2 : Option Value) (st : List Value) (σ : ma_H), ma_rn ro d 136 (2, [v0, v1, v2], st, SH, σ) = ma_rn ro d 136 (3, [v0, v1, v2], .int (nI 0) :: st, SH, σ)) ∧
  (∀ (v0 : Option Value) (v2 : Option Value) (x9 : Int32) (x1 : Int32) (st : List Value) (σ : ma_H), ma_rn ro d 136 (3, [v0, some (.int x9), v2], .int x1 :: st, SH, σ) = ma_rn ro d 136 (4, [v0, some (.int x9), some (.int x1)], st, SH, σ)) ∧
  (∀ (v1 : Option Value) (v2 : Option Value) (a1 : Nat) (st : List Value) (σ : ma_H), ma_rn ro d 136 (5, [some (.ref a1), v1, v2], st, SH, σ) = ma_rn ro d 136 (6, [some (.ref a1), v1, v2], .ref a1 :: st, SH, σ)) ∧
  (∀ (v0 : Option Value) (v1 : Option Value) (v2 : Option Value) (a1 : Nat) (st : List Value) (σ : ma_H) (hc : hk_cls a1 = 8), ma_rn ro d 136 (6, [v0, v1, v2], .ref a1 :: st, SH, σ) = ma_rn ro d 136 (9, [v0, v1, v2], .ref (91) :: st, SH, σ)) ∧
  (∀ (v0 : Option Value) (v1 : Option Value) (v2 : Option Value) (st : List Value) (σ : ma_H), ma_rn ro d 136 (9, [v0, v1, v2], st, SH, σ) = ma_rn ro d 136 (11, [v0, v1, v2], .int (nI 33) :: st, SH, σ)) ∧
  (∀ (v0 : Option Value) (v1 : Option Value) (v2 : Option Value) (k : Nat) (a2 : Nat) (st : List Value) (σ : ma_H) (hk : k < hk_len a2), ma_rn ro d 136 (11, [v0, v1, v2], .int (nI k) :: .ref a2 :: st, SH, σ) = ma_rn ro d 136 (12, [v0, v1, v2], .int (σ a2 k) :: st, SH, σ)) ∧
  (∀ (v0 : Option Value) (v1 : Option Value) (v2 : Option Value) (x1 : Int32) (x2 : Int32) (st : List Value) (σ : ma_H), ma_rn ro d 136 (12, [v0, v1, v2], .int x1 :: .int x2 :: st, SH, σ) = if x2 < x1 then ma_rn ro d 136 (15, [v0, v1, v2], st, SH, σ) else ma_rn ro d 136 (34, [v0, v1, v2], st, SH, σ)) ∧
  (∀ (v0 : Option Value) (v2 : Option Value) (x1 : Int32) (st : List Value) (σ : ma_H), ma_rn ro d 136 (15, [v0, some (.int x1), v2], st, SH, σ) = ma_rn ro d 136 (16, [v0, some (.int x1), v2], .int x1 :: st, SH, σ)) ∧
  (∀ (v1 : Option Value) (v2 : Option Value) (a1 : Nat) (st : List Value) (σ : ma_H), ma_rn ro d 136 (16, [some (.ref a1), v1, v2], st, SH, σ) = ma_rn ro d 136 (17, [some (.ref a1), v1, v2], .ref a1 :: st, SH, σ)) ∧
  (∀ (v0 : Option Value) (v1 : Option Value) (v2 : Option Value) (a1 : Nat) (st : List Value) (σ : ma_H) (hc : hk_cls a1 = 8), ma_rn ro d 136 (17, [v0, v1, v2], .ref a1 :: st, SH, σ) = ma_rn ro d 136 (20, [v0, v1, v2], .ref (91) :: st, SH, σ)) ∧
  (∀ (v0 : Option Value) (v1 : Option Value) (v2 : Option Value) (st : List Value) (σ : ma_H), ma_rn ro d 136 (20, [v0, v1, v2], st, SH, σ) = ma_rn ro d 136 (21, [v0, v1, v2], .int (nI 3) :: st, SH, σ)) ∧
  (∀ (v0 : Option Value) (v1 : Option Value) (x1 : Int32) (st : List Value) (σ : ma_H), ma_rn ro d 136 (21, [v0, v1, some (.int x1)], st, SH, σ) = ma_rn ro d 136 (22, [v0, v1, some (.int x1)], .int x1 :: st, SH, σ)) ∧
  (∀ (v0 : Option Value) (v1 : Option Value) (v2 : Option Value) (x1 : Int32) (x2 : Int32) (st : List Value) (σ : ma_H), ma_rn ro d 136 (22, [v0, v1, v2], .int x1 :: .int x2 :: st, SH, σ) = ma_rn ro d 136 (23, [v0, v1, v2], .int (x2 + x1) :: st, SH, σ)) ∧
  (∀ (v0 : Option Value) (v1 : Option Value) (v2 : Option Value) (k : Nat) (a2 : Nat) (st : List Value) (σ : ma_H) (hk : k < hk_len a2), ma_rn ro d 136 (23, [v0, v1, v2], .int (nI k) :: .ref a2 :: st, SH, σ) = ma_rn ro d 136 (24, [v0, v1, v2], .int (σ a2 k) :: st, SH, σ)) ∧
  (∀ (v0 : Option Value) (v1 : Option Value) (x1 : Int32) (st : List Value) (σ : ma_H), ma_rn ro d 136 (24, [v0, v1, some (.int x1)], st, SH, σ) = ma_rn ro d 136 (25, [v0, v1, some (.int x1)], .int x1 :: st, SH, σ)) ∧
  (∀ (v0 : Option Value) (v1 : Option Value) (v2 : Option Value) (x1 : Int32) (x2 : Int32) (st : List Value) (σ : ma_H), ma_rn ro d 136 (25, [v0, v1, v2], .int x1 :: .int x2 :: st, SH, σ) = ma_rn ro d 136 (26, [v0, v1, v2], .int (x2 <<< (x1 &&& 31)) :: st, SH, σ)) ∧
  (∀ (v0 : Option Value) (v1 : Option Value) (v2 : Option Value) (x1 : Int32) (x2 : Int32) (st : List Value) (σ : ma_H), ma_rn ro d 136 (26, [v0, v1, v2], .int x1 :: .int x2 :: st, SH, σ) = ma_rn ro d 136 (27, [v0, v1, v2], .int (x2 ||| x1) :: st, SH, σ)) ∧
  (∀ (v1 : Option Value) (v2 : Option Value) (a9 : Nat) (x1 : Int32) (st : List Value) (σ : ma_H), ma_rn ro d 136 (27, [some (.ref a9), v1, v2], .int x1 :: st, SH, σ) = ma_rn ro d 136 (28, [some (.ref a9), some (.int x1), v2], st, SH, σ)) ∧
  (∀ (v0 : Option Value) (x1 : Int32) (x9 : Int32) (st : List Value) (σ : ma_H), ma_rn ro d 136 (28, [v0, some (.int x9), some (.int x1)], st, SH, σ) = ma_rn ro d 136 (31, [v0, some (.int x9), some (.int (x1 + nI 1))], st, SH, σ)) ∧
  (∀ (v0 : Option Value) (v1 : Option Value) (v2 : Option Value) (st : List Value) (σ : ma_H), ma_rn ro d 136 (31, [v0, v1, v2], st, SH, σ) = ma_rn ro d 136 (4, [v0, v1, v2], st, SH, σ)) ∧
  (∀ (v0 : Option Value) (v2 : Option Value) (x1 : Int32) (st : List Value) (σ : ma_H), ma_rn ro d 136 (34, [v0, some (.int x1), v2], st, SH, σ) = ma_rn ro d 136 (35, [v0, some (.int x1), v2], .int x1 :: st, SH, σ)) ∧
  (∀ (v0 : Option Value) (v1 : Option Value) (v2 : Option Value) (x1 : Int32) (σ : ma_H), ma_rn ro d 136 (35, [v0, v1, v2], [.int x1], SH, σ) = some (some (.int x1), SH, σ)) := ⟨fun v0 v1 v2 st σ => q_iconst e136_0 (by decide),
  fun v1 v2 a9 x1 st σ => q_go e136_1 rfl rfl,
  fun v0 v1 v2 st σ => q_iconst e136_2 (by decide),
  fun v0 v2 x9 x1 st σ => q_go e136_3 rfl rfl,
  fun v1 v2 a1 st σ => q_go e136_5 rfl rfl,
  fun v0 v1 v2 a1 st σ hc => q_getA e136_6 o_136 f_8_9 (by decide) hc,
  fun v0 v1 v2 st σ => q_bipush e136_9 (by decide),
  fun v0 v1 v2 k a2 st σ hk => q_iald e136_11 hk,
  fun v0 v1 v2 x1 x2 st σ => (q_cmp e136_12 rfl).trans q_nlt,
  fun v0 v2 x1 st σ => q_go e136_15 rfl rfl,
  fun v1 v2 a1 st σ => q_go e136_16 rfl rfl,
  fun v0 v1 v2 a1 st σ hc => q_getA e136_17 o_136 f_8_9 (by decide) hc,
  fun v0 v1 v2 st σ => q_iconst e136_20 (by decide),
  fun v0 v1 x1 st σ => q_go e136_21 rfl rfl,
  fun v0 v1 v2 x1 x2 st σ => q_go e136_22 rfl rfl,
  fun v0 v1 v2 k a2 st σ hk => q_iald e136_23 hk,
  fun v0 v1 x1 st σ => q_go e136_24 rfl rfl,
  fun v0 v1 v2 x1 x2 st σ => q_go e136_25 rfl rfl,
  fun v0 v1 v2 x1 x2 st σ => q_go e136_26 rfl rfl,
  fun v1 v2 a9 x1 st σ => q_go e136_27 rfl rfl,
  fun v0 x1 x9 st σ => q_iinc e136_28 rfl rfl (by decide),
  fun v0 v1 v2 st σ => q_goto e136_31 rfl,
  fun v0 v2 x1 st σ => q_go e136_34 rfl rfl,
  fun v0 v1 v2 x1 σ => q_iret e136_35 r_136⟩
theorem E136 {ro : ma_RO} {d : Nat} (a0 : Nat) (sh : List ma_Sh) (σ : ma_H) : ma_ev ro d 136 [.ref a0] sh σ = ma_rn ro d 136 (0, [some (.ref a0), none, none], [], sh, σ) := q_ent x_136 rfl
theorem e137_0 : decode (ma_cd 137) 0 = .ok (.iload_n 1, 1) := (congrArg (fun b => decode b 0) cd_137).trans dX8_told_0
theorem e137_1 : decode (ma_cd 137) 1 = .ok (.tableswitch 70 0 4 #[35, 42, 51, 58, 65], 35) := (congrArg (fun b => decode b 1) cd_137).trans dX8_told_1
theorem e137_36 : decode (ma_cd 137) 36 = .ok (.aload_n 0, 1) := (congrArg (fun b => decode b 36) cd_137).trans dX8_told_36
theorem e137_37 : decode (ma_cd 137) 37 = .ok (.getfield 9, 3) := (congrArg (fun b => decode b 37) cd_137).trans dX8_told_37
theorem e137_40 : decode (ma_cd 137) 40 = .ok (.iconst 0, 1) := (congrArg (fun b => decode b 40) cd_137).trans dX8_told_40
theorem e137_41 : decode (ma_cd 137) 41 = .ok (.iaload, 1) := (congrArg (fun b => decode b 41) cd_137).trans dX8_told_41
theorem e137_42 : decode (ma_cd 137) 42 = .ok (.ireturn, 1) := (congrArg (fun b => decode b 42) cd_137).trans dX8_told_42
theorem e137_43 : decode (ma_cd 137) 43 = .ok (.aload_n 0, 1) := (congrArg (fun b => decode b 43) cd_137).trans dX8_told_43
theorem e137_44 : decode (ma_cd 137) 44 = .ok (.sipush 223, 3) := (congrArg (fun b => decode b 44) cd_137).trans dX8_told_44
theorem e137_47 : decode (ma_cd 137) 47 = .ok (.iconst 2, 1) := (congrArg (fun b => decode b 47) cd_137).trans dX8_told_47
theorem e137_48 : decode (ma_cd 137) 48 = .ok (.invokevirtual 118, 3) := (congrArg (fun b => decode b 48) cd_137).trans dX8_told_48
theorem e137_51 : decode (ma_cd 137) 51 = .ok (.ireturn, 1) := (congrArg (fun b => decode b 51) cd_137).trans dX8_told_51
theorem e137_52 : decode (ma_cd 137) 52 = .ok (.aload_n 0, 1) := (congrArg (fun b => decode b 52) cd_137).trans dX8_told_52
theorem e137_53 : decode (ma_cd 137) 53 = .ok (.getfield 9, 3) := (congrArg (fun b => decode b 53) cd_137).trans dX8_told_53
theorem e137_56 : decode (ma_cd 137) 56 = .ok (.iconst 1, 1) := (congrArg (fun b => decode b 56) cd_137).trans dX8_told_56
theorem e137_57 : decode (ma_cd 137) 57 = .ok (.iaload, 1) := (congrArg (fun b => decode b 57) cd_137).trans dX8_told_57
theorem e137_58 : decode (ma_cd 137) 58 = .ok (.ireturn, 1) := (congrArg (fun b => decode b 58) cd_137).trans dX8_told_58
theorem e137_59 : decode (ma_cd 137) 59 = .ok (.aload_n 0, 1) := (congrArg (fun b => decode b 59) cd_137).trans dX8_told_59
theorem e137_60 : decode (ma_cd 137) 60 = .ok (.getfield 9, 3) := (congrArg (fun b => decode b 60) cd_137).trans dX8_told_60
theorem e137_63 : decode (ma_cd 137) 63 = .ok (.iconst 2, 1) := (congrArg (fun b => decode b 63) cd_137).trans dX8_told_63
theorem e137_64 : decode (ma_cd 137) 64 = .ok (.iaload, 1) := (congrArg (fun b => decode b 64) cd_137).trans dX8_told_64
theorem e137_65 : decode (ma_cd 137) 65 = .ok (.ireturn, 1) := (congrArg (fun b => decode b 65) cd_137).trans dX8_told_65
theorem e137_66 : decode (ma_cd 137) 66 = .ok (.aload_n 0, 1) := (congrArg (fun b => decode b 66) cd_137).trans dX8_told_66
theorem e137_67 : decode (ma_cd 137) 67 = .ok (.invokevirtual 149, 3) := (congrArg (fun b => decode b 67) cd_137).trans dX8_told_67
theorem e137_70 : decode (ma_cd 137) 70 = .ok (.ireturn, 1) := (congrArg (fun b => decode b 70) cd_137).trans dX8_told_70
theorem e137_71 : decode (ma_cd 137) 71 = .ok (.iconst (-1), 1) := (congrArg (fun b => decode b 71) cd_137).trans dX8_told_71
theorem e137_72 : decode (ma_cd 137) 72 = .ok (.ireturn, 1) := (congrArg (fun b => decode b 72) cd_137).trans dX8_told_72
theorem S137 {ro : ma_RO} {d : Nat} : (∀ (v0 : Option Value) (x1 : Int32) (st : List Value) (σ : ma_H), ma_rn ro d 137 (0, [v0, some (.int x1)], st, SH, σ) = ma_rn ro d 137 (1, [v0, some (.int x1)], .int x1 :: st, SH, σ)) ∧
  (∀ (v0 : Option Value) (v1 : Option Value) (x1 : Int32) (st : List Value) (σ : ma_H), ma_rn ro d 137 (1, [v0, v1], .int x1 :: st, SH, σ) = if x1 = nI 0 then ma_rn ro d 137 (36, [v0, v1], st, SH, σ) else if x1 = nI 1 then ma_rn ro d 137 (43, [v0, v1], st, SH, σ) else if x1 = nI 2 then ma_rn ro d 137 (52, [v0, v1], st, SH, σ) else if x1 = nI 3 then ma_rn ro d 137 (59, [v0, v1], st, SH, σ) else if x1 = nI 4 then ma_rn ro d 137 (66, [v0, v1], st, SH, σ) else ma_rn ro d 137 (71, [v0, v1], st, SH, σ)) ∧
  (∀ (v1 : Option Value) (a1 : Nat) (st : List Value) (σ : ma_H), ma_rn ro d 137 (36, [some (.ref a1), v1], st, SH, σ) = ma_rn ro d 137 (37, [some (.ref a1), v1], .ref a1 :: st, SH, σ)) ∧
  (∀ (v0 : Option Value) (v1 : Option Value) (a1 : Nat) (st : List Value) (σ : ma_H) (hc : hk_cls a1 = 8), ma_rn ro d 137 (37, [v0, v1], .ref a1 :: st, SH, σ) = ma_rn ro d 137 (40, [v0, v1], .ref (91) :: st, SH, σ)) ∧
  (∀ (v0 : Option Value) (v1 : Option Value) (st : List Value) (σ : ma_H), ma_rn ro d 137 (40, [v0, v1], st, SH, σ) = ma_rn ro d 137 (41, [v0, v1], .int (nI 0) :: st, SH, σ)) ∧
  (∀ (v0 : Option Value) (v1 : Option Value) (k : Nat) (a2 : Nat) (st : List Value) (σ : ma_H) (hk : k < hk_len a2), ma_rn ro d 137 (41, [v0, v1], .int (nI k) :: .ref a2 :: st, SH, σ) = ma_rn ro d 137 (42, [v0, v1], .int (σ a2 k) :: st, SH, σ)) ∧
  (∀ (v0 : Option Value) (v1 : Option Value) (x1 : Int32) (σ : ma_H), ma_rn ro d 137 (42, [v0, v1], [.int x1], SH, σ) = some (some (.int x1), SH, σ)) ∧
  (∀ (v1 : Option Value) (a1 : Nat) (st : List Value) (σ : ma_H), ma_rn ro d 137 (43, [some (.ref a1), v1], st, SH, σ) = ma_rn ro d 137 (44, [some (.ref a1), v1], .ref a1 :: st, SH, σ)) ∧
  (∀ (v0 : Option Value) (v1 : Option Value) (st : List Value) (σ : ma_H), ma_rn ro d 137 (44, [v0, v1], st, SH, σ) = ma_rn ro d 137 (47, [v0, v1], .int (nI 223) :: st, SH, σ)) ∧
  (∀ (v0 : Option Value) (v1 : Option Value) (st : List Value) (σ : ma_H), ma_rn ro d 137 (47, [v0, v1], st, SH, σ) = ma_rn ro d 137 (48, [v0, v1], .int (nI 2) :: st, SH, σ)) ∧
  (∀ (v0 : Option Value) (v1 : Option Value) (x1 : Int32) (x2 : Int32) (a0 : Nat) (σ : ma_H) (hc : hk_cls a0 = 8), ma_rn ro (d + 1) 137 (48, [v0, v1], .int x2 :: .int x1 :: .ref a0 :: [], SH, σ) = (ma_ev ro d 122 [.ref a0, .int x1, .int x2] SH σ).bind (fun q => ma_rn ro (d + 1) 137 (51, [v0, v1], (q.1.toList ++ []), q.2.1, q.2.2))) ∧
  (∀ (v0 : Option Value) (v1 : Option Value) (x1 : Int32) (σ : ma_H), ma_rn ro d 137 (51, [v0, v1], [.int x1], SH, σ) = some (some (.int x1), SH, σ)) ∧
  (∀ (v1 : Option Value) (a1 : Nat) (st : List Value) (σ : ma_H), ma_rn ro d 137 (52, [some (.ref a1), v1], st, SH, σ) = ma_rn ro d 137 (53, [some (.ref a1), v1], .ref a1 :: st, SH, σ)) ∧
  (∀ (v0 : Option Value) (v1 : Option Value) (a1 : Nat) (st : List Value) (σ : ma_H) (hc : hk_cls a1 = 8), ma_rn ro d 137 (53, [v0, v1], .ref a1 :: st, SH, σ) = ma_rn ro d 137 (56, [v0, v1], .ref (91) :: st, SH, σ)) ∧
  (∀ (v0 : Option Value) (v1 : Option Value) (st : List Value) (σ : ma_H), ma_rn ro d 137 (56, [v0, v1], st, SH, σ) = ma_rn ro d 137 (57, [v0, v1], .int (nI 1) :: st, SH, σ)) ∧
  (∀ (v0 : Option Value) (v1 : Option Value) (k : Nat) (a2 : Nat) (st : List Value) (σ : ma_H) (hk : k < hk_len a2), ma_rn ro d 137 (57, [v0, v1], .int (nI k) :: .ref a2 :: st, SH, σ) = ma_rn ro d 137 (58, [v0, v1], .int (σ a2 k) :: st, SH, σ)) ∧
  (∀ (v0 : Option Value) (v1 : Option Value) (x1 : Int32) (σ : ma_H), ma_rn ro d 137 (58, [v0, v1], [.int x1], SH, σ) = some (some (.int x1), SH, σ)) ∧
  (∀ (v1 : Option Value) (a1 : Nat) (st : List Value) (σ : ma_H), ma_rn ro d 137 (59, [some (.ref a1), v1], st, SH, σ) = ma_rn ro d 137 (60, [some (.ref a1), v1], .ref a1 :: st, SH, σ)) ∧
  (∀ (v0 : Option Value) (v1 : Option Value) (a1 : Nat) (st : List Value) (σ : ma_H) (hc : hk_cls a1 = 8), ma_rn ro d 137 (60, [v0, v1], .ref a1 :: st, SH, σ) = ma_rn ro d 137 (63, [v0, v1], .ref (91) :: st, SH, σ)) ∧
  (∀ (v0 : Option Value) (v1 : Option Value) (st : List Value) (σ : ma_H), ma_rn ro d 137 (63, [v0, v1], st, SH, σ) = ma_rn ro d 137 (64, [v0, v1], .int (nI 2) :: st, SH, σ)) ∧
  (∀ (v0 : Option Value) (v1 : Option Value) (k : Nat) (a2 : Nat) (st : List Value) (σ : ma_H) (hk : k < hk_len a2), ma_rn ro d 137 (64, [v0, v1], .int (nI k) :: .ref a2 :: st, SH, σ) = ma_rn ro d 137 (65, [v0, v1], .int (σ a2 k) :: st, SH, σ)) ∧
  (∀ (v0 : Option Value) (v1 : Option Value) (x1 : Int32) (σ : ma_H), ma_rn ro d 137 (65, [v0, v1], [.int x1], SH, σ) = some (some (.int x1), SH, σ)) ∧
  (∀ (v1 : Option Value) (a1 : Nat) (st : List Value) (σ : ma_H), ma_rn ro d 137 (66, [some (.ref a1), v1], st, SH, σ) = ma_rn ro d 137 (67, [some (.ref a1), v1], .ref a1 :: st, SH, σ)) ∧
  (∀ (v0 : Option Value) (v1 : Option Value) (a0 : Nat) (σ : ma_H) (hc : hk_cls a0 = 8), ma_rn ro (d + 1) 137 (67, [v0, v1], .ref a0 :: [], SH, σ) = (ma_ev ro d 136 [.ref a0] SH σ).bind (fun q => ma_rn ro (d + 1) 137 (70, [v0, v1], (q.1.toList ++ []), q.2.1, q.2.2))) ∧
  (∀ (v0 : Option Value) (v1 : Option Value) (x1 : Int32) (σ : ma_H), ma_rn ro d 137 (70, [v0, v1], [.int x1], SH, σ) = some (some (.int x1), SH, σ)) ∧
  (∀ (v0 : Option Value) (v1 : Option Value) (st : List Value) (σ : ma_H), ma_rn ro d 137 (71, [v0, v1], st, SH, σ) = ma_rn ro d 137 (72, [v0, v1], .int ((-1)) :: st, SH, σ)) ∧
  (∀ (v0 : Option Value) (v1 : Option Value) (x1 : Int32) (σ : ma_H), ma_rn ro d 137 (72, [v0, v1], [.int x1], SH, σ) = some (some (.int x1), SH, σ)) := ⟨fun v0 x1 st σ => q_go e137_0 rfl rfl,
  fun v0 v1 x1 st σ => by
    by_cases h0 : x1 = nI 0
    · rw [if_pos h0]; exact q_tswIn e137_1 h0 (k := 0) (by decide) (by decide) (by decide) rfl rfl
    rw [if_neg h0]
    by_cases h1 : x1 = nI 1
    · rw [if_pos h1]; exact q_tswIn e137_1 h1 (k := 1) (by decide) (by decide) (by decide) rfl rfl
    rw [if_neg h1]
    by_cases h2 : x1 = nI 2
    · rw [if_pos h2]; exact q_tswIn e137_1 h2 (k := 2) (by decide) (by decide) (by decide) rfl rfl
    rw [if_neg h2]
    by_cases h3 : x1 = nI 3
    · rw [if_pos h3]; exact q_tswIn e137_1 h3 (k := 3) (by decide) (by decide) (by decide) rfl rfl
    rw [if_neg h3]
    by_cases h4 : x1 = nI 4
    · rw [if_pos h4]; exact q_tswIn e137_1 h4 (k := 4) (by decide) (by decide) (by decide) rfl rfl
    rw [if_neg h4]
    have g0 := q_nnI h0 (by decide)
    have g1 := q_nnI h1 (by decide)
    have g2 := q_nnI h2 (by decide)
    have g3 := q_nnI h3 (by decide)
    have g4 := q_nnI h4 (by decide)
    exact q_tswOut e137_1 (by omega) rfl,
  fun v1 a1 st σ => q_go e137_36 rfl rfl,
  fun v0 v1 a1 st σ hc => q_getA e137_37 o_137 f_8_9 (by decide) hc,
  fun v0 v1 st σ => q_iconst e137_40 (by decide),
  fun v0 v1 k a2 st σ hk => q_iald e137_41 hk,
  fun v0 v1 x1 σ => q_iret e137_42 r_137,
  fun v1 a1 st σ => q_go e137_43 rfl rfl,
  fun v0 v1 st σ => q_sipush e137_44 (by decide),
  fun v0 v1 st σ => q_iconst e137_47 (by decide),
  fun v0 v1 x1 x2 a0 σ hc => q_invV (as := [.int x1, .int x2]) (rest := []) e137_48 o_137 bn_8_118 c_8_118 m_122 (by decide) rfl rfl (Nat.le_of_ble_eq_true rfl) (Nat.le_of_ble_eq_true rfl) hc,
  fun v0 v1 x1 σ => q_iret e137_51 r_137,
  fun v1 a1 st σ => q_go e137_52 rfl rfl,
  fun v0 v1 a1 st σ hc => q_getA e137_53 o_137 f_8_9 (by decide) hc,
  fun v0 v1 st σ => q_iconst e137_56 (by decide),
  fun v0 v1 k a2 st σ hk => q_iald e137_57 hk,
  fun v0 v1 x1 σ => q_iret e137_58 r_137,
  fun v1 a1 st σ => q_go e137_59 rfl rfl,
  fun v0 v1 a1 st σ hc => q_getA e137_60 o_137 f_8_9 (by decide) hc,
  fun v0 v1 st σ => q_iconst e137_63 (by decide),
  fun v0 v1 k a2 st σ hk => q_iald e137_64 hk,
  fun v0 v1 x1 σ => q_iret e137_65 r_137,
  fun v1 a1 st σ => q_go e137_66 rfl rfl,
  fun v0 v1 a0 σ hc => q_invV (as := []) (rest := []) e137_67 o_137 bn_8_149 c_8_149 m_136 (by decide) rfl rfl (Nat.le_of_ble_eq_true rfl) (Nat.le_of_ble_eq_true rfl) hc,
  fun v0 v1 x1 σ => q_iret e137_70 r_137,
  fun v0 v1 st σ => q_iconst e137_71 (by decide),
  fun v0 v1 x1 σ => q_iret e137_72 r_137⟩
theorem E137 {ro : ma_RO} {d : Nat} (a0 : Nat) (x1 : Int32) (sh : List ma_Sh) (σ : ma_H) : ma_ev ro d 137 [.ref a0, .int x1] sh σ = ma_rn ro d 137 (0, [some (.ref a0), some (.int x1)], [], sh, σ) := q_ent x_137 rfl
theorem e138_0 : decode (ma_cd 138) 0 = .ok (.aload_n 0, 1) := (congrArg (fun b => decode b 0) cd_138).trans dX8_isDone_0
theorem e138_1 : decode (ma_cd 138) 1 = .ok (.iload_n 1, 1) := (congrArg (fun b => decode b 1) cd_138).trans dX8_isDone_1
theorem e138_2 : decode (ma_cd 138) 2 = .ok (.invokevirtual 134, 3) := (congrArg (fun b => decode b 2) cd_138).trans dX8_isDone_2
theorem e138_5 : decode (ma_cd 138) 5 = .ok (.aload_n 0, 1) := (congrArg (fun b => decode b 5) cd_138).trans dX8_isDone_5
theorem e138_6 : decode (ma_cd 138) 6 = .ok (.getfield 9, 3) := (congrArg (fun b => decode b 6) cd_138).trans dX8_isDone_6
theorem e138_9 : decode (ma_cd 138) 9 = .ok (.iconst 1, 1) := (congrArg (fun b => decode b 9) cd_138).trans dX8_isDone_9
theorem e138_10 : decode (ma_cd 138) 10 = .ok (.iaload, 1) := (congrArg (fun b => decode b 10) cd_138).trans dX8_isDone_10
theorem e138_11 : decode (ma_cd 138) 11 = .ok (.if_icmp .lt 7, 3) := (congrArg (fun b => decode b 11) cd_138).trans dX8_isDone_11
theorem e138_14 : decode (ma_cd 138) 14 = .ok (.iconst 1, 1) := (congrArg (fun b => decode b 14) cd_138).trans dX8_isDone_14
theorem e138_15 : decode (ma_cd 138) 15 = .ok (.goto 4, 3) := (congrArg (fun b => decode b 15) cd_138).trans dX8_isDone_15
theorem e138_18 : decode (ma_cd 138) 18 = .ok (.iconst 0, 1) := (congrArg (fun b => decode b 18) cd_138).trans dX8_isDone_18
theorem e138_19 : decode (ma_cd 138) 19 = .ok (.istore_n 2, 1) := (congrArg (fun b => decode b 19) cd_138).trans dX8_isDone_19
theorem e138_20 : decode (ma_cd 138) 20 = .ok (.aload_n 0, 1) := (congrArg (fun b => decode b 20) cd_138).trans dX8_isDone_20
theorem e138_21 : decode (ma_cd 138) 21 = .ok (.getfield 9, 3) := (congrArg (fun b => decode b 21) cd_138).trans dX8_isDone_21
theorem e138_24 : decode (ma_cd 138) 24 = .ok (.iconst 3, 1) := (congrArg (fun b => decode b 24) cd_138).trans dX8_isDone_24
theorem e138_25 : decode (ma_cd 138) 25 = .ok (.iload_n 1, 1) := (congrArg (fun b => decode b 25) cd_138).trans dX8_isDone_25
theorem e138_26 : decode (ma_cd 138) 26 = .ok (.iadd, 1) := (congrArg (fun b => decode b 26) cd_138).trans dX8_isDone_26
theorem e138_27 : decode (ma_cd 138) 27 = .ok (.iload_n 2, 1) := (congrArg (fun b => decode b 27) cd_138).trans dX8_isDone_27
theorem e138_28 : decode (ma_cd 138) 28 = .ok (.ifCond .eq 7, 3) := (congrArg (fun b => decode b 28) cd_138).trans dX8_isDone_28
theorem e138_31 : decode (ma_cd 138) 31 = .ok (.iconst 0, 1) := (congrArg (fun b => decode b 31) cd_138).trans dX8_isDone_31
theorem e138_32 : decode (ma_cd 138) 32 = .ok (.goto 4, 3) := (congrArg (fun b => decode b 32) cd_138).trans dX8_isDone_32
theorem e138_35 : decode (ma_cd 138) 35 = .ok (.iconst 1, 1) := (congrArg (fun b => decode b 35) cd_138).trans dX8_isDone_35
theorem e138_36 : decode (ma_cd 138) 36 = .ok (.iastore, 1) := (congrArg (fun b => decode b 36) cd_138).trans dX8_isDone_36
theorem e138_37 : decode (ma_cd 138) 37 = .ok (.aload_n 0, 1) := (congrArg (fun b => decode b 37) cd_138).trans dX8_isDone_37
theorem e138_38 : decode (ma_cd 138) 38 = .ok (.getfield 9, 3) := (congrArg (fun b => decode b 38) cd_138).trans dX8_isDone_38
theorem e138_41 : decode (ma_cd 138) 41 = .ok (.bipush 9, 2) := (congrArg (fun b => decode b 41) cd_138).trans dX8_isDone_41
theorem e138_43 : decode (ma_cd 138) 43 = .ok (.iload_n 1, 1) := (congrArg (fun b => decode b 43) cd_138).trans dX8_isDone_43
theorem e138_44 : decode (ma_cd 138) 44 = .ok (.iadd, 1) := (congrArg (fun b => decode b 44) cd_138).trans dX8_isDone_44
theorem e138_45 : decode (ma_cd 138) 45 = .ok (.iload_n 2, 1) := (congrArg (fun b => decode b 45) cd_138).trans dX8_isDone_45
theorem e138_46 : decode (ma_cd 138) 46 = .ok (.ifCond .eq 37, 3) := (congrArg (fun b => decode b 46) cd_138).trans dX8_isDone_46
theorem e138_49 : decode (ma_cd 138) 49 = .ok (.bipush 50, 2) := (congrArg (fun b => decode b 49) cd_138).trans dX8_isDone_49
theorem e138_51 : decode (ma_cd 138) 51 = .ok (.iconst 2, 1) := (congrArg (fun b => decode b 51) cd_138).trans dX8_isDone_51
theorem e138_52 : decode (ma_cd 138) 52 = .ok (.aload_n 0, 1) := (congrArg (fun b => decode b 52) cd_138).trans dX8_isDone_52
theorem e138_53 : decode (ma_cd 138) 53 = .ok (.getfield 9, 3) := (congrArg (fun b => decode b 53) cd_138).trans dX8_isDone_53
theorem e138_56 : decode (ma_cd 138) 56 = .ok (.bipush 15, 2) := (congrArg (fun b => decode b 56) cd_138).trans dX8_isDone_56
theorem e138_58 : decode (ma_cd 138) 58 = .ok (.iload_n 1, 1) := (congrArg (fun b => decode b 58) cd_138).trans dX8_isDone_58
theorem e138_59 : decode (ma_cd 138) 59 = .ok (.iadd, 1) := (congrArg (fun b => decode b 59) cd_138).trans dX8_isDone_59
theorem e138_60 : decode (ma_cd 138) 60 = .ok (.iaload, 1) := (congrArg (fun b => decode b 60) cd_138).trans dX8_isDone_60
theorem e138_61 : decode (ma_cd 138) 61 = .ok (.imul, 1) := (congrArg (fun b => decode b 61) cd_138).trans dX8_isDone_61
theorem e138_62 : decode (ma_cd 138) 62 = .ok (.isub, 1) := (congrArg (fun b => decode b 62) cd_138).trans dX8_isDone_62
theorem e138_63 : decode (ma_cd 138) 63 = .ok (.iconst 4, 1) := (congrArg (fun b => decode b 63) cd_138).trans dX8_isDone_63
theorem e138_64 : decode (ma_cd 138) 64 = .ok (.aload_n 0, 1) := (congrArg (fun b => decode b 64) cd_138).trans dX8_isDone_64
theorem e138_65 : decode (ma_cd 138) 65 = .ok (.getfield 9, 3) := (congrArg (fun b => decode b 65) cd_138).trans dX8_isDone_65
theorem e138_68 : decode (ma_cd 138) 68 = .ok (.bipush 21, 2) := (congrArg (fun b => decode b 68) cd_138).trans dX8_isDone_68
theorem e138_70 : decode (ma_cd 138) 70 = .ok (.iload_n 1, 1) := (congrArg (fun b => decode b 70) cd_138).trans dX8_isDone_70
theorem e138_71 : decode (ma_cd 138) 71 = .ok (.iadd, 1) := (congrArg (fun b => decode b 71) cd_138).trans dX8_isDone_71
theorem e138_72 : decode (ma_cd 138) 72 = .ok (.iaload, 1) := (congrArg (fun b => decode b 72) cd_138).trans dX8_isDone_72
theorem e138_73 : decode (ma_cd 138) 73 = .ok (.imul, 1) := (congrArg (fun b => decode b 73) cd_138).trans dX8_isDone_73
theorem e138_74 : decode (ma_cd 138) 74 = .ok (.iadd, 1) := (congrArg (fun b => decode b 74) cd_138).trans dX8_isDone_74
theorem e138_75 : decode (ma_cd 138) 75 = .ok (.bipush 99, 2) := (congrArg (fun b => decode b 75) cd_138).trans dX8_isDone_75
theorem e138_77 : decode (ma_cd 138) 77 = .ok (.invokestatic 143, 3) := (congrArg (fun b => decode b 77) cd_138).trans dX8_isDone_77
theorem e138_80 : decode (ma_cd 138) 80 = .ok (.goto 20, 3) := (congrArg (fun b => decode b 80) cd_138).trans dX8_isDone_80
theorem e138_83 : decode (ma_cd 138) 83 = .ok (.bipush 25, 2) := (congrArg (fun b => decode b 83) cd_138).trans dX8_isDone_83
theorem e138_85 : decode (ma_cd 138) 85 = .ok (.aload_n 0, 1) := (congrArg (fun b => decode b 85) cd_138).trans dX8_isDone_85
theorem e138_86 : decode (ma_cd 138) 86 = .ok (.getfield 9, 3) := (congrArg (fun b => decode b 86) cd_138).trans dX8_isDone_86
theorem e138_89 : decode (ma_cd 138) 89 = .ok (.bipush 15, 2) := (congrArg (fun b => decode b 89) cd_138).trans dX8_isDone_89
theorem e138_91 : decode (ma_cd 138) 91 = .ok (.iload_n 1, 1) := (congrArg (fun b => decode b 91) cd_138).trans dX8_isDone_91
theorem e138_92 : decode (ma_cd 138) 92 = .ok (.iadd, 1) := (congrArg (fun b => decode b 92) cd_138).trans dX8_isDone_92
theorem e138_93 : decode (ma_cd 138) 93 = .ok (.iaload, 1) := (congrArg (fun b => decode b 93) cd_138).trans dX8_isDone_93
theorem e138_94 : decode (ma_cd 138) 94 = .ok (.isub, 1) := (congrArg (fun b => decode b 94) cd_138).trans dX8_isDone_94
theorem e138_95 : decode (ma_cd 138) 95 = .ok (.bipush 99, 2) := (congrArg (fun b => decode b 95) cd_138).trans dX8_isDone_95
theorem e138_97 : decode (ma_cd 138) 97 = .ok (.invokestatic 143, 3) := (congrArg (fun b => decode b 97) cd_138).trans dX8_isDone_97
theorem e138_100 : decode (ma_cd 138) 100 = .ok (.iastore, 1) := (congrArg (fun b => decode b 100) cd_138).trans dX8_isDone_100
theorem e138_101 : decode (ma_cd 138) 101 = .ok (.aload_n 0, 1) := (congrArg (fun b => decode b 101) cd_138).trans dX8_isDone_101
theorem e138_102 : decode (ma_cd 138) 102 = .ok (.getfield 9, 3) := (congrArg (fun b => decode b 102) cd_138).trans dX8_isDone_102
theorem e138_105 : decode (ma_cd 138) 105 = .ok (.bipush 21, 2) := (congrArg (fun b => decode b 105) cd_138).trans dX8_isDone_105
theorem e138_107 : decode (ma_cd 138) 107 = .ok (.iload_n 1, 1) := (congrArg (fun b => decode b 107) cd_138).trans dX8_isDone_107
theorem e138_108 : decode (ma_cd 138) 108 = .ok (.iadd, 1) := (congrArg (fun b => decode b 108) cd_138).trans dX8_isDone_108
theorem e138_109 : decode (ma_cd 138) 109 = .ok (.iload_n 2, 1) := (congrArg (fun b => decode b 109) cd_138).trans dX8_isDone_109
theorem e138_110 : decode (ma_cd 138) 110 = .ok (.ifCond .eq 22, 3) := (congrArg (fun b => decode b 110) cd_138).trans dX8_isDone_110
theorem e138_113 : decode (ma_cd 138) 113 = .ok (.aload_n 0, 1) := (congrArg (fun b => decode b 113) cd_138).trans dX8_isDone_113
theorem e138_114 : decode (ma_cd 138) 114 = .ok (.getfield 9, 3) := (congrArg (fun b => decode b 114) cd_138).trans dX8_isDone_114
theorem e138_117 : decode (ma_cd 138) 117 = .ok (.bipush 21, 2) := (congrArg (fun b => decode b 117) cd_138).trans dX8_isDone_117
theorem e138_119 : decode (ma_cd 138) 119 = .ok (.iload_n 1, 1) := (congrArg (fun b => decode b 119) cd_138).trans dX8_isDone_119
theorem e138_120 : decode (ma_cd 138) 120 = .ok (.iadd, 1) := (congrArg (fun b => decode b 120) cd_138).trans dX8_isDone_120
theorem e138_121 : decode (ma_cd 138) 121 = .ok (.iaload, 1) := (congrArg (fun b => decode b 121) cd_138).trans dX8_isDone_121
theorem e138_122 : decode (ma_cd 138) 122 = .ok (.iconst 1, 1) := (congrArg (fun b => decode b 122) cd_138).trans dX8_isDone_122
theorem e138_123 : decode (ma_cd 138) 123 = .ok (.isub, 1) := (congrArg (fun b => decode b 123) cd_138).trans dX8_isDone_123
theorem e138_124 : decode (ma_cd 138) 124 = .ok (.bipush 9, 2) := (congrArg (fun b => decode b 124) cd_138).trans dX8_isDone_124
theorem e138_126 : decode (ma_cd 138) 126 = .ok (.invokestatic 143, 3) := (congrArg (fun b => decode b 126) cd_138).trans dX8_isDone_126
theorem e138_129 : decode (ma_cd 138) 129 = .ok (.goto 12, 3) := (congrArg (fun b => decode b 129) cd_138).trans dX8_isDone_129
theorem e138_132 : decode (ma_cd 138) 132 = .ok (.aload_n 0, 1) := (congrArg (fun b => decode b 132) cd_138).trans dX8_isDone_132
theorem e138_133 : decode (ma_cd 138) 133 = .ok (.getfield 9, 3) := (congrArg (fun b => decode b 133) cd_138).trans dX8_isDone_133
theorem e138_136 : decode (ma_cd 138) 136 = .ok (.bipush 21, 2) := (congrArg (fun b => decode b 136) cd_138).trans dX8_isDone_136
theorem e138_138 : decode (ma_cd 138) 138 = .ok (.iload_n 1, 1) := (congrArg (fun b => decode b 138) cd_138).trans dX8_isDone_138
theorem e138_139 : decode (ma_cd 138) 139 = .ok (.iadd, 1) := (congrArg (fun b => decode b 139) cd_138).trans dX8_isDone_139
theorem e138_140 : decode (ma_cd 138) 140 = .ok (.iaload, 1) := (congrArg (fun b => decode b 140) cd_138).trans dX8_isDone_140
theorem e138_141 : decode (ma_cd 138) 141 = .ok (.iastore, 1) := (congrArg (fun b => decode b 141) cd_138).trans dX8_isDone_141
theorem e138_142 : decode (ma_cd 138) 142 = .ok (.aload_n 0, 1) := (congrArg (fun b => decode b 142) cd_138).trans dX8_isDone_142
theorem e138_143 : decode (ma_cd 138) 143 = .ok (.getfield 9, 3) := (congrArg (fun b => decode b 143) cd_138).trans dX8_isDone_143
theorem e138_146 : decode (ma_cd 138) 146 = .ok (.bipush 15, 2) := (congrArg (fun b => decode b 146) cd_138).trans dX8_isDone_146
theorem e138_148 : decode (ma_cd 138) 148 = .ok (.iload_n 1, 1) := (congrArg (fun b => decode b 148) cd_138).trans dX8_isDone_148
theorem e138_149 : decode (ma_cd 138) 149 = .ok (.iadd, 1) := (congrArg (fun b => decode b 149) cd_138).trans dX8_isDone_149
theorem e138_150 : decode (ma_cd 138) 150 = .ok (.aload_n 0, 1) := (congrArg (fun b => decode b 150) cd_138).trans dX8_isDone_150
theorem e138_151 : decode (ma_cd 138) 151 = .ok (.getfield 9, 3) := (congrArg (fun b => decode b 151) cd_138).trans dX8_isDone_151
theorem e138_154 : decode (ma_cd 138) 154 = .ok (.bipush 15, 2) := (congrArg (fun b => decode b 154) cd_138).trans dX8_isDone_154
theorem e138_156 : decode (ma_cd 138) 156 = .ok (.iload_n 1, 1) := (congrArg (fun b => decode b 156) cd_138).trans dX8_isDone_156
theorem e138_157 : decode (ma_cd 138) 157 = .ok (.iadd, 1) := (congrArg (fun b => decode b 157) cd_138).trans dX8_isDone_157
theorem e138_158 : decode (ma_cd 138) 158 = .ok (.iaload, 1) := (congrArg (fun b => decode b 158) cd_138).trans dX8_isDone_158
theorem e138_159 : decode (ma_cd 138) 159 = .ok (.iconst 1, 1) := (congrArg (fun b => decode b 159) cd_138).trans dX8_isDone_159
theorem e138_160 : decode (ma_cd 138) 160 = .ok (.iadd, 1) := (congrArg (fun b => decode b 160) cd_138).trans dX8_isDone_160
theorem e138_161 : decode (ma_cd 138) 161 = .ok (.bipush 99, 2) := (congrArg (fun b => decode b 161) cd_138).trans dX8_isDone_161
theorem e138_163 : decode (ma_cd 138) 163 = .ok (.invokestatic 143, 3) := (congrArg (fun b => decode b 163) cd_138).trans dX8_isDone_163
theorem e138_166 : decode (ma_cd 138) 166 = .ok (.iastore, 1) := (congrArg (fun b => decode b 166) cd_138).trans dX8_isDone_166
theorem e138_167 : decode (ma_cd 138) 167 = .ok (.aload_n 0, 1) := (congrArg (fun b => decode b 167) cd_138).trans dX8_isDone_167
theorem e138_168 : decode (ma_cd 138) 168 = .ok (.getfield 9, 3) := (congrArg (fun b => decode b 168) cd_138).trans dX8_isDone_168
theorem e138_171 : decode (ma_cd 138) 171 = .ok (.bipush 27, 2) := (congrArg (fun b => decode b 171) cd_138).trans dX8_isDone_171
theorem e138_173 : decode (ma_cd 138) 173 = .ok (.iload_n 1, 1) := (congrArg (fun b => decode b 173) cd_138).trans dX8_isDone_173
theorem e138_174 : decode (ma_cd 138) 174 = .ok (.iadd, 1) := (congrArg (fun b => decode b 174) cd_138).trans dX8_isDone_174
theorem e138_175 : decode (ma_cd 138) 175 = .ok (.iconst 0, 1) := (congrArg (fun b => decode b 175) cd_138).trans dX8_isDone_175
theorem e138_176 : decode (ma_cd 138) 176 = .ok (.iastore, 1) := (congrArg (fun b => decode b 176) cd_138).trans dX8_isDone_176
theorem e138_177 : decode (ma_cd 138) 177 = .ok (.return_, 1) := (congrArg (fun b => decode b 177) cd_138).trans dX8_isDone_177
theorem S138 {ro : ma_RO} {d : Nat} : (∀ (v1 : Option Value) (v2 : Option Value) (a1 : Nat) (st : List Value) (σ : ma_H), ma_rn ro d 138 (0, [some (.ref a1), v1, v2], st, SH, σ) = ma_rn ro d 138 (1, [some (.ref a1), v1, v2], .ref a1 :: st, SH, σ)) ∧
  (∀ (v0 : Option Value) (v2 : Option Value) (x1 : Int32) (st : List Value) (σ : ma_H), ma_rn ro d 138 (1, [v0, some (.int x1), v2], st, SH, σ) = ma_rn ro d 138 (2, [v0, some (.int x1), v2], .int x1 :: st, SH, σ)) ∧
  (∀ (v0 : Option Value) (v1 : Option Value) (v2 : Option Value) (x1 : Int32) (a0 : Nat) (σ : ma_H) (hc : hk_cls a0 = 8), ma_rn ro (d + 1) 138 (2, [v0, v1, v2], .int x1 :: .ref a0 :: [], SH, σ) = (ma_ev ro d 124 [.ref a0, .int x1] SH σ).bind (fun q => ma_rn ro (d + 1) 138 (5, [v0, v1, v2], (q.1.toList ++ []), q.2.1, q.2.2))) ∧
  (∀ (v1 : Option Value) (v2 : Option Value) (a1 : Nat) (st : List Value) (σ : ma_H), ma_rn ro d 138 (5, [some (.ref a1), v1, v2], st, SH, σ) = ma_rn ro d 138 (6, [some (.ref a1), v1, v2], .ref a1 :: st, SH, σ)) ∧
  (∀ (v0 : Option Value) (v1 : Option Value) (v2 : Option Value) (a1 : Nat) (st : List Value) (σ : ma_H) (hc : hk_cls a1 = 8), ma_rn ro d 138 (6, [v0, v1, v2], .ref a1 :: st, SH, σ) = ma_rn ro d 138 (9, [v0, v1, v2], .ref (91) :: st, SH, σ)) ∧
  (∀ (v0 : Option Value) (v1 : Option Value) (v2 : Option Value) (st : List Value) (σ : ma_H), ma_rn ro d 138 (9, [v0, v1, v2], st, SH, σ) = ma_rn ro d 138 (10, [v0, v1, v2], .int (nI 1) :: st, SH, σ)) ∧
  (∀ (v0 : Option Value) (v1 : Option Value) (v2 : Option Value) (k : Nat) (a2 : Nat) (st : List Value) (σ : ma_H) (hk : k < hk_len a2), ma_rn ro d 138 (10, [v0, v1, v2], .int (nI k) :: .ref a2 :: st, SH, σ) = ma_rn ro d 138 (11, [v0, v1, v2], .int (σ a2 k) :: st, SH, σ)) ∧
  (∀ (v0 : Option Value) (v1 : Option Value) (v2 : Option Value) (x1 : Int32) (x2 : Int32) (st : List Value) (σ : ma_H), ma_rn ro d 138 (11, [v0, v1, v2], .int x1 :: .int x2 :: st, SH, σ) = if x2 < x1 then ma_rn ro d 138 (18, [v0, v1, v2], st, SH, σ) else ma_rn ro d 138 (14, [v0, v1, v2], st, SH, σ)) ∧
  (∀ (v0 : Option Value) (v1 : Option Value) (v2 : Option Value) (st : List Value) (σ : ma_H), ma_rn ro d 138 (14, [v0, v1, v2], st, SH, σ) = ma_rn ro d 138 (15, [v0, v1, v2], .int (nI 1) :: st, SH, σ)) ∧
  (∀ (v0 : Option Value) (v1 : Option Value) (v2 : Option Value) (st : List Value) (σ : ma_H), ma_rn ro d 138 (15, [v0, v1, v2], st, SH, σ) = ma_rn ro d 138 (19, [v0, v1, v2], st, SH, σ)) ∧
  (∀ (v0 : Option Value) (v1 : Option Value) (v2 : Option Value) (st : List Value) (σ : ma_H), ma_rn ro d 138 (18, [v0, v1, v2], st, SH, σ) = ma_rn ro d 138 (19, [v0, v1, v2], .int (nI 0) :: st, SH, σ)) ∧
  (∀ (v0 : Option Value) (v2 : Option Value) (x9 : Int32) (x1 : Int32) (st : List Value) (σ : ma_H), ma_rn ro d 138 (19, [v0, some (.int x9), v2], .int x1 :: st, SH, σ) = ma_rn ro d 138 (20, [v0, some (.int x9), some (.int x1)], st, SH, σ)) ∧
  (∀ (v1 : Option Value) (v2 : Option Value) (a1 : Nat) (st : List Value) (σ : ma_H), ma_rn ro d 138 (20, [some (.ref a1), v1, v2], st, SH, σ) = ma_rn ro d 138 (21, [some (.ref a1), v1, v2], .ref a1 :: st, SH, σ)) ∧
  (∀ (v0 : Option Value) (v1 : Option Value) (v2 : Option Value) (a1 : Nat) (st : List Value) (σ : ma_H) (hc : hk_cls a1 = 8), ma_rn ro d 138 (21, [v0, v1, v2], .ref a1 :: st, SH, σ) = ma_rn ro d 138 (24, [v0, v1, v2], .ref (91) :: st, SH, σ)) ∧
  (∀ (v0 : Option Value) (v1 : Option Value) (v2 : Option Value) (st : List Value) (σ : ma_H), ma_rn ro d 138 (24, [v0, v1, v2], st, SH, σ) = ma_rn ro d 138 (25, [v0, v1, v2], .int (nI 3) :: st, SH, σ)) ∧
  (∀ (v0 : Option Value) (v2 : Option Value) (x1 : Int32) (st : List Value) (σ : ma_H), ma_rn ro d 138 (25, [v0, some (.int x1), v2], st, SH, σ) = ma_rn ro d 138 (26, [v0, some (.int x1), v2], .int x1 :: st, SH, σ)) ∧
  (∀ (v0 : Option Value) (v1 : Option Value) (v2 : Option Value) (x1 : Int32) (x2 : Int32) (st : List Value) (σ : ma_H), ma_rn ro d 138 (26, [v0, v1, v2], .int x1 :: .int x2 :: st, SH, σ) = ma_rn ro d 138 (27, [v0, v1, v2], .int (x2 + x1) :: st, SH, σ)) ∧
  (∀ (v0 : Option Value) (v1 : Option Value) (x1 : Int32) (st : List Value) (σ : ma_H), ma_rn ro d 138 (27, [v0, v1, some (.int x1)], st, SH, σ) = ma_rn ro d 138 (28, [v0, v1, some (.int x1)], .int x1 :: st, SH, σ)) ∧
  (∀ (v0 : Option Value) (v1 : Option Value) (v2 : Option Value) (x1 : Int32) (st : List Value) (σ : ma_H), ma_rn ro d 138 (28, [v0, v1, v2], .int x1 :: st, SH, σ) = if x1 = nI 0 then ma_rn ro d 138 (35, [v0, v1, v2], st, SH, σ) else ma_rn ro d 138 (31, [v0, v1, v2], st, SH, σ)) ∧
  (∀ (v0 : Option Value) (v1 : Option Value) (v2 : Option Value) (st : List Value) (σ : ma_H), ma_rn ro d 138 (31, [v0, v1, v2], st, SH, σ) = ma_rn ro d 138 (32, [v0, v1, v2], .int (nI 0) :: st, SH, σ)) ∧
  (∀ (v0 : Option Value) (v1 : Option Value) (v2 : Option Value) (st : List Value) (σ : ma_H), ma_rn ro d 138 (32, [v0, v1, v2], st, SH, σ) = ma_rn ro d 138 (36, [v0, v1, v2], st, SH, σ)) ∧
  (∀ (v0 : Option Value) (v1 : Option Value) (v2 : Option Value) (st : List Value) (σ : ma_H), ma_rn ro d 138 (35, [v0, v1, v2], st, SH, σ) = ma_rn ro d 138 (36, [v0, v1, v2], .int (nI 1) :: st, SH, σ)) ∧
  (∀ (v0 : Option Value) (v1 : Option Value) (v2 : Option Value) (x1 : Int32) (k : Nat) (a3 : Nat) (st : List Value) (σ : ma_H) (hk : k < hk_len a3), ma_rn ro d 138 (36, [v0, v1, v2], .int x1 :: .int (nI k) :: .ref a3 :: st, SH, σ) = ma_rn ro d 138 (37, [v0, v1, v2], st, SH, (ma_up σ a3 k x1))) ∧
  (∀ (v1 : Option Value) (v2 : Option Value) (a1 : Nat) (st : List Value) (σ : ma_H), ma_rn ro d 138 (37, [some (.ref a1), v1, v2], st, SH, σ) = ma_rn ro d 138 (38, [some (.ref a1), v1, v2], .ref a1 :: st, SH, σ)) ∧
  (∀ (v0 : Option Value) (v1 : Option Value) (v2 : Option Value) (a1 : Nat) (st : List Value) (σ : ma_H) (hc : hk_cls a1 = 8), ma_rn ro d 138 (38, [v0, v1, v2], .ref a1 :: st, SH, σ) = ma_rn ro d 138 (41, [v0, v1, v2], .ref (91) :: st, SH, σ)) ∧
  (∀ (v0 : Option Value) (v1 : Option Value) (v2 : Option Value) (st : List Value) (σ : ma_H), ma_rn ro d 138 (41, [v0, v1, v2], st, SH, σ) = ma_rn ro d 138 (43, [v0, v1, v2], .int (nI 9) :: st, SH, σ)) ∧
  (∀ (v0 : Option Value) (v2 : Option Value) (x1 : Int32) (st : List Value) (σ : ma_H), ma_rn ro d 138 (43, [v0, some (.int x1), v2], st, SH, σ) = ma_rn ro d 138 (44, [v0, some (.int x1), v2], .int x1 :: st, SH, σ)) ∧
  (∀ (v0 : Option Value) (v1 : Option Value) (v2 : Option Value) (x1 : Int32) (x2 : Int32) (st : List Value) (σ : ma_H), ma_rn ro d 138 (44, [v0, v1, v2], .int x1 :: .int x2 :: st, SH, σ) = ma_rn ro d 138 (45, [v0, v1, v2], .int (x2 + x1) :: st, SH, σ)) ∧
  (∀ (v0 : Option Value) (v1 : Option Value) (x1 : Int32) (st : List Value) (σ : ma_H), ma_rn ro d 138 (45, [v0, v1, some (.int x1)], st, SH, σ) = ma_rn ro d 138 (46, [v0, v1, some (.int x1)], .int x1 :: st, SH, σ)) ∧
  (∀ (v0 : Option Value) (v1 : Option Value) (v2 : Option Value) (x1 : Int32) (st : List Value) (σ : ma_H), ma_rn ro d 138 (46, [v0, v1, v2], .int x1 :: st, SH, σ) = if x1 = nI 0 then ma_rn ro d 138 (83, [v0, v1, v2], st, SH, σ) else ma_rn ro d 138 (49, [v0, v1, v2], st, SH, σ)) ∧
  (∀ (v0 : Option Value) (v1 : Option Value) (v2 : Option Value) (st : List Value) (σ : ma_H), ma_rn ro d 138 (49, [v0, v1, v2], st, SH, σ) = ma_rn ro d 138 (51, [v0, v1, v2], .int (nI 50) :: st, SH, σ)) ∧
  (∀ (v0 : Option Value) (v1 : Option Value) (v2 : Option Value) (st : List Value) (σ : ma_H), ma_rn ro d 138 (51, [v0, v1, v2], st, SH, σ) = ma_rn ro d 138 (52, [v0, v1, v2], .int (nI 2) :: st, SH, σ)) ∧
  (∀ (v1 : Option Value) (v2 : Option Value) (a1 : Nat) (st : List Value) (σ : ma_H), ma_rn ro d 138 (52, [some (.ref a1), v1, v2], st, SH, σ) = ma_rn ro d 138 (53, [some (.ref a1), v1, v2], .ref a1 :: st, SH, σ)) ∧
  (∀ (v0 : Option Value) (v1 : Option Value) (v2 : Option Value) (a1 : Nat) (st : List Value) (σ : ma_H) (hc : hk_cls a1 = 8), ma_rn ro d 138 (53, [v0, v1, v2], .ref a1 :: st, SH, σ) = ma_rn ro d 138 (56, [v0, v1, v2], .ref (91) :: st, SH, σ)) ∧
  (∀ (v0 : Option Value) (v1 : Option Value) (v2 : Option Value) (st : List Value) (σ : ma_H), ma_rn ro d 138 (56, [v0, v1, v2], st, SH, σ) = ma_rn ro d 138 (58, [v0, v1, v2], .int (nI 15) :: st, SH, σ)) ∧
  (∀ (v0 : Option Value) (v2 : Option Value) (x1 : Int32) (st : List Value) (σ : ma_H), ma_rn ro d 138 (58, [v0, some (.int x1), v2], st, SH, σ) = ma_rn ro d 138 (59, [v0, some (.int x1), v2], .int x1 :: st, SH, σ)) ∧
  (∀ (v0 : Option Value) (v1 : Option Value) (v2 : Option Value) (x1 : Int32) (x2 : Int32) (st : List Value) (σ : ma_H), ma_rn ro d 138 (59, [v0, v1, v2], .int x1 :: .int x2 :: st, SH, σ) = ma_rn ro d 138 (60, [v0, v1, v2], .int (x2 + x1) :: st, SH, σ)) ∧
  (∀ (v0 : Option Value) (v1 : Option Value) (v2 : Option Value) (k : Nat) (a2 : Nat) (st : List Value) (σ : ma_H) (hk : k < hk_len a2), ma_rn ro d 138 (60, [v0, v1, v2], .int (nI k) :: .ref a2 :: st, SH, σ) = ma_rn ro d 138 (61, [v0, v1, v2], .int (σ a2 k) :: st, SH, σ)) ∧
  (∀ (v0 : Option Value) (v1 : Option Value) (v2 : Option Value) (x1 : Int32) (x2 : Int32) (st : List Value) (σ : ma_H), ma_rn ro d 138 (61, [v0, v1, v2], .int x1 :: .int x2 :: st, SH, σ) = ma_rn ro d 138 (62, [v0, v1, v2], .int (x2 * x1) :: st, SH, σ)) ∧
  (∀ (v0 : Option Value) (v1 : Option Value) (v2 : Option Value) (x1 : Int32) (x2 : Int32) (st : List Value) (σ : ma_H), ma_rn ro d 138 (62, [v0, v1, v2], .int x1 :: .int x2 :: st, SH, σ) = ma_rn ro d 138 (63, [v0, v1, v2], .int (x2 - x1) :: st, SH, σ)) ∧
  (∀ (v0 : Option Value) (v1 : Option Value) (v2 : Option Value) (st : List Value) (σ : ma_H), ma_rn ro d 138 (63, [v0, v1, v2], st, SH, σ) = ma_rn ro d 138 (64, [v0, v1, v2], .int (nI 4) :: st, SH, σ)) ∧
  (∀ (v1 : Option Value) (v2 : Option Value) (a1 : Nat) (st : List Value) (σ : ma_H), ma_rn ro d 138 (64, [some (.ref a1), v1, v2], st, SH, σ) = ma_rn ro d 138 (65, [some (.ref a1), v1, v2], .ref a1 :: st, SH, σ)) ∧
  (∀ (v0 : Option Value) (v1 : Option Value) (v2 : Option Value) (a1 : Nat) (st : List Value) (σ : ma_H) (hc : hk_cls a1 = 8), ma_rn ro d 138 (65, [v0, v1, v2], .ref a1 :: st, SH, σ) = ma_rn ro d 138 (68, [v0, v1, v2], .ref (91) :: st, SH, σ)) ∧
  (∀ (v0 : Option Value) (v1 : Option Value) (v2 : Option Value) (st : List Value) (σ : ma_H), ma_rn ro d 138 (68, [v0, v1, v2], st, SH, σ) = ma_rn ro d 138 (70, [v0, v1, v2], .int (nI 21) :: st, SH, σ)) ∧
  (∀ (v0 : Option Value) (v2 : Option Value) (x1 : Int32) (st : List Value) (σ : ma_H), ma_rn ro d 138 (70, [v0, some (.int x1), v2], st, SH, σ) = ma_rn ro d 138 (71, [v0, some (.int x1), v2], .int x1 :: st, SH, σ)) ∧
  (∀ (v0 : Option Value) (v1 : Option Value) (v2 : Option Value) (x1 : Int32) (x2 : Int32) (st : List Value) (σ : ma_H), ma_rn ro d 138 (71, [v0, v1, v2], .int x1 :: .int x2 :: st, SH, σ) = ma_rn ro d 138 (72, [v0, v1, v2], .int (x2 + x1) :: st, SH, σ)) ∧
  (∀ (v0 : Option Value) (v1 : Option Value) (v2 : Option Value) (k : Nat) (a2 : Nat) (st : List Value) (σ : ma_H) (hk : k < hk_len a2), ma_rn ro d 138 (72, [v0, v1, v2], .int (nI k) :: .ref a2 :: st, SH, σ) = ma_rn ro d 138 (73, [v0, v1, v2], .int (σ a2 k) :: st, SH, σ)) ∧
  (∀ (v0 : Option Value) (v1 : Option Value) (v2 : Option Value) (x1 : Int32) (x2 : Int32) (st : List Value) (σ : ma_H), ma_rn ro d 138 (73, [v0, v1, v2], .int x1 :: .int x2 :: st, SH, σ) = ma_rn ro d 138 (74, [v0, v1, v2], .int (x2 * x1) :: st, SH, σ)) ∧
  (∀ (v0 : Option Value) (v1 : Option Value) (v2 : Option Value) (x1 : Int32) (x2 : Int32) (st : List Value) (σ : ma_H), ma_rn ro d 138 (74, [v0, v1, v2], .int x1 :: .int x2 :: st, SH, σ) = ma_rn ro d 138 (75, [v0, v1, v2], .int (x2 + x1) :: st, SH, σ)) ∧
  (∀ (v0 : Option Value) (v1 : Option Value) (v2 : Option Value) (st : List Value) (σ : ma_H), ma_rn ro d 138 (75, [v0, v1, v2], st, SH, σ) = ma_rn ro d 138 (77, [v0, v1, v2], .int (nI 99) :: st, SH, σ)) ∧
  (∀ (v0 : Option Value) (v1 : Option Value) (v2 : Option Value) (x20 : Int32) (a21 : Nat) (x1 : Int32) (x2 : Int32) (σ : ma_H), ma_rn ro (d + 1) 138 (77, [v0, v1, v2], .int x2 :: .int x1 :: .int x20 :: .ref a21 :: [], SH, σ) = (ma_ev ro d 104 [.int x1, .int x2] SH σ).bind (fun q => ma_rn ro (d + 1) 138 (80, [v0, v1, v2], (q.1.toList ++ (.int x20 :: .ref a21 :: [])), q.2.1, q.2.2))) ∧
  (∀ (v0 : Option Value) (v1 : Option Value) (v2 : Option Value) (st : List Value) (σ : ma_H), ma_rn ro d 138 (80, [v0, v1, v2], st, SH, σ) = ma_rn ro d 138 (100, [v0, v1, v2], st, SH, σ)) ∧
  (∀ (v0 : Option Value) (v1 : Option Value) (v2 : Option Value) (st : List Value) (σ : ma_H), ma_rn ro d 138 (83, [v0, v1, v2], st, SH, σ) = ma_rn ro d 138 (85, [v0, v1, v2], .int (nI 25) :: st, SH, σ)) ∧
  (∀ (v1 : Option Value) (v2 : Option Value) (a1 : Nat) (st : List Value) (σ : ma_H), ma_rn ro d 138 (85, [some (.ref a1), v1, v2], st, SH, σ) = ma_rn ro d 138 (86, [some (.ref a1), v1, v2], .ref a1 :: st, SH, σ)) ∧
  (∀ (v0 : Option Value) (v1 : Option Value) (v2 : Option Value) (a1 : Nat) (st : List Value) (σ : ma_H) (hc : hk_cls a1 = 8), ma_rn ro d 138 (86, [v0, v1, v2], .ref a1 :: st, SH, σ) = ma_rn ro d 138 (89, [v0, v1, v2], .ref (91) :: st, SH, σ)) ∧
  (∀ (v0 : Option Value) (v1 : Option Value) (v2 : Option Value) (st : List Value) (σ : ma_H), ma_rn ro d 138 (89, [v0, v1, v2], st, SH, σ) = ma_rn ro d 138 (91, [v0, v1, v2], .int (nI 15) :: st, SH, σ)) ∧
  (∀ (v0 : Option Value) (v2 : Option Value) (x1 : Int32) (st : List Value) (σ : ma_H), ma_rn ro d 138 (91, [v0, some (.int x1), v2], st, SH, σ) = ma_rn ro d 138 (92, [v0, some (.int x1), v2], .int x1 :: st, SH, σ)) ∧
  (∀ (v0 : Option Value) (v1 : Option Value) (v2 : Option Value) (x1 : Int32) (x2 : Int32) (st : List Value) (σ : ma_H), ma_rn ro d 138 (92, [v0, v1, v2], .int x1 :: .int x2 :: st, SH, σ) = ma_rn ro d 138 (93, [v0, v1, v2], .int (x2 + x1) :: st, SH, σ)) ∧
  (∀ (v0 : Option Value) (v1 : Option Value) (v2 : Option Value) (k : Nat) (a2 : Nat) (st : List Value) (σ : ma_H) (hk : k < hk_len a2), ma_rn ro d 138 (93, [v0, v1, v2], .int (nI k) :: .ref a2 :: st, SH, σ) = ma_rn ro d 138 (94, [v0, v1, v2], .int (σ a2 k) :: st, SH, σ)) ∧
  (∀ (v0 : Option Value) (v1 : Option Value) (v2 : Option Value) (x1 : Int32) (x2 : Int32) (st : List Value) (σ : ma_H), ma_rn ro d 138 (94, [v0, v1, v2], .int x1 :: .int x2 :: st, SH, σ) = ma_rn ro d 138 (95, [v0, v1, v2], .int (x2 - x1) :: st, SH, σ)) ∧
  (∀ (v0 : Option Value) (v1 : Option Value) (v2 : Option Value) (st : List Value) (σ : ma_H), ma_rn ro d 138 (95, [v0, v1, v2], st, SH, σ) = ma_rn ro d 138 (97, [v0, v1, v2], .int (nI 99) :: st, SH, σ)) ∧
  (∀ (v0 : Option Value) (v1 : Option Value) (v2 : Option Value) (x20 : Int32) (a21 : Nat) (x1 : Int32) (x2 : Int32) (σ : ma_H), ma_rn ro (d + 1) 138 (97, [v0, v1, v2], .int x2 :: .int x1 :: .int x20 :: .ref a21 :: [], SH, σ) = (ma_ev ro d 104 [.int x1, .int x2] SH σ).bind (fun q => ma_rn ro (d + 1) 138 (100, [v0, v1, v2], (q.1.toList ++ (.int x20 :: .ref a21 :: [])), q.2.1, q.2.2))) ∧
  (∀ (v0 : Option Value) (v1 : Option Value) (v2 : Option Value) (x1 : Int32) (k : Nat) (a3 : Nat) (st : List Value) (σ : ma_H) (hk : k < hk_len a3), ma_rn ro d 138 (100, [v0, v1, v2], .int x1 :: .int (nI k) :: .ref a3 :: st, SH, σ) = ma_rn ro d 138 (101, [v0, v1, v2], st, SH, (ma_up σ a3 k x1))) ∧
  (∀ (v1 : Option Value) (v2 : Option Value) (a1 : Nat) (st : List Value) (σ : ma_H), ma_rn ro d 138 (101, [some (.ref a1), v1, v2], st, SH, σ) = ma_rn ro d 138 (102, [some (.ref a1), v1, v2], .ref a1 :: st, SH, σ)) ∧
  (∀ (v0 : Option Value) (v1 : Option Value) (v2 : Option Value) (a1 : Nat) (st : List Value) (σ : ma_H) (hc : hk_cls a1 = 8), ma_rn ro d 138 (102, [v0, v1, v2], .ref a1 :: st, SH, σ) = ma_rn ro d 138 (105, [v0, v1, v2], .ref (91) :: st, SH, σ)) ∧
  (∀ (v0 : Option Value) (v1 : Option Value) (v2 : Option Value) (st : List Value) (σ : ma_H), ma_rn ro d 138 (105, [v0, v1, v2], st, SH, σ) = ma_rn ro d 138 (107, [v0, v1, v2], .int (nI 21) :: st, SH, σ)) ∧
  (∀ (v0 : Option Value) (v2 : Option Value) (x1 : Int32) (st : List Value) (σ : ma_H), ma_rn ro d 138 (107, [v0, some (.int x1), v2], st, SH, σ) = ma_rn ro d 138 (108, [v0, some (.int x1), v2], .int x1 :: st, SH, σ)) ∧
  (∀ (v0 : Option Value) (v1 : Option Value) (v2 : Option Value) (x1 : Int32) (x2 : Int32) (st : List Value) (σ : ma_H), ma_rn ro d 138 (108, [v0, v1, v2], .int x1 :: .int x2 :: st, SH, σ) = ma_rn ro d 138 (109, [v0, v1, v2], .int (x2 + x1) :: st, SH, σ)) ∧
  (∀ (v0 : Option Value) (v1 : Option Value) (x1 : Int32) (st : List Value) (σ : ma_H), ma_rn ro d 138 (109, [v0, v1, some (.int x1)], st, SH, σ) = ma_rn ro d 138 (110, [v0, v1, some (.int x1)], .int x1 :: st, SH, σ)) ∧
  (∀ (v0 : Option Value) (v1 : Option Value) (v2 : Option Value) (x1 : Int32) (st : List Value) (σ : ma_H), ma_rn ro d 138 (110, [v0, v1, v2], .int x1 :: st, SH, σ) = if x1 = nI 0 then ma_rn ro d 138 (132, [v0, v1, v2], st, SH, σ) else ma_rn ro d 138 (113, [v0, v1, v2], st, SH, σ)) ∧
  (∀ (v1 : Option Value) (v2 : Option Value) (a1 : Nat) (st : List Value) (σ : ma_H), ma_rn ro d 138 (113, [some (.ref a1), v1, v2], st, SH, σ) = ma_rn ro d 138 (114, [some (.ref a1), v1, v2], .ref a1 :: st, SH, σ)) ∧
  (∀ (v0 : Option Value) (v1 : Option Value) (v2 : Option Value) (a1 : Nat) (st : List Value) (σ : ma_H) (hc : hk_cls a1 = 8), ma_rn ro d 138 (114, [v0, v1, v2], .ref a1 :: st, SH, σ) = ma_rn ro d 138 (117, [v0, v1, v2], .ref (91) :: st, SH, σ)) ∧
  (∀ (v0 : Option Value) (v1 : Option Value) (v2 : Option Value) (st : List Value) (σ : ma_H), ma_rn ro d 138 (117, [v0, v1, v2], st, SH, σ) = ma_rn ro d 138 (119, [v0, v1, v2], .int (nI 21) :: st, SH, σ)) ∧
  (∀ (v0 : Option Value) (v2 : Option Value) (x1 : Int32) (st : List Value) (σ : ma_H), ma_rn ro d 138 (119, [v0, some (.int x1), v2], st, SH, σ) = ma_rn ro d 138 (120, [v0, some (.int x1), v2], .int x1 :: st, SH, σ)) ∧
  (∀ (v0 : Option Value) (v1 : Option Value) (v2 : Option Value) (x1 : Int32) (x2 : Int32) (st : List Value) (σ : ma_H), ma_rn ro d 138 (120, [v0, v1, v2], .int x1 :: .int x2 :: st, SH, σ) = ma_rn ro d 138 (121, [v0, v1, v2], .int (x2 + x1) :: st, SH, σ)) ∧
  (∀ (v0 : Option Value) (v1 : Option Value) (v2 : Option Value) (k : Nat) (a2 : Nat) (st : List Value) (σ : ma_H) (hk : k < hk_len a2), ma_rn ro d 138 (121, [v0, v1, v2], .int (nI k) :: .ref a2 :: st, SH, σ) = ma_rn ro d 138 (122, [v0, v1, v2], .int (σ a2 k) :: st, SH, σ)) ∧
  (∀ (v0 : Option Value) (v1 : Option Value) (v2 : Option Value) (st : List Value) (σ : ma_H), ma_rn ro d 138 (122, [v0, v1, v2], st, SH, σ) = ma_rn ro d 138 (123, [v0, v1, v2], .int (nI 1) :: st, SH, σ)) ∧
  (∀ (v0 : Option Value) (v1 : Option Value) (v2 : Option Value) (x1 : Int32) (x2 : Int32) (st : List Value) (σ : ma_H), ma_rn ro d 138 (123, [v0, v1, v2], .int x1 :: .int x2 :: st, SH, σ) = ma_rn ro d 138 (124, [v0, v1, v2], .int (x2 - x1) :: st, SH, σ)) ∧
  (∀ (v0 : Option Value) (v1 : Option Value) (v2 : Option Value) (st : List Value) (σ : ma_H), ma_rn ro d 138 (124, [v0, v1, v2], st, SH, σ) = ma_rn ro d 138 (126, [v0, v1, v2], .int (nI 9) :: st, SH, σ)) ∧
  (∀ (v0 : Option Value) (v1 : Option Value) (v2 : Option Value) (x20 : Int32) (a21 : Nat) (x1 : Int32) (x2 : Int32) (σ : ma_H), ma_rn ro (d + 1) 138 (126, [v0, v1, v2], .int x2 :: .int x1 :: .int x20 :: .ref a21 :: [], SH, σ) = (ma_ev ro d 104 [.int x1, .int x2] SH σ).bind (fun q => ma_rn ro (d + 1) 138 (129, [v0, v1, v2], (q.1.toList ++ (.int x20 :: .ref a21 :: [])), q.2.1, q.2.2))) ∧
  (∀ (v0 : Option Value) (v1 : Option Value) (v2 : Option Value) (st : List Value) (σ : ma_H), ma_rn ro d 138 (129, [v0, v1, v2], st, SH, σ) = ma_rn ro d 138 (141, [v0, v1, v2], st, SH, σ)) ∧
  (∀ (v1 : Option Value) (v2 : Option Value) (a1 : Nat) (st : List Value) (σ : ma_H), ma_rn ro d 138 (132, [some (.ref a1), v1, v2], st, SH, σ) = ma_rn ro d 138 (133, [some (.ref a1), v1, v2], .ref a1 :: st, SH, σ)) ∧
  (∀ (v0 : Option Value) (v1 : Option Value) (v2 : Option Value) (a1 : Nat) (st : List Value) (σ : ma_H) (hc : hk_cls a1 = 8), ma_rn ro d 138 (133, [v0, v1, v2], .ref a1 :: st, SH, σ) = ma_rn ro d 138 (136, [v0, v1, v2], .ref (91) :: st, SH, σ)) ∧
  (∀ (v0 : Option Value) (v1 : Option Value) (v2 : Option Value) (st : List Value) (σ : ma_H), ma_rn ro d 138 (136, [v0, v1, v2], st, SH, σ) = ma_rn ro d 138 (138, [v0, v1, v2], .int (nI 21) :: st, SH, σ)) ∧
  (∀ (v0 : Option Value) (v2 : Option Value) (x1 : Int32) (st : List Value) (σ : ma_H), ma_rn ro d 138 (138, [v0, some (.int x1), v2], st, SH, σ) = ma_rn ro d 138 (139, [v0, some (.int x1), v2], .int x1 :: st, SH, σ)) ∧
  (∀ (v0 : Option Value) (v1 : Option Value) (v2 : Option Value) (x1 : Int32) (x2 : Int32) (st : List Value) (σ : ma_H), ma_rn ro d 138 (139, [v0, v1, v2], .int x1 :: .int x2 :: st, SH, σ) = ma_rn ro d 138 (140, [v0, v1, v2], .int (x2 + x1) :: st, SH, σ)) ∧
  (∀ (v0 : Option Value) (v1 : Option Value) (v2 : Option Value) (k : Nat) (a2 : Nat) (st : List Value) (σ : ma_H) (hk : k < hk_len a2), ma_rn ro d 138 (140, [v0, v1, v2], .int (nI k) :: .ref a2 :: st, SH, σ) = ma_rn ro d 138 (141, [v0, v1, v2], .int (σ a2 k) :: st, SH, σ)) ∧
  (∀ (v0 : Option Value) (v1 : Option Value) (v2 : Option Value) (x1 : Int32) (k : Nat) (a3 : Nat) (st : List Value) (σ : ma_H) (hk : k < hk_len a3), ma_rn ro d 138 (141, [v0, v1, v2], .int x1 :: .int (nI k) :: .ref a3 :: st, SH, σ) = ma_rn ro d 138 (142, [v0, v1, v2], st, SH, (ma_up σ a3 k x1))) ∧
  (∀ (v1 : Option Value) (v2 : Option Value) (a1 : Nat) (st : List Value) (σ : ma_H), ma_rn ro d 138 (142, [some (.ref a1), v1, v2], st, SH, σ) = ma_rn ro d 138 (143, [some (.ref a1), v1, v2], .ref a1 :: st, SH, σ)) ∧
  (∀ (v0 : Option Value) (v1 : Option Value) (v2 : Option Value) (a1 : Nat) (st : List Value) (σ : ma_H) (hc : hk_cls a1 = 8), ma_rn ro d 138 (143, [v0, v1, v2], .ref a1 :: st, SH, σ) = ma_rn ro d 138 (146, [v0, v1, v2], .ref (91) :: st, SH, σ)) ∧
  (∀ (v0 : Option Value) (v1 : Option Value) (v2 : Option Value) (st : List Value) (σ : ma_H), ma_rn ro d 138 (146, [v0, v1, v2], st, SH, σ) = ma_rn ro d 138 (148, [v0, v1, v2], .int (nI 15) :: st, SH, σ)) ∧
  (∀ (v0 : Option Value) (v2 : Option Value) (x1 : Int32) (st : List Value) (σ : ma_H), ma_rn ro d 138 (148, [v0, some (.int x1), v2], st, SH, σ) = ma_rn ro d 138 (149, [v0, some (.int x1), v2], .int x1 :: st, SH, σ)) ∧
  (∀ (v0 : Option Value) (v1 : Option Value) (v2 : Option Value) (x1 : Int32) (x2 : Int32) (st : List Value) (σ : ma_H), ma_rn ro d 138 (149, [v0, v1, v2], .int x1 :: .int x2 :: st, SH, σ) = ma_rn ro d 138 (150, [v0, v1, v2], .int (x2 + x1) :: st, SH, σ)) ∧
  (∀ (v1 : Option Value) (v2 : Option Value) (a1 : Nat) (st : List Value) (σ : ma_H), ma_rn ro d 138 (150, [some (.ref a1), v1, v2], st, SH, σ) = ma_rn ro d 138 (151, [some (.ref a1), v1, v2], .ref a1 :: st, SH, σ)) ∧
  (∀ (v0 : Option Value) (v1 : Option Value) (v2 : Option Value) (a1 : Nat) (st : List Value) (σ : ma_H) (hc : hk_cls a1 = 8), ma_rn ro d 138 (151, [v0, v1, v2], .ref a1 :: st, SH, σ) = ma_rn ro d 138 (154, [v0, v1, v2], .ref (91) :: st, SH, σ)) ∧
  (∀ (v0 : Option Value) (v1 : Option Value) (v2 : Option Value) (st : List Value) (σ : ma_H), ma_rn ro d 138 (154, [v0, v1, v2], st, SH, σ) = ma_rn ro d 138 (156, [v0, v1, v2], .int (nI 15) :: st, SH, σ)) ∧
  (∀ (v0 : Option Value) (v2 : Option Value) (x1 : Int32) (st : List Value) (σ : ma_H), ma_rn ro d 138 (156, [v0, some (.int x1), v2], st, SH, σ) = ma_rn ro d 138 (157, [v0, some (.int x1), v2], .int x1 :: st, SH, σ)) ∧
  (∀ (v0 : Option Value) (v1 : Option Value) (v2 : Option Value) (x1 : Int32) (x2 : Int32) (st : List Value) (σ : ma_H), ma_rn ro d 138 (157, [v0, v1, v2], .int x1 :: .int x2 :: st, SH, σ) = ma_rn ro d 138 (158, [v0, v1, v2], .int (x2 + x1) :: st, SH, σ)) ∧
  (∀ (v0 : Option Value) (v1 : Option Value) (v2 : Option Value) (k : Nat) (a2 : Nat) (st : List Value) (σ : ma_H) (hk : k < hk_len a2), ma_rn ro d 138 (158, [v0, v1, v2], .int (nI k) :: .ref a2 :: st, SH, σ) = ma_rn ro d 138 (159, [v0, v1, v2], .int (σ a2 k) :: st, SH, σ)) ∧
  (∀ (v0 : Option Value) (v1 : Option Value) (v2 : Option Value) (st : List Value) (σ : ma_H), ma_rn ro d 138 (159, [v0, v1, v2], st, SH, σ) = ma_rn ro d 138 (160, [v0, v1, v2], .int (nI 1) :: st, SH, σ)) ∧
  (∀ (v0 : Option Value) (v1 : Option Value) (v2 : Option Value) (x1 : Int32) (x2 : Int32) (st : List Value) (σ : ma_H), ma_rn ro d 138 (160, [v0, v1, v2], .int x1 :: .int x2 :: st, SH, σ) = ma_rn ro d 138 (161, [v0, v1, v2], .int (x2 + x1) :: st, SH, σ)) ∧
  (∀ (v0 : Option Value) (v1 : Option Value) (v2 : Option Value) (st : List Value) (σ : ma_H), ma_rn ro d 138 (161, [v0, v1, v2], st, SH, σ) = ma_rn ro d 138 (163, [v0, v1, v2], .int (nI 99) :: st, SH, σ)) ∧
  (∀ (v0 : Option Value) (v1 : Option Value) (v2 : Option Value) (x20 : Int32) (a21 : Nat) (x1 : Int32) (x2 : Int32) (σ : ma_H), ma_rn ro (d + 1) 138 (163, [v0, v1, v2], .int x2 :: .int x1 :: .int x20 :: .ref a21 :: [], SH, σ) = (ma_ev ro d 104 [.int x1, .int x2] SH σ).bind (fun q => ma_rn ro (d + 1) 138 (166, [v0, v1, v2], (q.1.toList ++ (.int x20 :: .ref a21 :: [])), q.2.1, q.2.2))) ∧
  (∀ (v0 : Option Value) (v1 : Option Value) (v2 : Option Value) (x1 : Int32) (k : Nat) (a3 : Nat) (st : List Value) (σ : ma_H) (hk : k < hk_len a3), ma_rn ro d 138 (166, [v0, v1, v2], .int x1 :: .int (nI k) :: .ref a3 :: st, SH, σ) = ma_rn ro d 138 (167, [v0, v1, v2], st, SH, (ma_up σ a3 k x1))) ∧
  (∀ (v1 : Option Value) (v2 : Option Value) (a1 : Nat) (st : List Value) (σ : ma_H), ma_rn ro d 138 (167, [some (.ref a1), v1, v2], st, SH, σ) = ma_rn ro d 138 (168, [some (.ref a1), v1, v2], .ref a1 :: st, SH, σ)) ∧
  (∀ (v0 : Option Value) (v1 : Option Value) (v2 : Option Value) (a1 : Nat) (st : List Value) (σ : ma_H) (hc : hk_cls a1 = 8), ma_rn ro d 138 (168, [v0, v1, v2], .ref a1 :: st, SH, σ) = ma_rn ro d 138 (171, [v0, v1, v2], .ref (91) :: st, SH, σ)) ∧
  (∀ (v0 : Option Value) (v1 : Option Value) (v2 : Option Value) (st : List Value) (σ : ma_H), ma_rn ro d 138 (171, [v0, v1, v2], st, SH, σ) = ma_rn ro d 138 (173, [v0, v1, v2], .int (nI 27) :: st, SH, σ)) ∧
  (∀ (v0 : Option Value) (v2 : Option Value) (x1 : Int32) (st : List Value) (σ : ma_H), ma_rn ro d 138 (173, [v0, some (.int x1), v2], st, SH, σ) = ma_rn ro d 138 (174, [v0, some (.int x1), v2], .int x1 :: st, SH, σ)) ∧
  (∀ (v0 : Option Value) (v1 : Option Value) (v2 : Option Value) (x1 : Int32) (x2 : Int32) (st : List Value) (σ : ma_H), ma_rn ro d 138 (174, [v0, v1, v2], .int x1 :: .int x2 :: st, SH, σ) = ma_rn ro d 138 (175, [v0, v1, v2], .int (x2 + x1) :: st, SH, σ)) ∧
  (∀ (v0 : Option Value) (v1 : Option Value) (v2 : Option Value) (st : List Value) (σ : ma_H), ma_rn ro d 138 (175, [v0, v1, v2], st, SH, σ) = ma_rn ro d 138 (176, [v0, v1, v2], .int (nI 0) :: st, SH, σ)) ∧
  (∀ (v0 : Option Value) (v1 : Option Value) (v2 : Option Value) (x1 : Int32) (k : Nat) (a3 : Nat) (st : List Value) (σ : ma_H) (hk : k < hk_len a3), ma_rn ro d 138 (176, [v0, v1, v2], .int x1 :: .int (nI k) :: .ref a3 :: st, SH, σ) = ma_rn ro d 138 (177, [v0, v1, v2], st, SH, (ma_up σ a3 k x1))) ∧
  (∀ (v0 : Option Value) (v1 : Option Value) (v2 : Option Value) (σ : ma_H), ma_rn ro d 138 (177, [v0, v1, v2], [], SH, σ) = some (none, SH, σ)) := ⟨fun v1 v2 a1 st σ => q_go e138_0 rfl rfl,
  fun v0 v2 x1 st σ => q_go e138_1 rfl rfl,
  fun v0 v1 v2 x1 a0 σ hc => q_invV (as := [.int x1]) (rest := []) e138_2 o_138 bn_8_134 c_8_134 m_124 (by decide) rfl rfl (Nat.le_of_ble_eq_true rfl) (Nat.le_of_ble_eq_true rfl) hc,
  fun v1 v2 a1 st σ => q_go e138_5 rfl rfl,
  fun v0 v1 v2 a1 st σ hc => q_getA e138_6 o_138 f_8_9 (by decide) hc,
  fun v0 v1 v2 st σ => q_iconst e138_9 (by decide),
  fun v0 v1 v2 k a2 st σ hk => q_iald e138_10 hk,
  fun v0 v1 v2 x1 x2 st σ => (q_cmp e138_11 rfl).trans q_lt,
  fun v0 v1 v2 st σ => q_iconst e138_14 (by decide),
  fun v0 v1 v2 st σ => q_goto e138_15 rfl,
  fun v0 v1 v2 st σ => q_iconst e138_18 (by decide),
  fun v0 v2 x9 x1 st σ => q_go e138_19 rfl rfl,
  fun v1 v2 a1 st σ => q_go e138_20 rfl rfl,
  fun v0 v1 v2 a1 st σ hc => q_getA e138_21 o_138 f_8_9 (by decide) hc,
  fun v0 v1 v2 st σ => q_iconst e138_24 (by decide),
  fun v0 v2 x1 st σ => q_go e138_25 rfl rfl,
  fun v0 v1 v2 x1 x2 st σ => q_go e138_26 rfl rfl,
  fun v0 v1 x1 st σ => q_go e138_27 rfl rfl,
  fun v0 v1 v2 x1 st σ => (q_if e138_28 rfl).trans q_eq,
  fun v0 v1 v2 st σ => q_iconst e138_31 (by decide),
  fun v0 v1 v2 st σ => q_goto e138_32 rfl,
  fun v0 v1 v2 st σ => q_iconst e138_35 (by decide),
  fun v0 v1 v2 x1 k a3 st σ hk => q_iast e138_36 hk,
  fun v1 v2 a1 st σ => q_go e138_37 rfl rfl,
  fun v0 v1 v2 a1 st σ hc => q_getA e138_38 o_138 f_8_9 (by decide) hc,
  fun v0 v1 v2 st σ => q_bipush e138_41 (by decide),
  fun v0 v2 x1 st σ => q_go e138_43 rfl rfl,
  fun v0 v1 v2 x1 x2 st σ => q_go e138_44 rfl rfl,
  fun v0 v1 x1 st σ => q_go e138_45 rfl rfl,
  fun v0 v1 v2 x1 st σ => (q_if e138_46 rfl).trans q_eq,
  fun v0 v1 v2 st σ => q_bipush e138_49 (by decide),
  fun v0 v1 v2 st σ => q_iconst e138_51 (by decide),
  fun v1 v2 a1 st σ => q_go e138_52 rfl rfl,
  fun v0 v1 v2 a1 st σ hc => q_getA e138_53 o_138 f_8_9 (by decide) hc,
  fun v0 v1 v2 st σ => q_bipush e138_56 (by decide),
  fun v0 v2 x1 st σ => q_go e138_58 rfl rfl,
  fun v0 v1 v2 x1 x2 st σ => q_go e138_59 rfl rfl,
  fun v0 v1 v2 k a2 st σ hk => q_iald e138_60 hk,
  fun v0 v1 v2 x1 x2 st σ => q_go e138_61 rfl rfl,
  fun v0 v1 v2 x1 x2 st σ => q_go e138_62 rfl rfl,
  fun v0 v1 v2 st σ => q_iconst e138_63 (by decide),
  fun v1 v2 a1 st σ => q_go e138_64 rfl rfl,
  fun v0 v1 v2 a1 st σ hc => q_getA e138_65 o_138 f_8_9 (by decide) hc,
  fun v0 v1 v2 st σ => q_bipush e138_68 (by decide),
  fun v0 v2 x1 st σ => q_go e138_70 rfl rfl,
  fun v0 v1 v2 x1 x2 st σ => q_go e138_71 rfl rfl,
  fun v0 v1 v2 k a2 st σ hk => q_iald e138_72 hk,
  fun v0 v1 v2 x1 x2 st σ => q_go e138_73 rfl rfl,
  fun v0 v1 v2 x1 x2 st σ => q_go e138_74 rfl rfl,
  fun v0 v1 v2 st σ => q_bipush e138_75 (by decide),
  fun v0 v1 v2 x20 a21 x1 x2 σ => q_invS (as := [.int x1, .int x2]) (rest := .int x20 :: .ref a21 :: []) e138_77 o_138 bn_8_143 c_8_143 ⟨m_104.1, m_104.2.1, m_104.2.2.1⟩ rfl rfl (Nat.le_of_ble_eq_true rfl) (Nat.le_of_ble_eq_true rfl),
  fun v0 v1 v2 st σ => q_goto e138_80 rfl,
  fun v0 v1 v2 st σ => q_bipush e138_83 (by decide),
  fun v1 v2 a1 st σ => q_go e138_85 rfl rfl,
  fun v0 v1 v2 a1 st σ hc => q_getA e138_86 o_138 f_8_9 (by decide) hc,
  fun v0 v1 v2 st σ => q_bipush e138_89 (by decide),
  fun v0 v2 x1 st σ => q_go e138_91 rfl rfl,
  fun v0 v1 v2 x1 x2 st σ => q_go e138_92 rfl rfl,
  fun v0 v1 v2 k a2 st σ hk => q_iald e138_93 hk,
  fun v0 v1 v2 x1 x2 st σ => q_go e138_94 rfl rfl,
  fun v0 v1 v2 st σ => q_bipush e138_95 (by decide),
  fun v0 v1 v2 x20 a21 x1 x2 σ => q_invS (as := [.int x1, .int x2]) (rest := .int x20 :: .ref a21 :: []) e138_97 o_138 bn_8_143 c_8_143 ⟨m_104.1, m_104.2.1, m_104.2.2.1⟩ rfl rfl (Nat.le_of_ble_eq_true rfl) (Nat.le_of_ble_eq_true rfl),
  fun v0 v1 v2 x1 k a3 st σ hk => q_iast e138_100 hk,
  fun v1 v2 a1 st σ => q_go e138_101 rfl rfl,
  fun v0 v1 v2 a1 st σ hc => q_getA e138_102 o_138 f_8_9 (by decide) hc,
  fun v0 v1 v2 st σ => q_bipush e138_105 (by decide),
  fun v0 v2 x1 st σ => q_go e138_107 rfl rfl,
  fun v0 v1 v2 x1 x2 st σ => q_go e138_108 rfl rfl,
  fun v0 v1 x1 st σ => q_go e138_109 rfl rfl,
  fun v0 v1 v2 x1 st σ => (q_if e138_110 rfl).trans q_eq,
  fun v1 v2 a1 st σ => q_go e138_113 rfl rfl,
  fun v0 v1 v2 a1 st σ hc => q_getA e138_114 o_138 f_8_9 (by decide) hc,
  fun v0 v1 v2 st σ => q_bipush e138_117 (by decide),
  fun v0 v2 x1 st σ => q_go e138_119 rfl rfl,
  fun v0 v1 v2 x1 x2 st σ => q_go e138_120 rfl rfl,
  fun v0 v1 v2 k a2 st σ hk => q_iald e138_121 hk,
  fun v0 v1 v2 st σ => q_iconst e138_122 (by decide),
  fun v0 v1 v2 x1 x2 st σ => q_go e138_123 rfl rfl,
  fun v0 v1 v2 st σ => q_bipush e138_124 (by decide),
  fun v0 v1 v2 x20 a21 x1 x2 σ => q_invS (as := [.int x1, .int x2]) (rest := .int x20 :: .ref a21 :: []) e138_126 o_138 bn_8_143 c_8_143 ⟨m_104.1, m_104.2.1, m_104.2.2.1⟩ rfl rfl (Nat.le_of_ble_eq_true rfl) (Nat.le_of_ble_eq_true rfl),
  fun v0 v1 v2 st σ => q_goto e138_129 rfl,
  fun v1 v2 a1 st σ => q_go e138_132 rfl rfl,
  fun v0 v1 v2 a1 st σ hc => q_getA e138_133 o_138 f_8_9 (by decide) hc,
  fun v0 v1 v2 st σ => q_bipush e138_136 (by decide),
  fun v0 v2 x1 st σ => q_go e138_138 rfl rfl,
  fun v0 v1 v2 x1 x2 st σ => q_go e138_139 rfl rfl,
  fun v0 v1 v2 k a2 st σ hk => q_iald e138_140 hk,
  fun v0 v1 v2 x1 k a3 st σ hk => q_iast e138_141 hk,
  fun v1 v2 a1 st σ => q_go e138_142 rfl rfl,
  fun v0 v1 v2 a1 st σ hc => q_getA e138_143 o_138 f_8_9 (by decide) hc,
  fun v0 v1 v2 st σ => q_bipush e138_146 (by decide),
  fun v0 v2 x1 st σ => q_go e138_148 rfl rfl,
  fun v0 v1 v2 x1 x2 st σ => q_go e138_149 rfl rfl,
  fun v1 v2 a1 st σ => q_go e138_150 rfl rfl,
  fun v0 v1 v2 a1 st σ hc => q_getA e138_151 o_138 f_8_9 (by decide) hc,
  fun v0 v1 v2 st σ => q_bipush e138_154 (by decide),
  fun v0 v2 x1 st σ => q_go e138_156 rfl rfl,
  fun v0 v1 v2 x1 x2 st σ => q_go e138_157 rfl rfl,
  fun v0 v1 v2 k a2 st σ hk => q_iald e138_158 hk,
  fun v0 v1 v2 st σ => q_iconst e138_159 (by decide),
  fun v0 v1 v2 x1 x2 st σ => q_go e138_160 rfl rfl,
  fun v0 v1 v2 st σ => q_bipush e138_161 (by decide),
  fun v0 v1 v2 x20 a21 x1 x2 σ => q_invS (as := [.int x1, .int x2]) (rest := .int x20 :: .ref a21 :: []) e138_163 o_138 bn_8_143 c_8_143 ⟨m_104.1, m_104.2.1, m_104.2.2.1⟩ rfl rfl (Nat.le_of_ble_eq_true rfl) (Nat.le_of_ble_eq_true rfl),
  fun v0 v1 v2 x1 k a3 st σ hk => q_iast e138_166 hk,
  fun v1 v2 a1 st σ => q_go e138_167 rfl rfl,
  fun v0 v1 v2 a1 st σ hc => q_getA e138_168 o_138 f_8_9 (by decide) hc,
  fun v0 v1 v2 st σ => q_bipush e138_171 (by decide),
  fun v0 v2 x1 st σ => q_go e138_173 rfl rfl,
  fun v0 v1 v2 x1 x2 st σ => q_go e138_174 rfl rfl,
  fun v0 v1 v2 st σ => q_iconst e138_175 (by decide),
  fun v0 v1 v2 x1 k a3 st σ hk => q_iast e138_176 hk,
  fun v0 v1 v2 σ => q_vret e138_177 r_138⟩
theorem E138 {ro : ma_RO} {d : Nat} (a0 : Nat) (x1 : Int32) (sh : List ma_Sh) (σ : ma_H) : ma_ev ro d 138 [.ref a0, .int x1] sh σ = ma_rn ro d 138 (0, [some (.ref a0), some (.int x1), none], [], sh, σ) := q_ent x_138 rfl
theorem e139_0 : decode (ma_cd 139) 0 = .ok (.iconst 0, 1) := (congrArg (fun b => decode b 0) cd_139).trans dX8_goes_0
theorem e139_1 : decode (ma_cd 139) 1 = .ok (.istore_n 1, 1) := (congrArg (fun b => decode b 1) cd_139).trans dX8_goes_1
theorem e139_2 : decode (ma_cd 139) 2 = .ok (.iload_n 1, 1) := (congrArg (fun b => decode b 2) cd_139).trans dX8_goes_2
theorem e139_3 : decode (ma_cd 139) 3 = .ok (.aload_n 0, 1) := (congrArg (fun b => decode b 3) cd_139).trans dX8_goes_3
theorem e139_4 : decode (ma_cd 139) 4 = .ok (.getfield 9, 3) := (congrArg (fun b => decode b 4) cd_139).trans dX8_goes_4
theorem e139_7 : decode (ma_cd 139) 7 = .ok (.bipush 33, 2) := (congrArg (fun b => decode b 7) cd_139).trans dX8_goes_7
theorem e139_9 : decode (ma_cd 139) 9 = .ok (.iaload, 1) := (congrArg (fun b => decode b 9) cd_139).trans dX8_goes_9
theorem e139_10 : decode (ma_cd 139) 10 = .ok (.if_icmp .ge 43, 3) := (congrArg (fun b => decode b 10) cd_139).trans dX8_goes_10
theorem e139_13 : decode (ma_cd 139) 13 = .ok (.aload_n 0, 1) := (congrArg (fun b => decode b 13) cd_139).trans dX8_goes_13
theorem e139_14 : decode (ma_cd 139) 14 = .ok (.iload_n 1, 1) := (congrArg (fun b => decode b 14) cd_139).trans dX8_goes_14
theorem e139_15 : decode (ma_cd 139) 15 = .ok (.invokevirtual 152, 3) := (congrArg (fun b => decode b 15) cd_139).trans dX8_goes_15
theorem e139_18 : decode (ma_cd 139) 18 = .ok (.aload_n 0, 1) := (congrArg (fun b => decode b 18) cd_139).trans dX8_goes_18
theorem e139_19 : decode (ma_cd 139) 19 = .ok (.getfield 9, 3) := (congrArg (fun b => decode b 19) cd_139).trans dX8_goes_19
theorem e139_22 : decode (ma_cd 139) 22 = .ok (.iconst 2, 1) := (congrArg (fun b => decode b 22) cd_139).trans dX8_goes_22
theorem e139_23 : decode (ma_cd 139) 23 = .ok (.dup2, 1) := (congrArg (fun b => decode b 23) cd_139).trans dX8_goes_23
theorem e139_24 : decode (ma_cd 139) 24 = .ok (.iaload, 1) := (congrArg (fun b => decode b 24) cd_139).trans dX8_goes_24
theorem e139_25 : decode (ma_cd 139) 25 = .ok (.aload_n 0, 1) := (congrArg (fun b => decode b 25) cd_139).trans dX8_goes_25
theorem e139_26 : decode (ma_cd 139) 26 = .ok (.getfield 9, 3) := (congrArg (fun b => decode b 26) cd_139).trans dX8_goes_26
theorem e139_29 : decode (ma_cd 139) 29 = .ok (.iconst 3, 1) := (congrArg (fun b => decode b 29) cd_139).trans dX8_goes_29
theorem e139_30 : decode (ma_cd 139) 30 = .ok (.iload_n 1, 1) := (congrArg (fun b => decode b 30) cd_139).trans dX8_goes_30
theorem e139_31 : decode (ma_cd 139) 31 = .ok (.iadd, 1) := (congrArg (fun b => decode b 31) cd_139).trans dX8_goes_31
theorem e139_32 : decode (ma_cd 139) 32 = .ok (.iaload, 1) := (congrArg (fun b => decode b 32) cd_139).trans dX8_goes_32
theorem e139_33 : decode (ma_cd 139) 33 = .ok (.aload_n 0, 1) := (congrArg (fun b => decode b 33) cd_139).trans dX8_goes_33
theorem e139_34 : decode (ma_cd 139) 34 = .ok (.getfield 9, 3) := (congrArg (fun b => decode b 34) cd_139).trans dX8_goes_34
theorem e139_37 : decode (ma_cd 139) 37 = .ok (.bipush 46, 2) := (congrArg (fun b => decode b 37) cd_139).trans dX8_goes_37
theorem e139_39 : decode (ma_cd 139) 39 = .ok (.iload_n 1, 1) := (congrArg (fun b => decode b 39) cd_139).trans dX8_goes_39
theorem e139_40 : decode (ma_cd 139) 40 = .ok (.iadd, 1) := (congrArg (fun b => decode b 40) cd_139).trans dX8_goes_40
theorem e139_41 : decode (ma_cd 139) 41 = .ok (.iaload, 1) := (congrArg (fun b => decode b 41) cd_139).trans dX8_goes_41
theorem e139_42 : decode (ma_cd 139) 42 = .ok (.iconst 1, 1) := (congrArg (fun b => decode b 42) cd_139).trans dX8_goes_42
theorem e139_43 : decode (ma_cd 139) 43 = .ok (.iadd, 1) := (congrArg (fun b => decode b 43) cd_139).trans dX8_goes_43
theorem e139_44 : decode (ma_cd 139) 44 = .ok (.imul, 1) := (congrArg (fun b => decode b 44) cd_139).trans dX8_goes_44
theorem e139_45 : decode (ma_cd 139) 45 = .ok (.iadd, 1) := (congrArg (fun b => decode b 45) cd_139).trans dX8_goes_45
theorem e139_46 : decode (ma_cd 139) 46 = .ok (.iastore, 1) := (congrArg (fun b => decode b 46) cd_139).trans dX8_goes_46
theorem e139_47 : decode (ma_cd 139) 47 = .ok (.iinc 1 1, 3) := (congrArg (fun b => decode b 47) cd_139).trans dX8_goes_47
theorem e139_50 : decode (ma_cd 139) 50 = .ok (.goto (-48), 3) := (congrArg (fun b => decode b 50) cd_139).trans dX8_goes_50
theorem e139_53 : decode (ma_cd 139) 53 = .ok (.aload_n 0, 1) := (congrArg (fun b => decode b 53) cd_139).trans dX8_goes_53
theorem e139_54 : decode (ma_cd 139) 54 = .ok (.getfield 9, 3) := (congrArg (fun b => decode b 54) cd_139).trans dX8_goes_54
theorem e139_57 : decode (ma_cd 139) 57 = .ok (.iconst 0, 1) := (congrArg (fun b => decode b 57) cd_139).trans dX8_goes_57
theorem e139_58 : decode (ma_cd 139) 58 = .ok (.dup2, 1) := (congrArg (fun b => decode b 58) cd_139).trans dX8_goes_58
theorem e139_59 : decode (ma_cd 139) 59 = .ok (.iaload, 1) := (congrArg (fun b => decode b 59) cd_139).trans dX8_goes_59
theorem e139_60 : decode (ma_cd 139) 60 = .ok (.iconst 1, 1) := (congrArg (fun b => decode b 60) cd_139).trans dX8_goes_60
theorem e139_61 : decode (ma_cd 139) 61 = .ok (.iadd, 1) := (congrArg (fun b => decode b 61) cd_139).trans dX8_goes_61
theorem e139_62 : decode (ma_cd 139) 62 = .ok (.iastore, 1) := (congrArg (fun b => decode b 62) cd_139).trans dX8_goes_62
theorem e139_63 : decode (ma_cd 139) 63 = .ok (.return_, 1) := (congrArg (fun b => decode b 63) cd_139).trans dX8_goes_63
theorem Sh139_2 {ro : ma_RO} {d : Nat} : (∀ (v0 : Option Value) (x1 : Int32) (st : List Value) (σ : ma_H), ma_rn ro d 139 (2, [v0, some (.int x1)], st, SH, σ) = ma_rn ro d 139 (3, [v0, some (.int x1)], .int x1 :: st, SH, σ)) := fun v0 x1 st σ => q_go e139_2 rfl rfl
theorem S139 {ro : ma_RO} {d : Nat} : (∀ (v0 : Option Value) (v1 : Option Value) (st : List Value) (σ : ma_H), ma_rn ro d 139 (0, [v0, v1], st, SH, σ) = ma_rn ro d 139 (1, [v0, v1], .int (nI 0) :: st, SH, σ)) ∧
  (∀ (v1 : Option Value) (a9 : Nat) (x1 : Int32) (st : List Value) (σ : ma_H), ma_rn ro d 139 (1, [some (.ref a9), v1], .int x1 :: st, SH, σ) = ma_rn ro d 139 (2, [some (.ref a9), some (.int x1)], st, SH, σ)) ∧
  (∀ (v1 : Option Value) (a1 : Nat) (st : List Value) (σ : ma_H), ma_rn ro d 139 (3, [some (.ref a1), v1], st, SH, σ) = ma_rn ro d 139 (4, [some (.ref a1), v1], .ref a1 :: st, SH, σ)) ∧
  (∀ (v0 : Option Value) (v1 : Option Value) (a1 : Nat) (st : List Value) (σ : ma_H) (hc : hk_cls a1 = 8), ma_rn ro d 139 (4, [v0, v1], .ref a1 :: st, SH, σ) = ma_rn ro d 139 (7, [v0, v1], .ref (91) :: st, SH, σ)) ∧
  (∀ (v0 : Option Value) (v1 : Option Value) (st : List Value) (σ : ma_H), ma_rn ro d 139 (7, [v0, v1], st, SH, σ) = ma_rn ro d 139 (9, [v0, v1], .int (nI 33) :: st, SH, σ)) ∧
  (∀ (v0 : Option Value) (v1 : Option Value) (k : Nat) (a2 : Nat) (st : List Value) (σ : ma_H) (hk : k < hk_len a2), ma_rn ro d 139 (9, [v0, v1], .int (nI k) :: .ref a2 :: st, SH, σ) = ma_rn ro d 139 (10, [v0, v1], .int (σ a2 k) :: st, SH, σ)) ∧
  (∀ (v0 : Option Value) (v1 : Option Value) (x1 : Int32) (x2 : Int32) (st : List Value) (σ : ma_H), ma_rn ro d 139 (10, [v0, v1], .int x1 :: .int x2 :: st, SH, σ) = if x2 < x1 then ma_rn ro d 139 (13, [v0, v1], st, SH, σ) else ma_rn ro d 139 (53, [v0, v1], st, SH, σ)) ∧
  (∀ (v1 : Option Value) (a1 : Nat) (st : List Value) (σ : ma_H), ma_rn ro d 139 (13, [some (.ref a1), v1], st, SH, σ) = ma_rn ro d 139 (14, [some (.ref a1), v1], .ref a1 :: st, SH, σ)) ∧
  (∀ (v0 : Option Value) (x1 : Int32) (st : List Value) (σ : ma_H), ma_rn ro d 139 (14, [v0, some (.int x1)], st, SH, σ) = ma_rn ro d 139 (15, [v0, some (.int x1)], .int x1 :: st, SH, σ)) ∧
  (∀ (v0 : Option Value) (v1 : Option Value) (x1 : Int32) (a0 : Nat) (σ : ma_H) (hc : hk_cls a0 = 8), ma_rn ro (d + 1) 139 (15, [v0, v1], .int x1 :: .ref a0 :: [], SH, σ) = (ma_ev ro d 138 [.ref a0, .int x1] SH σ).bind (fun q => ma_rn ro (d + 1) 139 (18, [v0, v1], (q.1.toList ++ []), q.2.1, q.2.2))) ∧
  (∀ (v1 : Option Value) (a1 : Nat) (st : List Value) (σ : ma_H), ma_rn ro d 139 (18, [some (.ref a1), v1], st, SH, σ) = ma_rn ro d 139 (19, [some (.ref a1), v1], .ref a1 :: st, SH, σ)) ∧
  (∀ (v0 : Option Value) (v1 : Option Value) (a1 : Nat) (st : List Value) (σ : ma_H) (hc : hk_cls a1 = 8), ma_rn ro d 139 (19, [v0, v1], .ref a1 :: st, SH, σ) = ma_rn ro d 139 (22, [v0, v1], .ref (91) :: st, SH, σ)) ∧
  (∀ (v0 : Option Value) (v1 : Option Value) (st : List Value) (σ : ma_H), ma_rn ro d 139 (22, [v0, v1], st, SH, σ) = ma_rn ro d 139 (23, [v0, v1], .int (nI 2) :: st, SH, σ)) ∧
  (∀ (v0 : Option Value) (v1 : Option Value) (x1 : Int32) (a2 : Nat) (st : List Value) (σ : ma_H), ma_rn ro d 139 (23, [v0, v1], .int x1 :: .ref a2 :: st, SH, σ) = ma_rn ro d 139 (24, [v0, v1], .int x1 :: .ref a2 :: .int x1 :: .ref a2 :: st, SH, σ)) ∧
  (∀ (v0 : Option Value) (v1 : Option Value) (k : Nat) (a2 : Nat) (st : List Value) (σ : ma_H) (hk : k < hk_len a2), ma_rn ro d 139 (24, [v0, v1], .int (nI k) :: .ref a2 :: st, SH, σ) = ma_rn ro d 139 (25, [v0, v1], .int (σ a2 k) :: st, SH, σ)) ∧
  (∀ (v1 : Option Value) (a1 : Nat) (st : List Value) (σ : ma_H), ma_rn ro d 139 (25, [some (.ref a1), v1], st, SH, σ) = ma_rn ro d 139 (26, [some (.ref a1), v1], .ref a1 :: st, SH, σ)) ∧
  (∀ (v0 : Option Value) (v1 : Option Value) (a1 : Nat) (st : List Value) (σ : ma_H) (hc : hk_cls a1 = 8), ma_rn ro d 139 (26, [v0, v1], .ref a1 :: st, SH, σ) = ma_rn ro d 139 (29, [v0, v1], .ref (91) :: st, SH, σ)) ∧
  (∀ (v0 : Option Value) (v1 : Option Value) (st : List Value) (σ : ma_H), ma_rn ro d 139 (29, [v0, v1], st, SH, σ) = ma_rn ro d 139 (30, [v0, v1], .int (nI 3) :: st, SH, σ)) ∧
  (∀ (v0 : Option Value) (x1 : Int32) (st : List Value) (σ : ma_H), ma_rn ro d 139 (30, [v0, some (.int x1)], st, SH, σ) = ma_rn ro d 139 (31, [v0, some (.int x1)], .int x1 :: st, SH, σ)) ∧
  (∀ (v0 : Option Value) (v1 : Option Value) (x1 : Int32) (x2 : Int32) (st : List Value) (σ : ma_H), ma_rn ro d 139 (31, [v0, v1], .int x1 :: .int x2 :: st, SH, σ) = ma_rn ro d 139 (32, [v0, v1], .int (x2 + x1) :: st, SH, σ)) ∧
  (∀ (v0 : Option Value) (v1 : Option Value) (k : Nat) (a2 : Nat) (st : List Value) (σ : ma_H) (hk : k < hk_len a2), ma_rn ro d 139 (32, [v0, v1], .int (nI k) :: .ref a2 :: st, SH, σ) = ma_rn ro d 139 (33, [v0, v1], .int (σ a2 k) :: st, SH, σ)) ∧
  (∀ (v1 : Option Value) (a1 : Nat) (st : List Value) (σ : ma_H), ma_rn ro d 139 (33, [some (.ref a1), v1], st, SH, σ) = ma_rn ro d 139 (34, [some (.ref a1), v1], .ref a1 :: st, SH, σ)) ∧
  (∀ (v0 : Option Value) (v1 : Option Value) (a1 : Nat) (st : List Value) (σ : ma_H) (hc : hk_cls a1 = 8), ma_rn ro d 139 (34, [v0, v1], .ref a1 :: st, SH, σ) = ma_rn ro d 139 (37, [v0, v1], .ref (91) :: st, SH, σ)) ∧
  (∀ (v0 : Option Value) (v1 : Option Value) (st : List Value) (σ : ma_H), ma_rn ro d 139 (37, [v0, v1], st, SH, σ) = ma_rn ro d 139 (39, [v0, v1], .int (nI 46) :: st, SH, σ)) ∧
  (∀ (v0 : Option Value) (x1 : Int32) (st : List Value) (σ : ma_H), ma_rn ro d 139 (39, [v0, some (.int x1)], st, SH, σ) = ma_rn ro d 139 (40, [v0, some (.int x1)], .int x1 :: st, SH, σ)) ∧
  (∀ (v0 : Option Value) (v1 : Option Value) (x1 : Int32) (x2 : Int32) (st : List Value) (σ : ma_H), ma_rn ro d 139 (40, [v0, v1], .int x1 :: .int x2 :: st, SH, σ) = ma_rn ro d 139 (41, [v0, v1], .int (x2 + x1) :: st, SH, σ)) ∧
  (∀ (v0 : Option Value) (v1 : Option Value) (k : Nat) (a2 : Nat) (st : List Value) (σ : ma_H) (hk : k < hk_len a2), ma_rn ro d 139 (41, [v0, v1], .int (nI k) :: .ref a2 :: st, SH, σ) = ma_rn ro d 139 (42, [v0, v1], .int (σ a2 k) :: st, SH, σ)) ∧
  (∀ (v0 : Option Value) (v1 : Option Value) (st : List Value) (σ : ma_H), ma_rn ro d 139 (42, [v0, v1], st, SH, σ) = ma_rn ro d 139 (43, [v0, v1], .int (nI 1) :: st, SH, σ)) ∧
  (∀ (v0 : Option Value) (v1 : Option Value) (x1 : Int32) (x2 : Int32) (st : List Value) (σ : ma_H), ma_rn ro d 139 (43, [v0, v1], .int x1 :: .int x2 :: st, SH, σ) = ma_rn ro d 139 (44, [v0, v1], .int (x2 + x1) :: st, SH, σ)) ∧
  (∀ (v0 : Option Value) (v1 : Option Value) (x1 : Int32) (x2 : Int32) (st : List Value) (σ : ma_H), ma_rn ro d 139 (44, [v0, v1], .int x1 :: .int x2 :: st, SH, σ) = ma_rn ro d 139 (45, [v0, v1], .int (x2 * x1) :: st, SH, σ)) ∧
  (∀ (v0 : Option Value) (v1 : Option Value) (x1 : Int32) (x2 : Int32) (st : List Value) (σ : ma_H), ma_rn ro d 139 (45, [v0, v1], .int x1 :: .int x2 :: st, SH, σ) = ma_rn ro d 139 (46, [v0, v1], .int (x2 + x1) :: st, SH, σ)) ∧
  (∀ (v0 : Option Value) (v1 : Option Value) (x1 : Int32) (k : Nat) (a3 : Nat) (st : List Value) (σ : ma_H) (hk : k < hk_len a3), ma_rn ro d 139 (46, [v0, v1], .int x1 :: .int (nI k) :: .ref a3 :: st, SH, σ) = ma_rn ro d 139 (47, [v0, v1], st, SH, (ma_up σ a3 k x1))) ∧
  (∀ (x1 : Int32) (a9 : Nat) (st : List Value) (σ : ma_H), ma_rn ro d 139 (47, [some (.ref a9), some (.int x1)], st, SH, σ) = ma_rn ro d 139 (50, [some (.ref a9), some (.int (x1 + nI 1))], st, SH, σ)) ∧
  (∀ (v0 : Option Value) (v1 : Option Value) (st : List Value) (σ : ma_H), ma_rn ro d 139 (50, [v0, v1], st, SH, σ) = ma_rn ro d 139 (2, [v0, v1], st, SH, σ)) ∧
  (∀ (v1 : Option Value) (a1 : Nat) (st : List Value) (σ : ma_H), ma_rn ro d 139 (53, [some (.ref a1), v1], st, SH, σ) = ma_rn ro d 139 (54, [some (.ref a1), v1], .ref a1 :: st, SH, σ)) ∧
  (∀ (v0 : Option Value) (v1 : Option Value) (a1 : Nat) (st : List Value) (σ : ma_H) (hc : hk_cls a1 = 8), ma_rn ro d 139 (54, [v0, v1], .ref a1 :: st, SH, σ) = ma_rn ro d 139 (57, [v0, v1], .ref (91) :: st, SH, σ)) ∧
  (∀ (v0 : Option Value) (v1 : Option Value) (st : List Value) (σ : ma_H), ma_rn ro d 139 (57, [v0, v1], st, SH, σ) = ma_rn ro d 139 (58, [v0, v1], .int (nI 0) :: st, SH, σ)) ∧
  (∀ (v0 : Option Value) (v1 : Option Value) (x1 : Int32) (a2 : Nat) (st : List Value) (σ : ma_H), ma_rn ro d 139 (58, [v0, v1], .int x1 :: .ref a2 :: st, SH, σ) = ma_rn ro d 139 (59, [v0, v1], .int x1 :: .ref a2 :: .int x1 :: .ref a2 :: st, SH, σ)) ∧
  (∀ (v0 : Option Value) (v1 : Option Value) (k : Nat) (a2 : Nat) (st : List Value) (σ : ma_H) (hk : k < hk_len a2), ma_rn ro d 139 (59, [v0, v1], .int (nI k) :: .ref a2 :: st, SH, σ) = ma_rn ro d 139 (60, [v0, v1], .int (σ a2 k) :: st, SH, σ)) ∧
  (∀ (v0 : Option Value) (v1 : Option Value) (st : List Value) (σ : ma_H), ma_rn ro d 139 (60, [v0, v1], st, SH, σ) = ma_rn ro d 139 (61, [v0, v1], .int (nI 1) :: st, SH, σ)) ∧
  (∀ (v0 : Option Value) (v1 : Option Value) (x1 : Int32) (x2 : Int32) (st : List Value) (σ : ma_H), ma_rn ro d 139 (61, [v0, v1], .int x1 :: .int x2 :: st, SH, σ) = ma_rn ro d 139 (62, [v0, v1], .int (x2 + x1) :: st, SH, σ)) ∧
  (∀ (v0 : Option Value) (v1 : Option Value) (x1 : Int32) (k : Nat) (a3 : Nat) (st : List Value) (σ : ma_H) (hk : k < hk_len a3), ma_rn ro d 139 (62, [v0, v1], .int x1 :: .int (nI k) :: .ref a3 :: st, SH, σ) = ma_rn ro d 139 (63, [v0, v1], st, SH, (ma_up σ a3 k x1))) ∧
  (∀ (v0 : Option Value) (v1 : Option Value) (σ : ma_H), ma_rn ro d 139 (63, [v0, v1], [], SH, σ) = some (none, SH, σ)) := ⟨fun v0 v1 st σ => q_iconst e139_0 (by decide),
  fun v1 a9 x1 st σ => q_go e139_1 rfl rfl,
  fun v1 a1 st σ => q_go e139_3 rfl rfl,
  fun v0 v1 a1 st σ hc => q_getA e139_4 o_139 f_8_9 (by decide) hc,
  fun v0 v1 st σ => q_bipush e139_7 (by decide),
  fun v0 v1 k a2 st σ hk => q_iald e139_9 hk,
  fun v0 v1 x1 x2 st σ => (q_cmp e139_10 rfl).trans q_nlt,
  fun v1 a1 st σ => q_go e139_13 rfl rfl,
  fun v0 x1 st σ => q_go e139_14 rfl rfl,
  fun v0 v1 x1 a0 σ hc => q_invV (as := [.int x1]) (rest := []) e139_15 o_139 bn_8_152 c_8_152 m_138 (by decide) rfl rfl (Nat.le_of_ble_eq_true rfl) (Nat.le_of_ble_eq_true rfl) hc,
  fun v1 a1 st σ => q_go e139_18 rfl rfl,
  fun v0 v1 a1 st σ hc => q_getA e139_19 o_139 f_8_9 (by decide) hc,
  fun v0 v1 st σ => q_iconst e139_22 (by decide),
  fun v0 v1 x1 a2 st σ => q_go e139_23 rfl rfl,
  fun v0 v1 k a2 st σ hk => q_iald e139_24 hk,
  fun v1 a1 st σ => q_go e139_25 rfl rfl,
  fun v0 v1 a1 st σ hc => q_getA e139_26 o_139 f_8_9 (by decide) hc,
  fun v0 v1 st σ => q_iconst e139_29 (by decide),
  fun v0 x1 st σ => q_go e139_30 rfl rfl,
  fun v0 v1 x1 x2 st σ => q_go e139_31 rfl rfl,
  fun v0 v1 k a2 st σ hk => q_iald e139_32 hk,
  fun v1 a1 st σ => q_go e139_33 rfl rfl,
  fun v0 v1 a1 st σ hc => q_getA e139_34 o_139 f_8_9 (by decide) hc,
  fun v0 v1 st σ => q_bipush e139_37 (by decide),
  fun v0 x1 st σ => q_go e139_39 rfl rfl,
  fun v0 v1 x1 x2 st σ => q_go e139_40 rfl rfl,
  fun v0 v1 k a2 st σ hk => q_iald e139_41 hk,
  fun v0 v1 st σ => q_iconst e139_42 (by decide),
  fun v0 v1 x1 x2 st σ => q_go e139_43 rfl rfl,
  fun v0 v1 x1 x2 st σ => q_go e139_44 rfl rfl,
  fun v0 v1 x1 x2 st σ => q_go e139_45 rfl rfl,
  fun v0 v1 x1 k a3 st σ hk => q_iast e139_46 hk,
  fun x1 a9 st σ => q_iinc e139_47 rfl rfl (by decide),
  fun v0 v1 st σ => q_goto e139_50 rfl,
  fun v1 a1 st σ => q_go e139_53 rfl rfl,
  fun v0 v1 a1 st σ hc => q_getA e139_54 o_139 f_8_9 (by decide) hc,
  fun v0 v1 st σ => q_iconst e139_57 (by decide),
  fun v0 v1 x1 a2 st σ => q_go e139_58 rfl rfl,
  fun v0 v1 k a2 st σ hk => q_iald e139_59 hk,
  fun v0 v1 st σ => q_iconst e139_60 (by decide),
  fun v0 v1 x1 x2 st σ => q_go e139_61 rfl rfl,
  fun v0 v1 x1 k a3 st σ hk => q_iast e139_62 hk,
  fun v0 v1 σ => q_vret e139_63 r_139⟩
theorem E139 {ro : ma_RO} {d : Nat} (a0 : Nat) (sh : List ma_Sh) (σ : ma_H) : ma_ev ro d 139 [.ref a0] sh σ = ma_rn ro d 139 (0, [some (.ref a0), none], [], sh, σ) := q_ent x_139 rfl
theorem e140_0 : decode (ma_cd 140) 0 = .ok (.iconst 0, 1) := (congrArg (fun b => decode b 0) cd_140).trans dX8_goesOn_0
theorem e140_1 : decode (ma_cd 140) 1 = .ok (.istore_n 2, 1) := (congrArg (fun b => decode b 1) cd_140).trans dX8_goesOn_1
theorem e140_2 : decode (ma_cd 140) 2 = .ok (.iload_n 2, 1) := (congrArg (fun b => decode b 2) cd_140).trans dX8_goesOn_2
theorem e140_3 : decode (ma_cd 140) 3 = .ok (.iload_n 1, 1) := (congrArg (fun b => decode b 3) cd_140).trans dX8_goesOn_3
theorem e140_4 : decode (ma_cd 140) 4 = .ok (.if_icmp .ge 13, 3) := (congrArg (fun b => decode b 4) cd_140).trans dX8_goesOn_4
theorem e140_7 : decode (ma_cd 140) 7 = .ok (.aload_n 0, 1) := (congrArg (fun b => decode b 7) cd_140).trans dX8_goesOn_7
theorem e140_8 : decode (ma_cd 140) 8 = .ok (.invokevirtual 155, 3) := (congrArg (fun b => decode b 8) cd_140).trans dX8_goesOn_8
theorem e140_11 : decode (ma_cd 140) 11 = .ok (.iinc 2 1, 3) := (congrArg (fun b => decode b 11) cd_140).trans dX8_goesOn_11
theorem e140_14 : decode (ma_cd 140) 14 = .ok (.goto (-12), 3) := (congrArg (fun b => decode b 14) cd_140).trans dX8_goesOn_14
theorem e140_17 : decode (ma_cd 140) 17 = .ok (.return_, 1) := (congrArg (fun b => decode b 17) cd_140).trans dX8_goesOn_17
theorem Sh140_2 {ro : ma_RO} {d : Nat} : (∀ (v0 : Option Value) (v1 : Option Value) (x1 : Int32) (st : List Value) (σ : ma_H), ma_rn ro d 140 (2, [v0, v1, some (.int x1)], st, SH, σ) = ma_rn ro d 140 (3, [v0, v1, some (.int x1)], .int x1 :: st, SH, σ)) := fun v0 v1 x1 st σ => q_go e140_2 rfl rfl
theorem S140 {ro : ma_RO} {d : Nat} : (∀ (v0 : Option Value) (v1 : Option Value) (v2 : Option Value) (st : List Value) (σ : ma_H), ma_rn ro d 140 (0, [v0, v1, v2], st, SH, σ) = ma_rn ro d 140 (1, [v0, v1, v2], .int (nI 0) :: st, SH, σ)) ∧
  (∀ (v0 : Option Value) (v2 : Option Value) (x9 : Int32) (x1 : Int32) (st : List Value) (σ : ma_H), ma_rn ro d 140 (1, [v0, some (.int x9), v2], .int x1 :: st, SH, σ) = ma_rn ro d 140 (2, [v0, some (.int x9), some (.int x1)], st, SH, σ)) ∧
  (∀ (v0 : Option Value) (v2 : Option Value) (x1 : Int32) (st : List Value) (σ : ma_H), ma_rn ro d 140 (3, [v0, some (.int x1), v2], st, SH, σ) = ma_rn ro d 140 (4, [v0, some (.int x1), v2], .int x1 :: st, SH, σ)) ∧
  (∀ (v0 : Option Value) (v1 : Option Value) (v2 : Option Value) (x1 : Int32) (x2 : Int32) (st : List Value) (σ : ma_H), ma_rn ro d 140 (4, [v0, v1, v2], .int x1 :: .int x2 :: st, SH, σ) = if x2 < x1 then ma_rn ro d 140 (7, [v0, v1, v2], st, SH, σ) else ma_rn ro d 140 (17, [v0, v1, v2], st, SH, σ)) ∧
  (∀ (v1 : Option Value) (v2 : Option Value) (a1 : Nat) (st : List Value) (σ : ma_H), ma_rn ro d 140 (7, [some (.ref a1), v1, v2], st, SH, σ) = ma_rn ro d 140 (8, [some (.ref a1), v1, v2], .ref a1 :: st, SH, σ)) ∧
  (∀ (v0 : Option Value) (v1 : Option Value) (v2 : Option Value) (a0 : Nat) (σ : ma_H) (hc : hk_cls a0 = 8), ma_rn ro (d + 1) 140 (8, [v0, v1, v2], .ref a0 :: [], SH, σ) = (ma_ev ro d 139 [.ref a0] SH σ).bind (fun q => ma_rn ro (d + 1) 140 (11, [v0, v1, v2], (q.1.toList ++ []), q.2.1, q.2.2))) ∧
  (∀ (v0 : Option Value) (x1 : Int32) (x9 : Int32) (st : List Value) (σ : ma_H), ma_rn ro d 140 (11, [v0, some (.int x9), some (.int x1)], st, SH, σ) = ma_rn ro d 140 (14, [v0, some (.int x9), some (.int (x1 + nI 1))], st, SH, σ)) ∧
  (∀ (v0 : Option Value) (v1 : Option Value) (v2 : Option Value) (st : List Value) (σ : ma_H), ma_rn ro d 140 (14, [v0, v1, v2], st, SH, σ) = ma_rn ro d 140 (2, [v0, v1, v2], st, SH, σ)) ∧
  (∀ (v0 : Option Value) (v1 : Option Value) (v2 : Option Value) (σ : ma_H), ma_rn ro d 140 (17, [v0, v1, v2], [], SH, σ) = some (none, SH, σ)) := ⟨fun v0 v1 v2 st σ => q_iconst e140_0 (by decide),
  fun v0 v2 x9 x1 st σ => q_go e140_1 rfl rfl,
  fun v0 v2 x1 st σ => q_go e140_3 rfl rfl,
  fun v0 v1 v2 x1 x2 st σ => (q_cmp e140_4 rfl).trans q_nlt,
  fun v1 v2 a1 st σ => q_go e140_7 rfl rfl,
  fun v0 v1 v2 a0 σ hc => q_invV (as := []) (rest := []) e140_8 o_140 bn_8_155 c_8_155 m_139 (by decide) rfl rfl (Nat.le_of_ble_eq_true rfl) (Nat.le_of_ble_eq_true rfl) hc,
  fun v0 x1 x9 st σ => q_iinc e140_11 rfl rfl (by decide),
  fun v0 v1 v2 st σ => q_goto e140_14 rfl,
  fun v0 v1 v2 σ => q_vret e140_17 r_140⟩
theorem E140 {ro : ma_RO} {d : Nat} (a0 : Nat) (x1 : Int32) (sh : List ma_Sh) (σ : ma_H) : ma_ev ro d 140 [.ref a0, .int x1] sh σ = ma_rn ro d 140 (0, [some (.ref a0), some (.int x1), none], [], sh, σ) := q_ent x_140 rfl
theorem e141_0 : decode (ma_cd 141) 0 = .ok (.iconst 0, 1) := (congrArg (fun b => decode b 0) cd_141).trans dX8_isDoneOn_0
theorem e141_1 : decode (ma_cd 141) 1 = .ok (.istore_n 3, 1) := (congrArg (fun b => decode b 1) cd_141).trans dX8_isDoneOn_1
theorem e141_2 : decode (ma_cd 141) 2 = .ok (.iload_n 3, 1) := (congrArg (fun b => decode b 2) cd_141).trans dX8_isDoneOn_2
theorem e141_3 : decode (ma_cd 141) 3 = .ok (.iload_n 2, 1) := (congrArg (fun b => decode b 3) cd_141).trans dX8_isDoneOn_3
theorem e141_4 : decode (ma_cd 141) 4 = .ok (.if_icmp .ge 24, 3) := (congrArg (fun b => decode b 4) cd_141).trans dX8_isDoneOn_4
theorem e141_7 : decode (ma_cd 141) 7 = .ok (.aload_n 0, 1) := (congrArg (fun b => decode b 7) cd_141).trans dX8_isDoneOn_7
theorem e141_8 : decode (ma_cd 141) 8 = .ok (.iload_n 1, 1) := (congrArg (fun b => decode b 8) cd_141).trans dX8_isDoneOn_8
theorem e141_9 : decode (ma_cd 141) 9 = .ok (.invokevirtual 152, 3) := (congrArg (fun b => decode b 9) cd_141).trans dX8_isDoneOn_9
theorem e141_12 : decode (ma_cd 141) 12 = .ok (.aload_n 0, 1) := (congrArg (fun b => decode b 12) cd_141).trans dX8_isDoneOn_12
theorem e141_13 : decode (ma_cd 141) 13 = .ok (.getfield 9, 3) := (congrArg (fun b => decode b 13) cd_141).trans dX8_isDoneOn_13
theorem e141_16 : decode (ma_cd 141) 16 = .ok (.iconst 0, 1) := (congrArg (fun b => decode b 16) cd_141).trans dX8_isDoneOn_16
theorem e141_17 : decode (ma_cd 141) 17 = .ok (.dup2, 1) := (congrArg (fun b => decode b 17) cd_141).trans dX8_isDoneOn_17
theorem e141_18 : decode (ma_cd 141) 18 = .ok (.iaload, 1) := (congrArg (fun b => decode b 18) cd_141).trans dX8_isDoneOn_18
theorem e141_19 : decode (ma_cd 141) 19 = .ok (.iconst 1, 1) := (congrArg (fun b => decode b 19) cd_141).trans dX8_isDoneOn_19
theorem e141_20 : decode (ma_cd 141) 20 = .ok (.iadd, 1) := (congrArg (fun b => decode b 20) cd_141).trans dX8_isDoneOn_20
theorem e141_21 : decode (ma_cd 141) 21 = .ok (.iastore, 1) := (congrArg (fun b => decode b 21) cd_141).trans dX8_isDoneOn_21
theorem e141_22 : decode (ma_cd 141) 22 = .ok (.iinc 3 1, 3) := (congrArg (fun b => decode b 22) cd_141).trans dX8_isDoneOn_22
theorem e141_25 : decode (ma_cd 141) 25 = .ok (.goto (-23), 3) := (congrArg (fun b => decode b 25) cd_141).trans dX8_isDoneOn_25
theorem e141_28 : decode (ma_cd 141) 28 = .ok (.return_, 1) := (congrArg (fun b => decode b 28) cd_141).trans dX8_isDoneOn_28
theorem Sh141_2 {ro : ma_RO} {d : Nat} : (∀ (v0 : Option Value) (v1 : Option Value) (v2 : Option Value) (x1 : Int32) (st : List Value) (σ : ma_H), ma_rn ro d 141 (2, [v0, v1, v2, some (.int x1)], st, SH, σ) = ma_rn ro d 141 (3, [v0, v1, v2, some (.int x1)], .int x1 :: st, SH, σ)) := fun v0 v1 v2 x1 st σ => q_go e141_2 rfl rfl
theorem S141 {ro : ma_RO} {d : Nat} : (∀ (v0 : Option Value) (v1 : Option Value) (v2 : Option Value) (v3 : Option Value) (st : List Value) (σ : ma_H), ma_rn ro d 141 (0, [v0, v1, v2, v3], st, SH, σ) = ma_rn ro d 141 (1, [v0, v1, v2, v3], .int (nI 0) :: st, SH, σ)) ∧
  (∀ (v0 : Option Value) (v1 : Option Value) (v3 : Option Value) (x9 : Int32) (x1 : Int32) (st : List Value) (σ : ma_H), ma_rn ro d 141 (1, [v0, v1, some (.int x9), v3], .int x1 :: st, SH, σ) = ma_rn ro d 141 (2, [v0, v1, some (.int x9), some (.int x1)], st, SH, σ)) ∧
  (∀ (v0 : Option Value) (v1 : Option Value) (v3 : Option Value) (x1 : Int32) (st : List Value) (σ : ma_H), ma_rn ro d 141 (3, [v0, v1, some (.int x1), v3], st, SH, σ) = ma_rn ro d 141 (4, [v0, v1, some (.int x1), v3], .int x1 :: st, SH, σ)) ∧
  (∀ (v0 : Option Value) (v1 : Option Value) (v2 : Option Value) (v3 : Option Value) (x1 : Int32) (x2 : Int32) (st : List Value) (σ : ma_H), ma_rn ro d 141 (4, [v0, v1, v2, v3], .int x1 :: .int x2 :: st, SH, σ) = if x2 < x1 then ma_rn ro d 141 (7, [v0, v1, v2, v3], st, SH, σ) else ma_rn ro d 141 (28, [v0, v1, v2, v3], st, SH, σ)) ∧
  (∀ (v1 : Option Value) (v2 : Option Value) (v3 : Option Value) (a1 : Nat) (st : List Value) (σ : ma_H), ma_rn ro d 141 (7, [some (.ref a1), v1, v2, v3], st, SH, σ) = ma_rn ro d 141 (8, [some (.ref a1), v1, v2, v3], .ref a1 :: st, SH, σ)) ∧
  (∀ (v0 : Option Value) (v2 : Option Value) (v3 : Option Value) (x1 : Int32) (st : List Value) (σ : ma_H), ma_rn ro d 141 (8, [v0, some (.int x1), v2, v3], st, SH, σ) = ma_rn ro d 141 (9, [v0, some (.int x1), v2, v3], .int x1 :: st, SH, σ)) ∧
  (∀ (v0 : Option Value) (v1 : Option Value) (v2 : Option Value) (v3 : Option Value) (x1 : Int32) (a0 : Nat) (σ : ma_H) (hc : hk_cls a0 = 8), ma_rn ro (d + 1) 141 (9, [v0, v1, v2, v3], .int x1 :: .ref a0 :: [], SH, σ) = (ma_ev ro d 138 [.ref a0, .int x1] SH σ).bind (fun q => ma_rn ro (d + 1) 141 (12, [v0, v1, v2, v3], (q.1.toList ++ []), q.2.1, q.2.2))) ∧
  (∀ (v1 : Option Value) (v2 : Option Value) (v3 : Option Value) (a1 : Nat) (st : List Value) (σ : ma_H), ma_rn ro d 141 (12, [some (.ref a1), v1, v2, v3], st, SH, σ) = ma_rn ro d 141 (13, [some (.ref a1), v1, v2, v3], .ref a1 :: st, SH, σ)) ∧
  (∀ (v0 : Option Value) (v1 : Option Value) (v2 : Option Value) (v3 : Option Value) (a1 : Nat) (st : List Value) (σ : ma_H) (hc : hk_cls a1 = 8), ma_rn ro d 141 (13, [v0, v1, v2, v3], .ref a1 :: st, SH, σ) = ma_rn ro d 141 (16, [v0, v1, v2, v3], .ref (91) :: st, SH, σ)) ∧
  (∀ (v0 : Option Value) (v1 : Option Value) (v2 : Option Value) (v3 : Option Value) (st : List Value) (σ : ma_H), ma_rn ro d 141 (16, [v0, v1, v2, v3], st, SH, σ) = ma_rn ro d 141 (17, [v0, v1, v2, v3], .int (nI 0) :: st, SH, σ)) ∧
  (∀ (v0 : Option Value) (v1 : Option Value) (v2 : Option Value) (v3 : Option Value) (x1 : Int32) (a2 : Nat) (st : List Value) (σ : ma_H), ma_rn ro d 141 (17, [v0, v1, v2, v3], .int x1 :: .ref a2 :: st, SH, σ) = ma_rn ro d 141 (18, [v0, v1, v2, v3], .int x1 :: .ref a2 :: .int x1 :: .ref a2 :: st, SH, σ)) ∧
  (∀ (v0 : Option Value) (v1 : Option Value) (v2 : Option Value) (v3 : Option Value) (k : Nat) (a2 : Nat) (st : List Value) (σ : ma_H) (hk : k < hk_len a2), ma_rn ro d 141 (18, [v0, v1, v2, v3], .int (nI k) :: .ref a2 :: st, SH, σ) = ma_rn ro d 141 (19, [v0, v1, v2, v3], .int (σ a2 k) :: st, SH, σ)) ∧
  (∀ (v0 : Option Value) (v1 : Option Value) (v2 : Option Value) (v3 : Option Value) (st : List Value) (σ : ma_H), ma_rn ro d 141 (19, [v0, v1, v2, v3], st, SH, σ) = ma_rn ro d 141 (20, [v0, v1, v2, v3], .int (nI 1) :: st, SH, σ)) ∧
  (∀ (v0 : Option Value) (v1 : Option Value) (v2 : Option Value) (v3 : Option Value) (x1 : Int32) (x2 : Int32) (st : List Value) (σ : ma_H), ma_rn ro d 141 (20, [v0, v1, v2, v3], .int x1 :: .int x2 :: st, SH, σ) = ma_rn ro d 141 (21, [v0, v1, v2, v3], .int (x2 + x1) :: st, SH, σ)) ∧
  (∀ (v0 : Option Value) (v1 : Option Value) (v2 : Option Value) (v3 : Option Value) (x1 : Int32) (k : Nat) (a3 : Nat) (st : List Value) (σ : ma_H) (hk : k < hk_len a3), ma_rn ro d 141 (21, [v0, v1, v2, v3], .int x1 :: .int (nI k) :: .ref a3 :: st, SH, σ) = ma_rn ro d 141 (22, [v0, v1, v2, v3], st, SH, (ma_up σ a3 k x1))) ∧
  (∀ (v0 : Option Value) (v1 : Option Value) (x1 : Int32) (x9 : Int32) (st : List Value) (σ : ma_H), ma_rn ro d 141 (22, [v0, v1, some (.int x9), some (.int x1)], st, SH, σ) = ma_rn ro d 141 (25, [v0, v1, some (.int x9), some (.int (x1 + nI 1))], st, SH, σ)) ∧
  (∀ (v0 : Option Value) (v1 : Option Value) (v2 : Option Value) (v3 : Option Value) (st : List Value) (σ : ma_H), ma_rn ro d 141 (25, [v0, v1, v2, v3], st, SH, σ) = ma_rn ro d 141 (2, [v0, v1, v2, v3], st, SH, σ)) ∧
  (∀ (v0 : Option Value) (v1 : Option Value) (v2 : Option Value) (v3 : Option Value) (σ : ma_H), ma_rn ro d 141 (28, [v0, v1, v2, v3], [], SH, σ) = some (none, SH, σ)) := ⟨fun v0 v1 v2 v3 st σ => q_iconst e141_0 (by decide),
  fun v0 v1 v3 x9 x1 st σ => q_go e141_1 rfl rfl,
  fun v0 v1 v3 x1 st σ => q_go e141_3 rfl rfl,
  fun v0 v1 v2 v3 x1 x2 st σ => (q_cmp e141_4 rfl).trans q_nlt,
  fun v1 v2 v3 a1 st σ => q_go e141_7 rfl rfl,
  fun v0 v2 v3 x1 st σ => q_go e141_8 rfl rfl,
  fun v0 v1 v2 v3 x1 a0 σ hc => q_invV (as := [.int x1]) (rest := []) e141_9 o_141 bn_8_152 c_8_152 m_138 (by decide) rfl rfl (Nat.le_of_ble_eq_true rfl) (Nat.le_of_ble_eq_true rfl) hc,
  fun v1 v2 v3 a1 st σ => q_go e141_12 rfl rfl,
  fun v0 v1 v2 v3 a1 st σ hc => q_getA e141_13 o_141 f_8_9 (by decide) hc,
  fun v0 v1 v2 v3 st σ => q_iconst e141_16 (by decide),
  fun v0 v1 v2 v3 x1 a2 st σ => q_go e141_17 rfl rfl,
  fun v0 v1 v2 v3 k a2 st σ hk => q_iald e141_18 hk,
  fun v0 v1 v2 v3 st σ => q_iconst e141_19 (by decide),
  fun v0 v1 v2 v3 x1 x2 st σ => q_go e141_20 rfl rfl,
  fun v0 v1 v2 v3 x1 k a3 st σ hk => q_iast e141_21 hk,
  fun v0 v1 x1 x9 st σ => q_iinc e141_22 rfl rfl (by decide),
  fun v0 v1 v2 v3 st σ => q_goto e141_25 rfl,
  fun v0 v1 v2 v3 σ => q_vret e141_28 r_141⟩
theorem E141 {ro : ma_RO} {d : Nat} (a0 : Nat) (x1 : Int32) (x2 : Int32) (sh : List ma_Sh) (σ : ma_H) : ma_ev ro d 141 [.ref a0, .int x1, .int x2] sh σ = ma_rn ro d 141 (0, [some (.ref a0), some (.int x1), some (.int x2), none], [], sh, σ) := q_ent x_141 rfl

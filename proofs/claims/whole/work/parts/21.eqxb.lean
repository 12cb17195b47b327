/-! The equations of the instructions. -/
theorem e58_0 : decode (ma_cd 58) 0 = .ok (.iload_n 1, 1) := (congrArg (fun b => decode b 0) cd_58).trans dX7_feed_0
theorem e58_1 : decode (ma_cd 58) 1 = .ok (.bipush 127, 2) := (congrArg (fun b => decode b 1) cd_58).trans dX7_feed_1
theorem e58_3 : decode (ma_cd 58) 3 = .ok (.invokestatic 67, 3) := (congrArg (fun b => decode b 3) cd_58).trans dX7_feed_3
theorem e58_6 : decode (ma_cd 58) 6 = .ok (.ifCond .eq 6, 3) := (congrArg (fun b => decode b 6) cd_58).trans dX7_feed_6
theorem e58_9 : decode (ma_cd 58) 9 = .ok (.bipush (-2), 2) := (congrArg (fun b => decode b 9) cd_58).trans dX7_feed_9
theorem e58_11 : decode (ma_cd 58) 11 = .ok (.ireturn, 1) := (congrArg (fun b => decode b 11) cd_58).trans dX7_feed_11
theorem e58_12 : decode (ma_cd 58) 12 = .ok (.aload_n 0, 1) := (congrArg (fun b => decode b 12) cd_58).trans dX7_feed_12
theorem e58_13 : decode (ma_cd 58) 13 = .ok (.getfield 12, 3) := (congrArg (fun b => decode b 13) cd_58).trans dX7_feed_13
theorem e58_16 : decode (ma_cd 58) 16 = .ok (.iload_n 1, 1) := (congrArg (fun b => decode b 16) cd_58).trans dX7_feed_16
theorem e58_17 : decode (ma_cd 58) 17 = .ok (.invokevirtual 71, 3) := (congrArg (fun b => decode b 17) cd_58).trans dX7_feed_17
theorem e58_20 : decode (ma_cd 58) 20 = .ok (.ifCond .eq 13, 3) := (congrArg (fun b => decode b 20) cd_58).trans dX7_feed_20
theorem e58_23 : decode (ma_cd 58) 23 = .ok (.aload_n 0, 1) := (congrArg (fun b => decode b 23) cd_58).trans dX7_feed_23
theorem e58_24 : decode (ma_cd 58) 24 = .ok (.getfield 12, 3) := (congrArg (fun b => decode b 24) cd_58).trans dX7_feed_24
theorem e58_27 : decode (ma_cd 58) 27 = .ok (.getfield 75, 3) := (congrArg (fun b => decode b 27) cd_58).trans dX7_feed_27
theorem e58_30 : decode (ma_cd 58) 30 = .ok (.goto 5, 3) := (congrArg (fun b => decode b 30) cd_58).trans dX7_feed_30
theorem e58_33 : decode (ma_cd 58) 33 = .ok (.bipush (-4), 2) := (congrArg (fun b => decode b 33) cd_58).trans dX7_feed_33
theorem e58_35 : decode (ma_cd 58) 35 = .ok (.ireturn, 1) := (congrArg (fun b => decode b 35) cd_58).trans dX7_feed_35
theorem S58 {ro : ma_RO} {d : Nat} : (∀ (v0 : Option Value) (x1 : Int32) (st : List Value) (σ : ma_H), ma_rn ro d 58 (0, [v0, some (.int x1)], st, SH, σ) = ma_rn ro d 58 (1, [v0, some (.int x1)], .int x1 :: st, SH, σ)) ∧
  (∀ (v0 : Option Value) (v1 : Option Value) (st : List Value) (σ : ma_H), ma_rn ro d 58 (1, [v0, v1], st, SH, σ) = ma_rn ro d 58 (3, [v0, v1], .int (nI 127) :: st, SH, σ)) ∧
  (∀ (v0 : Option Value) (v1 : Option Value) (x1 : Int32) (x2 : Int32) (σ : ma_H), ma_rn ro (d + 1) 58 (3, [v0, v1], .int x2 :: .int x1 :: [], SH, σ) = (ma_ev ro d 88 [.int x1, .int x2] SH σ).bind (fun q => ma_rn ro (d + 1) 58 (6, [v0, v1], (q.1.toList ++ []), q.2.1, q.2.2))) ∧
  (∀ (v0 : Option Value) (v1 : Option Value) (x1 : Int32) (st : List Value) (σ : ma_H), ma_rn ro d 58 (6, [v0, v1], .int x1 :: st, SH, σ) = if x1 = nI 0 then ma_rn ro d 58 (12, [v0, v1], st, SH, σ) else ma_rn ro d 58 (9, [v0, v1], st, SH, σ)) ∧
  (∀ (v0 : Option Value) (v1 : Option Value) (st : List Value) (σ : ma_H), ma_rn ro d 58 (9, [v0, v1], st, SH, σ) = ma_rn ro d 58 (11, [v0, v1], .int ((-2)) :: st, SH, σ)) ∧
  (∀ (v0 : Option Value) (v1 : Option Value) (x1 : Int32) (σ : ma_H), ma_rn ro d 58 (11, [v0, v1], [.int x1], SH, σ) = some (some (.int x1), SH, σ)) ∧
  (∀ (v1 : Option Value) (a1 : Nat) (st : List Value) (σ : ma_H), ma_rn ro d 58 (12, [some (.ref a1), v1], st, SH, σ) = ma_rn ro d 58 (13, [some (.ref a1), v1], .ref a1 :: st, SH, σ)) ∧
  (∀ (v0 : Option Value) (v1 : Option Value) (a1 : Nat) (st : List Value) (σ : ma_H) (hc : hk_cls a1 = 7), ma_rn ro d 58 (13, [v0, v1], .ref a1 :: st, SH, σ) = ma_rn ro d 58 (16, [v0, v1], .ref (1) :: st, SH, σ)) ∧
  (∀ (v0 : Option Value) (x1 : Int32) (st : List Value) (σ : ma_H), ma_rn ro d 58 (16, [v0, some (.int x1)], st, SH, σ) = ma_rn ro d 58 (17, [v0, some (.int x1)], .int x1 :: st, SH, σ)) ∧
  (∀ (v0 : Option Value) (v1 : Option Value) (x1 : Int32) (a0 : Nat) (σ : ma_H) (hc : hk_cls a0 = 5), ma_rn ro (d + 1) 58 (17, [v0, v1], .int x1 :: .ref a0 :: [], SH, σ) = (ma_ev ro d 46 [.ref a0, .int x1] SH σ).bind (fun q => ma_rn ro (d + 1) 58 (20, [v0, v1], (q.1.toList ++ []), q.2.1, q.2.2))) ∧
  (∀ (v0 : Option Value) (v1 : Option Value) (x1 : Int32) (st : List Value) (σ : ma_H), ma_rn ro d 58 (20, [v0, v1], .int x1 :: st, SH, σ) = if x1 = nI 0 then ma_rn ro d 58 (33, [v0, v1], st, SH, σ) else ma_rn ro d 58 (23, [v0, v1], st, SH, σ)) ∧
  (∀ (v1 : Option Value) (a1 : Nat) (st : List Value) (σ : ma_H), ma_rn ro d 58 (23, [some (.ref a1), v1], st, SH, σ) = ma_rn ro d 58 (24, [some (.ref a1), v1], .ref a1 :: st, SH, σ)) ∧
  (∀ (v0 : Option Value) (v1 : Option Value) (a1 : Nat) (st : List Value) (σ : ma_H) (hc : hk_cls a1 = 7), ma_rn ro d 58 (24, [v0, v1], .ref a1 :: st, SH, σ) = ma_rn ro d 58 (27, [v0, v1], .ref (1) :: st, SH, σ)) ∧
  (∀ (v0 : Option Value) (v1 : Option Value) (a1 : Nat) (st : List Value) (σ : ma_H) (hc : hk_cls a1 = 5), ma_rn ro d 58 (27, [v0, v1], .ref a1 :: st, SH, σ) = ma_rn ro d 58 (30, [v0, v1], .int (σ a1 4) :: st, SH, σ)) ∧
  (∀ (v0 : Option Value) (v1 : Option Value) (st : List Value) (σ : ma_H), ma_rn ro d 58 (30, [v0, v1], st, SH, σ) = ma_rn ro d 58 (35, [v0, v1], st, SH, σ)) ∧
  (∀ (v0 : Option Value) (v1 : Option Value) (st : List Value) (σ : ma_H), ma_rn ro d 58 (33, [v0, v1], st, SH, σ) = ma_rn ro d 58 (35, [v0, v1], .int ((-4)) :: st, SH, σ)) ∧
  (∀ (v0 : Option Value) (v1 : Option Value) (x1 : Int32) (σ : ma_H), ma_rn ro d 58 (35, [v0, v1], [.int x1], SH, σ) = some (some (.int x1), SH, σ)) := ⟨fun v0 x1 st σ => q_go e58_0 rfl rfl,
  fun v0 v1 st σ => q_bipush e58_1 (by decide),
  fun v0 v1 x1 x2 σ => q_invS (as := [.int x1, .int x2]) (rest := []) e58_3 o_58 bn_7_67 c_7_67 ⟨m_88.1, m_88.2.1, m_88.2.2.1⟩ rfl rfl (Nat.le_of_ble_eq_true rfl) (Nat.le_of_ble_eq_true rfl),
  fun v0 v1 x1 st σ => (q_if e58_6 rfl).trans q_eq,
  fun v0 v1 st σ => q_bipush e58_9 (by decide),
  fun v0 v1 x1 σ => q_iret e58_11 r_58,
  fun v1 a1 st σ => q_go e58_12 rfl rfl,
  fun v0 v1 a1 st σ hc => q_getA e58_13 o_58 f_7_12 (by decide) hc,
  fun v0 x1 st σ => q_go e58_16 rfl rfl,
  fun v0 v1 x1 a0 σ hc => q_invV (as := [.int x1]) (rest := []) e58_17 o_58 bn_7_71 c_7_71 m_46 (by decide) rfl rfl (Nat.le_of_ble_eq_true rfl) (Nat.le_of_ble_eq_true rfl) hc,
  fun v0 v1 x1 st σ => (q_if e58_20 rfl).trans q_eq,
  fun v1 a1 st σ => q_go e58_23 rfl rfl,
  fun v0 v1 a1 st σ hc => q_getA e58_24 o_58 f_7_12 (by decide) hc,
  fun v0 v1 a1 st σ hc => q_getI e58_27 o_58 f_7_75 (by decide) hc,
  fun v0 v1 st σ => q_goto e58_30 rfl,
  fun v0 v1 st σ => q_bipush e58_33 (by decide),
  fun v0 v1 x1 σ => q_iret e58_35 r_58⟩
theorem E58 {ro : ma_RO} {d : Nat} (a0 : Nat) (x1 : Int32) (sh : List ma_Sh) (σ : ma_H) : ma_ev ro d 58 [.ref a0, .int x1] sh σ = ma_rn ro d 58 (0, [some (.ref a0), some (.int x1)], [], sh, σ) := q_ent x_58 rfl
theorem e59_0 : decode (ma_cd 59) 0 = .ok (.aload_n 0, 1) := (congrArg (fun b => decode b 0) cd_59).trans dX7_house_0
theorem e59_1 : decode (ma_cd 59) 1 = .ok (.getfield 12, 3) := (congrArg (fun b => decode b 1) cd_59).trans dX7_house_1
theorem e59_4 : decode (ma_cd 59) 4 = .ok (.getfield 79, 3) := (congrArg (fun b => decode b 4) cd_59).trans dX7_house_4
theorem e59_7 : decode (ma_cd 59) 7 = .ok (.iconst 5, 1) := (congrArg (fun b => decode b 7) cd_59).trans dX7_house_7
theorem e59_8 : decode (ma_cd 59) 8 = .ok (.if_icmp .lt 6, 3) := (congrArg (fun b => decode b 8) cd_59).trans dX7_house_8
theorem e59_11 : decode (ma_cd 59) 11 = .ok (.bipush (-4), 2) := (congrArg (fun b => decode b 11) cd_59).trans dX7_house_11
theorem e59_13 : decode (ma_cd 59) 13 = .ok (.ireturn, 1) := (congrArg (fun b => decode b 13) cd_59).trans dX7_house_13
theorem e59_14 : decode (ma_cd 59) 14 = .ok (.aload_n 0, 1) := (congrArg (fun b => decode b 14) cd_59).trans dX7_house_14
theorem e59_15 : decode (ma_cd 59) 15 = .ok (.getfield 33, 3) := (congrArg (fun b => decode b 15) cd_59).trans dX7_house_15
theorem e59_18 : decode (ma_cd 59) 18 = .ok (.invokevirtual 82, 3) := (congrArg (fun b => decode b 18) cd_59).trans dX7_house_18
theorem e59_21 : decode (ma_cd 59) 21 = .ok (.istore_n 1, 1) := (congrArg (fun b => decode b 21) cd_59).trans dX7_house_21
theorem e59_22 : decode (ma_cd 59) 22 = .ok (.aload_n 0, 1) := (congrArg (fun b => decode b 22) cd_59).trans dX7_house_22
theorem e59_23 : decode (ma_cd 59) 23 = .ok (.getfield 12, 3) := (congrArg (fun b => decode b 23) cd_59).trans dX7_house_23
theorem e59_26 : decode (ma_cd 59) 26 = .ok (.iconst 0, 1) := (congrArg (fun b => decode b 26) cd_59).trans dX7_house_26
theorem e59_27 : decode (ma_cd 59) 27 = .ok (.putfield 75, 3) := (congrArg (fun b => decode b 27) cd_59).trans dX7_house_27
theorem e59_30 : decode (ma_cd 59) 30 = .ok (.iload_n 1, 1) := (congrArg (fun b => decode b 30) cd_59).trans dX7_house_30
theorem e59_31 : decode (ma_cd 59) 31 = .ok (.ifCond .lt 8, 3) := (congrArg (fun b => decode b 31) cd_59).trans dX7_house_31
theorem e59_34 : decode (ma_cd 59) 34 = .ok (.bipush (-10), 2) := (congrArg (fun b => decode b 34) cd_59).trans dX7_house_34
theorem e59_36 : decode (ma_cd 59) 36 = .ok (.iload_n 1, 1) := (congrArg (fun b => decode b 36) cd_59).trans dX7_house_36
theorem e59_37 : decode (ma_cd 59) 37 = .ok (.isub, 1) := (congrArg (fun b => decode b 37) cd_59).trans dX7_house_37
theorem e59_38 : decode (ma_cd 59) 38 = .ok (.ireturn, 1) := (congrArg (fun b => decode b 38) cd_59).trans dX7_house_38
theorem e59_39 : decode (ma_cd 59) 39 = .ok (.aload_n 0, 1) := (congrArg (fun b => decode b 39) cd_59).trans dX7_house_39
theorem e59_40 : decode (ma_cd 59) 40 = .ok (.getfield 12, 3) := (congrArg (fun b => decode b 40) cd_59).trans dX7_house_40
theorem e59_43 : decode (ma_cd 59) 43 = .ok (.getfield 86, 3) := (congrArg (fun b => decode b 43) cd_59).trans dX7_house_43
theorem e59_46 : decode (ma_cd 59) 46 = .ok (.aload_n 0, 1) := (congrArg (fun b => decode b 46) cd_59).trans dX7_house_46
theorem e59_47 : decode (ma_cd 59) 47 = .ok (.getfield 24, 3) := (congrArg (fun b => decode b 47) cd_59).trans dX7_house_47
theorem e59_50 : decode (ma_cd 59) 50 = .ok (.invokevirtual 89, 3) := (congrArg (fun b => decode b 50) cd_59).trans dX7_house_50
theorem e59_53 : decode (ma_cd 59) 53 = .ok (.aload_n 0, 1) := (congrArg (fun b => decode b 53) cd_59).trans dX7_house_53
theorem e59_54 : decode (ma_cd 59) 54 = .ok (.getfield 12, 3) := (congrArg (fun b => decode b 54) cd_59).trans dX7_house_54
theorem e59_57 : decode (ma_cd 59) 57 = .ok (.dup, 1) := (congrArg (fun b => decode b 57) cd_59).trans dX7_house_57
theorem e59_58 : decode (ma_cd 59) 58 = .ok (.getfield 79, 3) := (congrArg (fun b => decode b 58) cd_59).trans dX7_house_58
theorem e59_61 : decode (ma_cd 59) 61 = .ok (.iconst 1, 1) := (congrArg (fun b => decode b 61) cd_59).trans dX7_house_61
theorem e59_62 : decode (ma_cd 59) 62 = .ok (.iadd, 1) := (congrArg (fun b => decode b 62) cd_59).trans dX7_house_62
theorem e59_63 : decode (ma_cd 59) 63 = .ok (.putfield 79, 3) := (congrArg (fun b => decode b 63) cd_59).trans dX7_house_63
theorem e59_66 : decode (ma_cd 59) 66 = .ok (.aload_n 0, 1) := (congrArg (fun b => decode b 66) cd_59).trans dX7_house_66
theorem e59_67 : decode (ma_cd 59) 67 = .ok (.getfield 12, 3) := (congrArg (fun b => decode b 67) cd_59).trans dX7_house_67
theorem e59_70 : decode (ma_cd 59) 70 = .ok (.getfield 79, 3) := (congrArg (fun b => decode b 70) cd_59).trans dX7_house_70
theorem e59_73 : decode (ma_cd 59) 73 = .ok (.iconst 1, 1) := (congrArg (fun b => decode b 73) cd_59).trans dX7_house_73
theorem e59_74 : decode (ma_cd 59) 74 = .ok (.isub, 1) := (congrArg (fun b => decode b 74) cd_59).trans dX7_house_74
theorem e59_75 : decode (ma_cd 59) 75 = .ok (.ireturn, 1) := (congrArg (fun b => decode b 75) cd_59).trans dX7_house_75
theorem S59 {ro : ma_RO} {d : Nat} : (∀ (v1 : Option Value) (a1 : Nat) (st : List Value) (σ : ma_H), ma_rn ro d 59 (0, [some (.ref a1), v1], st, SH, σ) = ma_rn ro d 59 (1, [some (.ref a1), v1], .ref a1 :: st, SH, σ)) ∧
  (∀ (v0 : Option Value) (v1 : Option Value) (a1 : Nat) (st : List Value) (σ : ma_H) (hc : hk_cls a1 = 7), ma_rn ro d 59 (1, [v0, v1], .ref a1 :: st, SH, σ) = ma_rn ro d 59 (4, [v0, v1], .ref (1) :: st, SH, σ)) ∧
  (∀ (v0 : Option Value) (v1 : Option Value) (a1 : Nat) (st : List Value) (σ : ma_H) (hc : hk_cls a1 = 5), ma_rn ro d 59 (4, [v0, v1], .ref a1 :: st, SH, σ) = ma_rn ro d 59 (7, [v0, v1], .int (σ a1 2) :: st, SH, σ)) ∧
  (∀ (v0 : Option Value) (v1 : Option Value) (st : List Value) (σ : ma_H), ma_rn ro d 59 (7, [v0, v1], st, SH, σ) = ma_rn ro d 59 (8, [v0, v1], .int (nI 5) :: st, SH, σ)) ∧
  (∀ (v0 : Option Value) (v1 : Option Value) (x1 : Int32) (x2 : Int32) (st : List Value) (σ : ma_H), ma_rn ro d 59 (8, [v0, v1], .int x1 :: .int x2 :: st, SH, σ) = if x2 < x1 then ma_rn ro d 59 (14, [v0, v1], st, SH, σ) else ma_rn ro d 59 (11, [v0, v1], st, SH, σ)) ∧
  (∀ (v0 : Option Value) (v1 : Option Value) (st : List Value) (σ : ma_H), ma_rn ro d 59 (11, [v0, v1], st, SH, σ) = ma_rn ro d 59 (13, [v0, v1], .int ((-4)) :: st, SH, σ)) ∧
  (∀ (v0 : Option Value) (v1 : Option Value) (x1 : Int32) (σ : ma_H), ma_rn ro d 59 (13, [v0, v1], [.int x1], SH, σ) = some (some (.int x1), SH, σ)) ∧
  (∀ (v1 : Option Value) (a1 : Nat) (st : List Value) (σ : ma_H), ma_rn ro d 59 (14, [some (.ref a1), v1], st, SH, σ) = ma_rn ro d 59 (15, [some (.ref a1), v1], .ref a1 :: st, SH, σ)) ∧
  (∀ (v0 : Option Value) (v1 : Option Value) (a1 : Nat) (st : List Value) (σ : ma_H) (hc : hk_cls a1 = 7), ma_rn ro d 59 (15, [v0, v1], .ref a1 :: st, SH, σ) = ma_rn ro d 59 (18, [v0, v1], .ref (69) :: st, SH, σ)) ∧
  (∀ (v0 : Option Value) (v1 : Option Value) (a0 : Nat) (σ : ma_H) (hc : hk_cls a0 = 3), ma_rn ro (d + 1) 59 (18, [v0, v1], .ref a0 :: [], SH, σ) = (ma_ev ro d 27 [.ref a0] SH σ).bind (fun q => ma_rn ro (d + 1) 59 (21, [v0, v1], (q.1.toList ++ []), q.2.1, q.2.2))) ∧
  (∀ (v1 : Option Value) (a9 : Nat) (x1 : Int32) (st : List Value) (σ : ma_H), ma_rn ro d 59 (21, [some (.ref a9), v1], .int x1 :: st, SH, σ) = ma_rn ro d 59 (22, [some (.ref a9), some (.int x1)], st, SH, σ)) ∧
  (∀ (v1 : Option Value) (a1 : Nat) (st : List Value) (σ : ma_H), ma_rn ro d 59 (22, [some (.ref a1), v1], st, SH, σ) = ma_rn ro d 59 (23, [some (.ref a1), v1], .ref a1 :: st, SH, σ)) ∧
  (∀ (v0 : Option Value) (v1 : Option Value) (a1 : Nat) (st : List Value) (σ : ma_H) (hc : hk_cls a1 = 7), ma_rn ro d 59 (23, [v0, v1], .ref a1 :: st, SH, σ) = ma_rn ro d 59 (26, [v0, v1], .ref (1) :: st, SH, σ)) ∧
  (∀ (v0 : Option Value) (v1 : Option Value) (st : List Value) (σ : ma_H), ma_rn ro d 59 (26, [v0, v1], st, SH, σ) = ma_rn ro d 59 (27, [v0, v1], .int (nI 0) :: st, SH, σ)) ∧
  (∀ (v0 : Option Value) (v1 : Option Value) (x1 : Int32) (a2 : Nat) (st : List Value) (σ : ma_H) (hc : hk_cls a2 = 5), ma_rn ro d 59 (27, [v0, v1], .int x1 :: .ref a2 :: st, SH, σ) = ma_rn ro d 59 (30, [v0, v1], st, SH, (ma_up σ a2 4 x1))) ∧
  (∀ (v0 : Option Value) (x1 : Int32) (st : List Value) (σ : ma_H), ma_rn ro d 59 (30, [v0, some (.int x1)], st, SH, σ) = ma_rn ro d 59 (31, [v0, some (.int x1)], .int x1 :: st, SH, σ)) ∧
  (∀ (v0 : Option Value) (v1 : Option Value) (x1 : Int32) (st : List Value) (σ : ma_H), ma_rn ro d 59 (31, [v0, v1], .int x1 :: st, SH, σ) = if x1 < nI 0 then ma_rn ro d 59 (39, [v0, v1], st, SH, σ) else ma_rn ro d 59 (34, [v0, v1], st, SH, σ)) ∧
  (∀ (v0 : Option Value) (v1 : Option Value) (st : List Value) (σ : ma_H), ma_rn ro d 59 (34, [v0, v1], st, SH, σ) = ma_rn ro d 59 (36, [v0, v1], .int ((-10)) :: st, SH, σ)) ∧
  (∀ (v0 : Option Value) (x1 : Int32) (st : List Value) (σ : ma_H), ma_rn ro d 59 (36, [v0, some (.int x1)], st, SH, σ) = ma_rn ro d 59 (37, [v0, some (.int x1)], .int x1 :: st, SH, σ)) ∧
  (∀ (v0 : Option Value) (v1 : Option Value) (x1 : Int32) (x2 : Int32) (st : List Value) (σ : ma_H), ma_rn ro d 59 (37, [v0, v1], .int x1 :: .int x2 :: st, SH, σ) = ma_rn ro d 59 (38, [v0, v1], .int (x2 - x1) :: st, SH, σ)) ∧
  (∀ (v0 : Option Value) (v1 : Option Value) (x1 : Int32) (σ : ma_H), ma_rn ro d 59 (38, [v0, v1], [.int x1], SH, σ) = some (some (.int x1), SH, σ)) ∧
  (∀ (v1 : Option Value) (a1 : Nat) (st : List Value) (σ : ma_H), ma_rn ro d 59 (39, [some (.ref a1), v1], st, SH, σ) = ma_rn ro d 59 (40, [some (.ref a1), v1], .ref a1 :: st, SH, σ)) ∧
  (∀ (v0 : Option Value) (v1 : Option Value) (a1 : Nat) (st : List Value) (σ : ma_H) (hc : hk_cls a1 = 7), ma_rn ro d 59 (40, [v0, v1], .ref a1 :: st, SH, σ) = ma_rn ro d 59 (43, [v0, v1], .ref (1) :: st, SH, σ)) ∧
  (∀ (v0 : Option Value) (v1 : Option Value) (a1 : Nat) (st : List Value) (σ : ma_H) (hc : hk_cls a1 = 5), ma_rn ro d 59 (43, [v0, v1], .ref a1 :: st, SH, σ) = ma_rn ro d 59 (46, [v0, v1], .ref (a1 + 15) :: st, SH, σ)) ∧
  (∀ (v1 : Option Value) (a1 : Nat) (st : List Value) (σ : ma_H), ma_rn ro d 59 (46, [some (.ref a1), v1], st, SH, σ) = ma_rn ro d 59 (47, [some (.ref a1), v1], .ref a1 :: st, SH, σ)) ∧
  (∀ (v0 : Option Value) (v1 : Option Value) (a1 : Nat) (st : List Value) (σ : ma_H) (hc : hk_cls a1 = 7), ma_rn ro d 59 (47, [v0, v1], .ref a1 :: st, SH, σ) = ma_rn ro d 59 (50, [v0, v1], .ref (65) :: st, SH, σ)) ∧
  (∀ (v0 : Option Value) (v1 : Option Value) (a1 : Nat) (a0 : Nat) (σ : ma_H) (hc : hk_cls a0 = 2), ma_rn ro (d + 1) 59 (50, [v0, v1], .ref a1 :: .ref a0 :: [], SH, σ) = (ma_ev ro d 18 [.ref a0, .ref a1] SH σ).bind (fun q => ma_rn ro (d + 1) 59 (53, [v0, v1], (q.1.toList ++ []), q.2.1, q.2.2))) ∧
  (∀ (v1 : Option Value) (a1 : Nat) (st : List Value) (σ : ma_H), ma_rn ro d 59 (53, [some (.ref a1), v1], st, SH, σ) = ma_rn ro d 59 (54, [some (.ref a1), v1], .ref a1 :: st, SH, σ)) ∧
  (∀ (v0 : Option Value) (v1 : Option Value) (a1 : Nat) (st : List Value) (σ : ma_H) (hc : hk_cls a1 = 7), ma_rn ro d 59 (54, [v0, v1], .ref a1 :: st, SH, σ) = ma_rn ro d 59 (57, [v0, v1], .ref (1) :: st, SH, σ)) ∧
  (∀ (v0 : Option Value) (v1 : Option Value) (a1 : Nat) (st : List Value) (σ : ma_H), ma_rn ro d 59 (57, [v0, v1], .ref a1 :: st, SH, σ) = ma_rn ro d 59 (58, [v0, v1], .ref a1 :: .ref a1 :: st, SH, σ)) ∧
  (∀ (v0 : Option Value) (v1 : Option Value) (a1 : Nat) (st : List Value) (σ : ma_H) (hc : hk_cls a1 = 5), ma_rn ro d 59 (58, [v0, v1], .ref a1 :: st, SH, σ) = ma_rn ro d 59 (61, [v0, v1], .int (σ a1 2) :: st, SH, σ)) ∧
  (∀ (v0 : Option Value) (v1 : Option Value) (st : List Value) (σ : ma_H), ma_rn ro d 59 (61, [v0, v1], st, SH, σ) = ma_rn ro d 59 (62, [v0, v1], .int (nI 1) :: st, SH, σ)) ∧
  (∀ (v0 : Option Value) (v1 : Option Value) (x1 : Int32) (x2 : Int32) (st : List Value) (σ : ma_H), ma_rn ro d 59 (62, [v0, v1], .int x1 :: .int x2 :: st, SH, σ) = ma_rn ro d 59 (63, [v0, v1], .int (x2 + x1) :: st, SH, σ)) ∧
  (∀ (v0 : Option Value) (v1 : Option Value) (x1 : Int32) (a2 : Nat) (st : List Value) (σ : ma_H) (hc : hk_cls a2 = 5), ma_rn ro d 59 (63, [v0, v1], .int x1 :: .ref a2 :: st, SH, σ) = ma_rn ro d 59 (66, [v0, v1], st, SH, (ma_up σ a2 2 x1))) ∧
  (∀ (v1 : Option Value) (a1 : Nat) (st : List Value) (σ : ma_H), ma_rn ro d 59 (66, [some (.ref a1), v1], st, SH, σ) = ma_rn ro d 59 (67, [some (.ref a1), v1], .ref a1 :: st, SH, σ)) ∧
  (∀ (v0 : Option Value) (v1 : Option Value) (a1 : Nat) (st : List Value) (σ : ma_H) (hc : hk_cls a1 = 7), ma_rn ro d 59 (67, [v0, v1], .ref a1 :: st, SH, σ) = ma_rn ro d 59 (70, [v0, v1], .ref (1) :: st, SH, σ)) ∧
  (∀ (v0 : Option Value) (v1 : Option Value) (a1 : Nat) (st : List Value) (σ : ma_H) (hc : hk_cls a1 = 5), ma_rn ro d 59 (70, [v0, v1], .ref a1 :: st, SH, σ) = ma_rn ro d 59 (73, [v0, v1], .int (σ a1 2) :: st, SH, σ)) ∧
  (∀ (v0 : Option Value) (v1 : Option Value) (st : List Value) (σ : ma_H), ma_rn ro d 59 (73, [v0, v1], st, SH, σ) = ma_rn ro d 59 (74, [v0, v1], .int (nI 1) :: st, SH, σ)) ∧
  (∀ (v0 : Option Value) (v1 : Option Value) (x1 : Int32) (x2 : Int32) (st : List Value) (σ : ma_H), ma_rn ro d 59 (74, [v0, v1], .int x1 :: .int x2 :: st, SH, σ) = ma_rn ro d 59 (75, [v0, v1], .int (x2 - x1) :: st, SH, σ)) ∧
  (∀ (v0 : Option Value) (v1 : Option Value) (x1 : Int32) (σ : ma_H), ma_rn ro d 59 (75, [v0, v1], [.int x1], SH, σ) = some (some (.int x1), SH, σ)) := ⟨fun v1 a1 st σ => q_go e59_0 rfl rfl,
  fun v0 v1 a1 st σ hc => q_getA e59_1 o_59 f_7_12 (by decide) hc,
  fun v0 v1 a1 st σ hc => q_getI e59_4 o_59 f_7_79 (by decide) hc,
  fun v0 v1 st σ => q_iconst e59_7 (by decide),
  fun v0 v1 x1 x2 st σ => (q_cmp e59_8 rfl).trans q_lt,
  fun v0 v1 st σ => q_bipush e59_11 (by decide),
  fun v0 v1 x1 σ => q_iret e59_13 r_59,
  fun v1 a1 st σ => q_go e59_14 rfl rfl,
  fun v0 v1 a1 st σ hc => q_getA e59_15 o_59 f_7_33 (by decide) hc,
  fun v0 v1 a0 σ hc => q_invV (as := []) (rest := []) e59_18 o_59 bn_7_82 c_7_82 m_27 (by decide) rfl rfl (Nat.le_of_ble_eq_true rfl) (Nat.le_of_ble_eq_true rfl) hc,
  fun v1 a9 x1 st σ => q_go e59_21 rfl rfl,
  fun v1 a1 st σ => q_go e59_22 rfl rfl,
  fun v0 v1 a1 st σ hc => q_getA e59_23 o_59 f_7_12 (by decide) hc,
  fun v0 v1 st σ => q_iconst e59_26 (by decide),
  fun v0 v1 x1 a2 st σ hc => q_putI e59_27 o_59 f_7_75 (by decide) rfl hc,
  fun v0 x1 st σ => q_go e59_30 rfl rfl,
  fun v0 v1 x1 st σ => (q_if e59_31 rfl).trans q_lt,
  fun v0 v1 st σ => q_bipush e59_34 (by decide),
  fun v0 x1 st σ => q_go e59_36 rfl rfl,
  fun v0 v1 x1 x2 st σ => q_go e59_37 rfl rfl,
  fun v0 v1 x1 σ => q_iret e59_38 r_59,
  fun v1 a1 st σ => q_go e59_39 rfl rfl,
  fun v0 v1 a1 st σ hc => q_getA e59_40 o_59 f_7_12 (by decide) hc,
  fun v0 v1 a1 st σ hc => q_getA e59_43 o_59 f_7_86 (by decide) hc,
  fun v1 a1 st σ => q_go e59_46 rfl rfl,
  fun v0 v1 a1 st σ hc => q_getA e59_47 o_59 f_7_24 (by decide) hc,
  fun v0 v1 a1 a0 σ hc => q_invV (as := [.ref a1]) (rest := []) e59_50 o_59 bn_7_89 c_7_89 m_18 (by decide) rfl rfl (Nat.le_of_ble_eq_true rfl) (Nat.le_of_ble_eq_true rfl) hc,
  fun v1 a1 st σ => q_go e59_53 rfl rfl,
  fun v0 v1 a1 st σ hc => q_getA e59_54 o_59 f_7_12 (by decide) hc,
  fun v0 v1 a1 st σ => q_go e59_57 rfl rfl,
  fun v0 v1 a1 st σ hc => q_getI e59_58 o_59 f_7_79 (by decide) hc,
  fun v0 v1 st σ => q_iconst e59_61 (by decide),
  fun v0 v1 x1 x2 st σ => q_go e59_62 rfl rfl,
  fun v0 v1 x1 a2 st σ hc => q_putI e59_63 o_59 f_7_79 (by decide) rfl hc,
  fun v1 a1 st σ => q_go e59_66 rfl rfl,
  fun v0 v1 a1 st σ hc => q_getA e59_67 o_59 f_7_12 (by decide) hc,
  fun v0 v1 a1 st σ hc => q_getI e59_70 o_59 f_7_79 (by decide) hc,
  fun v0 v1 st σ => q_iconst e59_73 (by decide),
  fun v0 v1 x1 x2 st σ => q_go e59_74 rfl rfl,
  fun v0 v1 x1 σ => q_iret e59_75 r_59⟩
theorem E59 {ro : ma_RO} {d : Nat} (a0 : Nat) (sh : List ma_Sh) (σ : ma_H) : ma_ev ro d 59 [.ref a0] sh σ = ma_rn ro d 59 (0, [some (.ref a0), none], [], sh, σ) := q_ent x_59 rfl
theorem e60_0 : decode (ma_cd 60) 0 = .ok (.iload_n 1, 1) := (congrArg (fun b => decode b 0) cd_60).trans dX7_deed_0
theorem e60_1 : decode (ma_cd 60) 1 = .ok (.bipush 6, 2) := (congrArg (fun b => decode b 1) cd_60).trans dX7_deed_1
theorem e60_3 : decode (ma_cd 60) 3 = .ok (.invokestatic 67, 3) := (congrArg (fun b => decode b 3) cd_60).trans dX7_deed_3
theorem e60_6 : decode (ma_cd 60) 6 = .ok (.ifCond .eq 5, 3) := (congrArg (fun b => decode b 6) cd_60).trans dX7_deed_6
theorem e60_9 : decode (ma_cd 60) 9 = .ok (.iconst (-1), 1) := (congrArg (fun b => decode b 9) cd_60).trans dX7_deed_9
theorem e60_10 : decode (ma_cd 60) 10 = .ok (.ireturn, 1) := (congrArg (fun b => decode b 10) cd_60).trans dX7_deed_10
theorem e60_11 : decode (ma_cd 60) 11 = .ok (.iload_n 2, 1) := (congrArg (fun b => decode b 11) cd_60).trans dX7_deed_11
theorem e60_12 : decode (ma_cd 60) 12 = .ok (.bipush 9, 2) := (congrArg (fun b => decode b 12) cd_60).trans dX7_deed_12
theorem e60_14 : decode (ma_cd 60) 14 = .ok (.invokestatic 67, 3) := (congrArg (fun b => decode b 14) cd_60).trans dX7_deed_14
theorem e60_17 : decode (ma_cd 60) 17 = .ok (.ifCond .eq 6, 3) := (congrArg (fun b => decode b 17) cd_60).trans dX7_deed_17
theorem e60_20 : decode (ma_cd 60) 20 = .ok (.bipush (-2), 2) := (congrArg (fun b => decode b 20) cd_60).trans dX7_deed_20
theorem e60_22 : decode (ma_cd 60) 22 = .ok (.ireturn, 1) := (congrArg (fun b => decode b 22) cd_60).trans dX7_deed_22
theorem e60_23 : decode (ma_cd 60) 23 = .ok (.aload_n 0, 1) := (congrArg (fun b => decode b 23) cd_60).trans dX7_deed_23
theorem e60_24 : decode (ma_cd 60) 24 = .ok (.getfield 12, 3) := (congrArg (fun b => decode b 24) cd_60).trans dX7_deed_24
theorem e60_27 : decode (ma_cd 60) 27 = .ok (.getfield 93, 3) := (congrArg (fun b => decode b 27) cd_60).trans dX7_deed_27
theorem e60_30 : decode (ma_cd 60) 30 = .ok (.iload_n 1, 1) := (congrArg (fun b => decode b 30) cd_60).trans dX7_deed_30
theorem e60_31 : decode (ma_cd 60) 31 = .ok (.iload_n 2, 1) := (congrArg (fun b => decode b 31) cd_60).trans dX7_deed_31
theorem e60_32 : decode (ma_cd 60) 32 = .ok (.invokevirtual 96, 3) := (congrArg (fun b => decode b 32) cd_60).trans dX7_deed_32
theorem e60_35 : decode (ma_cd 60) 35 = .ok (.ifCond .eq 18, 3) := (congrArg (fun b => decode b 35) cd_60).trans dX7_deed_35
theorem e60_38 : decode (ma_cd 60) 38 = .ok (.aload_n 0, 1) := (congrArg (fun b => decode b 38) cd_60).trans dX7_deed_38
theorem e60_39 : decode (ma_cd 60) 39 = .ok (.getfield 12, 3) := (congrArg (fun b => decode b 39) cd_60).trans dX7_deed_39
theorem e60_42 : decode (ma_cd 60) 42 = .ok (.getfield 93, 3) := (congrArg (fun b => decode b 42) cd_60).trans dX7_deed_42
theorem e60_45 : decode (ma_cd 60) 45 = .ok (.getfield 99, 3) := (congrArg (fun b => decode b 45) cd_60).trans dX7_deed_45
theorem e60_48 : decode (ma_cd 60) 48 = .ok (.iconst 1, 1) := (congrArg (fun b => decode b 48) cd_60).trans dX7_deed_48
theorem e60_49 : decode (ma_cd 60) 49 = .ok (.isub, 1) := (congrArg (fun b => decode b 49) cd_60).trans dX7_deed_49
theorem e60_50 : decode (ma_cd 60) 50 = .ok (.goto 5, 3) := (congrArg (fun b => decode b 50) cd_60).trans dX7_deed_50
theorem e60_53 : decode (ma_cd 60) 53 = .ok (.bipush (-4), 2) := (congrArg (fun b => decode b 53) cd_60).trans dX7_deed_53
theorem e60_55 : decode (ma_cd 60) 55 = .ok (.ireturn, 1) := (congrArg (fun b => decode b 55) cd_60).trans dX7_deed_55
theorem S60 {ro : ma_RO} {d : Nat} : (∀ (v0 : Option Value) (v2 : Option Value) (x1 : Int32) (st : List Value) (σ : ma_H), ma_rn ro d 60 (0, [v0, some (.int x1), v2], st, SH, σ) = ma_rn ro d 60 (1, [v0, some (.int x1), v2], .int x1 :: st, SH, σ)) ∧
  (∀ (v0 : Option Value) (v1 : Option Value) (v2 : Option Value) (st : List Value) (σ : ma_H), ma_rn ro d 60 (1, [v0, v1, v2], st, SH, σ) = ma_rn ro d 60 (3, [v0, v1, v2], .int (nI 6) :: st, SH, σ)) ∧
  (∀ (v0 : Option Value) (v1 : Option Value) (v2 : Option Value) (x1 : Int32) (x2 : Int32) (σ : ma_H), ma_rn ro (d + 1) 60 (3, [v0, v1, v2], .int x2 :: .int x1 :: [], SH, σ) = (ma_ev ro d 88 [.int x1, .int x2] SH σ).bind (fun q => ma_rn ro (d + 1) 60 (6, [v0, v1, v2], (q.1.toList ++ []), q.2.1, q.2.2))) ∧
  (∀ (v0 : Option Value) (v1 : Option Value) (v2 : Option Value) (x1 : Int32) (st : List Value) (σ : ma_H), ma_rn ro d 60 (6, [v0, v1, v2], .int x1 :: st, SH, σ) = if x1 = nI 0 then ma_rn ro d 60 (11, [v0, v1, v2], st, SH, σ) else ma_rn ro d 60 (9, [v0, v1, v2], st, SH, σ)) ∧
  (∀ (v0 : Option Value) (v1 : Option Value) (v2 : Option Value) (st : List Value) (σ : ma_H), ma_rn ro d 60 (9, [v0, v1, v2], st, SH, σ) = ma_rn ro d 60 (10, [v0, v1, v2], .int ((-1)) :: st, SH, σ)) ∧
  (∀ (v0 : Option Value) (v1 : Option Value) (v2 : Option Value) (x1 : Int32) (σ : ma_H), ma_rn ro d 60 (10, [v0, v1, v2], [.int x1], SH, σ) = some (some (.int x1), SH, σ)) ∧
  (∀ (v0 : Option Value) (v1 : Option Value) (x1 : Int32) (st : List Value) (σ : ma_H), ma_rn ro d 60 (11, [v0, v1, some (.int x1)], st, SH, σ) = ma_rn ro d 60 (12, [v0, v1, some (.int x1)], .int x1 :: st, SH, σ)) ∧
  (∀ (v0 : Option Value) (v1 : Option Value) (v2 : Option Value) (st : List Value) (σ : ma_H), ma_rn ro d 60 (12, [v0, v1, v2], st, SH, σ) = ma_rn ro d 60 (14, [v0, v1, v2], .int (nI 9) :: st, SH, σ)) ∧
  (∀ (v0 : Option Value) (v1 : Option Value) (v2 : Option Value) (x1 : Int32) (x2 : Int32) (σ : ma_H), ma_rn ro (d + 1) 60 (14, [v0, v1, v2], .int x2 :: .int x1 :: [], SH, σ) = (ma_ev ro d 88 [.int x1, .int x2] SH σ).bind (fun q => ma_rn ro (d + 1) 60 (17, [v0, v1, v2], (q.1.toList ++ []), q.2.1, q.2.2))) ∧
  (∀ (v0 : Option Value) (v1 : Option Value) (v2 : Option Value) (x1 : Int32) (st : List Value) (σ : ma_H), ma_rn ro d 60 (17, [v0, v1, v2], .int x1 :: st, SH, σ) = if x1 = nI 0 then ma_rn ro d 60 (23, [v0, v1, v2], st, SH, σ) else ma_rn ro d 60 (20, [v0, v1, v2], st, SH, σ)) ∧
  (∀ (v0 : Option Value) (v1 : Option Value) (v2 : Option Value) (st : List Value) (σ : ma_H), ma_rn ro d 60 (20, [v0, v1, v2], st, SH, σ) = ma_rn ro d 60 (22, [v0, v1, v2], .int ((-2)) :: st, SH, σ)) ∧
  (∀ (v0 : Option Value) (v1 : Option Value) (v2 : Option Value) (x1 : Int32) (σ : ma_H), ma_rn ro d 60 (22, [v0, v1, v2], [.int x1], SH, σ) = some (some (.int x1), SH, σ)) ∧
  (∀ (v1 : Option Value) (v2 : Option Value) (a1 : Nat) (st : List Value) (σ : ma_H), ma_rn ro d 60 (23, [some (.ref a1), v1, v2], st, SH, σ) = ma_rn ro d 60 (24, [some (.ref a1), v1, v2], .ref a1 :: st, SH, σ)) ∧
  (∀ (v0 : Option Value) (v1 : Option Value) (v2 : Option Value) (a1 : Nat) (st : List Value) (σ : ma_H) (hc : hk_cls a1 = 7), ma_rn ro d 60 (24, [v0, v1, v2], .ref a1 :: st, SH, σ) = ma_rn ro d 60 (27, [v0, v1, v2], .ref (1) :: st, SH, σ)) ∧
  (∀ (v0 : Option Value) (v1 : Option Value) (v2 : Option Value) (a1 : Nat) (st : List Value) (σ : ma_H) (hc : hk_cls a1 = 5), ma_rn ro d 60 (27, [v0, v1, v2], .ref a1 :: st, SH, σ) = ma_rn ro d 60 (30, [v0, v1, v2], .ref (a1 + 1) :: st, SH, σ)) ∧
  (∀ (v0 : Option Value) (v2 : Option Value) (x1 : Int32) (st : List Value) (σ : ma_H), ma_rn ro d 60 (30, [v0, some (.int x1), v2], st, SH, σ) = ma_rn ro d 60 (31, [v0, some (.int x1), v2], .int x1 :: st, SH, σ)) ∧
  (∀ (v0 : Option Value) (v1 : Option Value) (x1 : Int32) (st : List Value) (σ : ma_H), ma_rn ro d 60 (31, [v0, v1, some (.int x1)], st, SH, σ) = ma_rn ro d 60 (32, [v0, v1, some (.int x1)], .int x1 :: st, SH, σ)) ∧
  (∀ (v0 : Option Value) (v1 : Option Value) (v2 : Option Value) (x1 : Int32) (x2 : Int32) (a0 : Nat) (σ : ma_H) (hc : hk_cls a0 = 6), ma_rn ro (d + 1) 60 (32, [v0, v1, v2], .int x2 :: .int x1 :: .ref a0 :: [], SH, σ) = (ma_ev ro d 51 [.ref a0, .int x1, .int x2] SH σ).bind (fun q => ma_rn ro (d + 1) 60 (35, [v0, v1, v2], (q.1.toList ++ []), q.2.1, q.2.2))) ∧
  (∀ (v0 : Option Value) (v1 : Option Value) (v2 : Option Value) (x1 : Int32) (st : List Value) (σ : ma_H), ma_rn ro d 60 (35, [v0, v1, v2], .int x1 :: st, SH, σ) = if x1 = nI 0 then ma_rn ro d 60 (53, [v0, v1, v2], st, SH, σ) else ma_rn ro d 60 (38, [v0, v1, v2], st, SH, σ)) ∧
  (∀ (v1 : Option Value) (v2 : Option Value) (a1 : Nat) (st : List Value) (σ : ma_H), ma_rn ro d 60 (38, [some (.ref a1), v1, v2], st, SH, σ) = ma_rn ro d 60 (39, [some (.ref a1), v1, v2], .ref a1 :: st, SH, σ)) ∧
  (∀ (v0 : Option Value) (v1 : Option Value) (v2 : Option Value) (a1 : Nat) (st : List Value) (σ : ma_H) (hc : hk_cls a1 = 7), ma_rn ro d 60 (39, [v0, v1, v2], .ref a1 :: st, SH, σ) = ma_rn ro d 60 (42, [v0, v1, v2], .ref (1) :: st, SH, σ)) ∧
  (∀ (v0 : Option Value) (v1 : Option Value) (v2 : Option Value) (a1 : Nat) (st : List Value) (σ : ma_H) (hc : hk_cls a1 = 5), ma_rn ro d 60 (42, [v0, v1, v2], .ref a1 :: st, SH, σ) = ma_rn ro d 60 (45, [v0, v1, v2], .ref (a1 + 1) :: st, SH, σ)) ∧
  (∀ (v0 : Option Value) (v1 : Option Value) (v2 : Option Value) (a1 : Nat) (st : List Value) (σ : ma_H) (hc : hk_cls a1 = 6), ma_rn ro d 60 (45, [v0, v1, v2], .ref a1 :: st, SH, σ) = ma_rn ro d 60 (48, [v0, v1, v2], .int (σ a1 1) :: st, SH, σ)) ∧
  (∀ (v0 : Option Value) (v1 : Option Value) (v2 : Option Value) (st : List Value) (σ : ma_H), ma_rn ro d 60 (48, [v0, v1, v2], st, SH, σ) = ma_rn ro d 60 (49, [v0, v1, v2], .int (nI 1) :: st, SH, σ)) ∧
  (∀ (v0 : Option Value) (v1 : Option Value) (v2 : Option Value) (x1 : Int32) (x2 : Int32) (st : List Value) (σ : ma_H), ma_rn ro d 60 (49, [v0, v1, v2], .int x1 :: .int x2 :: st, SH, σ) = ma_rn ro d 60 (50, [v0, v1, v2], .int (x2 - x1) :: st, SH, σ)) ∧
  (∀ (v0 : Option Value) (v1 : Option Value) (v2 : Option Value) (st : List Value) (σ : ma_H), ma_rn ro d 60 (50, [v0, v1, v2], st, SH, σ) = ma_rn ro d 60 (55, [v0, v1, v2], st, SH, σ)) ∧
  (∀ (v0 : Option Value) (v1 : Option Value) (v2 : Option Value) (st : List Value) (σ : ma_H), ma_rn ro d 60 (53, [v0, v1, v2], st, SH, σ) = ma_rn ro d 60 (55, [v0, v1, v2], .int ((-4)) :: st, SH, σ)) ∧
  (∀ (v0 : Option Value) (v1 : Option Value) (v2 : Option Value) (x1 : Int32) (σ : ma_H), ma_rn ro d 60 (55, [v0, v1, v2], [.int x1], SH, σ) = some (some (.int x1), SH, σ)) := ⟨fun v0 v2 x1 st σ => q_go e60_0 rfl rfl,
  fun v0 v1 v2 st σ => q_bipush e60_1 (by decide),
  fun v0 v1 v2 x1 x2 σ => q_invS (as := [.int x1, .int x2]) (rest := []) e60_3 o_60 bn_7_67 c_7_67 ⟨m_88.1, m_88.2.1, m_88.2.2.1⟩ rfl rfl (Nat.le_of_ble_eq_true rfl) (Nat.le_of_ble_eq_true rfl),
  fun v0 v1 v2 x1 st σ => (q_if e60_6 rfl).trans q_eq,
  fun v0 v1 v2 st σ => q_iconst e60_9 (by decide),
  fun v0 v1 v2 x1 σ => q_iret e60_10 r_60,
  fun v0 v1 x1 st σ => q_go e60_11 rfl rfl,
  fun v0 v1 v2 st σ => q_bipush e60_12 (by decide),
  fun v0 v1 v2 x1 x2 σ => q_invS (as := [.int x1, .int x2]) (rest := []) e60_14 o_60 bn_7_67 c_7_67 ⟨m_88.1, m_88.2.1, m_88.2.2.1⟩ rfl rfl (Nat.le_of_ble_eq_true rfl) (Nat.le_of_ble_eq_true rfl),
  fun v0 v1 v2 x1 st σ => (q_if e60_17 rfl).trans q_eq,
  fun v0 v1 v2 st σ => q_bipush e60_20 (by decide),
  fun v0 v1 v2 x1 σ => q_iret e60_22 r_60,
  fun v1 v2 a1 st σ => q_go e60_23 rfl rfl,
  fun v0 v1 v2 a1 st σ hc => q_getA e60_24 o_60 f_7_12 (by decide) hc,
  fun v0 v1 v2 a1 st σ hc => q_getA e60_27 o_60 f_7_93 (by decide) hc,
  fun v0 v2 x1 st σ => q_go e60_30 rfl rfl,
  fun v0 v1 x1 st σ => q_go e60_31 rfl rfl,
  fun v0 v1 v2 x1 x2 a0 σ hc => q_invV (as := [.int x1, .int x2]) (rest := []) e60_32 o_60 bn_7_96 c_7_96 m_51 (by decide) rfl rfl (Nat.le_of_ble_eq_true rfl) (Nat.le_of_ble_eq_true rfl) hc,
  fun v0 v1 v2 x1 st σ => (q_if e60_35 rfl).trans q_eq,
  fun v1 v2 a1 st σ => q_go e60_38 rfl rfl,
  fun v0 v1 v2 a1 st σ hc => q_getA e60_39 o_60 f_7_12 (by decide) hc,
  fun v0 v1 v2 a1 st σ hc => q_getA e60_42 o_60 f_7_93 (by decide) hc,
  fun v0 v1 v2 a1 st σ hc => q_getI e60_45 o_60 f_7_99 (by decide) hc,
  fun v0 v1 v2 st σ => q_iconst e60_48 (by decide),
  fun v0 v1 v2 x1 x2 st σ => q_go e60_49 rfl rfl,
  fun v0 v1 v2 st σ => q_goto e60_50 rfl,
  fun v0 v1 v2 st σ => q_bipush e60_53 (by decide),
  fun v0 v1 v2 x1 σ => q_iret e60_55 r_60⟩
theorem E60 {ro : ma_RO} {d : Nat} (a0 : Nat) (x1 : Int32) (x2 : Int32) (sh : List ma_Sh) (σ : ma_H) : ma_ev ro d 60 [.ref a0, .int x1, .int x2] sh σ = ma_rn ro d 60 (0, [some (.ref a0), some (.int x1), some (.int x2)], [], sh, σ) := q_ent x_60 rfl
theorem e61_0 : decode (ma_cd 61) 0 = .ok (.aload_n 0, 1) := (congrArg (fun b => decode b 0) cd_61).trans dX7_of_0
theorem e61_1 : decode (ma_cd 61) 1 = .ok (.getfield 12, 3) := (congrArg (fun b => decode b 1) cd_61).trans dX7_of_1
theorem e61_4 : decode (ma_cd 61) 4 = .ok (.getfield 93, 3) := (congrArg (fun b => decode b 4) cd_61).trans dX7_of_4
theorem e61_7 : decode (ma_cd 61) 7 = .ok (.iload_n 1, 1) := (congrArg (fun b => decode b 7) cd_61).trans dX7_of_7
theorem e61_8 : decode (ma_cd 61) 8 = .ok (.invokevirtual 102, 3) := (congrArg (fun b => decode b 8) cd_61).trans dX7_of_8
theorem e61_11 : decode (ma_cd 61) 11 = .ok (.astore_n 3, 1) := (congrArg (fun b => decode b 11) cd_61).trans dX7_of_11
theorem e61_12 : decode (ma_cd 61) 12 = .ok (.aload_n 3, 1) := (congrArg (fun b => decode b 12) cd_61).trans dX7_of_12
theorem e61_13 : decode (ma_cd 61) 13 = .ok (.ifnonnull 6, 3) := (congrArg (fun b => decode b 13) cd_61).trans dX7_of_13
theorem e61_16 : decode (ma_cd 61) 16 = .ok (.ldc 106, 2) := (congrArg (fun b => decode b 16) cd_61).trans dX7_of_16
theorem e61_18 : decode (ma_cd 61) 18 = .ok (.ireturn, 1) := (congrArg (fun b => decode b 18) cd_61).trans dX7_of_18
theorem e61_19 : decode (ma_cd 61) 19 = .ok (.iload_n 2, 1) := (congrArg (fun b => decode b 19) cd_61).trans dX7_of_19
theorem e61_20 : decode (ma_cd 61) 20 = .ok (.tableswitch 132 0 8 #[52, 57, 62, 75, 80, 85, 90, 95, 117], 52) := (congrArg (fun b => decode b 20) cd_61).trans dX7_of_20
theorem e61_72 : decode (ma_cd 61) 72 = .ok (.aload_n 3, 1) := (congrArg (fun b => decode b 72) cd_61).trans dX7_of_72
theorem e61_73 : decode (ma_cd 61) 73 = .ok (.getfield 107, 3) := (congrArg (fun b => decode b 73) cd_61).trans dX7_of_73
theorem e61_76 : decode (ma_cd 61) 76 = .ok (.ireturn, 1) := (congrArg (fun b => decode b 76) cd_61).trans dX7_of_76
theorem e61_77 : decode (ma_cd 61) 77 = .ok (.aload_n 3, 1) := (congrArg (fun b => decode b 77) cd_61).trans dX7_of_77
theorem e61_78 : decode (ma_cd 61) 78 = .ok (.getfield 110, 3) := (congrArg (fun b => decode b 78) cd_61).trans dX7_of_78
theorem e61_81 : decode (ma_cd 61) 81 = .ok (.ireturn, 1) := (congrArg (fun b => decode b 81) cd_61).trans dX7_of_81
theorem e61_82 : decode (ma_cd 61) 82 = .ok (.aload_n 3, 1) := (congrArg (fun b => decode b 82) cd_61).trans dX7_of_82
theorem e61_83 : decode (ma_cd 61) 83 = .ok (.getfield 113, 3) := (congrArg (fun b => decode b 83) cd_61).trans dX7_of_83
theorem e61_86 : decode (ma_cd 61) 86 = .ok (.ifCond .eq 7, 3) := (congrArg (fun b => decode b 86) cd_61).trans dX7_of_86
theorem e61_89 : decode (ma_cd 61) 89 = .ok (.iconst 1, 1) := (congrArg (fun b => decode b 89) cd_61).trans dX7_of_89
theorem e61_90 : decode (ma_cd 61) 90 = .ok (.goto 4, 3) := (congrArg (fun b => decode b 90) cd_61).trans dX7_of_90
theorem e61_93 : decode (ma_cd 61) 93 = .ok (.iconst 0, 1) := (congrArg (fun b => decode b 93) cd_61).trans dX7_of_93
theorem e61_94 : decode (ma_cd 61) 94 = .ok (.ireturn, 1) := (congrArg (fun b => decode b 94) cd_61).trans dX7_of_94
theorem e61_95 : decode (ma_cd 61) 95 = .ok (.aload_n 3, 1) := (congrArg (fun b => decode b 95) cd_61).trans dX7_of_95
theorem e61_96 : decode (ma_cd 61) 96 = .ok (.getfield 117, 3) := (congrArg (fun b => decode b 96) cd_61).trans dX7_of_96
theorem e61_99 : decode (ma_cd 61) 99 = .ok (.ireturn, 1) := (congrArg (fun b => decode b 99) cd_61).trans dX7_of_99
theorem e61_100 : decode (ma_cd 61) 100 = .ok (.aload_n 3, 1) := (congrArg (fun b => decode b 100) cd_61).trans dX7_of_100
theorem e61_101 : decode (ma_cd 61) 101 = .ok (.getfield 120, 3) := (congrArg (fun b => decode b 101) cd_61).trans dX7_of_101
theorem e61_104 : decode (ma_cd 61) 104 = .ok (.ireturn, 1) := (congrArg (fun b => decode b 104) cd_61).trans dX7_of_104
theorem e61_105 : decode (ma_cd 61) 105 = .ok (.aload_n 3, 1) := (congrArg (fun b => decode b 105) cd_61).trans dX7_of_105
theorem e61_106 : decode (ma_cd 61) 106 = .ok (.getfield 123, 3) := (congrArg (fun b => decode b 106) cd_61).trans dX7_of_106
theorem e61_109 : decode (ma_cd 61) 109 = .ok (.ireturn, 1) := (congrArg (fun b => decode b 109) cd_61).trans dX7_of_109
theorem e61_110 : decode (ma_cd 61) 110 = .ok (.aload_n 3, 1) := (congrArg (fun b => decode b 110) cd_61).trans dX7_of_110
theorem e61_111 : decode (ma_cd 61) 111 = .ok (.getfield 126, 3) := (congrArg (fun b => decode b 111) cd_61).trans dX7_of_111
theorem e61_114 : decode (ma_cd 61) 114 = .ok (.ireturn, 1) := (congrArg (fun b => decode b 114) cd_61).trans dX7_of_114
theorem e61_115 : decode (ma_cd 61) 115 = .ok (.aload_n 3, 1) := (congrArg (fun b => decode b 115) cd_61).trans dX7_of_115
theorem e61_116 : decode (ma_cd 61) 116 = .ok (.aload_n 0, 1) := (congrArg (fun b => decode b 116) cd_61).trans dX7_of_116
theorem e61_117 : decode (ma_cd 61) 117 = .ok (.getfield 12, 3) := (congrArg (fun b => decode b 117) cd_61).trans dX7_of_117
theorem e61_120 : decode (ma_cd 61) 120 = .ok (.getfield 86, 3) := (congrArg (fun b => decode b 120) cd_61).trans dX7_of_120
theorem e61_123 : decode (ma_cd 61) 123 = .ok (.aload_n 0, 1) := (congrArg (fun b => decode b 123) cd_61).trans dX7_of_123
theorem e61_124 : decode (ma_cd 61) 124 = .ok (.getfield 12, 3) := (congrArg (fun b => decode b 124) cd_61).trans dX7_of_124
theorem e61_127 : decode (ma_cd 61) 127 = .ok (.getfield 93, 3) := (congrArg (fun b => decode b 127) cd_61).trans dX7_of_127
theorem e61_130 : decode (ma_cd 61) 130 = .ok (.getfield 129, 3) := (congrArg (fun b => decode b 130) cd_61).trans dX7_of_130
theorem e61_133 : decode (ma_cd 61) 133 = .ok (.invokevirtual 132, 3) := (congrArg (fun b => decode b 133) cd_61).trans dX7_of_133
theorem e61_136 : decode (ma_cd 61) 136 = .ok (.ireturn, 1) := (congrArg (fun b => decode b 136) cd_61).trans dX7_of_136
theorem e61_137 : decode (ma_cd 61) 137 = .ok (.aload_n 3, 1) := (congrArg (fun b => decode b 137) cd_61).trans dX7_of_137
theorem e61_138 : decode (ma_cd 61) 138 = .ok (.aload_n 0, 1) := (congrArg (fun b => decode b 138) cd_61).trans dX7_of_138
theorem e61_139 : decode (ma_cd 61) 139 = .ok (.getfield 12, 3) := (congrArg (fun b => decode b 139) cd_61).trans dX7_of_139
theorem e61_142 : decode (ma_cd 61) 142 = .ok (.getfield 86, 3) := (congrArg (fun b => decode b 142) cd_61).trans dX7_of_142
theorem e61_145 : decode (ma_cd 61) 145 = .ok (.getfield 136, 3) := (congrArg (fun b => decode b 145) cd_61).trans dX7_of_145
theorem e61_148 : decode (ma_cd 61) 148 = .ok (.invokevirtual 139, 3) := (congrArg (fun b => decode b 148) cd_61).trans dX7_of_148
theorem e61_151 : decode (ma_cd 61) 151 = .ok (.ireturn, 1) := (congrArg (fun b => decode b 151) cd_61).trans dX7_of_151
theorem e61_152 : decode (ma_cd 61) 152 = .ok (.ldc 106, 2) := (congrArg (fun b => decode b 152) cd_61).trans dX7_of_152
theorem e61_154 : decode (ma_cd 61) 154 = .ok (.ireturn, 1) := (congrArg (fun b => decode b 154) cd_61).trans dX7_of_154
theorem S61 {ro : ma_RO} {d : Nat} : (∀ (v1 : Option Value) (v2 : Option Value) (v3 : Option Value) (a1 : Nat) (st : List Value) (σ : ma_H), ma_rn ro d 61 (0, [some (.ref a1), v1, v2, v3], st, SH, σ) = ma_rn ro d 61 (1, [some (.ref a1), v1, v2, v3], .ref a1 :: st, SH, σ)) ∧
  (∀ (v0 : Option Value) (v1 : Option Value) (v2 : Option Value) (v3 : Option Value) (a1 : Nat) (st : List Value) (σ : ma_H) (hc : hk_cls a1 = 7), ma_rn ro d 61 (1, [v0, v1, v2, v3], .ref a1 :: st, SH, σ) = ma_rn ro d 61 (4, [v0, v1, v2, v3], .ref (1) :: st, SH, σ)) ∧
  (∀ (v0 : Option Value) (v1 : Option Value) (v2 : Option Value) (v3 : Option Value) (a1 : Nat) (st : List Value) (σ : ma_H) (hc : hk_cls a1 = 5), ma_rn ro d 61 (4, [v0, v1, v2, v3], .ref a1 :: st, SH, σ) = ma_rn ro d 61 (7, [v0, v1, v2, v3], .ref (a1 + 1) :: st, SH, σ)) ∧
  (∀ (v0 : Option Value) (v2 : Option Value) (v3 : Option Value) (x1 : Int32) (st : List Value) (σ : ma_H), ma_rn ro d 61 (7, [v0, some (.int x1), v2, v3], st, SH, σ) = ma_rn ro d 61 (8, [v0, some (.int x1), v2, v3], .int x1 :: st, SH, σ)) ∧
  (∀ (v0 : Option Value) (v1 : Option Value) (v2 : Option Value) (v3 : Option Value) (x1 : Int32) (a0 : Nat) (σ : ma_H) (hc : hk_cls a0 = 6), ma_rn ro (d + 1) 61 (8, [v0, v1, v2, v3], .int x1 :: .ref a0 :: [], SH, σ) = (ma_ev ro d 50 [.ref a0, .int x1] SH σ).bind (fun q => ma_rn ro (d + 1) 61 (11, [v0, v1, v2, v3], (q.1.toList ++ []), q.2.1, q.2.2))) ∧
  (∀ (v0 : Option Value) (v1 : Option Value) (v3 : Option Value) (x9 : Int32) (a1 : Nat) (st : List Value) (σ : ma_H), ma_rn ro d 61 (11, [v0, v1, some (.int x9), v3], .ref a1 :: st, SH, σ) = ma_rn ro d 61 (12, [v0, v1, some (.int x9), some (.ref a1)], st, SH, σ)) ∧
  (∀ (v0 : Option Value) (v1 : Option Value) (v3 : Option Value) (x9 : Int32) (st : List Value) (σ : ma_H), ma_rn ro d 61 (11, [v0, v1, some (.int x9), v3], .null :: st, SH, σ) = ma_rn ro d 61 (12, [v0, v1, some (.int x9), some .null], st, SH, σ)) ∧
  (∀ (v0 : Option Value) (v1 : Option Value) (v2 : Option Value) (a1 : Nat) (st : List Value) (σ : ma_H), ma_rn ro d 61 (12, [v0, v1, v2, some (.ref a1)], st, SH, σ) = ma_rn ro d 61 (13, [v0, v1, v2, some (.ref a1)], .ref a1 :: st, SH, σ)) ∧
  (∀ (v0 : Option Value) (v1 : Option Value) (v2 : Option Value) (st : List Value) (σ : ma_H), ma_rn ro d 61 (12, [v0, v1, v2, some .null], st, SH, σ) = ma_rn ro d 61 (13, [v0, v1, v2, some .null], .null :: st, SH, σ)) ∧
  (∀ (v0 : Option Value) (v1 : Option Value) (v2 : Option Value) (v3 : Option Value) (a1 : Nat) (st : List Value) (σ : ma_H), ma_rn ro d 61 (13, [v0, v1, v2, v3], .ref a1 :: st, SH, σ) = ma_rn ro d 61 (19, [v0, v1, v2, v3], st, SH, σ)) ∧
  (∀ (v0 : Option Value) (v1 : Option Value) (v2 : Option Value) (v3 : Option Value) (st : List Value) (σ : ma_H), ma_rn ro d 61 (13, [v0, v1, v2, v3], .null :: st, SH, σ) = ma_rn ro d 61 (16, [v0, v1, v2, v3], st, SH, σ)) ∧
  (∀ (v0 : Option Value) (v1 : Option Value) (v2 : Option Value) (v3 : Option Value) (st : List Value) (σ : ma_H), ma_rn ro d 61 (16, [v0, v1, v2, v3], st, SH, σ) = ma_rn ro d 61 (18, [v0, v1, v2, v3], .int ((-999999)) :: st, SH, σ)) ∧
  (∀ (v0 : Option Value) (v1 : Option Value) (v2 : Option Value) (v3 : Option Value) (x1 : Int32) (σ : ma_H), ma_rn ro d 61 (18, [v0, v1, v2, v3], [.int x1], SH, σ) = some (some (.int x1), SH, σ)) ∧
  (∀ (v0 : Option Value) (v1 : Option Value) (v3 : Option Value) (x1 : Int32) (st : List Value) (σ : ma_H), ma_rn ro d 61 (19, [v0, v1, some (.int x1), v3], st, SH, σ) = ma_rn ro d 61 (20, [v0, v1, some (.int x1), v3], .int x1 :: st, SH, σ)) ∧
  (∀ (v0 : Option Value) (v1 : Option Value) (v2 : Option Value) (v3 : Option Value) (x1 : Int32) (st : List Value) (σ : ma_H), ma_rn ro d 61 (20, [v0, v1, v2, v3], .int x1 :: st, SH, σ) = if x1 = nI 0 then ma_rn ro d 61 (72, [v0, v1, v2, v3], st, SH, σ) else if x1 = nI 1 then ma_rn ro d 61 (77, [v0, v1, v2, v3], st, SH, σ) else if x1 = nI 2 then ma_rn ro d 61 (82, [v0, v1, v2, v3], st, SH, σ) else if x1 = nI 3 then ma_rn ro d 61 (95, [v0, v1, v2, v3], st, SH, σ) else if x1 = nI 4 then ma_rn ro d 61 (100, [v0, v1, v2, v3], st, SH, σ) else if x1 = nI 5 then ma_rn ro d 61 (105, [v0, v1, v2, v3], st, SH, σ) else if x1 = nI 6 then ma_rn ro d 61 (110, [v0, v1, v2, v3], st, SH, σ) else if x1 = nI 7 then ma_rn ro d 61 (115, [v0, v1, v2, v3], st, SH, σ) else if x1 = nI 8 then ma_rn ro d 61 (137, [v0, v1, v2, v3], st, SH, σ) else ma_rn ro d 61 (152, [v0, v1, v2, v3], st, SH, σ)) ∧
  (∀ (v0 : Option Value) (v1 : Option Value) (v2 : Option Value) (a1 : Nat) (st : List Value) (σ : ma_H), ma_rn ro d 61 (72, [v0, v1, v2, some (.ref a1)], st, SH, σ) = ma_rn ro d 61 (73, [v0, v1, v2, some (.ref a1)], .ref a1 :: st, SH, σ)) ∧
  (∀ (v0 : Option Value) (v1 : Option Value) (v2 : Option Value) (st : List Value) (σ : ma_H), ma_rn ro d 61 (72, [v0, v1, v2, some .null], st, SH, σ) = ma_rn ro d 61 (73, [v0, v1, v2, some .null], .null :: st, SH, σ)) ∧
  (∀ (v0 : Option Value) (v1 : Option Value) (v2 : Option Value) (v3 : Option Value) (a1 : Nat) (st : List Value) (σ : ma_H) (hc : hk_cls a1 = 1), ma_rn ro d 61 (73, [v0, v1, v2, v3], .ref a1 :: st, SH, σ) = ma_rn ro d 61 (76, [v0, v1, v2, v3], .int (σ a1 1) :: st, SH, σ)) ∧
  (∀ (v0 : Option Value) (v1 : Option Value) (v2 : Option Value) (v3 : Option Value) (x1 : Int32) (σ : ma_H), ma_rn ro d 61 (76, [v0, v1, v2, v3], [.int x1], SH, σ) = some (some (.int x1), SH, σ)) ∧
  (∀ (v0 : Option Value) (v1 : Option Value) (v2 : Option Value) (a1 : Nat) (st : List Value) (σ : ma_H), ma_rn ro d 61 (77, [v0, v1, v2, some (.ref a1)], st, SH, σ) = ma_rn ro d 61 (78, [v0, v1, v2, some (.ref a1)], .ref a1 :: st, SH, σ)) ∧
  (∀ (v0 : Option Value) (v1 : Option Value) (v2 : Option Value) (st : List Value) (σ : ma_H), ma_rn ro d 61 (77, [v0, v1, v2, some .null], st, SH, σ) = ma_rn ro d 61 (78, [v0, v1, v2, some .null], .null :: st, SH, σ)) ∧
  (∀ (v0 : Option Value) (v1 : Option Value) (v2 : Option Value) (v3 : Option Value) (a1 : Nat) (st : List Value) (σ : ma_H) (hc : hk_cls a1 = 1), ma_rn ro d 61 (78, [v0, v1, v2, v3], .ref a1 :: st, SH, σ) = ma_rn ro d 61 (81, [v0, v1, v2, v3], .int (σ a1 2) :: st, SH, σ)) ∧
  (∀ (v0 : Option Value) (v1 : Option Value) (v2 : Option Value) (v3 : Option Value) (x1 : Int32) (σ : ma_H), ma_rn ro d 61 (81, [v0, v1, v2, v3], [.int x1], SH, σ) = some (some (.int x1), SH, σ)) ∧
  (∀ (v0 : Option Value) (v1 : Option Value) (v2 : Option Value) (a1 : Nat) (st : List Value) (σ : ma_H), ma_rn ro d 61 (82, [v0, v1, v2, some (.ref a1)], st, SH, σ) = ma_rn ro d 61 (83, [v0, v1, v2, some (.ref a1)], .ref a1 :: st, SH, σ)) ∧
  (∀ (v0 : Option Value) (v1 : Option Value) (v2 : Option Value) (st : List Value) (σ : ma_H), ma_rn ro d 61 (82, [v0, v1, v2, some .null], st, SH, σ) = ma_rn ro d 61 (83, [v0, v1, v2, some .null], .null :: st, SH, σ)) ∧
  (∀ (v0 : Option Value) (v1 : Option Value) (v2 : Option Value) (v3 : Option Value) (a1 : Nat) (st : List Value) (σ : ma_H) (hc : hk_cls a1 = 1), ma_rn ro d 61 (83, [v0, v1, v2, v3], .ref a1 :: st, SH, σ) = ma_rn ro d 61 (86, [v0, v1, v2, v3], .int (σ a1 3) :: st, SH, σ)) ∧
  (∀ (v0 : Option Value) (v1 : Option Value) (v2 : Option Value) (v3 : Option Value) (x1 : Int32) (st : List Value) (σ : ma_H), ma_rn ro d 61 (86, [v0, v1, v2, v3], .int x1 :: st, SH, σ) = if x1 = nI 0 then ma_rn ro d 61 (93, [v0, v1, v2, v3], st, SH, σ) else ma_rn ro d 61 (89, [v0, v1, v2, v3], st, SH, σ)) ∧
  (∀ (v0 : Option Value) (v1 : Option Value) (v2 : Option Value) (v3 : Option Value) (st : List Value) (σ : ma_H), ma_rn ro d 61 (89, [v0, v1, v2, v3], st, SH, σ) = ma_rn ro d 61 (90, [v0, v1, v2, v3], .int (nI 1) :: st, SH, σ)) ∧
  (∀ (v0 : Option Value) (v1 : Option Value) (v2 : Option Value) (v3 : Option Value) (st : List Value) (σ : ma_H), ma_rn ro d 61 (90, [v0, v1, v2, v3], st, SH, σ) = ma_rn ro d 61 (94, [v0, v1, v2, v3], st, SH, σ)) ∧
  (∀ (v0 : Option Value) (v1 : Option Value) (v2 : Option Value) (v3 : Option Value) (st : List Value) (σ : ma_H), ma_rn ro d 61 (93, [v0, v1, v2, v3], st, SH, σ) = ma_rn ro d 61 (94, [v0, v1, v2, v3], .int (nI 0) :: st, SH, σ)) ∧
  (∀ (v0 : Option Value) (v1 : Option Value) (v2 : Option Value) (v3 : Option Value) (x1 : Int32) (σ : ma_H), ma_rn ro d 61 (94, [v0, v1, v2, v3], [.int x1], SH, σ) = some (some (.int x1), SH, σ)) ∧
  (∀ (v0 : Option Value) (v1 : Option Value) (v2 : Option Value) (a1 : Nat) (st : List Value) (σ : ma_H), ma_rn ro d 61 (95, [v0, v1, v2, some (.ref a1)], st, SH, σ) = ma_rn ro d 61 (96, [v0, v1, v2, some (.ref a1)], .ref a1 :: st, SH, σ)) ∧
  (∀ (v0 : Option Value) (v1 : Option Value) (v2 : Option Value) (st : List Value) (σ : ma_H), ma_rn ro d 61 (95, [v0, v1, v2, some .null], st, SH, σ) = ma_rn ro d 61 (96, [v0, v1, v2, some .null], .null :: st, SH, σ)) ∧
  (∀ (v0 : Option Value) (v1 : Option Value) (v2 : Option Value) (v3 : Option Value) (a1 : Nat) (st : List Value) (σ : ma_H) (hc : hk_cls a1 = 1), ma_rn ro d 61 (96, [v0, v1, v2, v3], .ref a1 :: st, SH, σ) = ma_rn ro d 61 (99, [v0, v1, v2, v3], .int (σ a1 4) :: st, SH, σ)) ∧
  (∀ (v0 : Option Value) (v1 : Option Value) (v2 : Option Value) (v3 : Option Value) (x1 : Int32) (σ : ma_H), ma_rn ro d 61 (99, [v0, v1, v2, v3], [.int x1], SH, σ) = some (some (.int x1), SH, σ)) ∧
  (∀ (v0 : Option Value) (v1 : Option Value) (v2 : Option Value) (a1 : Nat) (st : List Value) (σ : ma_H), ma_rn ro d 61 (100, [v0, v1, v2, some (.ref a1)], st, SH, σ) = ma_rn ro d 61 (101, [v0, v1, v2, some (.ref a1)], .ref a1 :: st, SH, σ)) ∧
  (∀ (v0 : Option Value) (v1 : Option Value) (v2 : Option Value) (st : List Value) (σ : ma_H), ma_rn ro d 61 (100, [v0, v1, v2, some .null], st, SH, σ) = ma_rn ro d 61 (101, [v0, v1, v2, some .null], .null :: st, SH, σ)) ∧
  (∀ (v0 : Option Value) (v1 : Option Value) (v2 : Option Value) (v3 : Option Value) (a1 : Nat) (st : List Value) (σ : ma_H) (hc : hk_cls a1 = 1), ma_rn ro d 61 (101, [v0, v1, v2, v3], .ref a1 :: st, SH, σ) = ma_rn ro d 61 (104, [v0, v1, v2, v3], .int (σ a1 5) :: st, SH, σ)) ∧
  (∀ (v0 : Option Value) (v1 : Option Value) (v2 : Option Value) (v3 : Option Value) (x1 : Int32) (σ : ma_H), ma_rn ro d 61 (104, [v0, v1, v2, v3], [.int x1], SH, σ) = some (some (.int x1), SH, σ)) ∧
  (∀ (v0 : Option Value) (v1 : Option Value) (v2 : Option Value) (a1 : Nat) (st : List Value) (σ : ma_H), ma_rn ro d 61 (105, [v0, v1, v2, some (.ref a1)], st, SH, σ) = ma_rn ro d 61 (106, [v0, v1, v2, some (.ref a1)], .ref a1 :: st, SH, σ)) ∧
  (∀ (v0 : Option Value) (v1 : Option Value) (v2 : Option Value) (st : List Value) (σ : ma_H), ma_rn ro d 61 (105, [v0, v1, v2, some .null], st, SH, σ) = ma_rn ro d 61 (106, [v0, v1, v2, some .null], .null :: st, SH, σ)) ∧
  (∀ (v0 : Option Value) (v1 : Option Value) (v2 : Option Value) (v3 : Option Value) (a1 : Nat) (st : List Value) (σ : ma_H) (hc : hk_cls a1 = 1), ma_rn ro d 61 (106, [v0, v1, v2, v3], .ref a1 :: st, SH, σ) = ma_rn ro d 61 (109, [v0, v1, v2, v3], .int (σ a1 6) :: st, SH, σ)) ∧
  (∀ (v0 : Option Value) (v1 : Option Value) (v2 : Option Value) (v3 : Option Value) (x1 : Int32) (σ : ma_H), ma_rn ro d 61 (109, [v0, v1, v2, v3], [.int x1], SH, σ) = some (some (.int x1), SH, σ)) ∧
  (∀ (v0 : Option Value) (v1 : Option Value) (v2 : Option Value) (a1 : Nat) (st : List Value) (σ : ma_H), ma_rn ro d 61 (110, [v0, v1, v2, some (.ref a1)], st, SH, σ) = ma_rn ro d 61 (111, [v0, v1, v2, some (.ref a1)], .ref a1 :: st, SH, σ)) ∧
  (∀ (v0 : Option Value) (v1 : Option Value) (v2 : Option Value) (st : List Value) (σ : ma_H), ma_rn ro d 61 (110, [v0, v1, v2, some .null], st, SH, σ) = ma_rn ro d 61 (111, [v0, v1, v2, some .null], .null :: st, SH, σ)) ∧
  (∀ (v0 : Option Value) (v1 : Option Value) (v2 : Option Value) (v3 : Option Value) (a1 : Nat) (st : List Value) (σ : ma_H) (hc : hk_cls a1 = 1), ma_rn ro d 61 (111, [v0, v1, v2, v3], .ref a1 :: st, SH, σ) = ma_rn ro d 61 (114, [v0, v1, v2, v3], .int (σ a1 7) :: st, SH, σ)) ∧
  (∀ (v0 : Option Value) (v1 : Option Value) (v2 : Option Value) (v3 : Option Value) (x1 : Int32) (σ : ma_H), ma_rn ro d 61 (114, [v0, v1, v2, v3], [.int x1], SH, σ) = some (some (.int x1), SH, σ)) ∧
  (∀ (v0 : Option Value) (v1 : Option Value) (v2 : Option Value) (a1 : Nat) (st : List Value) (σ : ma_H), ma_rn ro d 61 (115, [v0, v1, v2, some (.ref a1)], st, SH, σ) = ma_rn ro d 61 (116, [v0, v1, v2, some (.ref a1)], .ref a1 :: st, SH, σ)) ∧
  (∀ (v0 : Option Value) (v1 : Option Value) (v2 : Option Value) (st : List Value) (σ : ma_H), ma_rn ro d 61 (115, [v0, v1, v2, some .null], st, SH, σ) = ma_rn ro d 61 (116, [v0, v1, v2, some .null], .null :: st, SH, σ)) ∧
  (∀ (v1 : Option Value) (v2 : Option Value) (v3 : Option Value) (a1 : Nat) (st : List Value) (σ : ma_H), ma_rn ro d 61 (116, [some (.ref a1), v1, v2, v3], st, SH, σ) = ma_rn ro d 61 (117, [some (.ref a1), v1, v2, v3], .ref a1 :: st, SH, σ)) ∧
  (∀ (v0 : Option Value) (v1 : Option Value) (v2 : Option Value) (v3 : Option Value) (a1 : Nat) (st : List Value) (σ : ma_H) (hc : hk_cls a1 = 7), ma_rn ro d 61 (117, [v0, v1, v2, v3], .ref a1 :: st, SH, σ) = ma_rn ro d 61 (120, [v0, v1, v2, v3], .ref (1) :: st, SH, σ)) ∧
  (∀ (v0 : Option Value) (v1 : Option Value) (v2 : Option Value) (v3 : Option Value) (a1 : Nat) (st : List Value) (σ : ma_H) (hc : hk_cls a1 = 5), ma_rn ro d 61 (120, [v0, v1, v2, v3], .ref a1 :: st, SH, σ) = ma_rn ro d 61 (123, [v0, v1, v2, v3], .ref (a1 + 15) :: st, SH, σ)) ∧
  (∀ (v1 : Option Value) (v2 : Option Value) (v3 : Option Value) (a1 : Nat) (st : List Value) (σ : ma_H), ma_rn ro d 61 (123, [some (.ref a1), v1, v2, v3], st, SH, σ) = ma_rn ro d 61 (124, [some (.ref a1), v1, v2, v3], .ref a1 :: st, SH, σ)) ∧
  (∀ (v0 : Option Value) (v1 : Option Value) (v2 : Option Value) (v3 : Option Value) (a1 : Nat) (st : List Value) (σ : ma_H) (hc : hk_cls a1 = 7), ma_rn ro d 61 (124, [v0, v1, v2, v3], .ref a1 :: st, SH, σ) = ma_rn ro d 61 (127, [v0, v1, v2, v3], .ref (1) :: st, SH, σ)) ∧
  (∀ (v0 : Option Value) (v1 : Option Value) (v2 : Option Value) (v3 : Option Value) (a1 : Nat) (st : List Value) (σ : ma_H) (hc : hk_cls a1 = 5), ma_rn ro d 61 (127, [v0, v1, v2, v3], .ref a1 :: st, SH, σ) = ma_rn ro d 61 (130, [v0, v1, v2, v3], .ref (a1 + 1) :: st, SH, σ)) ∧
  (∀ (v0 : Option Value) (v1 : Option Value) (v2 : Option Value) (v3 : Option Value) (a1 : Nat) (st : List Value) (σ : ma_H) (hc : hk_cls a1 = 6), ma_rn ro d 61 (130, [v0, v1, v2, v3], .ref a1 :: st, SH, σ) = ma_rn ro d 61 (133, [v0, v1, v2, v3], .int (σ a1 3) :: st, SH, σ)) ∧
  (∀ (v0 : Option Value) (v1 : Option Value) (v2 : Option Value) (v3 : Option Value) (a1 : Nat) (x2 : Int32) (a0 : Nat) (σ : ma_H) (hc : hk_cls a0 = 1), ma_rn ro (d + 1) 61 (133, [v0, v1, v2, v3], .int x2 :: .ref a1 :: .ref a0 :: [], SH, σ) = (ma_ev ro d 11 [.ref a0, .ref a1, .int x2] SH σ).bind (fun q => ma_rn ro (d + 1) 61 (136, [v0, v1, v2, v3], (q.1.toList ++ []), q.2.1, q.2.2))) ∧
  (∀ (v0 : Option Value) (v1 : Option Value) (v2 : Option Value) (v3 : Option Value) (x1 : Int32) (σ : ma_H), ma_rn ro d 61 (136, [v0, v1, v2, v3], [.int x1], SH, σ) = some (some (.int x1), SH, σ)) ∧
  (∀ (v0 : Option Value) (v1 : Option Value) (v2 : Option Value) (a1 : Nat) (st : List Value) (σ : ma_H), ma_rn ro d 61 (137, [v0, v1, v2, some (.ref a1)], st, SH, σ) = ma_rn ro d 61 (138, [v0, v1, v2, some (.ref a1)], .ref a1 :: st, SH, σ)) ∧
  (∀ (v0 : Option Value) (v1 : Option Value) (v2 : Option Value) (st : List Value) (σ : ma_H), ma_rn ro d 61 (137, [v0, v1, v2, some .null], st, SH, σ) = ma_rn ro d 61 (138, [v0, v1, v2, some .null], .null :: st, SH, σ)) ∧
  (∀ (v1 : Option Value) (v2 : Option Value) (v3 : Option Value) (a1 : Nat) (st : List Value) (σ : ma_H), ma_rn ro d 61 (138, [some (.ref a1), v1, v2, v3], st, SH, σ) = ma_rn ro d 61 (139, [some (.ref a1), v1, v2, v3], .ref a1 :: st, SH, σ)) ∧
  (∀ (v0 : Option Value) (v1 : Option Value) (v2 : Option Value) (v3 : Option Value) (a1 : Nat) (st : List Value) (σ : ma_H) (hc : hk_cls a1 = 7), ma_rn ro d 61 (139, [v0, v1, v2, v3], .ref a1 :: st, SH, σ) = ma_rn ro d 61 (142, [v0, v1, v2, v3], .ref (1) :: st, SH, σ)) ∧
  (∀ (v0 : Option Value) (v1 : Option Value) (v2 : Option Value) (v3 : Option Value) (a1 : Nat) (st : List Value) (σ : ma_H) (hc : hk_cls a1 = 5), ma_rn ro d 61 (142, [v0, v1, v2, v3], .ref a1 :: st, SH, σ) = ma_rn ro d 61 (145, [v0, v1, v2, v3], .ref (a1 + 15) :: st, SH, σ)) ∧
  (∀ (v0 : Option Value) (v1 : Option Value) (v2 : Option Value) (v3 : Option Value) (a1 : Nat) (st : List Value) (σ : ma_H) (hc : hk_cls a1 = 2), ma_rn ro d 61 (145, [v0, v1, v2, v3], .ref a1 :: st, SH, σ) = ma_rn ro d 61 (148, [v0, v1, v2, v3], .int (σ a1 0) :: st, SH, σ)) ∧
  (∀ (v0 : Option Value) (v1 : Option Value) (v2 : Option Value) (v3 : Option Value) (x1 : Int32) (a0 : Nat) (σ : ma_H) (hc : hk_cls a0 = 1), ma_rn ro (d + 1) 61 (148, [v0, v1, v2, v3], .int x1 :: .ref a0 :: [], SH, σ) = (ma_ev ro d 15 [.ref a0, .int x1] SH σ).bind (fun q => ma_rn ro (d + 1) 61 (151, [v0, v1, v2, v3], (q.1.toList ++ []), q.2.1, q.2.2))) ∧
  (∀ (v0 : Option Value) (v1 : Option Value) (v2 : Option Value) (v3 : Option Value) (x1 : Int32) (σ : ma_H), ma_rn ro d 61 (151, [v0, v1, v2, v3], [.int x1], SH, σ) = some (some (.int x1), SH, σ)) ∧
  (∀ (v0 : Option Value) (v1 : Option Value) (v2 : Option Value) (v3 : Option Value) (st : List Value) (σ : ma_H), ma_rn ro d 61 (152, [v0, v1, v2, v3], st, SH, σ) = ma_rn ro d 61 (154, [v0, v1, v2, v3], .int ((-999999)) :: st, SH, σ)) ∧
  (∀ (v0 : Option Value) (v1 : Option Value) (v2 : Option Value) (v3 : Option Value) (x1 : Int32) (σ : ma_H), ma_rn ro d 61 (154, [v0, v1, v2, v3], [.int x1], SH, σ) = some (some (.int x1), SH, σ)) := ⟨fun v1 v2 v3 a1 st σ => q_go e61_0 rfl rfl,
  fun v0 v1 v2 v3 a1 st σ hc => q_getA e61_1 o_61 f_7_12 (by decide) hc,
  fun v0 v1 v2 v3 a1 st σ hc => q_getA e61_4 o_61 f_7_93 (by decide) hc,
  fun v0 v2 v3 x1 st σ => q_go e61_7 rfl rfl,
  fun v0 v1 v2 v3 x1 a0 σ hc => q_invV (as := [.int x1]) (rest := []) e61_8 o_61 bn_7_102 c_7_102 m_50 (by decide) rfl rfl (Nat.le_of_ble_eq_true rfl) (Nat.le_of_ble_eq_true rfl) hc,
  fun v0 v1 v3 x9 a1 st σ => q_go e61_11 rfl rfl,
  fun v0 v1 v3 x9 st σ => q_go e61_11 rfl rfl,
  fun v0 v1 v2 a1 st σ => q_go e61_12 rfl rfl,
  fun v0 v1 v2 st σ => q_go e61_12 rfl rfl,
  fun v0 v1 v2 v3 a1 st σ => q_ifnonnullR e61_13 rfl,
  fun v0 v1 v2 v3 st σ => q_ifnonnullN e61_13 rfl,
  fun v0 v1 v2 v3 st σ => q_ldc e61_16 o_61 k_7_106,
  fun v0 v1 v2 v3 x1 σ => q_iret e61_18 r_61,
  fun v0 v1 v3 x1 st σ => q_go e61_19 rfl rfl,
  fun v0 v1 v2 v3 x1 st σ => by
    by_cases h0 : x1 = nI 0
    · rw [if_pos h0]; exact q_tswIn e61_20 h0 (k := 0) (by decide) (by decide) (by decide) rfl rfl
    rw [if_neg h0]
    by_cases h1 : x1 = nI 1
    · rw [if_pos h1]; exact q_tswIn e61_20 h1 (k := 1) (by decide) (by decide) (by decide) rfl rfl
    rw [if_neg h1]
    by_cases h2 : x1 = nI 2
    · rw [if_pos h2]; exact q_tswIn e61_20 h2 (k := 2) (by decide) (by decide) (by decide) rfl rfl
    rw [if_neg h2]
    by_cases h3 : x1 = nI 3
    · rw [if_pos h3]; exact q_tswIn e61_20 h3 (k := 3) (by decide) (by decide) (by decide) rfl rfl
    rw [if_neg h3]
    by_cases h4 : x1 = nI 4
    · rw [if_pos h4]; exact q_tswIn e61_20 h4 (k := 4) (by decide) (by decide) (by decide) rfl rfl
    rw [if_neg h4]
    by_cases h5 : x1 = nI 5
    · rw [if_pos h5]; exact q_tswIn e61_20 h5 (k := 5) (by decide) (by decide) (by decide) rfl rfl
    rw [if_neg h5]
    by_cases h6 : x1 = nI 6
    · rw [if_pos h6]; exact q_tswIn e61_20 h6 (k := 6) (by decide) (by decide) (by decide) rfl rfl
    rw [if_neg h6]
    by_cases h7 : x1 = nI 7
    · rw [if_pos h7]; exact q_tswIn e61_20 h7 (k := 7) (by decide) (by decide) (by decide) rfl rfl
    rw [if_neg h7]
    by_cases h8 : x1 = nI 8
    · rw [if_pos h8]; exact q_tswIn e61_20 h8 (k := 8) (by decide) (by decide) (by decide) rfl rfl
    rw [if_neg h8]
    have g0 := q_nnI h0 (by decide)
    have g1 := q_nnI h1 (by decide)
    have g2 := q_nnI h2 (by decide)
    have g3 := q_nnI h3 (by decide)
    have g4 := q_nnI h4 (by decide)
    have g5 := q_nnI h5 (by decide)
    have g6 := q_nnI h6 (by decide)
    have g7 := q_nnI h7 (by decide)
    have g8 := q_nnI h8 (by decide)
    exact q_tswOut e61_20 (by omega) rfl,
  fun v0 v1 v2 a1 st σ => q_go e61_72 rfl rfl,
  fun v0 v1 v2 st σ => q_go e61_72 rfl rfl,
  fun v0 v1 v2 v3 a1 st σ hc => q_getI e61_73 o_61 f_7_107 (by decide) hc,
  fun v0 v1 v2 v3 x1 σ => q_iret e61_76 r_61,
  fun v0 v1 v2 a1 st σ => q_go e61_77 rfl rfl,
  fun v0 v1 v2 st σ => q_go e61_77 rfl rfl,
  fun v0 v1 v2 v3 a1 st σ hc => q_getI e61_78 o_61 f_7_110 (by decide) hc,
  fun v0 v1 v2 v3 x1 σ => q_iret e61_81 r_61,
  fun v0 v1 v2 a1 st σ => q_go e61_82 rfl rfl,
  fun v0 v1 v2 st σ => q_go e61_82 rfl rfl,
  fun v0 v1 v2 v3 a1 st σ hc => q_getI e61_83 o_61 f_7_113 (by decide) hc,
  fun v0 v1 v2 v3 x1 st σ => (q_if e61_86 rfl).trans q_eq,
  fun v0 v1 v2 v3 st σ => q_iconst e61_89 (by decide),
  fun v0 v1 v2 v3 st σ => q_goto e61_90 rfl,
  fun v0 v1 v2 v3 st σ => q_iconst e61_93 (by decide),
  fun v0 v1 v2 v3 x1 σ => q_iret e61_94 r_61,
  fun v0 v1 v2 a1 st σ => q_go e61_95 rfl rfl,
  fun v0 v1 v2 st σ => q_go e61_95 rfl rfl,
  fun v0 v1 v2 v3 a1 st σ hc => q_getI e61_96 o_61 f_7_117 (by decide) hc,
  fun v0 v1 v2 v3 x1 σ => q_iret e61_99 r_61,
  fun v0 v1 v2 a1 st σ => q_go e61_100 rfl rfl,
  fun v0 v1 v2 st σ => q_go e61_100 rfl rfl,
  fun v0 v1 v2 v3 a1 st σ hc => q_getI e61_101 o_61 f_7_120 (by decide) hc,
  fun v0 v1 v2 v3 x1 σ => q_iret e61_104 r_61,
  fun v0 v1 v2 a1 st σ => q_go e61_105 rfl rfl,
  fun v0 v1 v2 st σ => q_go e61_105 rfl rfl,
  fun v0 v1 v2 v3 a1 st σ hc => q_getI e61_106 o_61 f_7_123 (by decide) hc,
  fun v0 v1 v2 v3 x1 σ => q_iret e61_109 r_61,
  fun v0 v1 v2 a1 st σ => q_go e61_110 rfl rfl,
  fun v0 v1 v2 st σ => q_go e61_110 rfl rfl,
  fun v0 v1 v2 v3 a1 st σ hc => q_getI e61_111 o_61 f_7_126 (by decide) hc,
  fun v0 v1 v2 v3 x1 σ => q_iret e61_114 r_61,
  fun v0 v1 v2 a1 st σ => q_go e61_115 rfl rfl,
  fun v0 v1 v2 st σ => q_go e61_115 rfl rfl,
  fun v1 v2 v3 a1 st σ => q_go e61_116 rfl rfl,
  fun v0 v1 v2 v3 a1 st σ hc => q_getA e61_117 o_61 f_7_12 (by decide) hc,
  fun v0 v1 v2 v3 a1 st σ hc => q_getA e61_120 o_61 f_7_86 (by decide) hc,
  fun v1 v2 v3 a1 st σ => q_go e61_123 rfl rfl,
  fun v0 v1 v2 v3 a1 st σ hc => q_getA e61_124 o_61 f_7_12 (by decide) hc,
  fun v0 v1 v2 v3 a1 st σ hc => q_getA e61_127 o_61 f_7_93 (by decide) hc,
  fun v0 v1 v2 v3 a1 st σ hc => q_getI e61_130 o_61 f_7_129 (by decide) hc,
  fun v0 v1 v2 v3 a1 x2 a0 σ hc => q_invV (as := [.ref a1, .int x2]) (rest := []) e61_133 o_61 bn_7_132 c_7_132 m_11 (by decide) rfl rfl (Nat.le_of_ble_eq_true rfl) (Nat.le_of_ble_eq_true rfl) hc,
  fun v0 v1 v2 v3 x1 σ => q_iret e61_136 r_61,
  fun v0 v1 v2 a1 st σ => q_go e61_137 rfl rfl,
  fun v0 v1 v2 st σ => q_go e61_137 rfl rfl,
  fun v1 v2 v3 a1 st σ => q_go e61_138 rfl rfl,
  fun v0 v1 v2 v3 a1 st σ hc => q_getA e61_139 o_61 f_7_12 (by decide) hc,
  fun v0 v1 v2 v3 a1 st σ hc => q_getA e61_142 o_61 f_7_86 (by decide) hc,
  fun v0 v1 v2 v3 a1 st σ hc => q_getI e61_145 o_61 f_7_136 (by decide) hc,
  fun v0 v1 v2 v3 x1 a0 σ hc => q_invV (as := [.int x1]) (rest := []) e61_148 o_61 bn_7_139 c_7_139 m_15 (by decide) rfl rfl (Nat.le_of_ble_eq_true rfl) (Nat.le_of_ble_eq_true rfl) hc,
  fun v0 v1 v2 v3 x1 σ => q_iret e61_151 r_61,
  fun v0 v1 v2 v3 st σ => q_ldc e61_152 o_61 k_7_106,
  fun v0 v1 v2 v3 x1 σ => q_iret e61_154 r_61⟩
theorem E61 {ro : ma_RO} {d : Nat} (a0 : Nat) (x1 : Int32) (x2 : Int32) (sh : List ma_Sh) (σ : ma_H) : ma_ev ro d 61 [.ref a0, .int x1, .int x2] sh σ = ma_rn ro d 61 (0, [some (.ref a0), some (.int x1), some (.int x2), none], [], sh, σ) := q_ent x_61 rfl
theorem e62_0 : decode (ma_cd 62) 0 = .ok (.aload_n 0, 1) := (congrArg (fun b => decode b 0) cd_62).trans dX7_row_0
theorem e62_1 : decode (ma_cd 62) 1 = .ok (.getfield 12, 3) := (congrArg (fun b => decode b 1) cd_62).trans dX7_row_1
theorem e62_4 : decode (ma_cd 62) 4 = .ok (.getfield 93, 3) := (congrArg (fun b => decode b 4) cd_62).trans dX7_row_4
theorem e62_7 : decode (ma_cd 62) 7 = .ok (.iload_n 1, 1) := (congrArg (fun b => decode b 7) cd_62).trans dX7_row_7
theorem e62_8 : decode (ma_cd 62) 8 = .ok (.invokevirtual 102, 3) := (congrArg (fun b => decode b 8) cd_62).trans dX7_row_8
theorem e62_11 : decode (ma_cd 62) 11 = .ok (.astore 4, 2) := (congrArg (fun b => decode b 11) cd_62).trans dX7_row_11
theorem e62_13 : decode (ma_cd 62) 13 = .ok (.aload 4, 2) := (congrArg (fun b => decode b 13) cd_62).trans dX7_row_13
theorem e62_15 : decode (ma_cd 62) 15 = .ok (.ifnull 11, 3) := (congrArg (fun b => decode b 15) cd_62).trans dX7_row_15
theorem e62_18 : decode (ma_cd 62) 18 = .ok (.iload_n 2, 1) := (congrArg (fun b => decode b 18) cd_62).trans dX7_row_18
theorem e62_19 : decode (ma_cd 62) 19 = .ok (.iconst 3, 1) := (congrArg (fun b => decode b 19) cd_62).trans dX7_row_19
theorem e62_20 : decode (ma_cd 62) 20 = .ok (.invokestatic 67, 3) := (congrArg (fun b => decode b 20) cd_62).trans dX7_row_20
theorem e62_23 : decode (ma_cd 62) 23 = .ok (.ifCond .eq 5, 3) := (congrArg (fun b => decode b 23) cd_62).trans dX7_row_23
theorem e62_26 : decode (ma_cd 62) 26 = .ok (.iconst (-1), 1) := (congrArg (fun b => decode b 26) cd_62).trans dX7_row_26
theorem e62_27 : decode (ma_cd 62) 27 = .ok (.ireturn, 1) := (congrArg (fun b => decode b 27) cd_62).trans dX7_row_27
theorem e62_28 : decode (ma_cd 62) 28 = .ok (.iload_n 3, 1) := (congrArg (fun b => decode b 28) cd_62).trans dX7_row_28
theorem e62_29 : decode (ma_cd 62) 29 = .ok (.bipush 9, 2) := (congrArg (fun b => decode b 29) cd_62).trans dX7_row_29
theorem e62_31 : decode (ma_cd 62) 31 = .ok (.invokestatic 67, 3) := (congrArg (fun b => decode b 31) cd_62).trans dX7_row_31
theorem e62_34 : decode (ma_cd 62) 34 = .ok (.ifCond .eq 6, 3) := (congrArg (fun b => decode b 34) cd_62).trans dX7_row_34
theorem e62_37 : decode (ma_cd 62) 37 = .ok (.bipush (-2), 2) := (congrArg (fun b => decode b 37) cd_62).trans dX7_row_37
theorem e62_39 : decode (ma_cd 62) 39 = .ok (.ireturn, 1) := (congrArg (fun b => decode b 39) cd_62).trans dX7_row_39
theorem e62_40 : decode (ma_cd 62) 40 = .ok (.aload 4, 2) := (congrArg (fun b => decode b 40) cd_62).trans dX7_row_40
theorem e62_42 : decode (ma_cd 62) 42 = .ok (.getfield 107, 3) := (congrArg (fun b => decode b 42) cd_62).trans dX7_row_42
theorem e62_45 : decode (ma_cd 62) 45 = .ok (.bipush 6, 2) := (congrArg (fun b => decode b 45) cd_62).trans dX7_row_45
theorem e62_47 : decode (ma_cd 62) 47 = .ok (.if_icmp .eq 6, 3) := (congrArg (fun b => decode b 47) cd_62).trans dX7_row_47
theorem e62_50 : decode (ma_cd 62) 50 = .ok (.bipush (-3), 2) := (congrArg (fun b => decode b 50) cd_62).trans dX7_row_50
theorem e62_52 : decode (ma_cd 62) 52 = .ok (.ireturn, 1) := (congrArg (fun b => decode b 52) cd_62).trans dX7_row_52
theorem e62_53 : decode (ma_cd 62) 53 = .ok (.aload 4, 2) := (congrArg (fun b => decode b 53) cd_62).trans dX7_row_53
theorem e62_55 : decode (ma_cd 62) 55 = .ok (.iload_n 2, 1) := (congrArg (fun b => decode b 55) cd_62).trans dX7_row_55
theorem e62_56 : decode (ma_cd 62) 56 = .ok (.invokevirtual 143, 3) := (congrArg (fun b => decode b 56) cd_62).trans dX7_row_56
theorem e62_59 : decode (ma_cd 62) 59 = .ok (.istore 5, 2) := (congrArg (fun b => decode b 59) cd_62).trans dX7_row_59
theorem e62_61 : decode (ma_cd 62) 61 = .ok (.aload 4, 2) := (congrArg (fun b => decode b 61) cd_62).trans dX7_row_61
theorem e62_63 : decode (ma_cd 62) 63 = .ok (.iload_n 2, 1) := (congrArg (fun b => decode b 63) cd_62).trans dX7_row_63
theorem e62_64 : decode (ma_cd 62) 64 = .ok (.iload_n 3, 1) := (congrArg (fun b => decode b 64) cd_62).trans dX7_row_64
theorem e62_65 : decode (ma_cd 62) 65 = .ok (.invokevirtual 146, 3) := (congrArg (fun b => decode b 65) cd_62).trans dX7_row_65
theorem e62_68 : decode (ma_cd 62) 68 = .ok (.iload 5, 2) := (congrArg (fun b => decode b 68) cd_62).trans dX7_row_68
theorem e62_70 : decode (ma_cd 62) 70 = .ok (.ireturn, 1) := (congrArg (fun b => decode b 70) cd_62).trans dX7_row_70
theorem S62 {ro : ma_RO} {d : Nat} : (∀ (v1 : Option Value) (v2 : Option Value) (v3 : Option Value) (v4 : Option Value) (v5 : Option Value) (a1 : Nat) (st : List Value) (σ : ma_H), ma_rn ro d 62 (0, [some (.ref a1), v1, v2, v3, v4, v5], st, SH, σ) = ma_rn ro d 62 (1, [some (.ref a1), v1, v2, v3, v4, v5], .ref a1 :: st, SH, σ)) ∧
  (∀ (v0 : Option Value) (v1 : Option Value) (v2 : Option Value) (v3 : Option Value) (v4 : Option Value) (v5 : Option Value) (a1 : Nat) (st : List Value) (σ : ma_H) (hc : hk_cls a1 = 7), ma_rn ro d 62 (1, [v0, v1, v2, v3, v4, v5], .ref a1 :: st, SH, σ) = ma_rn ro d 62 (4, [v0, v1, v2, v3, v4, v5], .ref (1) :: st, SH, σ)) ∧
  (∀ (v0 : Option Value) (v1 : Option Value) (v2 : Option Value) (v3 : Option Value) (v4 : Option Value) (v5 : Option Value) (a1 : Nat) (st : List Value) (σ : ma_H) (hc : hk_cls a1 = 5), ma_rn ro d 62 (4, [v0, v1, v2, v3, v4, v5], .ref a1 :: st, SH, σ) = ma_rn ro d 62 (7, [v0, v1, v2, v3, v4, v5], .ref (a1 + 1) :: st, SH, σ)) ∧
  (∀ (v0 : Option Value) (v2 : Option Value) (v3 : Option Value) (v4 : Option Value) (v5 : Option Value) (x1 : Int32) (st : List Value) (σ : ma_H), ma_rn ro d 62 (7, [v0, some (.int x1), v2, v3, v4, v5], st, SH, σ) = ma_rn ro d 62 (8, [v0, some (.int x1), v2, v3, v4, v5], .int x1 :: st, SH, σ)) ∧
  (∀ (v0 : Option Value) (v1 : Option Value) (v2 : Option Value) (v3 : Option Value) (v4 : Option Value) (v5 : Option Value) (x1 : Int32) (a0 : Nat) (σ : ma_H) (hc : hk_cls a0 = 6), ma_rn ro (d + 1) 62 (8, [v0, v1, v2, v3, v4, v5], .int x1 :: .ref a0 :: [], SH, σ) = (ma_ev ro d 50 [.ref a0, .int x1] SH σ).bind (fun q => ma_rn ro (d + 1) 62 (11, [v0, v1, v2, v3, v4, v5], (q.1.toList ++ []), q.2.1, q.2.2))) ∧
  (∀ (v0 : Option Value) (v1 : Option Value) (v2 : Option Value) (v4 : Option Value) (v5 : Option Value) (x9 : Int32) (a1 : Nat) (st : List Value) (σ : ma_H), ma_rn ro d 62 (11, [v0, v1, v2, some (.int x9), v4, v5], .ref a1 :: st, SH, σ) = ma_rn ro d 62 (13, [v0, v1, v2, some (.int x9), some (.ref a1), v5], st, SH, σ)) ∧
  (∀ (v0 : Option Value) (v1 : Option Value) (v2 : Option Value) (v4 : Option Value) (v5 : Option Value) (x9 : Int32) (st : List Value) (σ : ma_H), ma_rn ro d 62 (11, [v0, v1, v2, some (.int x9), v4, v5], .null :: st, SH, σ) = ma_rn ro d 62 (13, [v0, v1, v2, some (.int x9), some .null, v5], st, SH, σ)) ∧
  (∀ (v0 : Option Value) (v1 : Option Value) (v2 : Option Value) (v3 : Option Value) (v5 : Option Value) (a1 : Nat) (st : List Value) (σ : ma_H), ma_rn ro d 62 (13, [v0, v1, v2, v3, some (.ref a1), v5], st, SH, σ) = ma_rn ro d 62 (15, [v0, v1, v2, v3, some (.ref a1), v5], .ref a1 :: st, SH, σ)) ∧
  (∀ (v0 : Option Value) (v1 : Option Value) (v2 : Option Value) (v3 : Option Value) (v5 : Option Value) (st : List Value) (σ : ma_H), ma_rn ro d 62 (13, [v0, v1, v2, v3, some .null, v5], st, SH, σ) = ma_rn ro d 62 (15, [v0, v1, v2, v3, some .null, v5], .null :: st, SH, σ)) ∧
  (∀ (v0 : Option Value) (v1 : Option Value) (v2 : Option Value) (v3 : Option Value) (v4 : Option Value) (v5 : Option Value) (a1 : Nat) (st : List Value) (σ : ma_H), ma_rn ro d 62 (15, [v0, v1, v2, v3, v4, v5], .ref a1 :: st, SH, σ) = ma_rn ro d 62 (18, [v0, v1, v2, v3, v4, v5], st, SH, σ)) ∧
  (∀ (v0 : Option Value) (v1 : Option Value) (v2 : Option Value) (v3 : Option Value) (v4 : Option Value) (v5 : Option Value) (st : List Value) (σ : ma_H), ma_rn ro d 62 (15, [v0, v1, v2, v3, v4, v5], .null :: st, SH, σ) = ma_rn ro d 62 (26, [v0, v1, v2, v3, v4, v5], st, SH, σ)) ∧
  (∀ (v0 : Option Value) (v1 : Option Value) (v3 : Option Value) (v4 : Option Value) (v5 : Option Value) (x1 : Int32) (st : List Value) (σ : ma_H), ma_rn ro d 62 (18, [v0, v1, some (.int x1), v3, v4, v5], st, SH, σ) = ma_rn ro d 62 (19, [v0, v1, some (.int x1), v3, v4, v5], .int x1 :: st, SH, σ)) ∧
  (∀ (v0 : Option Value) (v1 : Option Value) (v2 : Option Value) (v3 : Option Value) (v4 : Option Value) (v5 : Option Value) (st : List Value) (σ : ma_H), ma_rn ro d 62 (19, [v0, v1, v2, v3, v4, v5], st, SH, σ) = ma_rn ro d 62 (20, [v0, v1, v2, v3, v4, v5], .int (nI 3) :: st, SH, σ)) ∧
  (∀ (v0 : Option Value) (v1 : Option Value) (v2 : Option Value) (v3 : Option Value) (v4 : Option Value) (v5 : Option Value) (x1 : Int32) (x2 : Int32) (σ : ma_H), ma_rn ro (d + 1) 62 (20, [v0, v1, v2, v3, v4, v5], .int x2 :: .int x1 :: [], SH, σ) = (ma_ev ro d 88 [.int x1, .int x2] SH σ).bind (fun q => ma_rn ro (d + 1) 62 (23, [v0, v1, v2, v3, v4, v5], (q.1.toList ++ []), q.2.1, q.2.2))) ∧
  (∀ (v0 : Option Value) (v1 : Option Value) (v2 : Option Value) (v3 : Option Value) (v4 : Option Value) (v5 : Option Value) (x1 : Int32) (st : List Value) (σ : ma_H), ma_rn ro d 62 (23, [v0, v1, v2, v3, v4, v5], .int x1 :: st, SH, σ) = if x1 = nI 0 then ma_rn ro d 62 (28, [v0, v1, v2, v3, v4, v5], st, SH, σ) else ma_rn ro d 62 (26, [v0, v1, v2, v3, v4, v5], st, SH, σ)) ∧
  (∀ (v0 : Option Value) (v1 : Option Value) (v2 : Option Value) (v3 : Option Value) (v4 : Option Value) (v5 : Option Value) (st : List Value) (σ : ma_H), ma_rn ro d 62 (26, [v0, v1, v2, v3, v4, v5], st, SH, σ) = ma_rn ro d 62 (27, [v0, v1, v2, v3, v4, v5], .int ((-1)) :: st, SH, σ)) ∧
  (∀ (v0 : Option Value) (v1 : Option Value) (v2 : Option Value) (v3 : Option Value) (v4 : Option Value) (v5 : Option Value) (x1 : Int32) (σ : ma_H), ma_rn ro d 62 (27, [v0, v1, v2, v3, v4, v5], [.int x1], SH, σ) = some (some (.int x1), SH, σ)) ∧
  (∀ (v0 : Option Value) (v1 : Option Value) (v2 : Option Value) (v4 : Option Value) (v5 : Option Value) (x1 : Int32) (st : List Value) (σ : ma_H), ma_rn ro d 62 (28, [v0, v1, v2, some (.int x1), v4, v5], st, SH, σ) = ma_rn ro d 62 (29, [v0, v1, v2, some (.int x1), v4, v5], .int x1 :: st, SH, σ)) ∧
  (∀ (v0 : Option Value) (v1 : Option Value) (v2 : Option Value) (v3 : Option Value) (v4 : Option Value) (v5 : Option Value) (st : List Value) (σ : ma_H), ma_rn ro d 62 (29, [v0, v1, v2, v3, v4, v5], st, SH, σ) = ma_rn ro d 62 (31, [v0, v1, v2, v3, v4, v5], .int (nI 9) :: st, SH, σ)) ∧
  (∀ (v0 : Option Value) (v1 : Option Value) (v2 : Option Value) (v3 : Option Value) (v4 : Option Value) (v5 : Option Value) (x1 : Int32) (x2 : Int32) (σ : ma_H), ma_rn ro (d + 1) 62 (31, [v0, v1, v2, v3, v4, v5], .int x2 :: .int x1 :: [], SH, σ) = (ma_ev ro d 88 [.int x1, .int x2] SH σ).bind (fun q => ma_rn ro (d + 1) 62 (34, [v0, v1, v2, v3, v4, v5], (q.1.toList ++ []), q.2.1, q.2.2))) ∧
  (∀ (v0 : Option Value) (v1 : Option Value) (v2 : Option Value) (v3 : Option Value) (v4 : Option Value) (v5 : Option Value) (x1 : Int32) (st : List Value) (σ : ma_H), ma_rn ro d 62 (34, [v0, v1, v2, v3, v4, v5], .int x1 :: st, SH, σ) = if x1 = nI 0 then ma_rn ro d 62 (40, [v0, v1, v2, v3, v4, v5], st, SH, σ) else ma_rn ro d 62 (37, [v0, v1, v2, v3, v4, v5], st, SH, σ)) ∧
  (∀ (v0 : Option Value) (v1 : Option Value) (v2 : Option Value) (v3 : Option Value) (v4 : Option Value) (v5 : Option Value) (st : List Value) (σ : ma_H), ma_rn ro d 62 (37, [v0, v1, v2, v3, v4, v5], st, SH, σ) = ma_rn ro d 62 (39, [v0, v1, v2, v3, v4, v5], .int ((-2)) :: st, SH, σ)) ∧
  (∀ (v0 : Option Value) (v1 : Option Value) (v2 : Option Value) (v3 : Option Value) (v4 : Option Value) (v5 : Option Value) (x1 : Int32) (σ : ma_H), ma_rn ro d 62 (39, [v0, v1, v2, v3, v4, v5], [.int x1], SH, σ) = some (some (.int x1), SH, σ)) ∧
  (∀ (v0 : Option Value) (v1 : Option Value) (v2 : Option Value) (v3 : Option Value) (v5 : Option Value) (a1 : Nat) (st : List Value) (σ : ma_H), ma_rn ro d 62 (40, [v0, v1, v2, v3, some (.ref a1), v5], st, SH, σ) = ma_rn ro d 62 (42, [v0, v1, v2, v3, some (.ref a1), v5], .ref a1 :: st, SH, σ)) ∧
  (∀ (v0 : Option Value) (v1 : Option Value) (v2 : Option Value) (v3 : Option Value) (v5 : Option Value) (st : List Value) (σ : ma_H), ma_rn ro d 62 (40, [v0, v1, v2, v3, some .null, v5], st, SH, σ) = ma_rn ro d 62 (42, [v0, v1, v2, v3, some .null, v5], .null :: st, SH, σ)) ∧
  (∀ (v0 : Option Value) (v1 : Option Value) (v2 : Option Value) (v3 : Option Value) (v4 : Option Value) (v5 : Option Value) (a1 : Nat) (st : List Value) (σ : ma_H) (hc : hk_cls a1 = 1), ma_rn ro d 62 (42, [v0, v1, v2, v3, v4, v5], .ref a1 :: st, SH, σ) = ma_rn ro d 62 (45, [v0, v1, v2, v3, v4, v5], .int (σ a1 1) :: st, SH, σ)) ∧
  (∀ (v0 : Option Value) (v1 : Option Value) (v2 : Option Value) (v3 : Option Value) (v4 : Option Value) (v5 : Option Value) (st : List Value) (σ : ma_H), ma_rn ro d 62 (45, [v0, v1, v2, v3, v4, v5], st, SH, σ) = ma_rn ro d 62 (47, [v0, v1, v2, v3, v4, v5], .int (nI 6) :: st, SH, σ)) ∧
  (∀ (v0 : Option Value) (v1 : Option Value) (v2 : Option Value) (v3 : Option Value) (v4 : Option Value) (v5 : Option Value) (x1 : Int32) (x2 : Int32) (st : List Value) (σ : ma_H), ma_rn ro d 62 (47, [v0, v1, v2, v3, v4, v5], .int x1 :: .int x2 :: st, SH, σ) = if x2 = x1 then ma_rn ro d 62 (53, [v0, v1, v2, v3, v4, v5], st, SH, σ) else ma_rn ro d 62 (50, [v0, v1, v2, v3, v4, v5], st, SH, σ)) ∧
  (∀ (v0 : Option Value) (v1 : Option Value) (v2 : Option Value) (v3 : Option Value) (v4 : Option Value) (v5 : Option Value) (st : List Value) (σ : ma_H), ma_rn ro d 62 (50, [v0, v1, v2, v3, v4, v5], st, SH, σ) = ma_rn ro d 62 (52, [v0, v1, v2, v3, v4, v5], .int ((-3)) :: st, SH, σ)) ∧
  (∀ (v0 : Option Value) (v1 : Option Value) (v2 : Option Value) (v3 : Option Value) (v4 : Option Value) (v5 : Option Value) (x1 : Int32) (σ : ma_H), ma_rn ro d 62 (52, [v0, v1, v2, v3, v4, v5], [.int x1], SH, σ) = some (some (.int x1), SH, σ)) ∧
  (∀ (v0 : Option Value) (v1 : Option Value) (v2 : Option Value) (v3 : Option Value) (v5 : Option Value) (a1 : Nat) (st : List Value) (σ : ma_H), ma_rn ro d 62 (53, [v0, v1, v2, v3, some (.ref a1), v5], st, SH, σ) = ma_rn ro d 62 (55, [v0, v1, v2, v3, some (.ref a1), v5], .ref a1 :: st, SH, σ)) ∧
  (∀ (v0 : Option Value) (v1 : Option Value) (v2 : Option Value) (v3 : Option Value) (v5 : Option Value) (st : List Value) (σ : ma_H), ma_rn ro d 62 (53, [v0, v1, v2, v3, some .null, v5], st, SH, σ) = ma_rn ro d 62 (55, [v0, v1, v2, v3, some .null, v5], .null :: st, SH, σ)) ∧
  (∀ (v0 : Option Value) (v1 : Option Value) (v3 : Option Value) (v4 : Option Value) (v5 : Option Value) (x1 : Int32) (st : List Value) (σ : ma_H), ma_rn ro d 62 (55, [v0, v1, some (.int x1), v3, v4, v5], st, SH, σ) = ma_rn ro d 62 (56, [v0, v1, some (.int x1), v3, v4, v5], .int x1 :: st, SH, σ)) ∧
  (∀ (v0 : Option Value) (v1 : Option Value) (v2 : Option Value) (v3 : Option Value) (v4 : Option Value) (v5 : Option Value) (x1 : Int32) (a0 : Nat) (σ : ma_H) (hc : hk_cls a0 = 1), ma_rn ro (d + 1) 62 (56, [v0, v1, v2, v3, v4, v5], .int x1 :: .ref a0 :: [], SH, σ) = (ma_ev ro d 9 [.ref a0, .int x1] SH σ).bind (fun q => ma_rn ro (d + 1) 62 (59, [v0, v1, v2, v3, v4, v5], (q.1.toList ++ []), q.2.1, q.2.2))) ∧
  (∀ (v0 : Option Value) (v1 : Option Value) (v2 : Option Value) (v3 : Option Value) (v4 : Option Value) (v5 : Option Value) (x1 : Int32) (st : List Value) (σ : ma_H) (hb : ma_bef [v0, v1, v2, v3, v4, v5] 5 = false), ma_rn ro d 62 (59, [v0, v1, v2, v3, v4, v5], .int x1 :: st, SH, σ) = ma_rn ro d 62 (61, [v0, v1, v2, v3, v4, some (.int x1)], st, SH, σ)) ∧
  (∀ (v0 : Option Value) (v1 : Option Value) (v2 : Option Value) (v3 : Option Value) (v5 : Option Value) (a1 : Nat) (st : List Value) (σ : ma_H), ma_rn ro d 62 (61, [v0, v1, v2, v3, some (.ref a1), v5], st, SH, σ) = ma_rn ro d 62 (63, [v0, v1, v2, v3, some (.ref a1), v5], .ref a1 :: st, SH, σ)) ∧
  (∀ (v0 : Option Value) (v1 : Option Value) (v2 : Option Value) (v3 : Option Value) (v5 : Option Value) (st : List Value) (σ : ma_H), ma_rn ro d 62 (61, [v0, v1, v2, v3, some .null, v5], st, SH, σ) = ma_rn ro d 62 (63, [v0, v1, v2, v3, some .null, v5], .null :: st, SH, σ)) ∧
  (∀ (v0 : Option Value) (v1 : Option Value) (v3 : Option Value) (v4 : Option Value) (v5 : Option Value) (x1 : Int32) (st : List Value) (σ : ma_H), ma_rn ro d 62 (63, [v0, v1, some (.int x1), v3, v4, v5], st, SH, σ) = ma_rn ro d 62 (64, [v0, v1, some (.int x1), v3, v4, v5], .int x1 :: st, SH, σ)) ∧
  (∀ (v0 : Option Value) (v1 : Option Value) (v2 : Option Value) (v4 : Option Value) (v5 : Option Value) (x1 : Int32) (st : List Value) (σ : ma_H), ma_rn ro d 62 (64, [v0, v1, v2, some (.int x1), v4, v5], st, SH, σ) = ma_rn ro d 62 (65, [v0, v1, v2, some (.int x1), v4, v5], .int x1 :: st, SH, σ)) ∧
  (∀ (v0 : Option Value) (v1 : Option Value) (v2 : Option Value) (v3 : Option Value) (v4 : Option Value) (v5 : Option Value) (x1 : Int32) (x2 : Int32) (a0 : Nat) (σ : ma_H) (hc : hk_cls a0 = 1), ma_rn ro (d + 1) 62 (65, [v0, v1, v2, v3, v4, v5], .int x2 :: .int x1 :: .ref a0 :: [], SH, σ) = (ma_ev ro d 10 [.ref a0, .int x1, .int x2] SH σ).bind (fun q => ma_rn ro (d + 1) 62 (68, [v0, v1, v2, v3, v4, v5], (q.1.toList ++ []), q.2.1, q.2.2))) ∧
  (∀ (v0 : Option Value) (v1 : Option Value) (v2 : Option Value) (v3 : Option Value) (v4 : Option Value) (x1 : Int32) (st : List Value) (σ : ma_H), ma_rn ro d 62 (68, [v0, v1, v2, v3, v4, some (.int x1)], st, SH, σ) = ma_rn ro d 62 (70, [v0, v1, v2, v3, v4, some (.int x1)], .int x1 :: st, SH, σ)) ∧
  (∀ (v0 : Option Value) (v1 : Option Value) (v2 : Option Value) (v3 : Option Value) (v4 : Option Value) (v5 : Option Value) (x1 : Int32) (σ : ma_H), ma_rn ro d 62 (70, [v0, v1, v2, v3, v4, v5], [.int x1], SH, σ) = some (some (.int x1), SH, σ)) := ⟨fun v1 v2 v3 v4 v5 a1 st σ => q_go e62_0 rfl rfl,
  fun v0 v1 v2 v3 v4 v5 a1 st σ hc => q_getA e62_1 o_62 f_7_12 (by decide) hc,
  fun v0 v1 v2 v3 v4 v5 a1 st σ hc => q_getA e62_4 o_62 f_7_93 (by decide) hc,
  fun v0 v2 v3 v4 v5 x1 st σ => q_go e62_7 rfl rfl,
  fun v0 v1 v2 v3 v4 v5 x1 a0 σ hc => q_invV (as := [.int x1]) (rest := []) e62_8 o_62 bn_7_102 c_7_102 m_50 (by decide) rfl rfl (Nat.le_of_ble_eq_true rfl) (Nat.le_of_ble_eq_true rfl) hc,
  fun v0 v1 v2 v4 v5 x9 a1 st σ => q_go e62_11 rfl rfl,
  fun v0 v1 v2 v4 v5 x9 st σ => q_go e62_11 rfl rfl,
  fun v0 v1 v2 v3 v5 a1 st σ => q_go e62_13 rfl rfl,
  fun v0 v1 v2 v3 v5 st σ => q_go e62_13 rfl rfl,
  fun v0 v1 v2 v3 v4 v5 a1 st σ => q_ifnullR e62_15 rfl,
  fun v0 v1 v2 v3 v4 v5 st σ => q_ifnullN e62_15 rfl,
  fun v0 v1 v3 v4 v5 x1 st σ => q_go e62_18 rfl rfl,
  fun v0 v1 v2 v3 v4 v5 st σ => q_iconst e62_19 (by decide),
  fun v0 v1 v2 v3 v4 v5 x1 x2 σ => q_invS (as := [.int x1, .int x2]) (rest := []) e62_20 o_62 bn_7_67 c_7_67 ⟨m_88.1, m_88.2.1, m_88.2.2.1⟩ rfl rfl (Nat.le_of_ble_eq_true rfl) (Nat.le_of_ble_eq_true rfl),
  fun v0 v1 v2 v3 v4 v5 x1 st σ => (q_if e62_23 rfl).trans q_eq,
  fun v0 v1 v2 v3 v4 v5 st σ => q_iconst e62_26 (by decide),
  fun v0 v1 v2 v3 v4 v5 x1 σ => q_iret e62_27 r_62,
  fun v0 v1 v2 v4 v5 x1 st σ => q_go e62_28 rfl rfl,
  fun v0 v1 v2 v3 v4 v5 st σ => q_bipush e62_29 (by decide),
  fun v0 v1 v2 v3 v4 v5 x1 x2 σ => q_invS (as := [.int x1, .int x2]) (rest := []) e62_31 o_62 bn_7_67 c_7_67 ⟨m_88.1, m_88.2.1, m_88.2.2.1⟩ rfl rfl (Nat.le_of_ble_eq_true rfl) (Nat.le_of_ble_eq_true rfl),
  fun v0 v1 v2 v3 v4 v5 x1 st σ => (q_if e62_34 rfl).trans q_eq,
  fun v0 v1 v2 v3 v4 v5 st σ => q_bipush e62_37 (by decide),
  fun v0 v1 v2 v3 v4 v5 x1 σ => q_iret e62_39 r_62,
  fun v0 v1 v2 v3 v5 a1 st σ => q_go e62_40 rfl rfl,
  fun v0 v1 v2 v3 v5 st σ => q_go e62_40 rfl rfl,
  fun v0 v1 v2 v3 v4 v5 a1 st σ hc => q_getI e62_42 o_62 f_7_107 (by decide) hc,
  fun v0 v1 v2 v3 v4 v5 st σ => q_bipush e62_45 (by decide),
  fun v0 v1 v2 v3 v4 v5 x1 x2 st σ => (q_cmp e62_47 rfl).trans q_eq,
  fun v0 v1 v2 v3 v4 v5 st σ => q_bipush e62_50 (by decide),
  fun v0 v1 v2 v3 v4 v5 x1 σ => q_iret e62_52 r_62,
  fun v0 v1 v2 v3 v5 a1 st σ => q_go e62_53 rfl rfl,
  fun v0 v1 v2 v3 v5 st σ => q_go e62_53 rfl rfl,
  fun v0 v1 v3 v4 v5 x1 st σ => q_go e62_55 rfl rfl,
  fun v0 v1 v2 v3 v4 v5 x1 a0 σ hc => q_invV (as := [.int x1]) (rest := []) e62_56 o_62 bn_7_143 c_7_143 m_9 (by decide) rfl rfl (Nat.le_of_ble_eq_true rfl) (Nat.le_of_ble_eq_true rfl) hc,
  fun v0 v1 v2 v3 v4 v5 x1 st σ hb => q_go e62_59 rfl (q_s1 hb rfl (Nat.le_of_ble_eq_true rfl)),
  fun v0 v1 v2 v3 v5 a1 st σ => q_go e62_61 rfl rfl,
  fun v0 v1 v2 v3 v5 st σ => q_go e62_61 rfl rfl,
  fun v0 v1 v3 v4 v5 x1 st σ => q_go e62_63 rfl rfl,
  fun v0 v1 v2 v4 v5 x1 st σ => q_go e62_64 rfl rfl,
  fun v0 v1 v2 v3 v4 v5 x1 x2 a0 σ hc => q_invV (as := [.int x1, .int x2]) (rest := []) e62_65 o_62 bn_7_146 c_7_146 m_10 (by decide) rfl rfl (Nat.le_of_ble_eq_true rfl) (Nat.le_of_ble_eq_true rfl) hc,
  fun v0 v1 v2 v3 v4 x1 st σ => q_go e62_68 rfl rfl,
  fun v0 v1 v2 v3 v4 v5 x1 σ => q_iret e62_70 r_62⟩
theorem E62 {ro : ma_RO} {d : Nat} (a0 : Nat) (x1 : Int32) (x2 : Int32) (x3 : Int32) (sh : List ma_Sh) (σ : ma_H) : ma_ev ro d 62 [.ref a0, .int x1, .int x2, .int x3] sh σ = ma_rn ro d 62 (0, [some (.ref a0), some (.int x1), some (.int x2), some (.int x3), none, none], [], sh, σ) := q_ent x_62 rfl
theorem e63_0 : decode (ma_cd 63) 0 = .ok (.aload_n 0, 1) := (congrArg (fun b => decode b 0) cd_63).trans dX7_set_0
theorem e63_1 : decode (ma_cd 63) 1 = .ok (.getfield 12, 3) := (congrArg (fun b => decode b 1) cd_63).trans dX7_set_1
theorem e63_4 : decode (ma_cd 63) 4 = .ok (.getfield 93, 3) := (congrArg (fun b => decode b 4) cd_63).trans dX7_set_4
theorem e63_7 : decode (ma_cd 63) 7 = .ok (.iload_n 1, 1) := (congrArg (fun b => decode b 7) cd_63).trans dX7_set_7
theorem e63_8 : decode (ma_cd 63) 8 = .ok (.invokevirtual 102, 3) := (congrArg (fun b => decode b 8) cd_63).trans dX7_set_8
theorem e63_11 : decode (ma_cd 63) 11 = .ok (.astore 4, 2) := (congrArg (fun b => decode b 11) cd_63).trans dX7_set_11
theorem e63_13 : decode (ma_cd 63) 13 = .ok (.aload 4, 2) := (congrArg (fun b => decode b 13) cd_63).trans dX7_set_13
theorem e63_15 : decode (ma_cd 63) 15 = .ok (.ifnull 11, 3) := (congrArg (fun b => decode b 15) cd_63).trans dX7_set_15
theorem e63_18 : decode (ma_cd 63) 18 = .ok (.iload_n 2, 1) := (congrArg (fun b => decode b 18) cd_63).trans dX7_set_18
theorem e63_19 : decode (ma_cd 63) 19 = .ok (.iconst 2, 1) := (congrArg (fun b => decode b 19) cd_63).trans dX7_set_19
theorem e63_20 : decode (ma_cd 63) 20 = .ok (.invokestatic 67, 3) := (congrArg (fun b => decode b 20) cd_63).trans dX7_set_20
theorem e63_23 : decode (ma_cd 63) 23 = .ok (.ifCond .eq 5, 3) := (congrArg (fun b => decode b 23) cd_63).trans dX7_set_23
theorem e63_26 : decode (ma_cd 63) 26 = .ok (.iconst (-1), 1) := (congrArg (fun b => decode b 26) cd_63).trans dX7_set_26
theorem e63_27 : decode (ma_cd 63) 27 = .ok (.ireturn, 1) := (congrArg (fun b => decode b 27) cd_63).trans dX7_set_27
theorem e63_28 : decode (ma_cd 63) 28 = .ok (.iload_n 3, 1) := (congrArg (fun b => decode b 28) cd_63).trans dX7_set_28
theorem e63_29 : decode (ma_cd 63) 29 = .ok (.iload_n 2, 1) := (congrArg (fun b => decode b 29) cd_63).trans dX7_set_29
theorem e63_30 : decode (ma_cd 63) 30 = .ok (.iconst 2, 1) := (congrArg (fun b => decode b 30) cd_63).trans dX7_set_30
theorem e63_31 : decode (ma_cd 63) 31 = .ok (.if_icmp .ne 8, 3) := (congrArg (fun b => decode b 31) cd_63).trans dX7_set_31
theorem e63_34 : decode (ma_cd 63) 34 = .ok (.bipush 9, 2) := (congrArg (fun b => decode b 34) cd_63).trans dX7_set_34
theorem e63_36 : decode (ma_cd 63) 36 = .ok (.goto 5, 3) := (congrArg (fun b => decode b 36) cd_63).trans dX7_set_36
theorem e63_39 : decode (ma_cd 63) 39 = .ok (.bipush 99, 2) := (congrArg (fun b => decode b 39) cd_63).trans dX7_set_39
theorem e63_41 : decode (ma_cd 63) 41 = .ok (.invokestatic 67, 3) := (congrArg (fun b => decode b 41) cd_63).trans dX7_set_41
theorem e63_44 : decode (ma_cd 63) 44 = .ok (.ifCond .eq 6, 3) := (congrArg (fun b => decode b 44) cd_63).trans dX7_set_44
theorem e63_47 : decode (ma_cd 63) 47 = .ok (.bipush (-2), 2) := (congrArg (fun b => decode b 47) cd_63).trans dX7_set_47
theorem e63_49 : decode (ma_cd 63) 49 = .ok (.ireturn, 1) := (congrArg (fun b => decode b 49) cd_63).trans dX7_set_49
theorem e63_50 : decode (ma_cd 63) 50 = .ok (.iload_n 2, 1) := (congrArg (fun b => decode b 50) cd_63).trans dX7_set_50
theorem e63_51 : decode (ma_cd 63) 51 = .ok (.ifCond .ne 19, 3) := (congrArg (fun b => decode b 51) cd_63).trans dX7_set_51
theorem e63_54 : decode (ma_cd 63) 54 = .ok (.aload 4, 2) := (congrArg (fun b => decode b 54) cd_63).trans dX7_set_54
theorem e63_56 : decode (ma_cd 63) 56 = .ok (.getfield 117, 3) := (congrArg (fun b => decode b 56) cd_63).trans dX7_set_56
theorem e63_59 : decode (ma_cd 63) 59 = .ok (.istore 5, 2) := (congrArg (fun b => decode b 59) cd_63).trans dX7_set_59
theorem e63_61 : decode (ma_cd 63) 61 = .ok (.aload 4, 2) := (congrArg (fun b => decode b 61) cd_63).trans dX7_set_61
theorem e63_63 : decode (ma_cd 63) 63 = .ok (.iload_n 3, 1) := (congrArg (fun b => decode b 63) cd_63).trans dX7_set_63
theorem e63_64 : decode (ma_cd 63) 64 = .ok (.putfield 117, 3) := (congrArg (fun b => decode b 64) cd_63).trans dX7_set_64
theorem e63_67 : decode (ma_cd 63) 67 = .ok (.goto 37, 3) := (congrArg (fun b => decode b 67) cd_63).trans dX7_set_67
theorem e63_70 : decode (ma_cd 63) 70 = .ok (.iload_n 2, 1) := (congrArg (fun b => decode b 70) cd_63).trans dX7_set_70
theorem e63_71 : decode (ma_cd 63) 71 = .ok (.iconst 1, 1) := (congrArg (fun b => decode b 71) cd_63).trans dX7_set_71
theorem e63_72 : decode (ma_cd 63) 72 = .ok (.if_icmp .ne 19, 3) := (congrArg (fun b => decode b 72) cd_63).trans dX7_set_72
theorem e63_75 : decode (ma_cd 63) 75 = .ok (.aload 4, 2) := (congrArg (fun b => decode b 75) cd_63).trans dX7_set_75
theorem e63_77 : decode (ma_cd 63) 77 = .ok (.getfield 120, 3) := (congrArg (fun b => decode b 77) cd_63).trans dX7_set_77
theorem e63_80 : decode (ma_cd 63) 80 = .ok (.istore 5, 2) := (congrArg (fun b => decode b 80) cd_63).trans dX7_set_80
theorem e63_82 : decode (ma_cd 63) 82 = .ok (.aload 4, 2) := (congrArg (fun b => decode b 82) cd_63).trans dX7_set_82
theorem e63_84 : decode (ma_cd 63) 84 = .ok (.iload_n 3, 1) := (congrArg (fun b => decode b 84) cd_63).trans dX7_set_84
theorem e63_85 : decode (ma_cd 63) 85 = .ok (.putfield 120, 3) := (congrArg (fun b => decode b 85) cd_63).trans dX7_set_85
theorem e63_88 : decode (ma_cd 63) 88 = .ok (.goto 16, 3) := (congrArg (fun b => decode b 88) cd_63).trans dX7_set_88
theorem e63_91 : decode (ma_cd 63) 91 = .ok (.aload 4, 2) := (congrArg (fun b => decode b 91) cd_63).trans dX7_set_91
theorem e63_93 : decode (ma_cd 63) 93 = .ok (.getfield 123, 3) := (congrArg (fun b => decode b 93) cd_63).trans dX7_set_93
theorem e63_96 : decode (ma_cd 63) 96 = .ok (.istore 5, 2) := (congrArg (fun b => decode b 96) cd_63).trans dX7_set_96
theorem e63_98 : decode (ma_cd 63) 98 = .ok (.aload 4, 2) := (congrArg (fun b => decode b 98) cd_63).trans dX7_set_98
theorem e63_100 : decode (ma_cd 63) 100 = .ok (.iload_n 3, 1) := (congrArg (fun b => decode b 100) cd_63).trans dX7_set_100
theorem e63_101 : decode (ma_cd 63) 101 = .ok (.putfield 123, 3) := (congrArg (fun b => decode b 101) cd_63).trans dX7_set_101
theorem e63_104 : decode (ma_cd 63) 104 = .ok (.iload 5, 2) := (congrArg (fun b => decode b 104) cd_63).trans dX7_set_104
theorem e63_106 : decode (ma_cd 63) 106 = .ok (.ireturn, 1) := (congrArg (fun b => decode b 106) cd_63).trans dX7_set_106
theorem S63 {ro : ma_RO} {d : Nat} : (∀ (v1 : Option Value) (v2 : Option Value) (v3 : Option Value) (v4 : Option Value) (v5 : Option Value) (a1 : Nat) (st : List Value) (σ : ma_H), ma_rn ro d 63 (0, [some (.ref a1), v1, v2, v3, v4, v5], st, SH, σ) = ma_rn ro d 63 (1, [some (.ref a1), v1, v2, v3, v4, v5], .ref a1 :: st, SH, σ)) ∧
  (∀ (v0 : Option Value) (v1 : Option Value) (v2 : Option Value) (v3 : Option Value) (v4 : Option Value) (v5 : Option Value) (a1 : Nat) (st : List Value) (σ : ma_H) (hc : hk_cls a1 = 7), ma_rn ro d 63 (1, [v0, v1, v2, v3, v4, v5], .ref a1 :: st, SH, σ) = ma_rn ro d 63 (4, [v0, v1, v2, v3, v4, v5], .ref (1) :: st, SH, σ)) ∧
  (∀ (v0 : Option Value) (v1 : Option Value) (v2 : Option Value) (v3 : Option Value) (v4 : Option Value) (v5 : Option Value) (a1 : Nat) (st : List Value) (σ : ma_H) (hc : hk_cls a1 = 5), ma_rn ro d 63 (4, [v0, v1, v2, v3, v4, v5], .ref a1 :: st, SH, σ) = ma_rn ro d 63 (7, [v0, v1, v2, v3, v4, v5], .ref (a1 + 1) :: st, SH, σ)) ∧
  (∀ (v0 : Option Value) (v2 : Option Value) (v3 : Option Value) (v4 : Option Value) (v5 : Option Value) (x1 : Int32) (st : List Value) (σ : ma_H), ma_rn ro d 63 (7, [v0, some (.int x1), v2, v3, v4, v5], st, SH, σ) = ma_rn ro d 63 (8, [v0, some (.int x1), v2, v3, v4, v5], .int x1 :: st, SH, σ)) ∧
  (∀ (v0 : Option Value) (v1 : Option Value) (v2 : Option Value) (v3 : Option Value) (v4 : Option Value) (v5 : Option Value) (x1 : Int32) (a0 : Nat) (σ : ma_H) (hc : hk_cls a0 = 6), ma_rn ro (d + 1) 63 (8, [v0, v1, v2, v3, v4, v5], .int x1 :: .ref a0 :: [], SH, σ) = (ma_ev ro d 50 [.ref a0, .int x1] SH σ).bind (fun q => ma_rn ro (d + 1) 63 (11, [v0, v1, v2, v3, v4, v5], (q.1.toList ++ []), q.2.1, q.2.2))) ∧
  (∀ (v0 : Option Value) (v1 : Option Value) (v2 : Option Value) (v4 : Option Value) (v5 : Option Value) (x9 : Int32) (a1 : Nat) (st : List Value) (σ : ma_H), ma_rn ro d 63 (11, [v0, v1, v2, some (.int x9), v4, v5], .ref a1 :: st, SH, σ) = ma_rn ro d 63 (13, [v0, v1, v2, some (.int x9), some (.ref a1), v5], st, SH, σ)) ∧
  (∀ (v0 : Option Value) (v1 : Option Value) (v2 : Option Value) (v4 : Option Value) (v5 : Option Value) (x9 : Int32) (st : List Value) (σ : ma_H), ma_rn ro d 63 (11, [v0, v1, v2, some (.int x9), v4, v5], .null :: st, SH, σ) = ma_rn ro d 63 (13, [v0, v1, v2, some (.int x9), some .null, v5], st, SH, σ)) ∧
  (∀ (v0 : Option Value) (v1 : Option Value) (v2 : Option Value) (v3 : Option Value) (v5 : Option Value) (a1 : Nat) (st : List Value) (σ : ma_H), ma_rn ro d 63 (13, [v0, v1, v2, v3, some (.ref a1), v5], st, SH, σ) = ma_rn ro d 63 (15, [v0, v1, v2, v3, some (.ref a1), v5], .ref a1 :: st, SH, σ)) ∧
  (∀ (v0 : Option Value) (v1 : Option Value) (v2 : Option Value) (v3 : Option Value) (v5 : Option Value) (st : List Value) (σ : ma_H), ma_rn ro d 63 (13, [v0, v1, v2, v3, some .null, v5], st, SH, σ) = ma_rn ro d 63 (15, [v0, v1, v2, v3, some .null, v5], .null :: st, SH, σ)) ∧
  (∀ (v0 : Option Value) (v1 : Option Value) (v2 : Option Value) (v3 : Option Value) (v4 : Option Value) (v5 : Option Value) (a1 : Nat) (st : List Value) (σ : ma_H), ma_rn ro d 63 (15, [v0, v1, v2, v3, v4, v5], .ref a1 :: st, SH, σ) = ma_rn ro d 63 (18, [v0, v1, v2, v3, v4, v5], st, SH, σ)) ∧
  (∀ (v0 : Option Value) (v1 : Option Value) (v2 : Option Value) (v3 : Option Value) (v4 : Option Value) (v5 : Option Value) (st : List Value) (σ : ma_H), ma_rn ro d 63 (15, [v0, v1, v2, v3, v4, v5], .null :: st, SH, σ) = ma_rn ro d 63 (26, [v0, v1, v2, v3, v4, v5], st, SH, σ)) ∧
  (∀ (v0 : Option Value) (v1 : Option Value) (v3 : Option Value) (v4 : Option Value) (v5 : Option Value) (x1 : Int32) (st : List Value) (σ : ma_H), ma_rn ro d 63 (18, [v0, v1, some (.int x1), v3, v4, v5], st, SH, σ) = ma_rn ro d 63 (19, [v0, v1, some (.int x1), v3, v4, v5], .int x1 :: st, SH, σ)) ∧
  (∀ (v0 : Option Value) (v1 : Option Value) (v2 : Option Value) (v3 : Option Value) (v4 : Option Value) (v5 : Option Value) (st : List Value) (σ : ma_H), ma_rn ro d 63 (19, [v0, v1, v2, v3, v4, v5], st, SH, σ) = ma_rn ro d 63 (20, [v0, v1, v2, v3, v4, v5], .int (nI 2) :: st, SH, σ)) ∧
  (∀ (v0 : Option Value) (v1 : Option Value) (v2 : Option Value) (v3 : Option Value) (v4 : Option Value) (v5 : Option Value) (x1 : Int32) (x2 : Int32) (σ : ma_H), ma_rn ro (d + 1) 63 (20, [v0, v1, v2, v3, v4, v5], .int x2 :: .int x1 :: [], SH, σ) = (ma_ev ro d 88 [.int x1, .int x2] SH σ).bind (fun q => ma_rn ro (d + 1) 63 (23, [v0, v1, v2, v3, v4, v5], (q.1.toList ++ []), q.2.1, q.2.2))) ∧
  (∀ (v0 : Option Value) (v1 : Option Value) (v2 : Option Value) (v3 : Option Value) (v4 : Option Value) (v5 : Option Value) (x1 : Int32) (st : List Value) (σ : ma_H), ma_rn ro d 63 (23, [v0, v1, v2, v3, v4, v5], .int x1 :: st, SH, σ) = if x1 = nI 0 then ma_rn ro d 63 (28, [v0, v1, v2, v3, v4, v5], st, SH, σ) else ma_rn ro d 63 (26, [v0, v1, v2, v3, v4, v5], st, SH, σ)) ∧
  (∀ (v0 : Option Value) (v1 : Option Value) (v2 : Option Value) (v3 : Option Value) (v4 : Option Value) (v5 : Option Value) (st : List Value) (σ : ma_H), ma_rn ro d 63 (26, [v0, v1, v2, v3, v4, v5], st, SH, σ) = ma_rn ro d 63 (27, [v0, v1, v2, v3, v4, v5], .int ((-1)) :: st, SH, σ)) ∧
  (∀ (v0 : Option Value) (v1 : Option Value) (v2 : Option Value) (v3 : Option Value) (v4 : Option Value) (v5 : Option Value) (x1 : Int32) (σ : ma_H), ma_rn ro d 63 (27, [v0, v1, v2, v3, v4, v5], [.int x1], SH, σ) = some (some (.int x1), SH, σ)) ∧
  (∀ (v0 : Option Value) (v1 : Option Value) (v2 : Option Value) (v4 : Option Value) (v5 : Option Value) (x1 : Int32) (st : List Value) (σ : ma_H), ma_rn ro d 63 (28, [v0, v1, v2, some (.int x1), v4, v5], st, SH, σ) = ma_rn ro d 63 (29, [v0, v1, v2, some (.int x1), v4, v5], .int x1 :: st, SH, σ)) ∧
  (∀ (v0 : Option Value) (v1 : Option Value) (v3 : Option Value) (v4 : Option Value) (v5 : Option Value) (x1 : Int32) (st : List Value) (σ : ma_H), ma_rn ro d 63 (29, [v0, v1, some (.int x1), v3, v4, v5], st, SH, σ) = ma_rn ro d 63 (30, [v0, v1, some (.int x1), v3, v4, v5], .int x1 :: st, SH, σ)) ∧
  (∀ (v0 : Option Value) (v1 : Option Value) (v2 : Option Value) (v3 : Option Value) (v4 : Option Value) (v5 : Option Value) (st : List Value) (σ : ma_H), ma_rn ro d 63 (30, [v0, v1, v2, v3, v4, v5], st, SH, σ) = ma_rn ro d 63 (31, [v0, v1, v2, v3, v4, v5], .int (nI 2) :: st, SH, σ)) ∧
  (∀ (v0 : Option Value) (v1 : Option Value) (v2 : Option Value) (v3 : Option Value) (v4 : Option Value) (v5 : Option Value) (x1 : Int32) (x2 : Int32) (st : List Value) (σ : ma_H), ma_rn ro d 63 (31, [v0, v1, v2, v3, v4, v5], .int x1 :: .int x2 :: st, SH, σ) = if x2 = x1 then ma_rn ro d 63 (34, [v0, v1, v2, v3, v4, v5], st, SH, σ) else ma_rn ro d 63 (39, [v0, v1, v2, v3, v4, v5], st, SH, σ)) ∧
  (∀ (v0 : Option Value) (v1 : Option Value) (v2 : Option Value) (v3 : Option Value) (v4 : Option Value) (v5 : Option Value) (st : List Value) (σ : ma_H), ma_rn ro d 63 (34, [v0, v1, v2, v3, v4, v5], st, SH, σ) = ma_rn ro d 63 (36, [v0, v1, v2, v3, v4, v5], .int (nI 9) :: st, SH, σ)) ∧
  (∀ (v0 : Option Value) (v1 : Option Value) (v2 : Option Value) (v3 : Option Value) (v4 : Option Value) (v5 : Option Value) (st : List Value) (σ : ma_H), ma_rn ro d 63 (36, [v0, v1, v2, v3, v4, v5], st, SH, σ) = ma_rn ro d 63 (41, [v0, v1, v2, v3, v4, v5], st, SH, σ)) ∧
  (∀ (v0 : Option Value) (v1 : Option Value) (v2 : Option Value) (v3 : Option Value) (v4 : Option Value) (v5 : Option Value) (st : List Value) (σ : ma_H), ma_rn ro d 63 (39, [v0, v1, v2, v3, v4, v5], st, SH, σ) = ma_rn ro d 63 (41, [v0, v1, v2, v3, v4, v5], .int (nI 99) :: st, SH, σ)) ∧
  (∀ (v0 : Option Value) (v1 : Option Value) (v2 : Option Value) (v3 : Option Value) (v4 : Option Value) (v5 : Option Value) (x1 : Int32) (x2 : Int32) (σ : ma_H), ma_rn ro (d + 1) 63 (41, [v0, v1, v2, v3, v4, v5], .int x2 :: .int x1 :: [], SH, σ) = (ma_ev ro d 88 [.int x1, .int x2] SH σ).bind (fun q => ma_rn ro (d + 1) 63 (44, [v0, v1, v2, v3, v4, v5], (q.1.toList ++ []), q.2.1, q.2.2))) ∧
  (∀ (v0 : Option Value) (v1 : Option Value) (v2 : Option Value) (v3 : Option Value) (v4 : Option Value) (v5 : Option Value) (x1 : Int32) (st : List Value) (σ : ma_H), ma_rn ro d 63 (44, [v0, v1, v2, v3, v4, v5], .int x1 :: st, SH, σ) = if x1 = nI 0 then ma_rn ro d 63 (50, [v0, v1, v2, v3, v4, v5], st, SH, σ) else ma_rn ro d 63 (47, [v0, v1, v2, v3, v4, v5], st, SH, σ)) ∧
  (∀ (v0 : Option Value) (v1 : Option Value) (v2 : Option Value) (v3 : Option Value) (v4 : Option Value) (v5 : Option Value) (st : List Value) (σ : ma_H), ma_rn ro d 63 (47, [v0, v1, v2, v3, v4, v5], st, SH, σ) = ma_rn ro d 63 (49, [v0, v1, v2, v3, v4, v5], .int ((-2)) :: st, SH, σ)) ∧
  (∀ (v0 : Option Value) (v1 : Option Value) (v2 : Option Value) (v3 : Option Value) (v4 : Option Value) (v5 : Option Value) (x1 : Int32) (σ : ma_H), ma_rn ro d 63 (49, [v0, v1, v2, v3, v4, v5], [.int x1], SH, σ) = some (some (.int x1), SH, σ)) ∧
  (∀ (v0 : Option Value) (v1 : Option Value) (v3 : Option Value) (v4 : Option Value) (v5 : Option Value) (x1 : Int32) (st : List Value) (σ : ma_H), ma_rn ro d 63 (50, [v0, v1, some (.int x1), v3, v4, v5], st, SH, σ) = ma_rn ro d 63 (51, [v0, v1, some (.int x1), v3, v4, v5], .int x1 :: st, SH, σ)) ∧
  (∀ (v0 : Option Value) (v1 : Option Value) (v2 : Option Value) (v3 : Option Value) (v4 : Option Value) (v5 : Option Value) (x1 : Int32) (st : List Value) (σ : ma_H), ma_rn ro d 63 (51, [v0, v1, v2, v3, v4, v5], .int x1 :: st, SH, σ) = if x1 = nI 0 then ma_rn ro d 63 (54, [v0, v1, v2, v3, v4, v5], st, SH, σ) else ma_rn ro d 63 (70, [v0, v1, v2, v3, v4, v5], st, SH, σ)) ∧
  (∀ (v0 : Option Value) (v1 : Option Value) (v2 : Option Value) (v3 : Option Value) (v5 : Option Value) (a1 : Nat) (st : List Value) (σ : ma_H), ma_rn ro d 63 (54, [v0, v1, v2, v3, some (.ref a1), v5], st, SH, σ) = ma_rn ro d 63 (56, [v0, v1, v2, v3, some (.ref a1), v5], .ref a1 :: st, SH, σ)) ∧
  (∀ (v0 : Option Value) (v1 : Option Value) (v2 : Option Value) (v3 : Option Value) (v5 : Option Value) (st : List Value) (σ : ma_H), ma_rn ro d 63 (54, [v0, v1, v2, v3, some .null, v5], st, SH, σ) = ma_rn ro d 63 (56, [v0, v1, v2, v3, some .null, v5], .null :: st, SH, σ)) ∧
  (∀ (v0 : Option Value) (v1 : Option Value) (v2 : Option Value) (v3 : Option Value) (v4 : Option Value) (v5 : Option Value) (a1 : Nat) (st : List Value) (σ : ma_H) (hc : hk_cls a1 = 1), ma_rn ro d 63 (56, [v0, v1, v2, v3, v4, v5], .ref a1 :: st, SH, σ) = ma_rn ro d 63 (59, [v0, v1, v2, v3, v4, v5], .int (σ a1 4) :: st, SH, σ)) ∧
  (∀ (v0 : Option Value) (v1 : Option Value) (v2 : Option Value) (v3 : Option Value) (v4 : Option Value) (v5 : Option Value) (x1 : Int32) (st : List Value) (σ : ma_H) (hb : ma_bef [v0, v1, v2, v3, v4, v5] 5 = false), ma_rn ro d 63 (59, [v0, v1, v2, v3, v4, v5], .int x1 :: st, SH, σ) = ma_rn ro d 63 (61, [v0, v1, v2, v3, v4, some (.int x1)], st, SH, σ)) ∧
  (∀ (v0 : Option Value) (v1 : Option Value) (v2 : Option Value) (v3 : Option Value) (v5 : Option Value) (a1 : Nat) (st : List Value) (σ : ma_H), ma_rn ro d 63 (61, [v0, v1, v2, v3, some (.ref a1), v5], st, SH, σ) = ma_rn ro d 63 (63, [v0, v1, v2, v3, some (.ref a1), v5], .ref a1 :: st, SH, σ)) ∧
  (∀ (v0 : Option Value) (v1 : Option Value) (v2 : Option Value) (v3 : Option Value) (v5 : Option Value) (st : List Value) (σ : ma_H), ma_rn ro d 63 (61, [v0, v1, v2, v3, some .null, v5], st, SH, σ) = ma_rn ro d 63 (63, [v0, v1, v2, v3, some .null, v5], .null :: st, SH, σ)) ∧
  (∀ (v0 : Option Value) (v1 : Option Value) (v2 : Option Value) (v4 : Option Value) (v5 : Option Value) (x1 : Int32) (st : List Value) (σ : ma_H), ma_rn ro d 63 (63, [v0, v1, v2, some (.int x1), v4, v5], st, SH, σ) = ma_rn ro d 63 (64, [v0, v1, v2, some (.int x1), v4, v5], .int x1 :: st, SH, σ)) ∧
  (∀ (v0 : Option Value) (v1 : Option Value) (v2 : Option Value) (v3 : Option Value) (v4 : Option Value) (v5 : Option Value) (x1 : Int32) (a2 : Nat) (st : List Value) (σ : ma_H) (hc : hk_cls a2 = 1), ma_rn ro d 63 (64, [v0, v1, v2, v3, v4, v5], .int x1 :: .ref a2 :: st, SH, σ) = ma_rn ro d 63 (67, [v0, v1, v2, v3, v4, v5], st, SH, (ma_up σ a2 4 x1))) ∧
  (∀ (v0 : Option Value) (v1 : Option Value) (v2 : Option Value) (v3 : Option Value) (v4 : Option Value) (v5 : Option Value) (st : List Value) (σ : ma_H), ma_rn ro d 63 (67, [v0, v1, v2, v3, v4, v5], st, SH, σ) = ma_rn ro d 63 (104, [v0, v1, v2, v3, v4, v5], st, SH, σ)) ∧
  (∀ (v0 : Option Value) (v1 : Option Value) (v3 : Option Value) (v4 : Option Value) (v5 : Option Value) (x1 : Int32) (st : List Value) (σ : ma_H), ma_rn ro d 63 (70, [v0, v1, some (.int x1), v3, v4, v5], st, SH, σ) = ma_rn ro d 63 (71, [v0, v1, some (.int x1), v3, v4, v5], .int x1 :: st, SH, σ)) ∧
  (∀ (v0 : Option Value) (v1 : Option Value) (v2 : Option Value) (v3 : Option Value) (v4 : Option Value) (v5 : Option Value) (st : List Value) (σ : ma_H), ma_rn ro d 63 (71, [v0, v1, v2, v3, v4, v5], st, SH, σ) = ma_rn ro d 63 (72, [v0, v1, v2, v3, v4, v5], .int (nI 1) :: st, SH, σ)) ∧
  (∀ (v0 : Option Value) (v1 : Option Value) (v2 : Option Value) (v3 : Option Value) (v4 : Option Value) (v5 : Option Value) (x1 : Int32) (x2 : Int32) (st : List Value) (σ : ma_H), ma_rn ro d 63 (72, [v0, v1, v2, v3, v4, v5], .int x1 :: .int x2 :: st, SH, σ) = if x2 = x1 then ma_rn ro d 63 (75, [v0, v1, v2, v3, v4, v5], st, SH, σ) else ma_rn ro d 63 (91, [v0, v1, v2, v3, v4, v5], st, SH, σ)) ∧
  (∀ (v0 : Option Value) (v1 : Option Value) (v2 : Option Value) (v3 : Option Value) (v5 : Option Value) (a1 : Nat) (st : List Value) (σ : ma_H), ma_rn ro d 63 (75, [v0, v1, v2, v3, some (.ref a1), v5], st, SH, σ) = ma_rn ro d 63 (77, [v0, v1, v2, v3, some (.ref a1), v5], .ref a1 :: st, SH, σ)) ∧
  (∀ (v0 : Option Value) (v1 : Option Value) (v2 : Option Value) (v3 : Option Value) (v5 : Option Value) (st : List Value) (σ : ma_H), ma_rn ro d 63 (75, [v0, v1, v2, v3, some .null, v5], st, SH, σ) = ma_rn ro d 63 (77, [v0, v1, v2, v3, some .null, v5], .null :: st, SH, σ)) ∧
  (∀ (v0 : Option Value) (v1 : Option Value) (v2 : Option Value) (v3 : Option Value) (v4 : Option Value) (v5 : Option Value) (a1 : Nat) (st : List Value) (σ : ma_H) (hc : hk_cls a1 = 1), ma_rn ro d 63 (77, [v0, v1, v2, v3, v4, v5], .ref a1 :: st, SH, σ) = ma_rn ro d 63 (80, [v0, v1, v2, v3, v4, v5], .int (σ a1 5) :: st, SH, σ)) ∧
  (∀ (v0 : Option Value) (v1 : Option Value) (v2 : Option Value) (v3 : Option Value) (v4 : Option Value) (v5 : Option Value) (x1 : Int32) (st : List Value) (σ : ma_H) (hb : ma_bef [v0, v1, v2, v3, v4, v5] 5 = false), ma_rn ro d 63 (80, [v0, v1, v2, v3, v4, v5], .int x1 :: st, SH, σ) = ma_rn ro d 63 (82, [v0, v1, v2, v3, v4, some (.int x1)], st, SH, σ)) ∧
  (∀ (v0 : Option Value) (v1 : Option Value) (v2 : Option Value) (v3 : Option Value) (v5 : Option Value) (a1 : Nat) (st : List Value) (σ : ma_H), ma_rn ro d 63 (82, [v0, v1, v2, v3, some (.ref a1), v5], st, SH, σ) = ma_rn ro d 63 (84, [v0, v1, v2, v3, some (.ref a1), v5], .ref a1 :: st, SH, σ)) ∧
  (∀ (v0 : Option Value) (v1 : Option Value) (v2 : Option Value) (v3 : Option Value) (v5 : Option Value) (st : List Value) (σ : ma_H), ma_rn ro d 63 (82, [v0, v1, v2, v3, some .null, v5], st, SH, σ) = ma_rn ro d 63 (84, [v0, v1, v2, v3, some .null, v5], .null :: st, SH, σ)) ∧
  (∀ (v0 : Option Value) (v1 : Option Value) (v2 : Option Value) (v4 : Option Value) (v5 : Option Value) (x1 : Int32) (st : List Value) (σ : ma_H), ma_rn ro d 63 (84, [v0, v1, v2, some (.int x1), v4, v5], st, SH, σ) = ma_rn ro d 63 (85, [v0, v1, v2, some (.int x1), v4, v5], .int x1 :: st, SH, σ)) ∧
  (∀ (v0 : Option Value) (v1 : Option Value) (v2 : Option Value) (v3 : Option Value) (v4 : Option Value) (v5 : Option Value) (x1 : Int32) (a2 : Nat) (st : List Value) (σ : ma_H) (hc : hk_cls a2 = 1), ma_rn ro d 63 (85, [v0, v1, v2, v3, v4, v5], .int x1 :: .ref a2 :: st, SH, σ) = ma_rn ro d 63 (88, [v0, v1, v2, v3, v4, v5], st, SH, (ma_up σ a2 5 x1))) ∧
  (∀ (v0 : Option Value) (v1 : Option Value) (v2 : Option Value) (v3 : Option Value) (v4 : Option Value) (v5 : Option Value) (st : List Value) (σ : ma_H), ma_rn ro d 63 (88, [v0, v1, v2, v3, v4, v5], st, SH, σ) = ma_rn ro d 63 (104, [v0, v1, v2, v3, v4, v5], st, SH, σ)) ∧
  (∀ (v0 : Option Value) (v1 : Option Value) (v2 : Option Value) (v3 : Option Value) (v5 : Option Value) (a1 : Nat) (st : List Value) (σ : ma_H), ma_rn ro d 63 (91, [v0, v1, v2, v3, some (.ref a1), v5], st, SH, σ) = ma_rn ro d 63 (93, [v0, v1, v2, v3, some (.ref a1), v5], .ref a1 :: st, SH, σ)) ∧
  (∀ (v0 : Option Value) (v1 : Option Value) (v2 : Option Value) (v3 : Option Value) (v5 : Option Value) (st : List Value) (σ : ma_H), ma_rn ro d 63 (91, [v0, v1, v2, v3, some .null, v5], st, SH, σ) = ma_rn ro d 63 (93, [v0, v1, v2, v3, some .null, v5], .null :: st, SH, σ)) ∧
  (∀ (v0 : Option Value) (v1 : Option Value) (v2 : Option Value) (v3 : Option Value) (v4 : Option Value) (v5 : Option Value) (a1 : Nat) (st : List Value) (σ : ma_H) (hc : hk_cls a1 = 1), ma_rn ro d 63 (93, [v0, v1, v2, v3, v4, v5], .ref a1 :: st, SH, σ) = ma_rn ro d 63 (96, [v0, v1, v2, v3, v4, v5], .int (σ a1 6) :: st, SH, σ)) ∧
  (∀ (v0 : Option Value) (v1 : Option Value) (v2 : Option Value) (v3 : Option Value) (v4 : Option Value) (v5 : Option Value) (x1 : Int32) (st : List Value) (σ : ma_H) (hb : ma_bef [v0, v1, v2, v3, v4, v5] 5 = false), ma_rn ro d 63 (96, [v0, v1, v2, v3, v4, v5], .int x1 :: st, SH, σ) = ma_rn ro d 63 (98, [v0, v1, v2, v3, v4, some (.int x1)], st, SH, σ)) ∧
  (∀ (v0 : Option Value) (v1 : Option Value) (v2 : Option Value) (v3 : Option Value) (v5 : Option Value) (a1 : Nat) (st : List Value) (σ : ma_H), ma_rn ro d 63 (98, [v0, v1, v2, v3, some (.ref a1), v5], st, SH, σ) = ma_rn ro d 63 (100, [v0, v1, v2, v3, some (.ref a1), v5], .ref a1 :: st, SH, σ)) ∧
  (∀ (v0 : Option Value) (v1 : Option Value) (v2 : Option Value) (v3 : Option Value) (v5 : Option Value) (st : List Value) (σ : ma_H), ma_rn ro d 63 (98, [v0, v1, v2, v3, some .null, v5], st, SH, σ) = ma_rn ro d 63 (100, [v0, v1, v2, v3, some .null, v5], .null :: st, SH, σ)) ∧
  (∀ (v0 : Option Value) (v1 : Option Value) (v2 : Option Value) (v4 : Option Value) (v5 : Option Value) (x1 : Int32) (st : List Value) (σ : ma_H), ma_rn ro d 63 (100, [v0, v1, v2, some (.int x1), v4, v5], st, SH, σ) = ma_rn ro d 63 (101, [v0, v1, v2, some (.int x1), v4, v5], .int x1 :: st, SH, σ)) ∧
  (∀ (v0 : Option Value) (v1 : Option Value) (v2 : Option Value) (v3 : Option Value) (v4 : Option Value) (v5 : Option Value) (x1 : Int32) (a2 : Nat) (st : List Value) (σ : ma_H) (hc : hk_cls a2 = 1), ma_rn ro d 63 (101, [v0, v1, v2, v3, v4, v5], .int x1 :: .ref a2 :: st, SH, σ) = ma_rn ro d 63 (104, [v0, v1, v2, v3, v4, v5], st, SH, (ma_up σ a2 6 x1))) ∧
  (∀ (v0 : Option Value) (v1 : Option Value) (v2 : Option Value) (v3 : Option Value) (v4 : Option Value) (x1 : Int32) (st : List Value) (σ : ma_H), ma_rn ro d 63 (104, [v0, v1, v2, v3, v4, some (.int x1)], st, SH, σ) = ma_rn ro d 63 (106, [v0, v1, v2, v3, v4, some (.int x1)], .int x1 :: st, SH, σ)) ∧
  (∀ (v0 : Option Value) (v1 : Option Value) (v2 : Option Value) (v3 : Option Value) (v4 : Option Value) (v5 : Option Value) (x1 : Int32) (σ : ma_H), ma_rn ro d 63 (106, [v0, v1, v2, v3, v4, v5], [.int x1], SH, σ) = some (some (.int x1), SH, σ)) := ⟨fun v1 v2 v3 v4 v5 a1 st σ => q_go e63_0 rfl rfl,
  fun v0 v1 v2 v3 v4 v5 a1 st σ hc => q_getA e63_1 o_63 f_7_12 (by decide) hc,
  fun v0 v1 v2 v3 v4 v5 a1 st σ hc => q_getA e63_4 o_63 f_7_93 (by decide) hc,
  fun v0 v2 v3 v4 v5 x1 st σ => q_go e63_7 rfl rfl,
  fun v0 v1 v2 v3 v4 v5 x1 a0 σ hc => q_invV (as := [.int x1]) (rest := []) e63_8 o_63 bn_7_102 c_7_102 m_50 (by decide) rfl rfl (Nat.le_of_ble_eq_true rfl) (Nat.le_of_ble_eq_true rfl) hc,
  fun v0 v1 v2 v4 v5 x9 a1 st σ => q_go e63_11 rfl rfl,
  fun v0 v1 v2 v4 v5 x9 st σ => q_go e63_11 rfl rfl,
  fun v0 v1 v2 v3 v5 a1 st σ => q_go e63_13 rfl rfl,
  fun v0 v1 v2 v3 v5 st σ => q_go e63_13 rfl rfl,
  fun v0 v1 v2 v3 v4 v5 a1 st σ => q_ifnullR e63_15 rfl,
  fun v0 v1 v2 v3 v4 v5 st σ => q_ifnullN e63_15 rfl,
  fun v0 v1 v3 v4 v5 x1 st σ => q_go e63_18 rfl rfl,
  fun v0 v1 v2 v3 v4 v5 st σ => q_iconst e63_19 (by decide),
  fun v0 v1 v2 v3 v4 v5 x1 x2 σ => q_invS (as := [.int x1, .int x2]) (rest := []) e63_20 o_63 bn_7_67 c_7_67 ⟨m_88.1, m_88.2.1, m_88.2.2.1⟩ rfl rfl (Nat.le_of_ble_eq_true rfl) (Nat.le_of_ble_eq_true rfl),
  fun v0 v1 v2 v3 v4 v5 x1 st σ => (q_if e63_23 rfl).trans q_eq,
  fun v0 v1 v2 v3 v4 v5 st σ => q_iconst e63_26 (by decide),
  fun v0 v1 v2 v3 v4 v5 x1 σ => q_iret e63_27 r_63,
  fun v0 v1 v2 v4 v5 x1 st σ => q_go e63_28 rfl rfl,
  fun v0 v1 v3 v4 v5 x1 st σ => q_go e63_29 rfl rfl,
  fun v0 v1 v2 v3 v4 v5 st σ => q_iconst e63_30 (by decide),
  fun v0 v1 v2 v3 v4 v5 x1 x2 st σ => (q_cmp e63_31 rfl).trans q_ne,
  fun v0 v1 v2 v3 v4 v5 st σ => q_bipush e63_34 (by decide),
  fun v0 v1 v2 v3 v4 v5 st σ => q_goto e63_36 rfl,
  fun v0 v1 v2 v3 v4 v5 st σ => q_bipush e63_39 (by decide),
  fun v0 v1 v2 v3 v4 v5 x1 x2 σ => q_invS (as := [.int x1, .int x2]) (rest := []) e63_41 o_63 bn_7_67 c_7_67 ⟨m_88.1, m_88.2.1, m_88.2.2.1⟩ rfl rfl (Nat.le_of_ble_eq_true rfl) (Nat.le_of_ble_eq_true rfl),
  fun v0 v1 v2 v3 v4 v5 x1 st σ => (q_if e63_44 rfl).trans q_eq,
  fun v0 v1 v2 v3 v4 v5 st σ => q_bipush e63_47 (by decide),
  fun v0 v1 v2 v3 v4 v5 x1 σ => q_iret e63_49 r_63,
  fun v0 v1 v3 v4 v5 x1 st σ => q_go e63_50 rfl rfl,
  fun v0 v1 v2 v3 v4 v5 x1 st σ => (q_if e63_51 rfl).trans q_ne,
  fun v0 v1 v2 v3 v5 a1 st σ => q_go e63_54 rfl rfl,
  fun v0 v1 v2 v3 v5 st σ => q_go e63_54 rfl rfl,
  fun v0 v1 v2 v3 v4 v5 a1 st σ hc => q_getI e63_56 o_63 f_7_117 (by decide) hc,
  fun v0 v1 v2 v3 v4 v5 x1 st σ hb => q_go e63_59 rfl (q_s1 hb rfl (Nat.le_of_ble_eq_true rfl)),
  fun v0 v1 v2 v3 v5 a1 st σ => q_go e63_61 rfl rfl,
  fun v0 v1 v2 v3 v5 st σ => q_go e63_61 rfl rfl,
  fun v0 v1 v2 v4 v5 x1 st σ => q_go e63_63 rfl rfl,
  fun v0 v1 v2 v3 v4 v5 x1 a2 st σ hc => q_putI e63_64 o_63 f_7_117 (by decide) rfl hc,
  fun v0 v1 v2 v3 v4 v5 st σ => q_goto e63_67 rfl,
  fun v0 v1 v3 v4 v5 x1 st σ => q_go e63_70 rfl rfl,
  fun v0 v1 v2 v3 v4 v5 st σ => q_iconst e63_71 (by decide),
  fun v0 v1 v2 v3 v4 v5 x1 x2 st σ => (q_cmp e63_72 rfl).trans q_ne,
  fun v0 v1 v2 v3 v5 a1 st σ => q_go e63_75 rfl rfl,
  fun v0 v1 v2 v3 v5 st σ => q_go e63_75 rfl rfl,
  fun v0 v1 v2 v3 v4 v5 a1 st σ hc => q_getI e63_77 o_63 f_7_120 (by decide) hc,
  fun v0 v1 v2 v3 v4 v5 x1 st σ hb => q_go e63_80 rfl (q_s1 hb rfl (Nat.le_of_ble_eq_true rfl)),
  fun v0 v1 v2 v3 v5 a1 st σ => q_go e63_82 rfl rfl,
  fun v0 v1 v2 v3 v5 st σ => q_go e63_82 rfl rfl,
  fun v0 v1 v2 v4 v5 x1 st σ => q_go e63_84 rfl rfl,
  fun v0 v1 v2 v3 v4 v5 x1 a2 st σ hc => q_putI e63_85 o_63 f_7_120 (by decide) rfl hc,
  fun v0 v1 v2 v3 v4 v5 st σ => q_goto e63_88 rfl,
  fun v0 v1 v2 v3 v5 a1 st σ => q_go e63_91 rfl rfl,
  fun v0 v1 v2 v3 v5 st σ => q_go e63_91 rfl rfl,
  fun v0 v1 v2 v3 v4 v5 a1 st σ hc => q_getI e63_93 o_63 f_7_123 (by decide) hc,
  fun v0 v1 v2 v3 v4 v5 x1 st σ hb => q_go e63_96 rfl (q_s1 hb rfl (Nat.le_of_ble_eq_true rfl)),
  fun v0 v1 v2 v3 v5 a1 st σ => q_go e63_98 rfl rfl,
  fun v0 v1 v2 v3 v5 st σ => q_go e63_98 rfl rfl,
  fun v0 v1 v2 v4 v5 x1 st σ => q_go e63_100 rfl rfl,
  fun v0 v1 v2 v3 v4 v5 x1 a2 st σ hc => q_putI e63_101 o_63 f_7_123 (by decide) rfl hc,
  fun v0 v1 v2 v3 v4 x1 st σ => q_go e63_104 rfl rfl,
  fun v0 v1 v2 v3 v4 v5 x1 σ => q_iret e63_106 r_63⟩
theorem E63 {ro : ma_RO} {d : Nat} (a0 : Nat) (x1 : Int32) (x2 : Int32) (x3 : Int32) (sh : List ma_Sh) (σ : ma_H) : ma_ev ro d 63 [.ref a0, .int x1, .int x2, .int x3] sh σ = ma_rn ro d 63 (0, [some (.ref a0), some (.int x1), some (.int x2), some (.int x3), none, none], [], sh, σ) := q_ent x_63 rfl
theorem e64_0 : decode (ma_cd 64) 0 = .ok (.iload_n 1, 1) := (congrArg (fun b => decode b 0) cd_64).trans dX7_hurry_0
theorem e64_1 : decode (ma_cd 64) 1 = .ok (.bipush 20, 2) := (congrArg (fun b => decode b 1) cd_64).trans dX7_hurry_1
theorem e64_3 : decode (ma_cd 64) 3 = .ok (.invokestatic 67, 3) := (congrArg (fun b => decode b 3) cd_64).trans dX7_hurry_3
theorem e64_6 : decode (ma_cd 64) 6 = .ok (.ifCond .eq 6, 3) := (congrArg (fun b => decode b 6) cd_64).trans dX7_hurry_6
theorem e64_9 : decode (ma_cd 64) 9 = .ok (.bipush (-2), 2) := (congrArg (fun b => decode b 9) cd_64).trans dX7_hurry_9
theorem e64_11 : decode (ma_cd 64) 11 = .ok (.ireturn, 1) := (congrArg (fun b => decode b 11) cd_64).trans dX7_hurry_11
theorem e64_12 : decode (ma_cd 64) 12 = .ok (.aload_n 0, 1) := (congrArg (fun b => decode b 12) cd_64).trans dX7_hurry_12
theorem e64_13 : decode (ma_cd 64) 13 = .ok (.getfield 12, 3) := (congrArg (fun b => decode b 13) cd_64).trans dX7_hurry_13
theorem e64_16 : decode (ma_cd 64) 16 = .ok (.getfield 93, 3) := (congrArg (fun b => decode b 16) cd_64).trans dX7_hurry_16
theorem e64_19 : decode (ma_cd 64) 19 = .ok (.getfield 150, 3) := (congrArg (fun b => decode b 19) cd_64).trans dX7_hurry_19
theorem e64_22 : decode (ma_cd 64) 22 = .ok (.istore_n 2, 1) := (congrArg (fun b => decode b 22) cd_64).trans dX7_hurry_22
theorem e64_23 : decode (ma_cd 64) 23 = .ok (.aload_n 0, 1) := (congrArg (fun b => decode b 23) cd_64).trans dX7_hurry_23
theorem e64_24 : decode (ma_cd 64) 24 = .ok (.getfield 12, 3) := (congrArg (fun b => decode b 24) cd_64).trans dX7_hurry_24
theorem e64_27 : decode (ma_cd 64) 27 = .ok (.getfield 93, 3) := (congrArg (fun b => decode b 27) cd_64).trans dX7_hurry_27
theorem e64_30 : decode (ma_cd 64) 30 = .ok (.iload_n 1, 1) := (congrArg (fun b => decode b 30) cd_64).trans dX7_hurry_30
theorem e64_31 : decode (ma_cd 64) 31 = .ok (.putfield 150, 3) := (congrArg (fun b => decode b 31) cd_64).trans dX7_hurry_31
theorem e64_34 : decode (ma_cd 64) 34 = .ok (.iload_n 2, 1) := (congrArg (fun b => decode b 34) cd_64).trans dX7_hurry_34
theorem e64_35 : decode (ma_cd 64) 35 = .ok (.ireturn, 1) := (congrArg (fun b => decode b 35) cd_64).trans dX7_hurry_35
theorem S64 {ro : ma_RO} {d : Nat} : (∀ (v0 : Option Value) (v2 : Option Value) (x1 : Int32) (st : List Value) (σ : ma_H), ma_rn ro d 64 (0, [v0, some (.int x1), v2], st, SH, σ) = ma_rn ro d 64 (1, [v0, some (.int x1), v2], .int x1 :: st, SH, σ)) ∧
  (∀ (v0 : Option Value) (v1 : Option Value) (v2 : Option Value) (st : List Value) (σ : ma_H), ma_rn ro d 64 (1, [v0, v1, v2], st, SH, σ) = ma_rn ro d 64 (3, [v0, v1, v2], .int (nI 20) :: st, SH, σ)) ∧
  (∀ (v0 : Option Value) (v1 : Option Value) (v2 : Option Value) (x1 : Int32) (x2 : Int32) (σ : ma_H), ma_rn ro (d + 1) 64 (3, [v0, v1, v2], .int x2 :: .int x1 :: [], SH, σ) = (ma_ev ro d 88 [.int x1, .int x2] SH σ).bind (fun q => ma_rn ro (d + 1) 64 (6, [v0, v1, v2], (q.1.toList ++ []), q.2.1, q.2.2))) ∧
  (∀ (v0 : Option Value) (v1 : Option Value) (v2 : Option Value) (x1 : Int32) (st : List Value) (σ : ma_H), ma_rn ro d 64 (6, [v0, v1, v2], .int x1 :: st, SH, σ) = if x1 = nI 0 then ma_rn ro d 64 (12, [v0, v1, v2], st, SH, σ) else ma_rn ro d 64 (9, [v0, v1, v2], st, SH, σ)) ∧
  (∀ (v0 : Option Value) (v1 : Option Value) (v2 : Option Value) (st : List Value) (σ : ma_H), ma_rn ro d 64 (9, [v0, v1, v2], st, SH, σ) = ma_rn ro d 64 (11, [v0, v1, v2], .int ((-2)) :: st, SH, σ)) ∧
  (∀ (v0 : Option Value) (v1 : Option Value) (v2 : Option Value) (x1 : Int32) (σ : ma_H), ma_rn ro d 64 (11, [v0, v1, v2], [.int x1], SH, σ) = some (some (.int x1), SH, σ)) ∧
  (∀ (v1 : Option Value) (v2 : Option Value) (a1 : Nat) (st : List Value) (σ : ma_H), ma_rn ro d 64 (12, [some (.ref a1), v1, v2], st, SH, σ) = ma_rn ro d 64 (13, [some (.ref a1), v1, v2], .ref a1 :: st, SH, σ)) ∧
  (∀ (v0 : Option Value) (v1 : Option Value) (v2 : Option Value) (a1 : Nat) (st : List Value) (σ : ma_H) (hc : hk_cls a1 = 7), ma_rn ro d 64 (13, [v0, v1, v2], .ref a1 :: st, SH, σ) = ma_rn ro d 64 (16, [v0, v1, v2], .ref (1) :: st, SH, σ)) ∧
  (∀ (v0 : Option Value) (v1 : Option Value) (v2 : Option Value) (a1 : Nat) (st : List Value) (σ : ma_H) (hc : hk_cls a1 = 5), ma_rn ro d 64 (16, [v0, v1, v2], .ref a1 :: st, SH, σ) = ma_rn ro d 64 (19, [v0, v1, v2], .ref (a1 + 1) :: st, SH, σ)) ∧
  (∀ (v0 : Option Value) (v1 : Option Value) (v2 : Option Value) (a1 : Nat) (st : List Value) (σ : ma_H) (hc : hk_cls a1 = 6), ma_rn ro d 64 (19, [v0, v1, v2], .ref a1 :: st, SH, σ) = ma_rn ro d 64 (22, [v0, v1, v2], .int (σ a1 2) :: st, SH, σ)) ∧
  (∀ (v0 : Option Value) (v2 : Option Value) (x9 : Int32) (x1 : Int32) (st : List Value) (σ : ma_H), ma_rn ro d 64 (22, [v0, some (.int x9), v2], .int x1 :: st, SH, σ) = ma_rn ro d 64 (23, [v0, some (.int x9), some (.int x1)], st, SH, σ)) ∧
  (∀ (v1 : Option Value) (v2 : Option Value) (a1 : Nat) (st : List Value) (σ : ma_H), ma_rn ro d 64 (23, [some (.ref a1), v1, v2], st, SH, σ) = ma_rn ro d 64 (24, [some (.ref a1), v1, v2], .ref a1 :: st, SH, σ)) ∧
  (∀ (v0 : Option Value) (v1 : Option Value) (v2 : Option Value) (a1 : Nat) (st : List Value) (σ : ma_H) (hc : hk_cls a1 = 7), ma_rn ro d 64 (24, [v0, v1, v2], .ref a1 :: st, SH, σ) = ma_rn ro d 64 (27, [v0, v1, v2], .ref (1) :: st, SH, σ)) ∧
  (∀ (v0 : Option Value) (v1 : Option Value) (v2 : Option Value) (a1 : Nat) (st : List Value) (σ : ma_H) (hc : hk_cls a1 = 5), ma_rn ro d 64 (27, [v0, v1, v2], .ref a1 :: st, SH, σ) = ma_rn ro d 64 (30, [v0, v1, v2], .ref (a1 + 1) :: st, SH, σ)) ∧
  (∀ (v0 : Option Value) (v2 : Option Value) (x1 : Int32) (st : List Value) (σ : ma_H), ma_rn ro d 64 (30, [v0, some (.int x1), v2], st, SH, σ) = ma_rn ro d 64 (31, [v0, some (.int x1), v2], .int x1 :: st, SH, σ)) ∧
  (∀ (v0 : Option Value) (v1 : Option Value) (v2 : Option Value) (x1 : Int32) (a2 : Nat) (st : List Value) (σ : ma_H) (hc : hk_cls a2 = 6), ma_rn ro d 64 (31, [v0, v1, v2], .int x1 :: .ref a2 :: st, SH, σ) = ma_rn ro d 64 (34, [v0, v1, v2], st, SH, (ma_up σ a2 2 x1))) ∧
  (∀ (v0 : Option Value) (v1 : Option Value) (x1 : Int32) (st : List Value) (σ : ma_H), ma_rn ro d 64 (34, [v0, v1, some (.int x1)], st, SH, σ) = ma_rn ro d 64 (35, [v0, v1, some (.int x1)], .int x1 :: st, SH, σ)) ∧
  (∀ (v0 : Option Value) (v1 : Option Value) (v2 : Option Value) (x1 : Int32) (σ : ma_H), ma_rn ro d 64 (35, [v0, v1, v2], [.int x1], SH, σ) = some (some (.int x1), SH, σ)) := ⟨fun v0 v2 x1 st σ => q_go e64_0 rfl rfl,
  fun v0 v1 v2 st σ => q_bipush e64_1 (by decide),
  fun v0 v1 v2 x1 x2 σ => q_invS (as := [.int x1, .int x2]) (rest := []) e64_3 o_64 bn_7_67 c_7_67 ⟨m_88.1, m_88.2.1, m_88.2.2.1⟩ rfl rfl (Nat.le_of_ble_eq_true rfl) (Nat.le_of_ble_eq_true rfl),
  fun v0 v1 v2 x1 st σ => (q_if e64_6 rfl).trans q_eq,
  fun v0 v1 v2 st σ => q_bipush e64_9 (by decide),
  fun v0 v1 v2 x1 σ => q_iret e64_11 r_64,
  fun v1 v2 a1 st σ => q_go e64_12 rfl rfl,
  fun v0 v1 v2 a1 st σ hc => q_getA e64_13 o_64 f_7_12 (by decide) hc,
  fun v0 v1 v2 a1 st σ hc => q_getA e64_16 o_64 f_7_93 (by decide) hc,
  fun v0 v1 v2 a1 st σ hc => q_getI e64_19 o_64 f_7_150 (by decide) hc,
  fun v0 v2 x9 x1 st σ => q_go e64_22 rfl rfl,
  fun v1 v2 a1 st σ => q_go e64_23 rfl rfl,
  fun v0 v1 v2 a1 st σ hc => q_getA e64_24 o_64 f_7_12 (by decide) hc,
  fun v0 v1 v2 a1 st σ hc => q_getA e64_27 o_64 f_7_93 (by decide) hc,
  fun v0 v2 x1 st σ => q_go e64_30 rfl rfl,
  fun v0 v1 v2 x1 a2 st σ hc => q_putI e64_31 o_64 f_7_150 (by decide) rfl hc,
  fun v0 v1 x1 st σ => q_go e64_34 rfl rfl,
  fun v0 v1 v2 x1 σ => q_iret e64_35 r_64⟩
theorem E64 {ro : ma_RO} {d : Nat} (a0 : Nat) (x1 : Int32) (sh : List ma_Sh) (σ : ma_H) : ma_ev ro d 64 [.ref a0, .int x1] sh σ = ma_rn ro d 64 (0, [some (.ref a0), some (.int x1), none], [], sh, σ) := q_ent x_64 rfl
theorem e65_0 : decode (ma_cd 65) 0 = .ok (.aload_n 0, 1) := (congrArg (fun b => decode b 0) cd_65).trans dX7_look_0
theorem e65_1 : decode (ma_cd 65) 1 = .ok (.getfield 12, 3) := (congrArg (fun b => decode b 1) cd_65).trans dX7_look_1
theorem e65_4 : decode (ma_cd 65) 4 = .ok (.getfield 93, 3) := (congrArg (fun b => decode b 4) cd_65).trans dX7_look_4
theorem e65_7 : decode (ma_cd 65) 7 = .ok (.iload_n 1, 1) := (congrArg (fun b => decode b 7) cd_65).trans dX7_look_7
theorem e65_8 : decode (ma_cd 65) 8 = .ok (.invokevirtual 102, 3) := (congrArg (fun b => decode b 8) cd_65).trans dX7_look_8
theorem e65_11 : decode (ma_cd 65) 11 = .ok (.astore_n 2, 1) := (congrArg (fun b => decode b 11) cd_65).trans dX7_look_11
theorem e65_12 : decode (ma_cd 65) 12 = .ok (.aload_n 2, 1) := (congrArg (fun b => decode b 12) cd_65).trans dX7_look_12
theorem e65_13 : decode (ma_cd 65) 13 = .ok (.ifnonnull 5, 3) := (congrArg (fun b => decode b 13) cd_65).trans dX7_look_13
theorem e65_16 : decode (ma_cd 65) 16 = .ok (.iconst (-1), 1) := (congrArg (fun b => decode b 16) cd_65).trans dX7_look_16
theorem e65_17 : decode (ma_cd 65) 17 = .ok (.ireturn, 1) := (congrArg (fun b => decode b 17) cd_65).trans dX7_look_17
theorem e65_18 : decode (ma_cd 65) 18 = .ok (.aload_n 2, 1) := (congrArg (fun b => decode b 18) cd_65).trans dX7_look_18
theorem e65_19 : decode (ma_cd 65) 19 = .ok (.getfield 113, 3) := (congrArg (fun b => decode b 19) cd_65).trans dX7_look_19
theorem e65_22 : decode (ma_cd 65) 22 = .ok (.istore_n 3, 1) := (congrArg (fun b => decode b 22) cd_65).trans dX7_look_22
theorem e65_23 : decode (ma_cd 65) 23 = .ok (.aload_n 2, 1) := (congrArg (fun b => decode b 23) cd_65).trans dX7_look_23
theorem e65_24 : decode (ma_cd 65) 24 = .ok (.invokevirtual 153, 3) := (congrArg (fun b => decode b 24) cd_65).trans dX7_look_24
theorem e65_27 : decode (ma_cd 65) 27 = .ok (.iload_n 3, 1) := (congrArg (fun b => decode b 27) cd_65).trans dX7_look_27
theorem e65_28 : decode (ma_cd 65) 28 = .ok (.ifCond .eq 7, 3) := (congrArg (fun b => decode b 28) cd_65).trans dX7_look_28
theorem e65_31 : decode (ma_cd 65) 31 = .ok (.iconst 1, 1) := (congrArg (fun b => decode b 31) cd_65).trans dX7_look_31
theorem e65_32 : decode (ma_cd 65) 32 = .ok (.goto 4, 3) := (congrArg (fun b => decode b 32) cd_65).trans dX7_look_32
theorem e65_35 : decode (ma_cd 65) 35 = .ok (.iconst 0, 1) := (congrArg (fun b => decode b 35) cd_65).trans dX7_look_35
theorem e65_36 : decode (ma_cd 65) 36 = .ok (.ireturn, 1) := (congrArg (fun b => decode b 36) cd_65).trans dX7_look_36
theorem S65 {ro : ma_RO} {d : Nat} : (∀ (v1 : Option Value) (v2 : Option Value) (v3 : Option Value) (a1 : Nat) (st : List Value) (σ : ma_H), ma_rn ro d 65 (0, [some (.ref a1), v1, v2, v3], st, SH, σ) = ma_rn ro d 65 (1, [some (.ref a1), v1, v2, v3], .ref a1 :: st, SH, σ)) ∧
  (∀ (v0 : Option Value) (v1 : Option Value) (v2 : Option Value) (v3 : Option Value) (a1 : Nat) (st : List Value) (σ : ma_H) (hc : hk_cls a1 = 7), ma_rn ro d 65 (1, [v0, v1, v2, v3], .ref a1 :: st, SH, σ) = ma_rn ro d 65 (4, [v0, v1, v2, v3], .ref (1) :: st, SH, σ)) ∧
  (∀ (v0 : Option Value) (v1 : Option Value) (v2 : Option Value) (v3 : Option Value) (a1 : Nat) (st : List Value) (σ : ma_H) (hc : hk_cls a1 = 5), ma_rn ro d 65 (4, [v0, v1, v2, v3], .ref a1 :: st, SH, σ) = ma_rn ro d 65 (7, [v0, v1, v2, v3], .ref (a1 + 1) :: st, SH, σ)) ∧
  (∀ (v0 : Option Value) (v2 : Option Value) (v3 : Option Value) (x1 : Int32) (st : List Value) (σ : ma_H), ma_rn ro d 65 (7, [v0, some (.int x1), v2, v3], st, SH, σ) = ma_rn ro d 65 (8, [v0, some (.int x1), v2, v3], .int x1 :: st, SH, σ)) ∧
  (∀ (v0 : Option Value) (v1 : Option Value) (v2 : Option Value) (v3 : Option Value) (x1 : Int32) (a0 : Nat) (σ : ma_H) (hc : hk_cls a0 = 6), ma_rn ro (d + 1) 65 (8, [v0, v1, v2, v3], .int x1 :: .ref a0 :: [], SH, σ) = (ma_ev ro d 50 [.ref a0, .int x1] SH σ).bind (fun q => ma_rn ro (d + 1) 65 (11, [v0, v1, v2, v3], (q.1.toList ++ []), q.2.1, q.2.2))) ∧
  (∀ (v0 : Option Value) (v2 : Option Value) (v3 : Option Value) (x9 : Int32) (a1 : Nat) (st : List Value) (σ : ma_H), ma_rn ro d 65 (11, [v0, some (.int x9), v2, v3], .ref a1 :: st, SH, σ) = ma_rn ro d 65 (12, [v0, some (.int x9), some (.ref a1), v3], st, SH, σ)) ∧
  (∀ (v0 : Option Value) (v2 : Option Value) (v3 : Option Value) (x9 : Int32) (st : List Value) (σ : ma_H), ma_rn ro d 65 (11, [v0, some (.int x9), v2, v3], .null :: st, SH, σ) = ma_rn ro d 65 (12, [v0, some (.int x9), some .null, v3], st, SH, σ)) ∧
  (∀ (v0 : Option Value) (v1 : Option Value) (v3 : Option Value) (a1 : Nat) (st : List Value) (σ : ma_H), ma_rn ro d 65 (12, [v0, v1, some (.ref a1), v3], st, SH, σ) = ma_rn ro d 65 (13, [v0, v1, some (.ref a1), v3], .ref a1 :: st, SH, σ)) ∧
  (∀ (v0 : Option Value) (v1 : Option Value) (v3 : Option Value) (st : List Value) (σ : ma_H), ma_rn ro d 65 (12, [v0, v1, some .null, v3], st, SH, σ) = ma_rn ro d 65 (13, [v0, v1, some .null, v3], .null :: st, SH, σ)) ∧
  (∀ (v0 : Option Value) (v1 : Option Value) (v2 : Option Value) (v3 : Option Value) (a1 : Nat) (st : List Value) (σ : ma_H), ma_rn ro d 65 (13, [v0, v1, v2, v3], .ref a1 :: st, SH, σ) = ma_rn ro d 65 (18, [v0, v1, v2, v3], st, SH, σ)) ∧
  (∀ (v0 : Option Value) (v1 : Option Value) (v2 : Option Value) (v3 : Option Value) (st : List Value) (σ : ma_H), ma_rn ro d 65 (13, [v0, v1, v2, v3], .null :: st, SH, σ) = ma_rn ro d 65 (16, [v0, v1, v2, v3], st, SH, σ)) ∧
  (∀ (v0 : Option Value) (v1 : Option Value) (v2 : Option Value) (v3 : Option Value) (st : List Value) (σ : ma_H), ma_rn ro d 65 (16, [v0, v1, v2, v3], st, SH, σ) = ma_rn ro d 65 (17, [v0, v1, v2, v3], .int ((-1)) :: st, SH, σ)) ∧
  (∀ (v0 : Option Value) (v1 : Option Value) (v2 : Option Value) (v3 : Option Value) (x1 : Int32) (σ : ma_H), ma_rn ro d 65 (17, [v0, v1, v2, v3], [.int x1], SH, σ) = some (some (.int x1), SH, σ)) ∧
  (∀ (v0 : Option Value) (v1 : Option Value) (v3 : Option Value) (a1 : Nat) (st : List Value) (σ : ma_H), ma_rn ro d 65 (18, [v0, v1, some (.ref a1), v3], st, SH, σ) = ma_rn ro d 65 (19, [v0, v1, some (.ref a1), v3], .ref a1 :: st, SH, σ)) ∧
  (∀ (v0 : Option Value) (v1 : Option Value) (v3 : Option Value) (st : List Value) (σ : ma_H), ma_rn ro d 65 (18, [v0, v1, some .null, v3], st, SH, σ) = ma_rn ro d 65 (19, [v0, v1, some .null, v3], .null :: st, SH, σ)) ∧
  (∀ (v0 : Option Value) (v1 : Option Value) (v2 : Option Value) (v3 : Option Value) (a1 : Nat) (st : List Value) (σ : ma_H) (hc : hk_cls a1 = 1), ma_rn ro d 65 (19, [v0, v1, v2, v3], .ref a1 :: st, SH, σ) = ma_rn ro d 65 (22, [v0, v1, v2, v3], .int (σ a1 3) :: st, SH, σ)) ∧
  (∀ (v0 : Option Value) (v1 : Option Value) (v2 : Option Value) (v3 : Option Value) (x1 : Int32) (st : List Value) (σ : ma_H) (hb : ma_bef [v0, v1, v2, v3] 3 = false), ma_rn ro d 65 (22, [v0, v1, v2, v3], .int x1 :: st, SH, σ) = ma_rn ro d 65 (23, [v0, v1, v2, some (.int x1)], st, SH, σ)) ∧
  (∀ (v0 : Option Value) (v1 : Option Value) (v3 : Option Value) (a1 : Nat) (st : List Value) (σ : ma_H), ma_rn ro d 65 (23, [v0, v1, some (.ref a1), v3], st, SH, σ) = ma_rn ro d 65 (24, [v0, v1, some (.ref a1), v3], .ref a1 :: st, SH, σ)) ∧
  (∀ (v0 : Option Value) (v1 : Option Value) (v3 : Option Value) (st : List Value) (σ : ma_H), ma_rn ro d 65 (23, [v0, v1, some .null, v3], st, SH, σ) = ma_rn ro d 65 (24, [v0, v1, some .null, v3], .null :: st, SH, σ)) ∧
  (∀ (v0 : Option Value) (v1 : Option Value) (v2 : Option Value) (v3 : Option Value) (a0 : Nat) (σ : ma_H) (hc : hk_cls a0 = 1), ma_rn ro (d + 1) 65 (24, [v0, v1, v2, v3], .ref a0 :: [], SH, σ) = (ma_ev ro d 13 [.ref a0] SH σ).bind (fun q => ma_rn ro (d + 1) 65 (27, [v0, v1, v2, v3], (q.1.toList ++ []), q.2.1, q.2.2))) ∧
  (∀ (v0 : Option Value) (v1 : Option Value) (v2 : Option Value) (x1 : Int32) (st : List Value) (σ : ma_H), ma_rn ro d 65 (27, [v0, v1, v2, some (.int x1)], st, SH, σ) = ma_rn ro d 65 (28, [v0, v1, v2, some (.int x1)], .int x1 :: st, SH, σ)) ∧
  (∀ (v0 : Option Value) (v1 : Option Value) (v2 : Option Value) (v3 : Option Value) (x1 : Int32) (st : List Value) (σ : ma_H), ma_rn ro d 65 (28, [v0, v1, v2, v3], .int x1 :: st, SH, σ) = if x1 = nI 0 then ma_rn ro d 65 (35, [v0, v1, v2, v3], st, SH, σ) else ma_rn ro d 65 (31, [v0, v1, v2, v3], st, SH, σ)) ∧
  (∀ (v0 : Option Value) (v1 : Option Value) (v2 : Option Value) (v3 : Option Value) (st : List Value) (σ : ma_H), ma_rn ro d 65 (31, [v0, v1, v2, v3], st, SH, σ) = ma_rn ro d 65 (32, [v0, v1, v2, v3], .int (nI 1) :: st, SH, σ)) ∧
  (∀ (v0 : Option Value) (v1 : Option Value) (v2 : Option Value) (v3 : Option Value) (st : List Value) (σ : ma_H), ma_rn ro d 65 (32, [v0, v1, v2, v3], st, SH, σ) = ma_rn ro d 65 (36, [v0, v1, v2, v3], st, SH, σ)) ∧
  (∀ (v0 : Option Value) (v1 : Option Value) (v2 : Option Value) (v3 : Option Value) (st : List Value) (σ : ma_H), ma_rn ro d 65 (35, [v0, v1, v2, v3], st, SH, σ) = ma_rn ro d 65 (36, [v0, v1, v2, v3], .int (nI 0) :: st, SH, σ)) ∧
  (∀ (v0 : Option Value) (v1 : Option Value) (v2 : Option Value) (v3 : Option Value) (x1 : Int32) (σ : ma_H), ma_rn ro d 65 (36, [v0, v1, v2, v3], [.int x1], SH, σ) = some (some (.int x1), SH, σ)) := ⟨fun v1 v2 v3 a1 st σ => q_go e65_0 rfl rfl,
  fun v0 v1 v2 v3 a1 st σ hc => q_getA e65_1 o_65 f_7_12 (by decide) hc,
  fun v0 v1 v2 v3 a1 st σ hc => q_getA e65_4 o_65 f_7_93 (by decide) hc,
  fun v0 v2 v3 x1 st σ => q_go e65_7 rfl rfl,
  fun v0 v1 v2 v3 x1 a0 σ hc => q_invV (as := [.int x1]) (rest := []) e65_8 o_65 bn_7_102 c_7_102 m_50 (by decide) rfl rfl (Nat.le_of_ble_eq_true rfl) (Nat.le_of_ble_eq_true rfl) hc,
  fun v0 v2 v3 x9 a1 st σ => q_go e65_11 rfl rfl,
  fun v0 v2 v3 x9 st σ => q_go e65_11 rfl rfl,
  fun v0 v1 v3 a1 st σ => q_go e65_12 rfl rfl,
  fun v0 v1 v3 st σ => q_go e65_12 rfl rfl,
  fun v0 v1 v2 v3 a1 st σ => q_ifnonnullR e65_13 rfl,
  fun v0 v1 v2 v3 st σ => q_ifnonnullN e65_13 rfl,
  fun v0 v1 v2 v3 st σ => q_iconst e65_16 (by decide),
  fun v0 v1 v2 v3 x1 σ => q_iret e65_17 r_65,
  fun v0 v1 v3 a1 st σ => q_go e65_18 rfl rfl,
  fun v0 v1 v3 st σ => q_go e65_18 rfl rfl,
  fun v0 v1 v2 v3 a1 st σ hc => q_getI e65_19 o_65 f_7_113 (by decide) hc,
  fun v0 v1 v2 v3 x1 st σ hb => q_go e65_22 rfl (q_s1 hb rfl (Nat.le_of_ble_eq_true rfl)),
  fun v0 v1 v3 a1 st σ => q_go e65_23 rfl rfl,
  fun v0 v1 v3 st σ => q_go e65_23 rfl rfl,
  fun v0 v1 v2 v3 a0 σ hc => q_invV (as := []) (rest := []) e65_24 o_65 bn_7_153 c_7_153 m_13 (by decide) rfl rfl (Nat.le_of_ble_eq_true rfl) (Nat.le_of_ble_eq_true rfl) hc,
  fun v0 v1 v2 x1 st σ => q_go e65_27 rfl rfl,
  fun v0 v1 v2 v3 x1 st σ => (q_if e65_28 rfl).trans q_eq,
  fun v0 v1 v2 v3 st σ => q_iconst e65_31 (by decide),
  fun v0 v1 v2 v3 st σ => q_goto e65_32 rfl,
  fun v0 v1 v2 v3 st σ => q_iconst e65_35 (by decide),
  fun v0 v1 v2 v3 x1 σ => q_iret e65_36 r_65⟩
theorem E65 {ro : ma_RO} {d : Nat} (a0 : Nat) (x1 : Int32) (sh : List ma_Sh) (σ : ma_H) : ma_ev ro d 65 [.ref a0, .int x1] sh σ = ma_rn ro d 65 (0, [some (.ref a0), some (.int x1), none, none], [], sh, σ) := q_ent x_65 rfl
theorem e66_0 : decode (ma_cd 66) 0 = .ok (.aload_n 0, 1) := (congrArg (fun b => decode b 0) cd_66).trans dX7_doubt_0
theorem e66_1 : decode (ma_cd 66) 1 = .ok (.getfield 12, 3) := (congrArg (fun b => decode b 1) cd_66).trans dX7_doubt_1
theorem e66_4 : decode (ma_cd 66) 4 = .ok (.getfield 93, 3) := (congrArg (fun b => decode b 4) cd_66).trans dX7_doubt_4
theorem e66_7 : decode (ma_cd 66) 7 = .ok (.iload_n 1, 1) := (congrArg (fun b => decode b 7) cd_66).trans dX7_doubt_7
theorem e66_8 : decode (ma_cd 66) 8 = .ok (.invokevirtual 102, 3) := (congrArg (fun b => decode b 8) cd_66).trans dX7_doubt_8
theorem e66_11 : decode (ma_cd 66) 11 = .ok (.astore_n 3, 1) := (congrArg (fun b => decode b 11) cd_66).trans dX7_doubt_11
theorem e66_12 : decode (ma_cd 66) 12 = .ok (.aload_n 3, 1) := (congrArg (fun b => decode b 12) cd_66).trans dX7_doubt_12
theorem e66_13 : decode (ma_cd 66) 13 = .ok (.ifnull 12, 3) := (congrArg (fun b => decode b 13) cd_66).trans dX7_doubt_13
theorem e66_16 : decode (ma_cd 66) 16 = .ok (.iload_n 2, 1) := (congrArg (fun b => decode b 16) cd_66).trans dX7_doubt_16
theorem e66_17 : decode (ma_cd 66) 17 = .ok (.bipush 60, 2) := (congrArg (fun b => decode b 17) cd_66).trans dX7_doubt_17
theorem e66_19 : decode (ma_cd 66) 19 = .ok (.invokestatic 67, 3) := (congrArg (fun b => decode b 19) cd_66).trans dX7_doubt_19
theorem e66_22 : decode (ma_cd 66) 22 = .ok (.ifCond .eq 6, 3) := (congrArg (fun b => decode b 22) cd_66).trans dX7_doubt_22
theorem e66_25 : decode (ma_cd 66) 25 = .ok (.ldc 106, 2) := (congrArg (fun b => decode b 25) cd_66).trans dX7_doubt_25
theorem e66_27 : decode (ma_cd 66) 27 = .ok (.ireturn, 1) := (congrArg (fun b => decode b 27) cd_66).trans dX7_doubt_27
theorem e66_28 : decode (ma_cd 66) 28 = .ok (.aload_n 3, 1) := (congrArg (fun b => decode b 28) cd_66).trans dX7_doubt_28
theorem e66_29 : decode (ma_cd 66) 29 = .ok (.iload_n 2, 1) := (congrArg (fun b => decode b 29) cd_66).trans dX7_doubt_29
theorem e66_30 : decode (ma_cd 66) 30 = .ok (.aload_n 0, 1) := (congrArg (fun b => decode b 30) cd_66).trans dX7_doubt_30
theorem e66_31 : decode (ma_cd 66) 31 = .ok (.getfield 12, 3) := (congrArg (fun b => decode b 31) cd_66).trans dX7_doubt_31
theorem e66_34 : decode (ma_cd 66) 34 = .ok (.getfield 86, 3) := (congrArg (fun b => decode b 34) cd_66).trans dX7_doubt_34
theorem e66_37 : decode (ma_cd 66) 37 = .ok (.getfield 136, 3) := (congrArg (fun b => decode b 37) cd_66).trans dX7_doubt_37
theorem e66_40 : decode (ma_cd 66) 40 = .ok (.invokevirtual 156, 3) := (congrArg (fun b => decode b 40) cd_66).trans dX7_doubt_40
theorem e66_43 : decode (ma_cd 66) 43 = .ok (.ireturn, 1) := (congrArg (fun b => decode b 43) cd_66).trans dX7_doubt_43
theorem S66 {ro : ma_RO} {d : Nat} : (∀ (v1 : Option Value) (v2 : Option Value) (v3 : Option Value) (a1 : Nat) (st : List Value) (σ : ma_H), ma_rn ro d 66 (0, [some (.ref a1), v1, v2, v3], st, SH, σ) = ma_rn ro d 66 (1, [some (.ref a1), v1, v2, v3], .ref a1 :: st, SH, σ)) ∧
  (∀ (v0 : Option Value) (v1 : Option Value) (v2 : Option Value) (v3 : Option Value) (a1 : Nat) (st : List Value) (σ : ma_H) (hc : hk_cls a1 = 7), ma_rn ro d 66 (1, [v0, v1, v2, v3], .ref a1 :: st, SH, σ) = ma_rn ro d 66 (4, [v0, v1, v2, v3], .ref (1) :: st, SH, σ)) ∧
  (∀ (v0 : Option Value) (v1 : Option Value) (v2 : Option Value) (v3 : Option Value) (a1 : Nat) (st : List Value) (σ : ma_H) (hc : hk_cls a1 = 5), ma_rn ro d 66 (4, [v0, v1, v2, v3], .ref a1 :: st, SH, σ) = ma_rn ro d 66 (7, [v0, v1, v2, v3], .ref (a1 + 1) :: st, SH, σ)) ∧
  (∀ (v0 : Option Value) (v2 : Option Value) (v3 : Option Value) (x1 : Int32) (st : List Value) (σ : ma_H), ma_rn ro d 66 (7, [v0, some (.int x1), v2, v3], st, SH, σ) = ma_rn ro d 66 (8, [v0, some (.int x1), v2, v3], .int x1 :: st, SH, σ)) ∧
  (∀ (v0 : Option Value) (v1 : Option Value) (v2 : Option Value) (v3 : Option Value) (x1 : Int32) (a0 : Nat) (σ : ma_H) (hc : hk_cls a0 = 6), ma_rn ro (d + 1) 66 (8, [v0, v1, v2, v3], .int x1 :: .ref a0 :: [], SH, σ) = (ma_ev ro d 50 [.ref a0, .int x1] SH σ).bind (fun q => ma_rn ro (d + 1) 66 (11, [v0, v1, v2, v3], (q.1.toList ++ []), q.2.1, q.2.2))) ∧
  (∀ (v0 : Option Value) (v1 : Option Value) (v3 : Option Value) (x9 : Int32) (a1 : Nat) (st : List Value) (σ : ma_H), ma_rn ro d 66 (11, [v0, v1, some (.int x9), v3], .ref a1 :: st, SH, σ) = ma_rn ro d 66 (12, [v0, v1, some (.int x9), some (.ref a1)], st, SH, σ)) ∧
  (∀ (v0 : Option Value) (v1 : Option Value) (v3 : Option Value) (x9 : Int32) (st : List Value) (σ : ma_H), ma_rn ro d 66 (11, [v0, v1, some (.int x9), v3], .null :: st, SH, σ) = ma_rn ro d 66 (12, [v0, v1, some (.int x9), some .null], st, SH, σ)) ∧
  (∀ (v0 : Option Value) (v1 : Option Value) (v2 : Option Value) (a1 : Nat) (st : List Value) (σ : ma_H), ma_rn ro d 66 (12, [v0, v1, v2, some (.ref a1)], st, SH, σ) = ma_rn ro d 66 (13, [v0, v1, v2, some (.ref a1)], .ref a1 :: st, SH, σ)) ∧
  (∀ (v0 : Option Value) (v1 : Option Value) (v2 : Option Value) (st : List Value) (σ : ma_H), ma_rn ro d 66 (12, [v0, v1, v2, some .null], st, SH, σ) = ma_rn ro d 66 (13, [v0, v1, v2, some .null], .null :: st, SH, σ)) ∧
  (∀ (v0 : Option Value) (v1 : Option Value) (v2 : Option Value) (v3 : Option Value) (a1 : Nat) (st : List Value) (σ : ma_H), ma_rn ro d 66 (13, [v0, v1, v2, v3], .ref a1 :: st, SH, σ) = ma_rn ro d 66 (16, [v0, v1, v2, v3], st, SH, σ)) ∧
  (∀ (v0 : Option Value) (v1 : Option Value) (v2 : Option Value) (v3 : Option Value) (st : List Value) (σ : ma_H), ma_rn ro d 66 (13, [v0, v1, v2, v3], .null :: st, SH, σ) = ma_rn ro d 66 (25, [v0, v1, v2, v3], st, SH, σ)) ∧
  (∀ (v0 : Option Value) (v1 : Option Value) (v3 : Option Value) (x1 : Int32) (st : List Value) (σ : ma_H), ma_rn ro d 66 (16, [v0, v1, some (.int x1), v3], st, SH, σ) = ma_rn ro d 66 (17, [v0, v1, some (.int x1), v3], .int x1 :: st, SH, σ)) ∧
  (∀ (v0 : Option Value) (v1 : Option Value) (v2 : Option Value) (v3 : Option Value) (st : List Value) (σ : ma_H), ma_rn ro d 66 (17, [v0, v1, v2, v3], st, SH, σ) = ma_rn ro d 66 (19, [v0, v1, v2, v3], .int (nI 60) :: st, SH, σ)) ∧
  (∀ (v0 : Option Value) (v1 : Option Value) (v2 : Option Value) (v3 : Option Value) (x1 : Int32) (x2 : Int32) (σ : ma_H), ma_rn ro (d + 1) 66 (19, [v0, v1, v2, v3], .int x2 :: .int x1 :: [], SH, σ) = (ma_ev ro d 88 [.int x1, .int x2] SH σ).bind (fun q => ma_rn ro (d + 1) 66 (22, [v0, v1, v2, v3], (q.1.toList ++ []), q.2.1, q.2.2))) ∧
  (∀ (v0 : Option Value) (v1 : Option Value) (v2 : Option Value) (v3 : Option Value) (x1 : Int32) (st : List Value) (σ : ma_H), ma_rn ro d 66 (22, [v0, v1, v2, v3], .int x1 :: st, SH, σ) = if x1 = nI 0 then ma_rn ro d 66 (28, [v0, v1, v2, v3], st, SH, σ) else ma_rn ro d 66 (25, [v0, v1, v2, v3], st, SH, σ)) ∧
  (∀ (v0 : Option Value) (v1 : Option Value) (v2 : Option Value) (v3 : Option Value) (st : List Value) (σ : ma_H), ma_rn ro d 66 (25, [v0, v1, v2, v3], st, SH, σ) = ma_rn ro d 66 (27, [v0, v1, v2, v3], .int ((-999999)) :: st, SH, σ)) ∧
  (∀ (v0 : Option Value) (v1 : Option Value) (v2 : Option Value) (v3 : Option Value) (x1 : Int32) (σ : ma_H), ma_rn ro d 66 (27, [v0, v1, v2, v3], [.int x1], SH, σ) = some (some (.int x1), SH, σ)) ∧
  (∀ (v0 : Option Value) (v1 : Option Value) (v2 : Option Value) (a1 : Nat) (st : List Value) (σ : ma_H), ma_rn ro d 66 (28, [v0, v1, v2, some (.ref a1)], st, SH, σ) = ma_rn ro d 66 (29, [v0, v1, v2, some (.ref a1)], .ref a1 :: st, SH, σ)) ∧
  (∀ (v0 : Option Value) (v1 : Option Value) (v2 : Option Value) (st : List Value) (σ : ma_H), ma_rn ro d 66 (28, [v0, v1, v2, some .null], st, SH, σ) = ma_rn ro d 66 (29, [v0, v1, v2, some .null], .null :: st, SH, σ)) ∧
  (∀ (v0 : Option Value) (v1 : Option Value) (v3 : Option Value) (x1 : Int32) (st : List Value) (σ : ma_H), ma_rn ro d 66 (29, [v0, v1, some (.int x1), v3], st, SH, σ) = ma_rn ro d 66 (30, [v0, v1, some (.int x1), v3], .int x1 :: st, SH, σ)) ∧
  (∀ (v1 : Option Value) (v2 : Option Value) (v3 : Option Value) (a1 : Nat) (st : List Value) (σ : ma_H), ma_rn ro d 66 (30, [some (.ref a1), v1, v2, v3], st, SH, σ) = ma_rn ro d 66 (31, [some (.ref a1), v1, v2, v3], .ref a1 :: st, SH, σ)) ∧
  (∀ (v0 : Option Value) (v1 : Option Value) (v2 : Option Value) (v3 : Option Value) (a1 : Nat) (st : List Value) (σ : ma_H) (hc : hk_cls a1 = 7), ma_rn ro d 66 (31, [v0, v1, v2, v3], .ref a1 :: st, SH, σ) = ma_rn ro d 66 (34, [v0, v1, v2, v3], .ref (1) :: st, SH, σ)) ∧
  (∀ (v0 : Option Value) (v1 : Option Value) (v2 : Option Value) (v3 : Option Value) (a1 : Nat) (st : List Value) (σ : ma_H) (hc : hk_cls a1 = 5), ma_rn ro d 66 (34, [v0, v1, v2, v3], .ref a1 :: st, SH, σ) = ma_rn ro d 66 (37, [v0, v1, v2, v3], .ref (a1 + 15) :: st, SH, σ)) ∧
  (∀ (v0 : Option Value) (v1 : Option Value) (v2 : Option Value) (v3 : Option Value) (a1 : Nat) (st : List Value) (σ : ma_H) (hc : hk_cls a1 = 2), ma_rn ro d 66 (37, [v0, v1, v2, v3], .ref a1 :: st, SH, σ) = ma_rn ro d 66 (40, [v0, v1, v2, v3], .int (σ a1 0) :: st, SH, σ)) ∧
  (∀ (v0 : Option Value) (v1 : Option Value) (v2 : Option Value) (v3 : Option Value) (x1 : Int32) (x2 : Int32) (a0 : Nat) (σ : ma_H) (hc : hk_cls a0 = 1), ma_rn ro (d + 1) 66 (40, [v0, v1, v2, v3], .int x2 :: .int x1 :: .ref a0 :: [], SH, σ) = (ma_ev ro d 14 [.ref a0, .int x1, .int x2] SH σ).bind (fun q => ma_rn ro (d + 1) 66 (43, [v0, v1, v2, v3], (q.1.toList ++ []), q.2.1, q.2.2))) ∧
  (∀ (v0 : Option Value) (v1 : Option Value) (v2 : Option Value) (v3 : Option Value) (x1 : Int32) (σ : ma_H), ma_rn ro d 66 (43, [v0, v1, v2, v3], [.int x1], SH, σ) = some (some (.int x1), SH, σ)) := ⟨fun v1 v2 v3 a1 st σ => q_go e66_0 rfl rfl,
  fun v0 v1 v2 v3 a1 st σ hc => q_getA e66_1 o_66 f_7_12 (by decide) hc,
  fun v0 v1 v2 v3 a1 st σ hc => q_getA e66_4 o_66 f_7_93 (by decide) hc,
  fun v0 v2 v3 x1 st σ => q_go e66_7 rfl rfl,
  fun v0 v1 v2 v3 x1 a0 σ hc => q_invV (as := [.int x1]) (rest := []) e66_8 o_66 bn_7_102 c_7_102 m_50 (by decide) rfl rfl (Nat.le_of_ble_eq_true rfl) (Nat.le_of_ble_eq_true rfl) hc,
  fun v0 v1 v3 x9 a1 st σ => q_go e66_11 rfl rfl,
  fun v0 v1 v3 x9 st σ => q_go e66_11 rfl rfl,
  fun v0 v1 v2 a1 st σ => q_go e66_12 rfl rfl,
  fun v0 v1 v2 st σ => q_go e66_12 rfl rfl,
  fun v0 v1 v2 v3 a1 st σ => q_ifnullR e66_13 rfl,
  fun v0 v1 v2 v3 st σ => q_ifnullN e66_13 rfl,
  fun v0 v1 v3 x1 st σ => q_go e66_16 rfl rfl,
  fun v0 v1 v2 v3 st σ => q_bipush e66_17 (by decide),
  fun v0 v1 v2 v3 x1 x2 σ => q_invS (as := [.int x1, .int x2]) (rest := []) e66_19 o_66 bn_7_67 c_7_67 ⟨m_88.1, m_88.2.1, m_88.2.2.1⟩ rfl rfl (Nat.le_of_ble_eq_true rfl) (Nat.le_of_ble_eq_true rfl),
  fun v0 v1 v2 v3 x1 st σ => (q_if e66_22 rfl).trans q_eq,
  fun v0 v1 v2 v3 st σ => q_ldc e66_25 o_66 k_7_106,
  fun v0 v1 v2 v3 x1 σ => q_iret e66_27 r_66,
  fun v0 v1 v2 a1 st σ => q_go e66_28 rfl rfl,
  fun v0 v1 v2 st σ => q_go e66_28 rfl rfl,
  fun v0 v1 v3 x1 st σ => q_go e66_29 rfl rfl,
  fun v1 v2 v3 a1 st σ => q_go e66_30 rfl rfl,
  fun v0 v1 v2 v3 a1 st σ hc => q_getA e66_31 o_66 f_7_12 (by decide) hc,
  fun v0 v1 v2 v3 a1 st σ hc => q_getA e66_34 o_66 f_7_86 (by decide) hc,
  fun v0 v1 v2 v3 a1 st σ hc => q_getI e66_37 o_66 f_7_136 (by decide) hc,
  fun v0 v1 v2 v3 x1 x2 a0 σ hc => q_invV (as := [.int x1, .int x2]) (rest := []) e66_40 o_66 bn_7_156 c_7_156 m_14 (by decide) rfl rfl (Nat.le_of_ble_eq_true rfl) (Nat.le_of_ble_eq_true rfl) hc,
  fun v0 v1 v2 v3 x1 σ => q_iret e66_43 r_66⟩
theorem E66 {ro : ma_RO} {d : Nat} (a0 : Nat) (x1 : Int32) (x2 : Int32) (sh : List ma_Sh) (σ : ma_H) : ma_ev ro d 66 [.ref a0, .int x1, .int x2] sh σ = ma_rn ro d 66 (0, [some (.ref a0), some (.int x1), some (.int x2), none], [], sh, σ) := q_ent x_66 rfl
theorem e67_0 : decode (ma_cd 67) 0 = .ok (.iload_n 1, 1) := (congrArg (fun b => decode b 0) cd_67).trans dX7_told_0
theorem e67_1 : decode (ma_cd 67) 1 = .ok (.tableswitch 90 0 4 #[35, 46, 57, 68, 79], 35) := (congrArg (fun b => decode b 1) cd_67).trans dX7_told_1
theorem e67_36 : decode (ma_cd 67) 36 = .ok (.aload_n 0, 1) := (congrArg (fun b => decode b 36) cd_67).trans dX7_told_36
theorem e67_37 : decode (ma_cd 67) 37 = .ok (.getfield 12, 3) := (congrArg (fun b => decode b 37) cd_67).trans dX7_told_37
theorem e67_40 : decode (ma_cd 67) 40 = .ok (.getfield 93, 3) := (congrArg (fun b => decode b 40) cd_67).trans dX7_told_40
theorem e67_43 : decode (ma_cd 67) 43 = .ok (.getfield 129, 3) := (congrArg (fun b => decode b 43) cd_67).trans dX7_told_43
theorem e67_46 : decode (ma_cd 67) 46 = .ok (.ireturn, 1) := (congrArg (fun b => decode b 46) cd_67).trans dX7_told_46
theorem e67_47 : decode (ma_cd 67) 47 = .ok (.aload_n 0, 1) := (congrArg (fun b => decode b 47) cd_67).trans dX7_told_47
theorem e67_48 : decode (ma_cd 67) 48 = .ok (.getfield 12, 3) := (congrArg (fun b => decode b 48) cd_67).trans dX7_told_48
theorem e67_51 : decode (ma_cd 67) 51 = .ok (.getfield 86, 3) := (congrArg (fun b => decode b 51) cd_67).trans dX7_told_51
theorem e67_54 : decode (ma_cd 67) 54 = .ok (.getfield 136, 3) := (congrArg (fun b => decode b 54) cd_67).trans dX7_told_54
theorem e67_57 : decode (ma_cd 67) 57 = .ok (.ireturn, 1) := (congrArg (fun b => decode b 57) cd_67).trans dX7_told_57
theorem e67_58 : decode (ma_cd 67) 58 = .ok (.aload_n 0, 1) := (congrArg (fun b => decode b 58) cd_67).trans dX7_told_58
theorem e67_59 : decode (ma_cd 67) 59 = .ok (.getfield 12, 3) := (congrArg (fun b => decode b 59) cd_67).trans dX7_told_59
theorem e67_62 : decode (ma_cd 67) 62 = .ok (.getfield 93, 3) := (congrArg (fun b => decode b 62) cd_67).trans dX7_told_62
theorem e67_65 : decode (ma_cd 67) 65 = .ok (.getfield 150, 3) := (congrArg (fun b => decode b 65) cd_67).trans dX7_told_65
theorem e67_68 : decode (ma_cd 67) 68 = .ok (.ireturn, 1) := (congrArg (fun b => decode b 68) cd_67).trans dX7_told_68
theorem e67_69 : decode (ma_cd 67) 69 = .ok (.aload_n 0, 1) := (congrArg (fun b => decode b 69) cd_67).trans dX7_told_69
theorem e67_70 : decode (ma_cd 67) 70 = .ok (.getfield 12, 3) := (congrArg (fun b => decode b 70) cd_67).trans dX7_told_70
theorem e67_73 : decode (ma_cd 67) 73 = .ok (.getfield 93, 3) := (congrArg (fun b => decode b 73) cd_67).trans dX7_told_73
theorem e67_76 : decode (ma_cd 67) 76 = .ok (.getfield 160, 3) := (congrArg (fun b => decode b 76) cd_67).trans dX7_told_76
theorem e67_79 : decode (ma_cd 67) 79 = .ok (.ireturn, 1) := (congrArg (fun b => decode b 79) cd_67).trans dX7_told_79
theorem e67_80 : decode (ma_cd 67) 80 = .ok (.aload_n 0, 1) := (congrArg (fun b => decode b 80) cd_67).trans dX7_told_80
theorem e67_81 : decode (ma_cd 67) 81 = .ok (.getfield 12, 3) := (congrArg (fun b => decode b 81) cd_67).trans dX7_told_81
theorem e67_84 : decode (ma_cd 67) 84 = .ok (.getfield 93, 3) := (congrArg (fun b => decode b 84) cd_67).trans dX7_told_84
theorem e67_87 : decode (ma_cd 67) 87 = .ok (.invokevirtual 163, 3) := (congrArg (fun b => decode b 87) cd_67).trans dX7_told_87
theorem e67_90 : decode (ma_cd 67) 90 = .ok (.ireturn, 1) := (congrArg (fun b => decode b 90) cd_67).trans dX7_told_90
theorem e67_91 : decode (ma_cd 67) 91 = .ok (.iconst (-1), 1) := (congrArg (fun b => decode b 91) cd_67).trans dX7_told_91
theorem e67_92 : decode (ma_cd 67) 92 = .ok (.ireturn, 1) := (congrArg (fun b => decode b 92) cd_67).trans dX7_told_92
theorem S67 {ro : ma_RO} {d : Nat} : (∀ (v0 : Option Value) (x1 : Int32) (st : List Value) (σ : ma_H), ma_rn ro d 67 (0, [v0, some (.int x1)], st, SH, σ) = ma_rn ro d 67 (1, [v0, some (.int x1)], .int x1 :: st, SH, σ)) ∧
  (∀ (v0 : Option Value) (v1 : Option Value) (x1 : Int32) (st : List Value) (σ : ma_H), ma_rn ro d 67 (1, [v0, v1], .int x1 :: st, SH, σ) = if x1 = nI 0 then ma_rn ro d 67 (36, [v0, v1], st, SH, σ) else if x1 = nI 1 then ma_rn ro d 67 (47, [v0, v1], st, SH, σ) else if x1 = nI 2 then ma_rn ro d 67 (58, [v0, v1], st, SH, σ) else if x1 = nI 3 then ma_rn ro d 67 (69, [v0, v1], st, SH, σ) else if x1 = nI 4 then ma_rn ro d 67 (80, [v0, v1], st, SH, σ) else ma_rn ro d 67 (91, [v0, v1], st, SH, σ)) ∧
  (∀ (v1 : Option Value) (a1 : Nat) (st : List Value) (σ : ma_H), ma_rn ro d 67 (36, [some (.ref a1), v1], st, SH, σ) = ma_rn ro d 67 (37, [some (.ref a1), v1], .ref a1 :: st, SH, σ)) ∧
  (∀ (v0 : Option Value) (v1 : Option Value) (a1 : Nat) (st : List Value) (σ : ma_H) (hc : hk_cls a1 = 7), ma_rn ro d 67 (37, [v0, v1], .ref a1 :: st, SH, σ) = ma_rn ro d 67 (40, [v0, v1], .ref (1) :: st, SH, σ)) ∧
  (∀ (v0 : Option Value) (v1 : Option Value) (a1 : Nat) (st : List Value) (σ : ma_H) (hc : hk_cls a1 = 5), ma_rn ro d 67 (40, [v0, v1], .ref a1 :: st, SH, σ) = ma_rn ro d 67 (43, [v0, v1], .ref (a1 + 1) :: st, SH, σ)) ∧
  (∀ (v0 : Option Value) (v1 : Option Value) (a1 : Nat) (st : List Value) (σ : ma_H) (hc : hk_cls a1 = 6), ma_rn ro d 67 (43, [v0, v1], .ref a1 :: st, SH, σ) = ma_rn ro d 67 (46, [v0, v1], .int (σ a1 3) :: st, SH, σ)) ∧
  (∀ (v0 : Option Value) (v1 : Option Value) (x1 : Int32) (σ : ma_H), ma_rn ro d 67 (46, [v0, v1], [.int x1], SH, σ) = some (some (.int x1), SH, σ)) ∧
  (∀ (v1 : Option Value) (a1 : Nat) (st : List Value) (σ : ma_H), ma_rn ro d 67 (47, [some (.ref a1), v1], st, SH, σ) = ma_rn ro d 67 (48, [some (.ref a1), v1], .ref a1 :: st, SH, σ)) ∧
  (∀ (v0 : Option Value) (v1 : Option Value) (a1 : Nat) (st : List Value) (σ : ma_H) (hc : hk_cls a1 = 7), ma_rn ro d 67 (48, [v0, v1], .ref a1 :: st, SH, σ) = ma_rn ro d 67 (51, [v0, v1], .ref (1) :: st, SH, σ)) ∧
  (∀ (v0 : Option Value) (v1 : Option Value) (a1 : Nat) (st : List Value) (σ : ma_H) (hc : hk_cls a1 = 5), ma_rn ro d 67 (51, [v0, v1], .ref a1 :: st, SH, σ) = ma_rn ro d 67 (54, [v0, v1], .ref (a1 + 15) :: st, SH, σ)) ∧
  (∀ (v0 : Option Value) (v1 : Option Value) (a1 : Nat) (st : List Value) (σ : ma_H) (hc : hk_cls a1 = 2), ma_rn ro d 67 (54, [v0, v1], .ref a1 :: st, SH, σ) = ma_rn ro d 67 (57, [v0, v1], .int (σ a1 0) :: st, SH, σ)) ∧
  (∀ (v0 : Option Value) (v1 : Option Value) (x1 : Int32) (σ : ma_H), ma_rn ro d 67 (57, [v0, v1], [.int x1], SH, σ) = some (some (.int x1), SH, σ)) ∧
  (∀ (v1 : Option Value) (a1 : Nat) (st : List Value) (σ : ma_H), ma_rn ro d 67 (58, [some (.ref a1), v1], st, SH, σ) = ma_rn ro d 67 (59, [some (.ref a1), v1], .ref a1 :: st, SH, σ)) ∧
  (∀ (v0 : Option Value) (v1 : Option Value) (a1 : Nat) (st : List Value) (σ : ma_H) (hc : hk_cls a1 = 7), ma_rn ro d 67 (59, [v0, v1], .ref a1 :: st, SH, σ) = ma_rn ro d 67 (62, [v0, v1], .ref (1) :: st, SH, σ)) ∧
  (∀ (v0 : Option Value) (v1 : Option Value) (a1 : Nat) (st : List Value) (σ : ma_H) (hc : hk_cls a1 = 5), ma_rn ro d 67 (62, [v0, v1], .ref a1 :: st, SH, σ) = ma_rn ro d 67 (65, [v0, v1], .ref (a1 + 1) :: st, SH, σ)) ∧
  (∀ (v0 : Option Value) (v1 : Option Value) (a1 : Nat) (st : List Value) (σ : ma_H) (hc : hk_cls a1 = 6), ma_rn ro d 67 (65, [v0, v1], .ref a1 :: st, SH, σ) = ma_rn ro d 67 (68, [v0, v1], .int (σ a1 2) :: st, SH, σ)) ∧
  (∀ (v0 : Option Value) (v1 : Option Value) (x1 : Int32) (σ : ma_H), ma_rn ro d 67 (68, [v0, v1], [.int x1], SH, σ) = some (some (.int x1), SH, σ)) ∧
  (∀ (v1 : Option Value) (a1 : Nat) (st : List Value) (σ : ma_H), ma_rn ro d 67 (69, [some (.ref a1), v1], st, SH, σ) = ma_rn ro d 67 (70, [some (.ref a1), v1], .ref a1 :: st, SH, σ)) ∧
  (∀ (v0 : Option Value) (v1 : Option Value) (a1 : Nat) (st : List Value) (σ : ma_H) (hc : hk_cls a1 = 7), ma_rn ro d 67 (70, [v0, v1], .ref a1 :: st, SH, σ) = ma_rn ro d 67 (73, [v0, v1], .ref (1) :: st, SH, σ)) ∧
  (∀ (v0 : Option Value) (v1 : Option Value) (a1 : Nat) (st : List Value) (σ : ma_H) (hc : hk_cls a1 = 5), ma_rn ro d 67 (73, [v0, v1], .ref a1 :: st, SH, σ) = ma_rn ro d 67 (76, [v0, v1], .ref (a1 + 1) :: st, SH, σ)) ∧
  (∀ (v0 : Option Value) (v1 : Option Value) (a1 : Nat) (st : List Value) (σ : ma_H) (hc : hk_cls a1 = 6), ma_rn ro d 67 (76, [v0, v1], .ref a1 :: st, SH, σ) = ma_rn ro d 67 (79, [v0, v1], .int (σ a1 4) :: st, SH, σ)) ∧
  (∀ (v0 : Option Value) (v1 : Option Value) (x1 : Int32) (σ : ma_H), ma_rn ro d 67 (79, [v0, v1], [.int x1], SH, σ) = some (some (.int x1), SH, σ)) ∧
  (∀ (v1 : Option Value) (a1 : Nat) (st : List Value) (σ : ma_H), ma_rn ro d 67 (80, [some (.ref a1), v1], st, SH, σ) = ma_rn ro d 67 (81, [some (.ref a1), v1], .ref a1 :: st, SH, σ)) ∧
  (∀ (v0 : Option Value) (v1 : Option Value) (a1 : Nat) (st : List Value) (σ : ma_H) (hc : hk_cls a1 = 7), ma_rn ro d 67 (81, [v0, v1], .ref a1 :: st, SH, σ) = ma_rn ro d 67 (84, [v0, v1], .ref (1) :: st, SH, σ)) ∧
  (∀ (v0 : Option Value) (v1 : Option Value) (a1 : Nat) (st : List Value) (σ : ma_H) (hc : hk_cls a1 = 5), ma_rn ro d 67 (84, [v0, v1], .ref a1 :: st, SH, σ) = ma_rn ro d 67 (87, [v0, v1], .ref (a1 + 1) :: st, SH, σ)) ∧
  (∀ (v0 : Option Value) (v1 : Option Value) (a0 : Nat) (σ : ma_H) (hc : hk_cls a0 = 6), ma_rn ro (d + 1) 67 (87, [v0, v1], .ref a0 :: [], SH, σ) = (ma_ev ro d 55 [.ref a0] SH σ).bind (fun q => ma_rn ro (d + 1) 67 (90, [v0, v1], (q.1.toList ++ []), q.2.1, q.2.2))) ∧
  (∀ (v0 : Option Value) (v1 : Option Value) (x1 : Int32) (σ : ma_H), ma_rn ro d 67 (90, [v0, v1], [.int x1], SH, σ) = some (some (.int x1), SH, σ)) ∧
  (∀ (v0 : Option Value) (v1 : Option Value) (st : List Value) (σ : ma_H), ma_rn ro d 67 (91, [v0, v1], st, SH, σ) = ma_rn ro d 67 (92, [v0, v1], .int ((-1)) :: st, SH, σ)) ∧
  (∀ (v0 : Option Value) (v1 : Option Value) (x1 : Int32) (σ : ma_H), ma_rn ro d 67 (92, [v0, v1], [.int x1], SH, σ) = some (some (.int x1), SH, σ)) := ⟨fun v0 x1 st σ => q_go e67_0 rfl rfl,
  fun v0 v1 x1 st σ => by
    by_cases h0 : x1 = nI 0
    · rw [if_pos h0]; exact q_tswIn e67_1 h0 (k := 0) (by decide) (by decide) (by decide) rfl rfl
    rw [if_neg h0]
    by_cases h1 : x1 = nI 1
    · rw [if_pos h1]; exact q_tswIn e67_1 h1 (k := 1) (by decide) (by decide) (by decide) rfl rfl
    rw [if_neg h1]
    by_cases h2 : x1 = nI 2
    · rw [if_pos h2]; exact q_tswIn e67_1 h2 (k := 2) (by decide) (by decide) (by decide) rfl rfl
    rw [if_neg h2]
    by_cases h3 : x1 = nI 3
    · rw [if_pos h3]; exact q_tswIn e67_1 h3 (k := 3) (by decide) (by decide) (by decide) rfl rfl
    rw [if_neg h3]
    by_cases h4 : x1 = nI 4
    · rw [if_pos h4]; exact q_tswIn e67_1 h4 (k := 4) (by decide) (by decide) (by decide) rfl rfl
    rw [if_neg h4]
    have g0 := q_nnI h0 (by decide)
    have g1 := q_nnI h1 (by decide)
    have g2 := q_nnI h2 (by decide)
    have g3 := q_nnI h3 (by decide)
    have g4 := q_nnI h4 (by decide)
    exact q_tswOut e67_1 (by omega) rfl,
  fun v1 a1 st σ => q_go e67_36 rfl rfl,
  fun v0 v1 a1 st σ hc => q_getA e67_37 o_67 f_7_12 (by decide) hc,
  fun v0 v1 a1 st σ hc => q_getA e67_40 o_67 f_7_93 (by decide) hc,
  fun v0 v1 a1 st σ hc => q_getI e67_43 o_67 f_7_129 (by decide) hc,
  fun v0 v1 x1 σ => q_iret e67_46 r_67,
  fun v1 a1 st σ => q_go e67_47 rfl rfl,
  fun v0 v1 a1 st σ hc => q_getA e67_48 o_67 f_7_12 (by decide) hc,
  fun v0 v1 a1 st σ hc => q_getA e67_51 o_67 f_7_86 (by decide) hc,
  fun v0 v1 a1 st σ hc => q_getI e67_54 o_67 f_7_136 (by decide) hc,
  fun v0 v1 x1 σ => q_iret e67_57 r_67,
  fun v1 a1 st σ => q_go e67_58 rfl rfl,
  fun v0 v1 a1 st σ hc => q_getA e67_59 o_67 f_7_12 (by decide) hc,
  fun v0 v1 a1 st σ hc => q_getA e67_62 o_67 f_7_93 (by decide) hc,
  fun v0 v1 a1 st σ hc => q_getI e67_65 o_67 f_7_150 (by decide) hc,
  fun v0 v1 x1 σ => q_iret e67_68 r_67,
  fun v1 a1 st σ => q_go e67_69 rfl rfl,
  fun v0 v1 a1 st σ hc => q_getA e67_70 o_67 f_7_12 (by decide) hc,
  fun v0 v1 a1 st σ hc => q_getA e67_73 o_67 f_7_93 (by decide) hc,
  fun v0 v1 a1 st σ hc => q_getI e67_76 o_67 f_7_160 (by decide) hc,
  fun v0 v1 x1 σ => q_iret e67_79 r_67,
  fun v1 a1 st σ => q_go e67_80 rfl rfl,
  fun v0 v1 a1 st σ hc => q_getA e67_81 o_67 f_7_12 (by decide) hc,
  fun v0 v1 a1 st σ hc => q_getA e67_84 o_67 f_7_93 (by decide) hc,
  fun v0 v1 a0 σ hc => q_invV (as := []) (rest := []) e67_87 o_67 bn_7_163 c_7_163 m_55 (by decide) rfl rfl (Nat.le_of_ble_eq_true rfl) (Nat.le_of_ble_eq_true rfl) hc,
  fun v0 v1 x1 σ => q_iret e67_90 r_67,
  fun v0 v1 st σ => q_iconst e67_91 (by decide),
  fun v0 v1 x1 σ => q_iret e67_92 r_67⟩
theorem E67 {ro : ma_RO} {d : Nat} (a0 : Nat) (x1 : Int32) (sh : List ma_Sh) (σ : ma_H) : ma_ev ro d 67 [.ref a0, .int x1] sh σ = ma_rn ro d 67 (0, [some (.ref a0), some (.int x1)], [], sh, σ) := q_ent x_67 rfl
theorem e68_0 : decode (ma_cd 68) 0 = .ok (.iload_n 1, 1) := (congrArg (fun b => decode b 0) cd_68).trans dX7_pass_0
theorem e68_1 : decode (ma_cd 68) 1 = .ok (.bipush 60, 2) := (congrArg (fun b => decode b 1) cd_68).trans dX7_pass_1
theorem e68_3 : decode (ma_cd 68) 3 = .ok (.invokestatic 67, 3) := (congrArg (fun b => decode b 3) cd_68).trans dX7_pass_3
theorem e68_6 : decode (ma_cd 68) 6 = .ok (.ifCond .eq 6, 3) := (congrArg (fun b => decode b 6) cd_68).trans dX7_pass_6
theorem e68_9 : decode (ma_cd 68) 9 = .ok (.bipush (-2), 2) := (congrArg (fun b => decode b 9) cd_68).trans dX7_pass_9
theorem e68_11 : decode (ma_cd 68) 11 = .ok (.ireturn, 1) := (congrArg (fun b => decode b 11) cd_68).trans dX7_pass_11
theorem e68_12 : decode (ma_cd 68) 12 = .ok (.aload_n 0, 1) := (congrArg (fun b => decode b 12) cd_68).trans dX7_pass_12
theorem e68_13 : decode (ma_cd 68) 13 = .ok (.getfield 12, 3) := (congrArg (fun b => decode b 13) cd_68).trans dX7_pass_13
theorem e68_16 : decode (ma_cd 68) 16 = .ok (.getfield 93, 3) := (congrArg (fun b => decode b 16) cd_68).trans dX7_pass_16
theorem e68_19 : decode (ma_cd 68) 19 = .ok (.getfield 129, 3) := (congrArg (fun b => decode b 19) cd_68).trans dX7_pass_19
theorem e68_22 : decode (ma_cd 68) 22 = .ok (.iload_n 1, 1) := (congrArg (fun b => decode b 22) cd_68).trans dX7_pass_22
theorem e68_23 : decode (ma_cd 68) 23 = .ok (.iadd, 1) := (congrArg (fun b => decode b 23) cd_68).trans dX7_pass_23
theorem e68_24 : decode (ma_cd 68) 24 = .ok (.sipush 9999, 3) := (congrArg (fun b => decode b 24) cd_68).trans dX7_pass_24
theorem e68_27 : decode (ma_cd 68) 27 = .ok (.if_icmp .le 6, 3) := (congrArg (fun b => decode b 27) cd_68).trans dX7_pass_27
theorem e68_30 : decode (ma_cd 68) 30 = .ok (.bipush (-3), 2) := (congrArg (fun b => decode b 30) cd_68).trans dX7_pass_30
theorem e68_32 : decode (ma_cd 68) 32 = .ok (.ireturn, 1) := (congrArg (fun b => decode b 32) cd_68).trans dX7_pass_32
theorem e68_33 : decode (ma_cd 68) 33 = .ok (.aload_n 0, 1) := (congrArg (fun b => decode b 33) cd_68).trans dX7_pass_33
theorem e68_34 : decode (ma_cd 68) 34 = .ok (.getfield 12, 3) := (congrArg (fun b => decode b 34) cd_68).trans dX7_pass_34
theorem e68_37 : decode (ma_cd 68) 37 = .ok (.getfield 93, 3) := (congrArg (fun b => decode b 37) cd_68).trans dX7_pass_37
theorem e68_40 : decode (ma_cd 68) 40 = .ok (.iload_n 1, 1) := (congrArg (fun b => decode b 40) cd_68).trans dX7_pass_40
theorem e68_41 : decode (ma_cd 68) 41 = .ok (.aload_n 0, 1) := (congrArg (fun b => decode b 41) cd_68).trans dX7_pass_41
theorem e68_42 : decode (ma_cd 68) 42 = .ok (.getfield 12, 3) := (congrArg (fun b => decode b 42) cd_68).trans dX7_pass_42
theorem e68_45 : decode (ma_cd 68) 45 = .ok (.getfield 86, 3) := (congrArg (fun b => decode b 45) cd_68).trans dX7_pass_45
theorem e68_48 : decode (ma_cd 68) 48 = .ok (.invokevirtual 166, 3) := (congrArg (fun b => decode b 48) cd_68).trans dX7_pass_48
theorem e68_51 : decode (ma_cd 68) 51 = .ok (.aload_n 0, 1) := (congrArg (fun b => decode b 51) cd_68).trans dX7_pass_51
theorem e68_52 : decode (ma_cd 68) 52 = .ok (.getfield 12, 3) := (congrArg (fun b => decode b 52) cd_68).trans dX7_pass_52
theorem e68_55 : decode (ma_cd 68) 55 = .ok (.getfield 93, 3) := (congrArg (fun b => decode b 55) cd_68).trans dX7_pass_55
theorem e68_58 : decode (ma_cd 68) 58 = .ok (.aload_n 0, 1) := (congrArg (fun b => decode b 58) cd_68).trans dX7_pass_58
theorem e68_59 : decode (ma_cd 68) 59 = .ok (.getfield 12, 3) := (congrArg (fun b => decode b 59) cd_68).trans dX7_pass_59
theorem e68_62 : decode (ma_cd 68) 62 = .ok (.getfield 93, 3) := (congrArg (fun b => decode b 62) cd_68).trans dX7_pass_62
theorem e68_65 : decode (ma_cd 68) 65 = .ok (.getfield 160, 3) := (congrArg (fun b => decode b 65) cd_68).trans dX7_pass_65
theorem e68_68 : decode (ma_cd 68) 68 = .ok (.ldc 170, 2) := (congrArg (fun b => decode b 68) cd_68).trans dX7_pass_68
theorem e68_70 : decode (ma_cd 68) 70 = .ok (.invokestatic 171, 3) := (congrArg (fun b => decode b 70) cd_68).trans dX7_pass_70
theorem e68_73 : decode (ma_cd 68) 73 = .ok (.putfield 160, 3) := (congrArg (fun b => decode b 73) cd_68).trans dX7_pass_73
theorem e68_76 : decode (ma_cd 68) 76 = .ok (.aload_n 0, 1) := (congrArg (fun b => decode b 76) cd_68).trans dX7_pass_76
theorem e68_77 : decode (ma_cd 68) 77 = .ok (.getfield 12, 3) := (congrArg (fun b => decode b 77) cd_68).trans dX7_pass_77
theorem e68_80 : decode (ma_cd 68) 80 = .ok (.getfield 93, 3) := (congrArg (fun b => decode b 80) cd_68).trans dX7_pass_80
theorem e68_83 : decode (ma_cd 68) 83 = .ok (.getfield 129, 3) := (congrArg (fun b => decode b 83) cd_68).trans dX7_pass_83
theorem e68_86 : decode (ma_cd 68) 86 = .ok (.ireturn, 1) := (congrArg (fun b => decode b 86) cd_68).trans dX7_pass_86
theorem S68 {ro : ma_RO} {d : Nat} : (∀ (v0 : Option Value) (x1 : Int32) (st : List Value) (σ : ma_H), ma_rn ro d 68 (0, [v0, some (.int x1)], st, SH, σ) = ma_rn ro d 68 (1, [v0, some (.int x1)], .int x1 :: st, SH, σ)) ∧
  (∀ (v0 : Option Value) (v1 : Option Value) (st : List Value) (σ : ma_H), ma_rn ro d 68 (1, [v0, v1], st, SH, σ) = ma_rn ro d 68 (3, [v0, v1], .int (nI 60) :: st, SH, σ)) ∧
  (∀ (v0 : Option Value) (v1 : Option Value) (x1 : Int32) (x2 : Int32) (σ : ma_H), ma_rn ro (d + 1) 68 (3, [v0, v1], .int x2 :: .int x1 :: [], SH, σ) = (ma_ev ro d 88 [.int x1, .int x2] SH σ).bind (fun q => ma_rn ro (d + 1) 68 (6, [v0, v1], (q.1.toList ++ []), q.2.1, q.2.2))) ∧
  (∀ (v0 : Option Value) (v1 : Option Value) (x1 : Int32) (st : List Value) (σ : ma_H), ma_rn ro d 68 (6, [v0, v1], .int x1 :: st, SH, σ) = if x1 = nI 0 then ma_rn ro d 68 (12, [v0, v1], st, SH, σ) else ma_rn ro d 68 (9, [v0, v1], st, SH, σ)) ∧
  (∀ (v0 : Option Value) (v1 : Option Value) (st : List Value) (σ : ma_H), ma_rn ro d 68 (9, [v0, v1], st, SH, σ) = ma_rn ro d 68 (11, [v0, v1], .int ((-2)) :: st, SH, σ)) ∧
  (∀ (v0 : Option Value) (v1 : Option Value) (x1 : Int32) (σ : ma_H), ma_rn ro d 68 (11, [v0, v1], [.int x1], SH, σ) = some (some (.int x1), SH, σ)) ∧
  (∀ (v1 : Option Value) (a1 : Nat) (st : List Value) (σ : ma_H), ma_rn ro d 68 (12, [some (.ref a1), v1], st, SH, σ) = ma_rn ro d 68 (13, [some (.ref a1), v1], .ref a1 :: st, SH, σ)) ∧
  (∀ (v0 : Option Value) (v1 : Option Value) (a1 : Nat) (st : List Value) (σ : ma_H) (hc : hk_cls a1 = 7), ma_rn ro d 68 (13, [v0, v1], .ref a1 :: st, SH, σ) = ma_rn ro d 68 (16, [v0, v1], .ref (1) :: st, SH, σ)) ∧
  (∀ (v0 : Option Value) (v1 : Option Value) (a1 : Nat) (st : List Value) (σ : ma_H) (hc : hk_cls a1 = 5), ma_rn ro d 68 (16, [v0, v1], .ref a1 :: st, SH, σ) = ma_rn ro d 68 (19, [v0, v1], .ref (a1 + 1) :: st, SH, σ)) ∧
  (∀ (v0 : Option Value) (v1 : Option Value) (a1 : Nat) (st : List Value) (σ : ma_H) (hc : hk_cls a1 = 6), ma_rn ro d 68 (19, [v0, v1], .ref a1 :: st, SH, σ) = ma_rn ro d 68 (22, [v0, v1], .int (σ a1 3) :: st, SH, σ)) ∧
  (∀ (v0 : Option Value) (x1 : Int32) (st : List Value) (σ : ma_H), ma_rn ro d 68 (22, [v0, some (.int x1)], st, SH, σ) = ma_rn ro d 68 (23, [v0, some (.int x1)], .int x1 :: st, SH, σ)) ∧
  (∀ (v0 : Option Value) (v1 : Option Value) (x1 : Int32) (x2 : Int32) (st : List Value) (σ : ma_H), ma_rn ro d 68 (23, [v0, v1], .int x1 :: .int x2 :: st, SH, σ) = ma_rn ro d 68 (24, [v0, v1], .int (x2 + x1) :: st, SH, σ)) ∧
  (∀ (v0 : Option Value) (v1 : Option Value) (st : List Value) (σ : ma_H), ma_rn ro d 68 (24, [v0, v1], st, SH, σ) = ma_rn ro d 68 (27, [v0, v1], .int (nI 9999) :: st, SH, σ)) ∧
  (∀ (v0 : Option Value) (v1 : Option Value) (x1 : Int32) (x2 : Int32) (st : List Value) (σ : ma_H), ma_rn ro d 68 (27, [v0, v1], .int x1 :: .int x2 :: st, SH, σ) = if x1 < x2 then ma_rn ro d 68 (30, [v0, v1], st, SH, σ) else ma_rn ro d 68 (33, [v0, v1], st, SH, σ)) ∧
  (∀ (v0 : Option Value) (v1 : Option Value) (st : List Value) (σ : ma_H), ma_rn ro d 68 (30, [v0, v1], st, SH, σ) = ma_rn ro d 68 (32, [v0, v1], .int ((-3)) :: st, SH, σ)) ∧
  (∀ (v0 : Option Value) (v1 : Option Value) (x1 : Int32) (σ : ma_H), ma_rn ro d 68 (32, [v0, v1], [.int x1], SH, σ) = some (some (.int x1), SH, σ)) ∧
  (∀ (v1 : Option Value) (a1 : Nat) (st : List Value) (σ : ma_H), ma_rn ro d 68 (33, [some (.ref a1), v1], st, SH, σ) = ma_rn ro d 68 (34, [some (.ref a1), v1], .ref a1 :: st, SH, σ)) ∧
  (∀ (v0 : Option Value) (v1 : Option Value) (a1 : Nat) (st : List Value) (σ : ma_H) (hc : hk_cls a1 = 7), ma_rn ro d 68 (34, [v0, v1], .ref a1 :: st, SH, σ) = ma_rn ro d 68 (37, [v0, v1], .ref (1) :: st, SH, σ)) ∧
  (∀ (v0 : Option Value) (v1 : Option Value) (a1 : Nat) (st : List Value) (σ : ma_H) (hc : hk_cls a1 = 5), ma_rn ro d 68 (37, [v0, v1], .ref a1 :: st, SH, σ) = ma_rn ro d 68 (40, [v0, v1], .ref (a1 + 1) :: st, SH, σ)) ∧
  (∀ (v0 : Option Value) (x1 : Int32) (st : List Value) (σ : ma_H), ma_rn ro d 68 (40, [v0, some (.int x1)], st, SH, σ) = ma_rn ro d 68 (41, [v0, some (.int x1)], .int x1 :: st, SH, σ)) ∧
  (∀ (v1 : Option Value) (a1 : Nat) (st : List Value) (σ : ma_H), ma_rn ro d 68 (41, [some (.ref a1), v1], st, SH, σ) = ma_rn ro d 68 (42, [some (.ref a1), v1], .ref a1 :: st, SH, σ)) ∧
  (∀ (v0 : Option Value) (v1 : Option Value) (a1 : Nat) (st : List Value) (σ : ma_H) (hc : hk_cls a1 = 7), ma_rn ro d 68 (42, [v0, v1], .ref a1 :: st, SH, σ) = ma_rn ro d 68 (45, [v0, v1], .ref (1) :: st, SH, σ)) ∧
  (∀ (v0 : Option Value) (v1 : Option Value) (a1 : Nat) (st : List Value) (σ : ma_H) (hc : hk_cls a1 = 5), ma_rn ro d 68 (45, [v0, v1], .ref a1 :: st, SH, σ) = ma_rn ro d 68 (48, [v0, v1], .ref (a1 + 15) :: st, SH, σ)) ∧
  (∀ (v0 : Option Value) (v1 : Option Value) (x1 : Int32) (a2 : Nat) (a0 : Nat) (σ : ma_H) (hc : hk_cls a0 = 6), ma_rn ro (d + 1) 68 (48, [v0, v1], .ref a2 :: .int x1 :: .ref a0 :: [], SH, σ) = (ma_ev ro d 53 [.ref a0, .int x1, .ref a2] SH σ).bind (fun q => ma_rn ro (d + 1) 68 (51, [v0, v1], (q.1.toList ++ []), q.2.1, q.2.2))) ∧
  (∀ (v1 : Option Value) (a1 : Nat) (st : List Value) (σ : ma_H), ma_rn ro d 68 (51, [some (.ref a1), v1], st, SH, σ) = ma_rn ro d 68 (52, [some (.ref a1), v1], .ref a1 :: st, SH, σ)) ∧
  (∀ (v0 : Option Value) (v1 : Option Value) (a1 : Nat) (st : List Value) (σ : ma_H) (hc : hk_cls a1 = 7), ma_rn ro d 68 (52, [v0, v1], .ref a1 :: st, SH, σ) = ma_rn ro d 68 (55, [v0, v1], .ref (1) :: st, SH, σ)) ∧
  (∀ (v0 : Option Value) (v1 : Option Value) (a1 : Nat) (st : List Value) (σ : ma_H) (hc : hk_cls a1 = 5), ma_rn ro d 68 (55, [v0, v1], .ref a1 :: st, SH, σ) = ma_rn ro d 68 (58, [v0, v1], .ref (a1 + 1) :: st, SH, σ)) ∧
  (∀ (v1 : Option Value) (a1 : Nat) (st : List Value) (σ : ma_H), ma_rn ro d 68 (58, [some (.ref a1), v1], st, SH, σ) = ma_rn ro d 68 (59, [some (.ref a1), v1], .ref a1 :: st, SH, σ)) ∧
  (∀ (v0 : Option Value) (v1 : Option Value) (a1 : Nat) (st : List Value) (σ : ma_H) (hc : hk_cls a1 = 7), ma_rn ro d 68 (59, [v0, v1], .ref a1 :: st, SH, σ) = ma_rn ro d 68 (62, [v0, v1], .ref (1) :: st, SH, σ)) ∧
  (∀ (v0 : Option Value) (v1 : Option Value) (a1 : Nat) (st : List Value) (σ : ma_H) (hc : hk_cls a1 = 5), ma_rn ro d 68 (62, [v0, v1], .ref a1 :: st, SH, σ) = ma_rn ro d 68 (65, [v0, v1], .ref (a1 + 1) :: st, SH, σ)) ∧
  (∀ (v0 : Option Value) (v1 : Option Value) (a1 : Nat) (st : List Value) (σ : ma_H) (hc : hk_cls a1 = 6), ma_rn ro d 68 (65, [v0, v1], .ref a1 :: st, SH, σ) = ma_rn ro d 68 (68, [v0, v1], .int (σ a1 4) :: st, SH, σ)) ∧
  (∀ (v0 : Option Value) (v1 : Option Value) (st : List Value) (σ : ma_H), ma_rn ro d 68 (68, [v0, v1], st, SH, σ) = ma_rn ro d 68 (70, [v0, v1], .int (nI 999999) :: st, SH, σ)) ∧
  (∀ (v0 : Option Value) (v1 : Option Value) (x1 : Int32) (x2 : Int32) (a20 : Nat) (σ : ma_H), ma_rn ro d 68 (70, [v0, v1], .int x1 :: .int x2 :: .ref a20 :: [], SH, σ) = ma_rn ro d 68 (73, [v0, v1], .int (if x1 < x2 then x1 else x2) :: .ref a20 :: [], SH, σ)) ∧
  (∀ (v0 : Option Value) (v1 : Option Value) (x1 : Int32) (a2 : Nat) (st : List Value) (σ : ma_H) (hc : hk_cls a2 = 6), ma_rn ro d 68 (73, [v0, v1], .int x1 :: .ref a2 :: st, SH, σ) = ma_rn ro d 68 (76, [v0, v1], st, SH, (ma_up σ a2 4 x1))) ∧
  (∀ (v1 : Option Value) (a1 : Nat) (st : List Value) (σ : ma_H), ma_rn ro d 68 (76, [some (.ref a1), v1], st, SH, σ) = ma_rn ro d 68 (77, [some (.ref a1), v1], .ref a1 :: st, SH, σ)) ∧
  (∀ (v0 : Option Value) (v1 : Option Value) (a1 : Nat) (st : List Value) (σ : ma_H) (hc : hk_cls a1 = 7), ma_rn ro d 68 (77, [v0, v1], .ref a1 :: st, SH, σ) = ma_rn ro d 68 (80, [v0, v1], .ref (1) :: st, SH, σ)) ∧
  (∀ (v0 : Option Value) (v1 : Option Value) (a1 : Nat) (st : List Value) (σ : ma_H) (hc : hk_cls a1 = 5), ma_rn ro d 68 (80, [v0, v1], .ref a1 :: st, SH, σ) = ma_rn ro d 68 (83, [v0, v1], .ref (a1 + 1) :: st, SH, σ)) ∧
  (∀ (v0 : Option Value) (v1 : Option Value) (a1 : Nat) (st : List Value) (σ : ma_H) (hc : hk_cls a1 = 6), ma_rn ro d 68 (83, [v0, v1], .ref a1 :: st, SH, σ) = ma_rn ro d 68 (86, [v0, v1], .int (σ a1 3) :: st, SH, σ)) ∧
  (∀ (v0 : Option Value) (v1 : Option Value) (x1 : Int32) (σ : ma_H), ma_rn ro d 68 (86, [v0, v1], [.int x1], SH, σ) = some (some (.int x1), SH, σ)) := ⟨fun v0 x1 st σ => q_go e68_0 rfl rfl,
  fun v0 v1 st σ => q_bipush e68_1 (by decide),
  fun v0 v1 x1 x2 σ => q_invS (as := [.int x1, .int x2]) (rest := []) e68_3 o_68 bn_7_67 c_7_67 ⟨m_88.1, m_88.2.1, m_88.2.2.1⟩ rfl rfl (Nat.le_of_ble_eq_true rfl) (Nat.le_of_ble_eq_true rfl),
  fun v0 v1 x1 st σ => (q_if e68_6 rfl).trans q_eq,
  fun v0 v1 st σ => q_bipush e68_9 (by decide),
  fun v0 v1 x1 σ => q_iret e68_11 r_68,
  fun v1 a1 st σ => q_go e68_12 rfl rfl,
  fun v0 v1 a1 st σ hc => q_getA e68_13 o_68 f_7_12 (by decide) hc,
  fun v0 v1 a1 st σ hc => q_getA e68_16 o_68 f_7_93 (by decide) hc,
  fun v0 v1 a1 st σ hc => q_getI e68_19 o_68 f_7_129 (by decide) hc,
  fun v0 x1 st σ => q_go e68_22 rfl rfl,
  fun v0 v1 x1 x2 st σ => q_go e68_23 rfl rfl,
  fun v0 v1 st σ => q_sipush e68_24 (by decide),
  fun v0 v1 x1 x2 st σ => (q_cmp e68_27 rfl).trans q_ngt,
  fun v0 v1 st σ => q_bipush e68_30 (by decide),
  fun v0 v1 x1 σ => q_iret e68_32 r_68,
  fun v1 a1 st σ => q_go e68_33 rfl rfl,
  fun v0 v1 a1 st σ hc => q_getA e68_34 o_68 f_7_12 (by decide) hc,
  fun v0 v1 a1 st σ hc => q_getA e68_37 o_68 f_7_93 (by decide) hc,
  fun v0 x1 st σ => q_go e68_40 rfl rfl,
  fun v1 a1 st σ => q_go e68_41 rfl rfl,
  fun v0 v1 a1 st σ hc => q_getA e68_42 o_68 f_7_12 (by decide) hc,
  fun v0 v1 a1 st σ hc => q_getA e68_45 o_68 f_7_86 (by decide) hc,
  fun v0 v1 x1 a2 a0 σ hc => q_invV (as := [.int x1, .ref a2]) (rest := []) e68_48 o_68 bn_7_166 c_7_166 m_53 (by decide) rfl rfl (Nat.le_of_ble_eq_true rfl) (Nat.le_of_ble_eq_true rfl) hc,
  fun v1 a1 st σ => q_go e68_51 rfl rfl,
  fun v0 v1 a1 st σ hc => q_getA e68_52 o_68 f_7_12 (by decide) hc,
  fun v0 v1 a1 st σ hc => q_getA e68_55 o_68 f_7_93 (by decide) hc,
  fun v1 a1 st σ => q_go e68_58 rfl rfl,
  fun v0 v1 a1 st σ hc => q_getA e68_59 o_68 f_7_12 (by decide) hc,
  fun v0 v1 a1 st σ hc => q_getA e68_62 o_68 f_7_93 (by decide) hc,
  fun v0 v1 a1 st σ hc => q_getI e68_65 o_68 f_7_160 (by decide) hc,
  fun v0 v1 st σ => q_ldc e68_68 o_68 k_7_170,
  fun v0 v1 x1 x2 a20 σ => q_bt e68_70 o_68 b_7_171 (by decide) (Nat.le_of_ble_eq_true rfl),
  fun v0 v1 x1 a2 st σ hc => q_putI e68_73 o_68 f_7_160 (by decide) rfl hc,
  fun v1 a1 st σ => q_go e68_76 rfl rfl,
  fun v0 v1 a1 st σ hc => q_getA e68_77 o_68 f_7_12 (by decide) hc,
  fun v0 v1 a1 st σ hc => q_getA e68_80 o_68 f_7_93 (by decide) hc,
  fun v0 v1 a1 st σ hc => q_getI e68_83 o_68 f_7_129 (by decide) hc,
  fun v0 v1 x1 σ => q_iret e68_86 r_68⟩
theorem E68 {ro : ma_RO} {d : Nat} (a0 : Nat) (x1 : Int32) (sh : List ma_Sh) (σ : ma_H) : ma_ev ro d 68 [.ref a0, .int x1] sh σ = ma_rn ro d 68 (0, [some (.ref a0), some (.int x1)], [], sh, σ) := q_ent x_68 rfl
theorem e69_0 : decode (ma_cd 69) 0 = .ok (.aload_n 0, 1) := (congrArg (fun b => decode b 0) cd_69).trans dX7_on_0
theorem e69_1 : decode (ma_cd 69) 1 = .ok (.getfield 12, 3) := (congrArg (fun b => decode b 1) cd_69).trans dX7_on_1
theorem e69_4 : decode (ma_cd 69) 4 = .ok (.getfield 93, 3) := (congrArg (fun b => decode b 4) cd_69).trans dX7_on_4
theorem e69_7 : decode (ma_cd 69) 7 = .ok (.iload_n 2, 1) := (congrArg (fun b => decode b 7) cd_69).trans dX7_on_7
theorem e69_8 : decode (ma_cd 69) 8 = .ok (.bipush 10, 2) := (congrArg (fun b => decode b 8) cd_69).trans dX7_on_8
theorem e69_10 : decode (ma_cd 69) 10 = .ok (.isub, 1) := (congrArg (fun b => decode b 10) cd_69).trans dX7_on_10
theorem e69_11 : decode (ma_cd 69) 11 = .ok (.invokevirtual 102, 3) := (congrArg (fun b => decode b 11) cd_69).trans dX7_on_11
theorem e69_14 : decode (ma_cd 69) 14 = .ok (.ifnull 7, 3) := (congrArg (fun b => decode b 14) cd_69).trans dX7_on_14
theorem e69_17 : decode (ma_cd 69) 17 = .ok (.iconst 1, 1) := (congrArg (fun b => decode b 17) cd_69).trans dX7_on_17
theorem e69_18 : decode (ma_cd 69) 18 = .ok (.goto 4, 3) := (congrArg (fun b => decode b 18) cd_69).trans dX7_on_18
theorem e69_21 : decode (ma_cd 69) 21 = .ok (.iconst 0, 1) := (congrArg (fun b => decode b 21) cd_69).trans dX7_on_21
theorem e69_22 : decode (ma_cd 69) 22 = .ok (.istore_n 3, 1) := (congrArg (fun b => decode b 22) cd_69).trans dX7_on_22
theorem e69_23 : decode (ma_cd 69) 23 = .ok (.aload_n 0, 1) := (congrArg (fun b => decode b 23) cd_69).trans dX7_on_23
theorem e69_24 : decode (ma_cd 69) 24 = .ok (.getfield 12, 3) := (congrArg (fun b => decode b 24) cd_69).trans dX7_on_24
theorem e69_27 : decode (ma_cd 69) 27 = .ok (.getfield 93, 3) := (congrArg (fun b => decode b 27) cd_69).trans dX7_on_27
theorem e69_30 : decode (ma_cd 69) 30 = .ok (.iload_n 2, 1) := (congrArg (fun b => decode b 30) cd_69).trans dX7_on_30
theorem e69_31 : decode (ma_cd 69) 31 = .ok (.bipush 20, 2) := (congrArg (fun b => decode b 31) cd_69).trans dX7_on_31
theorem e69_33 : decode (ma_cd 69) 33 = .ok (.isub, 1) := (congrArg (fun b => decode b 33) cd_69).trans dX7_on_33
theorem e69_34 : decode (ma_cd 69) 34 = .ok (.invokevirtual 102, 3) := (congrArg (fun b => decode b 34) cd_69).trans dX7_on_34
theorem e69_37 : decode (ma_cd 69) 37 = .ok (.ifnull 7, 3) := (congrArg (fun b => decode b 37) cd_69).trans dX7_on_37
theorem e69_40 : decode (ma_cd 69) 40 = .ok (.iconst 1, 1) := (congrArg (fun b => decode b 40) cd_69).trans dX7_on_40
theorem e69_41 : decode (ma_cd 69) 41 = .ok (.goto 4, 3) := (congrArg (fun b => decode b 41) cd_69).trans dX7_on_41
theorem e69_44 : decode (ma_cd 69) 44 = .ok (.iconst 0, 1) := (congrArg (fun b => decode b 44) cd_69).trans dX7_on_44
theorem e69_45 : decode (ma_cd 69) 45 = .ok (.istore 4, 2) := (congrArg (fun b => decode b 45) cd_69).trans dX7_on_45
theorem e69_47 : decode (ma_cd 69) 47 = .ok (.iload_n 2, 1) := (congrArg (fun b => decode b 47) cd_69).trans dX7_on_47
theorem e69_48 : decode (ma_cd 69) 48 = .ok (.iconst 1, 1) := (congrArg (fun b => decode b 48) cd_69).trans dX7_on_48
theorem e69_49 : decode (ma_cd 69) 49 = .ok (.invokestatic 67, 3) := (congrArg (fun b => decode b 49) cd_69).trans dX7_on_49
theorem e69_52 : decode (ma_cd 69) 52 = .ok (.ifCond .eq 14, 3) := (congrArg (fun b => decode b 52) cd_69).trans dX7_on_52
theorem e69_55 : decode (ma_cd 69) 55 = .ok (.iload_n 3, 1) := (congrArg (fun b => decode b 55) cd_69).trans dX7_on_55
theorem e69_56 : decode (ma_cd 69) 56 = .ok (.ifCond .ne 10, 3) := (congrArg (fun b => decode b 56) cd_69).trans dX7_on_56
theorem e69_59 : decode (ma_cd 69) 59 = .ok (.iload 4, 2) := (congrArg (fun b => decode b 59) cd_69).trans dX7_on_59
theorem e69_61 : decode (ma_cd 69) 61 = .ok (.ifCond .ne 5, 3) := (congrArg (fun b => decode b 61) cd_69).trans dX7_on_61
theorem e69_64 : decode (ma_cd 69) 64 = .ok (.iconst (-1), 1) := (congrArg (fun b => decode b 64) cd_69).trans dX7_on_64
theorem e69_65 : decode (ma_cd 69) 65 = .ok (.ireturn, 1) := (congrArg (fun b => decode b 65) cd_69).trans dX7_on_65
theorem e69_66 : decode (ma_cd 69) 66 = .ok (.iload_n 1, 1) := (congrArg (fun b => decode b 66) cd_69).trans dX7_on_66
theorem e69_67 : decode (ma_cd 69) 67 = .ok (.bipush 60, 2) := (congrArg (fun b => decode b 67) cd_69).trans dX7_on_67
theorem e69_69 : decode (ma_cd 69) 69 = .ok (.invokestatic 67, 3) := (congrArg (fun b => decode b 69) cd_69).trans dX7_on_69
theorem e69_72 : decode (ma_cd 69) 72 = .ok (.ifCond .eq 6, 3) := (congrArg (fun b => decode b 72) cd_69).trans dX7_on_72
theorem e69_75 : decode (ma_cd 69) 75 = .ok (.bipush (-2), 2) := (congrArg (fun b => decode b 75) cd_69).trans dX7_on_75
theorem e69_77 : decode (ma_cd 69) 77 = .ok (.ireturn, 1) := (congrArg (fun b => decode b 77) cd_69).trans dX7_on_77
theorem e69_78 : decode (ma_cd 69) 78 = .ok (.aload_n 0, 1) := (congrArg (fun b => decode b 78) cd_69).trans dX7_on_78
theorem e69_79 : decode (ma_cd 69) 79 = .ok (.getfield 40, 3) := (congrArg (fun b => decode b 79) cd_69).trans dX7_on_79
theorem e69_82 : decode (ma_cd 69) 82 = .ok (.aload_n 0, 1) := (congrArg (fun b => decode b 82) cd_69).trans dX7_on_82
theorem e69_83 : decode (ma_cd 69) 83 = .ok (.getfield 12, 3) := (congrArg (fun b => decode b 83) cd_69).trans dX7_on_83
theorem e69_86 : decode (ma_cd 69) 86 = .ok (.getfield 93, 3) := (congrArg (fun b => decode b 86) cd_69).trans dX7_on_86
theorem e69_89 : decode (ma_cd 69) 89 = .ok (.invokevirtual 176, 3) := (congrArg (fun b => decode b 89) cd_69).trans dX7_on_89
theorem e69_92 : decode (ma_cd 69) 92 = .ok (.aload_n 0, 1) := (congrArg (fun b => decode b 92) cd_69).trans dX7_on_92
theorem e69_93 : decode (ma_cd 69) 93 = .ok (.getfield 40, 3) := (congrArg (fun b => decode b 93) cd_69).trans dX7_on_93
theorem e69_96 : decode (ma_cd 69) 96 = .ok (.iload_n 1, 1) := (congrArg (fun b => decode b 96) cd_69).trans dX7_on_96
theorem e69_97 : decode (ma_cd 69) 97 = .ok (.aload_n 0, 1) := (congrArg (fun b => decode b 97) cd_69).trans dX7_on_97
theorem e69_98 : decode (ma_cd 69) 98 = .ok (.getfield 12, 3) := (congrArg (fun b => decode b 98) cd_69).trans dX7_on_98
theorem e69_101 : decode (ma_cd 69) 101 = .ok (.getfield 86, 3) := (congrArg (fun b => decode b 101) cd_69).trans dX7_on_101
theorem e69_104 : decode (ma_cd 69) 104 = .ok (.invokevirtual 166, 3) := (congrArg (fun b => decode b 104) cd_69).trans dX7_on_104
theorem e69_107 : decode (ma_cd 69) 107 = .ok (.iload_n 2, 1) := (congrArg (fun b => decode b 107) cd_69).trans dX7_on_107
theorem e69_108 : decode (ma_cd 69) 108 = .ok (.ifCond .ne 11, 3) := (congrArg (fun b => decode b 108) cd_69).trans dX7_on_108
theorem e69_111 : decode (ma_cd 69) 111 = .ok (.aload_n 0, 1) := (congrArg (fun b => decode b 111) cd_69).trans dX7_on_111
theorem e69_112 : decode (ma_cd 69) 112 = .ok (.getfield 40, 3) := (congrArg (fun b => decode b 112) cd_69).trans dX7_on_112
theorem e69_115 : decode (ma_cd 69) 115 = .ok (.invokevirtual 163, 3) := (congrArg (fun b => decode b 115) cd_69).trans dX7_on_115
theorem e69_118 : decode (ma_cd 69) 118 = .ok (.ireturn, 1) := (congrArg (fun b => decode b 118) cd_69).trans dX7_on_118
theorem e69_119 : decode (ma_cd 69) 119 = .ok (.iload_n 2, 1) := (congrArg (fun b => decode b 119) cd_69).trans dX7_on_119
theorem e69_120 : decode (ma_cd 69) 120 = .ok (.iconst 1, 1) := (congrArg (fun b => decode b 120) cd_69).trans dX7_on_120
theorem e69_121 : decode (ma_cd 69) 121 = .ok (.if_icmp .ne 11, 3) := (congrArg (fun b => decode b 121) cd_69).trans dX7_on_121
theorem e69_124 : decode (ma_cd 69) 124 = .ok (.aload_n 0, 1) := (congrArg (fun b => decode b 124) cd_69).trans dX7_on_124
theorem e69_125 : decode (ma_cd 69) 125 = .ok (.getfield 40, 3) := (congrArg (fun b => decode b 125) cd_69).trans dX7_on_125
theorem e69_128 : decode (ma_cd 69) 128 = .ok (.getfield 160, 3) := (congrArg (fun b => decode b 128) cd_69).trans dX7_on_128
theorem e69_131 : decode (ma_cd 69) 131 = .ok (.ireturn, 1) := (congrArg (fun b => decode b 131) cd_69).trans dX7_on_131
theorem e69_132 : decode (ma_cd 69) 132 = .ok (.aload_n 0, 1) := (congrArg (fun b => decode b 132) cd_69).trans dX7_on_132
theorem e69_133 : decode (ma_cd 69) 133 = .ok (.getfield 40, 3) := (congrArg (fun b => decode b 133) cd_69).trans dX7_on_133
theorem e69_136 : decode (ma_cd 69) 136 = .ok (.iload_n 3, 1) := (congrArg (fun b => decode b 136) cd_69).trans dX7_on_136
theorem e69_137 : decode (ma_cd 69) 137 = .ok (.ifCond .eq 10, 3) := (congrArg (fun b => decode b 137) cd_69).trans dX7_on_137
theorem e69_140 : decode (ma_cd 69) 140 = .ok (.iload_n 2, 1) := (congrArg (fun b => decode b 140) cd_69).trans dX7_on_140
theorem e69_141 : decode (ma_cd 69) 141 = .ok (.bipush 10, 2) := (congrArg (fun b => decode b 141) cd_69).trans dX7_on_141
theorem e69_143 : decode (ma_cd 69) 143 = .ok (.isub, 1) := (congrArg (fun b => decode b 143) cd_69).trans dX7_on_143
theorem e69_144 : decode (ma_cd 69) 144 = .ok (.goto 7, 3) := (congrArg (fun b => decode b 144) cd_69).trans dX7_on_144
theorem e69_147 : decode (ma_cd 69) 147 = .ok (.iload_n 2, 1) := (congrArg (fun b => decode b 147) cd_69).trans dX7_on_147
theorem e69_148 : decode (ma_cd 69) 148 = .ok (.bipush 20, 2) := (congrArg (fun b => decode b 148) cd_69).trans dX7_on_148
theorem e69_150 : decode (ma_cd 69) 150 = .ok (.isub, 1) := (congrArg (fun b => decode b 150) cd_69).trans dX7_on_150
theorem e69_151 : decode (ma_cd 69) 151 = .ok (.invokevirtual 102, 3) := (congrArg (fun b => decode b 151) cd_69).trans dX7_on_151
theorem e69_154 : decode (ma_cd 69) 154 = .ok (.astore 5, 2) := (congrArg (fun b => decode b 154) cd_69).trans dX7_on_154
theorem e69_156 : decode (ma_cd 69) 156 = .ok (.aload 5, 2) := (congrArg (fun b => decode b 156) cd_69).trans dX7_on_156
theorem e69_158 : decode (ma_cd 69) 158 = .ok (.ifnonnull 5, 3) := (congrArg (fun b => decode b 158) cd_69).trans dX7_on_158
theorem e69_161 : decode (ma_cd 69) 161 = .ok (.iconst (-1), 1) := (congrArg (fun b => decode b 161) cd_69).trans dX7_on_161
theorem e69_162 : decode (ma_cd 69) 162 = .ok (.ireturn, 1) := (congrArg (fun b => decode b 162) cd_69).trans dX7_on_162
theorem e69_163 : decode (ma_cd 69) 163 = .ok (.iload_n 3, 1) := (congrArg (fun b => decode b 163) cd_69).trans dX7_on_163
theorem e69_164 : decode (ma_cd 69) 164 = .ok (.ifCond .eq 11, 3) := (congrArg (fun b => decode b 164) cd_69).trans dX7_on_164
theorem e69_167 : decode (ma_cd 69) 167 = .ok (.aload 5, 2) := (congrArg (fun b => decode b 167) cd_69).trans dX7_on_167
theorem e69_169 : decode (ma_cd 69) 169 = .ok (.getfield 117, 3) := (congrArg (fun b => decode b 169) cd_69).trans dX7_on_169
theorem e69_172 : decode (ma_cd 69) 172 = .ok (.goto 8, 3) := (congrArg (fun b => decode b 172) cd_69).trans dX7_on_172
theorem e69_175 : decode (ma_cd 69) 175 = .ok (.aload 5, 2) := (congrArg (fun b => decode b 175) cd_69).trans dX7_on_175
theorem e69_177 : decode (ma_cd 69) 177 = .ok (.getfield 120, 3) := (congrArg (fun b => decode b 177) cd_69).trans dX7_on_177
theorem e69_180 : decode (ma_cd 69) 180 = .ok (.ireturn, 1) := (congrArg (fun b => decode b 180) cd_69).trans dX7_on_180
theorem S69 {ro : ma_RO} {d : Nat} : (∀ (v1 : Option Value) (v2 : Option Value) (v3 : Option Value) (v4 : Option Value) (v5 : Option Value) (a1 : Nat) (st : List Value) (σ : ma_H), ma_rn ro d 69 (0, [some (.ref a1), v1, v2, v3, v4, v5], st, SH, σ) = ma_rn ro d 69 (1, [some (.ref a1), v1, v2, v3, v4, v5], .ref a1 :: st, SH, σ)) ∧
  (∀ (v0 : Option Value) (v1 : Option Value) (v2 : Option Value) (v3 : Option Value) (v4 : Option Value) (v5 : Option Value) (a1 : Nat) (st : List Value) (σ : ma_H) (hc : hk_cls a1 = 7), ma_rn ro d 69 (1, [v0, v1, v2, v3, v4, v5], .ref a1 :: st, SH, σ) = ma_rn ro d 69 (4, [v0, v1, v2, v3, v4, v5], .ref (1) :: st, SH, σ)) ∧
  (∀ (v0 : Option Value) (v1 : Option Value) (v2 : Option Value) (v3 : Option Value) (v4 : Option Value) (v5 : Option Value) (a1 : Nat) (st : List Value) (σ : ma_H) (hc : hk_cls a1 = 5), ma_rn ro d 69 (4, [v0, v1, v2, v3, v4, v5], .ref a1 :: st, SH, σ) = ma_rn ro d 69 (7, [v0, v1, v2, v3, v4, v5], .ref (a1 + 1) :: st, SH, σ)) ∧
  (∀ (v0 : Option Value) (v1 : Option Value) (v3 : Option Value) (v4 : Option Value) (v5 : Option Value) (x1 : Int32) (st : List Value) (σ : ma_H), ma_rn ro d 69 (7, [v0, v1, some (.int x1), v3, v4, v5], st, SH, σ) = ma_rn ro d 69 (8, [v0, v1, some (.int x1), v3, v4, v5], .int x1 :: st, SH, σ)) ∧
  (∀ (v0 : Option Value) (v1 : Option Value) (v2 : Option Value) (v3 : Option Value) (v4 : Option Value) (v5 : Option Value) (st : List Value) (σ : ma_H), ma_rn ro d 69 (8, [v0, v1, v2, v3, v4, v5], st, SH, σ) = ma_rn ro d 69 (10, [v0, v1, v2, v3, v4, v5], .int (nI 10) :: st, SH, σ)) ∧
  (∀ (v0 : Option Value) (v1 : Option Value) (v2 : Option Value) (v3 : Option Value) (v4 : Option Value) (v5 : Option Value) (x1 : Int32) (x2 : Int32) (st : List Value) (σ : ma_H), ma_rn ro d 69 (10, [v0, v1, v2, v3, v4, v5], .int x1 :: .int x2 :: st, SH, σ) = ma_rn ro d 69 (11, [v0, v1, v2, v3, v4, v5], .int (x2 - x1) :: st, SH, σ)) ∧
  (∀ (v0 : Option Value) (v1 : Option Value) (v2 : Option Value) (v3 : Option Value) (v4 : Option Value) (v5 : Option Value) (x1 : Int32) (a0 : Nat) (σ : ma_H) (hc : hk_cls a0 = 6), ma_rn ro (d + 1) 69 (11, [v0, v1, v2, v3, v4, v5], .int x1 :: .ref a0 :: [], SH, σ) = (ma_ev ro d 50 [.ref a0, .int x1] SH σ).bind (fun q => ma_rn ro (d + 1) 69 (14, [v0, v1, v2, v3, v4, v5], (q.1.toList ++ []), q.2.1, q.2.2))) ∧
  (∀ (v0 : Option Value) (v1 : Option Value) (v2 : Option Value) (v3 : Option Value) (v4 : Option Value) (v5 : Option Value) (a1 : Nat) (st : List Value) (σ : ma_H), ma_rn ro d 69 (14, [v0, v1, v2, v3, v4, v5], .ref a1 :: st, SH, σ) = ma_rn ro d 69 (17, [v0, v1, v2, v3, v4, v5], st, SH, σ)) ∧
  (∀ (v0 : Option Value) (v1 : Option Value) (v2 : Option Value) (v3 : Option Value) (v4 : Option Value) (v5 : Option Value) (st : List Value) (σ : ma_H), ma_rn ro d 69 (14, [v0, v1, v2, v3, v4, v5], .null :: st, SH, σ) = ma_rn ro d 69 (21, [v0, v1, v2, v3, v4, v5], st, SH, σ)) ∧
  (∀ (v0 : Option Value) (v1 : Option Value) (v2 : Option Value) (v3 : Option Value) (v4 : Option Value) (v5 : Option Value) (st : List Value) (σ : ma_H), ma_rn ro d 69 (17, [v0, v1, v2, v3, v4, v5], st, SH, σ) = ma_rn ro d 69 (18, [v0, v1, v2, v3, v4, v5], .int (nI 1) :: st, SH, σ)) ∧
  (∀ (v0 : Option Value) (v1 : Option Value) (v2 : Option Value) (v3 : Option Value) (v4 : Option Value) (v5 : Option Value) (st : List Value) (σ : ma_H), ma_rn ro d 69 (18, [v0, v1, v2, v3, v4, v5], st, SH, σ) = ma_rn ro d 69 (22, [v0, v1, v2, v3, v4, v5], st, SH, σ)) ∧
  (∀ (v0 : Option Value) (v1 : Option Value) (v2 : Option Value) (v3 : Option Value) (v4 : Option Value) (v5 : Option Value) (st : List Value) (σ : ma_H), ma_rn ro d 69 (21, [v0, v1, v2, v3, v4, v5], st, SH, σ) = ma_rn ro d 69 (22, [v0, v1, v2, v3, v4, v5], .int (nI 0) :: st, SH, σ)) ∧
  (∀ (v0 : Option Value) (v1 : Option Value) (v3 : Option Value) (v4 : Option Value) (v5 : Option Value) (x9 : Int32) (x1 : Int32) (st : List Value) (σ : ma_H), ma_rn ro d 69 (22, [v0, v1, some (.int x9), v3, v4, v5], .int x1 :: st, SH, σ) = ma_rn ro d 69 (23, [v0, v1, some (.int x9), some (.int x1), v4, v5], st, SH, σ)) ∧
  (∀ (v1 : Option Value) (v2 : Option Value) (v3 : Option Value) (v4 : Option Value) (v5 : Option Value) (a1 : Nat) (st : List Value) (σ : ma_H), ma_rn ro d 69 (23, [some (.ref a1), v1, v2, v3, v4, v5], st, SH, σ) = ma_rn ro d 69 (24, [some (.ref a1), v1, v2, v3, v4, v5], .ref a1 :: st, SH, σ)) ∧
  (∀ (v0 : Option Value) (v1 : Option Value) (v2 : Option Value) (v3 : Option Value) (v4 : Option Value) (v5 : Option Value) (a1 : Nat) (st : List Value) (σ : ma_H) (hc : hk_cls a1 = 7), ma_rn ro d 69 (24, [v0, v1, v2, v3, v4, v5], .ref a1 :: st, SH, σ) = ma_rn ro d 69 (27, [v0, v1, v2, v3, v4, v5], .ref (1) :: st, SH, σ)) ∧
  (∀ (v0 : Option Value) (v1 : Option Value) (v2 : Option Value) (v3 : Option Value) (v4 : Option Value) (v5 : Option Value) (a1 : Nat) (st : List Value) (σ : ma_H) (hc : hk_cls a1 = 5), ma_rn ro d 69 (27, [v0, v1, v2, v3, v4, v5], .ref a1 :: st, SH, σ) = ma_rn ro d 69 (30, [v0, v1, v2, v3, v4, v5], .ref (a1 + 1) :: st, SH, σ)) ∧
  (∀ (v0 : Option Value) (v1 : Option Value) (v3 : Option Value) (v4 : Option Value) (v5 : Option Value) (x1 : Int32) (st : List Value) (σ : ma_H), ma_rn ro d 69 (30, [v0, v1, some (.int x1), v3, v4, v5], st, SH, σ) = ma_rn ro d 69 (31, [v0, v1, some (.int x1), v3, v4, v5], .int x1 :: st, SH, σ)) ∧
  (∀ (v0 : Option Value) (v1 : Option Value) (v2 : Option Value) (v3 : Option Value) (v4 : Option Value) (v5 : Option Value) (st : List Value) (σ : ma_H), ma_rn ro d 69 (31, [v0, v1, v2, v3, v4, v5], st, SH, σ) = ma_rn ro d 69 (33, [v0, v1, v2, v3, v4, v5], .int (nI 20) :: st, SH, σ)) ∧
  (∀ (v0 : Option Value) (v1 : Option Value) (v2 : Option Value) (v3 : Option Value) (v4 : Option Value) (v5 : Option Value) (x1 : Int32) (x2 : Int32) (st : List Value) (σ : ma_H), ma_rn ro d 69 (33, [v0, v1, v2, v3, v4, v5], .int x1 :: .int x2 :: st, SH, σ) = ma_rn ro d 69 (34, [v0, v1, v2, v3, v4, v5], .int (x2 - x1) :: st, SH, σ)) ∧
  (∀ (v0 : Option Value) (v1 : Option Value) (v2 : Option Value) (v3 : Option Value) (v4 : Option Value) (v5 : Option Value) (x1 : Int32) (a0 : Nat) (σ : ma_H) (hc : hk_cls a0 = 6), ma_rn ro (d + 1) 69 (34, [v0, v1, v2, v3, v4, v5], .int x1 :: .ref a0 :: [], SH, σ) = (ma_ev ro d 50 [.ref a0, .int x1] SH σ).bind (fun q => ma_rn ro (d + 1) 69 (37, [v0, v1, v2, v3, v4, v5], (q.1.toList ++ []), q.2.1, q.2.2))) ∧
  (∀ (v0 : Option Value) (v1 : Option Value) (v2 : Option Value) (v3 : Option Value) (v4 : Option Value) (v5 : Option Value) (a1 : Nat) (st : List Value) (σ : ma_H), ma_rn ro d 69 (37, [v0, v1, v2, v3, v4, v5], .ref a1 :: st, SH, σ) = ma_rn ro d 69 (40, [v0, v1, v2, v3, v4, v5], st, SH, σ)) ∧
  (∀ (v0 : Option Value) (v1 : Option Value) (v2 : Option Value) (v3 : Option Value) (v4 : Option Value) (v5 : Option Value) (st : List Value) (σ : ma_H), ma_rn ro d 69 (37, [v0, v1, v2, v3, v4, v5], .null :: st, SH, σ) = ma_rn ro d 69 (44, [v0, v1, v2, v3, v4, v5], st, SH, σ)) ∧
  (∀ (v0 : Option Value) (v1 : Option Value) (v2 : Option Value) (v3 : Option Value) (v4 : Option Value) (v5 : Option Value) (st : List Value) (σ : ma_H), ma_rn ro d 69 (40, [v0, v1, v2, v3, v4, v5], st, SH, σ) = ma_rn ro d 69 (41, [v0, v1, v2, v3, v4, v5], .int (nI 1) :: st, SH, σ)) ∧
  (∀ (v0 : Option Value) (v1 : Option Value) (v2 : Option Value) (v3 : Option Value) (v4 : Option Value) (v5 : Option Value) (st : List Value) (σ : ma_H), ma_rn ro d 69 (41, [v0, v1, v2, v3, v4, v5], st, SH, σ) = ma_rn ro d 69 (45, [v0, v1, v2, v3, v4, v5], st, SH, σ)) ∧
  (∀ (v0 : Option Value) (v1 : Option Value) (v2 : Option Value) (v3 : Option Value) (v4 : Option Value) (v5 : Option Value) (st : List Value) (σ : ma_H), ma_rn ro d 69 (44, [v0, v1, v2, v3, v4, v5], st, SH, σ) = ma_rn ro d 69 (45, [v0, v1, v2, v3, v4, v5], .int (nI 0) :: st, SH, σ)) ∧
  (∀ (v0 : Option Value) (v1 : Option Value) (v2 : Option Value) (v4 : Option Value) (v5 : Option Value) (x9 : Int32) (x1 : Int32) (st : List Value) (σ : ma_H), ma_rn ro d 69 (45, [v0, v1, v2, some (.int x9), v4, v5], .int x1 :: st, SH, σ) = ma_rn ro d 69 (47, [v0, v1, v2, some (.int x9), some (.int x1), v5], st, SH, σ)) ∧
  (∀ (v0 : Option Value) (v1 : Option Value) (v3 : Option Value) (v4 : Option Value) (v5 : Option Value) (x1 : Int32) (st : List Value) (σ : ma_H), ma_rn ro d 69 (47, [v0, v1, some (.int x1), v3, v4, v5], st, SH, σ) = ma_rn ro d 69 (48, [v0, v1, some (.int x1), v3, v4, v5], .int x1 :: st, SH, σ)) ∧
  (∀ (v0 : Option Value) (v1 : Option Value) (v2 : Option Value) (v3 : Option Value) (v4 : Option Value) (v5 : Option Value) (st : List Value) (σ : ma_H), ma_rn ro d 69 (48, [v0, v1, v2, v3, v4, v5], st, SH, σ) = ma_rn ro d 69 (49, [v0, v1, v2, v3, v4, v5], .int (nI 1) :: st, SH, σ)) ∧
  (∀ (v0 : Option Value) (v1 : Option Value) (v2 : Option Value) (v3 : Option Value) (v4 : Option Value) (v5 : Option Value) (x1 : Int32) (x2 : Int32) (σ : ma_H), ma_rn ro (d + 1) 69 (49, [v0, v1, v2, v3, v4, v5], .int x2 :: .int x1 :: [], SH, σ) = (ma_ev ro d 88 [.int x1, .int x2] SH σ).bind (fun q => ma_rn ro (d + 1) 69 (52, [v0, v1, v2, v3, v4, v5], (q.1.toList ++ []), q.2.1, q.2.2))) ∧
  (∀ (v0 : Option Value) (v1 : Option Value) (v2 : Option Value) (v3 : Option Value) (v4 : Option Value) (v5 : Option Value) (x1 : Int32) (st : List Value) (σ : ma_H), ma_rn ro d 69 (52, [v0, v1, v2, v3, v4, v5], .int x1 :: st, SH, σ) = if x1 = nI 0 then ma_rn ro d 69 (66, [v0, v1, v2, v3, v4, v5], st, SH, σ) else ma_rn ro d 69 (55, [v0, v1, v2, v3, v4, v5], st, SH, σ)) ∧
  (∀ (v0 : Option Value) (v1 : Option Value) (v2 : Option Value) (v4 : Option Value) (v5 : Option Value) (x1 : Int32) (st : List Value) (σ : ma_H), ma_rn ro d 69 (55, [v0, v1, v2, some (.int x1), v4, v5], st, SH, σ) = ma_rn ro d 69 (56, [v0, v1, v2, some (.int x1), v4, v5], .int x1 :: st, SH, σ)) ∧
  (∀ (v0 : Option Value) (v1 : Option Value) (v2 : Option Value) (v3 : Option Value) (v4 : Option Value) (v5 : Option Value) (x1 : Int32) (st : List Value) (σ : ma_H), ma_rn ro d 69 (56, [v0, v1, v2, v3, v4, v5], .int x1 :: st, SH, σ) = if x1 = nI 0 then ma_rn ro d 69 (59, [v0, v1, v2, v3, v4, v5], st, SH, σ) else ma_rn ro d 69 (66, [v0, v1, v2, v3, v4, v5], st, SH, σ)) ∧
  (∀ (v0 : Option Value) (v1 : Option Value) (v2 : Option Value) (v3 : Option Value) (v5 : Option Value) (x1 : Int32) (st : List Value) (σ : ma_H), ma_rn ro d 69 (59, [v0, v1, v2, v3, some (.int x1), v5], st, SH, σ) = ma_rn ro d 69 (61, [v0, v1, v2, v3, some (.int x1), v5], .int x1 :: st, SH, σ)) ∧
  (∀ (v0 : Option Value) (v1 : Option Value) (v2 : Option Value) (v3 : Option Value) (v4 : Option Value) (v5 : Option Value) (x1 : Int32) (st : List Value) (σ : ma_H), ma_rn ro d 69 (61, [v0, v1, v2, v3, v4, v5], .int x1 :: st, SH, σ) = if x1 = nI 0 then ma_rn ro d 69 (64, [v0, v1, v2, v3, v4, v5], st, SH, σ) else ma_rn ro d 69 (66, [v0, v1, v2, v3, v4, v5], st, SH, σ)) ∧
  (∀ (v0 : Option Value) (v1 : Option Value) (v2 : Option Value) (v3 : Option Value) (v4 : Option Value) (v5 : Option Value) (st : List Value) (σ : ma_H), ma_rn ro d 69 (64, [v0, v1, v2, v3, v4, v5], st, SH, σ) = ma_rn ro d 69 (65, [v0, v1, v2, v3, v4, v5], .int ((-1)) :: st, SH, σ)) ∧
  (∀ (v0 : Option Value) (v1 : Option Value) (v2 : Option Value) (v3 : Option Value) (v4 : Option Value) (v5 : Option Value) (x1 : Int32) (σ : ma_H), ma_rn ro d 69 (65, [v0, v1, v2, v3, v4, v5], [.int x1], SH, σ) = some (some (.int x1), SH, σ)) ∧
  (∀ (v0 : Option Value) (v2 : Option Value) (v3 : Option Value) (v4 : Option Value) (v5 : Option Value) (x1 : Int32) (st : List Value) (σ : ma_H), ma_rn ro d 69 (66, [v0, some (.int x1), v2, v3, v4, v5], st, SH, σ) = ma_rn ro d 69 (67, [v0, some (.int x1), v2, v3, v4, v5], .int x1 :: st, SH, σ)) ∧
  (∀ (v0 : Option Value) (v1 : Option Value) (v2 : Option Value) (v3 : Option Value) (v4 : Option Value) (v5 : Option Value) (st : List Value) (σ : ma_H), ma_rn ro d 69 (67, [v0, v1, v2, v3, v4, v5], st, SH, σ) = ma_rn ro d 69 (69, [v0, v1, v2, v3, v4, v5], .int (nI 60) :: st, SH, σ)) ∧
  (∀ (v0 : Option Value) (v1 : Option Value) (v2 : Option Value) (v3 : Option Value) (v4 : Option Value) (v5 : Option Value) (x1 : Int32) (x2 : Int32) (σ : ma_H), ma_rn ro (d + 1) 69 (69, [v0, v1, v2, v3, v4, v5], .int x2 :: .int x1 :: [], SH, σ) = (ma_ev ro d 88 [.int x1, .int x2] SH σ).bind (fun q => ma_rn ro (d + 1) 69 (72, [v0, v1, v2, v3, v4, v5], (q.1.toList ++ []), q.2.1, q.2.2))) ∧
  (∀ (v0 : Option Value) (v1 : Option Value) (v2 : Option Value) (v3 : Option Value) (v4 : Option Value) (v5 : Option Value) (x1 : Int32) (st : List Value) (σ : ma_H), ma_rn ro d 69 (72, [v0, v1, v2, v3, v4, v5], .int x1 :: st, SH, σ) = if x1 = nI 0 then ma_rn ro d 69 (78, [v0, v1, v2, v3, v4, v5], st, SH, σ) else ma_rn ro d 69 (75, [v0, v1, v2, v3, v4, v5], st, SH, σ)) ∧
  (∀ (v0 : Option Value) (v1 : Option Value) (v2 : Option Value) (v3 : Option Value) (v4 : Option Value) (v5 : Option Value) (st : List Value) (σ : ma_H), ma_rn ro d 69 (75, [v0, v1, v2, v3, v4, v5], st, SH, σ) = ma_rn ro d 69 (77, [v0, v1, v2, v3, v4, v5], .int ((-2)) :: st, SH, σ)) ∧
  (∀ (v0 : Option Value) (v1 : Option Value) (v2 : Option Value) (v3 : Option Value) (v4 : Option Value) (v5 : Option Value) (x1 : Int32) (σ : ma_H), ma_rn ro d 69 (77, [v0, v1, v2, v3, v4, v5], [.int x1], SH, σ) = some (some (.int x1), SH, σ)) ∧
  (∀ (v1 : Option Value) (v2 : Option Value) (v3 : Option Value) (v4 : Option Value) (v5 : Option Value) (a1 : Nat) (st : List Value) (σ : ma_H), ma_rn ro d 69 (78, [some (.ref a1), v1, v2, v3, v4, v5], st, SH, σ) = ma_rn ro d 69 (79, [some (.ref a1), v1, v2, v3, v4, v5], .ref a1 :: st, SH, σ)) ∧
  (∀ (v0 : Option Value) (v1 : Option Value) (v2 : Option Value) (v3 : Option Value) (v4 : Option Value) (v5 : Option Value) (a1 : Nat) (st : List Value) (σ : ma_H) (hc : hk_cls a1 = 7), ma_rn ro d 69 (79, [v0, v1, v2, v3, v4, v5], .ref a1 :: st, SH, σ) = ma_rn ro d 69 (82, [v0, v1, v2, v3, v4, v5], .ref (70) :: st, SH, σ)) ∧
  (∀ (v1 : Option Value) (v2 : Option Value) (v3 : Option Value) (v4 : Option Value) (v5 : Option Value) (a1 : Nat) (st : List Value) (σ : ma_H), ma_rn ro d 69 (82, [some (.ref a1), v1, v2, v3, v4, v5], st, SH, σ) = ma_rn ro d 69 (83, [some (.ref a1), v1, v2, v3, v4, v5], .ref a1 :: st, SH, σ)) ∧
  (∀ (v0 : Option Value) (v1 : Option Value) (v2 : Option Value) (v3 : Option Value) (v4 : Option Value) (v5 : Option Value) (a1 : Nat) (st : List Value) (σ : ma_H) (hc : hk_cls a1 = 7), ma_rn ro d 69 (83, [v0, v1, v2, v3, v4, v5], .ref a1 :: st, SH, σ) = ma_rn ro d 69 (86, [v0, v1, v2, v3, v4, v5], .ref (1) :: st, SH, σ)) ∧
  (∀ (v0 : Option Value) (v1 : Option Value) (v2 : Option Value) (v3 : Option Value) (v4 : Option Value) (v5 : Option Value) (a1 : Nat) (st : List Value) (σ : ma_H) (hc : hk_cls a1 = 5), ma_rn ro d 69 (86, [v0, v1, v2, v3, v4, v5], .ref a1 :: st, SH, σ) = ma_rn ro d 69 (89, [v0, v1, v2, v3, v4, v5], .ref (a1 + 1) :: st, SH, σ)) ∧
  (∀ (v0 : Option Value) (v1 : Option Value) (v2 : Option Value) (v3 : Option Value) (v4 : Option Value) (v5 : Option Value) (a1 : Nat) (a0 : Nat) (σ : ma_H) (hc : hk_cls a0 = 6), ma_rn ro (d + 1) 69 (89, [v0, v1, v2, v3, v4, v5], .ref a1 :: .ref a0 :: [], SH, σ) = (ma_ev ro d 52 [.ref a0, .ref a1] SH σ).bind (fun q => ma_rn ro (d + 1) 69 (92, [v0, v1, v2, v3, v4, v5], (q.1.toList ++ []), q.2.1, q.2.2))) ∧
  (∀ (v1 : Option Value) (v2 : Option Value) (v3 : Option Value) (v4 : Option Value) (v5 : Option Value) (a1 : Nat) (st : List Value) (σ : ma_H), ma_rn ro d 69 (92, [some (.ref a1), v1, v2, v3, v4, v5], st, SH, σ) = ma_rn ro d 69 (93, [some (.ref a1), v1, v2, v3, v4, v5], .ref a1 :: st, SH, σ)) ∧
  (∀ (v0 : Option Value) (v1 : Option Value) (v2 : Option Value) (v3 : Option Value) (v4 : Option Value) (v5 : Option Value) (a1 : Nat) (st : List Value) (σ : ma_H) (hc : hk_cls a1 = 7), ma_rn ro d 69 (93, [v0, v1, v2, v3, v4, v5], .ref a1 :: st, SH, σ) = ma_rn ro d 69 (96, [v0, v1, v2, v3, v4, v5], .ref (70) :: st, SH, σ)) ∧
  (∀ (v0 : Option Value) (v2 : Option Value) (v3 : Option Value) (v4 : Option Value) (v5 : Option Value) (x1 : Int32) (st : List Value) (σ : ma_H), ma_rn ro d 69 (96, [v0, some (.int x1), v2, v3, v4, v5], st, SH, σ) = ma_rn ro d 69 (97, [v0, some (.int x1), v2, v3, v4, v5], .int x1 :: st, SH, σ)) ∧
  (∀ (v1 : Option Value) (v2 : Option Value) (v3 : Option Value) (v4 : Option Value) (v5 : Option Value) (a1 : Nat) (st : List Value) (σ : ma_H), ma_rn ro d 69 (97, [some (.ref a1), v1, v2, v3, v4, v5], st, SH, σ) = ma_rn ro d 69 (98, [some (.ref a1), v1, v2, v3, v4, v5], .ref a1 :: st, SH, σ)) ∧
  (∀ (v0 : Option Value) (v1 : Option Value) (v2 : Option Value) (v3 : Option Value) (v4 : Option Value) (v5 : Option Value) (a1 : Nat) (st : List Value) (σ : ma_H) (hc : hk_cls a1 = 7), ma_rn ro d 69 (98, [v0, v1, v2, v3, v4, v5], .ref a1 :: st, SH, σ) = ma_rn ro d 69 (101, [v0, v1, v2, v3, v4, v5], .ref (1) :: st, SH, σ)) ∧
  (∀ (v0 : Option Value) (v1 : Option Value) (v2 : Option Value) (v3 : Option Value) (v4 : Option Value) (v5 : Option Value) (a1 : Nat) (st : List Value) (σ : ma_H) (hc : hk_cls a1 = 5), ma_rn ro d 69 (101, [v0, v1, v2, v3, v4, v5], .ref a1 :: st, SH, σ) = ma_rn ro d 69 (104, [v0, v1, v2, v3, v4, v5], .ref (a1 + 15) :: st, SH, σ)) ∧
  (∀ (v0 : Option Value) (v1 : Option Value) (v2 : Option Value) (v3 : Option Value) (v4 : Option Value) (v5 : Option Value) (x1 : Int32) (a2 : Nat) (a0 : Nat) (σ : ma_H) (hc : hk_cls a0 = 6), ma_rn ro (d + 1) 69 (104, [v0, v1, v2, v3, v4, v5], .ref a2 :: .int x1 :: .ref a0 :: [], SH, σ) = (ma_ev ro d 53 [.ref a0, .int x1, .ref a2] SH σ).bind (fun q => ma_rn ro (d + 1) 69 (107, [v0, v1, v2, v3, v4, v5], (q.1.toList ++ []), q.2.1, q.2.2))) ∧
  (∀ (v0 : Option Value) (v1 : Option Value) (v3 : Option Value) (v4 : Option Value) (v5 : Option Value) (x1 : Int32) (st : List Value) (σ : ma_H), ma_rn ro d 69 (107, [v0, v1, some (.int x1), v3, v4, v5], st, SH, σ) = ma_rn ro d 69 (108, [v0, v1, some (.int x1), v3, v4, v5], .int x1 :: st, SH, σ)) ∧
  (∀ (v0 : Option Value) (v1 : Option Value) (v2 : Option Value) (v3 : Option Value) (v4 : Option Value) (v5 : Option Value) (x1 : Int32) (st : List Value) (σ : ma_H), ma_rn ro d 69 (108, [v0, v1, v2, v3, v4, v5], .int x1 :: st, SH, σ) = if x1 = nI 0 then ma_rn ro d 69 (111, [v0, v1, v2, v3, v4, v5], st, SH, σ) else ma_rn ro d 69 (119, [v0, v1, v2, v3, v4, v5], st, SH, σ)) ∧
  (∀ (v1 : Option Value) (v2 : Option Value) (v3 : Option Value) (v4 : Option Value) (v5 : Option Value) (a1 : Nat) (st : List Value) (σ : ma_H), ma_rn ro d 69 (111, [some (.ref a1), v1, v2, v3, v4, v5], st, SH, σ) = ma_rn ro d 69 (112, [some (.ref a1), v1, v2, v3, v4, v5], .ref a1 :: st, SH, σ)) ∧
  (∀ (v0 : Option Value) (v1 : Option Value) (v2 : Option Value) (v3 : Option Value) (v4 : Option Value) (v5 : Option Value) (a1 : Nat) (st : List Value) (σ : ma_H) (hc : hk_cls a1 = 7), ma_rn ro d 69 (112, [v0, v1, v2, v3, v4, v5], .ref a1 :: st, SH, σ) = ma_rn ro d 69 (115, [v0, v1, v2, v3, v4, v5], .ref (70) :: st, SH, σ)) ∧
  (∀ (v0 : Option Value) (v1 : Option Value) (v2 : Option Value) (v3 : Option Value) (v4 : Option Value) (v5 : Option Value) (a0 : Nat) (σ : ma_H) (hc : hk_cls a0 = 6), ma_rn ro (d + 1) 69 (115, [v0, v1, v2, v3, v4, v5], .ref a0 :: [], SH, σ) = (ma_ev ro d 55 [.ref a0] SH σ).bind (fun q => ma_rn ro (d + 1) 69 (118, [v0, v1, v2, v3, v4, v5], (q.1.toList ++ []), q.2.1, q.2.2))) ∧
  (∀ (v0 : Option Value) (v1 : Option Value) (v2 : Option Value) (v3 : Option Value) (v4 : Option Value) (v5 : Option Value) (x1 : Int32) (σ : ma_H), ma_rn ro d 69 (118, [v0, v1, v2, v3, v4, v5], [.int x1], SH, σ) = some (some (.int x1), SH, σ)) ∧
  (∀ (v0 : Option Value) (v1 : Option Value) (v3 : Option Value) (v4 : Option Value) (v5 : Option Value) (x1 : Int32) (st : List Value) (σ : ma_H), ma_rn ro d 69 (119, [v0, v1, some (.int x1), v3, v4, v5], st, SH, σ) = ma_rn ro d 69 (120, [v0, v1, some (.int x1), v3, v4, v5], .int x1 :: st, SH, σ)) ∧
  (∀ (v0 : Option Value) (v1 : Option Value) (v2 : Option Value) (v3 : Option Value) (v4 : Option Value) (v5 : Option Value) (st : List Value) (σ : ma_H), ma_rn ro d 69 (120, [v0, v1, v2, v3, v4, v5], st, SH, σ) = ma_rn ro d 69 (121, [v0, v1, v2, v3, v4, v5], .int (nI 1) :: st, SH, σ)) ∧
  (∀ (v0 : Option Value) (v1 : Option Value) (v2 : Option Value) (v3 : Option Value) (v4 : Option Value) (v5 : Option Value) (x1 : Int32) (x2 : Int32) (st : List Value) (σ : ma_H), ma_rn ro d 69 (121, [v0, v1, v2, v3, v4, v5], .int x1 :: .int x2 :: st, SH, σ) = if x2 = x1 then ma_rn ro d 69 (124, [v0, v1, v2, v3, v4, v5], st, SH, σ) else ma_rn ro d 69 (132, [v0, v1, v2, v3, v4, v5], st, SH, σ)) ∧
  (∀ (v1 : Option Value) (v2 : Option Value) (v3 : Option Value) (v4 : Option Value) (v5 : Option Value) (a1 : Nat) (st : List Value) (σ : ma_H), ma_rn ro d 69 (124, [some (.ref a1), v1, v2, v3, v4, v5], st, SH, σ) = ma_rn ro d 69 (125, [some (.ref a1), v1, v2, v3, v4, v5], .ref a1 :: st, SH, σ)) ∧
  (∀ (v0 : Option Value) (v1 : Option Value) (v2 : Option Value) (v3 : Option Value) (v4 : Option Value) (v5 : Option Value) (a1 : Nat) (st : List Value) (σ : ma_H) (hc : hk_cls a1 = 7), ma_rn ro d 69 (125, [v0, v1, v2, v3, v4, v5], .ref a1 :: st, SH, σ) = ma_rn ro d 69 (128, [v0, v1, v2, v3, v4, v5], .ref (70) :: st, SH, σ)) ∧
  (∀ (v0 : Option Value) (v1 : Option Value) (v2 : Option Value) (v3 : Option Value) (v4 : Option Value) (v5 : Option Value) (a1 : Nat) (st : List Value) (σ : ma_H) (hc : hk_cls a1 = 6), ma_rn ro d 69 (128, [v0, v1, v2, v3, v4, v5], .ref a1 :: st, SH, σ) = ma_rn ro d 69 (131, [v0, v1, v2, v3, v4, v5], .int (σ a1 4) :: st, SH, σ)) ∧
  (∀ (v0 : Option Value) (v1 : Option Value) (v2 : Option Value) (v3 : Option Value) (v4 : Option Value) (v5 : Option Value) (x1 : Int32) (σ : ma_H), ma_rn ro d 69 (131, [v0, v1, v2, v3, v4, v5], [.int x1], SH, σ) = some (some (.int x1), SH, σ)) ∧
  (∀ (v1 : Option Value) (v2 : Option Value) (v3 : Option Value) (v4 : Option Value) (v5 : Option Value) (a1 : Nat) (st : List Value) (σ : ma_H), ma_rn ro d 69 (132, [some (.ref a1), v1, v2, v3, v4, v5], st, SH, σ) = ma_rn ro d 69 (133, [some (.ref a1), v1, v2, v3, v4, v5], .ref a1 :: st, SH, σ)) ∧
  (∀ (v0 : Option Value) (v1 : Option Value) (v2 : Option Value) (v3 : Option Value) (v4 : Option Value) (v5 : Option Value) (a1 : Nat) (st : List Value) (σ : ma_H) (hc : hk_cls a1 = 7), ma_rn ro d 69 (133, [v0, v1, v2, v3, v4, v5], .ref a1 :: st, SH, σ) = ma_rn ro d 69 (136, [v0, v1, v2, v3, v4, v5], .ref (70) :: st, SH, σ)) ∧
  (∀ (v0 : Option Value) (v1 : Option Value) (v2 : Option Value) (v4 : Option Value) (v5 : Option Value) (x1 : Int32) (st : List Value) (σ : ma_H), ma_rn ro d 69 (136, [v0, v1, v2, some (.int x1), v4, v5], st, SH, σ) = ma_rn ro d 69 (137, [v0, v1, v2, some (.int x1), v4, v5], .int x1 :: st, SH, σ)) ∧
  (∀ (v0 : Option Value) (v1 : Option Value) (v2 : Option Value) (v3 : Option Value) (v4 : Option Value) (v5 : Option Value) (x1 : Int32) (st : List Value) (σ : ma_H), ma_rn ro d 69 (137, [v0, v1, v2, v3, v4, v5], .int x1 :: st, SH, σ) = if x1 = nI 0 then ma_rn ro d 69 (147, [v0, v1, v2, v3, v4, v5], st, SH, σ) else ma_rn ro d 69 (140, [v0, v1, v2, v3, v4, v5], st, SH, σ)) ∧
  (∀ (v0 : Option Value) (v1 : Option Value) (v3 : Option Value) (v4 : Option Value) (v5 : Option Value) (x1 : Int32) (st : List Value) (σ : ma_H), ma_rn ro d 69 (140, [v0, v1, some (.int x1), v3, v4, v5], st, SH, σ) = ma_rn ro d 69 (141, [v0, v1, some (.int x1), v3, v4, v5], .int x1 :: st, SH, σ)) ∧
  (∀ (v0 : Option Value) (v1 : Option Value) (v2 : Option Value) (v3 : Option Value) (v4 : Option Value) (v5 : Option Value) (st : List Value) (σ : ma_H), ma_rn ro d 69 (141, [v0, v1, v2, v3, v4, v5], st, SH, σ) = ma_rn ro d 69 (143, [v0, v1, v2, v3, v4, v5], .int (nI 10) :: st, SH, σ)) ∧
  (∀ (v0 : Option Value) (v1 : Option Value) (v2 : Option Value) (v3 : Option Value) (v4 : Option Value) (v5 : Option Value) (x1 : Int32) (x2 : Int32) (st : List Value) (σ : ma_H), ma_rn ro d 69 (143, [v0, v1, v2, v3, v4, v5], .int x1 :: .int x2 :: st, SH, σ) = ma_rn ro d 69 (144, [v0, v1, v2, v3, v4, v5], .int (x2 - x1) :: st, SH, σ)) ∧
  (∀ (v0 : Option Value) (v1 : Option Value) (v2 : Option Value) (v3 : Option Value) (v4 : Option Value) (v5 : Option Value) (st : List Value) (σ : ma_H), ma_rn ro d 69 (144, [v0, v1, v2, v3, v4, v5], st, SH, σ) = ma_rn ro d 69 (151, [v0, v1, v2, v3, v4, v5], st, SH, σ)) ∧
  (∀ (v0 : Option Value) (v1 : Option Value) (v3 : Option Value) (v4 : Option Value) (v5 : Option Value) (x1 : Int32) (st : List Value) (σ : ma_H), ma_rn ro d 69 (147, [v0, v1, some (.int x1), v3, v4, v5], st, SH, σ) = ma_rn ro d 69 (148, [v0, v1, some (.int x1), v3, v4, v5], .int x1 :: st, SH, σ)) ∧
  (∀ (v0 : Option Value) (v1 : Option Value) (v2 : Option Value) (v3 : Option Value) (v4 : Option Value) (v5 : Option Value) (st : List Value) (σ : ma_H), ma_rn ro d 69 (148, [v0, v1, v2, v3, v4, v5], st, SH, σ) = ma_rn ro d 69 (150, [v0, v1, v2, v3, v4, v5], .int (nI 20) :: st, SH, σ)) ∧
  (∀ (v0 : Option Value) (v1 : Option Value) (v2 : Option Value) (v3 : Option Value) (v4 : Option Value) (v5 : Option Value) (x1 : Int32) (x2 : Int32) (st : List Value) (σ : ma_H), ma_rn ro d 69 (150, [v0, v1, v2, v3, v4, v5], .int x1 :: .int x2 :: st, SH, σ) = ma_rn ro d 69 (151, [v0, v1, v2, v3, v4, v5], .int (x2 - x1) :: st, SH, σ)) ∧
  (∀ (v0 : Option Value) (v1 : Option Value) (v2 : Option Value) (v3 : Option Value) (v4 : Option Value) (v5 : Option Value) (x1 : Int32) (a0 : Nat) (σ : ma_H) (hc : hk_cls a0 = 6), ma_rn ro (d + 1) 69 (151, [v0, v1, v2, v3, v4, v5], .int x1 :: .ref a0 :: [], SH, σ) = (ma_ev ro d 50 [.ref a0, .int x1] SH σ).bind (fun q => ma_rn ro (d + 1) 69 (154, [v0, v1, v2, v3, v4, v5], (q.1.toList ++ []), q.2.1, q.2.2))) ∧
  (∀ (v0 : Option Value) (v1 : Option Value) (v2 : Option Value) (v3 : Option Value) (v5 : Option Value) (x9 : Int32) (a1 : Nat) (st : List Value) (σ : ma_H), ma_rn ro d 69 (154, [v0, v1, v2, v3, some (.int x9), v5], .ref a1 :: st, SH, σ) = ma_rn ro d 69 (156, [v0, v1, v2, v3, some (.int x9), some (.ref a1)], st, SH, σ)) ∧
  (∀ (v0 : Option Value) (v1 : Option Value) (v2 : Option Value) (v3 : Option Value) (v5 : Option Value) (x9 : Int32) (st : List Value) (σ : ma_H), ma_rn ro d 69 (154, [v0, v1, v2, v3, some (.int x9), v5], .null :: st, SH, σ) = ma_rn ro d 69 (156, [v0, v1, v2, v3, some (.int x9), some .null], st, SH, σ)) ∧
  (∀ (v0 : Option Value) (v1 : Option Value) (v2 : Option Value) (v3 : Option Value) (v4 : Option Value) (a1 : Nat) (st : List Value) (σ : ma_H), ma_rn ro d 69 (156, [v0, v1, v2, v3, v4, some (.ref a1)], st, SH, σ) = ma_rn ro d 69 (158, [v0, v1, v2, v3, v4, some (.ref a1)], .ref a1 :: st, SH, σ)) ∧
  (∀ (v0 : Option Value) (v1 : Option Value) (v2 : Option Value) (v3 : Option Value) (v4 : Option Value) (st : List Value) (σ : ma_H), ma_rn ro d 69 (156, [v0, v1, v2, v3, v4, some .null], st, SH, σ) = ma_rn ro d 69 (158, [v0, v1, v2, v3, v4, some .null], .null :: st, SH, σ)) ∧
  (∀ (v0 : Option Value) (v1 : Option Value) (v2 : Option Value) (v3 : Option Value) (v4 : Option Value) (v5 : Option Value) (a1 : Nat) (st : List Value) (σ : ma_H), ma_rn ro d 69 (158, [v0, v1, v2, v3, v4, v5], .ref a1 :: st, SH, σ) = ma_rn ro d 69 (163, [v0, v1, v2, v3, v4, v5], st, SH, σ)) ∧
  (∀ (v0 : Option Value) (v1 : Option Value) (v2 : Option Value) (v3 : Option Value) (v4 : Option Value) (v5 : Option Value) (st : List Value) (σ : ma_H), ma_rn ro d 69 (158, [v0, v1, v2, v3, v4, v5], .null :: st, SH, σ) = ma_rn ro d 69 (161, [v0, v1, v2, v3, v4, v5], st, SH, σ)) ∧
  (∀ (v0 : Option Value) (v1 : Option Value) (v2 : Option Value) (v3 : Option Value) (v4 : Option Value) (v5 : Option Value) (st : List Value) (σ : ma_H), ma_rn ro d 69 (161, [v0, v1, v2, v3, v4, v5], st, SH, σ) = ma_rn ro d 69 (162, [v0, v1, v2, v3, v4, v5], .int ((-1)) :: st, SH, σ)) ∧
  (∀ (v0 : Option Value) (v1 : Option Value) (v2 : Option Value) (v3 : Option Value) (v4 : Option Value) (v5 : Option Value) (x1 : Int32) (σ : ma_H), ma_rn ro d 69 (162, [v0, v1, v2, v3, v4, v5], [.int x1], SH, σ) = some (some (.int x1), SH, σ)) ∧
  (∀ (v0 : Option Value) (v1 : Option Value) (v2 : Option Value) (v4 : Option Value) (v5 : Option Value) (x1 : Int32) (st : List Value) (σ : ma_H), ma_rn ro d 69 (163, [v0, v1, v2, some (.int x1), v4, v5], st, SH, σ) = ma_rn ro d 69 (164, [v0, v1, v2, some (.int x1), v4, v5], .int x1 :: st, SH, σ)) ∧
  (∀ (v0 : Option Value) (v1 : Option Value) (v2 : Option Value) (v3 : Option Value) (v4 : Option Value) (v5 : Option Value) (x1 : Int32) (st : List Value) (σ : ma_H), ma_rn ro d 69 (164, [v0, v1, v2, v3, v4, v5], .int x1 :: st, SH, σ) = if x1 = nI 0 then ma_rn ro d 69 (175, [v0, v1, v2, v3, v4, v5], st, SH, σ) else ma_rn ro d 69 (167, [v0, v1, v2, v3, v4, v5], st, SH, σ)) ∧
  (∀ (v0 : Option Value) (v1 : Option Value) (v2 : Option Value) (v3 : Option Value) (v4 : Option Value) (a1 : Nat) (st : List Value) (σ : ma_H), ma_rn ro d 69 (167, [v0, v1, v2, v3, v4, some (.ref a1)], st, SH, σ) = ma_rn ro d 69 (169, [v0, v1, v2, v3, v4, some (.ref a1)], .ref a1 :: st, SH, σ)) ∧
  (∀ (v0 : Option Value) (v1 : Option Value) (v2 : Option Value) (v3 : Option Value) (v4 : Option Value) (st : List Value) (σ : ma_H), ma_rn ro d 69 (167, [v0, v1, v2, v3, v4, some .null], st, SH, σ) = ma_rn ro d 69 (169, [v0, v1, v2, v3, v4, some .null], .null :: st, SH, σ)) ∧
  (∀ (v0 : Option Value) (v1 : Option Value) (v2 : Option Value) (v3 : Option Value) (v4 : Option Value) (v5 : Option Value) (a1 : Nat) (st : List Value) (σ : ma_H) (hc : hk_cls a1 = 1), ma_rn ro d 69 (169, [v0, v1, v2, v3, v4, v5], .ref a1 :: st, SH, σ) = ma_rn ro d 69 (172, [v0, v1, v2, v3, v4, v5], .int (σ a1 4) :: st, SH, σ)) ∧
  (∀ (v0 : Option Value) (v1 : Option Value) (v2 : Option Value) (v3 : Option Value) (v4 : Option Value) (v5 : Option Value) (st : List Value) (σ : ma_H), ma_rn ro d 69 (172, [v0, v1, v2, v3, v4, v5], st, SH, σ) = ma_rn ro d 69 (180, [v0, v1, v2, v3, v4, v5], st, SH, σ)) ∧
  (∀ (v0 : Option Value) (v1 : Option Value) (v2 : Option Value) (v3 : Option Value) (v4 : Option Value) (a1 : Nat) (st : List Value) (σ : ma_H), ma_rn ro d 69 (175, [v0, v1, v2, v3, v4, some (.ref a1)], st, SH, σ) = ma_rn ro d 69 (177, [v0, v1, v2, v3, v4, some (.ref a1)], .ref a1 :: st, SH, σ)) ∧
  (∀ (v0 : Option Value) (v1 : Option Value) (v2 : Option Value) (v3 : Option Value) (v4 : Option Value) (st : List Value) (σ : ma_H), ma_rn ro d 69 (175, [v0, v1, v2, v3, v4, some .null], st, SH, σ) = ma_rn ro d 69 (177, [v0, v1, v2, v3, v4, some .null], .null :: st, SH, σ)) ∧
  (∀ (v0 : Option Value) (v1 : Option Value) (v2 : Option Value) (v3 : Option Value) (v4 : Option Value) (v5 : Option Value) (a1 : Nat) (st : List Value) (σ : ma_H) (hc : hk_cls a1 = 1), ma_rn ro d 69 (177, [v0, v1, v2, v3, v4, v5], .ref a1 :: st, SH, σ) = ma_rn ro d 69 (180, [v0, v1, v2, v3, v4, v5], .int (σ a1 5) :: st, SH, σ)) ∧
  (∀ (v0 : Option Value) (v1 : Option Value) (v2 : Option Value) (v3 : Option Value) (v4 : Option Value) (v5 : Option Value) (x1 : Int32) (σ : ma_H), ma_rn ro d 69 (180, [v0, v1, v2, v3, v4, v5], [.int x1], SH, σ) = some (some (.int x1), SH, σ)) := ⟨fun v1 v2 v3 v4 v5 a1 st σ => q_go e69_0 rfl rfl,
  fun v0 v1 v2 v3 v4 v5 a1 st σ hc => q_getA e69_1 o_69 f_7_12 (by decide) hc,
  fun v0 v1 v2 v3 v4 v5 a1 st σ hc => q_getA e69_4 o_69 f_7_93 (by decide) hc,
  fun v0 v1 v3 v4 v5 x1 st σ => q_go e69_7 rfl rfl,
  fun v0 v1 v2 v3 v4 v5 st σ => q_bipush e69_8 (by decide),
  fun v0 v1 v2 v3 v4 v5 x1 x2 st σ => q_go e69_10 rfl rfl,
  fun v0 v1 v2 v3 v4 v5 x1 a0 σ hc => q_invV (as := [.int x1]) (rest := []) e69_11 o_69 bn_7_102 c_7_102 m_50 (by decide) rfl rfl (Nat.le_of_ble_eq_true rfl) (Nat.le_of_ble_eq_true rfl) hc,
  fun v0 v1 v2 v3 v4 v5 a1 st σ => q_ifnullR e69_14 rfl,
  fun v0 v1 v2 v3 v4 v5 st σ => q_ifnullN e69_14 rfl,
  fun v0 v1 v2 v3 v4 v5 st σ => q_iconst e69_17 (by decide),
  fun v0 v1 v2 v3 v4 v5 st σ => q_goto e69_18 rfl,
  fun v0 v1 v2 v3 v4 v5 st σ => q_iconst e69_21 (by decide),
  fun v0 v1 v3 v4 v5 x9 x1 st σ => q_go e69_22 rfl rfl,
  fun v1 v2 v3 v4 v5 a1 st σ => q_go e69_23 rfl rfl,
  fun v0 v1 v2 v3 v4 v5 a1 st σ hc => q_getA e69_24 o_69 f_7_12 (by decide) hc,
  fun v0 v1 v2 v3 v4 v5 a1 st σ hc => q_getA e69_27 o_69 f_7_93 (by decide) hc,
  fun v0 v1 v3 v4 v5 x1 st σ => q_go e69_30 rfl rfl,
  fun v0 v1 v2 v3 v4 v5 st σ => q_bipush e69_31 (by decide),
  fun v0 v1 v2 v3 v4 v5 x1 x2 st σ => q_go e69_33 rfl rfl,
  fun v0 v1 v2 v3 v4 v5 x1 a0 σ hc => q_invV (as := [.int x1]) (rest := []) e69_34 o_69 bn_7_102 c_7_102 m_50 (by decide) rfl rfl (Nat.le_of_ble_eq_true rfl) (Nat.le_of_ble_eq_true rfl) hc,
  fun v0 v1 v2 v3 v4 v5 a1 st σ => q_ifnullR e69_37 rfl,
  fun v0 v1 v2 v3 v4 v5 st σ => q_ifnullN e69_37 rfl,
  fun v0 v1 v2 v3 v4 v5 st σ => q_iconst e69_40 (by decide),
  fun v0 v1 v2 v3 v4 v5 st σ => q_goto e69_41 rfl,
  fun v0 v1 v2 v3 v4 v5 st σ => q_iconst e69_44 (by decide),
  fun v0 v1 v2 v4 v5 x9 x1 st σ => q_go e69_45 rfl rfl,
  fun v0 v1 v3 v4 v5 x1 st σ => q_go e69_47 rfl rfl,
  fun v0 v1 v2 v3 v4 v5 st σ => q_iconst e69_48 (by decide),
  fun v0 v1 v2 v3 v4 v5 x1 x2 σ => q_invS (as := [.int x1, .int x2]) (rest := []) e69_49 o_69 bn_7_67 c_7_67 ⟨m_88.1, m_88.2.1, m_88.2.2.1⟩ rfl rfl (Nat.le_of_ble_eq_true rfl) (Nat.le_of_ble_eq_true rfl),
  fun v0 v1 v2 v3 v4 v5 x1 st σ => (q_if e69_52 rfl).trans q_eq,
  fun v0 v1 v2 v4 v5 x1 st σ => q_go e69_55 rfl rfl,
  fun v0 v1 v2 v3 v4 v5 x1 st σ => (q_if e69_56 rfl).trans q_ne,
  fun v0 v1 v2 v3 v5 x1 st σ => q_go e69_59 rfl rfl,
  fun v0 v1 v2 v3 v4 v5 x1 st σ => (q_if e69_61 rfl).trans q_ne,
  fun v0 v1 v2 v3 v4 v5 st σ => q_iconst e69_64 (by decide),
  fun v0 v1 v2 v3 v4 v5 x1 σ => q_iret e69_65 r_69,
  fun v0 v2 v3 v4 v5 x1 st σ => q_go e69_66 rfl rfl,
  fun v0 v1 v2 v3 v4 v5 st σ => q_bipush e69_67 (by decide),
  fun v0 v1 v2 v3 v4 v5 x1 x2 σ => q_invS (as := [.int x1, .int x2]) (rest := []) e69_69 o_69 bn_7_67 c_7_67 ⟨m_88.1, m_88.2.1, m_88.2.2.1⟩ rfl rfl (Nat.le_of_ble_eq_true rfl) (Nat.le_of_ble_eq_true rfl),
  fun v0 v1 v2 v3 v4 v5 x1 st σ => (q_if e69_72 rfl).trans q_eq,
  fun v0 v1 v2 v3 v4 v5 st σ => q_bipush e69_75 (by decide),
  fun v0 v1 v2 v3 v4 v5 x1 σ => q_iret e69_77 r_69,
  fun v1 v2 v3 v4 v5 a1 st σ => q_go e69_78 rfl rfl,
  fun v0 v1 v2 v3 v4 v5 a1 st σ hc => q_getA e69_79 o_69 f_7_40 (by decide) hc,
  fun v1 v2 v3 v4 v5 a1 st σ => q_go e69_82 rfl rfl,
  fun v0 v1 v2 v3 v4 v5 a1 st σ hc => q_getA e69_83 o_69 f_7_12 (by decide) hc,
  fun v0 v1 v2 v3 v4 v5 a1 st σ hc => q_getA e69_86 o_69 f_7_93 (by decide) hc,
  fun v0 v1 v2 v3 v4 v5 a1 a0 σ hc => q_invV (as := [.ref a1]) (rest := []) e69_89 o_69 bn_7_176 c_7_176 m_52 (by decide) rfl rfl (Nat.le_of_ble_eq_true rfl) (Nat.le_of_ble_eq_true rfl) hc,
  fun v1 v2 v3 v4 v5 a1 st σ => q_go e69_92 rfl rfl,
  fun v0 v1 v2 v3 v4 v5 a1 st σ hc => q_getA e69_93 o_69 f_7_40 (by decide) hc,
  fun v0 v2 v3 v4 v5 x1 st σ => q_go e69_96 rfl rfl,
  fun v1 v2 v3 v4 v5 a1 st σ => q_go e69_97 rfl rfl,
  fun v0 v1 v2 v3 v4 v5 a1 st σ hc => q_getA e69_98 o_69 f_7_12 (by decide) hc,
  fun v0 v1 v2 v3 v4 v5 a1 st σ hc => q_getA e69_101 o_69 f_7_86 (by decide) hc,
  fun v0 v1 v2 v3 v4 v5 x1 a2 a0 σ hc => q_invV (as := [.int x1, .ref a2]) (rest := []) e69_104 o_69 bn_7_166 c_7_166 m_53 (by decide) rfl rfl (Nat.le_of_ble_eq_true rfl) (Nat.le_of_ble_eq_true rfl) hc,
  fun v0 v1 v3 v4 v5 x1 st σ => q_go e69_107 rfl rfl,
  fun v0 v1 v2 v3 v4 v5 x1 st σ => (q_if e69_108 rfl).trans q_ne,
  fun v1 v2 v3 v4 v5 a1 st σ => q_go e69_111 rfl rfl,
  fun v0 v1 v2 v3 v4 v5 a1 st σ hc => q_getA e69_112 o_69 f_7_40 (by decide) hc,
  fun v0 v1 v2 v3 v4 v5 a0 σ hc => q_invV (as := []) (rest := []) e69_115 o_69 bn_7_163 c_7_163 m_55 (by decide) rfl rfl (Nat.le_of_ble_eq_true rfl) (Nat.le_of_ble_eq_true rfl) hc,
  fun v0 v1 v2 v3 v4 v5 x1 σ => q_iret e69_118 r_69,
  fun v0 v1 v3 v4 v5 x1 st σ => q_go e69_119 rfl rfl,
  fun v0 v1 v2 v3 v4 v5 st σ => q_iconst e69_120 (by decide),
  fun v0 v1 v2 v3 v4 v5 x1 x2 st σ => (q_cmp e69_121 rfl).trans q_ne,
  fun v1 v2 v3 v4 v5 a1 st σ => q_go e69_124 rfl rfl,
  fun v0 v1 v2 v3 v4 v5 a1 st σ hc => q_getA e69_125 o_69 f_7_40 (by decide) hc,
  fun v0 v1 v2 v3 v4 v5 a1 st σ hc => q_getI e69_128 o_69 f_7_160 (by decide) hc,
  fun v0 v1 v2 v3 v4 v5 x1 σ => q_iret e69_131 r_69,
  fun v1 v2 v3 v4 v5 a1 st σ => q_go e69_132 rfl rfl,
  fun v0 v1 v2 v3 v4 v5 a1 st σ hc => q_getA e69_133 o_69 f_7_40 (by decide) hc,
  fun v0 v1 v2 v4 v5 x1 st σ => q_go e69_136 rfl rfl,
  fun v0 v1 v2 v3 v4 v5 x1 st σ => (q_if e69_137 rfl).trans q_eq,
  fun v0 v1 v3 v4 v5 x1 st σ => q_go e69_140 rfl rfl,
  fun v0 v1 v2 v3 v4 v5 st σ => q_bipush e69_141 (by decide),
  fun v0 v1 v2 v3 v4 v5 x1 x2 st σ => q_go e69_143 rfl rfl,
  fun v0 v1 v2 v3 v4 v5 st σ => q_goto e69_144 rfl,
  fun v0 v1 v3 v4 v5 x1 st σ => q_go e69_147 rfl rfl,
  fun v0 v1 v2 v3 v4 v5 st σ => q_bipush e69_148 (by decide),
  fun v0 v1 v2 v3 v4 v5 x1 x2 st σ => q_go e69_150 rfl rfl,
  fun v0 v1 v2 v3 v4 v5 x1 a0 σ hc => q_invV (as := [.int x1]) (rest := []) e69_151 o_69 bn_7_102 c_7_102 m_50 (by decide) rfl rfl (Nat.le_of_ble_eq_true rfl) (Nat.le_of_ble_eq_true rfl) hc,
  fun v0 v1 v2 v3 v5 x9 a1 st σ => q_go e69_154 rfl rfl,
  fun v0 v1 v2 v3 v5 x9 st σ => q_go e69_154 rfl rfl,
  fun v0 v1 v2 v3 v4 a1 st σ => q_go e69_156 rfl rfl,
  fun v0 v1 v2 v3 v4 st σ => q_go e69_156 rfl rfl,
  fun v0 v1 v2 v3 v4 v5 a1 st σ => q_ifnonnullR e69_158 rfl,
  fun v0 v1 v2 v3 v4 v5 st σ => q_ifnonnullN e69_158 rfl,
  fun v0 v1 v2 v3 v4 v5 st σ => q_iconst e69_161 (by decide),
  fun v0 v1 v2 v3 v4 v5 x1 σ => q_iret e69_162 r_69,
  fun v0 v1 v2 v4 v5 x1 st σ => q_go e69_163 rfl rfl,
  fun v0 v1 v2 v3 v4 v5 x1 st σ => (q_if e69_164 rfl).trans q_eq,
  fun v0 v1 v2 v3 v4 a1 st σ => q_go e69_167 rfl rfl,
  fun v0 v1 v2 v3 v4 st σ => q_go e69_167 rfl rfl,
  fun v0 v1 v2 v3 v4 v5 a1 st σ hc => q_getI e69_169 o_69 f_7_117 (by decide) hc,
  fun v0 v1 v2 v3 v4 v5 st σ => q_goto e69_172 rfl,
  fun v0 v1 v2 v3 v4 a1 st σ => q_go e69_175 rfl rfl,
  fun v0 v1 v2 v3 v4 st σ => q_go e69_175 rfl rfl,
  fun v0 v1 v2 v3 v4 v5 a1 st σ hc => q_getI e69_177 o_69 f_7_120 (by decide) hc,
  fun v0 v1 v2 v3 v4 v5 x1 σ => q_iret e69_180 r_69⟩
theorem E69 {ro : ma_RO} {d : Nat} (a0 : Nat) (x1 : Int32) (x2 : Int32) (sh : List ma_Sh) (σ : ma_H) : ma_ev ro d 69 [.ref a0, .int x1, .int x2] sh σ = ma_rn ro d 69 (0, [some (.ref a0), some (.int x1), some (.int x2), none, none, none], [], sh, σ) := q_ent x_69 rfl
theorem e70_0 : decode (ma_cd 70) 0 = .ok (.iload_n 2, 1) := (congrArg (fun b => decode b 0) cd_70).trans dX7_best_0
theorem e70_1 : decode (ma_cd 70) 1 = .ok (.iconst 1, 1) := (congrArg (fun b => decode b 1) cd_70).trans dX7_best_1
theorem e70_2 : decode (ma_cd 70) 2 = .ok (.invokestatic 67, 3) := (congrArg (fun b => decode b 2) cd_70).trans dX7_best_2
theorem e70_5 : decode (ma_cd 70) 5 = .ok (.ifCond .eq 5, 3) := (congrArg (fun b => decode b 5) cd_70).trans dX7_best_5
theorem e70_8 : decode (ma_cd 70) 8 = .ok (.iconst (-1), 1) := (congrArg (fun b => decode b 8) cd_70).trans dX7_best_8
theorem e70_9 : decode (ma_cd 70) 9 = .ok (.ireturn, 1) := (congrArg (fun b => decode b 9) cd_70).trans dX7_best_9
theorem e70_10 : decode (ma_cd 70) 10 = .ok (.iload_n 1, 1) := (congrArg (fun b => decode b 10) cd_70).trans dX7_best_10
theorem e70_11 : decode (ma_cd 70) 11 = .ok (.bipush 30, 2) := (congrArg (fun b => decode b 11) cd_70).trans dX7_best_11
theorem e70_13 : decode (ma_cd 70) 13 = .ok (.invokestatic 67, 3) := (congrArg (fun b => decode b 13) cd_70).trans dX7_best_13
theorem e70_16 : decode (ma_cd 70) 16 = .ok (.ifCond .eq 6, 3) := (congrArg (fun b => decode b 16) cd_70).trans dX7_best_16
theorem e70_19 : decode (ma_cd 70) 19 = .ok (.bipush (-2), 2) := (congrArg (fun b => decode b 19) cd_70).trans dX7_best_19
theorem e70_21 : decode (ma_cd 70) 21 = .ok (.ireturn, 1) := (congrArg (fun b => decode b 21) cd_70).trans dX7_best_21
theorem e70_22 : decode (ma_cd 70) 22 = .ok (.iconst 0, 1) := (congrArg (fun b => decode b 22) cd_70).trans dX7_best_22
theorem e70_23 : decode (ma_cd 70) 23 = .ok (.istore_n 3, 1) := (congrArg (fun b => decode b 23) cd_70).trans dX7_best_23
theorem e70_24 : decode (ma_cd 70) 24 = .ok (.iconst 0, 1) := (congrArg (fun b => decode b 24) cd_70).trans dX7_best_24
theorem e70_25 : decode (ma_cd 70) 25 = .ok (.istore 4, 2) := (congrArg (fun b => decode b 25) cd_70).trans dX7_best_25
theorem e70_27 : decode (ma_cd 70) 27 = .ok (.iconst 0, 1) := (congrArg (fun b => decode b 27) cd_70).trans dX7_best_27
theorem e70_28 : decode (ma_cd 70) 28 = .ok (.istore 5, 2) := (congrArg (fun b => decode b 28) cd_70).trans dX7_best_28
theorem e70_30 : decode (ma_cd 70) 30 = .ok (.iload 5, 2) := (congrArg (fun b => decode b 30) cd_70).trans dX7_best_30
theorem e70_32 : decode (ma_cd 70) 32 = .ok (.iconst 1, 1) := (congrArg (fun b => decode b 32) cd_70).trans dX7_best_32
theorem e70_33 : decode (ma_cd 70) 33 = .ok (.aload_n 0, 1) := (congrArg (fun b => decode b 33) cd_70).trans dX7_best_33
theorem e70_34 : decode (ma_cd 70) 34 = .ok (.getfield 12, 3) := (congrArg (fun b => decode b 34) cd_70).trans dX7_best_34
theorem e70_37 : decode (ma_cd 70) 37 = .ok (.getfield 93, 3) := (congrArg (fun b => decode b 37) cd_70).trans dX7_best_37
theorem e70_40 : decode (ma_cd 70) 40 = .ok (.getfield 99, 3) := (congrArg (fun b => decode b 40) cd_70).trans dX7_best_40
theorem e70_43 : decode (ma_cd 70) 43 = .ok (.ishl, 1) := (congrArg (fun b => decode b 43) cd_70).trans dX7_best_43
theorem e70_44 : decode (ma_cd 70) 44 = .ok (.if_icmp .ge 40, 3) := (congrArg (fun b => decode b 44) cd_70).trans dX7_best_44
theorem e70_47 : decode (ma_cd 70) 47 = .ok (.aload_n 0, 1) := (congrArg (fun b => decode b 47) cd_70).trans dX7_best_47
theorem e70_48 : decode (ma_cd 70) 48 = .ok (.iload 5, 2) := (congrArg (fun b => decode b 48) cd_70).trans dX7_best_48
theorem e70_50 : decode (ma_cd 70) 50 = .ok (.invokevirtual 179, 3) := (congrArg (fun b => decode b 50) cd_70).trans dX7_best_50
theorem e70_53 : decode (ma_cd 70) 53 = .ok (.iload_n 1, 1) := (congrArg (fun b => decode b 53) cd_70).trans dX7_best_53
theorem e70_54 : decode (ma_cd 70) 54 = .ok (.if_icmp .gt 24, 3) := (congrArg (fun b => decode b 54) cd_70).trans dX7_best_54
theorem e70_57 : decode (ma_cd 70) 57 = .ok (.aload_n 0, 1) := (congrArg (fun b => decode b 57) cd_70).trans dX7_best_57
theorem e70_58 : decode (ma_cd 70) 58 = .ok (.iload 5, 2) := (congrArg (fun b => decode b 58) cd_70).trans dX7_best_58
theorem e70_60 : decode (ma_cd 70) 60 = .ok (.invokevirtual 182, 3) := (congrArg (fun b => decode b 60) cd_70).trans dX7_best_60
theorem e70_63 : decode (ma_cd 70) 63 = .ok (.iload_n 3, 1) := (congrArg (fun b => decode b 63) cd_70).trans dX7_best_63
theorem e70_64 : decode (ma_cd 70) 64 = .ok (.if_icmp .le 14, 3) := (congrArg (fun b => decode b 64) cd_70).trans dX7_best_64
theorem e70_67 : decode (ma_cd 70) 67 = .ok (.aload_n 0, 1) := (congrArg (fun b => decode b 67) cd_70).trans dX7_best_67
theorem e70_68 : decode (ma_cd 70) 68 = .ok (.iload 5, 2) := (congrArg (fun b => decode b 68) cd_70).trans dX7_best_68
theorem e70_70 : decode (ma_cd 70) 70 = .ok (.invokevirtual 182, 3) := (congrArg (fun b => decode b 70) cd_70).trans dX7_best_70
theorem e70_73 : decode (ma_cd 70) 73 = .ok (.istore_n 3, 1) := (congrArg (fun b => decode b 73) cd_70).trans dX7_best_73
theorem e70_74 : decode (ma_cd 70) 74 = .ok (.iload 5, 2) := (congrArg (fun b => decode b 74) cd_70).trans dX7_best_74
theorem e70_76 : decode (ma_cd 70) 76 = .ok (.istore 4, 2) := (congrArg (fun b => decode b 76) cd_70).trans dX7_best_76
theorem e70_78 : decode (ma_cd 70) 78 = .ok (.iinc 5 1, 3) := (congrArg (fun b => decode b 78) cd_70).trans dX7_best_78
theorem e70_81 : decode (ma_cd 70) 81 = .ok (.goto (-51), 3) := (congrArg (fun b => decode b 81) cd_70).trans dX7_best_81
theorem e70_84 : decode (ma_cd 70) 84 = .ok (.iload_n 2, 1) := (congrArg (fun b => decode b 84) cd_70).trans dX7_best_84
theorem e70_85 : decode (ma_cd 70) 85 = .ok (.ifCond .ne 8, 3) := (congrArg (fun b => decode b 85) cd_70).trans dX7_best_85
theorem e70_88 : decode (ma_cd 70) 88 = .ok (.iload 4, 2) := (congrArg (fun b => decode b 88) cd_70).trans dX7_best_88
theorem e70_90 : decode (ma_cd 70) 90 = .ok (.goto 4, 3) := (congrArg (fun b => decode b 90) cd_70).trans dX7_best_90
theorem e70_93 : decode (ma_cd 70) 93 = .ok (.iload_n 3, 1) := (congrArg (fun b => decode b 93) cd_70).trans dX7_best_93
theorem e70_94 : decode (ma_cd 70) 94 = .ok (.ireturn, 1) := (congrArg (fun b => decode b 94) cd_70).trans dX7_best_94
theorem Sh70_30 {ro : ma_RO} {d : Nat} : (∀ (v0 : Option Value) (v1 : Option Value) (v2 : Option Value) (v3 : Option Value) (v4 : Option Value) (x1 : Int32) (st : List Value) (σ : ma_H), ma_rn ro d 70 (30, [v0, v1, v2, v3, v4, some (.int x1)], st, SH, σ) = ma_rn ro d 70 (32, [v0, v1, v2, v3, v4, some (.int x1)], .int x1 :: st, SH, σ)) := fun v0 v1 v2 v3 v4 x1 st σ => q_go e70_30 rfl rfl
theorem S70 {ro : ma_RO} {d : Nat} : (∀ (v0 : Option Value) (v1 : Option Value) (v3 : Option Value) (v4 : Option Value) (v5 : Option Value) (x1 : Int32) (st : List Value) (σ : ma_H), ma_rn ro d 70 (0, [v0, v1, some (.int x1), v3, v4, v5], st, SH, σ) = ma_rn ro d 70 (1, [v0, v1, some (.int x1), v3, v4, v5], .int x1 :: st, SH, σ)) ∧
  (∀ (v0 : Option Value) (v1 : Option Value) (v2 : Option Value) (v3 : Option Value) (v4 : Option Value) (v5 : Option Value) (st : List Value) (σ : ma_H), ma_rn ro d 70 (1, [v0, v1, v2, v3, v4, v5], st, SH, σ) = ma_rn ro d 70 (2, [v0, v1, v2, v3, v4, v5], .int (nI 1) :: st, SH, σ)) ∧
  (∀ (v0 : Option Value) (v1 : Option Value) (v2 : Option Value) (v3 : Option Value) (v4 : Option Value) (v5 : Option Value) (x1 : Int32) (x2 : Int32) (σ : ma_H), ma_rn ro (d + 1) 70 (2, [v0, v1, v2, v3, v4, v5], .int x2 :: .int x1 :: [], SH, σ) = (ma_ev ro d 88 [.int x1, .int x2] SH σ).bind (fun q => ma_rn ro (d + 1) 70 (5, [v0, v1, v2, v3, v4, v5], (q.1.toList ++ []), q.2.1, q.2.2))) ∧
  (∀ (v0 : Option Value) (v1 : Option Value) (v2 : Option Value) (v3 : Option Value) (v4 : Option Value) (v5 : Option Value) (x1 : Int32) (st : List Value) (σ : ma_H), ma_rn ro d 70 (5, [v0, v1, v2, v3, v4, v5], .int x1 :: st, SH, σ) = if x1 = nI 0 then ma_rn ro d 70 (10, [v0, v1, v2, v3, v4, v5], st, SH, σ) else ma_rn ro d 70 (8, [v0, v1, v2, v3, v4, v5], st, SH, σ)) ∧
  (∀ (v0 : Option Value) (v1 : Option Value) (v2 : Option Value) (v3 : Option Value) (v4 : Option Value) (v5 : Option Value) (st : List Value) (σ : ma_H), ma_rn ro d 70 (8, [v0, v1, v2, v3, v4, v5], st, SH, σ) = ma_rn ro d 70 (9, [v0, v1, v2, v3, v4, v5], .int ((-1)) :: st, SH, σ)) ∧
  (∀ (v0 : Option Value) (v1 : Option Value) (v2 : Option Value) (v3 : Option Value) (v4 : Option Value) (v5 : Option Value) (x1 : Int32) (σ : ma_H), ma_rn ro d 70 (9, [v0, v1, v2, v3, v4, v5], [.int x1], SH, σ) = some (some (.int x1), SH, σ)) ∧
  (∀ (v0 : Option Value) (v2 : Option Value) (v3 : Option Value) (v4 : Option Value) (v5 : Option Value) (x1 : Int32) (st : List Value) (σ : ma_H), ma_rn ro d 70 (10, [v0, some (.int x1), v2, v3, v4, v5], st, SH, σ) = ma_rn ro d 70 (11, [v0, some (.int x1), v2, v3, v4, v5], .int x1 :: st, SH, σ)) ∧
  (∀ (v0 : Option Value) (v1 : Option Value) (v2 : Option Value) (v3 : Option Value) (v4 : Option Value) (v5 : Option Value) (st : List Value) (σ : ma_H), ma_rn ro d 70 (11, [v0, v1, v2, v3, v4, v5], st, SH, σ) = ma_rn ro d 70 (13, [v0, v1, v2, v3, v4, v5], .int (nI 30) :: st, SH, σ)) ∧
  (∀ (v0 : Option Value) (v1 : Option Value) (v2 : Option Value) (v3 : Option Value) (v4 : Option Value) (v5 : Option Value) (x1 : Int32) (x2 : Int32) (σ : ma_H), ma_rn ro (d + 1) 70 (13, [v0, v1, v2, v3, v4, v5], .int x2 :: .int x1 :: [], SH, σ) = (ma_ev ro d 88 [.int x1, .int x2] SH σ).bind (fun q => ma_rn ro (d + 1) 70 (16, [v0, v1, v2, v3, v4, v5], (q.1.toList ++ []), q.2.1, q.2.2))) ∧
  (∀ (v0 : Option Value) (v1 : Option Value) (v2 : Option Value) (v3 : Option Value) (v4 : Option Value) (v5 : Option Value) (x1 : Int32) (st : List Value) (σ : ma_H), ma_rn ro d 70 (16, [v0, v1, v2, v3, v4, v5], .int x1 :: st, SH, σ) = if x1 = nI 0 then ma_rn ro d 70 (22, [v0, v1, v2, v3, v4, v5], st, SH, σ) else ma_rn ro d 70 (19, [v0, v1, v2, v3, v4, v5], st, SH, σ)) ∧
  (∀ (v0 : Option Value) (v1 : Option Value) (v2 : Option Value) (v3 : Option Value) (v4 : Option Value) (v5 : Option Value) (st : List Value) (σ : ma_H), ma_rn ro d 70 (19, [v0, v1, v2, v3, v4, v5], st, SH, σ) = ma_rn ro d 70 (21, [v0, v1, v2, v3, v4, v5], .int ((-2)) :: st, SH, σ)) ∧
  (∀ (v0 : Option Value) (v1 : Option Value) (v2 : Option Value) (v3 : Option Value) (v4 : Option Value) (v5 : Option Value) (x1 : Int32) (σ : ma_H), ma_rn ro d 70 (21, [v0, v1, v2, v3, v4, v5], [.int x1], SH, σ) = some (some (.int x1), SH, σ)) ∧
  (∀ (v0 : Option Value) (v1 : Option Value) (v2 : Option Value) (v3 : Option Value) (v4 : Option Value) (v5 : Option Value) (st : List Value) (σ : ma_H), ma_rn ro d 70 (22, [v0, v1, v2, v3, v4, v5], st, SH, σ) = ma_rn ro d 70 (23, [v0, v1, v2, v3, v4, v5], .int (nI 0) :: st, SH, σ)) ∧
  (∀ (v0 : Option Value) (v1 : Option Value) (v3 : Option Value) (v4 : Option Value) (v5 : Option Value) (x9 : Int32) (x1 : Int32) (st : List Value) (σ : ma_H), ma_rn ro d 70 (23, [v0, v1, some (.int x9), v3, v4, v5], .int x1 :: st, SH, σ) = ma_rn ro d 70 (24, [v0, v1, some (.int x9), some (.int x1), v4, v5], st, SH, σ)) ∧
  (∀ (v0 : Option Value) (v1 : Option Value) (v2 : Option Value) (v3 : Option Value) (v4 : Option Value) (v5 : Option Value) (st : List Value) (σ : ma_H), ma_rn ro d 70 (24, [v0, v1, v2, v3, v4, v5], st, SH, σ) = ma_rn ro d 70 (25, [v0, v1, v2, v3, v4, v5], .int (nI 0) :: st, SH, σ)) ∧
  (∀ (v0 : Option Value) (v1 : Option Value) (v2 : Option Value) (v4 : Option Value) (v5 : Option Value) (x9 : Int32) (x1 : Int32) (st : List Value) (σ : ma_H), ma_rn ro d 70 (25, [v0, v1, v2, some (.int x9), v4, v5], .int x1 :: st, SH, σ) = ma_rn ro d 70 (27, [v0, v1, v2, some (.int x9), some (.int x1), v5], st, SH, σ)) ∧
  (∀ (v0 : Option Value) (v1 : Option Value) (v2 : Option Value) (v3 : Option Value) (v4 : Option Value) (v5 : Option Value) (st : List Value) (σ : ma_H), ma_rn ro d 70 (27, [v0, v1, v2, v3, v4, v5], st, SH, σ) = ma_rn ro d 70 (28, [v0, v1, v2, v3, v4, v5], .int (nI 0) :: st, SH, σ)) ∧
  (∀ (v0 : Option Value) (v1 : Option Value) (v2 : Option Value) (v3 : Option Value) (v5 : Option Value) (x9 : Int32) (x1 : Int32) (st : List Value) (σ : ma_H), ma_rn ro d 70 (28, [v0, v1, v2, v3, some (.int x9), v5], .int x1 :: st, SH, σ) = ma_rn ro d 70 (30, [v0, v1, v2, v3, some (.int x9), some (.int x1)], st, SH, σ)) ∧
  (∀ (v0 : Option Value) (v1 : Option Value) (v2 : Option Value) (v3 : Option Value) (v4 : Option Value) (v5 : Option Value) (st : List Value) (σ : ma_H), ma_rn ro d 70 (32, [v0, v1, v2, v3, v4, v5], st, SH, σ) = ma_rn ro d 70 (33, [v0, v1, v2, v3, v4, v5], .int (nI 1) :: st, SH, σ)) ∧
  (∀ (v1 : Option Value) (v2 : Option Value) (v3 : Option Value) (v4 : Option Value) (v5 : Option Value) (a1 : Nat) (st : List Value) (σ : ma_H), ma_rn ro d 70 (33, [some (.ref a1), v1, v2, v3, v4, v5], st, SH, σ) = ma_rn ro d 70 (34, [some (.ref a1), v1, v2, v3, v4, v5], .ref a1 :: st, SH, σ)) ∧
  (∀ (v0 : Option Value) (v1 : Option Value) (v2 : Option Value) (v3 : Option Value) (v4 : Option Value) (v5 : Option Value) (a1 : Nat) (st : List Value) (σ : ma_H) (hc : hk_cls a1 = 7), ma_rn ro d 70 (34, [v0, v1, v2, v3, v4, v5], .ref a1 :: st, SH, σ) = ma_rn ro d 70 (37, [v0, v1, v2, v3, v4, v5], .ref (1) :: st, SH, σ)) ∧
  (∀ (v0 : Option Value) (v1 : Option Value) (v2 : Option Value) (v3 : Option Value) (v4 : Option Value) (v5 : Option Value) (a1 : Nat) (st : List Value) (σ : ma_H) (hc : hk_cls a1 = 5), ma_rn ro d 70 (37, [v0, v1, v2, v3, v4, v5], .ref a1 :: st, SH, σ) = ma_rn ro d 70 (40, [v0, v1, v2, v3, v4, v5], .ref (a1 + 1) :: st, SH, σ)) ∧
  (∀ (v0 : Option Value) (v1 : Option Value) (v2 : Option Value) (v3 : Option Value) (v4 : Option Value) (v5 : Option Value) (a1 : Nat) (st : List Value) (σ : ma_H) (hc : hk_cls a1 = 6), ma_rn ro d 70 (40, [v0, v1, v2, v3, v4, v5], .ref a1 :: st, SH, σ) = ma_rn ro d 70 (43, [v0, v1, v2, v3, v4, v5], .int (σ a1 1) :: st, SH, σ)) ∧
  (∀ (v0 : Option Value) (v1 : Option Value) (v2 : Option Value) (v3 : Option Value) (v4 : Option Value) (v5 : Option Value) (x1 : Int32) (x2 : Int32) (st : List Value) (σ : ma_H), ma_rn ro d 70 (43, [v0, v1, v2, v3, v4, v5], .int x1 :: .int x2 :: st, SH, σ) = ma_rn ro d 70 (44, [v0, v1, v2, v3, v4, v5], .int (x2 <<< (x1 &&& 31)) :: st, SH, σ)) ∧
  (∀ (v0 : Option Value) (v1 : Option Value) (v2 : Option Value) (v3 : Option Value) (v4 : Option Value) (v5 : Option Value) (x1 : Int32) (x2 : Int32) (st : List Value) (σ : ma_H), ma_rn ro d 70 (44, [v0, v1, v2, v3, v4, v5], .int x1 :: .int x2 :: st, SH, σ) = if x2 < x1 then ma_rn ro d 70 (47, [v0, v1, v2, v3, v4, v5], st, SH, σ) else ma_rn ro d 70 (84, [v0, v1, v2, v3, v4, v5], st, SH, σ)) ∧
  (∀ (v1 : Option Value) (v2 : Option Value) (v3 : Option Value) (v4 : Option Value) (v5 : Option Value) (a1 : Nat) (st : List Value) (σ : ma_H), ma_rn ro d 70 (47, [some (.ref a1), v1, v2, v3, v4, v5], st, SH, σ) = ma_rn ro d 70 (48, [some (.ref a1), v1, v2, v3, v4, v5], .ref a1 :: st, SH, σ)) ∧
  (∀ (v0 : Option Value) (v1 : Option Value) (v2 : Option Value) (v3 : Option Value) (v4 : Option Value) (x1 : Int32) (st : List Value) (σ : ma_H), ma_rn ro d 70 (48, [v0, v1, v2, v3, v4, some (.int x1)], st, SH, σ) = ma_rn ro d 70 (50, [v0, v1, v2, v3, v4, some (.int x1)], .int x1 :: st, SH, σ)) ∧
  (∀ (v0 : Option Value) (v1 : Option Value) (v2 : Option Value) (v3 : Option Value) (v4 : Option Value) (v5 : Option Value) (x1 : Int32) (a0 : Nat) (σ : ma_H) (hc : hk_cls a0 = 7), ma_rn ro (d + 1) 70 (50, [v0, v1, v2, v3, v4, v5], .int x1 :: .ref a0 :: [], SH, σ) = (ma_ev ro d 95 [.ref a0, .int x1] SH σ).bind (fun q => ma_rn ro (d + 1) 70 (53, [v0, v1, v2, v3, v4, v5], (q.1.toList ++ []), q.2.1, q.2.2))) ∧
  (∀ (v0 : Option Value) (v2 : Option Value) (v3 : Option Value) (v4 : Option Value) (v5 : Option Value) (x1 : Int32) (st : List Value) (σ : ma_H), ma_rn ro d 70 (53, [v0, some (.int x1), v2, v3, v4, v5], st, SH, σ) = ma_rn ro d 70 (54, [v0, some (.int x1), v2, v3, v4, v5], .int x1 :: st, SH, σ)) ∧
  (∀ (v0 : Option Value) (v1 : Option Value) (v2 : Option Value) (v3 : Option Value) (v4 : Option Value) (v5 : Option Value) (x1 : Int32) (x2 : Int32) (st : List Value) (σ : ma_H), ma_rn ro d 70 (54, [v0, v1, v2, v3, v4, v5], .int x1 :: .int x2 :: st, SH, σ) = if x1 < x2 then ma_rn ro d 70 (78, [v0, v1, v2, v3, v4, v5], st, SH, σ) else ma_rn ro d 70 (57, [v0, v1, v2, v3, v4, v5], st, SH, σ)) ∧
  (∀ (v1 : Option Value) (v2 : Option Value) (v3 : Option Value) (v4 : Option Value) (v5 : Option Value) (a1 : Nat) (st : List Value) (σ : ma_H), ma_rn ro d 70 (57, [some (.ref a1), v1, v2, v3, v4, v5], st, SH, σ) = ma_rn ro d 70 (58, [some (.ref a1), v1, v2, v3, v4, v5], .ref a1 :: st, SH, σ)) ∧
  (∀ (v0 : Option Value) (v1 : Option Value) (v2 : Option Value) (v3 : Option Value) (v4 : Option Value) (x1 : Int32) (st : List Value) (σ : ma_H), ma_rn ro d 70 (58, [v0, v1, v2, v3, v4, some (.int x1)], st, SH, σ) = ma_rn ro d 70 (60, [v0, v1, v2, v3, v4, some (.int x1)], .int x1 :: st, SH, σ)) ∧
  (∀ (v0 : Option Value) (v1 : Option Value) (v2 : Option Value) (v3 : Option Value) (v4 : Option Value) (v5 : Option Value) (x1 : Int32) (a0 : Nat) (σ : ma_H) (hc : hk_cls a0 = 7), ma_rn ro (d + 1) 70 (60, [v0, v1, v2, v3, v4, v5], .int x1 :: .ref a0 :: [], SH, σ) = (ma_ev ro d 96 [.ref a0, .int x1] SH σ).bind (fun q => ma_rn ro (d + 1) 70 (63, [v0, v1, v2, v3, v4, v5], (q.1.toList ++ []), q.2.1, q.2.2))) ∧
  (∀ (v0 : Option Value) (v1 : Option Value) (v2 : Option Value) (v4 : Option Value) (v5 : Option Value) (x1 : Int32) (st : List Value) (σ : ma_H), ma_rn ro d 70 (63, [v0, v1, v2, some (.int x1), v4, v5], st, SH, σ) = ma_rn ro d 70 (64, [v0, v1, v2, some (.int x1), v4, v5], .int x1 :: st, SH, σ)) ∧
  (∀ (v0 : Option Value) (v1 : Option Value) (v2 : Option Value) (v3 : Option Value) (v4 : Option Value) (v5 : Option Value) (x1 : Int32) (x2 : Int32) (st : List Value) (σ : ma_H), ma_rn ro d 70 (64, [v0, v1, v2, v3, v4, v5], .int x1 :: .int x2 :: st, SH, σ) = if x1 < x2 then ma_rn ro d 70 (67, [v0, v1, v2, v3, v4, v5], st, SH, σ) else ma_rn ro d 70 (78, [v0, v1, v2, v3, v4, v5], st, SH, σ)) ∧
  (∀ (v1 : Option Value) (v2 : Option Value) (v3 : Option Value) (v4 : Option Value) (v5 : Option Value) (a1 : Nat) (st : List Value) (σ : ma_H), ma_rn ro d 70 (67, [some (.ref a1), v1, v2, v3, v4, v5], st, SH, σ) = ma_rn ro d 70 (68, [some (.ref a1), v1, v2, v3, v4, v5], .ref a1 :: st, SH, σ)) ∧
  (∀ (v0 : Option Value) (v1 : Option Value) (v2 : Option Value) (v3 : Option Value) (v4 : Option Value) (x1 : Int32) (st : List Value) (σ : ma_H), ma_rn ro d 70 (68, [v0, v1, v2, v3, v4, some (.int x1)], st, SH, σ) = ma_rn ro d 70 (70, [v0, v1, v2, v3, v4, some (.int x1)], .int x1 :: st, SH, σ)) ∧
  (∀ (v0 : Option Value) (v1 : Option Value) (v2 : Option Value) (v3 : Option Value) (v4 : Option Value) (v5 : Option Value) (x1 : Int32) (a0 : Nat) (σ : ma_H) (hc : hk_cls a0 = 7), ma_rn ro (d + 1) 70 (70, [v0, v1, v2, v3, v4, v5], .int x1 :: .ref a0 :: [], SH, σ) = (ma_ev ro d 96 [.ref a0, .int x1] SH σ).bind (fun q => ma_rn ro (d + 1) 70 (73, [v0, v1, v2, v3, v4, v5], (q.1.toList ++ []), q.2.1, q.2.2))) ∧
  (∀ (v0 : Option Value) (v1 : Option Value) (v3 : Option Value) (v4 : Option Value) (v5 : Option Value) (x9 : Int32) (x1 : Int32) (st : List Value) (σ : ma_H), ma_rn ro d 70 (73, [v0, v1, some (.int x9), v3, v4, v5], .int x1 :: st, SH, σ) = ma_rn ro d 70 (74, [v0, v1, some (.int x9), some (.int x1), v4, v5], st, SH, σ)) ∧
  (∀ (v0 : Option Value) (v1 : Option Value) (v2 : Option Value) (v3 : Option Value) (v4 : Option Value) (x1 : Int32) (st : List Value) (σ : ma_H), ma_rn ro d 70 (74, [v0, v1, v2, v3, v4, some (.int x1)], st, SH, σ) = ma_rn ro d 70 (76, [v0, v1, v2, v3, v4, some (.int x1)], .int x1 :: st, SH, σ)) ∧
  (∀ (v0 : Option Value) (v1 : Option Value) (v2 : Option Value) (v4 : Option Value) (v5 : Option Value) (x9 : Int32) (x1 : Int32) (st : List Value) (σ : ma_H), ma_rn ro d 70 (76, [v0, v1, v2, some (.int x9), v4, v5], .int x1 :: st, SH, σ) = ma_rn ro d 70 (78, [v0, v1, v2, some (.int x9), some (.int x1), v5], st, SH, σ)) ∧
  (∀ (v0 : Option Value) (v1 : Option Value) (v2 : Option Value) (v3 : Option Value) (x1 : Int32) (x9 : Int32) (st : List Value) (σ : ma_H), ma_rn ro d 70 (78, [v0, v1, v2, v3, some (.int x9), some (.int x1)], st, SH, σ) = ma_rn ro d 70 (81, [v0, v1, v2, v3, some (.int x9), some (.int (x1 + nI 1))], st, SH, σ)) ∧
  (∀ (v0 : Option Value) (v1 : Option Value) (v2 : Option Value) (v3 : Option Value) (v4 : Option Value) (v5 : Option Value) (st : List Value) (σ : ma_H), ma_rn ro d 70 (81, [v0, v1, v2, v3, v4, v5], st, SH, σ) = ma_rn ro d 70 (30, [v0, v1, v2, v3, v4, v5], st, SH, σ)) ∧
  (∀ (v0 : Option Value) (v1 : Option Value) (v3 : Option Value) (v4 : Option Value) (v5 : Option Value) (x1 : Int32) (st : List Value) (σ : ma_H), ma_rn ro d 70 (84, [v0, v1, some (.int x1), v3, v4, v5], st, SH, σ) = ma_rn ro d 70 (85, [v0, v1, some (.int x1), v3, v4, v5], .int x1 :: st, SH, σ)) ∧
  (∀ (v0 : Option Value) (v1 : Option Value) (v2 : Option Value) (v3 : Option Value) (v4 : Option Value) (v5 : Option Value) (x1 : Int32) (st : List Value) (σ : ma_H), ma_rn ro d 70 (85, [v0, v1, v2, v3, v4, v5], .int x1 :: st, SH, σ) = if x1 = nI 0 then ma_rn ro d 70 (88, [v0, v1, v2, v3, v4, v5], st, SH, σ) else ma_rn ro d 70 (93, [v0, v1, v2, v3, v4, v5], st, SH, σ)) ∧
  (∀ (v0 : Option Value) (v1 : Option Value) (v2 : Option Value) (v3 : Option Value) (v5 : Option Value) (x1 : Int32) (st : List Value) (σ : ma_H), ma_rn ro d 70 (88, [v0, v1, v2, v3, some (.int x1), v5], st, SH, σ) = ma_rn ro d 70 (90, [v0, v1, v2, v3, some (.int x1), v5], .int x1 :: st, SH, σ)) ∧
  (∀ (v0 : Option Value) (v1 : Option Value) (v2 : Option Value) (v3 : Option Value) (v4 : Option Value) (v5 : Option Value) (st : List Value) (σ : ma_H), ma_rn ro d 70 (90, [v0, v1, v2, v3, v4, v5], st, SH, σ) = ma_rn ro d 70 (94, [v0, v1, v2, v3, v4, v5], st, SH, σ)) ∧
  (∀ (v0 : Option Value) (v1 : Option Value) (v2 : Option Value) (v4 : Option Value) (v5 : Option Value) (x1 : Int32) (st : List Value) (σ : ma_H), ma_rn ro d 70 (93, [v0, v1, v2, some (.int x1), v4, v5], st, SH, σ) = ma_rn ro d 70 (94, [v0, v1, v2, some (.int x1), v4, v5], .int x1 :: st, SH, σ)) ∧
  (∀ (v0 : Option Value) (v1 : Option Value) (v2 : Option Value) (v3 : Option Value) (v4 : Option Value) (v5 : Option Value) (x1 : Int32) (σ : ma_H), ma_rn ro d 70 (94, [v0, v1, v2, v3, v4, v5], [.int x1], SH, σ) = some (some (.int x1), SH, σ)) := ⟨fun v0 v1 v3 v4 v5 x1 st σ => q_go e70_0 rfl rfl,
  fun v0 v1 v2 v3 v4 v5 st σ => q_iconst e70_1 (by decide),
  fun v0 v1 v2 v3 v4 v5 x1 x2 σ => q_invS (as := [.int x1, .int x2]) (rest := []) e70_2 o_70 bn_7_67 c_7_67 ⟨m_88.1, m_88.2.1, m_88.2.2.1⟩ rfl rfl (Nat.le_of_ble_eq_true rfl) (Nat.le_of_ble_eq_true rfl),
  fun v0 v1 v2 v3 v4 v5 x1 st σ => (q_if e70_5 rfl).trans q_eq,
  fun v0 v1 v2 v3 v4 v5 st σ => q_iconst e70_8 (by decide),
  fun v0 v1 v2 v3 v4 v5 x1 σ => q_iret e70_9 r_70,
  fun v0 v2 v3 v4 v5 x1 st σ => q_go e70_10 rfl rfl,
  fun v0 v1 v2 v3 v4 v5 st σ => q_bipush e70_11 (by decide),
  fun v0 v1 v2 v3 v4 v5 x1 x2 σ => q_invS (as := [.int x1, .int x2]) (rest := []) e70_13 o_70 bn_7_67 c_7_67 ⟨m_88.1, m_88.2.1, m_88.2.2.1⟩ rfl rfl (Nat.le_of_ble_eq_true rfl) (Nat.le_of_ble_eq_true rfl),
  fun v0 v1 v2 v3 v4 v5 x1 st σ => (q_if e70_16 rfl).trans q_eq,
  fun v0 v1 v2 v3 v4 v5 st σ => q_bipush e70_19 (by decide),
  fun v0 v1 v2 v3 v4 v5 x1 σ => q_iret e70_21 r_70,
  fun v0 v1 v2 v3 v4 v5 st σ => q_iconst e70_22 (by decide),
  fun v0 v1 v3 v4 v5 x9 x1 st σ => q_go e70_23 rfl rfl,
  fun v0 v1 v2 v3 v4 v5 st σ => q_iconst e70_24 (by decide),
  fun v0 v1 v2 v4 v5 x9 x1 st σ => q_go e70_25 rfl rfl,
  fun v0 v1 v2 v3 v4 v5 st σ => q_iconst e70_27 (by decide),
  fun v0 v1 v2 v3 v5 x9 x1 st σ => q_go e70_28 rfl rfl,
  fun v0 v1 v2 v3 v4 v5 st σ => q_iconst e70_32 (by decide),
  fun v1 v2 v3 v4 v5 a1 st σ => q_go e70_33 rfl rfl,
  fun v0 v1 v2 v3 v4 v5 a1 st σ hc => q_getA e70_34 o_70 f_7_12 (by decide) hc,
  fun v0 v1 v2 v3 v4 v5 a1 st σ hc => q_getA e70_37 o_70 f_7_93 (by decide) hc,
  fun v0 v1 v2 v3 v4 v5 a1 st σ hc => q_getI e70_40 o_70 f_7_99 (by decide) hc,
  fun v0 v1 v2 v3 v4 v5 x1 x2 st σ => q_go e70_43 rfl rfl,
  fun v0 v1 v2 v3 v4 v5 x1 x2 st σ => (q_cmp e70_44 rfl).trans q_nlt,
  fun v1 v2 v3 v4 v5 a1 st σ => q_go e70_47 rfl rfl,
  fun v0 v1 v2 v3 v4 x1 st σ => q_go e70_48 rfl rfl,
  fun v0 v1 v2 v3 v4 v5 x1 a0 σ hc => q_invV (as := [.int x1]) (rest := []) e70_50 o_70 bn_7_179 c_7_179 m_95 (by decide) rfl rfl (Nat.le_of_ble_eq_true rfl) (Nat.le_of_ble_eq_true rfl) hc,
  fun v0 v2 v3 v4 v5 x1 st σ => q_go e70_53 rfl rfl,
  fun v0 v1 v2 v3 v4 v5 x1 x2 st σ => (q_cmp e70_54 rfl).trans q_gt,
  fun v1 v2 v3 v4 v5 a1 st σ => q_go e70_57 rfl rfl,
  fun v0 v1 v2 v3 v4 x1 st σ => q_go e70_58 rfl rfl,
  fun v0 v1 v2 v3 v4 v5 x1 a0 σ hc => q_invV (as := [.int x1]) (rest := []) e70_60 o_70 bn_7_182 c_7_182 m_96 (by decide) rfl rfl (Nat.le_of_ble_eq_true rfl) (Nat.le_of_ble_eq_true rfl) hc,
  fun v0 v1 v2 v4 v5 x1 st σ => q_go e70_63 rfl rfl,
  fun v0 v1 v2 v3 v4 v5 x1 x2 st σ => (q_cmp e70_64 rfl).trans q_ngt,
  fun v1 v2 v3 v4 v5 a1 st σ => q_go e70_67 rfl rfl,
  fun v0 v1 v2 v3 v4 x1 st σ => q_go e70_68 rfl rfl,
  fun v0 v1 v2 v3 v4 v5 x1 a0 σ hc => q_invV (as := [.int x1]) (rest := []) e70_70 o_70 bn_7_182 c_7_182 m_96 (by decide) rfl rfl (Nat.le_of_ble_eq_true rfl) (Nat.le_of_ble_eq_true rfl) hc,
  fun v0 v1 v3 v4 v5 x9 x1 st σ => q_go e70_73 rfl rfl,
  fun v0 v1 v2 v3 v4 x1 st σ => q_go e70_74 rfl rfl,
  fun v0 v1 v2 v4 v5 x9 x1 st σ => q_go e70_76 rfl rfl,
  fun v0 v1 v2 v3 x1 x9 st σ => q_iinc e70_78 rfl rfl (by decide),
  fun v0 v1 v2 v3 v4 v5 st σ => q_goto e70_81 rfl,
  fun v0 v1 v3 v4 v5 x1 st σ => q_go e70_84 rfl rfl,
  fun v0 v1 v2 v3 v4 v5 x1 st σ => (q_if e70_85 rfl).trans q_ne,
  fun v0 v1 v2 v3 v5 x1 st σ => q_go e70_88 rfl rfl,
  fun v0 v1 v2 v3 v4 v5 st σ => q_goto e70_90 rfl,
  fun v0 v1 v2 v4 v5 x1 st σ => q_go e70_93 rfl rfl,
  fun v0 v1 v2 v3 v4 v5 x1 σ => q_iret e70_94 r_70⟩
theorem E70 {ro : ma_RO} {d : Nat} (a0 : Nat) (x1 : Int32) (x2 : Int32) (sh : List ma_Sh) (σ : ma_H) : ma_ev ro d 70 [.ref a0, .int x1, .int x2] sh σ = ma_rn ro d 70 (0, [some (.ref a0), some (.int x1), some (.int x2), none, none, none], [], sh, σ) := q_ent x_70 rfl
theorem e71_0 : decode (ma_cd 71) 0 = .ok (.aload_n 0, 1) := (congrArg (fun b => decode b 0) cd_71).trans dX7_renew_0
theorem e71_1 : decode (ma_cd 71) 1 = .ok (.getfield 12, 3) := (congrArg (fun b => decode b 1) cd_71).trans dX7_renew_1
theorem e71_4 : decode (ma_cd 71) 4 = .ok (.getfield 93, 3) := (congrArg (fun b => decode b 4) cd_71).trans dX7_renew_4
theorem e71_7 : decode (ma_cd 71) 7 = .ok (.iload_n 1, 1) := (congrArg (fun b => decode b 7) cd_71).trans dX7_renew_7
theorem e71_8 : decode (ma_cd 71) 8 = .ok (.invokevirtual 102, 3) := (congrArg (fun b => decode b 8) cd_71).trans dX7_renew_8
theorem e71_11 : decode (ma_cd 71) 11 = .ok (.astore 4, 2) := (congrArg (fun b => decode b 11) cd_71).trans dX7_renew_11
theorem e71_13 : decode (ma_cd 71) 13 = .ok (.aload 4, 2) := (congrArg (fun b => decode b 13) cd_71).trans dX7_renew_13
theorem e71_15 : decode (ma_cd 71) 15 = .ok (.ifnonnull 5, 3) := (congrArg (fun b => decode b 15) cd_71).trans dX7_renew_15
theorem e71_18 : decode (ma_cd 71) 18 = .ok (.iconst (-1), 1) := (congrArg (fun b => decode b 18) cd_71).trans dX7_renew_18
theorem e71_19 : decode (ma_cd 71) 19 = .ok (.ireturn, 1) := (congrArg (fun b => decode b 19) cd_71).trans dX7_renew_19
theorem e71_20 : decode (ma_cd 71) 20 = .ok (.iload_n 2, 1) := (congrArg (fun b => decode b 20) cd_71).trans dX7_renew_20
theorem e71_21 : decode (ma_cd 71) 21 = .ok (.iconst 1, 1) := (congrArg (fun b => decode b 21) cd_71).trans dX7_renew_21
theorem e71_22 : decode (ma_cd 71) 22 = .ok (.if_icmp .lt 18, 3) := (congrArg (fun b => decode b 22) cd_71).trans dX7_renew_22
theorem e71_25 : decode (ma_cd 71) 25 = .ok (.iload_n 2, 1) := (congrArg (fun b => decode b 25) cd_71).trans dX7_renew_25
theorem e71_26 : decode (ma_cd 71) 26 = .ok (.bipush 8, 2) := (congrArg (fun b => decode b 26) cd_71).trans dX7_renew_26
theorem e71_28 : decode (ma_cd 71) 28 = .ok (.if_icmp .gt 12, 3) := (congrArg (fun b => decode b 28) cd_71).trans dX7_renew_28
theorem e71_31 : decode (ma_cd 71) 31 = .ok (.iload_n 3, 1) := (congrArg (fun b => decode b 31) cd_71).trans dX7_renew_31
theorem e71_32 : decode (ma_cd 71) 32 = .ok (.bipush 99, 2) := (congrArg (fun b => decode b 32) cd_71).trans dX7_renew_32
theorem e71_34 : decode (ma_cd 71) 34 = .ok (.invokestatic 67, 3) := (congrArg (fun b => decode b 34) cd_71).trans dX7_renew_34
theorem e71_37 : decode (ma_cd 71) 37 = .ok (.ifCond .eq 6, 3) := (congrArg (fun b => decode b 37) cd_71).trans dX7_renew_37
theorem e71_40 : decode (ma_cd 71) 40 = .ok (.bipush (-2), 2) := (congrArg (fun b => decode b 40) cd_71).trans dX7_renew_40
theorem e71_42 : decode (ma_cd 71) 42 = .ok (.ireturn, 1) := (congrArg (fun b => decode b 42) cd_71).trans dX7_renew_42
theorem e71_43 : decode (ma_cd 71) 43 = .ok (.iconst 0, 1) := (congrArg (fun b => decode b 43) cd_71).trans dX7_renew_43
theorem e71_44 : decode (ma_cd 71) 44 = .ok (.istore 5, 2) := (congrArg (fun b => decode b 44) cd_71).trans dX7_renew_44
theorem e71_46 : decode (ma_cd 71) 46 = .ok (.iload 5, 2) := (congrArg (fun b => decode b 46) cd_71).trans dX7_renew_46
theorem e71_48 : decode (ma_cd 71) 48 = .ok (.aload_n 0, 1) := (congrArg (fun b => decode b 48) cd_71).trans dX7_renew_48
theorem e71_49 : decode (ma_cd 71) 49 = .ok (.getfield 64, 3) := (congrArg (fun b => decode b 49) cd_71).trans dX7_renew_49
theorem e71_52 : decode (ma_cd 71) 52 = .ok (.arraylength, 1) := (congrArg (fun b => decode b 52) cd_71).trans dX7_renew_52
theorem e71_53 : decode (ma_cd 71) 53 = .ok (.if_icmp .ge 17, 3) := (congrArg (fun b => decode b 53) cd_71).trans dX7_renew_53
theorem e71_56 : decode (ma_cd 71) 56 = .ok (.aload_n 0, 1) := (congrArg (fun b => decode b 56) cd_71).trans dX7_renew_56
theorem e71_57 : decode (ma_cd 71) 57 = .ok (.getfield 64, 3) := (congrArg (fun b => decode b 57) cd_71).trans dX7_renew_57
theorem e71_60 : decode (ma_cd 71) 60 = .ok (.iload 5, 2) := (congrArg (fun b => decode b 60) cd_71).trans dX7_renew_60
theorem e71_62 : decode (ma_cd 71) 62 = .ok (.iconst 0, 1) := (congrArg (fun b => decode b 62) cd_71).trans dX7_renew_62
theorem e71_63 : decode (ma_cd 71) 63 = .ok (.iastore, 1) := (congrArg (fun b => decode b 63) cd_71).trans dX7_renew_63
theorem e71_64 : decode (ma_cd 71) 64 = .ok (.iinc 5 1, 3) := (congrArg (fun b => decode b 64) cd_71).trans dX7_renew_64
theorem e71_67 : decode (ma_cd 71) 67 = .ok (.goto (-21), 3) := (congrArg (fun b => decode b 67) cd_71).trans dX7_renew_67
theorem e71_70 : decode (ma_cd 71) 70 = .ok (.iload_n 2, 1) := (congrArg (fun b => decode b 70) cd_71).trans dX7_renew_70
theorem e71_71 : decode (ma_cd 71) 71 = .ok (.iconst 1, 1) := (congrArg (fun b => decode b 71) cd_71).trans dX7_renew_71
theorem e71_72 : decode (ma_cd 71) 72 = .ok (.isub, 1) := (congrArg (fun b => decode b 72) cd_71).trans dX7_renew_72
theorem e71_73 : decode (ma_cd 71) 73 = .ok (.istore 5, 2) := (congrArg (fun b => decode b 73) cd_71).trans dX7_renew_73
theorem e71_75 : decode (ma_cd 71) 75 = .ok (.iload 5, 2) := (congrArg (fun b => decode b 75) cd_71).trans dX7_renew_75
theorem e71_77 : decode (ma_cd 71) 77 = .ok (.ifCond .lt 18, 3) := (congrArg (fun b => decode b 77) cd_71).trans dX7_renew_77
theorem e71_80 : decode (ma_cd 71) 80 = .ok (.aload_n 0, 1) := (congrArg (fun b => decode b 80) cd_71).trans dX7_renew_80
theorem e71_81 : decode (ma_cd 71) 81 = .ok (.aload 4, 2) := (congrArg (fun b => decode b 81) cd_71).trans dX7_renew_81
theorem e71_83 : decode (ma_cd 71) 83 = .ok (.iload 5, 2) := (congrArg (fun b => decode b 83) cd_71).trans dX7_renew_83
theorem e71_85 : decode (ma_cd 71) 85 = .ok (.iload_n 3, 1) := (congrArg (fun b => decode b 85) cd_71).trans dX7_renew_85
theorem e71_86 : decode (ma_cd 71) 86 = .ok (.invokevirtual 185, 3) := (congrArg (fun b => decode b 86) cd_71).trans dX7_renew_86
theorem e71_89 : decode (ma_cd 71) 89 = .ok (.iinc 5 (-1), 3) := (congrArg (fun b => decode b 89) cd_71).trans dX7_renew_89
theorem e71_92 : decode (ma_cd 71) 92 = .ok (.goto (-17), 3) := (congrArg (fun b => decode b 92) cd_71).trans dX7_renew_92
theorem e71_95 : decode (ma_cd 71) 95 = .ok (.aload_n 0, 1) := (congrArg (fun b => decode b 95) cd_71).trans dX7_renew_95
theorem e71_96 : decode (ma_cd 71) 96 = .ok (.aload 4, 2) := (congrArg (fun b => decode b 96) cd_71).trans dX7_renew_96
theorem e71_98 : decode (ma_cd 71) 98 = .ok (.getfield 123, 3) := (congrArg (fun b => decode b 98) cd_71).trans dX7_renew_98
theorem e71_101 : decode (ma_cd 71) 101 = .ok (.invokevirtual 189, 3) := (congrArg (fun b => decode b 101) cd_71).trans dX7_renew_101
theorem e71_104 : decode (ma_cd 71) 104 = .ok (.istore 5, 2) := (congrArg (fun b => decode b 104) cd_71).trans dX7_renew_104
theorem e71_106 : decode (ma_cd 71) 106 = .ok (.iload 5, 2) := (congrArg (fun b => decode b 106) cd_71).trans dX7_renew_106
theorem e71_108 : decode (ma_cd 71) 108 = .ok (.ldc 192, 2) := (congrArg (fun b => decode b 108) cd_71).trans dX7_renew_108
theorem e71_110 : decode (ma_cd 71) 110 = .ok (.if_icmp .lt 8, 3) := (congrArg (fun b => decode b 110) cd_71).trans dX7_renew_110
theorem e71_113 : decode (ma_cd 71) 113 = .ok (.bipush (-5), 2) := (congrArg (fun b => decode b 113) cd_71).trans dX7_renew_113
theorem e71_115 : decode (ma_cd 71) 115 = .ok (.goto 9, 3) := (congrArg (fun b => decode b 115) cd_71).trans dX7_renew_115
theorem e71_118 : decode (ma_cd 71) 118 = .ok (.iload 5, 2) := (congrArg (fun b => decode b 118) cd_71).trans dX7_renew_118
theorem e71_120 : decode (ma_cd 71) 120 = .ok (.sipush 256, 3) := (congrArg (fun b => decode b 120) cd_71).trans dX7_renew_120
theorem e71_123 : decode (ma_cd 71) 123 = .ok (.irem, 1) := (congrArg (fun b => decode b 123) cd_71).trans dX7_renew_123
theorem e71_124 : decode (ma_cd 71) 124 = .ok (.ireturn, 1) := (congrArg (fun b => decode b 124) cd_71).trans dX7_renew_124
theorem Sh71_46 {ro : ma_RO} {d : Nat} : (∀ (v0 : Option Value) (v1 : Option Value) (v2 : Option Value) (v3 : Option Value) (v4 : Option Value) (x1 : Int32) (st : List Value) (σ : ma_H), ma_rn ro d 71 (46, [v0, v1, v2, v3, v4, some (.int x1)], st, SH, σ) = ma_rn ro d 71 (48, [v0, v1, v2, v3, v4, some (.int x1)], .int x1 :: st, SH, σ)) := fun v0 v1 v2 v3 v4 x1 st σ => q_go e71_46 rfl rfl
theorem Sh71_75 {ro : ma_RO} {d : Nat} : (∀ (v0 : Option Value) (v1 : Option Value) (v2 : Option Value) (v3 : Option Value) (v4 : Option Value) (x1 : Int32) (st : List Value) (σ : ma_H), ma_rn ro d 71 (75, [v0, v1, v2, v3, v4, some (.int x1)], st, SH, σ) = ma_rn ro d 71 (77, [v0, v1, v2, v3, v4, some (.int x1)], .int x1 :: st, SH, σ)) := fun v0 v1 v2 v3 v4 x1 st σ => q_go e71_75 rfl rfl
theorem S71 {ro : ma_RO} {d : Nat} : (∀ (v1 : Option Value) (v2 : Option Value) (v3 : Option Value) (v4 : Option Value) (v5 : Option Value) (a1 : Nat) (st : List Value) (σ : ma_H), ma_rn ro d 71 (0, [some (.ref a1), v1, v2, v3, v4, v5], st, SH, σ) = ma_rn ro d 71 (1, [some (.ref a1), v1, v2, v3, v4, v5], .ref a1 :: st, SH, σ)) ∧
  (∀ (v0 : Option Value) (v1 : Option Value) (v2 : Option Value) (v3 : Option Value) (v4 : Option Value) (v5 : Option Value) (a1 : Nat) (st : List Value) (σ : ma_H) (hc : hk_cls a1 = 7), ma_rn ro d 71 (1, [v0, v1, v2, v3, v4, v5], .ref a1 :: st, SH, σ) = ma_rn ro d 71 (4, [v0, v1, v2, v3, v4, v5], .ref (1) :: st, SH, σ)) ∧
  (∀ (v0 : Option Value) (v1 : Option Value) (v2 : Option Value) (v3 : Option Value) (v4 : Option Value) (v5 : Option Value) (a1 : Nat) (st : List Value) (σ : ma_H) (hc : hk_cls a1 = 5), ma_rn ro d 71 (4, [v0, v1, v2, v3, v4, v5], .ref a1 :: st, SH, σ) = ma_rn ro d 71 (7, [v0, v1, v2, v3, v4, v5], .ref (a1 + 1) :: st, SH, σ)) ∧
  (∀ (v0 : Option Value) (v2 : Option Value) (v3 : Option Value) (v4 : Option Value) (v5 : Option Value) (x1 : Int32) (st : List Value) (σ : ma_H), ma_rn ro d 71 (7, [v0, some (.int x1), v2, v3, v4, v5], st, SH, σ) = ma_rn ro d 71 (8, [v0, some (.int x1), v2, v3, v4, v5], .int x1 :: st, SH, σ)) ∧
  (∀ (v0 : Option Value) (v1 : Option Value) (v2 : Option Value) (v3 : Option Value) (v4 : Option Value) (v5 : Option Value) (x1 : Int32) (a0 : Nat) (σ : ma_H) (hc : hk_cls a0 = 6), ma_rn ro (d + 1) 71 (8, [v0, v1, v2, v3, v4, v5], .int x1 :: .ref a0 :: [], SH, σ) = (ma_ev ro d 50 [.ref a0, .int x1] SH σ).bind (fun q => ma_rn ro (d + 1) 71 (11, [v0, v1, v2, v3, v4, v5], (q.1.toList ++ []), q.2.1, q.2.2))) ∧
  (∀ (v0 : Option Value) (v1 : Option Value) (v2 : Option Value) (v4 : Option Value) (v5 : Option Value) (x9 : Int32) (a1 : Nat) (st : List Value) (σ : ma_H), ma_rn ro d 71 (11, [v0, v1, v2, some (.int x9), v4, v5], .ref a1 :: st, SH, σ) = ma_rn ro d 71 (13, [v0, v1, v2, some (.int x9), some (.ref a1), v5], st, SH, σ)) ∧
  (∀ (v0 : Option Value) (v1 : Option Value) (v2 : Option Value) (v4 : Option Value) (v5 : Option Value) (x9 : Int32) (st : List Value) (σ : ma_H), ma_rn ro d 71 (11, [v0, v1, v2, some (.int x9), v4, v5], .null :: st, SH, σ) = ma_rn ro d 71 (13, [v0, v1, v2, some (.int x9), some .null, v5], st, SH, σ)) ∧
  (∀ (v0 : Option Value) (v1 : Option Value) (v2 : Option Value) (v3 : Option Value) (v5 : Option Value) (a1 : Nat) (st : List Value) (σ : ma_H), ma_rn ro d 71 (13, [v0, v1, v2, v3, some (.ref a1), v5], st, SH, σ) = ma_rn ro d 71 (15, [v0, v1, v2, v3, some (.ref a1), v5], .ref a1 :: st, SH, σ)) ∧
  (∀ (v0 : Option Value) (v1 : Option Value) (v2 : Option Value) (v3 : Option Value) (v5 : Option Value) (st : List Value) (σ : ma_H), ma_rn ro d 71 (13, [v0, v1, v2, v3, some .null, v5], st, SH, σ) = ma_rn ro d 71 (15, [v0, v1, v2, v3, some .null, v5], .null :: st, SH, σ)) ∧
  (∀ (v0 : Option Value) (v1 : Option Value) (v2 : Option Value) (v3 : Option Value) (v4 : Option Value) (v5 : Option Value) (a1 : Nat) (st : List Value) (σ : ma_H), ma_rn ro d 71 (15, [v0, v1, v2, v3, v4, v5], .ref a1 :: st, SH, σ) = ma_rn ro d 71 (20, [v0, v1, v2, v3, v4, v5], st, SH, σ)) ∧
  (∀ (v0 : Option Value) (v1 : Option Value) (v2 : Option Value) (v3 : Option Value) (v4 : Option Value) (v5 : Option Value) (st : List Value) (σ : ma_H), ma_rn ro d 71 (15, [v0, v1, v2, v3, v4, v5], .null :: st, SH, σ) = ma_rn ro d 71 (18, [v0, v1, v2, v3, v4, v5], st, SH, σ)) ∧
  (∀ (v0 : Option Value) (v1 : Option Value) (v2 : Option Value) (v3 : Option Value) (v4 : Option Value) (v5 : Option Value) (st : List Value) (σ : ma_H), ma_rn ro d 71 (18, [v0, v1, v2, v3, v4, v5], st, SH, σ) = ma_rn ro d 71 (19, [v0, v1, v2, v3, v4, v5], .int ((-1)) :: st, SH, σ)) ∧
  (∀ (v0 : Option Value) (v1 : Option Value) (v2 : Option Value) (v3 : Option Value) (v4 : Option Value) (v5 : Option Value) (x1 : Int32) (σ : ma_H), ma_rn ro d 71 (19, [v0, v1, v2, v3, v4, v5], [.int x1], SH, σ) = some (some (.int x1), SH, σ)) ∧
  (∀ (v0 : Option Value) (v1 : Option Value) (v3 : Option Value) (v4 : Option Value) (v5 : Option Value) (x1 : Int32) (st : List Value) (σ : ma_H), ma_rn ro d 71 (20, [v0, v1, some (.int x1), v3, v4, v5], st, SH, σ) = ma_rn ro d 71 (21, [v0, v1, some (.int x1), v3, v4, v5], .int x1 :: st, SH, σ)) ∧
  (∀ (v0 : Option Value) (v1 : Option Value) (v2 : Option Value) (v3 : Option Value) (v4 : Option Value) (v5 : Option Value) (st : List Value) (σ : ma_H), ma_rn ro d 71 (21, [v0, v1, v2, v3, v4, v5], st, SH, σ) = ma_rn ro d 71 (22, [v0, v1, v2, v3, v4, v5], .int (nI 1) :: st, SH, σ)) ∧
  (∀ (v0 : Option Value) (v1 : Option Value) (v2 : Option Value) (v3 : Option Value) (v4 : Option Value) (v5 : Option Value) (x1 : Int32) (x2 : Int32) (st : List Value) (σ : ma_H), ma_rn ro d 71 (22, [v0, v1, v2, v3, v4, v5], .int x1 :: .int x2 :: st, SH, σ) = if x2 < x1 then ma_rn ro d 71 (40, [v0, v1, v2, v3, v4, v5], st, SH, σ) else ma_rn ro d 71 (25, [v0, v1, v2, v3, v4, v5], st, SH, σ)) ∧
  (∀ (v0 : Option Value) (v1 : Option Value) (v3 : Option Value) (v4 : Option Value) (v5 : Option Value) (x1 : Int32) (st : List Value) (σ : ma_H), ma_rn ro d 71 (25, [v0, v1, some (.int x1), v3, v4, v5], st, SH, σ) = ma_rn ro d 71 (26, [v0, v1, some (.int x1), v3, v4, v5], .int x1 :: st, SH, σ)) ∧
  (∀ (v0 : Option Value) (v1 : Option Value) (v2 : Option Value) (v3 : Option Value) (v4 : Option Value) (v5 : Option Value) (st : List Value) (σ : ma_H), ma_rn ro d 71 (26, [v0, v1, v2, v3, v4, v5], st, SH, σ) = ma_rn ro d 71 (28, [v0, v1, v2, v3, v4, v5], .int (nI 8) :: st, SH, σ)) ∧
  (∀ (v0 : Option Value) (v1 : Option Value) (v2 : Option Value) (v3 : Option Value) (v4 : Option Value) (v5 : Option Value) (x1 : Int32) (x2 : Int32) (st : List Value) (σ : ma_H), ma_rn ro d 71 (28, [v0, v1, v2, v3, v4, v5], .int x1 :: .int x2 :: st, SH, σ) = if x1 < x2 then ma_rn ro d 71 (40, [v0, v1, v2, v3, v4, v5], st, SH, σ) else ma_rn ro d 71 (31, [v0, v1, v2, v3, v4, v5], st, SH, σ)) ∧
  (∀ (v0 : Option Value) (v1 : Option Value) (v2 : Option Value) (v4 : Option Value) (v5 : Option Value) (x1 : Int32) (st : List Value) (σ : ma_H), ma_rn ro d 71 (31, [v0, v1, v2, some (.int x1), v4, v5], st, SH, σ) = ma_rn ro d 71 (32, [v0, v1, v2, some (.int x1), v4, v5], .int x1 :: st, SH, σ)) ∧
  (∀ (v0 : Option Value) (v1 : Option Value) (v2 : Option Value) (v3 : Option Value) (v4 : Option Value) (v5 : Option Value) (st : List Value) (σ : ma_H), ma_rn ro d 71 (32, [v0, v1, v2, v3, v4, v5], st, SH, σ) = ma_rn ro d 71 (34, [v0, v1, v2, v3, v4, v5], .int (nI 99) :: st, SH, σ)) ∧
  (∀ (v0 : Option Value) (v1 : Option Value) (v2 : Option Value) (v3 : Option Value) (v4 : Option Value) (v5 : Option Value) (x1 : Int32) (x2 : Int32) (σ : ma_H), ma_rn ro (d + 1) 71 (34, [v0, v1, v2, v3, v4, v5], .int x2 :: .int x1 :: [], SH, σ) = (ma_ev ro d 88 [.int x1, .int x2] SH σ).bind (fun q => ma_rn ro (d + 1) 71 (37, [v0, v1, v2, v3, v4, v5], (q.1.toList ++ []), q.2.1, q.2.2))) ∧
  (∀ (v0 : Option Value) (v1 : Option Value) (v2 : Option Value) (v3 : Option Value) (v4 : Option Value) (v5 : Option Value) (x1 : Int32) (st : List Value) (σ : ma_H), ma_rn ro d 71 (37, [v0, v1, v2, v3, v4, v5], .int x1 :: st, SH, σ) = if x1 = nI 0 then ma_rn ro d 71 (43, [v0, v1, v2, v3, v4, v5], st, SH, σ) else ma_rn ro d 71 (40, [v0, v1, v2, v3, v4, v5], st, SH, σ)) ∧
  (∀ (v0 : Option Value) (v1 : Option Value) (v2 : Option Value) (v3 : Option Value) (v4 : Option Value) (v5 : Option Value) (st : List Value) (σ : ma_H), ma_rn ro d 71 (40, [v0, v1, v2, v3, v4, v5], st, SH, σ) = ma_rn ro d 71 (42, [v0, v1, v2, v3, v4, v5], .int ((-2)) :: st, SH, σ)) ∧
  (∀ (v0 : Option Value) (v1 : Option Value) (v2 : Option Value) (v3 : Option Value) (v4 : Option Value) (v5 : Option Value) (x1 : Int32) (σ : ma_H), ma_rn ro d 71 (42, [v0, v1, v2, v3, v4, v5], [.int x1], SH, σ) = some (some (.int x1), SH, σ)) ∧
  (∀ (v0 : Option Value) (v1 : Option Value) (v2 : Option Value) (v3 : Option Value) (v4 : Option Value) (v5 : Option Value) (st : List Value) (σ : ma_H), ma_rn ro d 71 (43, [v0, v1, v2, v3, v4, v5], st, SH, σ) = ma_rn ro d 71 (44, [v0, v1, v2, v3, v4, v5], .int (nI 0) :: st, SH, σ)) ∧
  (∀ (v0 : Option Value) (v1 : Option Value) (v2 : Option Value) (v3 : Option Value) (v4 : Option Value) (v5 : Option Value) (x1 : Int32) (st : List Value) (σ : ma_H) (hb : ma_bef [v0, v1, v2, v3, v4, v5] 5 = false), ma_rn ro d 71 (44, [v0, v1, v2, v3, v4, v5], .int x1 :: st, SH, σ) = ma_rn ro d 71 (46, [v0, v1, v2, v3, v4, some (.int x1)], st, SH, σ)) ∧
  (∀ (v1 : Option Value) (v2 : Option Value) (v3 : Option Value) (v4 : Option Value) (v5 : Option Value) (a1 : Nat) (st : List Value) (σ : ma_H), ma_rn ro d 71 (48, [some (.ref a1), v1, v2, v3, v4, v5], st, SH, σ) = ma_rn ro d 71 (49, [some (.ref a1), v1, v2, v3, v4, v5], .ref a1 :: st, SH, σ)) ∧
  (∀ (v0 : Option Value) (v1 : Option Value) (v2 : Option Value) (v3 : Option Value) (v4 : Option Value) (v5 : Option Value) (a1 : Nat) (st : List Value) (σ : ma_H) (hc : hk_cls a1 = 7), ma_rn ro d 71 (49, [v0, v1, v2, v3, v4, v5], .ref a1 :: st, SH, σ) = ma_rn ro d 71 (52, [v0, v1, v2, v3, v4, v5], .ref (89) :: st, SH, σ)) ∧
  (∀ (v0 : Option Value) (v1 : Option Value) (v2 : Option Value) (v3 : Option Value) (v4 : Option Value) (v5 : Option Value) (a1 : Nat) (st : List Value) (σ : ma_H) (hn : 0 < hk_alen a1), ma_rn ro d 71 (52, [v0, v1, v2, v3, v4, v5], .ref a1 :: st, SH, σ) = ma_rn ro d 71 (53, [v0, v1, v2, v3, v4, v5], .int (nI (hk_alen a1)) :: st, SH, σ)) ∧
  (∀ (v0 : Option Value) (v1 : Option Value) (v2 : Option Value) (v3 : Option Value) (v4 : Option Value) (v5 : Option Value) (x1 : Int32) (x2 : Int32) (st : List Value) (σ : ma_H), ma_rn ro d 71 (53, [v0, v1, v2, v3, v4, v5], .int x1 :: .int x2 :: st, SH, σ) = if x2 < x1 then ma_rn ro d 71 (56, [v0, v1, v2, v3, v4, v5], st, SH, σ) else ma_rn ro d 71 (70, [v0, v1, v2, v3, v4, v5], st, SH, σ)) ∧
  (∀ (v1 : Option Value) (v2 : Option Value) (v3 : Option Value) (v4 : Option Value) (v5 : Option Value) (a1 : Nat) (st : List Value) (σ : ma_H), ma_rn ro d 71 (56, [some (.ref a1), v1, v2, v3, v4, v5], st, SH, σ) = ma_rn ro d 71 (57, [some (.ref a1), v1, v2, v3, v4, v5], .ref a1 :: st, SH, σ)) ∧
  (∀ (v0 : Option Value) (v1 : Option Value) (v2 : Option Value) (v3 : Option Value) (v4 : Option Value) (v5 : Option Value) (a1 : Nat) (st : List Value) (σ : ma_H) (hc : hk_cls a1 = 7), ma_rn ro d 71 (57, [v0, v1, v2, v3, v4, v5], .ref a1 :: st, SH, σ) = ma_rn ro d 71 (60, [v0, v1, v2, v3, v4, v5], .ref (89) :: st, SH, σ)) ∧
  (∀ (v0 : Option Value) (v1 : Option Value) (v2 : Option Value) (v3 : Option Value) (v4 : Option Value) (x1 : Int32) (st : List Value) (σ : ma_H), ma_rn ro d 71 (60, [v0, v1, v2, v3, v4, some (.int x1)], st, SH, σ) = ma_rn ro d 71 (62, [v0, v1, v2, v3, v4, some (.int x1)], .int x1 :: st, SH, σ)) ∧
  (∀ (v0 : Option Value) (v1 : Option Value) (v2 : Option Value) (v3 : Option Value) (v4 : Option Value) (v5 : Option Value) (st : List Value) (σ : ma_H), ma_rn ro d 71 (62, [v0, v1, v2, v3, v4, v5], st, SH, σ) = ma_rn ro d 71 (63, [v0, v1, v2, v3, v4, v5], .int (nI 0) :: st, SH, σ)) ∧
  (∀ (v0 : Option Value) (v1 : Option Value) (v2 : Option Value) (v3 : Option Value) (v4 : Option Value) (v5 : Option Value) (x1 : Int32) (k : Nat) (a3 : Nat) (st : List Value) (σ : ma_H) (hk : k < hk_len a3), ma_rn ro d 71 (63, [v0, v1, v2, v3, v4, v5], .int x1 :: .int (nI k) :: .ref a3 :: st, SH, σ) = ma_rn ro d 71 (64, [v0, v1, v2, v3, v4, v5], st, SH, (ma_up σ a3 k x1))) ∧
  (∀ (v0 : Option Value) (v1 : Option Value) (v2 : Option Value) (v3 : Option Value) (v4 : Option Value) (x1 : Int32) (st : List Value) (σ : ma_H) (hb : ma_bef [v0, v1, v2, v3, v4, some (.int x1)] 5 = false), ma_rn ro d 71 (64, [v0, v1, v2, v3, v4, some (.int x1)], st, SH, σ) = ma_rn ro d 71 (67, [v0, v1, v2, v3, v4, some (.int (x1 + nI 1))], st, SH, σ)) ∧
  (∀ (v0 : Option Value) (v1 : Option Value) (v2 : Option Value) (v3 : Option Value) (v4 : Option Value) (v5 : Option Value) (st : List Value) (σ : ma_H), ma_rn ro d 71 (67, [v0, v1, v2, v3, v4, v5], st, SH, σ) = ma_rn ro d 71 (46, [v0, v1, v2, v3, v4, v5], st, SH, σ)) ∧
  (∀ (v0 : Option Value) (v1 : Option Value) (v3 : Option Value) (v4 : Option Value) (v5 : Option Value) (x1 : Int32) (st : List Value) (σ : ma_H), ma_rn ro d 71 (70, [v0, v1, some (.int x1), v3, v4, v5], st, SH, σ) = ma_rn ro d 71 (71, [v0, v1, some (.int x1), v3, v4, v5], .int x1 :: st, SH, σ)) ∧
  (∀ (v0 : Option Value) (v1 : Option Value) (v2 : Option Value) (v3 : Option Value) (v4 : Option Value) (v5 : Option Value) (st : List Value) (σ : ma_H), ma_rn ro d 71 (71, [v0, v1, v2, v3, v4, v5], st, SH, σ) = ma_rn ro d 71 (72, [v0, v1, v2, v3, v4, v5], .int (nI 1) :: st, SH, σ)) ∧
  (∀ (v0 : Option Value) (v1 : Option Value) (v2 : Option Value) (v3 : Option Value) (v4 : Option Value) (v5 : Option Value) (x1 : Int32) (x2 : Int32) (st : List Value) (σ : ma_H), ma_rn ro d 71 (72, [v0, v1, v2, v3, v4, v5], .int x1 :: .int x2 :: st, SH, σ) = ma_rn ro d 71 (73, [v0, v1, v2, v3, v4, v5], .int (x2 - x1) :: st, SH, σ)) ∧
  (∀ (v0 : Option Value) (v1 : Option Value) (v2 : Option Value) (v3 : Option Value) (v4 : Option Value) (v5 : Option Value) (x1 : Int32) (st : List Value) (σ : ma_H) (hb : ma_bef [v0, v1, v2, v3, v4, v5] 5 = false), ma_rn ro d 71 (73, [v0, v1, v2, v3, v4, v5], .int x1 :: st, SH, σ) = ma_rn ro d 71 (75, [v0, v1, v2, v3, v4, some (.int x1)], st, SH, σ)) ∧
  (∀ (v0 : Option Value) (v1 : Option Value) (v2 : Option Value) (v3 : Option Value) (v4 : Option Value) (v5 : Option Value) (x1 : Int32) (st : List Value) (σ : ma_H), ma_rn ro d 71 (77, [v0, v1, v2, v3, v4, v5], .int x1 :: st, SH, σ) = if x1 < nI 0 then ma_rn ro d 71 (95, [v0, v1, v2, v3, v4, v5], st, SH, σ) else ma_rn ro d 71 (80, [v0, v1, v2, v3, v4, v5], st, SH, σ)) ∧
  (∀ (v1 : Option Value) (v2 : Option Value) (v3 : Option Value) (v4 : Option Value) (v5 : Option Value) (a1 : Nat) (st : List Value) (σ : ma_H), ma_rn ro d 71 (80, [some (.ref a1), v1, v2, v3, v4, v5], st, SH, σ) = ma_rn ro d 71 (81, [some (.ref a1), v1, v2, v3, v4, v5], .ref a1 :: st, SH, σ)) ∧
  (∀ (v0 : Option Value) (v1 : Option Value) (v2 : Option Value) (v3 : Option Value) (v5 : Option Value) (a1 : Nat) (st : List Value) (σ : ma_H), ma_rn ro d 71 (81, [v0, v1, v2, v3, some (.ref a1), v5], st, SH, σ) = ma_rn ro d 71 (83, [v0, v1, v2, v3, some (.ref a1), v5], .ref a1 :: st, SH, σ)) ∧
  (∀ (v0 : Option Value) (v1 : Option Value) (v2 : Option Value) (v3 : Option Value) (v5 : Option Value) (st : List Value) (σ : ma_H), ma_rn ro d 71 (81, [v0, v1, v2, v3, some .null, v5], st, SH, σ) = ma_rn ro d 71 (83, [v0, v1, v2, v3, some .null, v5], .null :: st, SH, σ)) ∧
  (∀ (v0 : Option Value) (v1 : Option Value) (v2 : Option Value) (v3 : Option Value) (v4 : Option Value) (x1 : Int32) (st : List Value) (σ : ma_H), ma_rn ro d 71 (83, [v0, v1, v2, v3, v4, some (.int x1)], st, SH, σ) = ma_rn ro d 71 (85, [v0, v1, v2, v3, v4, some (.int x1)], .int x1 :: st, SH, σ)) ∧
  (∀ (v0 : Option Value) (v1 : Option Value) (v2 : Option Value) (v4 : Option Value) (v5 : Option Value) (x1 : Int32) (st : List Value) (σ : ma_H), ma_rn ro d 71 (85, [v0, v1, v2, some (.int x1), v4, v5], st, SH, σ) = ma_rn ro d 71 (86, [v0, v1, v2, some (.int x1), v4, v5], .int x1 :: st, SH, σ)) ∧
  (∀ (v0 : Option Value) (v1 : Option Value) (v2 : Option Value) (v3 : Option Value) (v4 : Option Value) (v5 : Option Value) (a1 : Nat) (x2 : Int32) (x3 : Int32) (a0 : Nat) (σ : ma_H) (hc : hk_cls a0 = 7), ma_rn ro (d + 1) 71 (86, [v0, v1, v2, v3, v4, v5], .int x3 :: .int x2 :: .ref a1 :: .ref a0 :: [], SH, σ) = (ma_ev ro d 97 [.ref a0, .ref a1, .int x2, .int x3] SH σ).bind (fun q => ma_rn ro (d + 1) 71 (89, [v0, v1, v2, v3, v4, v5], (q.1.toList ++ []), q.2.1, q.2.2))) ∧
  (∀ (v0 : Option Value) (v1 : Option Value) (v2 : Option Value) (v3 : Option Value) (v4 : Option Value) (x1 : Int32) (st : List Value) (σ : ma_H) (hb : ma_bef [v0, v1, v2, v3, v4, some (.int x1)] 5 = false), ma_rn ro d 71 (89, [v0, v1, v2, v3, v4, some (.int x1)], st, SH, σ) = ma_rn ro d 71 (92, [v0, v1, v2, v3, v4, some (.int (x1 + (-1)))], st, SH, σ)) ∧
  (∀ (v0 : Option Value) (v1 : Option Value) (v2 : Option Value) (v3 : Option Value) (v4 : Option Value) (v5 : Option Value) (st : List Value) (σ : ma_H), ma_rn ro d 71 (92, [v0, v1, v2, v3, v4, v5], st, SH, σ) = ma_rn ro d 71 (75, [v0, v1, v2, v3, v4, v5], st, SH, σ)) ∧
  (∀ (v1 : Option Value) (v2 : Option Value) (v3 : Option Value) (v4 : Option Value) (v5 : Option Value) (a1 : Nat) (st : List Value) (σ : ma_H), ma_rn ro d 71 (95, [some (.ref a1), v1, v2, v3, v4, v5], st, SH, σ) = ma_rn ro d 71 (96, [some (.ref a1), v1, v2, v3, v4, v5], .ref a1 :: st, SH, σ)) ∧
  (∀ (v0 : Option Value) (v1 : Option Value) (v2 : Option Value) (v3 : Option Value) (v5 : Option Value) (a1 : Nat) (st : List Value) (σ : ma_H), ma_rn ro d 71 (96, [v0, v1, v2, v3, some (.ref a1), v5], st, SH, σ) = ma_rn ro d 71 (98, [v0, v1, v2, v3, some (.ref a1), v5], .ref a1 :: st, SH, σ)) ∧
  (∀ (v0 : Option Value) (v1 : Option Value) (v2 : Option Value) (v3 : Option Value) (v5 : Option Value) (st : List Value) (σ : ma_H), ma_rn ro d 71 (96, [v0, v1, v2, v3, some .null, v5], st, SH, σ) = ma_rn ro d 71 (98, [v0, v1, v2, v3, some .null, v5], .null :: st, SH, σ)) ∧
  (∀ (v0 : Option Value) (v1 : Option Value) (v2 : Option Value) (v3 : Option Value) (v4 : Option Value) (v5 : Option Value) (a1 : Nat) (st : List Value) (σ : ma_H) (hc : hk_cls a1 = 1), ma_rn ro d 71 (98, [v0, v1, v2, v3, v4, v5], .ref a1 :: st, SH, σ) = ma_rn ro d 71 (101, [v0, v1, v2, v3, v4, v5], .int (σ a1 6) :: st, SH, σ)) ∧
  (∀ (v0 : Option Value) (v1 : Option Value) (v2 : Option Value) (v3 : Option Value) (v4 : Option Value) (v5 : Option Value) (x1 : Int32) (a0 : Nat) (σ : ma_H) (hc : hk_cls a0 = 7), ma_rn ro (d + 1) 71 (101, [v0, v1, v2, v3, v4, v5], .int x1 :: .ref a0 :: [], SH, σ) = (ma_ev ro d 99 [.ref a0, .int x1] SH σ).bind (fun q => ma_rn ro (d + 1) 71 (104, [v0, v1, v2, v3, v4, v5], (q.1.toList ++ []), q.2.1, q.2.2))) ∧
  (∀ (v0 : Option Value) (v1 : Option Value) (v2 : Option Value) (v3 : Option Value) (v4 : Option Value) (v5 : Option Value) (x1 : Int32) (st : List Value) (σ : ma_H) (hb : ma_bef [v0, v1, v2, v3, v4, v5] 5 = false), ma_rn ro d 71 (104, [v0, v1, v2, v3, v4, v5], .int x1 :: st, SH, σ) = ma_rn ro d 71 (106, [v0, v1, v2, v3, v4, some (.int x1)], st, SH, σ)) ∧
  (∀ (v0 : Option Value) (v1 : Option Value) (v2 : Option Value) (v3 : Option Value) (v4 : Option Value) (x1 : Int32) (st : List Value) (σ : ma_H), ma_rn ro d 71 (106, [v0, v1, v2, v3, v4, some (.int x1)], st, SH, σ) = ma_rn ro d 71 (108, [v0, v1, v2, v3, v4, some (.int x1)], .int x1 :: st, SH, σ)) ∧
  (∀ (v0 : Option Value) (v1 : Option Value) (v2 : Option Value) (v3 : Option Value) (v4 : Option Value) (v5 : Option Value) (st : List Value) (σ : ma_H), ma_rn ro d 71 (108, [v0, v1, v2, v3, v4, v5], st, SH, σ) = ma_rn ro d 71 (110, [v0, v1, v2, v3, v4, v5], .int (nI 1048576) :: st, SH, σ)) ∧
  (∀ (v0 : Option Value) (v1 : Option Value) (v2 : Option Value) (v3 : Option Value) (v4 : Option Value) (v5 : Option Value) (x1 : Int32) (x2 : Int32) (st : List Value) (σ : ma_H), ma_rn ro d 71 (110, [v0, v1, v2, v3, v4, v5], .int x1 :: .int x2 :: st, SH, σ) = if x2 < x1 then ma_rn ro d 71 (118, [v0, v1, v2, v3, v4, v5], st, SH, σ) else ma_rn ro d 71 (113, [v0, v1, v2, v3, v4, v5], st, SH, σ)) ∧
  (∀ (v0 : Option Value) (v1 : Option Value) (v2 : Option Value) (v3 : Option Value) (v4 : Option Value) (v5 : Option Value) (st : List Value) (σ : ma_H), ma_rn ro d 71 (113, [v0, v1, v2, v3, v4, v5], st, SH, σ) = ma_rn ro d 71 (115, [v0, v1, v2, v3, v4, v5], .int ((-5)) :: st, SH, σ)) ∧
  (∀ (v0 : Option Value) (v1 : Option Value) (v2 : Option Value) (v3 : Option Value) (v4 : Option Value) (v5 : Option Value) (st : List Value) (σ : ma_H), ma_rn ro d 71 (115, [v0, v1, v2, v3, v4, v5], st, SH, σ) = ma_rn ro d 71 (124, [v0, v1, v2, v3, v4, v5], st, SH, σ)) ∧
  (∀ (v0 : Option Value) (v1 : Option Value) (v2 : Option Value) (v3 : Option Value) (v4 : Option Value) (x1 : Int32) (st : List Value) (σ : ma_H), ma_rn ro d 71 (118, [v0, v1, v2, v3, v4, some (.int x1)], st, SH, σ) = ma_rn ro d 71 (120, [v0, v1, v2, v3, v4, some (.int x1)], .int x1 :: st, SH, σ)) ∧
  (∀ (v0 : Option Value) (v1 : Option Value) (v2 : Option Value) (v3 : Option Value) (v4 : Option Value) (v5 : Option Value) (st : List Value) (σ : ma_H), ma_rn ro d 71 (120, [v0, v1, v2, v3, v4, v5], st, SH, σ) = ma_rn ro d 71 (123, [v0, v1, v2, v3, v4, v5], .int (nI 256) :: st, SH, σ)) ∧
  (∀ (v0 : Option Value) (v1 : Option Value) (v2 : Option Value) (v3 : Option Value) (v4 : Option Value) (v5 : Option Value) (x1 : Int32) (x2 : Int32) (st : List Value) (σ : ma_H) (hy : ¬ x1 = 0), ma_rn ro d 71 (123, [v0, v1, v2, v3, v4, v5], .int x1 :: .int x2 :: st, SH, σ) = ma_rn ro d 71 (124, [v0, v1, v2, v3, v4, v5], .int (x2 - x2 / x1 * x1) :: st, SH, σ)) ∧
  (∀ (v0 : Option Value) (v1 : Option Value) (v2 : Option Value) (v3 : Option Value) (v4 : Option Value) (v5 : Option Value) (x1 : Int32) (σ : ma_H), ma_rn ro d 71 (124, [v0, v1, v2, v3, v4, v5], [.int x1], SH, σ) = some (some (.int x1), SH, σ)) := ⟨fun v1 v2 v3 v4 v5 a1 st σ => q_go e71_0 rfl rfl,
  fun v0 v1 v2 v3 v4 v5 a1 st σ hc => q_getA e71_1 o_71 f_7_12 (by decide) hc,
  fun v0 v1 v2 v3 v4 v5 a1 st σ hc => q_getA e71_4 o_71 f_7_93 (by decide) hc,
  fun v0 v2 v3 v4 v5 x1 st σ => q_go e71_7 rfl rfl,
  fun v0 v1 v2 v3 v4 v5 x1 a0 σ hc => q_invV (as := [.int x1]) (rest := []) e71_8 o_71 bn_7_102 c_7_102 m_50 (by decide) rfl rfl (Nat.le_of_ble_eq_true rfl) (Nat.le_of_ble_eq_true rfl) hc,
  fun v0 v1 v2 v4 v5 x9 a1 st σ => q_go e71_11 rfl rfl,
  fun v0 v1 v2 v4 v5 x9 st σ => q_go e71_11 rfl rfl,
  fun v0 v1 v2 v3 v5 a1 st σ => q_go e71_13 rfl rfl,
  fun v0 v1 v2 v3 v5 st σ => q_go e71_13 rfl rfl,
  fun v0 v1 v2 v3 v4 v5 a1 st σ => q_ifnonnullR e71_15 rfl,
  fun v0 v1 v2 v3 v4 v5 st σ => q_ifnonnullN e71_15 rfl,
  fun v0 v1 v2 v3 v4 v5 st σ => q_iconst e71_18 (by decide),
  fun v0 v1 v2 v3 v4 v5 x1 σ => q_iret e71_19 r_71,
  fun v0 v1 v3 v4 v5 x1 st σ => q_go e71_20 rfl rfl,
  fun v0 v1 v2 v3 v4 v5 st σ => q_iconst e71_21 (by decide),
  fun v0 v1 v2 v3 v4 v5 x1 x2 st σ => (q_cmp e71_22 rfl).trans q_lt,
  fun v0 v1 v3 v4 v5 x1 st σ => q_go e71_25 rfl rfl,
  fun v0 v1 v2 v3 v4 v5 st σ => q_bipush e71_26 (by decide),
  fun v0 v1 v2 v3 v4 v5 x1 x2 st σ => (q_cmp e71_28 rfl).trans q_gt,
  fun v0 v1 v2 v4 v5 x1 st σ => q_go e71_31 rfl rfl,
  fun v0 v1 v2 v3 v4 v5 st σ => q_bipush e71_32 (by decide),
  fun v0 v1 v2 v3 v4 v5 x1 x2 σ => q_invS (as := [.int x1, .int x2]) (rest := []) e71_34 o_71 bn_7_67 c_7_67 ⟨m_88.1, m_88.2.1, m_88.2.2.1⟩ rfl rfl (Nat.le_of_ble_eq_true rfl) (Nat.le_of_ble_eq_true rfl),
  fun v0 v1 v2 v3 v4 v5 x1 st σ => (q_if e71_37 rfl).trans q_eq,
  fun v0 v1 v2 v3 v4 v5 st σ => q_bipush e71_40 (by decide),
  fun v0 v1 v2 v3 v4 v5 x1 σ => q_iret e71_42 r_71,
  fun v0 v1 v2 v3 v4 v5 st σ => q_iconst e71_43 (by decide),
  fun v0 v1 v2 v3 v4 v5 x1 st σ hb => q_go e71_44 rfl (q_s1 hb rfl (Nat.le_of_ble_eq_true rfl)),
  fun v1 v2 v3 v4 v5 a1 st σ => q_go e71_48 rfl rfl,
  fun v0 v1 v2 v3 v4 v5 a1 st σ hc => q_getA e71_49 o_71 f_7_64 (by decide) hc,
  fun v0 v1 v2 v3 v4 v5 a1 st σ hn => q_alen e71_52 rfl hn,
  fun v0 v1 v2 v3 v4 v5 x1 x2 st σ => (q_cmp e71_53 rfl).trans q_nlt,
  fun v1 v2 v3 v4 v5 a1 st σ => q_go e71_56 rfl rfl,
  fun v0 v1 v2 v3 v4 v5 a1 st σ hc => q_getA e71_57 o_71 f_7_64 (by decide) hc,
  fun v0 v1 v2 v3 v4 x1 st σ => q_go e71_60 rfl rfl,
  fun v0 v1 v2 v3 v4 v5 st σ => q_iconst e71_62 (by decide),
  fun v0 v1 v2 v3 v4 v5 x1 k a3 st σ hk => q_iast e71_63 hk,
  fun v0 v1 v2 v3 v4 x1 st σ hb => q_iinc e71_64 rfl hb (by decide),
  fun v0 v1 v2 v3 v4 v5 st σ => q_goto e71_67 rfl,
  fun v0 v1 v3 v4 v5 x1 st σ => q_go e71_70 rfl rfl,
  fun v0 v1 v2 v3 v4 v5 st σ => q_iconst e71_71 (by decide),
  fun v0 v1 v2 v3 v4 v5 x1 x2 st σ => q_go e71_72 rfl rfl,
  fun v0 v1 v2 v3 v4 v5 x1 st σ hb => q_go e71_73 rfl (q_s1 hb rfl (Nat.le_of_ble_eq_true rfl)),
  fun v0 v1 v2 v3 v4 v5 x1 st σ => (q_if e71_77 rfl).trans q_lt,
  fun v1 v2 v3 v4 v5 a1 st σ => q_go e71_80 rfl rfl,
  fun v0 v1 v2 v3 v5 a1 st σ => q_go e71_81 rfl rfl,
  fun v0 v1 v2 v3 v5 st σ => q_go e71_81 rfl rfl,
  fun v0 v1 v2 v3 v4 x1 st σ => q_go e71_83 rfl rfl,
  fun v0 v1 v2 v4 v5 x1 st σ => q_go e71_85 rfl rfl,
  fun v0 v1 v2 v3 v4 v5 a1 x2 x3 a0 σ hc => q_invV (as := [.ref a1, .int x2, .int x3]) (rest := []) e71_86 o_71 bn_7_185 c_7_185 m_97 (by decide) rfl rfl (Nat.le_of_ble_eq_true rfl) (Nat.le_of_ble_eq_true rfl) hc,
  fun v0 v1 v2 v3 v4 x1 st σ hb => q_iinc e71_89 rfl hb (by decide),
  fun v0 v1 v2 v3 v4 v5 st σ => q_goto e71_92 rfl,
  fun v1 v2 v3 v4 v5 a1 st σ => q_go e71_95 rfl rfl,
  fun v0 v1 v2 v3 v5 a1 st σ => q_go e71_96 rfl rfl,
  fun v0 v1 v2 v3 v5 st σ => q_go e71_96 rfl rfl,
  fun v0 v1 v2 v3 v4 v5 a1 st σ hc => q_getI e71_98 o_71 f_7_123 (by decide) hc,
  fun v0 v1 v2 v3 v4 v5 x1 a0 σ hc => q_invV (as := [.int x1]) (rest := []) e71_101 o_71 bn_7_189 c_7_189 m_99 (by decide) rfl rfl (Nat.le_of_ble_eq_true rfl) (Nat.le_of_ble_eq_true rfl) hc,
  fun v0 v1 v2 v3 v4 v5 x1 st σ hb => q_go e71_104 rfl (q_s1 hb rfl (Nat.le_of_ble_eq_true rfl)),
  fun v0 v1 v2 v3 v4 x1 st σ => q_go e71_106 rfl rfl,
  fun v0 v1 v2 v3 v4 v5 st σ => q_ldc e71_108 o_71 k_7_192,
  fun v0 v1 v2 v3 v4 v5 x1 x2 st σ => (q_cmp e71_110 rfl).trans q_lt,
  fun v0 v1 v2 v3 v4 v5 st σ => q_bipush e71_113 (by decide),
  fun v0 v1 v2 v3 v4 v5 st σ => q_goto e71_115 rfl,
  fun v0 v1 v2 v3 v4 x1 st σ => q_go e71_118 rfl rfl,
  fun v0 v1 v2 v3 v4 v5 st σ => q_sipush e71_120 (by decide),
  fun v0 v1 v2 v3 v4 v5 x1 x2 st σ hy => q_irem e71_123 hy,
  fun v0 v1 v2 v3 v4 v5 x1 σ => q_iret e71_124 r_71⟩
theorem E71 {ro : ma_RO} {d : Nat} (a0 : Nat) (x1 : Int32) (x2 : Int32) (x3 : Int32) (sh : List ma_Sh) (σ : ma_H) : ma_ev ro d 71 [.ref a0, .int x1, .int x2, .int x3] sh σ = ma_rn ro d 71 (0, [some (.ref a0), some (.int x1), some (.int x2), some (.int x3), none, none], [], sh, σ) := q_ent x_71 rfl
theorem e72_0 : decode (ma_cd 72) 0 = .ok (.iload_n 1, 1) := (congrArg (fun b => decode b 0) cd_72).trans dX7_see_0
theorem e72_1 : decode (ma_cd 72) 1 = .ok (.iconst (-1), 1) := (congrArg (fun b => decode b 1) cd_72).trans dX7_see_1
theorem e72_2 : decode (ma_cd 72) 2 = .ok (.if_icmp .ne 16, 3) := (congrArg (fun b => decode b 2) cd_72).trans dX7_see_2
theorem e72_5 : decode (ma_cd 72) 5 = .ok (.aload_n 0, 1) := (congrArg (fun b => decode b 5) cd_72).trans dX7_see_5
theorem e72_6 : decode (ma_cd 72) 6 = .ok (.getfield 12, 3) := (congrArg (fun b => decode b 6) cd_72).trans dX7_see_6
theorem e72_9 : decode (ma_cd 72) 9 = .ok (.getfield 193, 3) := (congrArg (fun b => decode b 9) cd_72).trans dX7_see_9
theorem e72_12 : decode (ma_cd 72) 12 = .ok (.iconst 0, 1) := (congrArg (fun b => decode b 12) cd_72).trans dX7_see_12
theorem e72_13 : decode (ma_cd 72) 13 = .ok (.putfield 197, 3) := (congrArg (fun b => decode b 13) cd_72).trans dX7_see_13
theorem e72_16 : decode (ma_cd 72) 16 = .ok (.iconst 0, 1) := (congrArg (fun b => decode b 16) cd_72).trans dX7_see_16
theorem e72_17 : decode (ma_cd 72) 17 = .ok (.ireturn, 1) := (congrArg (fun b => decode b 17) cd_72).trans dX7_see_17
theorem e72_18 : decode (ma_cd 72) 18 = .ok (.aload_n 0, 1) := (congrArg (fun b => decode b 18) cd_72).trans dX7_see_18
theorem e72_19 : decode (ma_cd 72) 19 = .ok (.getfield 12, 3) := (congrArg (fun b => decode b 19) cd_72).trans dX7_see_19
theorem e72_22 : decode (ma_cd 72) 22 = .ok (.getfield 93, 3) := (congrArg (fun b => decode b 22) cd_72).trans dX7_see_22
theorem e72_25 : decode (ma_cd 72) 25 = .ok (.iload_n 1, 1) := (congrArg (fun b => decode b 25) cd_72).trans dX7_see_25
theorem e72_26 : decode (ma_cd 72) 26 = .ok (.invokevirtual 102, 3) := (congrArg (fun b => decode b 26) cd_72).trans dX7_see_26
theorem e72_29 : decode (ma_cd 72) 29 = .ok (.ifnonnull 5, 3) := (congrArg (fun b => decode b 29) cd_72).trans dX7_see_29
theorem e72_32 : decode (ma_cd 72) 32 = .ok (.iconst (-1), 1) := (congrArg (fun b => decode b 32) cd_72).trans dX7_see_32
theorem e72_33 : decode (ma_cd 72) 33 = .ok (.ireturn, 1) := (congrArg (fun b => decode b 33) cd_72).trans dX7_see_33
theorem e72_34 : decode (ma_cd 72) 34 = .ok (.iload_n 2, 1) := (congrArg (fun b => decode b 34) cd_72).trans dX7_see_34
theorem e72_35 : decode (ma_cd 72) 35 = .ok (.bipush 20, 2) := (congrArg (fun b => decode b 35) cd_72).trans dX7_see_35
theorem e72_37 : decode (ma_cd 72) 37 = .ok (.invokestatic 67, 3) := (congrArg (fun b => decode b 37) cd_72).trans dX7_see_37
theorem e72_40 : decode (ma_cd 72) 40 = .ok (.ifCond .eq 6, 3) := (congrArg (fun b => decode b 40) cd_72).trans dX7_see_40
theorem e72_43 : decode (ma_cd 72) 43 = .ok (.bipush (-2), 2) := (congrArg (fun b => decode b 43) cd_72).trans dX7_see_43
theorem e72_45 : decode (ma_cd 72) 45 = .ok (.ireturn, 1) := (congrArg (fun b => decode b 45) cd_72).trans dX7_see_45
theorem e72_46 : decode (ma_cd 72) 46 = .ok (.aload_n 0, 1) := (congrArg (fun b => decode b 46) cd_72).trans dX7_see_46
theorem e72_47 : decode (ma_cd 72) 47 = .ok (.getfield 12, 3) := (congrArg (fun b => decode b 47) cd_72).trans dX7_see_47
theorem e72_50 : decode (ma_cd 72) 50 = .ok (.getfield 193, 3) := (congrArg (fun b => decode b 50) cd_72).trans dX7_see_50
theorem e72_53 : decode (ma_cd 72) 53 = .ok (.iload_n 1, 1) := (congrArg (fun b => decode b 53) cd_72).trans dX7_see_53
theorem e72_54 : decode (ma_cd 72) 54 = .ok (.iload_n 2, 1) := (congrArg (fun b => decode b 54) cd_72).trans dX7_see_54
theorem e72_55 : decode (ma_cd 72) 55 = .ok (.iload_n 3, 1) := (congrArg (fun b => decode b 55) cd_72).trans dX7_see_55
theorem e72_56 : decode (ma_cd 72) 56 = .ok (.invokevirtual 200, 3) := (congrArg (fun b => decode b 56) cd_72).trans dX7_see_56
theorem e72_59 : decode (ma_cd 72) 59 = .ok (.ifCond .eq 16, 3) := (congrArg (fun b => decode b 59) cd_72).trans dX7_see_59
theorem e72_62 : decode (ma_cd 72) 62 = .ok (.aload_n 0, 1) := (congrArg (fun b => decode b 62) cd_72).trans dX7_see_62
theorem e72_63 : decode (ma_cd 72) 63 = .ok (.getfield 12, 3) := (congrArg (fun b => decode b 63) cd_72).trans dX7_see_63
theorem e72_66 : decode (ma_cd 72) 66 = .ok (.getfield 193, 3) := (congrArg (fun b => decode b 66) cd_72).trans dX7_see_66
theorem e72_69 : decode (ma_cd 72) 69 = .ok (.getfield 197, 3) := (congrArg (fun b => decode b 69) cd_72).trans dX7_see_69
theorem e72_72 : decode (ma_cd 72) 72 = .ok (.goto 5, 3) := (congrArg (fun b => decode b 72) cd_72).trans dX7_see_72
theorem e72_75 : decode (ma_cd 72) 75 = .ok (.bipush (-4), 2) := (congrArg (fun b => decode b 75) cd_72).trans dX7_see_75
theorem e72_77 : decode (ma_cd 72) 77 = .ok (.ireturn, 1) := (congrArg (fun b => decode b 77) cd_72).trans dX7_see_77
theorem S72 {ro : ma_RO} {d : Nat} : (∀ (v0 : Option Value) (v2 : Option Value) (v3 : Option Value) (x1 : Int32) (st : List Value) (σ : ma_H), ma_rn ro d 72 (0, [v0, some (.int x1), v2, v3], st, SH, σ) = ma_rn ro d 72 (1, [v0, some (.int x1), v2, v3], .int x1 :: st, SH, σ)) ∧
  (∀ (v0 : Option Value) (v1 : Option Value) (v2 : Option Value) (v3 : Option Value) (st : List Value) (σ : ma_H), ma_rn ro d 72 (1, [v0, v1, v2, v3], st, SH, σ) = ma_rn ro d 72 (2, [v0, v1, v2, v3], .int ((-1)) :: st, SH, σ)) ∧
  (∀ (v0 : Option Value) (v1 : Option Value) (v2 : Option Value) (v3 : Option Value) (x1 : Int32) (x2 : Int32) (st : List Value) (σ : ma_H), ma_rn ro d 72 (2, [v0, v1, v2, v3], .int x1 :: .int x2 :: st, SH, σ) = if x2 = x1 then ma_rn ro d 72 (5, [v0, v1, v2, v3], st, SH, σ) else ma_rn ro d 72 (18, [v0, v1, v2, v3], st, SH, σ)) ∧
  (∀ (v1 : Option Value) (v2 : Option Value) (v3 : Option Value) (a1 : Nat) (st : List Value) (σ : ma_H), ma_rn ro d 72 (5, [some (.ref a1), v1, v2, v3], st, SH, σ) = ma_rn ro d 72 (6, [some (.ref a1), v1, v2, v3], .ref a1 :: st, SH, σ)) ∧
  (∀ (v0 : Option Value) (v1 : Option Value) (v2 : Option Value) (v3 : Option Value) (a1 : Nat) (st : List Value) (σ : ma_H) (hc : hk_cls a1 = 7), ma_rn ro d 72 (6, [v0, v1, v2, v3], .ref a1 :: st, SH, σ) = ma_rn ro d 72 (9, [v0, v1, v2, v3], .ref (1) :: st, SH, σ)) ∧
  (∀ (v0 : Option Value) (v1 : Option Value) (v2 : Option Value) (v3 : Option Value) (a1 : Nat) (st : List Value) (σ : ma_H) (hc : hk_cls a1 = 5), ma_rn ro d 72 (9, [v0, v1, v2, v3], .ref a1 :: st, SH, σ) = ma_rn ro d 72 (12, [v0, v1, v2, v3], .ref (a1 + 20) :: st, SH, σ)) ∧
  (∀ (v0 : Option Value) (v1 : Option Value) (v2 : Option Value) (v3 : Option Value) (st : List Value) (σ : ma_H), ma_rn ro d 72 (12, [v0, v1, v2, v3], st, SH, σ) = ma_rn ro d 72 (13, [v0, v1, v2, v3], .int (nI 0) :: st, SH, σ)) ∧
  (∀ (v0 : Option Value) (v1 : Option Value) (v2 : Option Value) (v3 : Option Value) (x1 : Int32) (a2 : Nat) (st : List Value) (σ : ma_H) (hc : hk_cls a2 = 4), ma_rn ro d 72 (13, [v0, v1, v2, v3], .int x1 :: .ref a2 :: st, SH, σ) = ma_rn ro d 72 (16, [v0, v1, v2, v3], st, SH, (ma_up σ a2 3 x1))) ∧
  (∀ (v0 : Option Value) (v1 : Option Value) (v2 : Option Value) (v3 : Option Value) (st : List Value) (σ : ma_H), ma_rn ro d 72 (16, [v0, v1, v2, v3], st, SH, σ) = ma_rn ro d 72 (17, [v0, v1, v2, v3], .int (nI 0) :: st, SH, σ)) ∧
  (∀ (v0 : Option Value) (v1 : Option Value) (v2 : Option Value) (v3 : Option Value) (x1 : Int32) (σ : ma_H), ma_rn ro d 72 (17, [v0, v1, v2, v3], [.int x1], SH, σ) = some (some (.int x1), SH, σ)) ∧
  (∀ (v1 : Option Value) (v2 : Option Value) (v3 : Option Value) (a1 : Nat) (st : List Value) (σ : ma_H), ma_rn ro d 72 (18, [some (.ref a1), v1, v2, v3], st, SH, σ) = ma_rn ro d 72 (19, [some (.ref a1), v1, v2, v3], .ref a1 :: st, SH, σ)) ∧
  (∀ (v0 : Option Value) (v1 : Option Value) (v2 : Option Value) (v3 : Option Value) (a1 : Nat) (st : List Value) (σ : ma_H) (hc : hk_cls a1 = 7), ma_rn ro d 72 (19, [v0, v1, v2, v3], .ref a1 :: st, SH, σ) = ma_rn ro d 72 (22, [v0, v1, v2, v3], .ref (1) :: st, SH, σ)) ∧
  (∀ (v0 : Option Value) (v1 : Option Value) (v2 : Option Value) (v3 : Option Value) (a1 : Nat) (st : List Value) (σ : ma_H) (hc : hk_cls a1 = 5), ma_rn ro d 72 (22, [v0, v1, v2, v3], .ref a1 :: st, SH, σ) = ma_rn ro d 72 (25, [v0, v1, v2, v3], .ref (a1 + 1) :: st, SH, σ)) ∧
  (∀ (v0 : Option Value) (v2 : Option Value) (v3 : Option Value) (x1 : Int32) (st : List Value) (σ : ma_H), ma_rn ro d 72 (25, [v0, some (.int x1), v2, v3], st, SH, σ) = ma_rn ro d 72 (26, [v0, some (.int x1), v2, v3], .int x1 :: st, SH, σ)) ∧
  (∀ (v0 : Option Value) (v1 : Option Value) (v2 : Option Value) (v3 : Option Value) (x1 : Int32) (a0 : Nat) (σ : ma_H) (hc : hk_cls a0 = 6), ma_rn ro (d + 1) 72 (26, [v0, v1, v2, v3], .int x1 :: .ref a0 :: [], SH, σ) = (ma_ev ro d 50 [.ref a0, .int x1] SH σ).bind (fun q => ma_rn ro (d + 1) 72 (29, [v0, v1, v2, v3], (q.1.toList ++ []), q.2.1, q.2.2))) ∧
  (∀ (v0 : Option Value) (v1 : Option Value) (v2 : Option Value) (v3 : Option Value) (a1 : Nat) (st : List Value) (σ : ma_H), ma_rn ro d 72 (29, [v0, v1, v2, v3], .ref a1 :: st, SH, σ) = ma_rn ro d 72 (34, [v0, v1, v2, v3], st, SH, σ)) ∧
  (∀ (v0 : Option Value) (v1 : Option Value) (v2 : Option Value) (v3 : Option Value) (st : List Value) (σ : ma_H), ma_rn ro d 72 (29, [v0, v1, v2, v3], .null :: st, SH, σ) = ma_rn ro d 72 (32, [v0, v1, v2, v3], st, SH, σ)) ∧
  (∀ (v0 : Option Value) (v1 : Option Value) (v2 : Option Value) (v3 : Option Value) (st : List Value) (σ : ma_H), ma_rn ro d 72 (32, [v0, v1, v2, v3], st, SH, σ) = ma_rn ro d 72 (33, [v0, v1, v2, v3], .int ((-1)) :: st, SH, σ)) ∧
  (∀ (v0 : Option Value) (v1 : Option Value) (v2 : Option Value) (v3 : Option Value) (x1 : Int32) (σ : ma_H), ma_rn ro d 72 (33, [v0, v1, v2, v3], [.int x1], SH, σ) = some (some (.int x1), SH, σ)) ∧
  (∀ (v0 : Option Value) (v1 : Option Value) (v3 : Option Value) (x1 : Int32) (st : List Value) (σ : ma_H), ma_rn ro d 72 (34, [v0, v1, some (.int x1), v3], st, SH, σ) = ma_rn ro d 72 (35, [v0, v1, some (.int x1), v3], .int x1 :: st, SH, σ)) ∧
  (∀ (v0 : Option Value) (v1 : Option Value) (v2 : Option Value) (v3 : Option Value) (st : List Value) (σ : ma_H), ma_rn ro d 72 (35, [v0, v1, v2, v3], st, SH, σ) = ma_rn ro d 72 (37, [v0, v1, v2, v3], .int (nI 20) :: st, SH, σ)) ∧
  (∀ (v0 : Option Value) (v1 : Option Value) (v2 : Option Value) (v3 : Option Value) (x1 : Int32) (x2 : Int32) (σ : ma_H), ma_rn ro (d + 1) 72 (37, [v0, v1, v2, v3], .int x2 :: .int x1 :: [], SH, σ) = (ma_ev ro d 88 [.int x1, .int x2] SH σ).bind (fun q => ma_rn ro (d + 1) 72 (40, [v0, v1, v2, v3], (q.1.toList ++ []), q.2.1, q.2.2))) ∧
  (∀ (v0 : Option Value) (v1 : Option Value) (v2 : Option Value) (v3 : Option Value) (x1 : Int32) (st : List Value) (σ : ma_H), ma_rn ro d 72 (40, [v0, v1, v2, v3], .int x1 :: st, SH, σ) = if x1 = nI 0 then ma_rn ro d 72 (46, [v0, v1, v2, v3], st, SH, σ) else ma_rn ro d 72 (43, [v0, v1, v2, v3], st, SH, σ)) ∧
  (∀ (v0 : Option Value) (v1 : Option Value) (v2 : Option Value) (v3 : Option Value) (st : List Value) (σ : ma_H), ma_rn ro d 72 (43, [v0, v1, v2, v3], st, SH, σ) = ma_rn ro d 72 (45, [v0, v1, v2, v3], .int ((-2)) :: st, SH, σ)) ∧
  (∀ (v0 : Option Value) (v1 : Option Value) (v2 : Option Value) (v3 : Option Value) (x1 : Int32) (σ : ma_H), ma_rn ro d 72 (45, [v0, v1, v2, v3], [.int x1], SH, σ) = some (some (.int x1), SH, σ)) ∧
  (∀ (v1 : Option Value) (v2 : Option Value) (v3 : Option Value) (a1 : Nat) (st : List Value) (σ : ma_H), ma_rn ro d 72 (46, [some (.ref a1), v1, v2, v3], st, SH, σ) = ma_rn ro d 72 (47, [some (.ref a1), v1, v2, v3], .ref a1 :: st, SH, σ)) ∧
  (∀ (v0 : Option Value) (v1 : Option Value) (v2 : Option Value) (v3 : Option Value) (a1 : Nat) (st : List Value) (σ : ma_H) (hc : hk_cls a1 = 7), ma_rn ro d 72 (47, [v0, v1, v2, v3], .ref a1 :: st, SH, σ) = ma_rn ro d 72 (50, [v0, v1, v2, v3], .ref (1) :: st, SH, σ)) ∧
  (∀ (v0 : Option Value) (v1 : Option Value) (v2 : Option Value) (v3 : Option Value) (a1 : Nat) (st : List Value) (σ : ma_H) (hc : hk_cls a1 = 5), ma_rn ro d 72 (50, [v0, v1, v2, v3], .ref a1 :: st, SH, σ) = ma_rn ro d 72 (53, [v0, v1, v2, v3], .ref (a1 + 20) :: st, SH, σ)) ∧
  (∀ (v0 : Option Value) (v2 : Option Value) (v3 : Option Value) (x1 : Int32) (st : List Value) (σ : ma_H), ma_rn ro d 72 (53, [v0, some (.int x1), v2, v3], st, SH, σ) = ma_rn ro d 72 (54, [v0, some (.int x1), v2, v3], .int x1 :: st, SH, σ)) ∧
  (∀ (v0 : Option Value) (v1 : Option Value) (v3 : Option Value) (x1 : Int32) (st : List Value) (σ : ma_H), ma_rn ro d 72 (54, [v0, v1, some (.int x1), v3], st, SH, σ) = ma_rn ro d 72 (55, [v0, v1, some (.int x1), v3], .int x1 :: st, SH, σ)) ∧
  (∀ (v0 : Option Value) (v1 : Option Value) (v2 : Option Value) (x1 : Int32) (st : List Value) (σ : ma_H), ma_rn ro d 72 (55, [v0, v1, v2, some (.int x1)], st, SH, σ) = ma_rn ro d 72 (56, [v0, v1, v2, some (.int x1)], .int x1 :: st, SH, σ)) ∧
  (∀ (v0 : Option Value) (v1 : Option Value) (v2 : Option Value) (v3 : Option Value) (x1 : Int32) (x2 : Int32) (x3 : Int32) (a0 : Nat) (σ : ma_H) (hc : hk_cls a0 = 4), ma_rn ro (d + 1) 72 (56, [v0, v1, v2, v3], .int x3 :: .int x2 :: .int x1 :: .ref a0 :: [], SH, σ) = (ma_ev ro d 39 [.ref a0, .int x1, .int x2, .int x3] SH σ).bind (fun q => ma_rn ro (d + 1) 72 (59, [v0, v1, v2, v3], (q.1.toList ++ []), q.2.1, q.2.2))) ∧
  (∀ (v0 : Option Value) (v1 : Option Value) (v2 : Option Value) (v3 : Option Value) (x1 : Int32) (st : List Value) (σ : ma_H), ma_rn ro d 72 (59, [v0, v1, v2, v3], .int x1 :: st, SH, σ) = if x1 = nI 0 then ma_rn ro d 72 (75, [v0, v1, v2, v3], st, SH, σ) else ma_rn ro d 72 (62, [v0, v1, v2, v3], st, SH, σ)) ∧
  (∀ (v1 : Option Value) (v2 : Option Value) (v3 : Option Value) (a1 : Nat) (st : List Value) (σ : ma_H), ma_rn ro d 72 (62, [some (.ref a1), v1, v2, v3], st, SH, σ) = ma_rn ro d 72 (63, [some (.ref a1), v1, v2, v3], .ref a1 :: st, SH, σ)) ∧
  (∀ (v0 : Option Value) (v1 : Option Value) (v2 : Option Value) (v3 : Option Value) (a1 : Nat) (st : List Value) (σ : ma_H) (hc : hk_cls a1 = 7), ma_rn ro d 72 (63, [v0, v1, v2, v3], .ref a1 :: st, SH, σ) = ma_rn ro d 72 (66, [v0, v1, v2, v3], .ref (1) :: st, SH, σ)) ∧
  (∀ (v0 : Option Value) (v1 : Option Value) (v2 : Option Value) (v3 : Option Value) (a1 : Nat) (st : List Value) (σ : ma_H) (hc : hk_cls a1 = 5), ma_rn ro d 72 (66, [v0, v1, v2, v3], .ref a1 :: st, SH, σ) = ma_rn ro d 72 (69, [v0, v1, v2, v3], .ref (a1 + 20) :: st, SH, σ)) ∧
  (∀ (v0 : Option Value) (v1 : Option Value) (v2 : Option Value) (v3 : Option Value) (a1 : Nat) (st : List Value) (σ : ma_H) (hc : hk_cls a1 = 4), ma_rn ro d 72 (69, [v0, v1, v2, v3], .ref a1 :: st, SH, σ) = ma_rn ro d 72 (72, [v0, v1, v2, v3], .int (σ a1 3) :: st, SH, σ)) ∧
  (∀ (v0 : Option Value) (v1 : Option Value) (v2 : Option Value) (v3 : Option Value) (st : List Value) (σ : ma_H), ma_rn ro d 72 (72, [v0, v1, v2, v3], st, SH, σ) = ma_rn ro d 72 (77, [v0, v1, v2, v3], st, SH, σ)) ∧
  (∀ (v0 : Option Value) (v1 : Option Value) (v2 : Option Value) (v3 : Option Value) (st : List Value) (σ : ma_H), ma_rn ro d 72 (75, [v0, v1, v2, v3], st, SH, σ) = ma_rn ro d 72 (77, [v0, v1, v2, v3], .int ((-4)) :: st, SH, σ)) ∧
  (∀ (v0 : Option Value) (v1 : Option Value) (v2 : Option Value) (v3 : Option Value) (x1 : Int32) (σ : ma_H), ma_rn ro d 72 (77, [v0, v1, v2, v3], [.int x1], SH, σ) = some (some (.int x1), SH, σ)) := ⟨fun v0 v2 v3 x1 st σ => q_go e72_0 rfl rfl,
  fun v0 v1 v2 v3 st σ => q_iconst e72_1 (by decide),
  fun v0 v1 v2 v3 x1 x2 st σ => (q_cmp e72_2 rfl).trans q_ne,
  fun v1 v2 v3 a1 st σ => q_go e72_5 rfl rfl,
  fun v0 v1 v2 v3 a1 st σ hc => q_getA e72_6 o_72 f_7_12 (by decide) hc,
  fun v0 v1 v2 v3 a1 st σ hc => q_getA e72_9 o_72 f_7_193 (by decide) hc,
  fun v0 v1 v2 v3 st σ => q_iconst e72_12 (by decide),
  fun v0 v1 v2 v3 x1 a2 st σ hc => q_putI e72_13 o_72 f_7_197 (by decide) rfl hc,
  fun v0 v1 v2 v3 st σ => q_iconst e72_16 (by decide),
  fun v0 v1 v2 v3 x1 σ => q_iret e72_17 r_72,
  fun v1 v2 v3 a1 st σ => q_go e72_18 rfl rfl,
  fun v0 v1 v2 v3 a1 st σ hc => q_getA e72_19 o_72 f_7_12 (by decide) hc,
  fun v0 v1 v2 v3 a1 st σ hc => q_getA e72_22 o_72 f_7_93 (by decide) hc,
  fun v0 v2 v3 x1 st σ => q_go e72_25 rfl rfl,
  fun v0 v1 v2 v3 x1 a0 σ hc => q_invV (as := [.int x1]) (rest := []) e72_26 o_72 bn_7_102 c_7_102 m_50 (by decide) rfl rfl (Nat.le_of_ble_eq_true rfl) (Nat.le_of_ble_eq_true rfl) hc,
  fun v0 v1 v2 v3 a1 st σ => q_ifnonnullR e72_29 rfl,
  fun v0 v1 v2 v3 st σ => q_ifnonnullN e72_29 rfl,
  fun v0 v1 v2 v3 st σ => q_iconst e72_32 (by decide),
  fun v0 v1 v2 v3 x1 σ => q_iret e72_33 r_72,
  fun v0 v1 v3 x1 st σ => q_go e72_34 rfl rfl,
  fun v0 v1 v2 v3 st σ => q_bipush e72_35 (by decide),
  fun v0 v1 v2 v3 x1 x2 σ => q_invS (as := [.int x1, .int x2]) (rest := []) e72_37 o_72 bn_7_67 c_7_67 ⟨m_88.1, m_88.2.1, m_88.2.2.1⟩ rfl rfl (Nat.le_of_ble_eq_true rfl) (Nat.le_of_ble_eq_true rfl),
  fun v0 v1 v2 v3 x1 st σ => (q_if e72_40 rfl).trans q_eq,
  fun v0 v1 v2 v3 st σ => q_bipush e72_43 (by decide),
  fun v0 v1 v2 v3 x1 σ => q_iret e72_45 r_72,
  fun v1 v2 v3 a1 st σ => q_go e72_46 rfl rfl,
  fun v0 v1 v2 v3 a1 st σ hc => q_getA e72_47 o_72 f_7_12 (by decide) hc,
  fun v0 v1 v2 v3 a1 st σ hc => q_getA e72_50 o_72 f_7_193 (by decide) hc,
  fun v0 v2 v3 x1 st σ => q_go e72_53 rfl rfl,
  fun v0 v1 v3 x1 st σ => q_go e72_54 rfl rfl,
  fun v0 v1 v2 x1 st σ => q_go e72_55 rfl rfl,
  fun v0 v1 v2 v3 x1 x2 x3 a0 σ hc => q_invV (as := [.int x1, .int x2, .int x3]) (rest := []) e72_56 o_72 bn_7_200 c_7_200 m_39 (by decide) rfl rfl (Nat.le_of_ble_eq_true rfl) (Nat.le_of_ble_eq_true rfl) hc,
  fun v0 v1 v2 v3 x1 st σ => (q_if e72_59 rfl).trans q_eq,
  fun v1 v2 v3 a1 st σ => q_go e72_62 rfl rfl,
  fun v0 v1 v2 v3 a1 st σ hc => q_getA e72_63 o_72 f_7_12 (by decide) hc,
  fun v0 v1 v2 v3 a1 st σ hc => q_getA e72_66 o_72 f_7_193 (by decide) hc,
  fun v0 v1 v2 v3 a1 st σ hc => q_getI e72_69 o_72 f_7_197 (by decide) hc,
  fun v0 v1 v2 v3 st σ => q_goto e72_72 rfl,
  fun v0 v1 v2 v3 st σ => q_bipush e72_75 (by decide),
  fun v0 v1 v2 v3 x1 σ => q_iret e72_77 r_72⟩
theorem E72 {ro : ma_RO} {d : Nat} (a0 : Nat) (x1 : Int32) (x2 : Int32) (x3 : Int32) (sh : List ma_Sh) (σ : ma_H) : ma_ev ro d 72 [.ref a0, .int x1, .int x2, .int x3] sh σ = ma_rn ro d 72 (0, [some (.ref a0), some (.int x1), some (.int x2), some (.int x3)], [], sh, σ) := q_ent x_72 rfl
theorem e73_0 : decode (ma_cd 73) 0 = .ok (.iload_n 1, 1) := (congrArg (fun b => decode b 0) cd_73).trans dX7_hurries_0
theorem e73_1 : decode (ma_cd 73) 1 = .ok (.iconst 1, 1) := (congrArg (fun b => decode b 1) cd_73).trans dX7_hurries_1
theorem e73_2 : decode (ma_cd 73) 2 = .ok (.invokestatic 67, 3) := (congrArg (fun b => decode b 2) cd_73).trans dX7_hurries_2
theorem e73_5 : decode (ma_cd 73) 5 = .ok (.ifCond .eq 5, 3) := (congrArg (fun b => decode b 5) cd_73).trans dX7_hurries_5
theorem e73_8 : decode (ma_cd 73) 8 = .ok (.iconst (-1), 1) := (congrArg (fun b => decode b 8) cd_73).trans dX7_hurries_8
theorem e73_9 : decode (ma_cd 73) 9 = .ok (.ireturn, 1) := (congrArg (fun b => decode b 9) cd_73).trans dX7_hurries_9
theorem e73_10 : decode (ma_cd 73) 10 = .ok (.iconst 0, 1) := (congrArg (fun b => decode b 10) cd_73).trans dX7_hurries_10
theorem e73_11 : decode (ma_cd 73) 11 = .ok (.istore_n 2, 1) := (congrArg (fun b => decode b 11) cd_73).trans dX7_hurries_11
theorem e73_12 : decode (ma_cd 73) 12 = .ok (.bipush (-5), 2) := (congrArg (fun b => decode b 12) cd_73).trans dX7_hurries_12
theorem e73_14 : decode (ma_cd 73) 14 = .ok (.istore_n 3, 1) := (congrArg (fun b => decode b 14) cd_73).trans dX7_hurries_14
theorem e73_15 : decode (ma_cd 73) 15 = .ok (.bipush 20, 2) := (congrArg (fun b => decode b 15) cd_73).trans dX7_hurries_15
theorem e73_17 : decode (ma_cd 73) 17 = .ok (.istore 4, 2) := (congrArg (fun b => decode b 17) cd_73).trans dX7_hurries_17
theorem e73_19 : decode (ma_cd 73) 19 = .ok (.iload 4, 2) := (congrArg (fun b => decode b 19) cd_73).trans dX7_hurries_19
theorem e73_21 : decode (ma_cd 73) 21 = .ok (.ifCond .lt 27, 3) := (congrArg (fun b => decode b 21) cd_73).trans dX7_hurries_21
theorem e73_24 : decode (ma_cd 73) 24 = .ok (.aload_n 0, 1) := (congrArg (fun b => decode b 24) cd_73).trans dX7_hurries_24
theorem e73_25 : decode (ma_cd 73) 25 = .ok (.iload 4, 2) := (congrArg (fun b => decode b 25) cd_73).trans dX7_hurries_25
theorem e73_27 : decode (ma_cd 73) 27 = .ok (.iconst (-1), 1) := (congrArg (fun b => decode b 27) cd_73).trans dX7_hurries_27
theorem e73_28 : decode (ma_cd 73) 28 = .ok (.iconst 0, 1) := (congrArg (fun b => decode b 28) cd_73).trans dX7_hurries_28
theorem e73_29 : decode (ma_cd 73) 29 = .ok (.iconst 0, 1) := (congrArg (fun b => decode b 29) cd_73).trans dX7_hurries_29
theorem e73_30 : decode (ma_cd 73) 30 = .ok (.invokevirtual 204, 3) := (congrArg (fun b => decode b 30) cd_73).trans dX7_hurries_30
theorem e73_33 : decode (ma_cd 73) 33 = .ok (.ifCond .eq 9, 3) := (congrArg (fun b => decode b 33) cd_73).trans dX7_hurries_33
theorem e73_36 : decode (ma_cd 73) 36 = .ok (.iinc 2 1, 3) := (congrArg (fun b => decode b 36) cd_73).trans dX7_hurries_36
theorem e73_39 : decode (ma_cd 73) 39 = .ok (.iload 4, 2) := (congrArg (fun b => decode b 39) cd_73).trans dX7_hurries_39
theorem e73_41 : decode (ma_cd 73) 41 = .ok (.istore_n 3, 1) := (congrArg (fun b => decode b 41) cd_73).trans dX7_hurries_41
theorem e73_42 : decode (ma_cd 73) 42 = .ok (.iinc 4 (-1), 3) := (congrArg (fun b => decode b 42) cd_73).trans dX7_hurries_42
theorem e73_45 : decode (ma_cd 73) 45 = .ok (.goto (-26), 3) := (congrArg (fun b => decode b 45) cd_73).trans dX7_hurries_45
theorem e73_48 : decode (ma_cd 73) 48 = .ok (.iload_n 1, 1) := (congrArg (fun b => decode b 48) cd_73).trans dX7_hurries_48
theorem e73_49 : decode (ma_cd 73) 49 = .ok (.ifCond .ne 7, 3) := (congrArg (fun b => decode b 49) cd_73).trans dX7_hurries_49
theorem e73_52 : decode (ma_cd 73) 52 = .ok (.iload_n 2, 1) := (congrArg (fun b => decode b 52) cd_73).trans dX7_hurries_52
theorem e73_53 : decode (ma_cd 73) 53 = .ok (.goto 4, 3) := (congrArg (fun b => decode b 53) cd_73).trans dX7_hurries_53
theorem e73_56 : decode (ma_cd 73) 56 = .ok (.iload_n 3, 1) := (congrArg (fun b => decode b 56) cd_73).trans dX7_hurries_56
theorem e73_57 : decode (ma_cd 73) 57 = .ok (.ireturn, 1) := (congrArg (fun b => decode b 57) cd_73).trans dX7_hurries_57
theorem Sh73_19 {ro : ma_RO} {d : Nat} : (∀ (v0 : Option Value) (v1 : Option Value) (v2 : Option Value) (v3 : Option Value) (x1 : Int32) (st : List Value) (σ : ma_H), ma_rn ro d 73 (19, [v0, v1, v2, v3, some (.int x1)], st, SH, σ) = ma_rn ro d 73 (21, [v0, v1, v2, v3, some (.int x1)], .int x1 :: st, SH, σ)) := fun v0 v1 v2 v3 x1 st σ => q_go e73_19 rfl rfl
theorem S73 {ro : ma_RO} {d : Nat} : (∀ (v0 : Option Value) (v2 : Option Value) (v3 : Option Value) (v4 : Option Value) (x1 : Int32) (st : List Value) (σ : ma_H), ma_rn ro d 73 (0, [v0, some (.int x1), v2, v3, v4], st, SH, σ) = ma_rn ro d 73 (1, [v0, some (.int x1), v2, v3, v4], .int x1 :: st, SH, σ)) ∧
  (∀ (v0 : Option Value) (v1 : Option Value) (v2 : Option Value) (v3 : Option Value) (v4 : Option Value) (st : List Value) (σ : ma_H), ma_rn ro d 73 (1, [v0, v1, v2, v3, v4], st, SH, σ) = ma_rn ro d 73 (2, [v0, v1, v2, v3, v4], .int (nI 1) :: st, SH, σ)) ∧
  (∀ (v0 : Option Value) (v1 : Option Value) (v2 : Option Value) (v3 : Option Value) (v4 : Option Value) (x1 : Int32) (x2 : Int32) (σ : ma_H), ma_rn ro (d + 1) 73 (2, [v0, v1, v2, v3, v4], .int x2 :: .int x1 :: [], SH, σ) = (ma_ev ro d 88 [.int x1, .int x2] SH σ).bind (fun q => ma_rn ro (d + 1) 73 (5, [v0, v1, v2, v3, v4], (q.1.toList ++ []), q.2.1, q.2.2))) ∧
  (∀ (v0 : Option Value) (v1 : Option Value) (v2 : Option Value) (v3 : Option Value) (v4 : Option Value) (x1 : Int32) (st : List Value) (σ : ma_H), ma_rn ro d 73 (5, [v0, v1, v2, v3, v4], .int x1 :: st, SH, σ) = if x1 = nI 0 then ma_rn ro d 73 (10, [v0, v1, v2, v3, v4], st, SH, σ) else ma_rn ro d 73 (8, [v0, v1, v2, v3, v4], st, SH, σ)) ∧
  (∀ (v0 : Option Value) (v1 : Option Value) (v2 : Option Value) (v3 : Option Value) (v4 : Option Value) (st : List Value) (σ : ma_H), ma_rn ro d 73 (8, [v0, v1, v2, v3, v4], st, SH, σ) = ma_rn ro d 73 (9, [v0, v1, v2, v3, v4], .int ((-1)) :: st, SH, σ)) ∧
  (∀ (v0 : Option Value) (v1 : Option Value) (v2 : Option Value) (v3 : Option Value) (v4 : Option Value) (x1 : Int32) (σ : ma_H), ma_rn ro d 73 (9, [v0, v1, v2, v3, v4], [.int x1], SH, σ) = some (some (.int x1), SH, σ)) ∧
  (∀ (v0 : Option Value) (v1 : Option Value) (v2 : Option Value) (v3 : Option Value) (v4 : Option Value) (st : List Value) (σ : ma_H), ma_rn ro d 73 (10, [v0, v1, v2, v3, v4], st, SH, σ) = ma_rn ro d 73 (11, [v0, v1, v2, v3, v4], .int (nI 0) :: st, SH, σ)) ∧
  (∀ (v0 : Option Value) (v2 : Option Value) (v3 : Option Value) (v4 : Option Value) (x9 : Int32) (x1 : Int32) (st : List Value) (σ : ma_H), ma_rn ro d 73 (11, [v0, some (.int x9), v2, v3, v4], .int x1 :: st, SH, σ) = ma_rn ro d 73 (12, [v0, some (.int x9), some (.int x1), v3, v4], st, SH, σ)) ∧
  (∀ (v0 : Option Value) (v1 : Option Value) (v2 : Option Value) (v3 : Option Value) (v4 : Option Value) (st : List Value) (σ : ma_H), ma_rn ro d 73 (12, [v0, v1, v2, v3, v4], st, SH, σ) = ma_rn ro d 73 (14, [v0, v1, v2, v3, v4], .int ((-5)) :: st, SH, σ)) ∧
  (∀ (v0 : Option Value) (v1 : Option Value) (v3 : Option Value) (v4 : Option Value) (x9 : Int32) (x1 : Int32) (st : List Value) (σ : ma_H), ma_rn ro d 73 (14, [v0, v1, some (.int x9), v3, v4], .int x1 :: st, SH, σ) = ma_rn ro d 73 (15, [v0, v1, some (.int x9), some (.int x1), v4], st, SH, σ)) ∧
  (∀ (v0 : Option Value) (v1 : Option Value) (v2 : Option Value) (v3 : Option Value) (v4 : Option Value) (st : List Value) (σ : ma_H), ma_rn ro d 73 (15, [v0, v1, v2, v3, v4], st, SH, σ) = ma_rn ro d 73 (17, [v0, v1, v2, v3, v4], .int (nI 20) :: st, SH, σ)) ∧
  (∀ (v0 : Option Value) (v1 : Option Value) (v2 : Option Value) (v4 : Option Value) (x9 : Int32) (x1 : Int32) (st : List Value) (σ : ma_H), ma_rn ro d 73 (17, [v0, v1, v2, some (.int x9), v4], .int x1 :: st, SH, σ) = ma_rn ro d 73 (19, [v0, v1, v2, some (.int x9), some (.int x1)], st, SH, σ)) ∧
  (∀ (v0 : Option Value) (v1 : Option Value) (v2 : Option Value) (v3 : Option Value) (v4 : Option Value) (x1 : Int32) (st : List Value) (σ : ma_H), ma_rn ro d 73 (21, [v0, v1, v2, v3, v4], .int x1 :: st, SH, σ) = if x1 < nI 0 then ma_rn ro d 73 (48, [v0, v1, v2, v3, v4], st, SH, σ) else ma_rn ro d 73 (24, [v0, v1, v2, v3, v4], st, SH, σ)) ∧
  (∀ (v1 : Option Value) (v2 : Option Value) (v3 : Option Value) (v4 : Option Value) (a1 : Nat) (st : List Value) (σ : ma_H), ma_rn ro d 73 (24, [some (.ref a1), v1, v2, v3, v4], st, SH, σ) = ma_rn ro d 73 (25, [some (.ref a1), v1, v2, v3, v4], .ref a1 :: st, SH, σ)) ∧
  (∀ (v0 : Option Value) (v1 : Option Value) (v2 : Option Value) (v3 : Option Value) (x1 : Int32) (st : List Value) (σ : ma_H), ma_rn ro d 73 (25, [v0, v1, v2, v3, some (.int x1)], st, SH, σ) = ma_rn ro d 73 (27, [v0, v1, v2, v3, some (.int x1)], .int x1 :: st, SH, σ)) ∧
  (∀ (v0 : Option Value) (v1 : Option Value) (v2 : Option Value) (v3 : Option Value) (v4 : Option Value) (st : List Value) (σ : ma_H), ma_rn ro d 73 (27, [v0, v1, v2, v3, v4], st, SH, σ) = ma_rn ro d 73 (28, [v0, v1, v2, v3, v4], .int ((-1)) :: st, SH, σ)) ∧
  (∀ (v0 : Option Value) (v1 : Option Value) (v2 : Option Value) (v3 : Option Value) (v4 : Option Value) (st : List Value) (σ : ma_H), ma_rn ro d 73 (28, [v0, v1, v2, v3, v4], st, SH, σ) = ma_rn ro d 73 (29, [v0, v1, v2, v3, v4], .int (nI 0) :: st, SH, σ)) ∧
  (∀ (v0 : Option Value) (v1 : Option Value) (v2 : Option Value) (v3 : Option Value) (v4 : Option Value) (st : List Value) (σ : ma_H), ma_rn ro d 73 (29, [v0, v1, v2, v3, v4], st, SH, σ) = ma_rn ro d 73 (30, [v0, v1, v2, v3, v4], .int (nI 0) :: st, SH, σ)) ∧
  (∀ (v0 : Option Value) (v1 : Option Value) (v2 : Option Value) (v3 : Option Value) (v4 : Option Value) (x1 : Int32) (x2 : Int32) (x3 : Int32) (x4 : Int32) (a0 : Nat) (σ : ma_H) (hc : hk_cls a0 = 7), ma_rn ro (d + 1) 73 (30, [v0, v1, v2, v3, v4], .int x4 :: .int x3 :: .int x2 :: .int x1 :: .ref a0 :: [], SH, σ) = (ma_ev ro d 94 [.ref a0, .int x1, .int x2, .int x3, .int x4] SH σ).bind (fun q => ma_rn ro (d + 1) 73 (33, [v0, v1, v2, v3, v4], (q.1.toList ++ []), q.2.1, q.2.2))) ∧
  (∀ (v0 : Option Value) (v1 : Option Value) (v2 : Option Value) (v3 : Option Value) (v4 : Option Value) (x1 : Int32) (st : List Value) (σ : ma_H), ma_rn ro d 73 (33, [v0, v1, v2, v3, v4], .int x1 :: st, SH, σ) = if x1 = nI 0 then ma_rn ro d 73 (42, [v0, v1, v2, v3, v4], st, SH, σ) else ma_rn ro d 73 (36, [v0, v1, v2, v3, v4], st, SH, σ)) ∧
  (∀ (v0 : Option Value) (v3 : Option Value) (v4 : Option Value) (x1 : Int32) (x9 : Int32) (st : List Value) (σ : ma_H), ma_rn ro d 73 (36, [v0, some (.int x9), some (.int x1), v3, v4], st, SH, σ) = ma_rn ro d 73 (39, [v0, some (.int x9), some (.int (x1 + nI 1)), v3, v4], st, SH, σ)) ∧
  (∀ (v0 : Option Value) (v1 : Option Value) (v2 : Option Value) (v3 : Option Value) (x1 : Int32) (st : List Value) (σ : ma_H), ma_rn ro d 73 (39, [v0, v1, v2, v3, some (.int x1)], st, SH, σ) = ma_rn ro d 73 (41, [v0, v1, v2, v3, some (.int x1)], .int x1 :: st, SH, σ)) ∧
  (∀ (v0 : Option Value) (v1 : Option Value) (v3 : Option Value) (v4 : Option Value) (x9 : Int32) (x1 : Int32) (st : List Value) (σ : ma_H), ma_rn ro d 73 (41, [v0, v1, some (.int x9), v3, v4], .int x1 :: st, SH, σ) = ma_rn ro d 73 (42, [v0, v1, some (.int x9), some (.int x1), v4], st, SH, σ)) ∧
  (∀ (v0 : Option Value) (v1 : Option Value) (v2 : Option Value) (x1 : Int32) (x9 : Int32) (st : List Value) (σ : ma_H), ma_rn ro d 73 (42, [v0, v1, v2, some (.int x9), some (.int x1)], st, SH, σ) = ma_rn ro d 73 (45, [v0, v1, v2, some (.int x9), some (.int (x1 + (-1)))], st, SH, σ)) ∧
  (∀ (v0 : Option Value) (v1 : Option Value) (v2 : Option Value) (v3 : Option Value) (v4 : Option Value) (st : List Value) (σ : ma_H), ma_rn ro d 73 (45, [v0, v1, v2, v3, v4], st, SH, σ) = ma_rn ro d 73 (19, [v0, v1, v2, v3, v4], st, SH, σ)) ∧
  (∀ (v0 : Option Value) (v2 : Option Value) (v3 : Option Value) (v4 : Option Value) (x1 : Int32) (st : List Value) (σ : ma_H), ma_rn ro d 73 (48, [v0, some (.int x1), v2, v3, v4], st, SH, σ) = ma_rn ro d 73 (49, [v0, some (.int x1), v2, v3, v4], .int x1 :: st, SH, σ)) ∧
  (∀ (v0 : Option Value) (v1 : Option Value) (v2 : Option Value) (v3 : Option Value) (v4 : Option Value) (x1 : Int32) (st : List Value) (σ : ma_H), ma_rn ro d 73 (49, [v0, v1, v2, v3, v4], .int x1 :: st, SH, σ) = if x1 = nI 0 then ma_rn ro d 73 (52, [v0, v1, v2, v3, v4], st, SH, σ) else ma_rn ro d 73 (56, [v0, v1, v2, v3, v4], st, SH, σ)) ∧
  (∀ (v0 : Option Value) (v1 : Option Value) (v3 : Option Value) (v4 : Option Value) (x1 : Int32) (st : List Value) (σ : ma_H), ma_rn ro d 73 (52, [v0, v1, some (.int x1), v3, v4], st, SH, σ) = ma_rn ro d 73 (53, [v0, v1, some (.int x1), v3, v4], .int x1 :: st, SH, σ)) ∧
  (∀ (v0 : Option Value) (v1 : Option Value) (v2 : Option Value) (v3 : Option Value) (v4 : Option Value) (st : List Value) (σ : ma_H), ma_rn ro d 73 (53, [v0, v1, v2, v3, v4], st, SH, σ) = ma_rn ro d 73 (57, [v0, v1, v2, v3, v4], st, SH, σ)) ∧
  (∀ (v0 : Option Value) (v1 : Option Value) (v2 : Option Value) (v4 : Option Value) (x1 : Int32) (st : List Value) (σ : ma_H), ma_rn ro d 73 (56, [v0, v1, v2, some (.int x1), v4], st, SH, σ) = ma_rn ro d 73 (57, [v0, v1, v2, some (.int x1), v4], .int x1 :: st, SH, σ)) ∧
  (∀ (v0 : Option Value) (v1 : Option Value) (v2 : Option Value) (v3 : Option Value) (v4 : Option Value) (x1 : Int32) (σ : ma_H), ma_rn ro d 73 (57, [v0, v1, v2, v3, v4], [.int x1], SH, σ) = some (some (.int x1), SH, σ)) := ⟨fun v0 v2 v3 v4 x1 st σ => q_go e73_0 rfl rfl,
  fun v0 v1 v2 v3 v4 st σ => q_iconst e73_1 (by decide),
  fun v0 v1 v2 v3 v4 x1 x2 σ => q_invS (as := [.int x1, .int x2]) (rest := []) e73_2 o_73 bn_7_67 c_7_67 ⟨m_88.1, m_88.2.1, m_88.2.2.1⟩ rfl rfl (Nat.le_of_ble_eq_true rfl) (Nat.le_of_ble_eq_true rfl),
  fun v0 v1 v2 v3 v4 x1 st σ => (q_if e73_5 rfl).trans q_eq,
  fun v0 v1 v2 v3 v4 st σ => q_iconst e73_8 (by decide),
  fun v0 v1 v2 v3 v4 x1 σ => q_iret e73_9 r_73,
  fun v0 v1 v2 v3 v4 st σ => q_iconst e73_10 (by decide),
  fun v0 v2 v3 v4 x9 x1 st σ => q_go e73_11 rfl rfl,
  fun v0 v1 v2 v3 v4 st σ => q_bipush e73_12 (by decide),
  fun v0 v1 v3 v4 x9 x1 st σ => q_go e73_14 rfl rfl,
  fun v0 v1 v2 v3 v4 st σ => q_bipush e73_15 (by decide),
  fun v0 v1 v2 v4 x9 x1 st σ => q_go e73_17 rfl rfl,
  fun v0 v1 v2 v3 v4 x1 st σ => (q_if e73_21 rfl).trans q_lt,
  fun v1 v2 v3 v4 a1 st σ => q_go e73_24 rfl rfl,
  fun v0 v1 v2 v3 x1 st σ => q_go e73_25 rfl rfl,
  fun v0 v1 v2 v3 v4 st σ => q_iconst e73_27 (by decide),
  fun v0 v1 v2 v3 v4 st σ => q_iconst e73_28 (by decide),
  fun v0 v1 v2 v3 v4 st σ => q_iconst e73_29 (by decide),
  fun v0 v1 v2 v3 v4 x1 x2 x3 x4 a0 σ hc => q_invV (as := [.int x1, .int x2, .int x3, .int x4]) (rest := []) e73_30 o_73 bn_7_204 c_7_204 m_94 (by decide) rfl rfl (Nat.le_of_ble_eq_true rfl) (Nat.le_of_ble_eq_true rfl) hc,
  fun v0 v1 v2 v3 v4 x1 st σ => (q_if e73_33 rfl).trans q_eq,
  fun v0 v3 v4 x1 x9 st σ => q_iinc e73_36 rfl rfl (by decide),
  fun v0 v1 v2 v3 x1 st σ => q_go e73_39 rfl rfl,
  fun v0 v1 v3 v4 x9 x1 st σ => q_go e73_41 rfl rfl,
  fun v0 v1 v2 x1 x9 st σ => q_iinc e73_42 rfl rfl (by decide),
  fun v0 v1 v2 v3 v4 st σ => q_goto e73_45 rfl,
  fun v0 v2 v3 v4 x1 st σ => q_go e73_48 rfl rfl,
  fun v0 v1 v2 v3 v4 x1 st σ => (q_if e73_49 rfl).trans q_ne,
  fun v0 v1 v3 v4 x1 st σ => q_go e73_52 rfl rfl,
  fun v0 v1 v2 v3 v4 st σ => q_goto e73_53 rfl,
  fun v0 v1 v2 v4 x1 st σ => q_go e73_56 rfl rfl,
  fun v0 v1 v2 v3 v4 x1 σ => q_iret e73_57 r_73⟩
theorem E73 {ro : ma_RO} {d : Nat} (a0 : Nat) (x1 : Int32) (sh : List ma_Sh) (σ : ma_H) : ma_ev ro d 73 [.ref a0, .int x1] sh σ = ma_rn ro d 73 (0, [some (.ref a0), some (.int x1), none, none, none], [], sh, σ) := q_ent x_73 rfl
theorem e74_0 : decode (ma_cd 74) 0 = .ok (.aload_n 0, 1) := (congrArg (fun b => decode b 0) cd_74).trans dX7_firm_0
theorem e74_1 : decode (ma_cd 74) 1 = .ok (.getfield 12, 3) := (congrArg (fun b => decode b 1) cd_74).trans dX7_firm_1
theorem e74_4 : decode (ma_cd 74) 4 = .ok (.getfield 93, 3) := (congrArg (fun b => decode b 4) cd_74).trans dX7_firm_4
theorem e74_7 : decode (ma_cd 74) 7 = .ok (.iload_n 1, 1) := (congrArg (fun b => decode b 7) cd_74).trans dX7_firm_7
theorem e74_8 : decode (ma_cd 74) 8 = .ok (.invokevirtual 102, 3) := (congrArg (fun b => decode b 8) cd_74).trans dX7_firm_8
theorem e74_11 : decode (ma_cd 74) 11 = .ok (.astore_n 3, 1) := (congrArg (fun b => decode b 11) cd_74).trans dX7_firm_11
theorem e74_12 : decode (ma_cd 74) 12 = .ok (.aload_n 3, 1) := (congrArg (fun b => decode b 12) cd_74).trans dX7_firm_12
theorem e74_13 : decode (ma_cd 74) 13 = .ok (.ifnull 11, 3) := (congrArg (fun b => decode b 13) cd_74).trans dX7_firm_13
theorem e74_16 : decode (ma_cd 74) 16 = .ok (.iload_n 2, 1) := (congrArg (fun b => decode b 16) cd_74).trans dX7_firm_16
theorem e74_17 : decode (ma_cd 74) 17 = .ok (.iconst 1, 1) := (congrArg (fun b => decode b 17) cd_74).trans dX7_firm_17
theorem e74_18 : decode (ma_cd 74) 18 = .ok (.invokestatic 67, 3) := (congrArg (fun b => decode b 18) cd_74).trans dX7_firm_18
theorem e74_21 : decode (ma_cd 74) 21 = .ok (.ifCond .eq 5, 3) := (congrArg (fun b => decode b 21) cd_74).trans dX7_firm_21
theorem e74_24 : decode (ma_cd 74) 24 = .ok (.iconst (-1), 1) := (congrArg (fun b => decode b 24) cd_74).trans dX7_firm_24
theorem e74_25 : decode (ma_cd 74) 25 = .ok (.ireturn, 1) := (congrArg (fun b => decode b 25) cd_74).trans dX7_firm_25
theorem e74_26 : decode (ma_cd 74) 26 = .ok (.iconst 0, 1) := (congrArg (fun b => decode b 26) cd_74).trans dX7_firm_26
theorem e74_27 : decode (ma_cd 74) 27 = .ok (.istore 4, 2) := (congrArg (fun b => decode b 27) cd_74).trans dX7_firm_27
theorem e74_29 : decode (ma_cd 74) 29 = .ok (.bipush (-5), 2) := (congrArg (fun b => decode b 29) cd_74).trans dX7_firm_29
theorem e74_31 : decode (ma_cd 74) 31 = .ok (.istore 5, 2) := (congrArg (fun b => decode b 31) cd_74).trans dX7_firm_31
theorem e74_33 : decode (ma_cd 74) 33 = .ok (.bipush 9, 2) := (congrArg (fun b => decode b 33) cd_74).trans dX7_firm_33
theorem e74_35 : decode (ma_cd 74) 35 = .ok (.istore 6, 2) := (congrArg (fun b => decode b 35) cd_74).trans dX7_firm_35
theorem e74_37 : decode (ma_cd 74) 37 = .ok (.iload 6, 2) := (congrArg (fun b => decode b 37) cd_74).trans dX7_firm_37
theorem e74_39 : decode (ma_cd 74) 39 = .ok (.ifCond .lt 40, 3) := (congrArg (fun b => decode b 39) cd_74).trans dX7_firm_39
theorem e74_42 : decode (ma_cd 74) 42 = .ok (.aload_n 0, 1) := (congrArg (fun b => decode b 42) cd_74).trans dX7_firm_42
theorem e74_43 : decode (ma_cd 74) 43 = .ok (.aload_n 0, 1) := (congrArg (fun b => decode b 43) cd_74).trans dX7_firm_43
theorem e74_44 : decode (ma_cd 74) 44 = .ok (.getfield 12, 3) := (congrArg (fun b => decode b 44) cd_74).trans dX7_firm_44
theorem e74_47 : decode (ma_cd 74) 47 = .ok (.getfield 93, 3) := (congrArg (fun b => decode b 47) cd_74).trans dX7_firm_47
theorem e74_50 : decode (ma_cd 74) 50 = .ok (.getfield 150, 3) := (congrArg (fun b => decode b 50) cd_74).trans dX7_firm_50
theorem e74_53 : decode (ma_cd 74) 53 = .ok (.iload_n 1, 1) := (congrArg (fun b => decode b 53) cd_74).trans dX7_firm_53
theorem e74_54 : decode (ma_cd 74) 54 = .ok (.iload 6, 2) := (congrArg (fun b => decode b 54) cd_74).trans dX7_firm_54
theorem e74_56 : decode (ma_cd 74) 56 = .ok (.aload_n 3, 1) := (congrArg (fun b => decode b 56) cd_74).trans dX7_firm_56
theorem e74_57 : decode (ma_cd 74) 57 = .ok (.getfield 120, 3) := (congrArg (fun b => decode b 57) cd_74).trans dX7_firm_57
theorem e74_60 : decode (ma_cd 74) 60 = .ok (.invokevirtual 204, 3) := (congrArg (fun b => decode b 60) cd_74).trans dX7_firm_60
theorem e74_63 : decode (ma_cd 74) 63 = .ok (.ifCond .eq 10, 3) := (congrArg (fun b => decode b 63) cd_74).trans dX7_firm_63
theorem e74_66 : decode (ma_cd 74) 66 = .ok (.iinc 4 1, 3) := (congrArg (fun b => decode b 66) cd_74).trans dX7_firm_66
theorem e74_69 : decode (ma_cd 74) 69 = .ok (.iload 6, 2) := (congrArg (fun b => decode b 69) cd_74).trans dX7_firm_69
theorem e74_71 : decode (ma_cd 74) 71 = .ok (.istore 5, 2) := (congrArg (fun b => decode b 71) cd_74).trans dX7_firm_71
theorem e74_73 : decode (ma_cd 74) 73 = .ok (.iinc 6 (-1), 3) := (congrArg (fun b => decode b 73) cd_74).trans dX7_firm_73
theorem e74_76 : decode (ma_cd 74) 76 = .ok (.goto (-39), 3) := (congrArg (fun b => decode b 76) cd_74).trans dX7_firm_76
theorem e74_79 : decode (ma_cd 74) 79 = .ok (.iload_n 2, 1) := (congrArg (fun b => decode b 79) cd_74).trans dX7_firm_79
theorem e74_80 : decode (ma_cd 74) 80 = .ok (.ifCond .ne 8, 3) := (congrArg (fun b => decode b 80) cd_74).trans dX7_firm_80
theorem e74_83 : decode (ma_cd 74) 83 = .ok (.iload 4, 2) := (congrArg (fun b => decode b 83) cd_74).trans dX7_firm_83
theorem e74_85 : decode (ma_cd 74) 85 = .ok (.goto 5, 3) := (congrArg (fun b => decode b 85) cd_74).trans dX7_firm_85
theorem e74_88 : decode (ma_cd 74) 88 = .ok (.iload 5, 2) := (congrArg (fun b => decode b 88) cd_74).trans dX7_firm_88
theorem e74_90 : decode (ma_cd 74) 90 = .ok (.ireturn, 1) := (congrArg (fun b => decode b 90) cd_74).trans dX7_firm_90
theorem Sh74_37 {ro : ma_RO} {d : Nat} : (∀ (v0 : Option Value) (v1 : Option Value) (v2 : Option Value) (v3 : Option Value) (v4 : Option Value) (v5 : Option Value) (x1 : Int32) (st : List Value) (σ : ma_H), ma_rn ro d 74 (37, [v0, v1, v2, v3, v4, v5, some (.int x1)], st, SH, σ) = ma_rn ro d 74 (39, [v0, v1, v2, v3, v4, v5, some (.int x1)], .int x1 :: st, SH, σ)) := fun v0 v1 v2 v3 v4 v5 x1 st σ => q_go e74_37 rfl rfl
theorem S74 {ro : ma_RO} {d : Nat} : (∀ (v1 : Option Value) (v2 : Option Value) (v3 : Option Value) (v4 : Option Value) (v5 : Option Value) (v6 : Option Value) (a1 : Nat) (st : List Value) (σ : ma_H), ma_rn ro d 74 (0, [some (.ref a1), v1, v2, v3, v4, v5, v6], st, SH, σ) = ma_rn ro d 74 (1, [some (.ref a1), v1, v2, v3, v4, v5, v6], .ref a1 :: st, SH, σ)) ∧
  (∀ (v0 : Option Value) (v1 : Option Value) (v2 : Option Value) (v3 : Option Value) (v4 : Option Value) (v5 : Option Value) (v6 : Option Value) (a1 : Nat) (st : List Value) (σ : ma_H) (hc : hk_cls a1 = 7), ma_rn ro d 74 (1, [v0, v1, v2, v3, v4, v5, v6], .ref a1 :: st, SH, σ) = ma_rn ro d 74 (4, [v0, v1, v2, v3, v4, v5, v6], .ref (1) :: st, SH, σ)) ∧
  (∀ (v0 : Option Value) (v1 : Option Value) (v2 : Option Value) (v3 : Option Value) (v4 : Option Value) (v5 : Option Value) (v6 : Option Value) (a1 : Nat) (st : List Value) (σ : ma_H) (hc : hk_cls a1 = 5), ma_rn ro d 74 (4, [v0, v1, v2, v3, v4, v5, v6], .ref a1 :: st, SH, σ) = ma_rn ro d 74 (7, [v0, v1, v2, v3, v4, v5, v6], .ref (a1 + 1) :: st, SH, σ)) ∧
  (∀ (v0 : Option Value) (v2 : Option Value) (v3 : Option Value) (v4 : Option Value) (v5 : Option Value) (v6 : Option Value) (x1 : Int32) (st : List Value) (σ : ma_H), ma_rn ro d 74 (7, [v0, some (.int x1), v2, v3, v4, v5, v6], st, SH, σ) = ma_rn ro d 74 (8, [v0, some (.int x1), v2, v3, v4, v5, v6], .int x1 :: st, SH, σ)) ∧
  (∀ (v0 : Option Value) (v1 : Option Value) (v2 : Option Value) (v3 : Option Value) (v4 : Option Value) (v5 : Option Value) (v6 : Option Value) (x1 : Int32) (a0 : Nat) (σ : ma_H) (hc : hk_cls a0 = 6), ma_rn ro (d + 1) 74 (8, [v0, v1, v2, v3, v4, v5, v6], .int x1 :: .ref a0 :: [], SH, σ) = (ma_ev ro d 50 [.ref a0, .int x1] SH σ).bind (fun q => ma_rn ro (d + 1) 74 (11, [v0, v1, v2, v3, v4, v5, v6], (q.1.toList ++ []), q.2.1, q.2.2))) ∧
  (∀ (v0 : Option Value) (v1 : Option Value) (v3 : Option Value) (v4 : Option Value) (v5 : Option Value) (v6 : Option Value) (x9 : Int32) (a1 : Nat) (st : List Value) (σ : ma_H), ma_rn ro d 74 (11, [v0, v1, some (.int x9), v3, v4, v5, v6], .ref a1 :: st, SH, σ) = ma_rn ro d 74 (12, [v0, v1, some (.int x9), some (.ref a1), v4, v5, v6], st, SH, σ)) ∧
  (∀ (v0 : Option Value) (v1 : Option Value) (v3 : Option Value) (v4 : Option Value) (v5 : Option Value) (v6 : Option Value) (x9 : Int32) (st : List Value) (σ : ma_H), ma_rn ro d 74 (11, [v0, v1, some (.int x9), v3, v4, v5, v6], .null :: st, SH, σ) = ma_rn ro d 74 (12, [v0, v1, some (.int x9), some .null, v4, v5, v6], st, SH, σ)) ∧
  (∀ (v0 : Option Value) (v1 : Option Value) (v2 : Option Value) (v4 : Option Value) (v5 : Option Value) (v6 : Option Value) (a1 : Nat) (st : List Value) (σ : ma_H), ma_rn ro d 74 (12, [v0, v1, v2, some (.ref a1), v4, v5, v6], st, SH, σ) = ma_rn ro d 74 (13, [v0, v1, v2, some (.ref a1), v4, v5, v6], .ref a1 :: st, SH, σ)) ∧
  (∀ (v0 : Option Value) (v1 : Option Value) (v2 : Option Value) (v4 : Option Value) (v5 : Option Value) (v6 : Option Value) (st : List Value) (σ : ma_H), ma_rn ro d 74 (12, [v0, v1, v2, some .null, v4, v5, v6], st, SH, σ) = ma_rn ro d 74 (13, [v0, v1, v2, some .null, v4, v5, v6], .null :: st, SH, σ)) ∧
  (∀ (v0 : Option Value) (v1 : Option Value) (v2 : Option Value) (v3 : Option Value) (v4 : Option Value) (v5 : Option Value) (v6 : Option Value) (a1 : Nat) (st : List Value) (σ : ma_H), ma_rn ro d 74 (13, [v0, v1, v2, v3, v4, v5, v6], .ref a1 :: st, SH, σ) = ma_rn ro d 74 (16, [v0, v1, v2, v3, v4, v5, v6], st, SH, σ)) ∧
  (∀ (v0 : Option Value) (v1 : Option Value) (v2 : Option Value) (v3 : Option Value) (v4 : Option Value) (v5 : Option Value) (v6 : Option Value) (st : List Value) (σ : ma_H), ma_rn ro d 74 (13, [v0, v1, v2, v3, v4, v5, v6], .null :: st, SH, σ) = ma_rn ro d 74 (24, [v0, v1, v2, v3, v4, v5, v6], st, SH, σ)) ∧
  (∀ (v0 : Option Value) (v1 : Option Value) (v3 : Option Value) (v4 : Option Value) (v5 : Option Value) (v6 : Option Value) (x1 : Int32) (st : List Value) (σ : ma_H), ma_rn ro d 74 (16, [v0, v1, some (.int x1), v3, v4, v5, v6], st, SH, σ) = ma_rn ro d 74 (17, [v0, v1, some (.int x1), v3, v4, v5, v6], .int x1 :: st, SH, σ)) ∧
  (∀ (v0 : Option Value) (v1 : Option Value) (v2 : Option Value) (v3 : Option Value) (v4 : Option Value) (v5 : Option Value) (v6 : Option Value) (st : List Value) (σ : ma_H), ma_rn ro d 74 (17, [v0, v1, v2, v3, v4, v5, v6], st, SH, σ) = ma_rn ro d 74 (18, [v0, v1, v2, v3, v4, v5, v6], .int (nI 1) :: st, SH, σ)) ∧
  (∀ (v0 : Option Value) (v1 : Option Value) (v2 : Option Value) (v3 : Option Value) (v4 : Option Value) (v5 : Option Value) (v6 : Option Value) (x1 : Int32) (x2 : Int32) (σ : ma_H), ma_rn ro (d + 1) 74 (18, [v0, v1, v2, v3, v4, v5, v6], .int x2 :: .int x1 :: [], SH, σ) = (ma_ev ro d 88 [.int x1, .int x2] SH σ).bind (fun q => ma_rn ro (d + 1) 74 (21, [v0, v1, v2, v3, v4, v5, v6], (q.1.toList ++ []), q.2.1, q.2.2))) ∧
  (∀ (v0 : Option Value) (v1 : Option Value) (v2 : Option Value) (v3 : Option Value) (v4 : Option Value) (v5 : Option Value) (v6 : Option Value) (x1 : Int32) (st : List Value) (σ : ma_H), ma_rn ro d 74 (21, [v0, v1, v2, v3, v4, v5, v6], .int x1 :: st, SH, σ) = if x1 = nI 0 then ma_rn ro d 74 (26, [v0, v1, v2, v3, v4, v5, v6], st, SH, σ) else ma_rn ro d 74 (24, [v0, v1, v2, v3, v4, v5, v6], st, SH, σ)) ∧
  (∀ (v0 : Option Value) (v1 : Option Value) (v2 : Option Value) (v3 : Option Value) (v4 : Option Value) (v5 : Option Value) (v6 : Option Value) (st : List Value) (σ : ma_H), ma_rn ro d 74 (24, [v0, v1, v2, v3, v4, v5, v6], st, SH, σ) = ma_rn ro d 74 (25, [v0, v1, v2, v3, v4, v5, v6], .int ((-1)) :: st, SH, σ)) ∧
  (∀ (v0 : Option Value) (v1 : Option Value) (v2 : Option Value) (v3 : Option Value) (v4 : Option Value) (v5 : Option Value) (v6 : Option Value) (x1 : Int32) (σ : ma_H), ma_rn ro d 74 (25, [v0, v1, v2, v3, v4, v5, v6], [.int x1], SH, σ) = some (some (.int x1), SH, σ)) ∧
  (∀ (v0 : Option Value) (v1 : Option Value) (v2 : Option Value) (v3 : Option Value) (v4 : Option Value) (v5 : Option Value) (v6 : Option Value) (st : List Value) (σ : ma_H), ma_rn ro d 74 (26, [v0, v1, v2, v3, v4, v5, v6], st, SH, σ) = ma_rn ro d 74 (27, [v0, v1, v2, v3, v4, v5, v6], .int (nI 0) :: st, SH, σ)) ∧
  (∀ (v0 : Option Value) (v1 : Option Value) (v2 : Option Value) (v3 : Option Value) (v4 : Option Value) (v5 : Option Value) (v6 : Option Value) (x1 : Int32) (st : List Value) (σ : ma_H) (hb : ma_bef [v0, v1, v2, v3, v4, v5, v6] 4 = false), ma_rn ro d 74 (27, [v0, v1, v2, v3, v4, v5, v6], .int x1 :: st, SH, σ) = ma_rn ro d 74 (29, [v0, v1, v2, v3, some (.int x1), v5, v6], st, SH, σ)) ∧
  (∀ (v0 : Option Value) (v1 : Option Value) (v2 : Option Value) (v3 : Option Value) (v4 : Option Value) (v5 : Option Value) (v6 : Option Value) (st : List Value) (σ : ma_H), ma_rn ro d 74 (29, [v0, v1, v2, v3, v4, v5, v6], st, SH, σ) = ma_rn ro d 74 (31, [v0, v1, v2, v3, v4, v5, v6], .int ((-5)) :: st, SH, σ)) ∧
  (∀ (v0 : Option Value) (v1 : Option Value) (v2 : Option Value) (v3 : Option Value) (v5 : Option Value) (v6 : Option Value) (x9 : Int32) (x1 : Int32) (st : List Value) (σ : ma_H), ma_rn ro d 74 (31, [v0, v1, v2, v3, some (.int x9), v5, v6], .int x1 :: st, SH, σ) = ma_rn ro d 74 (33, [v0, v1, v2, v3, some (.int x9), some (.int x1), v6], st, SH, σ)) ∧
  (∀ (v0 : Option Value) (v1 : Option Value) (v2 : Option Value) (v3 : Option Value) (v4 : Option Value) (v5 : Option Value) (v6 : Option Value) (st : List Value) (σ : ma_H), ma_rn ro d 74 (33, [v0, v1, v2, v3, v4, v5, v6], st, SH, σ) = ma_rn ro d 74 (35, [v0, v1, v2, v3, v4, v5, v6], .int (nI 9) :: st, SH, σ)) ∧
  (∀ (v0 : Option Value) (v1 : Option Value) (v2 : Option Value) (v3 : Option Value) (v4 : Option Value) (v6 : Option Value) (x9 : Int32) (x1 : Int32) (st : List Value) (σ : ma_H), ma_rn ro d 74 (35, [v0, v1, v2, v3, v4, some (.int x9), v6], .int x1 :: st, SH, σ) = ma_rn ro d 74 (37, [v0, v1, v2, v3, v4, some (.int x9), some (.int x1)], st, SH, σ)) ∧
  (∀ (v0 : Option Value) (v1 : Option Value) (v2 : Option Value) (v3 : Option Value) (v4 : Option Value) (v5 : Option Value) (v6 : Option Value) (x1 : Int32) (st : List Value) (σ : ma_H), ma_rn ro d 74 (39, [v0, v1, v2, v3, v4, v5, v6], .int x1 :: st, SH, σ) = if x1 < nI 0 then ma_rn ro d 74 (79, [v0, v1, v2, v3, v4, v5, v6], st, SH, σ) else ma_rn ro d 74 (42, [v0, v1, v2, v3, v4, v5, v6], st, SH, σ)) ∧
  (∀ (v1 : Option Value) (v2 : Option Value) (v3 : Option Value) (v4 : Option Value) (v5 : Option Value) (v6 : Option Value) (a1 : Nat) (st : List Value) (σ : ma_H), ma_rn ro d 74 (42, [some (.ref a1), v1, v2, v3, v4, v5, v6], st, SH, σ) = ma_rn ro d 74 (43, [some (.ref a1), v1, v2, v3, v4, v5, v6], .ref a1 :: st, SH, σ)) ∧
  (∀ (v1 : Option Value) (v2 : Option Value) (v3 : Option Value) (v4 : Option Value) (v5 : Option Value) (v6 : Option Value) (a1 : Nat) (st : List Value) (σ : ma_H), ma_rn ro d 74 (43, [some (.ref a1), v1, v2, v3, v4, v5, v6], st, SH, σ) = ma_rn ro d 74 (44, [some (.ref a1), v1, v2, v3, v4, v5, v6], .ref a1 :: st, SH, σ)) ∧
  (∀ (v0 : Option Value) (v1 : Option Value) (v2 : Option Value) (v3 : Option Value) (v4 : Option Value) (v5 : Option Value) (v6 : Option Value) (a1 : Nat) (st : List Value) (σ : ma_H) (hc : hk_cls a1 = 7), ma_rn ro d 74 (44, [v0, v1, v2, v3, v4, v5, v6], .ref a1 :: st, SH, σ) = ma_rn ro d 74 (47, [v0, v1, v2, v3, v4, v5, v6], .ref (1) :: st, SH, σ)) ∧
  (∀ (v0 : Option Value) (v1 : Option Value) (v2 : Option Value) (v3 : Option Value) (v4 : Option Value) (v5 : Option Value) (v6 : Option Value) (a1 : Nat) (st : List Value) (σ : ma_H) (hc : hk_cls a1 = 5), ma_rn ro d 74 (47, [v0, v1, v2, v3, v4, v5, v6], .ref a1 :: st, SH, σ) = ma_rn ro d 74 (50, [v0, v1, v2, v3, v4, v5, v6], .ref (a1 + 1) :: st, SH, σ)) ∧
  (∀ (v0 : Option Value) (v1 : Option Value) (v2 : Option Value) (v3 : Option Value) (v4 : Option Value) (v5 : Option Value) (v6 : Option Value) (a1 : Nat) (st : List Value) (σ : ma_H) (hc : hk_cls a1 = 6), ma_rn ro d 74 (50, [v0, v1, v2, v3, v4, v5, v6], .ref a1 :: st, SH, σ) = ma_rn ro d 74 (53, [v0, v1, v2, v3, v4, v5, v6], .int (σ a1 2) :: st, SH, σ)) ∧
  (∀ (v0 : Option Value) (v2 : Option Value) (v3 : Option Value) (v4 : Option Value) (v5 : Option Value) (v6 : Option Value) (x1 : Int32) (st : List Value) (σ : ma_H), ma_rn ro d 74 (53, [v0, some (.int x1), v2, v3, v4, v5, v6], st, SH, σ) = ma_rn ro d 74 (54, [v0, some (.int x1), v2, v3, v4, v5, v6], .int x1 :: st, SH, σ)) ∧
  (∀ (v0 : Option Value) (v1 : Option Value) (v2 : Option Value) (v3 : Option Value) (v4 : Option Value) (v5 : Option Value) (x1 : Int32) (st : List Value) (σ : ma_H), ma_rn ro d 74 (54, [v0, v1, v2, v3, v4, v5, some (.int x1)], st, SH, σ) = ma_rn ro d 74 (56, [v0, v1, v2, v3, v4, v5, some (.int x1)], .int x1 :: st, SH, σ)) ∧
  (∀ (v0 : Option Value) (v1 : Option Value) (v2 : Option Value) (v4 : Option Value) (v5 : Option Value) (v6 : Option Value) (a1 : Nat) (st : List Value) (σ : ma_H), ma_rn ro d 74 (56, [v0, v1, v2, some (.ref a1), v4, v5, v6], st, SH, σ) = ma_rn ro d 74 (57, [v0, v1, v2, some (.ref a1), v4, v5, v6], .ref a1 :: st, SH, σ)) ∧
  (∀ (v0 : Option Value) (v1 : Option Value) (v2 : Option Value) (v4 : Option Value) (v5 : Option Value) (v6 : Option Value) (st : List Value) (σ : ma_H), ma_rn ro d 74 (56, [v0, v1, v2, some .null, v4, v5, v6], st, SH, σ) = ma_rn ro d 74 (57, [v0, v1, v2, some .null, v4, v5, v6], .null :: st, SH, σ)) ∧
  (∀ (v0 : Option Value) (v1 : Option Value) (v2 : Option Value) (v3 : Option Value) (v4 : Option Value) (v5 : Option Value) (v6 : Option Value) (a1 : Nat) (st : List Value) (σ : ma_H) (hc : hk_cls a1 = 1), ma_rn ro d 74 (57, [v0, v1, v2, v3, v4, v5, v6], .ref a1 :: st, SH, σ) = ma_rn ro d 74 (60, [v0, v1, v2, v3, v4, v5, v6], .int (σ a1 5) :: st, SH, σ)) ∧
  (∀ (v0 : Option Value) (v1 : Option Value) (v2 : Option Value) (v3 : Option Value) (v4 : Option Value) (v5 : Option Value) (v6 : Option Value) (x1 : Int32) (x2 : Int32) (x3 : Int32) (x4 : Int32) (a0 : Nat) (σ : ma_H) (hc : hk_cls a0 = 7), ma_rn ro (d + 1) 74 (60, [v0, v1, v2, v3, v4, v5, v6], .int x4 :: .int x3 :: .int x2 :: .int x1 :: .ref a0 :: [], SH, σ) = (ma_ev ro d 94 [.ref a0, .int x1, .int x2, .int x3, .int x4] SH σ).bind (fun q => ma_rn ro (d + 1) 74 (63, [v0, v1, v2, v3, v4, v5, v6], (q.1.toList ++ []), q.2.1, q.2.2))) ∧
  (∀ (v0 : Option Value) (v1 : Option Value) (v2 : Option Value) (v3 : Option Value) (v4 : Option Value) (v5 : Option Value) (v6 : Option Value) (x1 : Int32) (st : List Value) (σ : ma_H), ma_rn ro d 74 (63, [v0, v1, v2, v3, v4, v5, v6], .int x1 :: st, SH, σ) = if x1 = nI 0 then ma_rn ro d 74 (73, [v0, v1, v2, v3, v4, v5, v6], st, SH, σ) else ma_rn ro d 74 (66, [v0, v1, v2, v3, v4, v5, v6], st, SH, σ)) ∧
  (∀ (v0 : Option Value) (v1 : Option Value) (v2 : Option Value) (v3 : Option Value) (v5 : Option Value) (v6 : Option Value) (x1 : Int32) (st : List Value) (σ : ma_H) (hb : ma_bef [v0, v1, v2, v3, some (.int x1), v5, v6] 4 = false), ma_rn ro d 74 (66, [v0, v1, v2, v3, some (.int x1), v5, v6], st, SH, σ) = ma_rn ro d 74 (69, [v0, v1, v2, v3, some (.int (x1 + nI 1)), v5, v6], st, SH, σ)) ∧
  (∀ (v0 : Option Value) (v1 : Option Value) (v2 : Option Value) (v3 : Option Value) (v4 : Option Value) (v5 : Option Value) (x1 : Int32) (st : List Value) (σ : ma_H), ma_rn ro d 74 (69, [v0, v1, v2, v3, v4, v5, some (.int x1)], st, SH, σ) = ma_rn ro d 74 (71, [v0, v1, v2, v3, v4, v5, some (.int x1)], .int x1 :: st, SH, σ)) ∧
  (∀ (v0 : Option Value) (v1 : Option Value) (v2 : Option Value) (v3 : Option Value) (v5 : Option Value) (v6 : Option Value) (x9 : Int32) (x1 : Int32) (st : List Value) (σ : ma_H), ma_rn ro d 74 (71, [v0, v1, v2, v3, some (.int x9), v5, v6], .int x1 :: st, SH, σ) = ma_rn ro d 74 (73, [v0, v1, v2, v3, some (.int x9), some (.int x1), v6], st, SH, σ)) ∧
  (∀ (v0 : Option Value) (v1 : Option Value) (v2 : Option Value) (v3 : Option Value) (v4 : Option Value) (x1 : Int32) (x9 : Int32) (st : List Value) (σ : ma_H), ma_rn ro d 74 (73, [v0, v1, v2, v3, v4, some (.int x9), some (.int x1)], st, SH, σ) = ma_rn ro d 74 (76, [v0, v1, v2, v3, v4, some (.int x9), some (.int (x1 + (-1)))], st, SH, σ)) ∧
  (∀ (v0 : Option Value) (v1 : Option Value) (v2 : Option Value) (v3 : Option Value) (v4 : Option Value) (v5 : Option Value) (v6 : Option Value) (st : List Value) (σ : ma_H), ma_rn ro d 74 (76, [v0, v1, v2, v3, v4, v5, v6], st, SH, σ) = ma_rn ro d 74 (37, [v0, v1, v2, v3, v4, v5, v6], st, SH, σ)) ∧
  (∀ (v0 : Option Value) (v1 : Option Value) (v3 : Option Value) (v4 : Option Value) (v5 : Option Value) (v6 : Option Value) (x1 : Int32) (st : List Value) (σ : ma_H), ma_rn ro d 74 (79, [v0, v1, some (.int x1), v3, v4, v5, v6], st, SH, σ) = ma_rn ro d 74 (80, [v0, v1, some (.int x1), v3, v4, v5, v6], .int x1 :: st, SH, σ)) ∧
  (∀ (v0 : Option Value) (v1 : Option Value) (v2 : Option Value) (v3 : Option Value) (v4 : Option Value) (v5 : Option Value) (v6 : Option Value) (x1 : Int32) (st : List Value) (σ : ma_H), ma_rn ro d 74 (80, [v0, v1, v2, v3, v4, v5, v6], .int x1 :: st, SH, σ) = if x1 = nI 0 then ma_rn ro d 74 (83, [v0, v1, v2, v3, v4, v5, v6], st, SH, σ) else ma_rn ro d 74 (88, [v0, v1, v2, v3, v4, v5, v6], st, SH, σ)) ∧
  (∀ (v0 : Option Value) (v1 : Option Value) (v2 : Option Value) (v3 : Option Value) (v5 : Option Value) (v6 : Option Value) (x1 : Int32) (st : List Value) (σ : ma_H), ma_rn ro d 74 (83, [v0, v1, v2, v3, some (.int x1), v5, v6], st, SH, σ) = ma_rn ro d 74 (85, [v0, v1, v2, v3, some (.int x1), v5, v6], .int x1 :: st, SH, σ)) ∧
  (∀ (v0 : Option Value) (v1 : Option Value) (v2 : Option Value) (v3 : Option Value) (v4 : Option Value) (v5 : Option Value) (v6 : Option Value) (st : List Value) (σ : ma_H), ma_rn ro d 74 (85, [v0, v1, v2, v3, v4, v5, v6], st, SH, σ) = ma_rn ro d 74 (90, [v0, v1, v2, v3, v4, v5, v6], st, SH, σ)) ∧
  (∀ (v0 : Option Value) (v1 : Option Value) (v2 : Option Value) (v3 : Option Value) (v4 : Option Value) (v6 : Option Value) (x1 : Int32) (st : List Value) (σ : ma_H), ma_rn ro d 74 (88, [v0, v1, v2, v3, v4, some (.int x1), v6], st, SH, σ) = ma_rn ro d 74 (90, [v0, v1, v2, v3, v4, some (.int x1), v6], .int x1 :: st, SH, σ)) ∧
  (∀ (v0 : Option Value) (v1 : Option Value) (v2 : Option Value) (v3 : Option Value) (v4 : Option Value) (v5 : Option Value) (v6 : Option Value) (x1 : Int32) (σ : ma_H), ma_rn ro d 74 (90, [v0, v1, v2, v3, v4, v5, v6], [.int x1], SH, σ) = some (some (.int x1), SH, σ)) := ⟨fun v1 v2 v3 v4 v5 v6 a1 st σ => q_go e74_0 rfl rfl,
  fun v0 v1 v2 v3 v4 v5 v6 a1 st σ hc => q_getA e74_1 o_74 f_7_12 (by decide) hc,
  fun v0 v1 v2 v3 v4 v5 v6 a1 st σ hc => q_getA e74_4 o_74 f_7_93 (by decide) hc,
  fun v0 v2 v3 v4 v5 v6 x1 st σ => q_go e74_7 rfl rfl,
  fun v0 v1 v2 v3 v4 v5 v6 x1 a0 σ hc => q_invV (as := [.int x1]) (rest := []) e74_8 o_74 bn_7_102 c_7_102 m_50 (by decide) rfl rfl (Nat.le_of_ble_eq_true rfl) (Nat.le_of_ble_eq_true rfl) hc,
  fun v0 v1 v3 v4 v5 v6 x9 a1 st σ => q_go e74_11 rfl rfl,
  fun v0 v1 v3 v4 v5 v6 x9 st σ => q_go e74_11 rfl rfl,
  fun v0 v1 v2 v4 v5 v6 a1 st σ => q_go e74_12 rfl rfl,
  fun v0 v1 v2 v4 v5 v6 st σ => q_go e74_12 rfl rfl,
  fun v0 v1 v2 v3 v4 v5 v6 a1 st σ => q_ifnullR e74_13 rfl,
  fun v0 v1 v2 v3 v4 v5 v6 st σ => q_ifnullN e74_13 rfl,
  fun v0 v1 v3 v4 v5 v6 x1 st σ => q_go e74_16 rfl rfl,
  fun v0 v1 v2 v3 v4 v5 v6 st σ => q_iconst e74_17 (by decide),
  fun v0 v1 v2 v3 v4 v5 v6 x1 x2 σ => q_invS (as := [.int x1, .int x2]) (rest := []) e74_18 o_74 bn_7_67 c_7_67 ⟨m_88.1, m_88.2.1, m_88.2.2.1⟩ rfl rfl (Nat.le_of_ble_eq_true rfl) (Nat.le_of_ble_eq_true rfl),
  fun v0 v1 v2 v3 v4 v5 v6 x1 st σ => (q_if e74_21 rfl).trans q_eq,
  fun v0 v1 v2 v3 v4 v5 v6 st σ => q_iconst e74_24 (by decide),
  fun v0 v1 v2 v3 v4 v5 v6 x1 σ => q_iret e74_25 r_74,
  fun v0 v1 v2 v3 v4 v5 v6 st σ => q_iconst e74_26 (by decide),
  fun v0 v1 v2 v3 v4 v5 v6 x1 st σ hb => q_go e74_27 rfl (q_s1 hb rfl (Nat.le_of_ble_eq_true rfl)),
  fun v0 v1 v2 v3 v4 v5 v6 st σ => q_bipush e74_29 (by decide),
  fun v0 v1 v2 v3 v5 v6 x9 x1 st σ => q_go e74_31 rfl rfl,
  fun v0 v1 v2 v3 v4 v5 v6 st σ => q_bipush e74_33 (by decide),
  fun v0 v1 v2 v3 v4 v6 x9 x1 st σ => q_go e74_35 rfl rfl,
  fun v0 v1 v2 v3 v4 v5 v6 x1 st σ => (q_if e74_39 rfl).trans q_lt,
  fun v1 v2 v3 v4 v5 v6 a1 st σ => q_go e74_42 rfl rfl,
  fun v1 v2 v3 v4 v5 v6 a1 st σ => q_go e74_43 rfl rfl,
  fun v0 v1 v2 v3 v4 v5 v6 a1 st σ hc => q_getA e74_44 o_74 f_7_12 (by decide) hc,
  fun v0 v1 v2 v3 v4 v5 v6 a1 st σ hc => q_getA e74_47 o_74 f_7_93 (by decide) hc,
  fun v0 v1 v2 v3 v4 v5 v6 a1 st σ hc => q_getI e74_50 o_74 f_7_150 (by decide) hc,
  fun v0 v2 v3 v4 v5 v6 x1 st σ => q_go e74_53 rfl rfl,
  fun v0 v1 v2 v3 v4 v5 x1 st σ => q_go e74_54 rfl rfl,
  fun v0 v1 v2 v4 v5 v6 a1 st σ => q_go e74_56 rfl rfl,
  fun v0 v1 v2 v4 v5 v6 st σ => q_go e74_56 rfl rfl,
  fun v0 v1 v2 v3 v4 v5 v6 a1 st σ hc => q_getI e74_57 o_74 f_7_120 (by decide) hc,
  fun v0 v1 v2 v3 v4 v5 v6 x1 x2 x3 x4 a0 σ hc => q_invV (as := [.int x1, .int x2, .int x3, .int x4]) (rest := []) e74_60 o_74 bn_7_204 c_7_204 m_94 (by decide) rfl rfl (Nat.le_of_ble_eq_true rfl) (Nat.le_of_ble_eq_true rfl) hc,
  fun v0 v1 v2 v3 v4 v5 v6 x1 st σ => (q_if e74_63 rfl).trans q_eq,
  fun v0 v1 v2 v3 v5 v6 x1 st σ hb => q_iinc e74_66 rfl hb (by decide),
  fun v0 v1 v2 v3 v4 v5 x1 st σ => q_go e74_69 rfl rfl,
  fun v0 v1 v2 v3 v5 v6 x9 x1 st σ => q_go e74_71 rfl rfl,
  fun v0 v1 v2 v3 v4 x1 x9 st σ => q_iinc e74_73 rfl rfl (by decide),
  fun v0 v1 v2 v3 v4 v5 v6 st σ => q_goto e74_76 rfl,
  fun v0 v1 v3 v4 v5 v6 x1 st σ => q_go e74_79 rfl rfl,
  fun v0 v1 v2 v3 v4 v5 v6 x1 st σ => (q_if e74_80 rfl).trans q_ne,
  fun v0 v1 v2 v3 v5 v6 x1 st σ => q_go e74_83 rfl rfl,
  fun v0 v1 v2 v3 v4 v5 v6 st σ => q_goto e74_85 rfl,
  fun v0 v1 v2 v3 v4 v6 x1 st σ => q_go e74_88 rfl rfl,
  fun v0 v1 v2 v3 v4 v5 v6 x1 σ => q_iret e74_90 r_74⟩
theorem E74 {ro : ma_RO} {d : Nat} (a0 : Nat) (x1 : Int32) (x2 : Int32) (sh : List ma_Sh) (σ : ma_H) : ma_ev ro d 74 [.ref a0, .int x1, .int x2] sh σ = ma_rn ro d 74 (0, [some (.ref a0), some (.int x1), some (.int x2), none, none, none, none], [], sh, σ) := q_ent x_74 rfl
theorem e75_0 : decode (ma_cd 75) 0 = .ok (.aload_n 0, 1) := (congrArg (fun b => decode b 0) cd_75).trans dX7_alikes_0
theorem e75_1 : decode (ma_cd 75) 1 = .ok (.getfield 12, 3) := (congrArg (fun b => decode b 1) cd_75).trans dX7_alikes_1
theorem e75_4 : decode (ma_cd 75) 4 = .ok (.getfield 93, 3) := (congrArg (fun b => decode b 4) cd_75).trans dX7_alikes_4
theorem e75_7 : decode (ma_cd 75) 7 = .ok (.iload_n 1, 1) := (congrArg (fun b => decode b 7) cd_75).trans dX7_alikes_7
theorem e75_8 : decode (ma_cd 75) 8 = .ok (.invokevirtual 102, 3) := (congrArg (fun b => decode b 8) cd_75).trans dX7_alikes_8
theorem e75_11 : decode (ma_cd 75) 11 = .ok (.astore_n 2, 1) := (congrArg (fun b => decode b 11) cd_75).trans dX7_alikes_11
theorem e75_12 : decode (ma_cd 75) 12 = .ok (.aload_n 2, 1) := (congrArg (fun b => decode b 12) cd_75).trans dX7_alikes_12
theorem e75_13 : decode (ma_cd 75) 13 = .ok (.ifnonnull 5, 3) := (congrArg (fun b => decode b 13) cd_75).trans dX7_alikes_13
theorem e75_16 : decode (ma_cd 75) 16 = .ok (.iconst (-1), 1) := (congrArg (fun b => decode b 16) cd_75).trans dX7_alikes_16
theorem e75_17 : decode (ma_cd 75) 17 = .ok (.ireturn, 1) := (congrArg (fun b => decode b 17) cd_75).trans dX7_alikes_17
theorem e75_18 : decode (ma_cd 75) 18 = .ok (.iconst 0, 1) := (congrArg (fun b => decode b 18) cd_75).trans dX7_alikes_18
theorem e75_19 : decode (ma_cd 75) 19 = .ok (.istore_n 3, 1) := (congrArg (fun b => decode b 19) cd_75).trans dX7_alikes_19
theorem e75_20 : decode (ma_cd 75) 20 = .ok (.iconst 0, 1) := (congrArg (fun b => decode b 20) cd_75).trans dX7_alikes_20
theorem e75_21 : decode (ma_cd 75) 21 = .ok (.istore 4, 2) := (congrArg (fun b => decode b 21) cd_75).trans dX7_alikes_21
theorem e75_23 : decode (ma_cd 75) 23 = .ok (.iload 4, 2) := (congrArg (fun b => decode b 23) cd_75).trans dX7_alikes_23
theorem e75_25 : decode (ma_cd 75) 25 = .ok (.bipush 9, 2) := (congrArg (fun b => decode b 25) cd_75).trans dX7_alikes_25
theorem e75_27 : decode (ma_cd 75) 27 = .ok (.if_icmp .gt 43, 3) := (congrArg (fun b => decode b 27) cd_75).trans dX7_alikes_27
theorem e75_30 : decode (ma_cd 75) 30 = .ok (.aload_n 0, 1) := (congrArg (fun b => decode b 30) cd_75).trans dX7_alikes_30
theorem e75_31 : decode (ma_cd 75) 31 = .ok (.aload_n 0, 1) := (congrArg (fun b => decode b 31) cd_75).trans dX7_alikes_31
theorem e75_32 : decode (ma_cd 75) 32 = .ok (.getfield 12, 3) := (congrArg (fun b => decode b 32) cd_75).trans dX7_alikes_32
theorem e75_35 : decode (ma_cd 75) 35 = .ok (.getfield 93, 3) := (congrArg (fun b => decode b 35) cd_75).trans dX7_alikes_35
theorem e75_38 : decode (ma_cd 75) 38 = .ok (.getfield 150, 3) := (congrArg (fun b => decode b 38) cd_75).trans dX7_alikes_38
theorem e75_41 : decode (ma_cd 75) 41 = .ok (.iload_n 1, 1) := (congrArg (fun b => decode b 41) cd_75).trans dX7_alikes_41
theorem e75_42 : decode (ma_cd 75) 42 = .ok (.aload_n 2, 1) := (congrArg (fun b => decode b 42) cd_75).trans dX7_alikes_42
theorem e75_43 : decode (ma_cd 75) 43 = .ok (.getfield 110, 3) := (congrArg (fun b => decode b 43) cd_75).trans dX7_alikes_43
theorem e75_46 : decode (ma_cd 75) 46 = .ok (.bipush 10, 2) := (congrArg (fun b => decode b 46) cd_75).trans dX7_alikes_46
theorem e75_48 : decode (ma_cd 75) 48 = .ok (.iload 4, 2) := (congrArg (fun b => decode b 48) cd_75).trans dX7_alikes_48
theorem e75_50 : decode (ma_cd 75) 50 = .ok (.imul, 1) := (congrArg (fun b => decode b 50) cd_75).trans dX7_alikes_50
theorem e75_51 : decode (ma_cd 75) 51 = .ok (.invokevirtual 204, 3) := (congrArg (fun b => decode b 51) cd_75).trans dX7_alikes_51
theorem e75_54 : decode (ma_cd 75) 54 = .ok (.ifCond .eq 10, 3) := (congrArg (fun b => decode b 54) cd_75).trans dX7_alikes_54
theorem e75_57 : decode (ma_cd 75) 57 = .ok (.iload_n 3, 1) := (congrArg (fun b => decode b 57) cd_75).trans dX7_alikes_57
theorem e75_58 : decode (ma_cd 75) 58 = .ok (.iconst 1, 1) := (congrArg (fun b => decode b 58) cd_75).trans dX7_alikes_58
theorem e75_59 : decode (ma_cd 75) 59 = .ok (.iload 4, 2) := (congrArg (fun b => decode b 59) cd_75).trans dX7_alikes_59
theorem e75_61 : decode (ma_cd 75) 61 = .ok (.ishl, 1) := (congrArg (fun b => decode b 61) cd_75).trans dX7_alikes_61
theorem e75_62 : decode (ma_cd 75) 62 = .ok (.ior, 1) := (congrArg (fun b => decode b 62) cd_75).trans dX7_alikes_62
theorem e75_63 : decode (ma_cd 75) 63 = .ok (.istore_n 3, 1) := (congrArg (fun b => decode b 63) cd_75).trans dX7_alikes_63
theorem e75_64 : decode (ma_cd 75) 64 = .ok (.iinc 4 1, 3) := (congrArg (fun b => decode b 64) cd_75).trans dX7_alikes_64
theorem e75_67 : decode (ma_cd 75) 67 = .ok (.goto (-44), 3) := (congrArg (fun b => decode b 67) cd_75).trans dX7_alikes_67
theorem e75_70 : decode (ma_cd 75) 70 = .ok (.iload_n 3, 1) := (congrArg (fun b => decode b 70) cd_75).trans dX7_alikes_70
theorem e75_71 : decode (ma_cd 75) 71 = .ok (.ireturn, 1) := (congrArg (fun b => decode b 71) cd_75).trans dX7_alikes_71
theorem Sh75_23 {ro : ma_RO} {d : Nat} : (∀ (v0 : Option Value) (v1 : Option Value) (v2 : Option Value) (v3 : Option Value) (x1 : Int32) (st : List Value) (σ : ma_H), ma_rn ro d 75 (23, [v0, v1, v2, v3, some (.int x1)], st, SH, σ) = ma_rn ro d 75 (25, [v0, v1, v2, v3, some (.int x1)], .int x1 :: st, SH, σ)) := fun v0 v1 v2 v3 x1 st σ => q_go e75_23 rfl rfl
theorem S75 {ro : ma_RO} {d : Nat} : (∀ (v1 : Option Value) (v2 : Option Value) (v3 : Option Value) (v4 : Option Value) (a1 : Nat) (st : List Value) (σ : ma_H), ma_rn ro d 75 (0, [some (.ref a1), v1, v2, v3, v4], st, SH, σ) = ma_rn ro d 75 (1, [some (.ref a1), v1, v2, v3, v4], .ref a1 :: st, SH, σ)) ∧
  (∀ (v0 : Option Value) (v1 : Option Value) (v2 : Option Value) (v3 : Option Value) (v4 : Option Value) (a1 : Nat) (st : List Value) (σ : ma_H) (hc : hk_cls a1 = 7), ma_rn ro d 75 (1, [v0, v1, v2, v3, v4], .ref a1 :: st, SH, σ) = ma_rn ro d 75 (4, [v0, v1, v2, v3, v4], .ref (1) :: st, SH, σ)) ∧
  (∀ (v0 : Option Value) (v1 : Option Value) (v2 : Option Value) (v3 : Option Value) (v4 : Option Value) (a1 : Nat) (st : List Value) (σ : ma_H) (hc : hk_cls a1 = 5), ma_rn ro d 75 (4, [v0, v1, v2, v3, v4], .ref a1 :: st, SH, σ) = ma_rn ro d 75 (7, [v0, v1, v2, v3, v4], .ref (a1 + 1) :: st, SH, σ)) ∧
  (∀ (v0 : Option Value) (v2 : Option Value) (v3 : Option Value) (v4 : Option Value) (x1 : Int32) (st : List Value) (σ : ma_H), ma_rn ro d 75 (7, [v0, some (.int x1), v2, v3, v4], st, SH, σ) = ma_rn ro d 75 (8, [v0, some (.int x1), v2, v3, v4], .int x1 :: st, SH, σ)) ∧
  (∀ (v0 : Option Value) (v1 : Option Value) (v2 : Option Value) (v3 : Option Value) (v4 : Option Value) (x1 : Int32) (a0 : Nat) (σ : ma_H) (hc : hk_cls a0 = 6), ma_rn ro (d + 1) 75 (8, [v0, v1, v2, v3, v4], .int x1 :: .ref a0 :: [], SH, σ) = (ma_ev ro d 50 [.ref a0, .int x1] SH σ).bind (fun q => ma_rn ro (d + 1) 75 (11, [v0, v1, v2, v3, v4], (q.1.toList ++ []), q.2.1, q.2.2))) ∧
  (∀ (v0 : Option Value) (v2 : Option Value) (v3 : Option Value) (v4 : Option Value) (x9 : Int32) (a1 : Nat) (st : List Value) (σ : ma_H), ma_rn ro d 75 (11, [v0, some (.int x9), v2, v3, v4], .ref a1 :: st, SH, σ) = ma_rn ro d 75 (12, [v0, some (.int x9), some (.ref a1), v3, v4], st, SH, σ)) ∧
  (∀ (v0 : Option Value) (v2 : Option Value) (v3 : Option Value) (v4 : Option Value) (x9 : Int32) (st : List Value) (σ : ma_H), ma_rn ro d 75 (11, [v0, some (.int x9), v2, v3, v4], .null :: st, SH, σ) = ma_rn ro d 75 (12, [v0, some (.int x9), some .null, v3, v4], st, SH, σ)) ∧
  (∀ (v0 : Option Value) (v1 : Option Value) (v3 : Option Value) (v4 : Option Value) (a1 : Nat) (st : List Value) (σ : ma_H), ma_rn ro d 75 (12, [v0, v1, some (.ref a1), v3, v4], st, SH, σ) = ma_rn ro d 75 (13, [v0, v1, some (.ref a1), v3, v4], .ref a1 :: st, SH, σ)) ∧
  (∀ (v0 : Option Value) (v1 : Option Value) (v3 : Option Value) (v4 : Option Value) (st : List Value) (σ : ma_H), ma_rn ro d 75 (12, [v0, v1, some .null, v3, v4], st, SH, σ) = ma_rn ro d 75 (13, [v0, v1, some .null, v3, v4], .null :: st, SH, σ)) ∧
  (∀ (v0 : Option Value) (v1 : Option Value) (v2 : Option Value) (v3 : Option Value) (v4 : Option Value) (a1 : Nat) (st : List Value) (σ : ma_H), ma_rn ro d 75 (13, [v0, v1, v2, v3, v4], .ref a1 :: st, SH, σ) = ma_rn ro d 75 (18, [v0, v1, v2, v3, v4], st, SH, σ)) ∧
  (∀ (v0 : Option Value) (v1 : Option Value) (v2 : Option Value) (v3 : Option Value) (v4 : Option Value) (st : List Value) (σ : ma_H), ma_rn ro d 75 (13, [v0, v1, v2, v3, v4], .null :: st, SH, σ) = ma_rn ro d 75 (16, [v0, v1, v2, v3, v4], st, SH, σ)) ∧
  (∀ (v0 : Option Value) (v1 : Option Value) (v2 : Option Value) (v3 : Option Value) (v4 : Option Value) (st : List Value) (σ : ma_H), ma_rn ro d 75 (16, [v0, v1, v2, v3, v4], st, SH, σ) = ma_rn ro d 75 (17, [v0, v1, v2, v3, v4], .int ((-1)) :: st, SH, σ)) ∧
  (∀ (v0 : Option Value) (v1 : Option Value) (v2 : Option Value) (v3 : Option Value) (v4 : Option Value) (x1 : Int32) (σ : ma_H), ma_rn ro d 75 (17, [v0, v1, v2, v3, v4], [.int x1], SH, σ) = some (some (.int x1), SH, σ)) ∧
  (∀ (v0 : Option Value) (v1 : Option Value) (v2 : Option Value) (v3 : Option Value) (v4 : Option Value) (st : List Value) (σ : ma_H), ma_rn ro d 75 (18, [v0, v1, v2, v3, v4], st, SH, σ) = ma_rn ro d 75 (19, [v0, v1, v2, v3, v4], .int (nI 0) :: st, SH, σ)) ∧
  (∀ (v0 : Option Value) (v1 : Option Value) (v2 : Option Value) (v3 : Option Value) (v4 : Option Value) (x1 : Int32) (st : List Value) (σ : ma_H) (hb : ma_bef [v0, v1, v2, v3, v4] 3 = false), ma_rn ro d 75 (19, [v0, v1, v2, v3, v4], .int x1 :: st, SH, σ) = ma_rn ro d 75 (20, [v0, v1, v2, some (.int x1), v4], st, SH, σ)) ∧
  (∀ (v0 : Option Value) (v1 : Option Value) (v2 : Option Value) (v3 : Option Value) (v4 : Option Value) (st : List Value) (σ : ma_H), ma_rn ro d 75 (20, [v0, v1, v2, v3, v4], st, SH, σ) = ma_rn ro d 75 (21, [v0, v1, v2, v3, v4], .int (nI 0) :: st, SH, σ)) ∧
  (∀ (v0 : Option Value) (v1 : Option Value) (v2 : Option Value) (v4 : Option Value) (x9 : Int32) (x1 : Int32) (st : List Value) (σ : ma_H), ma_rn ro d 75 (21, [v0, v1, v2, some (.int x9), v4], .int x1 :: st, SH, σ) = ma_rn ro d 75 (23, [v0, v1, v2, some (.int x9), some (.int x1)], st, SH, σ)) ∧
  (∀ (v0 : Option Value) (v1 : Option Value) (v2 : Option Value) (v3 : Option Value) (v4 : Option Value) (st : List Value) (σ : ma_H), ma_rn ro d 75 (25, [v0, v1, v2, v3, v4], st, SH, σ) = ma_rn ro d 75 (27, [v0, v1, v2, v3, v4], .int (nI 9) :: st, SH, σ)) ∧
  (∀ (v0 : Option Value) (v1 : Option Value) (v2 : Option Value) (v3 : Option Value) (v4 : Option Value) (x1 : Int32) (x2 : Int32) (st : List Value) (σ : ma_H), ma_rn ro d 75 (27, [v0, v1, v2, v3, v4], .int x1 :: .int x2 :: st, SH, σ) = if x1 < x2 then ma_rn ro d 75 (70, [v0, v1, v2, v3, v4], st, SH, σ) else ma_rn ro d 75 (30, [v0, v1, v2, v3, v4], st, SH, σ)) ∧
  (∀ (v1 : Option Value) (v2 : Option Value) (v3 : Option Value) (v4 : Option Value) (a1 : Nat) (st : List Value) (σ : ma_H), ma_rn ro d 75 (30, [some (.ref a1), v1, v2, v3, v4], st, SH, σ) = ma_rn ro d 75 (31, [some (.ref a1), v1, v2, v3, v4], .ref a1 :: st, SH, σ)) ∧
  (∀ (v1 : Option Value) (v2 : Option Value) (v3 : Option Value) (v4 : Option Value) (a1 : Nat) (st : List Value) (σ : ma_H), ma_rn ro d 75 (31, [some (.ref a1), v1, v2, v3, v4], st, SH, σ) = ma_rn ro d 75 (32, [some (.ref a1), v1, v2, v3, v4], .ref a1 :: st, SH, σ)) ∧
  (∀ (v0 : Option Value) (v1 : Option Value) (v2 : Option Value) (v3 : Option Value) (v4 : Option Value) (a1 : Nat) (st : List Value) (σ : ma_H) (hc : hk_cls a1 = 7), ma_rn ro d 75 (32, [v0, v1, v2, v3, v4], .ref a1 :: st, SH, σ) = ma_rn ro d 75 (35, [v0, v1, v2, v3, v4], .ref (1) :: st, SH, σ)) ∧
  (∀ (v0 : Option Value) (v1 : Option Value) (v2 : Option Value) (v3 : Option Value) (v4 : Option Value) (a1 : Nat) (st : List Value) (σ : ma_H) (hc : hk_cls a1 = 5), ma_rn ro d 75 (35, [v0, v1, v2, v3, v4], .ref a1 :: st, SH, σ) = ma_rn ro d 75 (38, [v0, v1, v2, v3, v4], .ref (a1 + 1) :: st, SH, σ)) ∧
  (∀ (v0 : Option Value) (v1 : Option Value) (v2 : Option Value) (v3 : Option Value) (v4 : Option Value) (a1 : Nat) (st : List Value) (σ : ma_H) (hc : hk_cls a1 = 6), ma_rn ro d 75 (38, [v0, v1, v2, v3, v4], .ref a1 :: st, SH, σ) = ma_rn ro d 75 (41, [v0, v1, v2, v3, v4], .int (σ a1 2) :: st, SH, σ)) ∧
  (∀ (v0 : Option Value) (v2 : Option Value) (v3 : Option Value) (v4 : Option Value) (x1 : Int32) (st : List Value) (σ : ma_H), ma_rn ro d 75 (41, [v0, some (.int x1), v2, v3, v4], st, SH, σ) = ma_rn ro d 75 (42, [v0, some (.int x1), v2, v3, v4], .int x1 :: st, SH, σ)) ∧
  (∀ (v0 : Option Value) (v1 : Option Value) (v3 : Option Value) (v4 : Option Value) (a1 : Nat) (st : List Value) (σ : ma_H), ma_rn ro d 75 (42, [v0, v1, some (.ref a1), v3, v4], st, SH, σ) = ma_rn ro d 75 (43, [v0, v1, some (.ref a1), v3, v4], .ref a1 :: st, SH, σ)) ∧
  (∀ (v0 : Option Value) (v1 : Option Value) (v3 : Option Value) (v4 : Option Value) (st : List Value) (σ : ma_H), ma_rn ro d 75 (42, [v0, v1, some .null, v3, v4], st, SH, σ) = ma_rn ro d 75 (43, [v0, v1, some .null, v3, v4], .null :: st, SH, σ)) ∧
  (∀ (v0 : Option Value) (v1 : Option Value) (v2 : Option Value) (v3 : Option Value) (v4 : Option Value) (a1 : Nat) (st : List Value) (σ : ma_H) (hc : hk_cls a1 = 1), ma_rn ro d 75 (43, [v0, v1, v2, v3, v4], .ref a1 :: st, SH, σ) = ma_rn ro d 75 (46, [v0, v1, v2, v3, v4], .int (σ a1 2) :: st, SH, σ)) ∧
  (∀ (v0 : Option Value) (v1 : Option Value) (v2 : Option Value) (v3 : Option Value) (v4 : Option Value) (st : List Value) (σ : ma_H), ma_rn ro d 75 (46, [v0, v1, v2, v3, v4], st, SH, σ) = ma_rn ro d 75 (48, [v0, v1, v2, v3, v4], .int (nI 10) :: st, SH, σ)) ∧
  (∀ (v0 : Option Value) (v1 : Option Value) (v2 : Option Value) (v3 : Option Value) (x1 : Int32) (st : List Value) (σ : ma_H), ma_rn ro d 75 (48, [v0, v1, v2, v3, some (.int x1)], st, SH, σ) = ma_rn ro d 75 (50, [v0, v1, v2, v3, some (.int x1)], .int x1 :: st, SH, σ)) ∧
  (∀ (v0 : Option Value) (v1 : Option Value) (v2 : Option Value) (v3 : Option Value) (v4 : Option Value) (x1 : Int32) (x2 : Int32) (st : List Value) (σ : ma_H), ma_rn ro d 75 (50, [v0, v1, v2, v3, v4], .int x1 :: .int x2 :: st, SH, σ) = ma_rn ro d 75 (51, [v0, v1, v2, v3, v4], .int (x2 * x1) :: st, SH, σ)) ∧
  (∀ (v0 : Option Value) (v1 : Option Value) (v2 : Option Value) (v3 : Option Value) (v4 : Option Value) (x1 : Int32) (x2 : Int32) (x3 : Int32) (x4 : Int32) (a0 : Nat) (σ : ma_H) (hc : hk_cls a0 = 7), ma_rn ro (d + 1) 75 (51, [v0, v1, v2, v3, v4], .int x4 :: .int x3 :: .int x2 :: .int x1 :: .ref a0 :: [], SH, σ) = (ma_ev ro d 94 [.ref a0, .int x1, .int x2, .int x3, .int x4] SH σ).bind (fun q => ma_rn ro (d + 1) 75 (54, [v0, v1, v2, v3, v4], (q.1.toList ++ []), q.2.1, q.2.2))) ∧
  (∀ (v0 : Option Value) (v1 : Option Value) (v2 : Option Value) (v3 : Option Value) (v4 : Option Value) (x1 : Int32) (st : List Value) (σ : ma_H), ma_rn ro d 75 (54, [v0, v1, v2, v3, v4], .int x1 :: st, SH, σ) = if x1 = nI 0 then ma_rn ro d 75 (64, [v0, v1, v2, v3, v4], st, SH, σ) else ma_rn ro d 75 (57, [v0, v1, v2, v3, v4], st, SH, σ)) ∧
  (∀ (v0 : Option Value) (v1 : Option Value) (v2 : Option Value) (v4 : Option Value) (x1 : Int32) (st : List Value) (σ : ma_H), ma_rn ro d 75 (57, [v0, v1, v2, some (.int x1), v4], st, SH, σ) = ma_rn ro d 75 (58, [v0, v1, v2, some (.int x1), v4], .int x1 :: st, SH, σ)) ∧
  (∀ (v0 : Option Value) (v1 : Option Value) (v2 : Option Value) (v3 : Option Value) (v4 : Option Value) (st : List Value) (σ : ma_H), ma_rn ro d 75 (58, [v0, v1, v2, v3, v4], st, SH, σ) = ma_rn ro d 75 (59, [v0, v1, v2, v3, v4], .int (nI 1) :: st, SH, σ)) ∧
  (∀ (v0 : Option Value) (v1 : Option Value) (v2 : Option Value) (v3 : Option Value) (x1 : Int32) (st : List Value) (σ : ma_H), ma_rn ro d 75 (59, [v0, v1, v2, v3, some (.int x1)], st, SH, σ) = ma_rn ro d 75 (61, [v0, v1, v2, v3, some (.int x1)], .int x1 :: st, SH, σ)) ∧
  (∀ (v0 : Option Value) (v1 : Option Value) (v2 : Option Value) (v3 : Option Value) (v4 : Option Value) (x1 : Int32) (x2 : Int32) (st : List Value) (σ : ma_H), ma_rn ro d 75 (61, [v0, v1, v2, v3, v4], .int x1 :: .int x2 :: st, SH, σ) = ma_rn ro d 75 (62, [v0, v1, v2, v3, v4], .int (x2 <<< (x1 &&& 31)) :: st, SH, σ)) ∧
  (∀ (v0 : Option Value) (v1 : Option Value) (v2 : Option Value) (v3 : Option Value) (v4 : Option Value) (x1 : Int32) (x2 : Int32) (st : List Value) (σ : ma_H), ma_rn ro d 75 (62, [v0, v1, v2, v3, v4], .int x1 :: .int x2 :: st, SH, σ) = ma_rn ro d 75 (63, [v0, v1, v2, v3, v4], .int (x2 ||| x1) :: st, SH, σ)) ∧
  (∀ (v0 : Option Value) (v1 : Option Value) (v2 : Option Value) (v3 : Option Value) (v4 : Option Value) (x1 : Int32) (st : List Value) (σ : ma_H) (hb : ma_bef [v0, v1, v2, v3, v4] 3 = false), ma_rn ro d 75 (63, [v0, v1, v2, v3, v4], .int x1 :: st, SH, σ) = ma_rn ro d 75 (64, [v0, v1, v2, some (.int x1), v4], st, SH, σ)) ∧
  (∀ (v0 : Option Value) (v1 : Option Value) (v2 : Option Value) (x1 : Int32) (x9 : Int32) (st : List Value) (σ : ma_H), ma_rn ro d 75 (64, [v0, v1, v2, some (.int x9), some (.int x1)], st, SH, σ) = ma_rn ro d 75 (67, [v0, v1, v2, some (.int x9), some (.int (x1 + nI 1))], st, SH, σ)) ∧
  (∀ (v0 : Option Value) (v1 : Option Value) (v2 : Option Value) (v3 : Option Value) (v4 : Option Value) (st : List Value) (σ : ma_H), ma_rn ro d 75 (67, [v0, v1, v2, v3, v4], st, SH, σ) = ma_rn ro d 75 (23, [v0, v1, v2, v3, v4], st, SH, σ)) ∧
  (∀ (v0 : Option Value) (v1 : Option Value) (v2 : Option Value) (v4 : Option Value) (x1 : Int32) (st : List Value) (σ : ma_H), ma_rn ro d 75 (70, [v0, v1, v2, some (.int x1), v4], st, SH, σ) = ma_rn ro d 75 (71, [v0, v1, v2, some (.int x1), v4], .int x1 :: st, SH, σ)) ∧
  (∀ (v0 : Option Value) (v1 : Option Value) (v2 : Option Value) (v3 : Option Value) (v4 : Option Value) (x1 : Int32) (σ : ma_H), ma_rn ro d 75 (71, [v0, v1, v2, v3, v4], [.int x1], SH, σ) = some (some (.int x1), SH, σ)) := ⟨fun v1 v2 v3 v4 a1 st σ => q_go e75_0 rfl rfl,
  fun v0 v1 v2 v3 v4 a1 st σ hc => q_getA e75_1 o_75 f_7_12 (by decide) hc,
  fun v0 v1 v2 v3 v4 a1 st σ hc => q_getA e75_4 o_75 f_7_93 (by decide) hc,
  fun v0 v2 v3 v4 x1 st σ => q_go e75_7 rfl rfl,
  fun v0 v1 v2 v3 v4 x1 a0 σ hc => q_invV (as := [.int x1]) (rest := []) e75_8 o_75 bn_7_102 c_7_102 m_50 (by decide) rfl rfl (Nat.le_of_ble_eq_true rfl) (Nat.le_of_ble_eq_true rfl) hc,
  fun v0 v2 v3 v4 x9 a1 st σ => q_go e75_11 rfl rfl,
  fun v0 v2 v3 v4 x9 st σ => q_go e75_11 rfl rfl,
  fun v0 v1 v3 v4 a1 st σ => q_go e75_12 rfl rfl,
  fun v0 v1 v3 v4 st σ => q_go e75_12 rfl rfl,
  fun v0 v1 v2 v3 v4 a1 st σ => q_ifnonnullR e75_13 rfl,
  fun v0 v1 v2 v3 v4 st σ => q_ifnonnullN e75_13 rfl,
  fun v0 v1 v2 v3 v4 st σ => q_iconst e75_16 (by decide),
  fun v0 v1 v2 v3 v4 x1 σ => q_iret e75_17 r_75,
  fun v0 v1 v2 v3 v4 st σ => q_iconst e75_18 (by decide),
  fun v0 v1 v2 v3 v4 x1 st σ hb => q_go e75_19 rfl (q_s1 hb rfl (Nat.le_of_ble_eq_true rfl)),
  fun v0 v1 v2 v3 v4 st σ => q_iconst e75_20 (by decide),
  fun v0 v1 v2 v4 x9 x1 st σ => q_go e75_21 rfl rfl,
  fun v0 v1 v2 v3 v4 st σ => q_bipush e75_25 (by decide),
  fun v0 v1 v2 v3 v4 x1 x2 st σ => (q_cmp e75_27 rfl).trans q_gt,
  fun v1 v2 v3 v4 a1 st σ => q_go e75_30 rfl rfl,
  fun v1 v2 v3 v4 a1 st σ => q_go e75_31 rfl rfl,
  fun v0 v1 v2 v3 v4 a1 st σ hc => q_getA e75_32 o_75 f_7_12 (by decide) hc,
  fun v0 v1 v2 v3 v4 a1 st σ hc => q_getA e75_35 o_75 f_7_93 (by decide) hc,
  fun v0 v1 v2 v3 v4 a1 st σ hc => q_getI e75_38 o_75 f_7_150 (by decide) hc,
  fun v0 v2 v3 v4 x1 st σ => q_go e75_41 rfl rfl,
  fun v0 v1 v3 v4 a1 st σ => q_go e75_42 rfl rfl,
  fun v0 v1 v3 v4 st σ => q_go e75_42 rfl rfl,
  fun v0 v1 v2 v3 v4 a1 st σ hc => q_getI e75_43 o_75 f_7_110 (by decide) hc,
  fun v0 v1 v2 v3 v4 st σ => q_bipush e75_46 (by decide),
  fun v0 v1 v2 v3 x1 st σ => q_go e75_48 rfl rfl,
  fun v0 v1 v2 v3 v4 x1 x2 st σ => q_go e75_50 rfl rfl,
  fun v0 v1 v2 v3 v4 x1 x2 x3 x4 a0 σ hc => q_invV (as := [.int x1, .int x2, .int x3, .int x4]) (rest := []) e75_51 o_75 bn_7_204 c_7_204 m_94 (by decide) rfl rfl (Nat.le_of_ble_eq_true rfl) (Nat.le_of_ble_eq_true rfl) hc,
  fun v0 v1 v2 v3 v4 x1 st σ => (q_if e75_54 rfl).trans q_eq,
  fun v0 v1 v2 v4 x1 st σ => q_go e75_57 rfl rfl,
  fun v0 v1 v2 v3 v4 st σ => q_iconst e75_58 (by decide),
  fun v0 v1 v2 v3 x1 st σ => q_go e75_59 rfl rfl,
  fun v0 v1 v2 v3 v4 x1 x2 st σ => q_go e75_61 rfl rfl,
  fun v0 v1 v2 v3 v4 x1 x2 st σ => q_go e75_62 rfl rfl,
  fun v0 v1 v2 v3 v4 x1 st σ hb => q_go e75_63 rfl (q_s1 hb rfl (Nat.le_of_ble_eq_true rfl)),
  fun v0 v1 v2 x1 x9 st σ => q_iinc e75_64 rfl rfl (by decide),
  fun v0 v1 v2 v3 v4 st σ => q_goto e75_67 rfl,
  fun v0 v1 v2 v4 x1 st σ => q_go e75_70 rfl rfl,
  fun v0 v1 v2 v3 v4 x1 σ => q_iret e75_71 r_75⟩
theorem E75 {ro : ma_RO} {d : Nat} (a0 : Nat) (x1 : Int32) (sh : List ma_Sh) (σ : ma_H) : ma_ev ro d 75 [.ref a0, .int x1] sh σ = ma_rn ro d 75 (0, [some (.ref a0), some (.int x1), none, none, none], [], sh, σ) := q_ent x_75 rfl
theorem e76_0 : decode (ma_cd 76) 0 = .ok (.aload_n 0, 1) := (congrArg (fun b => decode b 0) cd_76).trans dX7_odds_0
theorem e76_1 : decode (ma_cd 76) 1 = .ok (.getfield 12, 3) := (congrArg (fun b => decode b 1) cd_76).trans dX7_odds_1
theorem e76_4 : decode (ma_cd 76) 4 = .ok (.getfield 93, 3) := (congrArg (fun b => decode b 4) cd_76).trans dX7_odds_4
theorem e76_7 : decode (ma_cd 76) 7 = .ok (.iload_n 1, 1) := (congrArg (fun b => decode b 7) cd_76).trans dX7_odds_7
theorem e76_8 : decode (ma_cd 76) 8 = .ok (.invokevirtual 102, 3) := (congrArg (fun b => decode b 8) cd_76).trans dX7_odds_8
theorem e76_11 : decode (ma_cd 76) 11 = .ok (.astore 4, 2) := (congrArg (fun b => decode b 11) cd_76).trans dX7_odds_11
theorem e76_13 : decode (ma_cd 76) 13 = .ok (.aload 4, 2) := (congrArg (fun b => decode b 13) cd_76).trans dX7_odds_13
theorem e76_15 : decode (ma_cd 76) 15 = .ok (.ifnull 20, 3) := (congrArg (fun b => decode b 15) cd_76).trans dX7_odds_15
theorem e76_18 : decode (ma_cd 76) 18 = .ok (.iload_n 2, 1) := (congrArg (fun b => decode b 18) cd_76).trans dX7_odds_18
theorem e76_19 : decode (ma_cd 76) 19 = .ok (.bipush 60, 2) := (congrArg (fun b => decode b 19) cd_76).trans dX7_odds_19
theorem e76_21 : decode (ma_cd 76) 21 = .ok (.invokestatic 67, 3) := (congrArg (fun b => decode b 21) cd_76).trans dX7_odds_21
theorem e76_24 : decode (ma_cd 76) 24 = .ok (.ifCond .ne 11, 3) := (congrArg (fun b => decode b 24) cd_76).trans dX7_odds_24
theorem e76_27 : decode (ma_cd 76) 27 = .ok (.iload_n 3, 1) := (congrArg (fun b => decode b 27) cd_76).trans dX7_odds_27
theorem e76_28 : decode (ma_cd 76) 28 = .ok (.iconst 1, 1) := (congrArg (fun b => decode b 28) cd_76).trans dX7_odds_28
theorem e76_29 : decode (ma_cd 76) 29 = .ok (.invokestatic 67, 3) := (congrArg (fun b => decode b 29) cd_76).trans dX7_odds_29
theorem e76_32 : decode (ma_cd 76) 32 = .ok (.ifCond .eq 7, 3) := (congrArg (fun b => decode b 32) cd_76).trans dX7_odds_32
theorem e76_35 : decode (ma_cd 76) 35 = .ok (.ldc2_w 208, 3) := (congrArg (fun b => decode b 35) cd_76).trans dX7_odds_35
theorem e76_38 : decode (ma_cd 76) 38 = .ok (.lreturn, 1) := (congrArg (fun b => decode b 38) cd_76).trans dX7_odds_38
theorem e76_39 : decode (ma_cd 76) 39 = .ok (.iconst 0, 1) := (congrArg (fun b => decode b 39) cd_76).trans dX7_odds_39
theorem e76_40 : decode (ma_cd 76) 40 = .ok (.istore 5, 2) := (congrArg (fun b => decode b 40) cd_76).trans dX7_odds_40
theorem e76_42 : decode (ma_cd 76) 42 = .ok (.iconst 0, 1) := (congrArg (fun b => decode b 42) cd_76).trans dX7_odds_42
theorem e76_43 : decode (ma_cd 76) 43 = .ok (.istore 6, 2) := (congrArg (fun b => decode b 43) cd_76).trans dX7_odds_43
theorem e76_45 : decode (ma_cd 76) 45 = .ok (.iload 6, 2) := (congrArg (fun b => decode b 45) cd_76).trans dX7_odds_45
theorem e76_47 : decode (ma_cd 76) 47 = .ok (.bipush 20, 2) := (congrArg (fun b => decode b 47) cd_76).trans dX7_odds_47
theorem e76_49 : decode (ma_cd 76) 49 = .ok (.if_icmp .gt 38, 3) := (congrArg (fun b => decode b 49) cd_76).trans dX7_odds_49
theorem e76_52 : decode (ma_cd 76) 52 = .ok (.aload_n 0, 1) := (congrArg (fun b => decode b 52) cd_76).trans dX7_odds_52
theorem e76_53 : decode (ma_cd 76) 53 = .ok (.getfield 49, 3) := (congrArg (fun b => decode b 53) cd_76).trans dX7_odds_53
theorem e76_56 : decode (ma_cd 76) 56 = .ok (.aload 4, 2) := (congrArg (fun b => decode b 56) cd_76).trans dX7_odds_56
theorem e76_58 : decode (ma_cd 76) 58 = .ok (.invokevirtual 210, 3) := (congrArg (fun b => decode b 58) cd_76).trans dX7_odds_58
theorem e76_61 : decode (ma_cd 76) 61 = .ok (.aload_n 0, 1) := (congrArg (fun b => decode b 61) cd_76).trans dX7_odds_61
theorem e76_62 : decode (ma_cd 76) 62 = .ok (.iload_n 2, 1) := (congrArg (fun b => decode b 62) cd_76).trans dX7_odds_62
theorem e76_63 : decode (ma_cd 76) 63 = .ok (.iload 6, 2) := (congrArg (fun b => decode b 63) cd_76).trans dX7_odds_63
theorem e76_65 : decode (ma_cd 76) 65 = .ok (.invokevirtual 213, 3) := (congrArg (fun b => decode b 65) cd_76).trans dX7_odds_65
theorem e76_68 : decode (ma_cd 76) 68 = .ok (.aload_n 0, 1) := (congrArg (fun b => decode b 68) cd_76).trans dX7_odds_68
theorem e76_69 : decode (ma_cd 76) 69 = .ok (.getfield 49, 3) := (congrArg (fun b => decode b 69) cd_76).trans dX7_odds_69
theorem e76_72 : decode (ma_cd 76) 72 = .ok (.getfield 113, 3) := (congrArg (fun b => decode b 72) cd_76).trans dX7_odds_72
theorem e76_75 : decode (ma_cd 76) 75 = .ok (.ifCond .eq 6, 3) := (congrArg (fun b => decode b 75) cd_76).trans dX7_odds_75
theorem e76_78 : decode (ma_cd 76) 78 = .ok (.iinc 5 1, 3) := (congrArg (fun b => decode b 78) cd_76).trans dX7_odds_78
theorem e76_81 : decode (ma_cd 76) 81 = .ok (.iinc 6 1, 3) := (congrArg (fun b => decode b 81) cd_76).trans dX7_odds_81
theorem e76_84 : decode (ma_cd 76) 84 = .ok (.goto (-39), 3) := (congrArg (fun b => decode b 84) cd_76).trans dX7_odds_84
theorem e76_87 : decode (ma_cd 76) 87 = .ok (.iload 5, 2) := (congrArg (fun b => decode b 87) cd_76).trans dX7_odds_87
theorem e76_89 : decode (ma_cd 76) 89 = .ok (.i2l, 1) := (congrArg (fun b => decode b 89) cd_76).trans dX7_odds_89
theorem e76_90 : decode (ma_cd 76) 90 = .ok (.ldc2_w 216, 3) := (congrArg (fun b => decode b 90) cd_76).trans dX7_odds_90
theorem e76_93 : decode (ma_cd 76) 93 = .ok (.iload_n 3, 1) := (congrArg (fun b => decode b 93) cd_76).trans dX7_odds_93
theorem e76_94 : decode (ma_cd 76) 94 = .ok (.invokestatic 218, 3) := (congrArg (fun b => decode b 94) cd_76).trans dX7_odds_94
theorem e76_97 : decode (ma_cd 76) 97 = .ok (.lreturn, 1) := (congrArg (fun b => decode b 97) cd_76).trans dX7_odds_97
theorem Sh76_45 {ro : ma_RO} {d : Nat} : (∀ (v0 : Option Value) (v1 : Option Value) (v2 : Option Value) (v3 : Option Value) (v4 : Option Value) (v5 : Option Value) (x1 : Int32) (st : List Value) (σ : ma_H), ma_rn ro d 76 (45, [v0, v1, v2, v3, v4, v5, some (.int x1)], st, SH, σ) = ma_rn ro d 76 (47, [v0, v1, v2, v3, v4, v5, some (.int x1)], .int x1 :: st, SH, σ)) := fun v0 v1 v2 v3 v4 v5 x1 st σ => q_go e76_45 rfl rfl
theorem S76 {ro : ma_RO} {d : Nat} : (∀ (v1 : Option Value) (v2 : Option Value) (v3 : Option Value) (v4 : Option Value) (v5 : Option Value) (v6 : Option Value) (a1 : Nat) (st : List Value) (σ : ma_H), ma_rn ro d 76 (0, [some (.ref a1), v1, v2, v3, v4, v5, v6], st, SH, σ) = ma_rn ro d 76 (1, [some (.ref a1), v1, v2, v3, v4, v5, v6], .ref a1 :: st, SH, σ)) ∧
  (∀ (v0 : Option Value) (v1 : Option Value) (v2 : Option Value) (v3 : Option Value) (v4 : Option Value) (v5 : Option Value) (v6 : Option Value) (a1 : Nat) (st : List Value) (σ : ma_H) (hc : hk_cls a1 = 7), ma_rn ro d 76 (1, [v0, v1, v2, v3, v4, v5, v6], .ref a1 :: st, SH, σ) = ma_rn ro d 76 (4, [v0, v1, v2, v3, v4, v5, v6], .ref (1) :: st, SH, σ)) ∧
  (∀ (v0 : Option Value) (v1 : Option Value) (v2 : Option Value) (v3 : Option Value) (v4 : Option Value) (v5 : Option Value) (v6 : Option Value) (a1 : Nat) (st : List Value) (σ : ma_H) (hc : hk_cls a1 = 5), ma_rn ro d 76 (4, [v0, v1, v2, v3, v4, v5, v6], .ref a1 :: st, SH, σ) = ma_rn ro d 76 (7, [v0, v1, v2, v3, v4, v5, v6], .ref (a1 + 1) :: st, SH, σ)) ∧
  (∀ (v0 : Option Value) (v2 : Option Value) (v3 : Option Value) (v4 : Option Value) (v5 : Option Value) (v6 : Option Value) (x1 : Int32) (st : List Value) (σ : ma_H), ma_rn ro d 76 (7, [v0, some (.int x1), v2, v3, v4, v5, v6], st, SH, σ) = ma_rn ro d 76 (8, [v0, some (.int x1), v2, v3, v4, v5, v6], .int x1 :: st, SH, σ)) ∧
  (∀ (v0 : Option Value) (v1 : Option Value) (v2 : Option Value) (v3 : Option Value) (v4 : Option Value) (v5 : Option Value) (v6 : Option Value) (x1 : Int32) (a0 : Nat) (σ : ma_H) (hc : hk_cls a0 = 6), ma_rn ro (d + 1) 76 (8, [v0, v1, v2, v3, v4, v5, v6], .int x1 :: .ref a0 :: [], SH, σ) = (ma_ev ro d 50 [.ref a0, .int x1] SH σ).bind (fun q => ma_rn ro (d + 1) 76 (11, [v0, v1, v2, v3, v4, v5, v6], (q.1.toList ++ []), q.2.1, q.2.2))) ∧
  (∀ (v0 : Option Value) (v1 : Option Value) (v2 : Option Value) (v4 : Option Value) (v5 : Option Value) (v6 : Option Value) (x9 : Int32) (a1 : Nat) (st : List Value) (σ : ma_H), ma_rn ro d 76 (11, [v0, v1, v2, some (.int x9), v4, v5, v6], .ref a1 :: st, SH, σ) = ma_rn ro d 76 (13, [v0, v1, v2, some (.int x9), some (.ref a1), v5, v6], st, SH, σ)) ∧
  (∀ (v0 : Option Value) (v1 : Option Value) (v2 : Option Value) (v4 : Option Value) (v5 : Option Value) (v6 : Option Value) (x9 : Int32) (st : List Value) (σ : ma_H), ma_rn ro d 76 (11, [v0, v1, v2, some (.int x9), v4, v5, v6], .null :: st, SH, σ) = ma_rn ro d 76 (13, [v0, v1, v2, some (.int x9), some .null, v5, v6], st, SH, σ)) ∧
  (∀ (v0 : Option Value) (v1 : Option Value) (v2 : Option Value) (v3 : Option Value) (v5 : Option Value) (v6 : Option Value) (a1 : Nat) (st : List Value) (σ : ma_H), ma_rn ro d 76 (13, [v0, v1, v2, v3, some (.ref a1), v5, v6], st, SH, σ) = ma_rn ro d 76 (15, [v0, v1, v2, v3, some (.ref a1), v5, v6], .ref a1 :: st, SH, σ)) ∧
  (∀ (v0 : Option Value) (v1 : Option Value) (v2 : Option Value) (v3 : Option Value) (v5 : Option Value) (v6 : Option Value) (st : List Value) (σ : ma_H), ma_rn ro d 76 (13, [v0, v1, v2, v3, some .null, v5, v6], st, SH, σ) = ma_rn ro d 76 (15, [v0, v1, v2, v3, some .null, v5, v6], .null :: st, SH, σ)) ∧
  (∀ (v0 : Option Value) (v1 : Option Value) (v2 : Option Value) (v3 : Option Value) (v4 : Option Value) (v5 : Option Value) (v6 : Option Value) (a1 : Nat) (st : List Value) (σ : ma_H), ma_rn ro d 76 (15, [v0, v1, v2, v3, v4, v5, v6], .ref a1 :: st, SH, σ) = ma_rn ro d 76 (18, [v0, v1, v2, v3, v4, v5, v6], st, SH, σ)) ∧
  (∀ (v0 : Option Value) (v1 : Option Value) (v2 : Option Value) (v3 : Option Value) (v4 : Option Value) (v5 : Option Value) (v6 : Option Value) (st : List Value) (σ : ma_H), ma_rn ro d 76 (15, [v0, v1, v2, v3, v4, v5, v6], .null :: st, SH, σ) = ma_rn ro d 76 (35, [v0, v1, v2, v3, v4, v5, v6], st, SH, σ)) ∧
  (∀ (v0 : Option Value) (v1 : Option Value) (v3 : Option Value) (v4 : Option Value) (v5 : Option Value) (v6 : Option Value) (x1 : Int32) (st : List Value) (σ : ma_H), ma_rn ro d 76 (18, [v0, v1, some (.int x1), v3, v4, v5, v6], st, SH, σ) = ma_rn ro d 76 (19, [v0, v1, some (.int x1), v3, v4, v5, v6], .int x1 :: st, SH, σ)) ∧
  (∀ (v0 : Option Value) (v1 : Option Value) (v2 : Option Value) (v3 : Option Value) (v4 : Option Value) (v5 : Option Value) (v6 : Option Value) (st : List Value) (σ : ma_H), ma_rn ro d 76 (19, [v0, v1, v2, v3, v4, v5, v6], st, SH, σ) = ma_rn ro d 76 (21, [v0, v1, v2, v3, v4, v5, v6], .int (nI 60) :: st, SH, σ)) ∧
  (∀ (v0 : Option Value) (v1 : Option Value) (v2 : Option Value) (v3 : Option Value) (v4 : Option Value) (v5 : Option Value) (v6 : Option Value) (x1 : Int32) (x2 : Int32) (σ : ma_H), ma_rn ro (d + 1) 76 (21, [v0, v1, v2, v3, v4, v5, v6], .int x2 :: .int x1 :: [], SH, σ) = (ma_ev ro d 88 [.int x1, .int x2] SH σ).bind (fun q => ma_rn ro (d + 1) 76 (24, [v0, v1, v2, v3, v4, v5, v6], (q.1.toList ++ []), q.2.1, q.2.2))) ∧
  (∀ (v0 : Option Value) (v1 : Option Value) (v2 : Option Value) (v3 : Option Value) (v4 : Option Value) (v5 : Option Value) (v6 : Option Value) (x1 : Int32) (st : List Value) (σ : ma_H), ma_rn ro d 76 (24, [v0, v1, v2, v3, v4, v5, v6], .int x1 :: st, SH, σ) = if x1 = nI 0 then ma_rn ro d 76 (27, [v0, v1, v2, v3, v4, v5, v6], st, SH, σ) else ma_rn ro d 76 (35, [v0, v1, v2, v3, v4, v5, v6], st, SH, σ)) ∧
  (∀ (v0 : Option Value) (v1 : Option Value) (v2 : Option Value) (v4 : Option Value) (v5 : Option Value) (v6 : Option Value) (x1 : Int32) (st : List Value) (σ : ma_H), ma_rn ro d 76 (27, [v0, v1, v2, some (.int x1), v4, v5, v6], st, SH, σ) = ma_rn ro d 76 (28, [v0, v1, v2, some (.int x1), v4, v5, v6], .int x1 :: st, SH, σ)) ∧
  (∀ (v0 : Option Value) (v1 : Option Value) (v2 : Option Value) (v3 : Option Value) (v4 : Option Value) (v5 : Option Value) (v6 : Option Value) (st : List Value) (σ : ma_H), ma_rn ro d 76 (28, [v0, v1, v2, v3, v4, v5, v6], st, SH, σ) = ma_rn ro d 76 (29, [v0, v1, v2, v3, v4, v5, v6], .int (nI 1) :: st, SH, σ)) ∧
  (∀ (v0 : Option Value) (v1 : Option Value) (v2 : Option Value) (v3 : Option Value) (v4 : Option Value) (v5 : Option Value) (v6 : Option Value) (x1 : Int32) (x2 : Int32) (σ : ma_H), ma_rn ro (d + 1) 76 (29, [v0, v1, v2, v3, v4, v5, v6], .int x2 :: .int x1 :: [], SH, σ) = (ma_ev ro d 88 [.int x1, .int x2] SH σ).bind (fun q => ma_rn ro (d + 1) 76 (32, [v0, v1, v2, v3, v4, v5, v6], (q.1.toList ++ []), q.2.1, q.2.2))) ∧
  (∀ (v0 : Option Value) (v1 : Option Value) (v2 : Option Value) (v3 : Option Value) (v4 : Option Value) (v5 : Option Value) (v6 : Option Value) (x1 : Int32) (st : List Value) (σ : ma_H), ma_rn ro d 76 (32, [v0, v1, v2, v3, v4, v5, v6], .int x1 :: st, SH, σ) = if x1 = nI 0 then ma_rn ro d 76 (39, [v0, v1, v2, v3, v4, v5, v6], st, SH, σ) else ma_rn ro d 76 (35, [v0, v1, v2, v3, v4, v5, v6], st, SH, σ)) ∧
  (∀ (v0 : Option Value) (v1 : Option Value) (v2 : Option Value) (v3 : Option Value) (v4 : Option Value) (v5 : Option Value) (v6 : Option Value) (st : List Value) (σ : ma_H), ma_rn ro d 76 (35, [v0, v1, v2, v3, v4, v5, v6], st, SH, σ) = ma_rn ro d 76 (38, [v0, v1, v2, v3, v4, v5, v6], .long (-9223372036854775808) :: st, SH, σ)) ∧
  (∀ (v0 : Option Value) (v1 : Option Value) (v2 : Option Value) (v3 : Option Value) (v4 : Option Value) (v5 : Option Value) (v6 : Option Value) (j1 : Int64) (σ : ma_H), ma_rn ro d 76 (38, [v0, v1, v2, v3, v4, v5, v6], [.long j1], SH, σ) = some (some (.long j1), SH, σ)) ∧
  (∀ (v0 : Option Value) (v1 : Option Value) (v2 : Option Value) (v3 : Option Value) (v4 : Option Value) (v5 : Option Value) (v6 : Option Value) (st : List Value) (σ : ma_H), ma_rn ro d 76 (39, [v0, v1, v2, v3, v4, v5, v6], st, SH, σ) = ma_rn ro d 76 (40, [v0, v1, v2, v3, v4, v5, v6], .int (nI 0) :: st, SH, σ)) ∧
  (∀ (v0 : Option Value) (v1 : Option Value) (v2 : Option Value) (v3 : Option Value) (v4 : Option Value) (v5 : Option Value) (v6 : Option Value) (x1 : Int32) (st : List Value) (σ : ma_H) (hb : ma_bef [v0, v1, v2, v3, v4, v5, v6] 5 = false), ma_rn ro d 76 (40, [v0, v1, v2, v3, v4, v5, v6], .int x1 :: st, SH, σ) = ma_rn ro d 76 (42, [v0, v1, v2, v3, v4, some (.int x1), v6], st, SH, σ)) ∧
  (∀ (v0 : Option Value) (v1 : Option Value) (v2 : Option Value) (v3 : Option Value) (v4 : Option Value) (v5 : Option Value) (v6 : Option Value) (st : List Value) (σ : ma_H), ma_rn ro d 76 (42, [v0, v1, v2, v3, v4, v5, v6], st, SH, σ) = ma_rn ro d 76 (43, [v0, v1, v2, v3, v4, v5, v6], .int (nI 0) :: st, SH, σ)) ∧
  (∀ (v0 : Option Value) (v1 : Option Value) (v2 : Option Value) (v3 : Option Value) (v4 : Option Value) (v6 : Option Value) (x9 : Int32) (x1 : Int32) (st : List Value) (σ : ma_H), ma_rn ro d 76 (43, [v0, v1, v2, v3, v4, some (.int x9), v6], .int x1 :: st, SH, σ) = ma_rn ro d 76 (45, [v0, v1, v2, v3, v4, some (.int x9), some (.int x1)], st, SH, σ)) ∧
  (∀ (v0 : Option Value) (v1 : Option Value) (v2 : Option Value) (v3 : Option Value) (v4 : Option Value) (v5 : Option Value) (v6 : Option Value) (st : List Value) (σ : ma_H), ma_rn ro d 76 (47, [v0, v1, v2, v3, v4, v5, v6], st, SH, σ) = ma_rn ro d 76 (49, [v0, v1, v2, v3, v4, v5, v6], .int (nI 20) :: st, SH, σ)) ∧
  (∀ (v0 : Option Value) (v1 : Option Value) (v2 : Option Value) (v3 : Option Value) (v4 : Option Value) (v5 : Option Value) (v6 : Option Value) (x1 : Int32) (x2 : Int32) (st : List Value) (σ : ma_H), ma_rn ro d 76 (49, [v0, v1, v2, v3, v4, v5, v6], .int x1 :: .int x2 :: st, SH, σ) = if x1 < x2 then ma_rn ro d 76 (87, [v0, v1, v2, v3, v4, v5, v6], st, SH, σ) else ma_rn ro d 76 (52, [v0, v1, v2, v3, v4, v5, v6], st, SH, σ)) ∧
  (∀ (v1 : Option Value) (v2 : Option Value) (v3 : Option Value) (v4 : Option Value) (v5 : Option Value) (v6 : Option Value) (a1 : Nat) (st : List Value) (σ : ma_H), ma_rn ro d 76 (52, [some (.ref a1), v1, v2, v3, v4, v5, v6], st, SH, σ) = ma_rn ro d 76 (53, [some (.ref a1), v1, v2, v3, v4, v5, v6], .ref a1 :: st, SH, σ)) ∧
  (∀ (v0 : Option Value) (v1 : Option Value) (v2 : Option Value) (v3 : Option Value) (v4 : Option Value) (v5 : Option Value) (v6 : Option Value) (a1 : Nat) (st : List Value) (σ : ma_H) (hc : hk_cls a1 = 7), ma_rn ro d 76 (53, [v0, v1, v2, v3, v4, v5, v6], .ref a1 :: st, SH, σ) = ma_rn ro d 76 (56, [v0, v1, v2, v3, v4, v5, v6], .ref (84) :: st, SH, σ)) ∧
  (∀ (v0 : Option Value) (v1 : Option Value) (v2 : Option Value) (v3 : Option Value) (v5 : Option Value) (v6 : Option Value) (a1 : Nat) (st : List Value) (σ : ma_H), ma_rn ro d 76 (56, [v0, v1, v2, v3, some (.ref a1), v5, v6], st, SH, σ) = ma_rn ro d 76 (58, [v0, v1, v2, v3, some (.ref a1), v5, v6], .ref a1 :: st, SH, σ)) ∧
  (∀ (v0 : Option Value) (v1 : Option Value) (v2 : Option Value) (v3 : Option Value) (v5 : Option Value) (v6 : Option Value) (st : List Value) (σ : ma_H), ma_rn ro d 76 (56, [v0, v1, v2, v3, some .null, v5, v6], st, SH, σ) = ma_rn ro d 76 (58, [v0, v1, v2, v3, some .null, v5, v6], .null :: st, SH, σ)) ∧
  (∀ (v0 : Option Value) (v1 : Option Value) (v2 : Option Value) (v3 : Option Value) (v4 : Option Value) (v5 : Option Value) (v6 : Option Value) (a1 : Nat) (a0 : Nat) (σ : ma_H) (hc : hk_cls a0 = 1), ma_rn ro (d + 1) 76 (58, [v0, v1, v2, v3, v4, v5, v6], .ref a1 :: .ref a0 :: [], SH, σ) = (ma_ev ro d 8 [.ref a0, .ref a1] SH σ).bind (fun q => ma_rn ro (d + 1) 76 (61, [v0, v1, v2, v3, v4, v5, v6], (q.1.toList ++ []), q.2.1, q.2.2))) ∧
  (∀ (v1 : Option Value) (v2 : Option Value) (v3 : Option Value) (v4 : Option Value) (v5 : Option Value) (v6 : Option Value) (a1 : Nat) (st : List Value) (σ : ma_H), ma_rn ro d 76 (61, [some (.ref a1), v1, v2, v3, v4, v5, v6], st, SH, σ) = ma_rn ro d 76 (62, [some (.ref a1), v1, v2, v3, v4, v5, v6], .ref a1 :: st, SH, σ)) ∧
  (∀ (v0 : Option Value) (v1 : Option Value) (v3 : Option Value) (v4 : Option Value) (v5 : Option Value) (v6 : Option Value) (x1 : Int32) (st : List Value) (σ : ma_H), ma_rn ro d 76 (62, [v0, v1, some (.int x1), v3, v4, v5, v6], st, SH, σ) = ma_rn ro d 76 (63, [v0, v1, some (.int x1), v3, v4, v5, v6], .int x1 :: st, SH, σ)) ∧
  (∀ (v0 : Option Value) (v1 : Option Value) (v2 : Option Value) (v3 : Option Value) (v4 : Option Value) (v5 : Option Value) (x1 : Int32) (st : List Value) (σ : ma_H), ma_rn ro d 76 (63, [v0, v1, v2, v3, v4, v5, some (.int x1)], st, SH, σ) = ma_rn ro d 76 (65, [v0, v1, v2, v3, v4, v5, some (.int x1)], .int x1 :: st, SH, σ)) ∧
  (∀ (v0 : Option Value) (v1 : Option Value) (v2 : Option Value) (v3 : Option Value) (v4 : Option Value) (v5 : Option Value) (v6 : Option Value) (x1 : Int32) (x2 : Int32) (a0 : Nat) (σ : ma_H) (hc : hk_cls a0 = 7), ma_rn ro (d + 1) 76 (65, [v0, v1, v2, v3, v4, v5, v6], .int x2 :: .int x1 :: .ref a0 :: [], SH, σ) = (ma_ev ro d 93 [.ref a0, .int x1, .int x2] SH σ).bind (fun q => ma_rn ro (d + 1) 76 (68, [v0, v1, v2, v3, v4, v5, v6], (q.1.toList ++ []), q.2.1, q.2.2))) ∧
  (∀ (v1 : Option Value) (v2 : Option Value) (v3 : Option Value) (v4 : Option Value) (v5 : Option Value) (v6 : Option Value) (a1 : Nat) (st : List Value) (σ : ma_H), ma_rn ro d 76 (68, [some (.ref a1), v1, v2, v3, v4, v5, v6], st, SH, σ) = ma_rn ro d 76 (69, [some (.ref a1), v1, v2, v3, v4, v5, v6], .ref a1 :: st, SH, σ)) ∧
  (∀ (v0 : Option Value) (v1 : Option Value) (v2 : Option Value) (v3 : Option Value) (v4 : Option Value) (v5 : Option Value) (v6 : Option Value) (a1 : Nat) (st : List Value) (σ : ma_H) (hc : hk_cls a1 = 7), ma_rn ro d 76 (69, [v0, v1, v2, v3, v4, v5, v6], .ref a1 :: st, SH, σ) = ma_rn ro d 76 (72, [v0, v1, v2, v3, v4, v5, v6], .ref (84) :: st, SH, σ)) ∧
  (∀ (v0 : Option Value) (v1 : Option Value) (v2 : Option Value) (v3 : Option Value) (v4 : Option Value) (v5 : Option Value) (v6 : Option Value) (a1 : Nat) (st : List Value) (σ : ma_H) (hc : hk_cls a1 = 1), ma_rn ro d 76 (72, [v0, v1, v2, v3, v4, v5, v6], .ref a1 :: st, SH, σ) = ma_rn ro d 76 (75, [v0, v1, v2, v3, v4, v5, v6], .int (σ a1 3) :: st, SH, σ)) ∧
  (∀ (v0 : Option Value) (v1 : Option Value) (v2 : Option Value) (v3 : Option Value) (v4 : Option Value) (v5 : Option Value) (v6 : Option Value) (x1 : Int32) (st : List Value) (σ : ma_H), ma_rn ro d 76 (75, [v0, v1, v2, v3, v4, v5, v6], .int x1 :: st, SH, σ) = if x1 = nI 0 then ma_rn ro d 76 (81, [v0, v1, v2, v3, v4, v5, v6], st, SH, σ) else ma_rn ro d 76 (78, [v0, v1, v2, v3, v4, v5, v6], st, SH, σ)) ∧
  (∀ (v0 : Option Value) (v1 : Option Value) (v2 : Option Value) (v3 : Option Value) (v4 : Option Value) (v6 : Option Value) (x1 : Int32) (st : List Value) (σ : ma_H) (hb : ma_bef [v0, v1, v2, v3, v4, some (.int x1), v6] 5 = false), ma_rn ro d 76 (78, [v0, v1, v2, v3, v4, some (.int x1), v6], st, SH, σ) = ma_rn ro d 76 (81, [v0, v1, v2, v3, v4, some (.int (x1 + nI 1)), v6], st, SH, σ)) ∧
  (∀ (v0 : Option Value) (v1 : Option Value) (v2 : Option Value) (v3 : Option Value) (v4 : Option Value) (x1 : Int32) (x9 : Int32) (st : List Value) (σ : ma_H), ma_rn ro d 76 (81, [v0, v1, v2, v3, v4, some (.int x9), some (.int x1)], st, SH, σ) = ma_rn ro d 76 (84, [v0, v1, v2, v3, v4, some (.int x9), some (.int (x1 + nI 1))], st, SH, σ)) ∧
  (∀ (v0 : Option Value) (v1 : Option Value) (v2 : Option Value) (v3 : Option Value) (v4 : Option Value) (v5 : Option Value) (v6 : Option Value) (st : List Value) (σ : ma_H), ma_rn ro d 76 (84, [v0, v1, v2, v3, v4, v5, v6], st, SH, σ) = ma_rn ro d 76 (45, [v0, v1, v2, v3, v4, v5, v6], st, SH, σ)) ∧
  (∀ (v0 : Option Value) (v1 : Option Value) (v2 : Option Value) (v3 : Option Value) (v4 : Option Value) (v6 : Option Value) (x1 : Int32) (st : List Value) (σ : ma_H), ma_rn ro d 76 (87, [v0, v1, v2, v3, v4, some (.int x1), v6], st, SH, σ) = ma_rn ro d 76 (89, [v0, v1, v2, v3, v4, some (.int x1), v6], .int x1 :: st, SH, σ)) ∧
  (∀ (v0 : Option Value) (v1 : Option Value) (v2 : Option Value) (v3 : Option Value) (v4 : Option Value) (v5 : Option Value) (v6 : Option Value) (x1 : Int32) (st : List Value) (σ : ma_H), ma_rn ro d 76 (89, [v0, v1, v2, v3, v4, v5, v6], .int x1 :: st, SH, σ) = ma_rn ro d 76 (90, [v0, v1, v2, v3, v4, v5, v6], .long x1.toInt64 :: st, SH, σ)) ∧
  (∀ (v0 : Option Value) (v1 : Option Value) (v2 : Option Value) (v3 : Option Value) (v4 : Option Value) (v5 : Option Value) (v6 : Option Value) (st : List Value) (σ : ma_H), ma_rn ro d 76 (90, [v0, v1, v2, v3, v4, v5, v6], st, SH, σ) = ma_rn ro d 76 (93, [v0, v1, v2, v3, v4, v5, v6], .long (21) :: st, SH, σ)) ∧
  (∀ (v0 : Option Value) (v1 : Option Value) (v2 : Option Value) (v4 : Option Value) (v5 : Option Value) (v6 : Option Value) (x1 : Int32) (st : List Value) (σ : ma_H), ma_rn ro d 76 (93, [v0, v1, v2, some (.int x1), v4, v5, v6], st, SH, σ) = ma_rn ro d 76 (94, [v0, v1, v2, some (.int x1), v4, v5, v6], .int x1 :: st, SH, σ)) ∧
  (∀ (v0 : Option Value) (v1 : Option Value) (v2 : Option Value) (v3 : Option Value) (v4 : Option Value) (v5 : Option Value) (v6 : Option Value) (j1 : Int64) (j2 : Int64) (x3 : Int32) (σ : ma_H), ma_rn ro (d + 1) 76 (94, [v0, v1, v2, v3, v4, v5, v6], .int x3 :: .long j2 :: .long j1 :: [], SH, σ) = (ma_ev ro d 92 [.long j1, .long j2, .int x3] SH σ).bind (fun q => ma_rn ro (d + 1) 76 (97, [v0, v1, v2, v3, v4, v5, v6], (q.1.toList ++ []), q.2.1, q.2.2))) ∧
  (∀ (v0 : Option Value) (v1 : Option Value) (v2 : Option Value) (v3 : Option Value) (v4 : Option Value) (v5 : Option Value) (v6 : Option Value) (j1 : Int64) (σ : ma_H), ma_rn ro d 76 (97, [v0, v1, v2, v3, v4, v5, v6], [.long j1], SH, σ) = some (some (.long j1), SH, σ)) := ⟨fun v1 v2 v3 v4 v5 v6 a1 st σ => q_go e76_0 rfl rfl,
  fun v0 v1 v2 v3 v4 v5 v6 a1 st σ hc => q_getA e76_1 o_76 f_7_12 (by decide) hc,
  fun v0 v1 v2 v3 v4 v5 v6 a1 st σ hc => q_getA e76_4 o_76 f_7_93 (by decide) hc,
  fun v0 v2 v3 v4 v5 v6 x1 st σ => q_go e76_7 rfl rfl,
  fun v0 v1 v2 v3 v4 v5 v6 x1 a0 σ hc => q_invV (as := [.int x1]) (rest := []) e76_8 o_76 bn_7_102 c_7_102 m_50 (by decide) rfl rfl (Nat.le_of_ble_eq_true rfl) (Nat.le_of_ble_eq_true rfl) hc,
  fun v0 v1 v2 v4 v5 v6 x9 a1 st σ => q_go e76_11 rfl rfl,
  fun v0 v1 v2 v4 v5 v6 x9 st σ => q_go e76_11 rfl rfl,
  fun v0 v1 v2 v3 v5 v6 a1 st σ => q_go e76_13 rfl rfl,
  fun v0 v1 v2 v3 v5 v6 st σ => q_go e76_13 rfl rfl,
  fun v0 v1 v2 v3 v4 v5 v6 a1 st σ => q_ifnullR e76_15 rfl,
  fun v0 v1 v2 v3 v4 v5 v6 st σ => q_ifnullN e76_15 rfl,
  fun v0 v1 v3 v4 v5 v6 x1 st σ => q_go e76_18 rfl rfl,
  fun v0 v1 v2 v3 v4 v5 v6 st σ => q_bipush e76_19 (by decide),
  fun v0 v1 v2 v3 v4 v5 v6 x1 x2 σ => q_invS (as := [.int x1, .int x2]) (rest := []) e76_21 o_76 bn_7_67 c_7_67 ⟨m_88.1, m_88.2.1, m_88.2.2.1⟩ rfl rfl (Nat.le_of_ble_eq_true rfl) (Nat.le_of_ble_eq_true rfl),
  fun v0 v1 v2 v3 v4 v5 v6 x1 st σ => (q_if e76_24 rfl).trans q_ne,
  fun v0 v1 v2 v4 v5 v6 x1 st σ => q_go e76_27 rfl rfl,
  fun v0 v1 v2 v3 v4 v5 v6 st σ => q_iconst e76_28 (by decide),
  fun v0 v1 v2 v3 v4 v5 v6 x1 x2 σ => q_invS (as := [.int x1, .int x2]) (rest := []) e76_29 o_76 bn_7_67 c_7_67 ⟨m_88.1, m_88.2.1, m_88.2.2.1⟩ rfl rfl (Nat.le_of_ble_eq_true rfl) (Nat.le_of_ble_eq_true rfl),
  fun v0 v1 v2 v3 v4 v5 v6 x1 st σ => (q_if e76_32 rfl).trans q_eq,
  fun v0 v1 v2 v3 v4 v5 v6 st σ => q_ldc2 e76_35 o_76 l_7_208,
  fun v0 v1 v2 v3 v4 v5 v6 j1 σ => q_lret e76_38 r_76,
  fun v0 v1 v2 v3 v4 v5 v6 st σ => q_iconst e76_39 (by decide),
  fun v0 v1 v2 v3 v4 v5 v6 x1 st σ hb => q_go e76_40 rfl (q_s1 hb rfl (Nat.le_of_ble_eq_true rfl)),
  fun v0 v1 v2 v3 v4 v5 v6 st σ => q_iconst e76_42 (by decide),
  fun v0 v1 v2 v3 v4 v6 x9 x1 st σ => q_go e76_43 rfl rfl,
  fun v0 v1 v2 v3 v4 v5 v6 st σ => q_bipush e76_47 (by decide),
  fun v0 v1 v2 v3 v4 v5 v6 x1 x2 st σ => (q_cmp e76_49 rfl).trans q_gt,
  fun v1 v2 v3 v4 v5 v6 a1 st σ => q_go e76_52 rfl rfl,
  fun v0 v1 v2 v3 v4 v5 v6 a1 st σ hc => q_getA e76_53 o_76 f_7_49 (by decide) hc,
  fun v0 v1 v2 v3 v5 v6 a1 st σ => q_go e76_56 rfl rfl,
  fun v0 v1 v2 v3 v5 v6 st σ => q_go e76_56 rfl rfl,
  fun v0 v1 v2 v3 v4 v5 v6 a1 a0 σ hc => q_invV (as := [.ref a1]) (rest := []) e76_58 o_76 bn_7_210 c_7_210 m_8 (by decide) rfl rfl (Nat.le_of_ble_eq_true rfl) (Nat.le_of_ble_eq_true rfl) hc,
  fun v1 v2 v3 v4 v5 v6 a1 st σ => q_go e76_61 rfl rfl,
  fun v0 v1 v3 v4 v5 v6 x1 st σ => q_go e76_62 rfl rfl,
  fun v0 v1 v2 v3 v4 v5 x1 st σ => q_go e76_63 rfl rfl,
  fun v0 v1 v2 v3 v4 v5 v6 x1 x2 a0 σ hc => q_invV (as := [.int x1, .int x2]) (rest := []) e76_65 o_76 bn_7_213 c_7_213 m_93 (by decide) rfl rfl (Nat.le_of_ble_eq_true rfl) (Nat.le_of_ble_eq_true rfl) hc,
  fun v1 v2 v3 v4 v5 v6 a1 st σ => q_go e76_68 rfl rfl,
  fun v0 v1 v2 v3 v4 v5 v6 a1 st σ hc => q_getA e76_69 o_76 f_7_49 (by decide) hc,
  fun v0 v1 v2 v3 v4 v5 v6 a1 st σ hc => q_getI e76_72 o_76 f_7_113 (by decide) hc,
  fun v0 v1 v2 v3 v4 v5 v6 x1 st σ => (q_if e76_75 rfl).trans q_eq,
  fun v0 v1 v2 v3 v4 v6 x1 st σ hb => q_iinc e76_78 rfl hb (by decide),
  fun v0 v1 v2 v3 v4 x1 x9 st σ => q_iinc e76_81 rfl rfl (by decide),
  fun v0 v1 v2 v3 v4 v5 v6 st σ => q_goto e76_84 rfl,
  fun v0 v1 v2 v3 v4 v6 x1 st σ => q_go e76_87 rfl rfl,
  fun v0 v1 v2 v3 v4 v5 v6 x1 st σ => q_go e76_89 rfl rfl,
  fun v0 v1 v2 v3 v4 v5 v6 st σ => q_ldc2 e76_90 o_76 l_7_216,
  fun v0 v1 v2 v4 v5 v6 x1 st σ => q_go e76_93 rfl rfl,
  fun v0 v1 v2 v3 v4 v5 v6 j1 j2 x3 σ => q_invS (as := [.long j1, .long j2, .int x3]) (rest := []) e76_94 o_76 bn_7_218 c_7_218 ⟨m_92.1, m_92.2.1, m_92.2.2.1⟩ rfl rfl (Nat.le_of_ble_eq_true rfl) (Nat.le_of_ble_eq_true rfl),
  fun v0 v1 v2 v3 v4 v5 v6 j1 σ => q_lret e76_97 r_76⟩
theorem E76 {ro : ma_RO} {d : Nat} (a0 : Nat) (x1 : Int32) (x2 : Int32) (x3 : Int32) (sh : List ma_Sh) (σ : ma_H) : ma_ev ro d 76 [.ref a0, .int x1, .int x2, .int x3] sh σ = ma_rn ro d 76 (0, [some (.ref a0), some (.int x1), some (.int x2), some (.int x3), none, none, none], [], sh, σ) := q_ent x_76 rfl
theorem e77_0 : decode (ma_cd 77) 0 = .ok (.iload_n 1, 1) := (congrArg (fun b => decode b 0) cd_77).trans dX7_mean_0
theorem e77_1 : decode (ma_cd 77) 1 = .ok (.iconst 1, 1) := (congrArg (fun b => decode b 1) cd_77).trans dX7_mean_1
theorem e77_2 : decode (ma_cd 77) 2 = .ok (.invokestatic 67, 3) := (congrArg (fun b => decode b 2) cd_77).trans dX7_mean_2
theorem e77_5 : decode (ma_cd 77) 5 = .ok (.ifCond .ne 16, 3) := (congrArg (fun b => decode b 5) cd_77).trans dX7_mean_5
theorem e77_8 : decode (ma_cd 77) 8 = .ok (.aload_n 0, 1) := (congrArg (fun b => decode b 8) cd_77).trans dX7_mean_8
theorem e77_9 : decode (ma_cd 77) 9 = .ok (.getfield 12, 3) := (congrArg (fun b => decode b 9) cd_77).trans dX7_mean_9
theorem e77_12 : decode (ma_cd 77) 12 = .ok (.getfield 93, 3) := (congrArg (fun b => decode b 12) cd_77).trans dX7_mean_12
theorem e77_15 : decode (ma_cd 77) 15 = .ok (.getfield 99, 3) := (congrArg (fun b => decode b 15) cd_77).trans dX7_mean_15
theorem e77_18 : decode (ma_cd 77) 18 = .ok (.ifCond .ne 7, 3) := (congrArg (fun b => decode b 18) cd_77).trans dX7_mean_18
theorem e77_21 : decode (ma_cd 77) 21 = .ok (.ldc2_w 208, 3) := (congrArg (fun b => decode b 21) cd_77).trans dX7_mean_21
theorem e77_24 : decode (ma_cd 77) 24 = .ok (.lreturn, 1) := (congrArg (fun b => decode b 24) cd_77).trans dX7_mean_24
theorem e77_25 : decode (ma_cd 77) 25 = .ok (.aload_n 0, 1) := (congrArg (fun b => decode b 25) cd_77).trans dX7_mean_25
theorem e77_26 : decode (ma_cd 77) 26 = .ok (.getfield 12, 3) := (congrArg (fun b => decode b 26) cd_77).trans dX7_mean_26
theorem e77_29 : decode (ma_cd 77) 29 = .ok (.getfield 93, 3) := (congrArg (fun b => decode b 29) cd_77).trans dX7_mean_29
theorem e77_32 : decode (ma_cd 77) 32 = .ok (.invokevirtual 222, 3) := (congrArg (fun b => decode b 32) cd_77).trans dX7_mean_32
theorem e77_35 : decode (ma_cd 77) 35 = .ok (.i2l, 1) := (congrArg (fun b => decode b 35) cd_77).trans dX7_mean_35
theorem e77_36 : decode (ma_cd 77) 36 = .ok (.aload_n 0, 1) := (congrArg (fun b => decode b 36) cd_77).trans dX7_mean_36
theorem e77_37 : decode (ma_cd 77) 37 = .ok (.getfield 12, 3) := (congrArg (fun b => decode b 37) cd_77).trans dX7_mean_37
theorem e77_40 : decode (ma_cd 77) 40 = .ok (.getfield 93, 3) := (congrArg (fun b => decode b 40) cd_77).trans dX7_mean_40
theorem e77_43 : decode (ma_cd 77) 43 = .ok (.getfield 99, 3) := (congrArg (fun b => decode b 43) cd_77).trans dX7_mean_43
theorem e77_46 : decode (ma_cd 77) 46 = .ok (.i2l, 1) := (congrArg (fun b => decode b 46) cd_77).trans dX7_mean_46
theorem e77_47 : decode (ma_cd 77) 47 = .ok (.iload_n 1, 1) := (congrArg (fun b => decode b 47) cd_77).trans dX7_mean_47
theorem e77_48 : decode (ma_cd 77) 48 = .ok (.invokestatic 218, 3) := (congrArg (fun b => decode b 48) cd_77).trans dX7_mean_48
theorem e77_51 : decode (ma_cd 77) 51 = .ok (.lreturn, 1) := (congrArg (fun b => decode b 51) cd_77).trans dX7_mean_51
theorem S77 {ro : ma_RO} {d : Nat} : (∀ (v0 : Option Value) (x1 : Int32) (st : List Value) (σ : ma_H), ma_rn ro d 77 (0, [v0, some (.int x1)], st, SH, σ) = ma_rn ro d 77 (1, [v0, some (.int x1)], .int x1 :: st, SH, σ)) ∧
  (∀ (v0 : Option Value) (v1 : Option Value) (st : List Value) (σ : ma_H), ma_rn ro d 77 (1, [v0, v1], st, SH, σ) = ma_rn ro d 77 (2, [v0, v1], .int (nI 1) :: st, SH, σ)) ∧
  (∀ (v0 : Option Value) (v1 : Option Value) (x1 : Int32) (x2 : Int32) (σ : ma_H), ma_rn ro (d + 1) 77 (2, [v0, v1], .int x2 :: .int x1 :: [], SH, σ) = (ma_ev ro d 88 [.int x1, .int x2] SH σ).bind (fun q => ma_rn ro (d + 1) 77 (5, [v0, v1], (q.1.toList ++ []), q.2.1, q.2.2))) ∧
  (∀ (v0 : Option Value) (v1 : Option Value) (x1 : Int32) (st : List Value) (σ : ma_H), ma_rn ro d 77 (5, [v0, v1], .int x1 :: st, SH, σ) = if x1 = nI 0 then ma_rn ro d 77 (8, [v0, v1], st, SH, σ) else ma_rn ro d 77 (21, [v0, v1], st, SH, σ)) ∧
  (∀ (v1 : Option Value) (a1 : Nat) (st : List Value) (σ : ma_H), ma_rn ro d 77 (8, [some (.ref a1), v1], st, SH, σ) = ma_rn ro d 77 (9, [some (.ref a1), v1], .ref a1 :: st, SH, σ)) ∧
  (∀ (v0 : Option Value) (v1 : Option Value) (a1 : Nat) (st : List Value) (σ : ma_H) (hc : hk_cls a1 = 7), ma_rn ro d 77 (9, [v0, v1], .ref a1 :: st, SH, σ) = ma_rn ro d 77 (12, [v0, v1], .ref (1) :: st, SH, σ)) ∧
  (∀ (v0 : Option Value) (v1 : Option Value) (a1 : Nat) (st : List Value) (σ : ma_H) (hc : hk_cls a1 = 5), ma_rn ro d 77 (12, [v0, v1], .ref a1 :: st, SH, σ) = ma_rn ro d 77 (15, [v0, v1], .ref (a1 + 1) :: st, SH, σ)) ∧
  (∀ (v0 : Option Value) (v1 : Option Value) (a1 : Nat) (st : List Value) (σ : ma_H) (hc : hk_cls a1 = 6), ma_rn ro d 77 (15, [v0, v1], .ref a1 :: st, SH, σ) = ma_rn ro d 77 (18, [v0, v1], .int (σ a1 1) :: st, SH, σ)) ∧
  (∀ (v0 : Option Value) (v1 : Option Value) (x1 : Int32) (st : List Value) (σ : ma_H), ma_rn ro d 77 (18, [v0, v1], .int x1 :: st, SH, σ) = if x1 = nI 0 then ma_rn ro d 77 (21, [v0, v1], st, SH, σ) else ma_rn ro d 77 (25, [v0, v1], st, SH, σ)) ∧
  (∀ (v0 : Option Value) (v1 : Option Value) (st : List Value) (σ : ma_H), ma_rn ro d 77 (21, [v0, v1], st, SH, σ) = ma_rn ro d 77 (24, [v0, v1], .long (-9223372036854775808) :: st, SH, σ)) ∧
  (∀ (v0 : Option Value) (v1 : Option Value) (j1 : Int64) (σ : ma_H), ma_rn ro d 77 (24, [v0, v1], [.long j1], SH, σ) = some (some (.long j1), SH, σ)) ∧
  (∀ (v1 : Option Value) (a1 : Nat) (st : List Value) (σ : ma_H), ma_rn ro d 77 (25, [some (.ref a1), v1], st, SH, σ) = ma_rn ro d 77 (26, [some (.ref a1), v1], .ref a1 :: st, SH, σ)) ∧
  (∀ (v0 : Option Value) (v1 : Option Value) (a1 : Nat) (st : List Value) (σ : ma_H) (hc : hk_cls a1 = 7), ma_rn ro d 77 (26, [v0, v1], .ref a1 :: st, SH, σ) = ma_rn ro d 77 (29, [v0, v1], .ref (1) :: st, SH, σ)) ∧
  (∀ (v0 : Option Value) (v1 : Option Value) (a1 : Nat) (st : List Value) (σ : ma_H) (hc : hk_cls a1 = 5), ma_rn ro d 77 (29, [v0, v1], .ref a1 :: st, SH, σ) = ma_rn ro d 77 (32, [v0, v1], .ref (a1 + 1) :: st, SH, σ)) ∧
  (∀ (v0 : Option Value) (v1 : Option Value) (a0 : Nat) (σ : ma_H) (hc : hk_cls a0 = 6), ma_rn ro (d + 1) 77 (32, [v0, v1], .ref a0 :: [], SH, σ) = (ma_ev ro d 56 [.ref a0] SH σ).bind (fun q => ma_rn ro (d + 1) 77 (35, [v0, v1], (q.1.toList ++ []), q.2.1, q.2.2))) ∧
  (∀ (v0 : Option Value) (v1 : Option Value) (x1 : Int32) (st : List Value) (σ : ma_H), ma_rn ro d 77 (35, [v0, v1], .int x1 :: st, SH, σ) = ma_rn ro d 77 (36, [v0, v1], .long x1.toInt64 :: st, SH, σ)) ∧
  (∀ (v1 : Option Value) (a1 : Nat) (st : List Value) (σ : ma_H), ma_rn ro d 77 (36, [some (.ref a1), v1], st, SH, σ) = ma_rn ro d 77 (37, [some (.ref a1), v1], .ref a1 :: st, SH, σ)) ∧
  (∀ (v0 : Option Value) (v1 : Option Value) (a1 : Nat) (st : List Value) (σ : ma_H) (hc : hk_cls a1 = 7), ma_rn ro d 77 (37, [v0, v1], .ref a1 :: st, SH, σ) = ma_rn ro d 77 (40, [v0, v1], .ref (1) :: st, SH, σ)) ∧
  (∀ (v0 : Option Value) (v1 : Option Value) (a1 : Nat) (st : List Value) (σ : ma_H) (hc : hk_cls a1 = 5), ma_rn ro d 77 (40, [v0, v1], .ref a1 :: st, SH, σ) = ma_rn ro d 77 (43, [v0, v1], .ref (a1 + 1) :: st, SH, σ)) ∧
  (∀ (v0 : Option Value) (v1 : Option Value) (a1 : Nat) (st : List Value) (σ : ma_H) (hc : hk_cls a1 = 6), ma_rn ro d 77 (43, [v0, v1], .ref a1 :: st, SH, σ) = ma_rn ro d 77 (46, [v0, v1], .int (σ a1 1) :: st, SH, σ)) ∧
  (∀ (v0 : Option Value) (v1 : Option Value) (x1 : Int32) (st : List Value) (σ : ma_H), ma_rn ro d 77 (46, [v0, v1], .int x1 :: st, SH, σ) = ma_rn ro d 77 (47, [v0, v1], .long x1.toInt64 :: st, SH, σ)) ∧
  (∀ (v0 : Option Value) (x1 : Int32) (st : List Value) (σ : ma_H), ma_rn ro d 77 (47, [v0, some (.int x1)], st, SH, σ) = ma_rn ro d 77 (48, [v0, some (.int x1)], .int x1 :: st, SH, σ)) ∧
  (∀ (v0 : Option Value) (v1 : Option Value) (j1 : Int64) (j2 : Int64) (x3 : Int32) (σ : ma_H), ma_rn ro (d + 1) 77 (48, [v0, v1], .int x3 :: .long j2 :: .long j1 :: [], SH, σ) = (ma_ev ro d 92 [.long j1, .long j2, .int x3] SH σ).bind (fun q => ma_rn ro (d + 1) 77 (51, [v0, v1], (q.1.toList ++ []), q.2.1, q.2.2))) ∧
  (∀ (v0 : Option Value) (v1 : Option Value) (j1 : Int64) (σ : ma_H), ma_rn ro d 77 (51, [v0, v1], [.long j1], SH, σ) = some (some (.long j1), SH, σ)) := ⟨fun v0 x1 st σ => q_go e77_0 rfl rfl,
  fun v0 v1 st σ => q_iconst e77_1 (by decide),
  fun v0 v1 x1 x2 σ => q_invS (as := [.int x1, .int x2]) (rest := []) e77_2 o_77 bn_7_67 c_7_67 ⟨m_88.1, m_88.2.1, m_88.2.2.1⟩ rfl rfl (Nat.le_of_ble_eq_true rfl) (Nat.le_of_ble_eq_true rfl),
  fun v0 v1 x1 st σ => (q_if e77_5 rfl).trans q_ne,
  fun v1 a1 st σ => q_go e77_8 rfl rfl,
  fun v0 v1 a1 st σ hc => q_getA e77_9 o_77 f_7_12 (by decide) hc,
  fun v0 v1 a1 st σ hc => q_getA e77_12 o_77 f_7_93 (by decide) hc,
  fun v0 v1 a1 st σ hc => q_getI e77_15 o_77 f_7_99 (by decide) hc,
  fun v0 v1 x1 st σ => (q_if e77_18 rfl).trans q_ne,
  fun v0 v1 st σ => q_ldc2 e77_21 o_77 l_7_208,
  fun v0 v1 j1 σ => q_lret e77_24 r_77,
  fun v1 a1 st σ => q_go e77_25 rfl rfl,
  fun v0 v1 a1 st σ hc => q_getA e77_26 o_77 f_7_12 (by decide) hc,
  fun v0 v1 a1 st σ hc => q_getA e77_29 o_77 f_7_93 (by decide) hc,
  fun v0 v1 a0 σ hc => q_invV (as := []) (rest := []) e77_32 o_77 bn_7_222 c_7_222 m_56 (by decide) rfl rfl (Nat.le_of_ble_eq_true rfl) (Nat.le_of_ble_eq_true rfl) hc,
  fun v0 v1 x1 st σ => q_go e77_35 rfl rfl,
  fun v1 a1 st σ => q_go e77_36 rfl rfl,
  fun v0 v1 a1 st σ hc => q_getA e77_37 o_77 f_7_12 (by decide) hc,
  fun v0 v1 a1 st σ hc => q_getA e77_40 o_77 f_7_93 (by decide) hc,
  fun v0 v1 a1 st σ hc => q_getI e77_43 o_77 f_7_99 (by decide) hc,
  fun v0 v1 x1 st σ => q_go e77_46 rfl rfl,
  fun v0 x1 st σ => q_go e77_47 rfl rfl,
  fun v0 v1 j1 j2 x3 σ => q_invS (as := [.long j1, .long j2, .int x3]) (rest := []) e77_48 o_77 bn_7_218 c_7_218 ⟨m_92.1, m_92.2.1, m_92.2.2.1⟩ rfl rfl (Nat.le_of_ble_eq_true rfl) (Nat.le_of_ble_eq_true rfl),
  fun v0 v1 j1 σ => q_lret e77_51 r_77⟩
theorem E77 {ro : ma_RO} {d : Nat} (a0 : Nat) (x1 : Int32) (sh : List ma_Sh) (σ : ma_H) : ma_ev ro d 77 [.ref a0, .int x1] sh σ = ma_rn ro d 77 (0, [some (.ref a0), some (.int x1)], [], sh, σ) := q_ent x_77 rfl
theorem e78_0 : decode (ma_cd 78) 0 = .ok (.iload_n 1, 1) := (congrArg (fun b => decode b 0) cd_78).trans dX7_plan_0
theorem e78_1 : decode (ma_cd 78) 1 = .ok (.iconst (-1), 1) := (congrArg (fun b => decode b 1) cd_78).trans dX7_plan_1
theorem e78_2 : decode (ma_cd 78) 2 = .ok (.if_icmp .ne 16, 3) := (congrArg (fun b => decode b 2) cd_78).trans dX7_plan_2
theorem e78_5 : decode (ma_cd 78) 5 = .ok (.aload_n 0, 1) := (congrArg (fun b => decode b 5) cd_78).trans dX7_plan_5
theorem e78_6 : decode (ma_cd 78) 6 = .ok (.getfield 12, 3) := (congrArg (fun b => decode b 6) cd_78).trans dX7_plan_6
theorem e78_9 : decode (ma_cd 78) 9 = .ok (.getfield 225, 3) := (congrArg (fun b => decode b 9) cd_78).trans dX7_plan_9
theorem e78_12 : decode (ma_cd 78) 12 = .ok (.iconst 0, 1) := (congrArg (fun b => decode b 12) cd_78).trans dX7_plan_12
theorem e78_13 : decode (ma_cd 78) 13 = .ok (.putfield 197, 3) := (congrArg (fun b => decode b 13) cd_78).trans dX7_plan_13
theorem e78_16 : decode (ma_cd 78) 16 = .ok (.iconst 0, 1) := (congrArg (fun b => decode b 16) cd_78).trans dX7_plan_16
theorem e78_17 : decode (ma_cd 78) 17 = .ok (.ireturn, 1) := (congrArg (fun b => decode b 17) cd_78).trans dX7_plan_17
theorem e78_18 : decode (ma_cd 78) 18 = .ok (.iload_n 1, 1) := (congrArg (fun b => decode b 18) cd_78).trans dX7_plan_18
theorem e78_19 : decode (ma_cd 78) 19 = .ok (.iconst 3, 1) := (congrArg (fun b => decode b 19) cd_78).trans dX7_plan_19
theorem e78_20 : decode (ma_cd 78) 20 = .ok (.invokestatic 67, 3) := (congrArg (fun b => decode b 20) cd_78).trans dX7_plan_20
theorem e78_23 : decode (ma_cd 78) 23 = .ok (.ifCond .eq 5, 3) := (congrArg (fun b => decode b 23) cd_78).trans dX7_plan_23
theorem e78_26 : decode (ma_cd 78) 26 = .ok (.iconst (-1), 1) := (congrArg (fun b => decode b 26) cd_78).trans dX7_plan_26
theorem e78_27 : decode (ma_cd 78) 27 = .ok (.ireturn, 1) := (congrArg (fun b => decode b 27) cd_78).trans dX7_plan_27
theorem e78_28 : decode (ma_cd 78) 28 = .ok (.iload_n 1, 1) := (congrArg (fun b => decode b 28) cd_78).trans dX7_plan_28
theorem e78_29 : decode (ma_cd 78) 29 = .ok (.iconst 1, 1) := (congrArg (fun b => decode b 29) cd_78).trans dX7_plan_29
theorem e78_30 : decode (ma_cd 78) 30 = .ok (.if_icmp .eq 8, 3) := (congrArg (fun b => decode b 30) cd_78).trans dX7_plan_30
theorem e78_33 : decode (ma_cd 78) 33 = .ok (.iload_n 1, 1) := (congrArg (fun b => decode b 33) cd_78).trans dX7_plan_33
theorem e78_34 : decode (ma_cd 78) 34 = .ok (.iconst 2, 1) := (congrArg (fun b => decode b 34) cd_78).trans dX7_plan_34
theorem e78_35 : decode (ma_cd 78) 35 = .ok (.if_icmp .ne 19, 3) := (congrArg (fun b => decode b 35) cd_78).trans dX7_plan_35
theorem e78_38 : decode (ma_cd 78) 38 = .ok (.aload_n 0, 1) := (congrArg (fun b => decode b 38) cd_78).trans dX7_plan_38
theorem e78_39 : decode (ma_cd 78) 39 = .ok (.getfield 12, 3) := (congrArg (fun b => decode b 39) cd_78).trans dX7_plan_39
theorem e78_42 : decode (ma_cd 78) 42 = .ok (.getfield 93, 3) := (congrArg (fun b => decode b 42) cd_78).trans dX7_plan_42
theorem e78_45 : decode (ma_cd 78) 45 = .ok (.iload_n 2, 1) := (congrArg (fun b => decode b 45) cd_78).trans dX7_plan_45
theorem e78_46 : decode (ma_cd 78) 46 = .ok (.invokevirtual 102, 3) := (congrArg (fun b => decode b 46) cd_78).trans dX7_plan_46
theorem e78_49 : decode (ma_cd 78) 49 = .ok (.ifnonnull 5, 3) := (congrArg (fun b => decode b 49) cd_78).trans dX7_plan_49
theorem e78_52 : decode (ma_cd 78) 52 = .ok (.iconst (-1), 1) := (congrArg (fun b => decode b 52) cd_78).trans dX7_plan_52
theorem e78_53 : decode (ma_cd 78) 53 = .ok (.ireturn, 1) := (congrArg (fun b => decode b 53) cd_78).trans dX7_plan_53
theorem e78_54 : decode (ma_cd 78) 54 = .ok (.iload_n 1, 1) := (congrArg (fun b => decode b 54) cd_78).trans dX7_plan_54
theorem e78_55 : decode (ma_cd 78) 55 = .ok (.iconst 3, 1) := (congrArg (fun b => decode b 55) cd_78).trans dX7_plan_55
theorem e78_56 : decode (ma_cd 78) 56 = .ok (.if_icmp .ne 15, 3) := (congrArg (fun b => decode b 56) cd_78).trans dX7_plan_56
theorem e78_59 : decode (ma_cd 78) 59 = .ok (.iload_n 2, 1) := (congrArg (fun b => decode b 59) cd_78).trans dX7_plan_59
theorem e78_60 : decode (ma_cd 78) 60 = .ok (.bipush 20, 2) := (congrArg (fun b => decode b 60) cd_78).trans dX7_plan_60
theorem e78_62 : decode (ma_cd 78) 62 = .ok (.invokestatic 67, 3) := (congrArg (fun b => decode b 62) cd_78).trans dX7_plan_62
theorem e78_65 : decode (ma_cd 78) 65 = .ok (.ifCond .eq 6, 3) := (congrArg (fun b => decode b 65) cd_78).trans dX7_plan_65
theorem e78_68 : decode (ma_cd 78) 68 = .ok (.bipush (-2), 2) := (congrArg (fun b => decode b 68) cd_78).trans dX7_plan_68
theorem e78_70 : decode (ma_cd 78) 70 = .ok (.ireturn, 1) := (congrArg (fun b => decode b 70) cd_78).trans dX7_plan_70
theorem e78_71 : decode (ma_cd 78) 71 = .ok (.aload_n 0, 1) := (congrArg (fun b => decode b 71) cd_78).trans dX7_plan_71
theorem e78_72 : decode (ma_cd 78) 72 = .ok (.getfield 12, 3) := (congrArg (fun b => decode b 72) cd_78).trans dX7_plan_72
theorem e78_75 : decode (ma_cd 78) 75 = .ok (.getfield 225, 3) := (congrArg (fun b => decode b 75) cd_78).trans dX7_plan_75
theorem e78_78 : decode (ma_cd 78) 78 = .ok (.iload_n 1, 1) := (congrArg (fun b => decode b 78) cd_78).trans dX7_plan_78
theorem e78_79 : decode (ma_cd 78) 79 = .ok (.iload_n 2, 1) := (congrArg (fun b => decode b 79) cd_78).trans dX7_plan_79
theorem e78_80 : decode (ma_cd 78) 80 = .ok (.iconst 0, 1) := (congrArg (fun b => decode b 80) cd_78).trans dX7_plan_80
theorem e78_81 : decode (ma_cd 78) 81 = .ok (.invokevirtual 200, 3) := (congrArg (fun b => decode b 81) cd_78).trans dX7_plan_81
theorem e78_84 : decode (ma_cd 78) 84 = .ok (.ifCond .eq 16, 3) := (congrArg (fun b => decode b 84) cd_78).trans dX7_plan_84
theorem e78_87 : decode (ma_cd 78) 87 = .ok (.aload_n 0, 1) := (congrArg (fun b => decode b 87) cd_78).trans dX7_plan_87
theorem e78_88 : decode (ma_cd 78) 88 = .ok (.getfield 12, 3) := (congrArg (fun b => decode b 88) cd_78).trans dX7_plan_88
theorem e78_91 : decode (ma_cd 78) 91 = .ok (.getfield 225, 3) := (congrArg (fun b => decode b 91) cd_78).trans dX7_plan_91
theorem e78_94 : decode (ma_cd 78) 94 = .ok (.getfield 197, 3) := (congrArg (fun b => decode b 94) cd_78).trans dX7_plan_94
theorem e78_97 : decode (ma_cd 78) 97 = .ok (.goto 5, 3) := (congrArg (fun b => decode b 97) cd_78).trans dX7_plan_97
theorem e78_100 : decode (ma_cd 78) 100 = .ok (.bipush (-4), 2) := (congrArg (fun b => decode b 100) cd_78).trans dX7_plan_100
theorem e78_102 : decode (ma_cd 78) 102 = .ok (.ireturn, 1) := (congrArg (fun b => decode b 102) cd_78).trans dX7_plan_102
theorem S78 {ro : ma_RO} {d : Nat} : (∀ (v0 : Option Value) (v2 : Option Value) (x1 : Int32) (st : List Value) (σ : ma_H), ma_rn ro d 78 (0, [v0, some (.int x1), v2], st, SH, σ) = ma_rn ro d 78 (1, [v0, some (.int x1), v2], .int x1 :: st, SH, σ)) ∧
  (∀ (v0 : Option Value) (v1 : Option Value) (v2 : Option Value) (st : List Value) (σ : ma_H), ma_rn ro d 78 (1, [v0, v1, v2], st, SH, σ) = ma_rn ro d 78 (2, [v0, v1, v2], .int ((-1)) :: st, SH, σ)) ∧
  (∀ (v0 : Option Value) (v1 : Option Value) (v2 : Option Value) (x1 : Int32) (x2 : Int32) (st : List Value) (σ : ma_H), ma_rn ro d 78 (2, [v0, v1, v2], .int x1 :: .int x2 :: st, SH, σ) = if x2 = x1 then ma_rn ro d 78 (5, [v0, v1, v2], st, SH, σ) else ma_rn ro d 78 (18, [v0, v1, v2], st, SH, σ)) ∧
  (∀ (v1 : Option Value) (v2 : Option Value) (a1 : Nat) (st : List Value) (σ : ma_H), ma_rn ro d 78 (5, [some (.ref a1), v1, v2], st, SH, σ) = ma_rn ro d 78 (6, [some (.ref a1), v1, v2], .ref a1 :: st, SH, σ)) ∧
  (∀ (v0 : Option Value) (v1 : Option Value) (v2 : Option Value) (a1 : Nat) (st : List Value) (σ : ma_H) (hc : hk_cls a1 = 7), ma_rn ro d 78 (6, [v0, v1, v2], .ref a1 :: st, SH, σ) = ma_rn ro d 78 (9, [v0, v1, v2], .ref (1) :: st, SH, σ)) ∧
  (∀ (v0 : Option Value) (v1 : Option Value) (v2 : Option Value) (a1 : Nat) (st : List Value) (σ : ma_H) (hc : hk_cls a1 = 5), ma_rn ro d 78 (9, [v0, v1, v2], .ref a1 :: st, SH, σ) = ma_rn ro d 78 (12, [v0, v1, v2], .ref (a1 + 24) :: st, SH, σ)) ∧
  (∀ (v0 : Option Value) (v1 : Option Value) (v2 : Option Value) (st : List Value) (σ : ma_H), ma_rn ro d 78 (12, [v0, v1, v2], st, SH, σ) = ma_rn ro d 78 (13, [v0, v1, v2], .int (nI 0) :: st, SH, σ)) ∧
  (∀ (v0 : Option Value) (v1 : Option Value) (v2 : Option Value) (x1 : Int32) (a2 : Nat) (st : List Value) (σ : ma_H) (hc : hk_cls a2 = 4), ma_rn ro d 78 (13, [v0, v1, v2], .int x1 :: .ref a2 :: st, SH, σ) = ma_rn ro d 78 (16, [v0, v1, v2], st, SH, (ma_up σ a2 3 x1))) ∧
  (∀ (v0 : Option Value) (v1 : Option Value) (v2 : Option Value) (st : List Value) (σ : ma_H), ma_rn ro d 78 (16, [v0, v1, v2], st, SH, σ) = ma_rn ro d 78 (17, [v0, v1, v2], .int (nI 0) :: st, SH, σ)) ∧
  (∀ (v0 : Option Value) (v1 : Option Value) (v2 : Option Value) (x1 : Int32) (σ : ma_H), ma_rn ro d 78 (17, [v0, v1, v2], [.int x1], SH, σ) = some (some (.int x1), SH, σ)) ∧
  (∀ (v0 : Option Value) (v2 : Option Value) (x1 : Int32) (st : List Value) (σ : ma_H), ma_rn ro d 78 (18, [v0, some (.int x1), v2], st, SH, σ) = ma_rn ro d 78 (19, [v0, some (.int x1), v2], .int x1 :: st, SH, σ)) ∧
  (∀ (v0 : Option Value) (v1 : Option Value) (v2 : Option Value) (st : List Value) (σ : ma_H), ma_rn ro d 78 (19, [v0, v1, v2], st, SH, σ) = ma_rn ro d 78 (20, [v0, v1, v2], .int (nI 3) :: st, SH, σ)) ∧
  (∀ (v0 : Option Value) (v1 : Option Value) (v2 : Option Value) (x1 : Int32) (x2 : Int32) (σ : ma_H), ma_rn ro (d + 1) 78 (20, [v0, v1, v2], .int x2 :: .int x1 :: [], SH, σ) = (ma_ev ro d 88 [.int x1, .int x2] SH σ).bind (fun q => ma_rn ro (d + 1) 78 (23, [v0, v1, v2], (q.1.toList ++ []), q.2.1, q.2.2))) ∧
  (∀ (v0 : Option Value) (v1 : Option Value) (v2 : Option Value) (x1 : Int32) (st : List Value) (σ : ma_H), ma_rn ro d 78 (23, [v0, v1, v2], .int x1 :: st, SH, σ) = if x1 = nI 0 then ma_rn ro d 78 (28, [v0, v1, v2], st, SH, σ) else ma_rn ro d 78 (26, [v0, v1, v2], st, SH, σ)) ∧
  (∀ (v0 : Option Value) (v1 : Option Value) (v2 : Option Value) (st : List Value) (σ : ma_H), ma_rn ro d 78 (26, [v0, v1, v2], st, SH, σ) = ma_rn ro d 78 (27, [v0, v1, v2], .int ((-1)) :: st, SH, σ)) ∧
  (∀ (v0 : Option Value) (v1 : Option Value) (v2 : Option Value) (x1 : Int32) (σ : ma_H), ma_rn ro d 78 (27, [v0, v1, v2], [.int x1], SH, σ) = some (some (.int x1), SH, σ)) ∧
  (∀ (v0 : Option Value) (v2 : Option Value) (x1 : Int32) (st : List Value) (σ : ma_H), ma_rn ro d 78 (28, [v0, some (.int x1), v2], st, SH, σ) = ma_rn ro d 78 (29, [v0, some (.int x1), v2], .int x1 :: st, SH, σ)) ∧
  (∀ (v0 : Option Value) (v1 : Option Value) (v2 : Option Value) (st : List Value) (σ : ma_H), ma_rn ro d 78 (29, [v0, v1, v2], st, SH, σ) = ma_rn ro d 78 (30, [v0, v1, v2], .int (nI 1) :: st, SH, σ)) ∧
  (∀ (v0 : Option Value) (v1 : Option Value) (v2 : Option Value) (x1 : Int32) (x2 : Int32) (st : List Value) (σ : ma_H), ma_rn ro d 78 (30, [v0, v1, v2], .int x1 :: .int x2 :: st, SH, σ) = if x2 = x1 then ma_rn ro d 78 (38, [v0, v1, v2], st, SH, σ) else ma_rn ro d 78 (33, [v0, v1, v2], st, SH, σ)) ∧
  (∀ (v0 : Option Value) (v2 : Option Value) (x1 : Int32) (st : List Value) (σ : ma_H), ma_rn ro d 78 (33, [v0, some (.int x1), v2], st, SH, σ) = ma_rn ro d 78 (34, [v0, some (.int x1), v2], .int x1 :: st, SH, σ)) ∧
  (∀ (v0 : Option Value) (v1 : Option Value) (v2 : Option Value) (st : List Value) (σ : ma_H), ma_rn ro d 78 (34, [v0, v1, v2], st, SH, σ) = ma_rn ro d 78 (35, [v0, v1, v2], .int (nI 2) :: st, SH, σ)) ∧
  (∀ (v0 : Option Value) (v1 : Option Value) (v2 : Option Value) (x1 : Int32) (x2 : Int32) (st : List Value) (σ : ma_H), ma_rn ro d 78 (35, [v0, v1, v2], .int x1 :: .int x2 :: st, SH, σ) = if x2 = x1 then ma_rn ro d 78 (38, [v0, v1, v2], st, SH, σ) else ma_rn ro d 78 (54, [v0, v1, v2], st, SH, σ)) ∧
  (∀ (v1 : Option Value) (v2 : Option Value) (a1 : Nat) (st : List Value) (σ : ma_H), ma_rn ro d 78 (38, [some (.ref a1), v1, v2], st, SH, σ) = ma_rn ro d 78 (39, [some (.ref a1), v1, v2], .ref a1 :: st, SH, σ)) ∧
  (∀ (v0 : Option Value) (v1 : Option Value) (v2 : Option Value) (a1 : Nat) (st : List Value) (σ : ma_H) (hc : hk_cls a1 = 7), ma_rn ro d 78 (39, [v0, v1, v2], .ref a1 :: st, SH, σ) = ma_rn ro d 78 (42, [v0, v1, v2], .ref (1) :: st, SH, σ)) ∧
  (∀ (v0 : Option Value) (v1 : Option Value) (v2 : Option Value) (a1 : Nat) (st : List Value) (σ : ma_H) (hc : hk_cls a1 = 5), ma_rn ro d 78 (42, [v0, v1, v2], .ref a1 :: st, SH, σ) = ma_rn ro d 78 (45, [v0, v1, v2], .ref (a1 + 1) :: st, SH, σ)) ∧
  (∀ (v0 : Option Value) (v1 : Option Value) (x1 : Int32) (st : List Value) (σ : ma_H), ma_rn ro d 78 (45, [v0, v1, some (.int x1)], st, SH, σ) = ma_rn ro d 78 (46, [v0, v1, some (.int x1)], .int x1 :: st, SH, σ)) ∧
  (∀ (v0 : Option Value) (v1 : Option Value) (v2 : Option Value) (x1 : Int32) (a0 : Nat) (σ : ma_H) (hc : hk_cls a0 = 6), ma_rn ro (d + 1) 78 (46, [v0, v1, v2], .int x1 :: .ref a0 :: [], SH, σ) = (ma_ev ro d 50 [.ref a0, .int x1] SH σ).bind (fun q => ma_rn ro (d + 1) 78 (49, [v0, v1, v2], (q.1.toList ++ []), q.2.1, q.2.2))) ∧
  (∀ (v0 : Option Value) (v1 : Option Value) (v2 : Option Value) (a1 : Nat) (st : List Value) (σ : ma_H), ma_rn ro d 78 (49, [v0, v1, v2], .ref a1 :: st, SH, σ) = ma_rn ro d 78 (54, [v0, v1, v2], st, SH, σ)) ∧
  (∀ (v0 : Option Value) (v1 : Option Value) (v2 : Option Value) (st : List Value) (σ : ma_H), ma_rn ro d 78 (49, [v0, v1, v2], .null :: st, SH, σ) = ma_rn ro d 78 (52, [v0, v1, v2], st, SH, σ)) ∧
  (∀ (v0 : Option Value) (v1 : Option Value) (v2 : Option Value) (st : List Value) (σ : ma_H), ma_rn ro d 78 (52, [v0, v1, v2], st, SH, σ) = ma_rn ro d 78 (53, [v0, v1, v2], .int ((-1)) :: st, SH, σ)) ∧
  (∀ (v0 : Option Value) (v1 : Option Value) (v2 : Option Value) (x1 : Int32) (σ : ma_H), ma_rn ro d 78 (53, [v0, v1, v2], [.int x1], SH, σ) = some (some (.int x1), SH, σ)) ∧
  (∀ (v0 : Option Value) (v2 : Option Value) (x1 : Int32) (st : List Value) (σ : ma_H), ma_rn ro d 78 (54, [v0, some (.int x1), v2], st, SH, σ) = ma_rn ro d 78 (55, [v0, some (.int x1), v2], .int x1 :: st, SH, σ)) ∧
  (∀ (v0 : Option Value) (v1 : Option Value) (v2 : Option Value) (st : List Value) (σ : ma_H), ma_rn ro d 78 (55, [v0, v1, v2], st, SH, σ) = ma_rn ro d 78 (56, [v0, v1, v2], .int (nI 3) :: st, SH, σ)) ∧
  (∀ (v0 : Option Value) (v1 : Option Value) (v2 : Option Value) (x1 : Int32) (x2 : Int32) (st : List Value) (σ : ma_H), ma_rn ro d 78 (56, [v0, v1, v2], .int x1 :: .int x2 :: st, SH, σ) = if x2 = x1 then ma_rn ro d 78 (59, [v0, v1, v2], st, SH, σ) else ma_rn ro d 78 (71, [v0, v1, v2], st, SH, σ)) ∧
  (∀ (v0 : Option Value) (v1 : Option Value) (x1 : Int32) (st : List Value) (σ : ma_H), ma_rn ro d 78 (59, [v0, v1, some (.int x1)], st, SH, σ) = ma_rn ro d 78 (60, [v0, v1, some (.int x1)], .int x1 :: st, SH, σ)) ∧
  (∀ (v0 : Option Value) (v1 : Option Value) (v2 : Option Value) (st : List Value) (σ : ma_H), ma_rn ro d 78 (60, [v0, v1, v2], st, SH, σ) = ma_rn ro d 78 (62, [v0, v1, v2], .int (nI 20) :: st, SH, σ)) ∧
  (∀ (v0 : Option Value) (v1 : Option Value) (v2 : Option Value) (x1 : Int32) (x2 : Int32) (σ : ma_H), ma_rn ro (d + 1) 78 (62, [v0, v1, v2], .int x2 :: .int x1 :: [], SH, σ) = (ma_ev ro d 88 [.int x1, .int x2] SH σ).bind (fun q => ma_rn ro (d + 1) 78 (65, [v0, v1, v2], (q.1.toList ++ []), q.2.1, q.2.2))) ∧
  (∀ (v0 : Option Value) (v1 : Option Value) (v2 : Option Value) (x1 : Int32) (st : List Value) (σ : ma_H), ma_rn ro d 78 (65, [v0, v1, v2], .int x1 :: st, SH, σ) = if x1 = nI 0 then ma_rn ro d 78 (71, [v0, v1, v2], st, SH, σ) else ma_rn ro d 78 (68, [v0, v1, v2], st, SH, σ)) ∧
  (∀ (v0 : Option Value) (v1 : Option Value) (v2 : Option Value) (st : List Value) (σ : ma_H), ma_rn ro d 78 (68, [v0, v1, v2], st, SH, σ) = ma_rn ro d 78 (70, [v0, v1, v2], .int ((-2)) :: st, SH, σ)) ∧
  (∀ (v0 : Option Value) (v1 : Option Value) (v2 : Option Value) (x1 : Int32) (σ : ma_H), ma_rn ro d 78 (70, [v0, v1, v2], [.int x1], SH, σ) = some (some (.int x1), SH, σ)) ∧
  (∀ (v1 : Option Value) (v2 : Option Value) (a1 : Nat) (st : List Value) (σ : ma_H), ma_rn ro d 78 (71, [some (.ref a1), v1, v2], st, SH, σ) = ma_rn ro d 78 (72, [some (.ref a1), v1, v2], .ref a1 :: st, SH, σ)) ∧
  (∀ (v0 : Option Value) (v1 : Option Value) (v2 : Option Value) (a1 : Nat) (st : List Value) (σ : ma_H) (hc : hk_cls a1 = 7), ma_rn ro d 78 (72, [v0, v1, v2], .ref a1 :: st, SH, σ) = ma_rn ro d 78 (75, [v0, v1, v2], .ref (1) :: st, SH, σ)) ∧
  (∀ (v0 : Option Value) (v1 : Option Value) (v2 : Option Value) (a1 : Nat) (st : List Value) (σ : ma_H) (hc : hk_cls a1 = 5), ma_rn ro d 78 (75, [v0, v1, v2], .ref a1 :: st, SH, σ) = ma_rn ro d 78 (78, [v0, v1, v2], .ref (a1 + 24) :: st, SH, σ)) ∧
  (∀ (v0 : Option Value) (v2 : Option Value) (x1 : Int32) (st : List Value) (σ : ma_H), ma_rn ro d 78 (78, [v0, some (.int x1), v2], st, SH, σ) = ma_rn ro d 78 (79, [v0, some (.int x1), v2], .int x1 :: st, SH, σ)) ∧
  (∀ (v0 : Option Value) (v1 : Option Value) (x1 : Int32) (st : List Value) (σ : ma_H), ma_rn ro d 78 (79, [v0, v1, some (.int x1)], st, SH, σ) = ma_rn ro d 78 (80, [v0, v1, some (.int x1)], .int x1 :: st, SH, σ)) ∧
  (∀ (v0 : Option Value) (v1 : Option Value) (v2 : Option Value) (st : List Value) (σ : ma_H), ma_rn ro d 78 (80, [v0, v1, v2], st, SH, σ) = ma_rn ro d 78 (81, [v0, v1, v2], .int (nI 0) :: st, SH, σ)) ∧
  (∀ (v0 : Option Value) (v1 : Option Value) (v2 : Option Value) (x1 : Int32) (x2 : Int32) (x3 : Int32) (a0 : Nat) (σ : ma_H) (hc : hk_cls a0 = 4), ma_rn ro (d + 1) 78 (81, [v0, v1, v2], .int x3 :: .int x2 :: .int x1 :: .ref a0 :: [], SH, σ) = (ma_ev ro d 39 [.ref a0, .int x1, .int x2, .int x3] SH σ).bind (fun q => ma_rn ro (d + 1) 78 (84, [v0, v1, v2], (q.1.toList ++ []), q.2.1, q.2.2))) ∧
  (∀ (v0 : Option Value) (v1 : Option Value) (v2 : Option Value) (x1 : Int32) (st : List Value) (σ : ma_H), ma_rn ro d 78 (84, [v0, v1, v2], .int x1 :: st, SH, σ) = if x1 = nI 0 then ma_rn ro d 78 (100, [v0, v1, v2], st, SH, σ) else ma_rn ro d 78 (87, [v0, v1, v2], st, SH, σ)) ∧
  (∀ (v1 : Option Value) (v2 : Option Value) (a1 : Nat) (st : List Value) (σ : ma_H), ma_rn ro d 78 (87, [some (.ref a1), v1, v2], st, SH, σ) = ma_rn ro d 78 (88, [some (.ref a1), v1, v2], .ref a1 :: st, SH, σ)) ∧
  (∀ (v0 : Option Value) (v1 : Option Value) (v2 : Option Value) (a1 : Nat) (st : List Value) (σ : ma_H) (hc : hk_cls a1 = 7), ma_rn ro d 78 (88, [v0, v1, v2], .ref a1 :: st, SH, σ) = ma_rn ro d 78 (91, [v0, v1, v2], .ref (1) :: st, SH, σ)) ∧
  (∀ (v0 : Option Value) (v1 : Option Value) (v2 : Option Value) (a1 : Nat) (st : List Value) (σ : ma_H) (hc : hk_cls a1 = 5), ma_rn ro d 78 (91, [v0, v1, v2], .ref a1 :: st, SH, σ) = ma_rn ro d 78 (94, [v0, v1, v2], .ref (a1 + 24) :: st, SH, σ)) ∧
  (∀ (v0 : Option Value) (v1 : Option Value) (v2 : Option Value) (a1 : Nat) (st : List Value) (σ : ma_H) (hc : hk_cls a1 = 4), ma_rn ro d 78 (94, [v0, v1, v2], .ref a1 :: st, SH, σ) = ma_rn ro d 78 (97, [v0, v1, v2], .int (σ a1 3) :: st, SH, σ)) ∧
  (∀ (v0 : Option Value) (v1 : Option Value) (v2 : Option Value) (st : List Value) (σ : ma_H), ma_rn ro d 78 (97, [v0, v1, v2], st, SH, σ) = ma_rn ro d 78 (102, [v0, v1, v2], st, SH, σ)) ∧
  (∀ (v0 : Option Value) (v1 : Option Value) (v2 : Option Value) (st : List Value) (σ : ma_H), ma_rn ro d 78 (100, [v0, v1, v2], st, SH, σ) = ma_rn ro d 78 (102, [v0, v1, v2], .int ((-4)) :: st, SH, σ)) ∧
  (∀ (v0 : Option Value) (v1 : Option Value) (v2 : Option Value) (x1 : Int32) (σ : ma_H), ma_rn ro d 78 (102, [v0, v1, v2], [.int x1], SH, σ) = some (some (.int x1), SH, σ)) := ⟨fun v0 v2 x1 st σ => q_go e78_0 rfl rfl,
  fun v0 v1 v2 st σ => q_iconst e78_1 (by decide),
  fun v0 v1 v2 x1 x2 st σ => (q_cmp e78_2 rfl).trans q_ne,
  fun v1 v2 a1 st σ => q_go e78_5 rfl rfl,
  fun v0 v1 v2 a1 st σ hc => q_getA e78_6 o_78 f_7_12 (by decide) hc,
  fun v0 v1 v2 a1 st σ hc => q_getA e78_9 o_78 f_7_225 (by decide) hc,
  fun v0 v1 v2 st σ => q_iconst e78_12 (by decide),
  fun v0 v1 v2 x1 a2 st σ hc => q_putI e78_13 o_78 f_7_197 (by decide) rfl hc,
  fun v0 v1 v2 st σ => q_iconst e78_16 (by decide),
  fun v0 v1 v2 x1 σ => q_iret e78_17 r_78,
  fun v0 v2 x1 st σ => q_go e78_18 rfl rfl,
  fun v0 v1 v2 st σ => q_iconst e78_19 (by decide),
  fun v0 v1 v2 x1 x2 σ => q_invS (as := [.int x1, .int x2]) (rest := []) e78_20 o_78 bn_7_67 c_7_67 ⟨m_88.1, m_88.2.1, m_88.2.2.1⟩ rfl rfl (Nat.le_of_ble_eq_true rfl) (Nat.le_of_ble_eq_true rfl),
  fun v0 v1 v2 x1 st σ => (q_if e78_23 rfl).trans q_eq,
  fun v0 v1 v2 st σ => q_iconst e78_26 (by decide),
  fun v0 v1 v2 x1 σ => q_iret e78_27 r_78,
  fun v0 v2 x1 st σ => q_go e78_28 rfl rfl,
  fun v0 v1 v2 st σ => q_iconst e78_29 (by decide),
  fun v0 v1 v2 x1 x2 st σ => (q_cmp e78_30 rfl).trans q_eq,
  fun v0 v2 x1 st σ => q_go e78_33 rfl rfl,
  fun v0 v1 v2 st σ => q_iconst e78_34 (by decide),
  fun v0 v1 v2 x1 x2 st σ => (q_cmp e78_35 rfl).trans q_ne,
  fun v1 v2 a1 st σ => q_go e78_38 rfl rfl,
  fun v0 v1 v2 a1 st σ hc => q_getA e78_39 o_78 f_7_12 (by decide) hc,
  fun v0 v1 v2 a1 st σ hc => q_getA e78_42 o_78 f_7_93 (by decide) hc,
  fun v0 v1 x1 st σ => q_go e78_45 rfl rfl,
  fun v0 v1 v2 x1 a0 σ hc => q_invV (as := [.int x1]) (rest := []) e78_46 o_78 bn_7_102 c_7_102 m_50 (by decide) rfl rfl (Nat.le_of_ble_eq_true rfl) (Nat.le_of_ble_eq_true rfl) hc,
  fun v0 v1 v2 a1 st σ => q_ifnonnullR e78_49 rfl,
  fun v0 v1 v2 st σ => q_ifnonnullN e78_49 rfl,
  fun v0 v1 v2 st σ => q_iconst e78_52 (by decide),
  fun v0 v1 v2 x1 σ => q_iret e78_53 r_78,
  fun v0 v2 x1 st σ => q_go e78_54 rfl rfl,
  fun v0 v1 v2 st σ => q_iconst e78_55 (by decide),
  fun v0 v1 v2 x1 x2 st σ => (q_cmp e78_56 rfl).trans q_ne,
  fun v0 v1 x1 st σ => q_go e78_59 rfl rfl,
  fun v0 v1 v2 st σ => q_bipush e78_60 (by decide),
  fun v0 v1 v2 x1 x2 σ => q_invS (as := [.int x1, .int x2]) (rest := []) e78_62 o_78 bn_7_67 c_7_67 ⟨m_88.1, m_88.2.1, m_88.2.2.1⟩ rfl rfl (Nat.le_of_ble_eq_true rfl) (Nat.le_of_ble_eq_true rfl),
  fun v0 v1 v2 x1 st σ => (q_if e78_65 rfl).trans q_eq,
  fun v0 v1 v2 st σ => q_bipush e78_68 (by decide),
  fun v0 v1 v2 x1 σ => q_iret e78_70 r_78,
  fun v1 v2 a1 st σ => q_go e78_71 rfl rfl,
  fun v0 v1 v2 a1 st σ hc => q_getA e78_72 o_78 f_7_12 (by decide) hc,
  fun v0 v1 v2 a1 st σ hc => q_getA e78_75 o_78 f_7_225 (by decide) hc,
  fun v0 v2 x1 st σ => q_go e78_78 rfl rfl,
  fun v0 v1 x1 st σ => q_go e78_79 rfl rfl,
  fun v0 v1 v2 st σ => q_iconst e78_80 (by decide),
  fun v0 v1 v2 x1 x2 x3 a0 σ hc => q_invV (as := [.int x1, .int x2, .int x3]) (rest := []) e78_81 o_78 bn_7_200 c_7_200 m_39 (by decide) rfl rfl (Nat.le_of_ble_eq_true rfl) (Nat.le_of_ble_eq_true rfl) hc,
  fun v0 v1 v2 x1 st σ => (q_if e78_84 rfl).trans q_eq,
  fun v1 v2 a1 st σ => q_go e78_87 rfl rfl,
  fun v0 v1 v2 a1 st σ hc => q_getA e78_88 o_78 f_7_12 (by decide) hc,
  fun v0 v1 v2 a1 st σ hc => q_getA e78_91 o_78 f_7_225 (by decide) hc,
  fun v0 v1 v2 a1 st σ hc => q_getI e78_94 o_78 f_7_197 (by decide) hc,
  fun v0 v1 v2 st σ => q_goto e78_97 rfl,
  fun v0 v1 v2 st σ => q_bipush e78_100 (by decide),
  fun v0 v1 v2 x1 σ => q_iret e78_102 r_78⟩
theorem E78 {ro : ma_RO} {d : Nat} (a0 : Nat) (x1 : Int32) (x2 : Int32) (sh : List ma_Sh) (σ : ma_H) : ma_ev ro d 78 [.ref a0, .int x1, .int x2] sh σ = ma_rn ro d 78 (0, [some (.ref a0), some (.int x1), some (.int x2)], [], sh, σ) := q_ent x_78 rfl
theorem e79_0 : decode (ma_cd 79) 0 = .ok (.iload_n 1, 1) := (congrArg (fun b => decode b 0) cd_79).trans dX7_done_0
theorem e79_1 : decode (ma_cd 79) 1 = .ok (.iconst 1, 1) := (congrArg (fun b => decode b 1) cd_79).trans dX7_done_1
theorem e79_2 : decode (ma_cd 79) 2 = .ok (.invokestatic 67, 3) := (congrArg (fun b => decode b 2) cd_79).trans dX7_done_2
theorem e79_5 : decode (ma_cd 79) 5 = .ok (.ifCond .eq 5, 3) := (congrArg (fun b => decode b 5) cd_79).trans dX7_done_5
theorem e79_8 : decode (ma_cd 79) 8 = .ok (.iconst (-1), 1) := (congrArg (fun b => decode b 8) cd_79).trans dX7_done_8
theorem e79_9 : decode (ma_cd 79) 9 = .ok (.ireturn, 1) := (congrArg (fun b => decode b 9) cd_79).trans dX7_done_9
theorem e79_10 : decode (ma_cd 79) 10 = .ok (.aload_n 0, 1) := (congrArg (fun b => decode b 10) cd_79).trans dX7_done_10
theorem e79_11 : decode (ma_cd 79) 11 = .ok (.getfield 40, 3) := (congrArg (fun b => decode b 11) cd_79).trans dX7_done_11
theorem e79_14 : decode (ma_cd 79) 14 = .ok (.aload_n 0, 1) := (congrArg (fun b => decode b 14) cd_79).trans dX7_done_14
theorem e79_15 : decode (ma_cd 79) 15 = .ok (.getfield 12, 3) := (congrArg (fun b => decode b 15) cd_79).trans dX7_done_15
theorem e79_18 : decode (ma_cd 79) 18 = .ok (.getfield 93, 3) := (congrArg (fun b => decode b 18) cd_79).trans dX7_done_18
theorem e79_21 : decode (ma_cd 79) 21 = .ok (.invokevirtual 176, 3) := (congrArg (fun b => decode b 21) cd_79).trans dX7_done_21
theorem e79_24 : decode (ma_cd 79) 24 = .ok (.iconst 0, 1) := (congrArg (fun b => decode b 24) cd_79).trans dX7_done_24
theorem e79_25 : decode (ma_cd 79) 25 = .ok (.istore_n 2, 1) := (congrArg (fun b => decode b 25) cd_79).trans dX7_done_25
theorem e79_26 : decode (ma_cd 79) 26 = .ok (.iload_n 2, 1) := (congrArg (fun b => decode b 26) cd_79).trans dX7_done_26
theorem e79_27 : decode (ma_cd 79) 27 = .ok (.aload_n 0, 1) := (congrArg (fun b => decode b 27) cd_79).trans dX7_done_27
theorem e79_28 : decode (ma_cd 79) 28 = .ok (.getfield 12, 3) := (congrArg (fun b => decode b 28) cd_79).trans dX7_done_28
theorem e79_31 : decode (ma_cd 79) 31 = .ok (.getfield 225, 3) := (congrArg (fun b => decode b 31) cd_79).trans dX7_done_31
theorem e79_34 : decode (ma_cd 79) 34 = .ok (.getfield 197, 3) := (congrArg (fun b => decode b 34) cd_79).trans dX7_done_34
theorem e79_37 : decode (ma_cd 79) 37 = .ok (.if_icmp .ge 35, 3) := (congrArg (fun b => decode b 37) cd_79).trans dX7_done_37
theorem e79_40 : decode (ma_cd 79) 40 = .ok (.aload_n 0, 1) := (congrArg (fun b => decode b 40) cd_79).trans dX7_done_40
theorem e79_41 : decode (ma_cd 79) 41 = .ok (.aload_n 0, 1) := (congrArg (fun b => decode b 41) cd_79).trans dX7_done_41
theorem e79_42 : decode (ma_cd 79) 42 = .ok (.getfield 12, 3) := (congrArg (fun b => decode b 42) cd_79).trans dX7_done_42
theorem e79_45 : decode (ma_cd 79) 45 = .ok (.getfield 225, 3) := (congrArg (fun b => decode b 45) cd_79).trans dX7_done_45
theorem e79_48 : decode (ma_cd 79) 48 = .ok (.iload_n 2, 1) := (congrArg (fun b => decode b 48) cd_79).trans dX7_done_48
theorem e79_49 : decode (ma_cd 79) 49 = .ok (.invokevirtual 228, 3) := (congrArg (fun b => decode b 49) cd_79).trans dX7_done_49
theorem e79_52 : decode (ma_cd 79) 52 = .ok (.aload_n 0, 1) := (congrArg (fun b => decode b 52) cd_79).trans dX7_done_52
theorem e79_53 : decode (ma_cd 79) 53 = .ok (.getfield 12, 3) := (congrArg (fun b => decode b 53) cd_79).trans dX7_done_53
theorem e79_56 : decode (ma_cd 79) 56 = .ok (.getfield 225, 3) := (congrArg (fun b => decode b 56) cd_79).trans dX7_done_56
theorem e79_59 : decode (ma_cd 79) 59 = .ok (.iload_n 2, 1) := (congrArg (fun b => decode b 59) cd_79).trans dX7_done_59
theorem e79_60 : decode (ma_cd 79) 60 = .ok (.invokevirtual 231, 3) := (congrArg (fun b => decode b 60) cd_79).trans dX7_done_60
theorem e79_63 : decode (ma_cd 79) 63 = .ok (.invokevirtual 234, 3) := (congrArg (fun b => decode b 63) cd_79).trans dX7_done_63
theorem e79_66 : decode (ma_cd 79) 66 = .ok (.iinc 2 1, 3) := (congrArg (fun b => decode b 66) cd_79).trans dX7_done_66
theorem e79_69 : decode (ma_cd 79) 69 = .ok (.goto (-43), 3) := (congrArg (fun b => decode b 69) cd_79).trans dX7_done_69
theorem e79_72 : decode (ma_cd 79) 72 = .ok (.iload_n 1, 1) := (congrArg (fun b => decode b 72) cd_79).trans dX7_done_72
theorem e79_73 : decode (ma_cd 79) 73 = .ok (.ifCond .ne 13, 3) := (congrArg (fun b => decode b 73) cd_79).trans dX7_done_73
theorem e79_76 : decode (ma_cd 79) 76 = .ok (.aload_n 0, 1) := (congrArg (fun b => decode b 76) cd_79).trans dX7_done_76
theorem e79_77 : decode (ma_cd 79) 77 = .ok (.getfield 40, 3) := (congrArg (fun b => decode b 77) cd_79).trans dX7_done_77
theorem e79_80 : decode (ma_cd 79) 80 = .ok (.getfield 160, 3) := (congrArg (fun b => decode b 80) cd_79).trans dX7_done_80
theorem e79_83 : decode (ma_cd 79) 83 = .ok (.goto 10, 3) := (congrArg (fun b => decode b 83) cd_79).trans dX7_done_83
theorem e79_86 : decode (ma_cd 79) 86 = .ok (.aload_n 0, 1) := (congrArg (fun b => decode b 86) cd_79).trans dX7_done_86
theorem e79_87 : decode (ma_cd 79) 87 = .ok (.getfield 40, 3) := (congrArg (fun b => decode b 87) cd_79).trans dX7_done_87
theorem e79_90 : decode (ma_cd 79) 90 = .ok (.invokevirtual 163, 3) := (congrArg (fun b => decode b 90) cd_79).trans dX7_done_90
theorem e79_93 : decode (ma_cd 79) 93 = .ok (.ireturn, 1) := (congrArg (fun b => decode b 93) cd_79).trans dX7_done_93
theorem Sh79_26 {ro : ma_RO} {d : Nat} : (∀ (v0 : Option Value) (v1 : Option Value) (x1 : Int32) (st : List Value) (σ : ma_H), ma_rn ro d 79 (26, [v0, v1, some (.int x1)], st, SH, σ) = ma_rn ro d 79 (27, [v0, v1, some (.int x1)], .int x1 :: st, SH, σ)) := fun v0 v1 x1 st σ => q_go e79_26 rfl rfl
theorem S79 {ro : ma_RO} {d : Nat} : (∀ (v0 : Option Value) (v2 : Option Value) (x1 : Int32) (st : List Value) (σ : ma_H), ma_rn ro d 79 (0, [v0, some (.int x1), v2], st, SH, σ) = ma_rn ro d 79 (1, [v0, some (.int x1), v2], .int x1 :: st, SH, σ)) ∧
  (∀ (v0 : Option Value) (v1 : Option Value) (v2 : Option Value) (st : List Value) (σ : ma_H), ma_rn ro d 79 (1, [v0, v1, v2], st, SH, σ) = ma_rn ro d 79 (2, [v0, v1, v2], .int (nI 1) :: st, SH, σ)) ∧
  (∀ (v0 : Option Value) (v1 : Option Value) (v2 : Option Value) (x1 : Int32) (x2 : Int32) (σ : ma_H), ma_rn ro (d + 1) 79 (2, [v0, v1, v2], .int x2 :: .int x1 :: [], SH, σ) = (ma_ev ro d 88 [.int x1, .int x2] SH σ).bind (fun q => ma_rn ro (d + 1) 79 (5, [v0, v1, v2], (q.1.toList ++ []), q.2.1, q.2.2))) ∧
  (∀ (v0 : Option Value) (v1 : Option Value) (v2 : Option Value) (x1 : Int32) (st : List Value) (σ : ma_H), ma_rn ro d 79 (5, [v0, v1, v2], .int x1 :: st, SH, σ) = if x1 = nI 0 then ma_rn ro d 79 (10, [v0, v1, v2], st, SH, σ) else ma_rn ro d 79 (8, [v0, v1, v2], st, SH, σ)) ∧
  (∀ (v0 : Option Value) (v1 : Option Value) (v2 : Option Value) (st : List Value) (σ : ma_H), ma_rn ro d 79 (8, [v0, v1, v2], st, SH, σ) = ma_rn ro d 79 (9, [v0, v1, v2], .int ((-1)) :: st, SH, σ)) ∧
  (∀ (v0 : Option Value) (v1 : Option Value) (v2 : Option Value) (x1 : Int32) (σ : ma_H), ma_rn ro d 79 (9, [v0, v1, v2], [.int x1], SH, σ) = some (some (.int x1), SH, σ)) ∧
  (∀ (v1 : Option Value) (v2 : Option Value) (a1 : Nat) (st : List Value) (σ : ma_H), ma_rn ro d 79 (10, [some (.ref a1), v1, v2], st, SH, σ) = ma_rn ro d 79 (11, [some (.ref a1), v1, v2], .ref a1 :: st, SH, σ)) ∧
  (∀ (v0 : Option Value) (v1 : Option Value) (v2 : Option Value) (a1 : Nat) (st : List Value) (σ : ma_H) (hc : hk_cls a1 = 7), ma_rn ro d 79 (11, [v0, v1, v2], .ref a1 :: st, SH, σ) = ma_rn ro d 79 (14, [v0, v1, v2], .ref (70) :: st, SH, σ)) ∧
  (∀ (v1 : Option Value) (v2 : Option Value) (a1 : Nat) (st : List Value) (σ : ma_H), ma_rn ro d 79 (14, [some (.ref a1), v1, v2], st, SH, σ) = ma_rn ro d 79 (15, [some (.ref a1), v1, v2], .ref a1 :: st, SH, σ)) ∧
  (∀ (v0 : Option Value) (v1 : Option Value) (v2 : Option Value) (a1 : Nat) (st : List Value) (σ : ma_H) (hc : hk_cls a1 = 7), ma_rn ro d 79 (15, [v0, v1, v2], .ref a1 :: st, SH, σ) = ma_rn ro d 79 (18, [v0, v1, v2], .ref (1) :: st, SH, σ)) ∧
  (∀ (v0 : Option Value) (v1 : Option Value) (v2 : Option Value) (a1 : Nat) (st : List Value) (σ : ma_H) (hc : hk_cls a1 = 5), ma_rn ro d 79 (18, [v0, v1, v2], .ref a1 :: st, SH, σ) = ma_rn ro d 79 (21, [v0, v1, v2], .ref (a1 + 1) :: st, SH, σ)) ∧
  (∀ (v0 : Option Value) (v1 : Option Value) (v2 : Option Value) (a1 : Nat) (a0 : Nat) (σ : ma_H) (hc : hk_cls a0 = 6), ma_rn ro (d + 1) 79 (21, [v0, v1, v2], .ref a1 :: .ref a0 :: [], SH, σ) = (ma_ev ro d 52 [.ref a0, .ref a1] SH σ).bind (fun q => ma_rn ro (d + 1) 79 (24, [v0, v1, v2], (q.1.toList ++ []), q.2.1, q.2.2))) ∧
  (∀ (v0 : Option Value) (v1 : Option Value) (v2 : Option Value) (st : List Value) (σ : ma_H), ma_rn ro d 79 (24, [v0, v1, v2], st, SH, σ) = ma_rn ro d 79 (25, [v0, v1, v2], .int (nI 0) :: st, SH, σ)) ∧
  (∀ (v0 : Option Value) (v2 : Option Value) (x9 : Int32) (x1 : Int32) (st : List Value) (σ : ma_H), ma_rn ro d 79 (25, [v0, some (.int x9), v2], .int x1 :: st, SH, σ) = ma_rn ro d 79 (26, [v0, some (.int x9), some (.int x1)], st, SH, σ)) ∧
  (∀ (v1 : Option Value) (v2 : Option Value) (a1 : Nat) (st : List Value) (σ : ma_H), ma_rn ro d 79 (27, [some (.ref a1), v1, v2], st, SH, σ) = ma_rn ro d 79 (28, [some (.ref a1), v1, v2], .ref a1 :: st, SH, σ)) ∧
  (∀ (v0 : Option Value) (v1 : Option Value) (v2 : Option Value) (a1 : Nat) (st : List Value) (σ : ma_H) (hc : hk_cls a1 = 7), ma_rn ro d 79 (28, [v0, v1, v2], .ref a1 :: st, SH, σ) = ma_rn ro d 79 (31, [v0, v1, v2], .ref (1) :: st, SH, σ)) ∧
  (∀ (v0 : Option Value) (v1 : Option Value) (v2 : Option Value) (a1 : Nat) (st : List Value) (σ : ma_H) (hc : hk_cls a1 = 5), ma_rn ro d 79 (31, [v0, v1, v2], .ref a1 :: st, SH, σ) = ma_rn ro d 79 (34, [v0, v1, v2], .ref (a1 + 24) :: st, SH, σ)) ∧
  (∀ (v0 : Option Value) (v1 : Option Value) (v2 : Option Value) (a1 : Nat) (st : List Value) (σ : ma_H) (hc : hk_cls a1 = 4), ma_rn ro d 79 (34, [v0, v1, v2], .ref a1 :: st, SH, σ) = ma_rn ro d 79 (37, [v0, v1, v2], .int (σ a1 3) :: st, SH, σ)) ∧
  (∀ (v0 : Option Value) (v1 : Option Value) (v2 : Option Value) (x1 : Int32) (x2 : Int32) (st : List Value) (σ : ma_H), ma_rn ro d 79 (37, [v0, v1, v2], .int x1 :: .int x2 :: st, SH, σ) = if x2 < x1 then ma_rn ro d 79 (40, [v0, v1, v2], st, SH, σ) else ma_rn ro d 79 (72, [v0, v1, v2], st, SH, σ)) ∧
  (∀ (v1 : Option Value) (v2 : Option Value) (a1 : Nat) (st : List Value) (σ : ma_H), ma_rn ro d 79 (40, [some (.ref a1), v1, v2], st, SH, σ) = ma_rn ro d 79 (41, [some (.ref a1), v1, v2], .ref a1 :: st, SH, σ)) ∧
  (∀ (v1 : Option Value) (v2 : Option Value) (a1 : Nat) (st : List Value) (σ : ma_H), ma_rn ro d 79 (41, [some (.ref a1), v1, v2], st, SH, σ) = ma_rn ro d 79 (42, [some (.ref a1), v1, v2], .ref a1 :: st, SH, σ)) ∧
  (∀ (v0 : Option Value) (v1 : Option Value) (v2 : Option Value) (a1 : Nat) (st : List Value) (σ : ma_H) (hc : hk_cls a1 = 7), ma_rn ro d 79 (42, [v0, v1, v2], .ref a1 :: st, SH, σ) = ma_rn ro d 79 (45, [v0, v1, v2], .ref (1) :: st, SH, σ)) ∧
  (∀ (v0 : Option Value) (v1 : Option Value) (v2 : Option Value) (a1 : Nat) (st : List Value) (σ : ma_H) (hc : hk_cls a1 = 5), ma_rn ro d 79 (45, [v0, v1, v2], .ref a1 :: st, SH, σ) = ma_rn ro d 79 (48, [v0, v1, v2], .ref (a1 + 24) :: st, SH, σ)) ∧
  (∀ (v0 : Option Value) (v1 : Option Value) (x1 : Int32) (st : List Value) (σ : ma_H), ma_rn ro d 79 (48, [v0, v1, some (.int x1)], st, SH, σ) = ma_rn ro d 79 (49, [v0, v1, some (.int x1)], .int x1 :: st, SH, σ)) ∧
  (∀ (v0 : Option Value) (v1 : Option Value) (v2 : Option Value) (a20 : Nat) (x1 : Int32) (a0 : Nat) (σ : ma_H) (hc : hk_cls a0 = 4), ma_rn ro (d + 1) 79 (49, [v0, v1, v2], .int x1 :: .ref a0 :: .ref a20 :: [], SH, σ) = (ma_ev ro d 41 [.ref a0, .int x1] SH σ).bind (fun q => ma_rn ro (d + 1) 79 (52, [v0, v1, v2], (q.1.toList ++ (.ref a20 :: [])), q.2.1, q.2.2))) ∧
  (∀ (v1 : Option Value) (v2 : Option Value) (a1 : Nat) (st : List Value) (σ : ma_H), ma_rn ro d 79 (52, [some (.ref a1), v1, v2], st, SH, σ) = ma_rn ro d 79 (53, [some (.ref a1), v1, v2], .ref a1 :: st, SH, σ)) ∧
  (∀ (v0 : Option Value) (v1 : Option Value) (v2 : Option Value) (a1 : Nat) (st : List Value) (σ : ma_H) (hc : hk_cls a1 = 7), ma_rn ro d 79 (53, [v0, v1, v2], .ref a1 :: st, SH, σ) = ma_rn ro d 79 (56, [v0, v1, v2], .ref (1) :: st, SH, σ)) ∧
  (∀ (v0 : Option Value) (v1 : Option Value) (v2 : Option Value) (a1 : Nat) (st : List Value) (σ : ma_H) (hc : hk_cls a1 = 5), ma_rn ro d 79 (56, [v0, v1, v2], .ref a1 :: st, SH, σ) = ma_rn ro d 79 (59, [v0, v1, v2], .ref (a1 + 24) :: st, SH, σ)) ∧
  (∀ (v0 : Option Value) (v1 : Option Value) (x1 : Int32) (st : List Value) (σ : ma_H), ma_rn ro d 79 (59, [v0, v1, some (.int x1)], st, SH, σ) = ma_rn ro d 79 (60, [v0, v1, some (.int x1)], .int x1 :: st, SH, σ)) ∧
  (∀ (v0 : Option Value) (v1 : Option Value) (v2 : Option Value) (x20 : Int32) (a21 : Nat) (x1 : Int32) (a0 : Nat) (σ : ma_H) (hc : hk_cls a0 = 4), ma_rn ro (d + 1) 79 (60, [v0, v1, v2], .int x1 :: .ref a0 :: .int x20 :: .ref a21 :: [], SH, σ) = (ma_ev ro d 42 [.ref a0, .int x1] SH σ).bind (fun q => ma_rn ro (d + 1) 79 (63, [v0, v1, v2], (q.1.toList ++ (.int x20 :: .ref a21 :: [])), q.2.1, q.2.2))) ∧
  (∀ (v0 : Option Value) (v1 : Option Value) (v2 : Option Value) (x1 : Int32) (x2 : Int32) (a0 : Nat) (σ : ma_H) (hc : hk_cls a0 = 7), ma_rn ro (d + 1) 79 (63, [v0, v1, v2], .int x2 :: .int x1 :: .ref a0 :: [], SH, σ) = (ma_ev ro d 100 [.ref a0, .int x1, .int x2] SH σ).bind (fun q => ma_rn ro (d + 1) 79 (66, [v0, v1, v2], (q.1.toList ++ []), q.2.1, q.2.2))) ∧
  (∀ (v0 : Option Value) (x1 : Int32) (x9 : Int32) (st : List Value) (σ : ma_H), ma_rn ro d 79 (66, [v0, some (.int x9), some (.int x1)], st, SH, σ) = ma_rn ro d 79 (69, [v0, some (.int x9), some (.int (x1 + nI 1))], st, SH, σ)) ∧
  (∀ (v0 : Option Value) (v1 : Option Value) (v2 : Option Value) (st : List Value) (σ : ma_H), ma_rn ro d 79 (69, [v0, v1, v2], st, SH, σ) = ma_rn ro d 79 (26, [v0, v1, v2], st, SH, σ)) ∧
  (∀ (v0 : Option Value) (v2 : Option Value) (x1 : Int32) (st : List Value) (σ : ma_H), ma_rn ro d 79 (72, [v0, some (.int x1), v2], st, SH, σ) = ma_rn ro d 79 (73, [v0, some (.int x1), v2], .int x1 :: st, SH, σ)) ∧
  (∀ (v0 : Option Value) (v1 : Option Value) (v2 : Option Value) (x1 : Int32) (st : List Value) (σ : ma_H), ma_rn ro d 79 (73, [v0, v1, v2], .int x1 :: st, SH, σ) = if x1 = nI 0 then ma_rn ro d 79 (76, [v0, v1, v2], st, SH, σ) else ma_rn ro d 79 (86, [v0, v1, v2], st, SH, σ)) ∧
  (∀ (v1 : Option Value) (v2 : Option Value) (a1 : Nat) (st : List Value) (σ : ma_H), ma_rn ro d 79 (76, [some (.ref a1), v1, v2], st, SH, σ) = ma_rn ro d 79 (77, [some (.ref a1), v1, v2], .ref a1 :: st, SH, σ)) ∧
  (∀ (v0 : Option Value) (v1 : Option Value) (v2 : Option Value) (a1 : Nat) (st : List Value) (σ : ma_H) (hc : hk_cls a1 = 7), ma_rn ro d 79 (77, [v0, v1, v2], .ref a1 :: st, SH, σ) = ma_rn ro d 79 (80, [v0, v1, v2], .ref (70) :: st, SH, σ)) ∧
  (∀ (v0 : Option Value) (v1 : Option Value) (v2 : Option Value) (a1 : Nat) (st : List Value) (σ : ma_H) (hc : hk_cls a1 = 6), ma_rn ro d 79 (80, [v0, v1, v2], .ref a1 :: st, SH, σ) = ma_rn ro d 79 (83, [v0, v1, v2], .int (σ a1 4) :: st, SH, σ)) ∧
  (∀ (v0 : Option Value) (v1 : Option Value) (v2 : Option Value) (st : List Value) (σ : ma_H), ma_rn ro d 79 (83, [v0, v1, v2], st, SH, σ) = ma_rn ro d 79 (93, [v0, v1, v2], st, SH, σ)) ∧
  (∀ (v1 : Option Value) (v2 : Option Value) (a1 : Nat) (st : List Value) (σ : ma_H), ma_rn ro d 79 (86, [some (.ref a1), v1, v2], st, SH, σ) = ma_rn ro d 79 (87, [some (.ref a1), v1, v2], .ref a1 :: st, SH, σ)) ∧
  (∀ (v0 : Option Value) (v1 : Option Value) (v2 : Option Value) (a1 : Nat) (st : List Value) (σ : ma_H) (hc : hk_cls a1 = 7), ma_rn ro d 79 (87, [v0, v1, v2], .ref a1 :: st, SH, σ) = ma_rn ro d 79 (90, [v0, v1, v2], .ref (70) :: st, SH, σ)) ∧
  (∀ (v0 : Option Value) (v1 : Option Value) (v2 : Option Value) (a0 : Nat) (σ : ma_H) (hc : hk_cls a0 = 6), ma_rn ro (d + 1) 79 (90, [v0, v1, v2], .ref a0 :: [], SH, σ) = (ma_ev ro d 55 [.ref a0] SH σ).bind (fun q => ma_rn ro (d + 1) 79 (93, [v0, v1, v2], (q.1.toList ++ []), q.2.1, q.2.2))) ∧
  (∀ (v0 : Option Value) (v1 : Option Value) (v2 : Option Value) (x1 : Int32) (σ : ma_H), ma_rn ro d 79 (93, [v0, v1, v2], [.int x1], SH, σ) = some (some (.int x1), SH, σ)) := ⟨fun v0 v2 x1 st σ => q_go e79_0 rfl rfl,
  fun v0 v1 v2 st σ => q_iconst e79_1 (by decide),
  fun v0 v1 v2 x1 x2 σ => q_invS (as := [.int x1, .int x2]) (rest := []) e79_2 o_79 bn_7_67 c_7_67 ⟨m_88.1, m_88.2.1, m_88.2.2.1⟩ rfl rfl (Nat.le_of_ble_eq_true rfl) (Nat.le_of_ble_eq_true rfl),
  fun v0 v1 v2 x1 st σ => (q_if e79_5 rfl).trans q_eq,
  fun v0 v1 v2 st σ => q_iconst e79_8 (by decide),
  fun v0 v1 v2 x1 σ => q_iret e79_9 r_79,
  fun v1 v2 a1 st σ => q_go e79_10 rfl rfl,
  fun v0 v1 v2 a1 st σ hc => q_getA e79_11 o_79 f_7_40 (by decide) hc,
  fun v1 v2 a1 st σ => q_go e79_14 rfl rfl,
  fun v0 v1 v2 a1 st σ hc => q_getA e79_15 o_79 f_7_12 (by decide) hc,
  fun v0 v1 v2 a1 st σ hc => q_getA e79_18 o_79 f_7_93 (by decide) hc,
  fun v0 v1 v2 a1 a0 σ hc => q_invV (as := [.ref a1]) (rest := []) e79_21 o_79 bn_7_176 c_7_176 m_52 (by decide) rfl rfl (Nat.le_of_ble_eq_true rfl) (Nat.le_of_ble_eq_true rfl) hc,
  fun v0 v1 v2 st σ => q_iconst e79_24 (by decide),
  fun v0 v2 x9 x1 st σ => q_go e79_25 rfl rfl,
  fun v1 v2 a1 st σ => q_go e79_27 rfl rfl,
  fun v0 v1 v2 a1 st σ hc => q_getA e79_28 o_79 f_7_12 (by decide) hc,
  fun v0 v1 v2 a1 st σ hc => q_getA e79_31 o_79 f_7_225 (by decide) hc,
  fun v0 v1 v2 a1 st σ hc => q_getI e79_34 o_79 f_7_197 (by decide) hc,
  fun v0 v1 v2 x1 x2 st σ => (q_cmp e79_37 rfl).trans q_nlt,
  fun v1 v2 a1 st σ => q_go e79_40 rfl rfl,
  fun v1 v2 a1 st σ => q_go e79_41 rfl rfl,
  fun v0 v1 v2 a1 st σ hc => q_getA e79_42 o_79 f_7_12 (by decide) hc,
  fun v0 v1 v2 a1 st σ hc => q_getA e79_45 o_79 f_7_225 (by decide) hc,
  fun v0 v1 x1 st σ => q_go e79_48 rfl rfl,
  fun v0 v1 v2 a20 x1 a0 σ hc => q_invV (as := [.int x1]) (rest := .ref a20 :: []) e79_49 o_79 bn_7_228 c_7_228 m_41 (by decide) rfl rfl (Nat.le_of_ble_eq_true rfl) (Nat.le_of_ble_eq_true rfl) hc,
  fun v1 v2 a1 st σ => q_go e79_52 rfl rfl,
  fun v0 v1 v2 a1 st σ hc => q_getA e79_53 o_79 f_7_12 (by decide) hc,
  fun v0 v1 v2 a1 st σ hc => q_getA e79_56 o_79 f_7_225 (by decide) hc,
  fun v0 v1 x1 st σ => q_go e79_59 rfl rfl,
  fun v0 v1 v2 x20 a21 x1 a0 σ hc => q_invV (as := [.int x1]) (rest := .int x20 :: .ref a21 :: []) e79_60 o_79 bn_7_231 c_7_231 m_42 (by decide) rfl rfl (Nat.le_of_ble_eq_true rfl) (Nat.le_of_ble_eq_true rfl) hc,
  fun v0 v1 v2 x1 x2 a0 σ hc => q_invV (as := [.int x1, .int x2]) (rest := []) e79_63 o_79 bn_7_234 c_7_234 m_100 (by decide) rfl rfl (Nat.le_of_ble_eq_true rfl) (Nat.le_of_ble_eq_true rfl) hc,
  fun v0 x1 x9 st σ => q_iinc e79_66 rfl rfl (by decide),
  fun v0 v1 v2 st σ => q_goto e79_69 rfl,
  fun v0 v2 x1 st σ => q_go e79_72 rfl rfl,
  fun v0 v1 v2 x1 st σ => (q_if e79_73 rfl).trans q_ne,
  fun v1 v2 a1 st σ => q_go e79_76 rfl rfl,
  fun v0 v1 v2 a1 st σ hc => q_getA e79_77 o_79 f_7_40 (by decide) hc,
  fun v0 v1 v2 a1 st σ hc => q_getI e79_80 o_79 f_7_160 (by decide) hc,
  fun v0 v1 v2 st σ => q_goto e79_83 rfl,
  fun v1 v2 a1 st σ => q_go e79_86 rfl rfl,
  fun v0 v1 v2 a1 st σ hc => q_getA e79_87 o_79 f_7_40 (by decide) hc,
  fun v0 v1 v2 a0 σ hc => q_invV (as := []) (rest := []) e79_90 o_79 bn_7_163 c_7_163 m_55 (by decide) rfl rfl (Nat.le_of_ble_eq_true rfl) (Nat.le_of_ble_eq_true rfl) hc,
  fun v0 v1 v2 x1 σ => q_iret e79_93 r_79⟩
theorem E79 {ro : ma_RO} {d : Nat} (a0 : Nat) (x1 : Int32) (sh : List ma_Sh) (σ : ma_H) : ma_ev ro d 79 [.ref a0, .int x1] sh σ = ma_rn ro d 79 (0, [some (.ref a0), some (.int x1), none], [], sh, σ) := q_ent x_79 rfl
theorem e80_0 : decode (ma_cd 80) 0 = .ok (.iload_n 1, 1) := (congrArg (fun b => decode b 0) cd_80).trans dX7_book_0
theorem e80_1 : decode (ma_cd 80) 1 = .ok (.iconst (-1), 1) := (congrArg (fun b => decode b 1) cd_80).trans dX7_book_1
theorem e80_2 : decode (ma_cd 80) 2 = .ok (.if_icmp .ne 16, 3) := (congrArg (fun b => decode b 2) cd_80).trans dX7_book_2
theorem e80_5 : decode (ma_cd 80) 5 = .ok (.aload_n 0, 1) := (congrArg (fun b => decode b 5) cd_80).trans dX7_book_5
theorem e80_6 : decode (ma_cd 80) 6 = .ok (.getfield 12, 3) := (congrArg (fun b => decode b 6) cd_80).trans dX7_book_6
theorem e80_9 : decode (ma_cd 80) 9 = .ok (.getfield 237, 3) := (congrArg (fun b => decode b 9) cd_80).trans dX7_book_9
theorem e80_12 : decode (ma_cd 80) 12 = .ok (.iconst 0, 1) := (congrArg (fun b => decode b 12) cd_80).trans dX7_book_12
theorem e80_13 : decode (ma_cd 80) 13 = .ok (.putfield 197, 3) := (congrArg (fun b => decode b 13) cd_80).trans dX7_book_13
theorem e80_16 : decode (ma_cd 80) 16 = .ok (.iconst 0, 1) := (congrArg (fun b => decode b 16) cd_80).trans dX7_book_16
theorem e80_17 : decode (ma_cd 80) 17 = .ok (.ireturn, 1) := (congrArg (fun b => decode b 17) cd_80).trans dX7_book_17
theorem e80_18 : decode (ma_cd 80) 18 = .ok (.aload_n 0, 1) := (congrArg (fun b => decode b 18) cd_80).trans dX7_book_18
theorem e80_19 : decode (ma_cd 80) 19 = .ok (.getfield 12, 3) := (congrArg (fun b => decode b 19) cd_80).trans dX7_book_19
theorem e80_22 : decode (ma_cd 80) 22 = .ok (.getfield 93, 3) := (congrArg (fun b => decode b 22) cd_80).trans dX7_book_22
theorem e80_25 : decode (ma_cd 80) 25 = .ok (.iload_n 1, 1) := (congrArg (fun b => decode b 25) cd_80).trans dX7_book_25
theorem e80_26 : decode (ma_cd 80) 26 = .ok (.invokevirtual 102, 3) := (congrArg (fun b => decode b 26) cd_80).trans dX7_book_26
theorem e80_29 : decode (ma_cd 80) 29 = .ok (.ifnonnull 5, 3) := (congrArg (fun b => decode b 29) cd_80).trans dX7_book_29
theorem e80_32 : decode (ma_cd 80) 32 = .ok (.iconst (-1), 1) := (congrArg (fun b => decode b 32) cd_80).trans dX7_book_32
theorem e80_33 : decode (ma_cd 80) 33 = .ok (.ireturn, 1) := (congrArg (fun b => decode b 33) cd_80).trans dX7_book_33
theorem e80_34 : decode (ma_cd 80) 34 = .ok (.iload_n 2, 1) := (congrArg (fun b => decode b 34) cd_80).trans dX7_book_34
theorem e80_35 : decode (ma_cd 80) 35 = .ok (.bipush 99, 2) := (congrArg (fun b => decode b 35) cd_80).trans dX7_book_35
theorem e80_37 : decode (ma_cd 80) 37 = .ok (.invokestatic 67, 3) := (congrArg (fun b => decode b 37) cd_80).trans dX7_book_37
theorem e80_40 : decode (ma_cd 80) 40 = .ok (.ifCond .eq 6, 3) := (congrArg (fun b => decode b 40) cd_80).trans dX7_book_40
theorem e80_43 : decode (ma_cd 80) 43 = .ok (.bipush (-2), 2) := (congrArg (fun b => decode b 43) cd_80).trans dX7_book_43
theorem e80_45 : decode (ma_cd 80) 45 = .ok (.ireturn, 1) := (congrArg (fun b => decode b 45) cd_80).trans dX7_book_45
theorem e80_46 : decode (ma_cd 80) 46 = .ok (.aload_n 0, 1) := (congrArg (fun b => decode b 46) cd_80).trans dX7_book_46
theorem e80_47 : decode (ma_cd 80) 47 = .ok (.getfield 12, 3) := (congrArg (fun b => decode b 47) cd_80).trans dX7_book_47
theorem e80_50 : decode (ma_cd 80) 50 = .ok (.getfield 237, 3) := (congrArg (fun b => decode b 50) cd_80).trans dX7_book_50
theorem e80_53 : decode (ma_cd 80) 53 = .ok (.iload_n 1, 1) := (congrArg (fun b => decode b 53) cd_80).trans dX7_book_53
theorem e80_54 : decode (ma_cd 80) 54 = .ok (.iload_n 2, 1) := (congrArg (fun b => decode b 54) cd_80).trans dX7_book_54
theorem e80_55 : decode (ma_cd 80) 55 = .ok (.iconst 0, 1) := (congrArg (fun b => decode b 55) cd_80).trans dX7_book_55
theorem e80_56 : decode (ma_cd 80) 56 = .ok (.invokevirtual 200, 3) := (congrArg (fun b => decode b 56) cd_80).trans dX7_book_56
theorem e80_59 : decode (ma_cd 80) 59 = .ok (.ifCond .eq 16, 3) := (congrArg (fun b => decode b 59) cd_80).trans dX7_book_59
theorem e80_62 : decode (ma_cd 80) 62 = .ok (.aload_n 0, 1) := (congrArg (fun b => decode b 62) cd_80).trans dX7_book_62
theorem e80_63 : decode (ma_cd 80) 63 = .ok (.getfield 12, 3) := (congrArg (fun b => decode b 63) cd_80).trans dX7_book_63
theorem e80_66 : decode (ma_cd 80) 66 = .ok (.getfield 237, 3) := (congrArg (fun b => decode b 66) cd_80).trans dX7_book_66
theorem e80_69 : decode (ma_cd 80) 69 = .ok (.getfield 197, 3) := (congrArg (fun b => decode b 69) cd_80).trans dX7_book_69
theorem e80_72 : decode (ma_cd 80) 72 = .ok (.goto 5, 3) := (congrArg (fun b => decode b 72) cd_80).trans dX7_book_72
theorem e80_75 : decode (ma_cd 80) 75 = .ok (.bipush (-4), 2) := (congrArg (fun b => decode b 75) cd_80).trans dX7_book_75
theorem e80_77 : decode (ma_cd 80) 77 = .ok (.ireturn, 1) := (congrArg (fun b => decode b 77) cd_80).trans dX7_book_77
theorem S80 {ro : ma_RO} {d : Nat} : (∀ (v0 : Option Value) (v2 : Option Value) (x1 : Int32) (st : List Value) (σ : ma_H), ma_rn ro d 80 (0, [v0, some (.int x1), v2], st, SH, σ) = ma_rn ro d 80 (1, [v0, some (.int x1), v2], .int x1 :: st, SH, σ)) ∧
  (∀ (v0 : Option Value) (v1 : Option Value) (v2 : Option Value) (st : List Value) (σ : ma_H), ma_rn ro d 80 (1, [v0, v1, v2], st, SH, σ) = ma_rn ro d 80 (2, [v0, v1, v2], .int ((-1)) :: st, SH, σ)) ∧
  (∀ (v0 : Option Value) (v1 : Option Value) (v2 : Option Value) (x1 : Int32) (x2 : Int32) (st : List Value) (σ : ma_H), ma_rn ro d 80 (2, [v0, v1, v2], .int x1 :: .int x2 :: st, SH, σ) = if x2 = x1 then ma_rn ro d 80 (5, [v0, v1, v2], st, SH, σ) else ma_rn ro d 80 (18, [v0, v1, v2], st, SH, σ)) ∧
  (∀ (v1 : Option Value) (v2 : Option Value) (a1 : Nat) (st : List Value) (σ : ma_H), ma_rn ro d 80 (5, [some (.ref a1), v1, v2], st, SH, σ) = ma_rn ro d 80 (6, [some (.ref a1), v1, v2], .ref a1 :: st, SH, σ)) ∧
  (∀ (v0 : Option Value) (v1 : Option Value) (v2 : Option Value) (a1 : Nat) (st : List Value) (σ : ma_H) (hc : hk_cls a1 = 7), ma_rn ro d 80 (6, [v0, v1, v2], .ref a1 :: st, SH, σ) = ma_rn ro d 80 (9, [v0, v1, v2], .ref (1) :: st, SH, σ)) ∧
  (∀ (v0 : Option Value) (v1 : Option Value) (v2 : Option Value) (a1 : Nat) (st : List Value) (σ : ma_H) (hc : hk_cls a1 = 5), ma_rn ro d 80 (9, [v0, v1, v2], .ref a1 :: st, SH, σ) = ma_rn ro d 80 (12, [v0, v1, v2], .ref (a1 + 28) :: st, SH, σ)) ∧
  (∀ (v0 : Option Value) (v1 : Option Value) (v2 : Option Value) (st : List Value) (σ : ma_H), ma_rn ro d 80 (12, [v0, v1, v2], st, SH, σ) = ma_rn ro d 80 (13, [v0, v1, v2], .int (nI 0) :: st, SH, σ)) ∧
  (∀ (v0 : Option Value) (v1 : Option Value) (v2 : Option Value) (x1 : Int32) (a2 : Nat) (st : List Value) (σ : ma_H) (hc : hk_cls a2 = 4), ma_rn ro d 80 (13, [v0, v1, v2], .int x1 :: .ref a2 :: st, SH, σ) = ma_rn ro d 80 (16, [v0, v1, v2], st, SH, (ma_up σ a2 3 x1))) ∧
  (∀ (v0 : Option Value) (v1 : Option Value) (v2 : Option Value) (st : List Value) (σ : ma_H), ma_rn ro d 80 (16, [v0, v1, v2], st, SH, σ) = ma_rn ro d 80 (17, [v0, v1, v2], .int (nI 0) :: st, SH, σ)) ∧
  (∀ (v0 : Option Value) (v1 : Option Value) (v2 : Option Value) (x1 : Int32) (σ : ma_H), ma_rn ro d 80 (17, [v0, v1, v2], [.int x1], SH, σ) = some (some (.int x1), SH, σ)) ∧
  (∀ (v1 : Option Value) (v2 : Option Value) (a1 : Nat) (st : List Value) (σ : ma_H), ma_rn ro d 80 (18, [some (.ref a1), v1, v2], st, SH, σ) = ma_rn ro d 80 (19, [some (.ref a1), v1, v2], .ref a1 :: st, SH, σ)) ∧
  (∀ (v0 : Option Value) (v1 : Option Value) (v2 : Option Value) (a1 : Nat) (st : List Value) (σ : ma_H) (hc : hk_cls a1 = 7), ma_rn ro d 80 (19, [v0, v1, v2], .ref a1 :: st, SH, σ) = ma_rn ro d 80 (22, [v0, v1, v2], .ref (1) :: st, SH, σ)) ∧
  (∀ (v0 : Option Value) (v1 : Option Value) (v2 : Option Value) (a1 : Nat) (st : List Value) (σ : ma_H) (hc : hk_cls a1 = 5), ma_rn ro d 80 (22, [v0, v1, v2], .ref a1 :: st, SH, σ) = ma_rn ro d 80 (25, [v0, v1, v2], .ref (a1 + 1) :: st, SH, σ)) ∧
  (∀ (v0 : Option Value) (v2 : Option Value) (x1 : Int32) (st : List Value) (σ : ma_H), ma_rn ro d 80 (25, [v0, some (.int x1), v2], st, SH, σ) = ma_rn ro d 80 (26, [v0, some (.int x1), v2], .int x1 :: st, SH, σ)) ∧
  (∀ (v0 : Option Value) (v1 : Option Value) (v2 : Option Value) (x1 : Int32) (a0 : Nat) (σ : ma_H) (hc : hk_cls a0 = 6), ma_rn ro (d + 1) 80 (26, [v0, v1, v2], .int x1 :: .ref a0 :: [], SH, σ) = (ma_ev ro d 50 [.ref a0, .int x1] SH σ).bind (fun q => ma_rn ro (d + 1) 80 (29, [v0, v1, v2], (q.1.toList ++ []), q.2.1, q.2.2))) ∧
  (∀ (v0 : Option Value) (v1 : Option Value) (v2 : Option Value) (a1 : Nat) (st : List Value) (σ : ma_H), ma_rn ro d 80 (29, [v0, v1, v2], .ref a1 :: st, SH, σ) = ma_rn ro d 80 (34, [v0, v1, v2], st, SH, σ)) ∧
  (∀ (v0 : Option Value) (v1 : Option Value) (v2 : Option Value) (st : List Value) (σ : ma_H), ma_rn ro d 80 (29, [v0, v1, v2], .null :: st, SH, σ) = ma_rn ro d 80 (32, [v0, v1, v2], st, SH, σ)) ∧
  (∀ (v0 : Option Value) (v1 : Option Value) (v2 : Option Value) (st : List Value) (σ : ma_H), ma_rn ro d 80 (32, [v0, v1, v2], st, SH, σ) = ma_rn ro d 80 (33, [v0, v1, v2], .int ((-1)) :: st, SH, σ)) ∧
  (∀ (v0 : Option Value) (v1 : Option Value) (v2 : Option Value) (x1 : Int32) (σ : ma_H), ma_rn ro d 80 (33, [v0, v1, v2], [.int x1], SH, σ) = some (some (.int x1), SH, σ)) ∧
  (∀ (v0 : Option Value) (v1 : Option Value) (x1 : Int32) (st : List Value) (σ : ma_H), ma_rn ro d 80 (34, [v0, v1, some (.int x1)], st, SH, σ) = ma_rn ro d 80 (35, [v0, v1, some (.int x1)], .int x1 :: st, SH, σ)) ∧
  (∀ (v0 : Option Value) (v1 : Option Value) (v2 : Option Value) (st : List Value) (σ : ma_H), ma_rn ro d 80 (35, [v0, v1, v2], st, SH, σ) = ma_rn ro d 80 (37, [v0, v1, v2], .int (nI 99) :: st, SH, σ)) ∧
  (∀ (v0 : Option Value) (v1 : Option Value) (v2 : Option Value) (x1 : Int32) (x2 : Int32) (σ : ma_H), ma_rn ro (d + 1) 80 (37, [v0, v1, v2], .int x2 :: .int x1 :: [], SH, σ) = (ma_ev ro d 88 [.int x1, .int x2] SH σ).bind (fun q => ma_rn ro (d + 1) 80 (40, [v0, v1, v2], (q.1.toList ++ []), q.2.1, q.2.2))) ∧
  (∀ (v0 : Option Value) (v1 : Option Value) (v2 : Option Value) (x1 : Int32) (st : List Value) (σ : ma_H), ma_rn ro d 80 (40, [v0, v1, v2], .int x1 :: st, SH, σ) = if x1 = nI 0 then ma_rn ro d 80 (46, [v0, v1, v2], st, SH, σ) else ma_rn ro d 80 (43, [v0, v1, v2], st, SH, σ)) ∧
  (∀ (v0 : Option Value) (v1 : Option Value) (v2 : Option Value) (st : List Value) (σ : ma_H), ma_rn ro d 80 (43, [v0, v1, v2], st, SH, σ) = ma_rn ro d 80 (45, [v0, v1, v2], .int ((-2)) :: st, SH, σ)) ∧
  (∀ (v0 : Option Value) (v1 : Option Value) (v2 : Option Value) (x1 : Int32) (σ : ma_H), ma_rn ro d 80 (45, [v0, v1, v2], [.int x1], SH, σ) = some (some (.int x1), SH, σ)) ∧
  (∀ (v1 : Option Value) (v2 : Option Value) (a1 : Nat) (st : List Value) (σ : ma_H), ma_rn ro d 80 (46, [some (.ref a1), v1, v2], st, SH, σ) = ma_rn ro d 80 (47, [some (.ref a1), v1, v2], .ref a1 :: st, SH, σ)) ∧
  (∀ (v0 : Option Value) (v1 : Option Value) (v2 : Option Value) (a1 : Nat) (st : List Value) (σ : ma_H) (hc : hk_cls a1 = 7), ma_rn ro d 80 (47, [v0, v1, v2], .ref a1 :: st, SH, σ) = ma_rn ro d 80 (50, [v0, v1, v2], .ref (1) :: st, SH, σ)) ∧
  (∀ (v0 : Option Value) (v1 : Option Value) (v2 : Option Value) (a1 : Nat) (st : List Value) (σ : ma_H) (hc : hk_cls a1 = 5), ma_rn ro d 80 (50, [v0, v1, v2], .ref a1 :: st, SH, σ) = ma_rn ro d 80 (53, [v0, v1, v2], .ref (a1 + 28) :: st, SH, σ)) ∧
  (∀ (v0 : Option Value) (v2 : Option Value) (x1 : Int32) (st : List Value) (σ : ma_H), ma_rn ro d 80 (53, [v0, some (.int x1), v2], st, SH, σ) = ma_rn ro d 80 (54, [v0, some (.int x1), v2], .int x1 :: st, SH, σ)) ∧
  (∀ (v0 : Option Value) (v1 : Option Value) (x1 : Int32) (st : List Value) (σ : ma_H), ma_rn ro d 80 (54, [v0, v1, some (.int x1)], st, SH, σ) = ma_rn ro d 80 (55, [v0, v1, some (.int x1)], .int x1 :: st, SH, σ)) ∧
  (∀ (v0 : Option Value) (v1 : Option Value) (v2 : Option Value) (st : List Value) (σ : ma_H), ma_rn ro d 80 (55, [v0, v1, v2], st, SH, σ) = ma_rn ro d 80 (56, [v0, v1, v2], .int (nI 0) :: st, SH, σ)) ∧
  (∀ (v0 : Option Value) (v1 : Option Value) (v2 : Option Value) (x1 : Int32) (x2 : Int32) (x3 : Int32) (a0 : Nat) (σ : ma_H) (hc : hk_cls a0 = 4), ma_rn ro (d + 1) 80 (56, [v0, v1, v2], .int x3 :: .int x2 :: .int x1 :: .ref a0 :: [], SH, σ) = (ma_ev ro d 39 [.ref a0, .int x1, .int x2, .int x3] SH σ).bind (fun q => ma_rn ro (d + 1) 80 (59, [v0, v1, v2], (q.1.toList ++ []), q.2.1, q.2.2))) ∧
  (∀ (v0 : Option Value) (v1 : Option Value) (v2 : Option Value) (x1 : Int32) (st : List Value) (σ : ma_H), ma_rn ro d 80 (59, [v0, v1, v2], .int x1 :: st, SH, σ) = if x1 = nI 0 then ma_rn ro d 80 (75, [v0, v1, v2], st, SH, σ) else ma_rn ro d 80 (62, [v0, v1, v2], st, SH, σ)) ∧
  (∀ (v1 : Option Value) (v2 : Option Value) (a1 : Nat) (st : List Value) (σ : ma_H), ma_rn ro d 80 (62, [some (.ref a1), v1, v2], st, SH, σ) = ma_rn ro d 80 (63, [some (.ref a1), v1, v2], .ref a1 :: st, SH, σ)) ∧
  (∀ (v0 : Option Value) (v1 : Option Value) (v2 : Option Value) (a1 : Nat) (st : List Value) (σ : ma_H) (hc : hk_cls a1 = 7), ma_rn ro d 80 (63, [v0, v1, v2], .ref a1 :: st, SH, σ) = ma_rn ro d 80 (66, [v0, v1, v2], .ref (1) :: st, SH, σ)) ∧
  (∀ (v0 : Option Value) (v1 : Option Value) (v2 : Option Value) (a1 : Nat) (st : List Value) (σ : ma_H) (hc : hk_cls a1 = 5), ma_rn ro d 80 (66, [v0, v1, v2], .ref a1 :: st, SH, σ) = ma_rn ro d 80 (69, [v0, v1, v2], .ref (a1 + 28) :: st, SH, σ)) ∧
  (∀ (v0 : Option Value) (v1 : Option Value) (v2 : Option Value) (a1 : Nat) (st : List Value) (σ : ma_H) (hc : hk_cls a1 = 4), ma_rn ro d 80 (69, [v0, v1, v2], .ref a1 :: st, SH, σ) = ma_rn ro d 80 (72, [v0, v1, v2], .int (σ a1 3) :: st, SH, σ)) ∧
  (∀ (v0 : Option Value) (v1 : Option Value) (v2 : Option Value) (st : List Value) (σ : ma_H), ma_rn ro d 80 (72, [v0, v1, v2], st, SH, σ) = ma_rn ro d 80 (77, [v0, v1, v2], st, SH, σ)) ∧
  (∀ (v0 : Option Value) (v1 : Option Value) (v2 : Option Value) (st : List Value) (σ : ma_H), ma_rn ro d 80 (75, [v0, v1, v2], st, SH, σ) = ma_rn ro d 80 (77, [v0, v1, v2], .int ((-4)) :: st, SH, σ)) ∧
  (∀ (v0 : Option Value) (v1 : Option Value) (v2 : Option Value) (x1 : Int32) (σ : ma_H), ma_rn ro d 80 (77, [v0, v1, v2], [.int x1], SH, σ) = some (some (.int x1), SH, σ)) := ⟨fun v0 v2 x1 st σ => q_go e80_0 rfl rfl,
  fun v0 v1 v2 st σ => q_iconst e80_1 (by decide),
  fun v0 v1 v2 x1 x2 st σ => (q_cmp e80_2 rfl).trans q_ne,
  fun v1 v2 a1 st σ => q_go e80_5 rfl rfl,
  fun v0 v1 v2 a1 st σ hc => q_getA e80_6 o_80 f_7_12 (by decide) hc,
  fun v0 v1 v2 a1 st σ hc => q_getA e80_9 o_80 f_7_237 (by decide) hc,
  fun v0 v1 v2 st σ => q_iconst e80_12 (by decide),
  fun v0 v1 v2 x1 a2 st σ hc => q_putI e80_13 o_80 f_7_197 (by decide) rfl hc,
  fun v0 v1 v2 st σ => q_iconst e80_16 (by decide),
  fun v0 v1 v2 x1 σ => q_iret e80_17 r_80,
  fun v1 v2 a1 st σ => q_go e80_18 rfl rfl,
  fun v0 v1 v2 a1 st σ hc => q_getA e80_19 o_80 f_7_12 (by decide) hc,
  fun v0 v1 v2 a1 st σ hc => q_getA e80_22 o_80 f_7_93 (by decide) hc,
  fun v0 v2 x1 st σ => q_go e80_25 rfl rfl,
  fun v0 v1 v2 x1 a0 σ hc => q_invV (as := [.int x1]) (rest := []) e80_26 o_80 bn_7_102 c_7_102 m_50 (by decide) rfl rfl (Nat.le_of_ble_eq_true rfl) (Nat.le_of_ble_eq_true rfl) hc,
  fun v0 v1 v2 a1 st σ => q_ifnonnullR e80_29 rfl,
  fun v0 v1 v2 st σ => q_ifnonnullN e80_29 rfl,
  fun v0 v1 v2 st σ => q_iconst e80_32 (by decide),
  fun v0 v1 v2 x1 σ => q_iret e80_33 r_80,
  fun v0 v1 x1 st σ => q_go e80_34 rfl rfl,
  fun v0 v1 v2 st σ => q_bipush e80_35 (by decide),
  fun v0 v1 v2 x1 x2 σ => q_invS (as := [.int x1, .int x2]) (rest := []) e80_37 o_80 bn_7_67 c_7_67 ⟨m_88.1, m_88.2.1, m_88.2.2.1⟩ rfl rfl (Nat.le_of_ble_eq_true rfl) (Nat.le_of_ble_eq_true rfl),
  fun v0 v1 v2 x1 st σ => (q_if e80_40 rfl).trans q_eq,
  fun v0 v1 v2 st σ => q_bipush e80_43 (by decide),
  fun v0 v1 v2 x1 σ => q_iret e80_45 r_80,
  fun v1 v2 a1 st σ => q_go e80_46 rfl rfl,
  fun v0 v1 v2 a1 st σ hc => q_getA e80_47 o_80 f_7_12 (by decide) hc,
  fun v0 v1 v2 a1 st σ hc => q_getA e80_50 o_80 f_7_237 (by decide) hc,
  fun v0 v2 x1 st σ => q_go e80_53 rfl rfl,
  fun v0 v1 x1 st σ => q_go e80_54 rfl rfl,
  fun v0 v1 v2 st σ => q_iconst e80_55 (by decide),
  fun v0 v1 v2 x1 x2 x3 a0 σ hc => q_invV (as := [.int x1, .int x2, .int x3]) (rest := []) e80_56 o_80 bn_7_200 c_7_200 m_39 (by decide) rfl rfl (Nat.le_of_ble_eq_true rfl) (Nat.le_of_ble_eq_true rfl) hc,
  fun v0 v1 v2 x1 st σ => (q_if e80_59 rfl).trans q_eq,
  fun v1 v2 a1 st σ => q_go e80_62 rfl rfl,
  fun v0 v1 v2 a1 st σ hc => q_getA e80_63 o_80 f_7_12 (by decide) hc,
  fun v0 v1 v2 a1 st σ hc => q_getA e80_66 o_80 f_7_237 (by decide) hc,
  fun v0 v1 v2 a1 st σ hc => q_getI e80_69 o_80 f_7_197 (by decide) hc,
  fun v0 v1 v2 st σ => q_goto e80_72 rfl,
  fun v0 v1 v2 st σ => q_bipush e80_75 (by decide),
  fun v0 v1 v2 x1 σ => q_iret e80_77 r_80⟩
theorem E80 {ro : ma_RO} {d : Nat} (a0 : Nat) (x1 : Int32) (x2 : Int32) (sh : List ma_Sh) (σ : ma_H) : ma_ev ro d 80 [.ref a0, .int x1, .int x2] sh σ = ma_rn ro d 80 (0, [some (.ref a0), some (.int x1), some (.int x2)], [], sh, σ) := q_ent x_80 rfl
theorem e81_0 : decode (ma_cd 81) 0 = .ok (.iconst 0, 1) := (congrArg (fun b => decode b 0) cd_81).trans dX7_struck_0
theorem e81_1 : decode (ma_cd 81) 1 = .ok (.istore_n 1, 1) := (congrArg (fun b => decode b 1) cd_81).trans dX7_struck_1
theorem e81_2 : decode (ma_cd 81) 2 = .ok (.iload_n 1, 1) := (congrArg (fun b => decode b 2) cd_81).trans dX7_struck_2
theorem e81_3 : decode (ma_cd 81) 3 = .ok (.aload_n 0, 1) := (congrArg (fun b => decode b 3) cd_81).trans dX7_struck_3
theorem e81_4 : decode (ma_cd 81) 4 = .ok (.getfield 12, 3) := (congrArg (fun b => decode b 4) cd_81).trans dX7_struck_4
theorem e81_7 : decode (ma_cd 81) 7 = .ok (.getfield 237, 3) := (congrArg (fun b => decode b 7) cd_81).trans dX7_struck_7
theorem e81_10 : decode (ma_cd 81) 10 = .ok (.getfield 197, 3) := (congrArg (fun b => decode b 10) cd_81).trans dX7_struck_10
theorem e81_13 : decode (ma_cd 81) 13 = .ok (.if_icmp .ge 55, 3) := (congrArg (fun b => decode b 13) cd_81).trans dX7_struck_13
theorem e81_16 : decode (ma_cd 81) 16 = .ok (.aload_n 0, 1) := (congrArg (fun b => decode b 16) cd_81).trans dX7_struck_16
theorem e81_17 : decode (ma_cd 81) 17 = .ok (.getfield 12, 3) := (congrArg (fun b => decode b 17) cd_81).trans dX7_struck_17
theorem e81_20 : decode (ma_cd 81) 20 = .ok (.getfield 93, 3) := (congrArg (fun b => decode b 20) cd_81).trans dX7_struck_20
theorem e81_23 : decode (ma_cd 81) 23 = .ok (.aload_n 0, 1) := (congrArg (fun b => decode b 23) cd_81).trans dX7_struck_23
theorem e81_24 : decode (ma_cd 81) 24 = .ok (.getfield 12, 3) := (congrArg (fun b => decode b 24) cd_81).trans dX7_struck_24
theorem e81_27 : decode (ma_cd 81) 27 = .ok (.getfield 237, 3) := (congrArg (fun b => decode b 27) cd_81).trans dX7_struck_27
theorem e81_30 : decode (ma_cd 81) 30 = .ok (.iload_n 1, 1) := (congrArg (fun b => decode b 30) cd_81).trans dX7_struck_30
theorem e81_31 : decode (ma_cd 81) 31 = .ok (.invokevirtual 228, 3) := (congrArg (fun b => decode b 31) cd_81).trans dX7_struck_31
theorem e81_34 : decode (ma_cd 81) 34 = .ok (.invokevirtual 102, 3) := (congrArg (fun b => decode b 34) cd_81).trans dX7_struck_34
theorem e81_37 : decode (ma_cd 81) 37 = .ok (.astore_n 2, 1) := (congrArg (fun b => decode b 37) cd_81).trans dX7_struck_37
theorem e81_38 : decode (ma_cd 81) 38 = .ok (.aload_n 2, 1) := (congrArg (fun b => decode b 38) cd_81).trans dX7_struck_38
theorem e81_39 : decode (ma_cd 81) 39 = .ok (.ifnull 21, 3) := (congrArg (fun b => decode b 39) cd_81).trans dX7_struck_39
theorem e81_42 : decode (ma_cd 81) 42 = .ok (.aload_n 2, 1) := (congrArg (fun b => decode b 42) cd_81).trans dX7_struck_42
theorem e81_43 : decode (ma_cd 81) 43 = .ok (.getfield 117, 3) := (congrArg (fun b => decode b 43) cd_81).trans dX7_struck_43
theorem e81_46 : decode (ma_cd 81) 46 = .ok (.aload_n 0, 1) := (congrArg (fun b => decode b 46) cd_81).trans dX7_struck_46
theorem e81_47 : decode (ma_cd 81) 47 = .ok (.getfield 12, 3) := (congrArg (fun b => decode b 47) cd_81).trans dX7_struck_47
theorem e81_50 : decode (ma_cd 81) 50 = .ok (.getfield 237, 3) := (congrArg (fun b => decode b 50) cd_81).trans dX7_struck_50
theorem e81_53 : decode (ma_cd 81) 53 = .ok (.iload_n 1, 1) := (congrArg (fun b => decode b 53) cd_81).trans dX7_struck_53
theorem e81_54 : decode (ma_cd 81) 54 = .ok (.invokevirtual 231, 3) := (congrArg (fun b => decode b 54) cd_81).trans dX7_struck_54
theorem e81_57 : decode (ma_cd 81) 57 = .ok (.if_icmp .eq 5, 3) := (congrArg (fun b => decode b 57) cd_81).trans dX7_struck_57
theorem e81_60 : decode (ma_cd 81) 60 = .ok (.iload_n 1, 1) := (congrArg (fun b => decode b 60) cd_81).trans dX7_struck_60
theorem e81_61 : decode (ma_cd 81) 61 = .ok (.ireturn, 1) := (congrArg (fun b => decode b 61) cd_81).trans dX7_struck_61
theorem e81_62 : decode (ma_cd 81) 62 = .ok (.iinc 1 1, 3) := (congrArg (fun b => decode b 62) cd_81).trans dX7_struck_62
theorem e81_65 : decode (ma_cd 81) 65 = .ok (.goto (-63), 3) := (congrArg (fun b => decode b 65) cd_81).trans dX7_struck_65
theorem e81_68 : decode (ma_cd 81) 68 = .ok (.bipush (-5), 2) := (congrArg (fun b => decode b 68) cd_81).trans dX7_struck_68
theorem e81_70 : decode (ma_cd 81) 70 = .ok (.ireturn, 1) := (congrArg (fun b => decode b 70) cd_81).trans dX7_struck_70
theorem Sh81_2 {ro : ma_RO} {d : Nat} : (∀ (v0 : Option Value) (v2 : Option Value) (x1 : Int32) (st : List Value) (σ : ma_H), ma_rn ro d 81 (2, [v0, some (.int x1), v2], st, SH, σ) = ma_rn ro d 81 (3, [v0, some (.int x1), v2], .int x1 :: st, SH, σ)) := fun v0 v2 x1 st σ => q_go e81_2 rfl rfl
theorem S81 {ro : ma_RO} {d : Nat} : (∀ (v0 : Option Value) (v1 : Option Value) (v2 : Option Value) (st : List Value) (σ : ma_H), ma_rn ro d 81 (0, [v0, v1, v2], st, SH, σ) = ma_rn ro d 81 (1, [v0, v1, v2], .int (nI 0) :: st, SH, σ)) ∧
  (∀ (v1 : Option Value) (v2 : Option Value) (a9 : Nat) (x1 : Int32) (st : List Value) (σ : ma_H), ma_rn ro d 81 (1, [some (.ref a9), v1, v2], .int x1 :: st, SH, σ) = ma_rn ro d 81 (2, [some (.ref a9), some (.int x1), v2], st, SH, σ)) ∧
  (∀ (v1 : Option Value) (v2 : Option Value) (a1 : Nat) (st : List Value) (σ : ma_H), ma_rn ro d 81 (3, [some (.ref a1), v1, v2], st, SH, σ) = ma_rn ro d 81 (4, [some (.ref a1), v1, v2], .ref a1 :: st, SH, σ)) ∧
  (∀ (v0 : Option Value) (v1 : Option Value) (v2 : Option Value) (a1 : Nat) (st : List Value) (σ : ma_H) (hc : hk_cls a1 = 7), ma_rn ro d 81 (4, [v0, v1, v2], .ref a1 :: st, SH, σ) = ma_rn ro d 81 (7, [v0, v1, v2], .ref (1) :: st, SH, σ)) ∧
  (∀ (v0 : Option Value) (v1 : Option Value) (v2 : Option Value) (a1 : Nat) (st : List Value) (σ : ma_H) (hc : hk_cls a1 = 5), ma_rn ro d 81 (7, [v0, v1, v2], .ref a1 :: st, SH, σ) = ma_rn ro d 81 (10, [v0, v1, v2], .ref (a1 + 28) :: st, SH, σ)) ∧
  (∀ (v0 : Option Value) (v1 : Option Value) (v2 : Option Value) (a1 : Nat) (st : List Value) (σ : ma_H) (hc : hk_cls a1 = 4), ma_rn ro d 81 (10, [v0, v1, v2], .ref a1 :: st, SH, σ) = ma_rn ro d 81 (13, [v0, v1, v2], .int (σ a1 3) :: st, SH, σ)) ∧
  (∀ (v0 : Option Value) (v1 : Option Value) (v2 : Option Value) (x1 : Int32) (x2 : Int32) (st : List Value) (σ : ma_H), ma_rn ro d 81 (13, [v0, v1, v2], .int x1 :: .int x2 :: st, SH, σ) = if x2 < x1 then ma_rn ro d 81 (16, [v0, v1, v2], st, SH, σ) else ma_rn ro d 81 (68, [v0, v1, v2], st, SH, σ)) ∧
  (∀ (v1 : Option Value) (v2 : Option Value) (a1 : Nat) (st : List Value) (σ : ma_H), ma_rn ro d 81 (16, [some (.ref a1), v1, v2], st, SH, σ) = ma_rn ro d 81 (17, [some (.ref a1), v1, v2], .ref a1 :: st, SH, σ)) ∧
  (∀ (v0 : Option Value) (v1 : Option Value) (v2 : Option Value) (a1 : Nat) (st : List Value) (σ : ma_H) (hc : hk_cls a1 = 7), ma_rn ro d 81 (17, [v0, v1, v2], .ref a1 :: st, SH, σ) = ma_rn ro d 81 (20, [v0, v1, v2], .ref (1) :: st, SH, σ)) ∧
  (∀ (v0 : Option Value) (v1 : Option Value) (v2 : Option Value) (a1 : Nat) (st : List Value) (σ : ma_H) (hc : hk_cls a1 = 5), ma_rn ro d 81 (20, [v0, v1, v2], .ref a1 :: st, SH, σ) = ma_rn ro d 81 (23, [v0, v1, v2], .ref (a1 + 1) :: st, SH, σ)) ∧
  (∀ (v1 : Option Value) (v2 : Option Value) (a1 : Nat) (st : List Value) (σ : ma_H), ma_rn ro d 81 (23, [some (.ref a1), v1, v2], st, SH, σ) = ma_rn ro d 81 (24, [some (.ref a1), v1, v2], .ref a1 :: st, SH, σ)) ∧
  (∀ (v0 : Option Value) (v1 : Option Value) (v2 : Option Value) (a1 : Nat) (st : List Value) (σ : ma_H) (hc : hk_cls a1 = 7), ma_rn ro d 81 (24, [v0, v1, v2], .ref a1 :: st, SH, σ) = ma_rn ro d 81 (27, [v0, v1, v2], .ref (1) :: st, SH, σ)) ∧
  (∀ (v0 : Option Value) (v1 : Option Value) (v2 : Option Value) (a1 : Nat) (st : List Value) (σ : ma_H) (hc : hk_cls a1 = 5), ma_rn ro d 81 (27, [v0, v1, v2], .ref a1 :: st, SH, σ) = ma_rn ro d 81 (30, [v0, v1, v2], .ref (a1 + 28) :: st, SH, σ)) ∧
  (∀ (v0 : Option Value) (v2 : Option Value) (x1 : Int32) (st : List Value) (σ : ma_H), ma_rn ro d 81 (30, [v0, some (.int x1), v2], st, SH, σ) = ma_rn ro d 81 (31, [v0, some (.int x1), v2], .int x1 :: st, SH, σ)) ∧
  (∀ (v0 : Option Value) (v1 : Option Value) (v2 : Option Value) (a20 : Nat) (x1 : Int32) (a0 : Nat) (σ : ma_H) (hc : hk_cls a0 = 4), ma_rn ro (d + 1) 81 (31, [v0, v1, v2], .int x1 :: .ref a0 :: .ref a20 :: [], SH, σ) = (ma_ev ro d 41 [.ref a0, .int x1] SH σ).bind (fun q => ma_rn ro (d + 1) 81 (34, [v0, v1, v2], (q.1.toList ++ (.ref a20 :: [])), q.2.1, q.2.2))) ∧
  (∀ (v0 : Option Value) (v1 : Option Value) (v2 : Option Value) (x1 : Int32) (a0 : Nat) (σ : ma_H) (hc : hk_cls a0 = 6), ma_rn ro (d + 1) 81 (34, [v0, v1, v2], .int x1 :: .ref a0 :: [], SH, σ) = (ma_ev ro d 50 [.ref a0, .int x1] SH σ).bind (fun q => ma_rn ro (d + 1) 81 (37, [v0, v1, v2], (q.1.toList ++ []), q.2.1, q.2.2))) ∧
  (∀ (v0 : Option Value) (v2 : Option Value) (x9 : Int32) (a1 : Nat) (st : List Value) (σ : ma_H), ma_rn ro d 81 (37, [v0, some (.int x9), v2], .ref a1 :: st, SH, σ) = ma_rn ro d 81 (38, [v0, some (.int x9), some (.ref a1)], st, SH, σ)) ∧
  (∀ (v0 : Option Value) (v2 : Option Value) (x9 : Int32) (st : List Value) (σ : ma_H), ma_rn ro d 81 (37, [v0, some (.int x9), v2], .null :: st, SH, σ) = ma_rn ro d 81 (38, [v0, some (.int x9), some .null], st, SH, σ)) ∧
  (∀ (v0 : Option Value) (v1 : Option Value) (a1 : Nat) (st : List Value) (σ : ma_H), ma_rn ro d 81 (38, [v0, v1, some (.ref a1)], st, SH, σ) = ma_rn ro d 81 (39, [v0, v1, some (.ref a1)], .ref a1 :: st, SH, σ)) ∧
  (∀ (v0 : Option Value) (v1 : Option Value) (st : List Value) (σ : ma_H), ma_rn ro d 81 (38, [v0, v1, some .null], st, SH, σ) = ma_rn ro d 81 (39, [v0, v1, some .null], .null :: st, SH, σ)) ∧
  (∀ (v0 : Option Value) (v1 : Option Value) (v2 : Option Value) (a1 : Nat) (st : List Value) (σ : ma_H), ma_rn ro d 81 (39, [v0, v1, v2], .ref a1 :: st, SH, σ) = ma_rn ro d 81 (42, [v0, v1, v2], st, SH, σ)) ∧
  (∀ (v0 : Option Value) (v1 : Option Value) (v2 : Option Value) (st : List Value) (σ : ma_H), ma_rn ro d 81 (39, [v0, v1, v2], .null :: st, SH, σ) = ma_rn ro d 81 (60, [v0, v1, v2], st, SH, σ)) ∧
  (∀ (v0 : Option Value) (v1 : Option Value) (a1 : Nat) (st : List Value) (σ : ma_H), ma_rn ro d 81 (42, [v0, v1, some (.ref a1)], st, SH, σ) = ma_rn ro d 81 (43, [v0, v1, some (.ref a1)], .ref a1 :: st, SH, σ)) ∧
  (∀ (v0 : Option Value) (v1 : Option Value) (st : List Value) (σ : ma_H), ma_rn ro d 81 (42, [v0, v1, some .null], st, SH, σ) = ma_rn ro d 81 (43, [v0, v1, some .null], .null :: st, SH, σ)) ∧
  (∀ (v0 : Option Value) (v1 : Option Value) (v2 : Option Value) (a1 : Nat) (st : List Value) (σ : ma_H) (hc : hk_cls a1 = 1), ma_rn ro d 81 (43, [v0, v1, v2], .ref a1 :: st, SH, σ) = ma_rn ro d 81 (46, [v0, v1, v2], .int (σ a1 4) :: st, SH, σ)) ∧
  (∀ (v1 : Option Value) (v2 : Option Value) (a1 : Nat) (st : List Value) (σ : ma_H), ma_rn ro d 81 (46, [some (.ref a1), v1, v2], st, SH, σ) = ma_rn ro d 81 (47, [some (.ref a1), v1, v2], .ref a1 :: st, SH, σ)) ∧
  (∀ (v0 : Option Value) (v1 : Option Value) (v2 : Option Value) (a1 : Nat) (st : List Value) (σ : ma_H) (hc : hk_cls a1 = 7), ma_rn ro d 81 (47, [v0, v1, v2], .ref a1 :: st, SH, σ) = ma_rn ro d 81 (50, [v0, v1, v2], .ref (1) :: st, SH, σ)) ∧
  (∀ (v0 : Option Value) (v1 : Option Value) (v2 : Option Value) (a1 : Nat) (st : List Value) (σ : ma_H) (hc : hk_cls a1 = 5), ma_rn ro d 81 (50, [v0, v1, v2], .ref a1 :: st, SH, σ) = ma_rn ro d 81 (53, [v0, v1, v2], .ref (a1 + 28) :: st, SH, σ)) ∧
  (∀ (v0 : Option Value) (v2 : Option Value) (x1 : Int32) (st : List Value) (σ : ma_H), ma_rn ro d 81 (53, [v0, some (.int x1), v2], st, SH, σ) = ma_rn ro d 81 (54, [v0, some (.int x1), v2], .int x1 :: st, SH, σ)) ∧
  (∀ (v0 : Option Value) (v1 : Option Value) (v2 : Option Value) (x20 : Int32) (x1 : Int32) (a0 : Nat) (σ : ma_H) (hc : hk_cls a0 = 4), ma_rn ro (d + 1) 81 (54, [v0, v1, v2], .int x1 :: .ref a0 :: .int x20 :: [], SH, σ) = (ma_ev ro d 42 [.ref a0, .int x1] SH σ).bind (fun q => ma_rn ro (d + 1) 81 (57, [v0, v1, v2], (q.1.toList ++ (.int x20 :: [])), q.2.1, q.2.2))) ∧
  (∀ (v0 : Option Value) (v1 : Option Value) (v2 : Option Value) (x1 : Int32) (x2 : Int32) (st : List Value) (σ : ma_H), ma_rn ro d 81 (57, [v0, v1, v2], .int x1 :: .int x2 :: st, SH, σ) = if x2 = x1 then ma_rn ro d 81 (62, [v0, v1, v2], st, SH, σ) else ma_rn ro d 81 (60, [v0, v1, v2], st, SH, σ)) ∧
  (∀ (v0 : Option Value) (v2 : Option Value) (x1 : Int32) (st : List Value) (σ : ma_H), ma_rn ro d 81 (60, [v0, some (.int x1), v2], st, SH, σ) = ma_rn ro d 81 (61, [v0, some (.int x1), v2], .int x1 :: st, SH, σ)) ∧
  (∀ (v0 : Option Value) (v1 : Option Value) (v2 : Option Value) (x1 : Int32) (σ : ma_H), ma_rn ro d 81 (61, [v0, v1, v2], [.int x1], SH, σ) = some (some (.int x1), SH, σ)) ∧
  (∀ (v2 : Option Value) (x1 : Int32) (a9 : Nat) (st : List Value) (σ : ma_H), ma_rn ro d 81 (62, [some (.ref a9), some (.int x1), v2], st, SH, σ) = ma_rn ro d 81 (65, [some (.ref a9), some (.int (x1 + nI 1)), v2], st, SH, σ)) ∧
  (∀ (v0 : Option Value) (v1 : Option Value) (v2 : Option Value) (st : List Value) (σ : ma_H), ma_rn ro d 81 (65, [v0, v1, v2], st, SH, σ) = ma_rn ro d 81 (2, [v0, v1, v2], st, SH, σ)) ∧
  (∀ (v0 : Option Value) (v1 : Option Value) (v2 : Option Value) (st : List Value) (σ : ma_H), ma_rn ro d 81 (68, [v0, v1, v2], st, SH, σ) = ma_rn ro d 81 (70, [v0, v1, v2], .int ((-5)) :: st, SH, σ)) ∧
  (∀ (v0 : Option Value) (v1 : Option Value) (v2 : Option Value) (x1 : Int32) (σ : ma_H), ma_rn ro d 81 (70, [v0, v1, v2], [.int x1], SH, σ) = some (some (.int x1), SH, σ)) := ⟨fun v0 v1 v2 st σ => q_iconst e81_0 (by decide),
  fun v1 v2 a9 x1 st σ => q_go e81_1 rfl rfl,
  fun v1 v2 a1 st σ => q_go e81_3 rfl rfl,
  fun v0 v1 v2 a1 st σ hc => q_getA e81_4 o_81 f_7_12 (by decide) hc,
  fun v0 v1 v2 a1 st σ hc => q_getA e81_7 o_81 f_7_237 (by decide) hc,
  fun v0 v1 v2 a1 st σ hc => q_getI e81_10 o_81 f_7_197 (by decide) hc,
  fun v0 v1 v2 x1 x2 st σ => (q_cmp e81_13 rfl).trans q_nlt,
  fun v1 v2 a1 st σ => q_go e81_16 rfl rfl,
  fun v0 v1 v2 a1 st σ hc => q_getA e81_17 o_81 f_7_12 (by decide) hc,
  fun v0 v1 v2 a1 st σ hc => q_getA e81_20 o_81 f_7_93 (by decide) hc,
  fun v1 v2 a1 st σ => q_go e81_23 rfl rfl,
  fun v0 v1 v2 a1 st σ hc => q_getA e81_24 o_81 f_7_12 (by decide) hc,
  fun v0 v1 v2 a1 st σ hc => q_getA e81_27 o_81 f_7_237 (by decide) hc,
  fun v0 v2 x1 st σ => q_go e81_30 rfl rfl,
  fun v0 v1 v2 a20 x1 a0 σ hc => q_invV (as := [.int x1]) (rest := .ref a20 :: []) e81_31 o_81 bn_7_228 c_7_228 m_41 (by decide) rfl rfl (Nat.le_of_ble_eq_true rfl) (Nat.le_of_ble_eq_true rfl) hc,
  fun v0 v1 v2 x1 a0 σ hc => q_invV (as := [.int x1]) (rest := []) e81_34 o_81 bn_7_102 c_7_102 m_50 (by decide) rfl rfl (Nat.le_of_ble_eq_true rfl) (Nat.le_of_ble_eq_true rfl) hc,
  fun v0 v2 x9 a1 st σ => q_go e81_37 rfl rfl,
  fun v0 v2 x9 st σ => q_go e81_37 rfl rfl,
  fun v0 v1 a1 st σ => q_go e81_38 rfl rfl,
  fun v0 v1 st σ => q_go e81_38 rfl rfl,
  fun v0 v1 v2 a1 st σ => q_ifnullR e81_39 rfl,
  fun v0 v1 v2 st σ => q_ifnullN e81_39 rfl,
  fun v0 v1 a1 st σ => q_go e81_42 rfl rfl,
  fun v0 v1 st σ => q_go e81_42 rfl rfl,
  fun v0 v1 v2 a1 st σ hc => q_getI e81_43 o_81 f_7_117 (by decide) hc,
  fun v1 v2 a1 st σ => q_go e81_46 rfl rfl,
  fun v0 v1 v2 a1 st σ hc => q_getA e81_47 o_81 f_7_12 (by decide) hc,
  fun v0 v1 v2 a1 st σ hc => q_getA e81_50 o_81 f_7_237 (by decide) hc,
  fun v0 v2 x1 st σ => q_go e81_53 rfl rfl,
  fun v0 v1 v2 x20 x1 a0 σ hc => q_invV (as := [.int x1]) (rest := .int x20 :: []) e81_54 o_81 bn_7_231 c_7_231 m_42 (by decide) rfl rfl (Nat.le_of_ble_eq_true rfl) (Nat.le_of_ble_eq_true rfl) hc,
  fun v0 v1 v2 x1 x2 st σ => (q_cmp e81_57 rfl).trans q_eq,
  fun v0 v2 x1 st σ => q_go e81_60 rfl rfl,
  fun v0 v1 v2 x1 σ => q_iret e81_61 r_81,
  fun v2 x1 a9 st σ => q_iinc e81_62 rfl rfl (by decide),
  fun v0 v1 v2 st σ => q_goto e81_65 rfl,
  fun v0 v1 v2 st σ => q_bipush e81_68 (by decide),
  fun v0 v1 v2 x1 σ => q_iret e81_70 r_81⟩
theorem E81 {ro : ma_RO} {d : Nat} (a0 : Nat) (sh : List ma_Sh) (σ : ma_H) : ma_ev ro d 81 [.ref a0] sh σ = ma_rn ro d 81 (0, [some (.ref a0), none, none], [], sh, σ) := q_ent x_81 rfl
theorem e82_0 : decode (ma_cd 82) 0 = .ok (.aload_n 0, 1) := (congrArg (fun b => decode b 0) cd_82).trans dX7_act_0
theorem e82_1 : decode (ma_cd 82) 1 = .ok (.getfield 56, 3) := (congrArg (fun b => decode b 1) cd_82).trans dX7_act_1
theorem e82_4 : decode (ma_cd 82) 4 = .ok (.iconst 0, 1) := (congrArg (fun b => decode b 4) cd_82).trans dX7_act_4
theorem e82_5 : decode (ma_cd 82) 5 = .ok (.putfield 240, 3) := (congrArg (fun b => decode b 5) cd_82).trans dX7_act_5
theorem e82_8 : decode (ma_cd 82) 8 = .ok (.aload_n 0, 1) := (congrArg (fun b => decode b 8) cd_82).trans dX7_act_8
theorem e82_9 : decode (ma_cd 82) 9 = .ok (.getfield 12, 3) := (congrArg (fun b => decode b 9) cd_82).trans dX7_act_9
theorem e82_12 : decode (ma_cd 82) 12 = .ok (.getfield 93, 3) := (congrArg (fun b => decode b 12) cd_82).trans dX7_act_12
theorem e82_15 : decode (ma_cd 82) 15 = .ok (.iload_n 1, 1) := (congrArg (fun b => decode b 15) cd_82).trans dX7_act_15
theorem e82_16 : decode (ma_cd 82) 16 = .ok (.invokevirtual 102, 3) := (congrArg (fun b => decode b 16) cd_82).trans dX7_act_16
theorem e82_19 : decode (ma_cd 82) 19 = .ok (.astore 4, 2) := (congrArg (fun b => decode b 19) cd_82).trans dX7_act_19
theorem e82_21 : decode (ma_cd 82) 21 = .ok (.aload 4, 2) := (congrArg (fun b => decode b 21) cd_82).trans dX7_act_21
theorem e82_23 : decode (ma_cd 82) 23 = .ok (.ifnonnull 5, 3) := (congrArg (fun b => decode b 23) cd_82).trans dX7_act_23
theorem e82_26 : decode (ma_cd 82) 26 = .ok (.iconst 0, 1) := (congrArg (fun b => decode b 26) cd_82).trans dX7_act_26
theorem e82_27 : decode (ma_cd 82) 27 = .ok (.ireturn, 1) := (congrArg (fun b => decode b 27) cd_82).trans dX7_act_27
theorem e82_28 : decode (ma_cd 82) 28 = .ok (.iload_n 2, 1) := (congrArg (fun b => decode b 28) cd_82).trans dX7_act_28
theorem e82_29 : decode (ma_cd 82) 29 = .ok (.tableswitch 78 0 2 #[27, 44, 61], 27) := (congrArg (fun b => decode b 29) cd_82).trans dX7_act_29
theorem e82_56 : decode (ma_cd 82) 56 = .ok (.aload_n 0, 1) := (congrArg (fun b => decode b 56) cd_82).trans dX7_act_56
theorem e82_57 : decode (ma_cd 82) 57 = .ok (.getfield 56, 3) := (congrArg (fun b => decode b 57) cd_82).trans dX7_act_57
theorem e82_60 : decode (ma_cd 82) 60 = .ok (.aload 4, 2) := (congrArg (fun b => decode b 60) cd_82).trans dX7_act_60
theorem e82_62 : decode (ma_cd 82) 62 = .ok (.aload 4, 2) := (congrArg (fun b => decode b 62) cd_82).trans dX7_act_62
theorem e82_64 : decode (ma_cd 82) 64 = .ok (.getfield 107, 3) := (congrArg (fun b => decode b 64) cd_82).trans dX7_act_64
theorem e82_67 : decode (ma_cd 82) 67 = .ok (.iload_n 3, 1) := (congrArg (fun b => decode b 67) cd_82).trans dX7_act_67
theorem e82_68 : decode (ma_cd 82) 68 = .ok (.iconst 0, 1) := (congrArg (fun b => decode b 68) cd_82).trans dX7_act_68
theorem e82_69 : decode (ma_cd 82) 69 = .ok (.invokevirtual 243, 3) := (congrArg (fun b => decode b 69) cd_82).trans dX7_act_69
theorem e82_72 : decode (ma_cd 82) 72 = .ok (.ireturn, 1) := (congrArg (fun b => decode b 72) cd_82).trans dX7_act_72
theorem e82_73 : decode (ma_cd 82) 73 = .ok (.aload_n 0, 1) := (congrArg (fun b => decode b 73) cd_82).trans dX7_act_73
theorem e82_74 : decode (ma_cd 82) 74 = .ok (.getfield 56, 3) := (congrArg (fun b => decode b 74) cd_82).trans dX7_act_74
theorem e82_77 : decode (ma_cd 82) 77 = .ok (.aload 4, 2) := (congrArg (fun b => decode b 77) cd_82).trans dX7_act_77
theorem e82_79 : decode (ma_cd 82) 79 = .ok (.aload 4, 2) := (congrArg (fun b => decode b 79) cd_82).trans dX7_act_79
theorem e82_81 : decode (ma_cd 82) 81 = .ok (.getfield 107, 3) := (congrArg (fun b => decode b 81) cd_82).trans dX7_act_81
theorem e82_84 : decode (ma_cd 82) 84 = .ok (.iload_n 3, 1) := (congrArg (fun b => decode b 84) cd_82).trans dX7_act_84
theorem e82_85 : decode (ma_cd 82) 85 = .ok (.iconst 0, 1) := (congrArg (fun b => decode b 85) cd_82).trans dX7_act_85
theorem e82_86 : decode (ma_cd 82) 86 = .ok (.invokevirtual 247, 3) := (congrArg (fun b => decode b 86) cd_82).trans dX7_act_86
theorem e82_89 : decode (ma_cd 82) 89 = .ok (.ireturn, 1) := (congrArg (fun b => decode b 89) cd_82).trans dX7_act_89
theorem e82_90 : decode (ma_cd 82) 90 = .ok (.aload_n 0, 1) := (congrArg (fun b => decode b 90) cd_82).trans dX7_act_90
theorem e82_91 : decode (ma_cd 82) 91 = .ok (.getfield 56, 3) := (congrArg (fun b => decode b 91) cd_82).trans dX7_act_91
theorem e82_94 : decode (ma_cd 82) 94 = .ok (.aload 4, 2) := (congrArg (fun b => decode b 94) cd_82).trans dX7_act_94
theorem e82_96 : decode (ma_cd 82) 96 = .ok (.aload 4, 2) := (congrArg (fun b => decode b 96) cd_82).trans dX7_act_96
theorem e82_98 : decode (ma_cd 82) 98 = .ok (.getfield 107, 3) := (congrArg (fun b => decode b 98) cd_82).trans dX7_act_98
theorem e82_101 : decode (ma_cd 82) 101 = .ok (.iload_n 3, 1) := (congrArg (fun b => decode b 101) cd_82).trans dX7_act_101
theorem e82_102 : decode (ma_cd 82) 102 = .ok (.iconst 0, 1) := (congrArg (fun b => decode b 102) cd_82).trans dX7_act_102
theorem e82_103 : decode (ma_cd 82) 103 = .ok (.invokevirtual 250, 3) := (congrArg (fun b => decode b 103) cd_82).trans dX7_act_103
theorem e82_106 : decode (ma_cd 82) 106 = .ok (.ireturn, 1) := (congrArg (fun b => decode b 106) cd_82).trans dX7_act_106
theorem e82_107 : decode (ma_cd 82) 107 = .ok (.iconst 0, 1) := (congrArg (fun b => decode b 107) cd_82).trans dX7_act_107
theorem e82_108 : decode (ma_cd 82) 108 = .ok (.ireturn, 1) := (congrArg (fun b => decode b 108) cd_82).trans dX7_act_108
theorem S82 {ro : ma_RO} {d : Nat} : (∀ (v1 : Option Value) (v2 : Option Value) (v3 : Option Value) (v4 : Option Value) (a1 : Nat) (st : List Value) (σ : ma_H), ma_rn ro d 82 (0, [some (.ref a1), v1, v2, v3, v4], st, SH, σ) = ma_rn ro d 82 (1, [some (.ref a1), v1, v2, v3, v4], .ref a1 :: st, SH, σ)) ∧
  (∀ (v0 : Option Value) (v1 : Option Value) (v2 : Option Value) (v3 : Option Value) (v4 : Option Value) (a1 : Nat) (st : List Value) (σ : ma_H) (hc : hk_cls a1 = 7), ma_rn ro d 82 (1, [v0, v1, v2, v3, v4], .ref a1 :: st, SH, σ) = ma_rn ro d 82 (4, [v0, v1, v2, v3, v4], .ref (86) :: st, SH, σ)) ∧
  (∀ (v0 : Option Value) (v1 : Option Value) (v2 : Option Value) (v3 : Option Value) (v4 : Option Value) (st : List Value) (σ : ma_H), ma_rn ro d 82 (4, [v0, v1, v2, v3, v4], st, SH, σ) = ma_rn ro d 82 (5, [v0, v1, v2, v3, v4], .int (nI 0) :: st, SH, σ)) ∧
  (∀ (v0 : Option Value) (v1 : Option Value) (v2 : Option Value) (v3 : Option Value) (v4 : Option Value) (x1 : Int32) (a2 : Nat) (st : List Value) (σ : ma_H) (hc : hk_cls a2 = 0), ma_rn ro d 82 (5, [v0, v1, v2, v3, v4], .int x1 :: .ref a2 :: st, SH, σ) = ma_rn ro d 82 (8, [v0, v1, v2, v3, v4], st, SH, (ma_up σ a2 1 x1))) ∧
  (∀ (v1 : Option Value) (v2 : Option Value) (v3 : Option Value) (v4 : Option Value) (a1 : Nat) (st : List Value) (σ : ma_H), ma_rn ro d 82 (8, [some (.ref a1), v1, v2, v3, v4], st, SH, σ) = ma_rn ro d 82 (9, [some (.ref a1), v1, v2, v3, v4], .ref a1 :: st, SH, σ)) ∧
  (∀ (v0 : Option Value) (v1 : Option Value) (v2 : Option Value) (v3 : Option Value) (v4 : Option Value) (a1 : Nat) (st : List Value) (σ : ma_H) (hc : hk_cls a1 = 7), ma_rn ro d 82 (9, [v0, v1, v2, v3, v4], .ref a1 :: st, SH, σ) = ma_rn ro d 82 (12, [v0, v1, v2, v3, v4], .ref (1) :: st, SH, σ)) ∧
  (∀ (v0 : Option Value) (v1 : Option Value) (v2 : Option Value) (v3 : Option Value) (v4 : Option Value) (a1 : Nat) (st : List Value) (σ : ma_H) (hc : hk_cls a1 = 5), ma_rn ro d 82 (12, [v0, v1, v2, v3, v4], .ref a1 :: st, SH, σ) = ma_rn ro d 82 (15, [v0, v1, v2, v3, v4], .ref (a1 + 1) :: st, SH, σ)) ∧
  (∀ (v0 : Option Value) (v2 : Option Value) (v3 : Option Value) (v4 : Option Value) (x1 : Int32) (st : List Value) (σ : ma_H), ma_rn ro d 82 (15, [v0, some (.int x1), v2, v3, v4], st, SH, σ) = ma_rn ro d 82 (16, [v0, some (.int x1), v2, v3, v4], .int x1 :: st, SH, σ)) ∧
  (∀ (v0 : Option Value) (v1 : Option Value) (v2 : Option Value) (v3 : Option Value) (v4 : Option Value) (x1 : Int32) (a0 : Nat) (σ : ma_H) (hc : hk_cls a0 = 6), ma_rn ro (d + 1) 82 (16, [v0, v1, v2, v3, v4], .int x1 :: .ref a0 :: [], SH, σ) = (ma_ev ro d 50 [.ref a0, .int x1] SH σ).bind (fun q => ma_rn ro (d + 1) 82 (19, [v0, v1, v2, v3, v4], (q.1.toList ++ []), q.2.1, q.2.2))) ∧
  (∀ (v0 : Option Value) (v1 : Option Value) (v2 : Option Value) (v4 : Option Value) (x9 : Int32) (a1 : Nat) (st : List Value) (σ : ma_H), ma_rn ro d 82 (19, [v0, v1, v2, some (.int x9), v4], .ref a1 :: st, SH, σ) = ma_rn ro d 82 (21, [v0, v1, v2, some (.int x9), some (.ref a1)], st, SH, σ)) ∧
  (∀ (v0 : Option Value) (v1 : Option Value) (v2 : Option Value) (v4 : Option Value) (x9 : Int32) (st : List Value) (σ : ma_H), ma_rn ro d 82 (19, [v0, v1, v2, some (.int x9), v4], .null :: st, SH, σ) = ma_rn ro d 82 (21, [v0, v1, v2, some (.int x9), some .null], st, SH, σ)) ∧
  (∀ (v0 : Option Value) (v1 : Option Value) (v2 : Option Value) (v3 : Option Value) (a1 : Nat) (st : List Value) (σ : ma_H), ma_rn ro d 82 (21, [v0, v1, v2, v3, some (.ref a1)], st, SH, σ) = ma_rn ro d 82 (23, [v0, v1, v2, v3, some (.ref a1)], .ref a1 :: st, SH, σ)) ∧
  (∀ (v0 : Option Value) (v1 : Option Value) (v2 : Option Value) (v3 : Option Value) (st : List Value) (σ : ma_H), ma_rn ro d 82 (21, [v0, v1, v2, v3, some .null], st, SH, σ) = ma_rn ro d 82 (23, [v0, v1, v2, v3, some .null], .null :: st, SH, σ)) ∧
  (∀ (v0 : Option Value) (v1 : Option Value) (v2 : Option Value) (v3 : Option Value) (v4 : Option Value) (a1 : Nat) (st : List Value) (σ : ma_H), ma_rn ro d 82 (23, [v0, v1, v2, v3, v4], .ref a1 :: st, SH, σ) = ma_rn ro d 82 (28, [v0, v1, v2, v3, v4], st, SH, σ)) ∧
  (∀ (v0 : Option Value) (v1 : Option Value) (v2 : Option Value) (v3 : Option Value) (v4 : Option Value) (st : List Value) (σ : ma_H), ma_rn ro d 82 (23, [v0, v1, v2, v3, v4], .null :: st, SH, σ) = ma_rn ro d 82 (26, [v0, v1, v2, v3, v4], st, SH, σ)) ∧
  (∀ (v0 : Option Value) (v1 : Option Value) (v2 : Option Value) (v3 : Option Value) (v4 : Option Value) (st : List Value) (σ : ma_H), ma_rn ro d 82 (26, [v0, v1, v2, v3, v4], st, SH, σ) = ma_rn ro d 82 (27, [v0, v1, v2, v3, v4], .int (nI 0) :: st, SH, σ)) ∧
  (∀ (v0 : Option Value) (v1 : Option Value) (v2 : Option Value) (v3 : Option Value) (v4 : Option Value) (x1 : Int32) (σ : ma_H), ma_rn ro d 82 (27, [v0, v1, v2, v3, v4], [.int x1], SH, σ) = some (some (.int x1), SH, σ)) ∧
  (∀ (v0 : Option Value) (v1 : Option Value) (v3 : Option Value) (v4 : Option Value) (x1 : Int32) (st : List Value) (σ : ma_H), ma_rn ro d 82 (28, [v0, v1, some (.int x1), v3, v4], st, SH, σ) = ma_rn ro d 82 (29, [v0, v1, some (.int x1), v3, v4], .int x1 :: st, SH, σ)) ∧
  (∀ (v0 : Option Value) (v1 : Option Value) (v2 : Option Value) (v3 : Option Value) (v4 : Option Value) (x1 : Int32) (st : List Value) (σ : ma_H), ma_rn ro d 82 (29, [v0, v1, v2, v3, v4], .int x1 :: st, SH, σ) = if x1 = nI 0 then ma_rn ro d 82 (56, [v0, v1, v2, v3, v4], st, SH, σ) else if x1 = nI 1 then ma_rn ro d 82 (73, [v0, v1, v2, v3, v4], st, SH, σ) else if x1 = nI 2 then ma_rn ro d 82 (90, [v0, v1, v2, v3, v4], st, SH, σ) else ma_rn ro d 82 (107, [v0, v1, v2, v3, v4], st, SH, σ)) ∧
  (∀ (v1 : Option Value) (v2 : Option Value) (v3 : Option Value) (v4 : Option Value) (a1 : Nat) (st : List Value) (σ : ma_H), ma_rn ro d 82 (56, [some (.ref a1), v1, v2, v3, v4], st, SH, σ) = ma_rn ro d 82 (57, [some (.ref a1), v1, v2, v3, v4], .ref a1 :: st, SH, σ)) ∧
  (∀ (v0 : Option Value) (v1 : Option Value) (v2 : Option Value) (v3 : Option Value) (v4 : Option Value) (a1 : Nat) (st : List Value) (σ : ma_H) (hc : hk_cls a1 = 7), ma_rn ro d 82 (57, [v0, v1, v2, v3, v4], .ref a1 :: st, SH, σ) = ma_rn ro d 82 (60, [v0, v1, v2, v3, v4], .ref (86) :: st, SH, σ)) ∧
  (∀ (v0 : Option Value) (v1 : Option Value) (v2 : Option Value) (v3 : Option Value) (a1 : Nat) (st : List Value) (σ : ma_H), ma_rn ro d 82 (60, [v0, v1, v2, v3, some (.ref a1)], st, SH, σ) = ma_rn ro d 82 (62, [v0, v1, v2, v3, some (.ref a1)], .ref a1 :: st, SH, σ)) ∧
  (∀ (v0 : Option Value) (v1 : Option Value) (v2 : Option Value) (v3 : Option Value) (st : List Value) (σ : ma_H), ma_rn ro d 82 (60, [v0, v1, v2, v3, some .null], st, SH, σ) = ma_rn ro d 82 (62, [v0, v1, v2, v3, some .null], .null :: st, SH, σ)) ∧
  (∀ (v0 : Option Value) (v1 : Option Value) (v2 : Option Value) (v3 : Option Value) (a1 : Nat) (st : List Value) (σ : ma_H), ma_rn ro d 82 (62, [v0, v1, v2, v3, some (.ref a1)], st, SH, σ) = ma_rn ro d 82 (64, [v0, v1, v2, v3, some (.ref a1)], .ref a1 :: st, SH, σ)) ∧
  (∀ (v0 : Option Value) (v1 : Option Value) (v2 : Option Value) (v3 : Option Value) (st : List Value) (σ : ma_H), ma_rn ro d 82 (62, [v0, v1, v2, v3, some .null], st, SH, σ) = ma_rn ro d 82 (64, [v0, v1, v2, v3, some .null], .null :: st, SH, σ)) ∧
  (∀ (v0 : Option Value) (v1 : Option Value) (v2 : Option Value) (v3 : Option Value) (v4 : Option Value) (a1 : Nat) (st : List Value) (σ : ma_H) (hc : hk_cls a1 = 1), ma_rn ro d 82 (64, [v0, v1, v2, v3, v4], .ref a1 :: st, SH, σ) = ma_rn ro d 82 (67, [v0, v1, v2, v3, v4], .int (σ a1 1) :: st, SH, σ)) ∧
  (∀ (v0 : Option Value) (v1 : Option Value) (v2 : Option Value) (v4 : Option Value) (x1 : Int32) (st : List Value) (σ : ma_H), ma_rn ro d 82 (67, [v0, v1, v2, some (.int x1), v4], st, SH, σ) = ma_rn ro d 82 (68, [v0, v1, v2, some (.int x1), v4], .int x1 :: st, SH, σ)) ∧
  (∀ (v0 : Option Value) (v1 : Option Value) (v2 : Option Value) (v3 : Option Value) (v4 : Option Value) (st : List Value) (σ : ma_H), ma_rn ro d 82 (68, [v0, v1, v2, v3, v4], st, SH, σ) = ma_rn ro d 82 (69, [v0, v1, v2, v3, v4], .int (nI 0) :: st, SH, σ)) ∧
  (∀ (v0 : Option Value) (v1 : Option Value) (v2 : Option Value) (v3 : Option Value) (v4 : Option Value) (a1 : Nat) (x2 : Int32) (x3 : Int32) (x4 : Int32) (a0 : Nat) (σ : ma_H) (hc : hk_cls a0 = 0), ma_rn ro (d + 1) 82 (69, [v0, v1, v2, v3, v4], .int x4 :: .int x3 :: .int x2 :: .ref a1 :: .ref a0 :: [], SH, σ) = (ma_ev ro d 3 [.ref a0, .ref a1, .int x2, .int x3, .int x4] SH σ).bind (fun q => ma_rn ro (d + 1) 82 (72, [v0, v1, v2, v3, v4], (q.1.toList ++ []), q.2.1, q.2.2))) ∧
  (∀ (v0 : Option Value) (v1 : Option Value) (v2 : Option Value) (v3 : Option Value) (v4 : Option Value) (x1 : Int32) (σ : ma_H), ma_rn ro d 82 (72, [v0, v1, v2, v3, v4], [.int x1], SH, σ) = some (some (.int x1), SH, σ)) ∧
  (∀ (v1 : Option Value) (v2 : Option Value) (v3 : Option Value) (v4 : Option Value) (a1 : Nat) (st : List Value) (σ : ma_H), ma_rn ro d 82 (73, [some (.ref a1), v1, v2, v3, v4], st, SH, σ) = ma_rn ro d 82 (74, [some (.ref a1), v1, v2, v3, v4], .ref a1 :: st, SH, σ)) ∧
  (∀ (v0 : Option Value) (v1 : Option Value) (v2 : Option Value) (v3 : Option Value) (v4 : Option Value) (a1 : Nat) (st : List Value) (σ : ma_H) (hc : hk_cls a1 = 7), ma_rn ro d 82 (74, [v0, v1, v2, v3, v4], .ref a1 :: st, SH, σ) = ma_rn ro d 82 (77, [v0, v1, v2, v3, v4], .ref (86) :: st, SH, σ)) ∧
  (∀ (v0 : Option Value) (v1 : Option Value) (v2 : Option Value) (v3 : Option Value) (a1 : Nat) (st : List Value) (σ : ma_H), ma_rn ro d 82 (77, [v0, v1, v2, v3, some (.ref a1)], st, SH, σ) = ma_rn ro d 82 (79, [v0, v1, v2, v3, some (.ref a1)], .ref a1 :: st, SH, σ)) ∧
  (∀ (v0 : Option Value) (v1 : Option Value) (v2 : Option Value) (v3 : Option Value) (st : List Value) (σ : ma_H), ma_rn ro d 82 (77, [v0, v1, v2, v3, some .null], st, SH, σ) = ma_rn ro d 82 (79, [v0, v1, v2, v3, some .null], .null :: st, SH, σ)) ∧
  (∀ (v0 : Option Value) (v1 : Option Value) (v2 : Option Value) (v3 : Option Value) (a1 : Nat) (st : List Value) (σ : ma_H), ma_rn ro d 82 (79, [v0, v1, v2, v3, some (.ref a1)], st, SH, σ) = ma_rn ro d 82 (81, [v0, v1, v2, v3, some (.ref a1)], .ref a1 :: st, SH, σ)) ∧
  (∀ (v0 : Option Value) (v1 : Option Value) (v2 : Option Value) (v3 : Option Value) (st : List Value) (σ : ma_H), ma_rn ro d 82 (79, [v0, v1, v2, v3, some .null], st, SH, σ) = ma_rn ro d 82 (81, [v0, v1, v2, v3, some .null], .null :: st, SH, σ)) ∧
  (∀ (v0 : Option Value) (v1 : Option Value) (v2 : Option Value) (v3 : Option Value) (v4 : Option Value) (a1 : Nat) (st : List Value) (σ : ma_H) (hc : hk_cls a1 = 1), ma_rn ro d 82 (81, [v0, v1, v2, v3, v4], .ref a1 :: st, SH, σ) = ma_rn ro d 82 (84, [v0, v1, v2, v3, v4], .int (σ a1 1) :: st, SH, σ)) ∧
  (∀ (v0 : Option Value) (v1 : Option Value) (v2 : Option Value) (v4 : Option Value) (x1 : Int32) (st : List Value) (σ : ma_H), ma_rn ro d 82 (84, [v0, v1, v2, some (.int x1), v4], st, SH, σ) = ma_rn ro d 82 (85, [v0, v1, v2, some (.int x1), v4], .int x1 :: st, SH, σ)) ∧
  (∀ (v0 : Option Value) (v1 : Option Value) (v2 : Option Value) (v3 : Option Value) (v4 : Option Value) (st : List Value) (σ : ma_H), ma_rn ro d 82 (85, [v0, v1, v2, v3, v4], st, SH, σ) = ma_rn ro d 82 (86, [v0, v1, v2, v3, v4], .int (nI 0) :: st, SH, σ)) ∧
  (∀ (v0 : Option Value) (v1 : Option Value) (v2 : Option Value) (v3 : Option Value) (v4 : Option Value) (a1 : Nat) (x2 : Int32) (x3 : Int32) (x4 : Int32) (a0 : Nat) (σ : ma_H) (hc : hk_cls a0 = 0), ma_rn ro (d + 1) 82 (86, [v0, v1, v2, v3, v4], .int x4 :: .int x3 :: .int x2 :: .ref a1 :: .ref a0 :: [], SH, σ) = (ma_ev ro d 4 [.ref a0, .ref a1, .int x2, .int x3, .int x4] SH σ).bind (fun q => ma_rn ro (d + 1) 82 (89, [v0, v1, v2, v3, v4], (q.1.toList ++ []), q.2.1, q.2.2))) ∧
  (∀ (v0 : Option Value) (v1 : Option Value) (v2 : Option Value) (v3 : Option Value) (v4 : Option Value) (x1 : Int32) (σ : ma_H), ma_rn ro d 82 (89, [v0, v1, v2, v3, v4], [.int x1], SH, σ) = some (some (.int x1), SH, σ)) ∧
  (∀ (v1 : Option Value) (v2 : Option Value) (v3 : Option Value) (v4 : Option Value) (a1 : Nat) (st : List Value) (σ : ma_H), ma_rn ro d 82 (90, [some (.ref a1), v1, v2, v3, v4], st, SH, σ) = ma_rn ro d 82 (91, [some (.ref a1), v1, v2, v3, v4], .ref a1 :: st, SH, σ)) ∧
  (∀ (v0 : Option Value) (v1 : Option Value) (v2 : Option Value) (v3 : Option Value) (v4 : Option Value) (a1 : Nat) (st : List Value) (σ : ma_H) (hc : hk_cls a1 = 7), ma_rn ro d 82 (91, [v0, v1, v2, v3, v4], .ref a1 :: st, SH, σ) = ma_rn ro d 82 (94, [v0, v1, v2, v3, v4], .ref (86) :: st, SH, σ)) ∧
  (∀ (v0 : Option Value) (v1 : Option Value) (v2 : Option Value) (v3 : Option Value) (a1 : Nat) (st : List Value) (σ : ma_H), ma_rn ro d 82 (94, [v0, v1, v2, v3, some (.ref a1)], st, SH, σ) = ma_rn ro d 82 (96, [v0, v1, v2, v3, some (.ref a1)], .ref a1 :: st, SH, σ)) ∧
  (∀ (v0 : Option Value) (v1 : Option Value) (v2 : Option Value) (v3 : Option Value) (st : List Value) (σ : ma_H), ma_rn ro d 82 (94, [v0, v1, v2, v3, some .null], st, SH, σ) = ma_rn ro d 82 (96, [v0, v1, v2, v3, some .null], .null :: st, SH, σ)) ∧
  (∀ (v0 : Option Value) (v1 : Option Value) (v2 : Option Value) (v3 : Option Value) (a1 : Nat) (st : List Value) (σ : ma_H), ma_rn ro d 82 (96, [v0, v1, v2, v3, some (.ref a1)], st, SH, σ) = ma_rn ro d 82 (98, [v0, v1, v2, v3, some (.ref a1)], .ref a1 :: st, SH, σ)) ∧
  (∀ (v0 : Option Value) (v1 : Option Value) (v2 : Option Value) (v3 : Option Value) (st : List Value) (σ : ma_H), ma_rn ro d 82 (96, [v0, v1, v2, v3, some .null], st, SH, σ) = ma_rn ro d 82 (98, [v0, v1, v2, v3, some .null], .null :: st, SH, σ)) ∧
  (∀ (v0 : Option Value) (v1 : Option Value) (v2 : Option Value) (v3 : Option Value) (v4 : Option Value) (a1 : Nat) (st : List Value) (σ : ma_H) (hc : hk_cls a1 = 1), ma_rn ro d 82 (98, [v0, v1, v2, v3, v4], .ref a1 :: st, SH, σ) = ma_rn ro d 82 (101, [v0, v1, v2, v3, v4], .int (σ a1 1) :: st, SH, σ)) ∧
  (∀ (v0 : Option Value) (v1 : Option Value) (v2 : Option Value) (v4 : Option Value) (x1 : Int32) (st : List Value) (σ : ma_H), ma_rn ro d 82 (101, [v0, v1, v2, some (.int x1), v4], st, SH, σ) = ma_rn ro d 82 (102, [v0, v1, v2, some (.int x1), v4], .int x1 :: st, SH, σ)) ∧
  (∀ (v0 : Option Value) (v1 : Option Value) (v2 : Option Value) (v3 : Option Value) (v4 : Option Value) (st : List Value) (σ : ma_H), ma_rn ro d 82 (102, [v0, v1, v2, v3, v4], st, SH, σ) = ma_rn ro d 82 (103, [v0, v1, v2, v3, v4], .int (nI 0) :: st, SH, σ)) ∧
  (∀ (v0 : Option Value) (v1 : Option Value) (v2 : Option Value) (v3 : Option Value) (v4 : Option Value) (a1 : Nat) (x2 : Int32) (x3 : Int32) (x4 : Int32) (a0 : Nat) (σ : ma_H) (hc : hk_cls a0 = 0), ma_rn ro (d + 1) 82 (103, [v0, v1, v2, v3, v4], .int x4 :: .int x3 :: .int x2 :: .ref a1 :: .ref a0 :: [], SH, σ) = (ma_ev ro d 5 [.ref a0, .ref a1, .int x2, .int x3, .int x4] SH σ).bind (fun q => ma_rn ro (d + 1) 82 (106, [v0, v1, v2, v3, v4], (q.1.toList ++ []), q.2.1, q.2.2))) ∧
  (∀ (v0 : Option Value) (v1 : Option Value) (v2 : Option Value) (v3 : Option Value) (v4 : Option Value) (x1 : Int32) (σ : ma_H), ma_rn ro d 82 (106, [v0, v1, v2, v3, v4], [.int x1], SH, σ) = some (some (.int x1), SH, σ)) ∧
  (∀ (v0 : Option Value) (v1 : Option Value) (v2 : Option Value) (v3 : Option Value) (v4 : Option Value) (st : List Value) (σ : ma_H), ma_rn ro d 82 (107, [v0, v1, v2, v3, v4], st, SH, σ) = ma_rn ro d 82 (108, [v0, v1, v2, v3, v4], .int (nI 0) :: st, SH, σ)) ∧
  (∀ (v0 : Option Value) (v1 : Option Value) (v2 : Option Value) (v3 : Option Value) (v4 : Option Value) (x1 : Int32) (σ : ma_H), ma_rn ro d 82 (108, [v0, v1, v2, v3, v4], [.int x1], SH, σ) = some (some (.int x1), SH, σ)) := ⟨fun v1 v2 v3 v4 a1 st σ => q_go e82_0 rfl rfl,
  fun v0 v1 v2 v3 v4 a1 st σ hc => q_getA e82_1 o_82 f_7_56 (by decide) hc,
  fun v0 v1 v2 v3 v4 st σ => q_iconst e82_4 (by decide),
  fun v0 v1 v2 v3 v4 x1 a2 st σ hc => q_putI e82_5 o_82 f_7_240 (by decide) rfl hc,
  fun v1 v2 v3 v4 a1 st σ => q_go e82_8 rfl rfl,
  fun v0 v1 v2 v3 v4 a1 st σ hc => q_getA e82_9 o_82 f_7_12 (by decide) hc,
  fun v0 v1 v2 v3 v4 a1 st σ hc => q_getA e82_12 o_82 f_7_93 (by decide) hc,
  fun v0 v2 v3 v4 x1 st σ => q_go e82_15 rfl rfl,
  fun v0 v1 v2 v3 v4 x1 a0 σ hc => q_invV (as := [.int x1]) (rest := []) e82_16 o_82 bn_7_102 c_7_102 m_50 (by decide) rfl rfl (Nat.le_of_ble_eq_true rfl) (Nat.le_of_ble_eq_true rfl) hc,
  fun v0 v1 v2 v4 x9 a1 st σ => q_go e82_19 rfl rfl,
  fun v0 v1 v2 v4 x9 st σ => q_go e82_19 rfl rfl,
  fun v0 v1 v2 v3 a1 st σ => q_go e82_21 rfl rfl,
  fun v0 v1 v2 v3 st σ => q_go e82_21 rfl rfl,
  fun v0 v1 v2 v3 v4 a1 st σ => q_ifnonnullR e82_23 rfl,
  fun v0 v1 v2 v3 v4 st σ => q_ifnonnullN e82_23 rfl,
  fun v0 v1 v2 v3 v4 st σ => q_iconst e82_26 (by decide),
  fun v0 v1 v2 v3 v4 x1 σ => q_iret e82_27 r_82,
  fun v0 v1 v3 v4 x1 st σ => q_go e82_28 rfl rfl,
  fun v0 v1 v2 v3 v4 x1 st σ => by
    by_cases h0 : x1 = nI 0
    · rw [if_pos h0]; exact q_tswIn e82_29 h0 (k := 0) (by decide) (by decide) (by decide) rfl rfl
    rw [if_neg h0]
    by_cases h1 : x1 = nI 1
    · rw [if_pos h1]; exact q_tswIn e82_29 h1 (k := 1) (by decide) (by decide) (by decide) rfl rfl
    rw [if_neg h1]
    by_cases h2 : x1 = nI 2
    · rw [if_pos h2]; exact q_tswIn e82_29 h2 (k := 2) (by decide) (by decide) (by decide) rfl rfl
    rw [if_neg h2]
    have g0 := q_nnI h0 (by decide)
    have g1 := q_nnI h1 (by decide)
    have g2 := q_nnI h2 (by decide)
    exact q_tswOut e82_29 (by omega) rfl,
  fun v1 v2 v3 v4 a1 st σ => q_go e82_56 rfl rfl,
  fun v0 v1 v2 v3 v4 a1 st σ hc => q_getA e82_57 o_82 f_7_56 (by decide) hc,
  fun v0 v1 v2 v3 a1 st σ => q_go e82_60 rfl rfl,
  fun v0 v1 v2 v3 st σ => q_go e82_60 rfl rfl,
  fun v0 v1 v2 v3 a1 st σ => q_go e82_62 rfl rfl,
  fun v0 v1 v2 v3 st σ => q_go e82_62 rfl rfl,
  fun v0 v1 v2 v3 v4 a1 st σ hc => q_getI e82_64 o_82 f_7_107 (by decide) hc,
  fun v0 v1 v2 v4 x1 st σ => q_go e82_67 rfl rfl,
  fun v0 v1 v2 v3 v4 st σ => q_iconst e82_68 (by decide),
  fun v0 v1 v2 v3 v4 a1 x2 x3 x4 a0 σ hc => q_invV (as := [.ref a1, .int x2, .int x3, .int x4]) (rest := []) e82_69 o_82 bn_7_243 c_7_243 m_3 (by decide) rfl rfl (Nat.le_of_ble_eq_true rfl) (Nat.le_of_ble_eq_true rfl) hc,
  fun v0 v1 v2 v3 v4 x1 σ => q_iret e82_72 r_82,
  fun v1 v2 v3 v4 a1 st σ => q_go e82_73 rfl rfl,
  fun v0 v1 v2 v3 v4 a1 st σ hc => q_getA e82_74 o_82 f_7_56 (by decide) hc,
  fun v0 v1 v2 v3 a1 st σ => q_go e82_77 rfl rfl,
  fun v0 v1 v2 v3 st σ => q_go e82_77 rfl rfl,
  fun v0 v1 v2 v3 a1 st σ => q_go e82_79 rfl rfl,
  fun v0 v1 v2 v3 st σ => q_go e82_79 rfl rfl,
  fun v0 v1 v2 v3 v4 a1 st σ hc => q_getI e82_81 o_82 f_7_107 (by decide) hc,
  fun v0 v1 v2 v4 x1 st σ => q_go e82_84 rfl rfl,
  fun v0 v1 v2 v3 v4 st σ => q_iconst e82_85 (by decide),
  fun v0 v1 v2 v3 v4 a1 x2 x3 x4 a0 σ hc => q_invV (as := [.ref a1, .int x2, .int x3, .int x4]) (rest := []) e82_86 o_82 bn_7_247 c_7_247 m_4 (by decide) rfl rfl (Nat.le_of_ble_eq_true rfl) (Nat.le_of_ble_eq_true rfl) hc,
  fun v0 v1 v2 v3 v4 x1 σ => q_iret e82_89 r_82,
  fun v1 v2 v3 v4 a1 st σ => q_go e82_90 rfl rfl,
  fun v0 v1 v2 v3 v4 a1 st σ hc => q_getA e82_91 o_82 f_7_56 (by decide) hc,
  fun v0 v1 v2 v3 a1 st σ => q_go e82_94 rfl rfl,
  fun v0 v1 v2 v3 st σ => q_go e82_94 rfl rfl,
  fun v0 v1 v2 v3 a1 st σ => q_go e82_96 rfl rfl,
  fun v0 v1 v2 v3 st σ => q_go e82_96 rfl rfl,
  fun v0 v1 v2 v3 v4 a1 st σ hc => q_getI e82_98 o_82 f_7_107 (by decide) hc,
  fun v0 v1 v2 v4 x1 st σ => q_go e82_101 rfl rfl,
  fun v0 v1 v2 v3 v4 st σ => q_iconst e82_102 (by decide),
  fun v0 v1 v2 v3 v4 a1 x2 x3 x4 a0 σ hc => q_invV (as := [.ref a1, .int x2, .int x3, .int x4]) (rest := []) e82_103 o_82 bn_7_250 c_7_250 m_5 (by decide) rfl rfl (Nat.le_of_ble_eq_true rfl) (Nat.le_of_ble_eq_true rfl) hc,
  fun v0 v1 v2 v3 v4 x1 σ => q_iret e82_106 r_82,
  fun v0 v1 v2 v3 v4 st σ => q_iconst e82_107 (by decide),
  fun v0 v1 v2 v3 v4 x1 σ => q_iret e82_108 r_82⟩
theorem E82 {ro : ma_RO} {d : Nat} (a0 : Nat) (x1 : Int32) (x2 : Int32) (x3 : Int32) (sh : List ma_Sh) (σ : ma_H) : ma_ev ro d 82 [.ref a0, .int x1, .int x2, .int x3] sh σ = ma_rn ro d 82 (0, [some (.ref a0), some (.int x1), some (.int x2), some (.int x3), none], [], sh, σ) := q_ent x_82 rfl
theorem e83_0 : decode (ma_cd 83) 0 = .ok (.aload_n 0, 1) := (congrArg (fun b => decode b 0) cd_83).trans dX7_trace_0
theorem e83_1 : decode (ma_cd 83) 1 = .ok (.getfield 56, 3) := (congrArg (fun b => decode b 1) cd_83).trans dX7_trace_1
theorem e83_4 : decode (ma_cd 83) 4 = .ok (.iload_n 1, 1) := (congrArg (fun b => decode b 4) cd_83).trans dX7_trace_4
theorem e83_5 : decode (ma_cd 83) 5 = .ok (.invokevirtual 253, 3) := (congrArg (fun b => decode b 5) cd_83).trans dX7_trace_5
theorem e83_8 : decode (ma_cd 83) 8 = .ok (.ireturn, 1) := (congrArg (fun b => decode b 8) cd_83).trans dX7_trace_8
theorem S83 {ro : ma_RO} {d : Nat} : (∀ (v1 : Option Value) (a1 : Nat) (st : List Value) (σ : ma_H), ma_rn ro d 83 (0, [some (.ref a1), v1], st, SH, σ) = ma_rn ro d 83 (1, [some (.ref a1), v1], .ref a1 :: st, SH, σ)) ∧
  (∀ (v0 : Option Value) (v1 : Option Value) (a1 : Nat) (st : List Value) (σ : ma_H) (hc : hk_cls a1 = 7), ma_rn ro d 83 (1, [v0, v1], .ref a1 :: st, SH, σ) = ma_rn ro d 83 (4, [v0, v1], .ref (86) :: st, SH, σ)) ∧
  (∀ (v0 : Option Value) (x1 : Int32) (st : List Value) (σ : ma_H), ma_rn ro d 83 (4, [v0, some (.int x1)], st, SH, σ) = ma_rn ro d 83 (5, [v0, some (.int x1)], .int x1 :: st, SH, σ)) ∧
  (∀ (v0 : Option Value) (v1 : Option Value) (x1 : Int32) (a0 : Nat) (σ : ma_H) (hc : hk_cls a0 = 0), ma_rn ro (d + 1) 83 (5, [v0, v1], .int x1 :: .ref a0 :: [], SH, σ) = (ma_ev ro d 2 [.ref a0, .int x1] SH σ).bind (fun q => ma_rn ro (d + 1) 83 (8, [v0, v1], (q.1.toList ++ []), q.2.1, q.2.2))) ∧
  (∀ (v0 : Option Value) (v1 : Option Value) (x1 : Int32) (σ : ma_H), ma_rn ro d 83 (8, [v0, v1], [.int x1], SH, σ) = some (some (.int x1), SH, σ)) := ⟨fun v1 a1 st σ => q_go e83_0 rfl rfl,
  fun v0 v1 a1 st σ hc => q_getA e83_1 o_83 f_7_56 (by decide) hc,
  fun v0 x1 st σ => q_go e83_4 rfl rfl,
  fun v0 v1 x1 a0 σ hc => q_invV (as := [.int x1]) (rest := []) e83_5 o_83 bn_7_253 c_7_253 m_2 (by decide) rfl rfl (Nat.le_of_ble_eq_true rfl) (Nat.le_of_ble_eq_true rfl) hc,
  fun v0 v1 x1 σ => q_iret e83_8 r_83⟩
theorem E83 {ro : ma_RO} {d : Nat} (a0 : Nat) (x1 : Int32) (sh : List ma_Sh) (σ : ma_H) : ma_ev ro d 83 [.ref a0, .int x1] sh σ = ma_rn ro d 83 (0, [some (.ref a0), some (.int x1)], [], sh, σ) := q_ent x_83 rfl
theorem e84_0 : decode (ma_cd 84) 0 = .ok (.aload_n 0, 1) := (congrArg (fun b => decode b 0) cd_84).trans dX7_as_0
theorem e84_1 : decode (ma_cd 84) 1 = .ok (.getfield 12, 3) := (congrArg (fun b => decode b 1) cd_84).trans dX7_as_1
theorem e84_4 : decode (ma_cd 84) 4 = .ok (.getfield 93, 3) := (congrArg (fun b => decode b 4) cd_84).trans dX7_as_4
theorem e84_7 : decode (ma_cd 84) 7 = .ok (.iload_n 1, 1) := (congrArg (fun b => decode b 7) cd_84).trans dX7_as_7
theorem e84_8 : decode (ma_cd 84) 8 = .ok (.invokevirtual 102, 3) := (congrArg (fun b => decode b 8) cd_84).trans dX7_as_8
theorem e84_11 : decode (ma_cd 84) 11 = .ok (.astore_n 3, 1) := (congrArg (fun b => decode b 11) cd_84).trans dX7_as_11
theorem e84_12 : decode (ma_cd 84) 12 = .ok (.aload_n 3, 1) := (congrArg (fun b => decode b 12) cd_84).trans dX7_as_12
theorem e84_13 : decode (ma_cd 84) 13 = .ok (.ifnull 12, 3) := (congrArg (fun b => decode b 13) cd_84).trans dX7_as_13
theorem e84_16 : decode (ma_cd 84) 16 = .ok (.iload_n 2, 1) := (congrArg (fun b => decode b 16) cd_84).trans dX7_as_16
theorem e84_17 : decode (ma_cd 84) 17 = .ok (.bipush 6, 2) := (congrArg (fun b => decode b 17) cd_84).trans dX7_as_17
theorem e84_19 : decode (ma_cd 84) 19 = .ok (.invokestatic 67, 3) := (congrArg (fun b => decode b 19) cd_84).trans dX7_as_19
theorem e84_22 : decode (ma_cd 84) 22 = .ok (.ifCond .eq 5, 3) := (congrArg (fun b => decode b 22) cd_84).trans dX7_as_22
theorem e84_25 : decode (ma_cd 84) 25 = .ok (.iconst (-1), 1) := (congrArg (fun b => decode b 25) cd_84).trans dX7_as_25
theorem e84_26 : decode (ma_cd 84) 26 = .ok (.ireturn, 1) := (congrArg (fun b => decode b 26) cd_84).trans dX7_as_26
theorem e84_27 : decode (ma_cd 84) 27 = .ok (.aload_n 3, 1) := (congrArg (fun b => decode b 27) cd_84).trans dX7_as_27
theorem e84_28 : decode (ma_cd 84) 28 = .ok (.getfield 107, 3) := (congrArg (fun b => decode b 28) cd_84).trans dX7_as_28
theorem e84_31 : decode (ma_cd 84) 31 = .ok (.istore 4, 2) := (congrArg (fun b => decode b 31) cd_84).trans dX7_as_31
theorem e84_33 : decode (ma_cd 84) 33 = .ok (.iconst 0, 1) := (congrArg (fun b => decode b 33) cd_84).trans dX7_as_33
theorem e84_34 : decode (ma_cd 84) 34 = .ok (.istore 5, 2) := (congrArg (fun b => decode b 34) cd_84).trans dX7_as_34
theorem e84_36 : decode (ma_cd 84) 36 = .ok (.iload 5, 2) := (congrArg (fun b => decode b 36) cd_84).trans dX7_as_36
theorem e84_38 : decode (ma_cd 84) 38 = .ok (.iconst 3, 1) := (congrArg (fun b => decode b 38) cd_84).trans dX7_as_38
theorem e84_39 : decode (ma_cd 84) 39 = .ok (.if_icmp .ge 27, 3) := (congrArg (fun b => decode b 39) cd_84).trans dX7_as_39
theorem e84_42 : decode (ma_cd 84) 42 = .ok (.iload 4, 2) := (congrArg (fun b => decode b 42) cd_84).trans dX7_as_42
theorem e84_44 : decode (ma_cd 84) 44 = .ok (.iload_n 2, 1) := (congrArg (fun b => decode b 44) cd_84).trans dX7_as_44
theorem e84_45 : decode (ma_cd 84) 45 = .ok (.if_icmp .ne 8, 3) := (congrArg (fun b => decode b 45) cd_84).trans dX7_as_45
theorem e84_48 : decode (ma_cd 84) 48 = .ok (.aload_n 3, 1) := (congrArg (fun b => decode b 48) cd_84).trans dX7_as_48
theorem e84_49 : decode (ma_cd 84) 49 = .ok (.getfield 110, 3) := (congrArg (fun b => decode b 49) cd_84).trans dX7_as_49
theorem e84_52 : decode (ma_cd 84) 52 = .ok (.ireturn, 1) := (congrArg (fun b => decode b 52) cd_84).trans dX7_as_52
theorem e84_53 : decode (ma_cd 84) 53 = .ok (.iload 4, 2) := (congrArg (fun b => decode b 53) cd_84).trans dX7_as_53
theorem e84_55 : decode (ma_cd 84) 55 = .ok (.invokestatic 256, 3) := (congrArg (fun b => decode b 55) cd_84).trans dX7_as_55
theorem e84_58 : decode (ma_cd 84) 58 = .ok (.istore 4, 2) := (congrArg (fun b => decode b 58) cd_84).trans dX7_as_58
theorem e84_60 : decode (ma_cd 84) 60 = .ok (.iinc 5 1, 3) := (congrArg (fun b => decode b 60) cd_84).trans dX7_as_60
theorem e84_63 : decode (ma_cd 84) 63 = .ok (.goto (-27), 3) := (congrArg (fun b => decode b 63) cd_84).trans dX7_as_63
theorem e84_66 : decode (ma_cd 84) 66 = .ok (.bipush (-6), 2) := (congrArg (fun b => decode b 66) cd_84).trans dX7_as_66
theorem e84_68 : decode (ma_cd 84) 68 = .ok (.ireturn, 1) := (congrArg (fun b => decode b 68) cd_84).trans dX7_as_68
theorem Sh84_36 {ro : ma_RO} {d : Nat} : (∀ (v0 : Option Value) (v1 : Option Value) (v2 : Option Value) (v3 : Option Value) (v4 : Option Value) (x1 : Int32) (st : List Value) (σ : ma_H), ma_rn ro d 84 (36, [v0, v1, v2, v3, v4, some (.int x1)], st, SH, σ) = ma_rn ro d 84 (38, [v0, v1, v2, v3, v4, some (.int x1)], .int x1 :: st, SH, σ)) := fun v0 v1 v2 v3 v4 x1 st σ => q_go e84_36 rfl rfl
theorem S84 {ro : ma_RO} {d : Nat} : (∀ (v1 : Option Value) (v2 : Option Value) (v3 : Option Value) (v4 : Option Value) (v5 : Option Value) (a1 : Nat) (st : List Value) (σ : ma_H), ma_rn ro d 84 (0, [some (.ref a1), v1, v2, v3, v4, v5], st, SH, σ) = ma_rn ro d 84 (1, [some (.ref a1), v1, v2, v3, v4, v5], .ref a1 :: st, SH, σ)) ∧
  (∀ (v0 : Option Value) (v1 : Option Value) (v2 : Option Value) (v3 : Option Value) (v4 : Option Value) (v5 : Option Value) (a1 : Nat) (st : List Value) (σ : ma_H) (hc : hk_cls a1 = 7), ma_rn ro d 84 (1, [v0, v1, v2, v3, v4, v5], .ref a1 :: st, SH, σ) = ma_rn ro d 84 (4, [v0, v1, v2, v3, v4, v5], .ref (1) :: st, SH, σ)) ∧
  (∀ (v0 : Option Value) (v1 : Option Value) (v2 : Option Value) (v3 : Option Value) (v4 : Option Value) (v5 : Option Value) (a1 : Nat) (st : List Value) (σ : ma_H) (hc : hk_cls a1 = 5), ma_rn ro d 84 (4, [v0, v1, v2, v3, v4, v5], .ref a1 :: st, SH, σ) = ma_rn ro d 84 (7, [v0, v1, v2, v3, v4, v5], .ref (a1 + 1) :: st, SH, σ)) ∧
  (∀ (v0 : Option Value) (v2 : Option Value) (v3 : Option Value) (v4 : Option Value) (v5 : Option Value) (x1 : Int32) (st : List Value) (σ : ma_H), ma_rn ro d 84 (7, [v0, some (.int x1), v2, v3, v4, v5], st, SH, σ) = ma_rn ro d 84 (8, [v0, some (.int x1), v2, v3, v4, v5], .int x1 :: st, SH, σ)) ∧
  (∀ (v0 : Option Value) (v1 : Option Value) (v2 : Option Value) (v3 : Option Value) (v4 : Option Value) (v5 : Option Value) (x1 : Int32) (a0 : Nat) (σ : ma_H) (hc : hk_cls a0 = 6), ma_rn ro (d + 1) 84 (8, [v0, v1, v2, v3, v4, v5], .int x1 :: .ref a0 :: [], SH, σ) = (ma_ev ro d 50 [.ref a0, .int x1] SH σ).bind (fun q => ma_rn ro (d + 1) 84 (11, [v0, v1, v2, v3, v4, v5], (q.1.toList ++ []), q.2.1, q.2.2))) ∧
  (∀ (v0 : Option Value) (v1 : Option Value) (v3 : Option Value) (v4 : Option Value) (v5 : Option Value) (x9 : Int32) (a1 : Nat) (st : List Value) (σ : ma_H), ma_rn ro d 84 (11, [v0, v1, some (.int x9), v3, v4, v5], .ref a1 :: st, SH, σ) = ma_rn ro d 84 (12, [v0, v1, some (.int x9), some (.ref a1), v4, v5], st, SH, σ)) ∧
  (∀ (v0 : Option Value) (v1 : Option Value) (v3 : Option Value) (v4 : Option Value) (v5 : Option Value) (x9 : Int32) (st : List Value) (σ : ma_H), ma_rn ro d 84 (11, [v0, v1, some (.int x9), v3, v4, v5], .null :: st, SH, σ) = ma_rn ro d 84 (12, [v0, v1, some (.int x9), some .null, v4, v5], st, SH, σ)) ∧
  (∀ (v0 : Option Value) (v1 : Option Value) (v2 : Option Value) (v4 : Option Value) (v5 : Option Value) (a1 : Nat) (st : List Value) (σ : ma_H), ma_rn ro d 84 (12, [v0, v1, v2, some (.ref a1), v4, v5], st, SH, σ) = ma_rn ro d 84 (13, [v0, v1, v2, some (.ref a1), v4, v5], .ref a1 :: st, SH, σ)) ∧
  (∀ (v0 : Option Value) (v1 : Option Value) (v2 : Option Value) (v4 : Option Value) (v5 : Option Value) (st : List Value) (σ : ma_H), ma_rn ro d 84 (12, [v0, v1, v2, some .null, v4, v5], st, SH, σ) = ma_rn ro d 84 (13, [v0, v1, v2, some .null, v4, v5], .null :: st, SH, σ)) ∧
  (∀ (v0 : Option Value) (v1 : Option Value) (v2 : Option Value) (v3 : Option Value) (v4 : Option Value) (v5 : Option Value) (a1 : Nat) (st : List Value) (σ : ma_H), ma_rn ro d 84 (13, [v0, v1, v2, v3, v4, v5], .ref a1 :: st, SH, σ) = ma_rn ro d 84 (16, [v0, v1, v2, v3, v4, v5], st, SH, σ)) ∧
  (∀ (v0 : Option Value) (v1 : Option Value) (v2 : Option Value) (v3 : Option Value) (v4 : Option Value) (v5 : Option Value) (st : List Value) (σ : ma_H), ma_rn ro d 84 (13, [v0, v1, v2, v3, v4, v5], .null :: st, SH, σ) = ma_rn ro d 84 (25, [v0, v1, v2, v3, v4, v5], st, SH, σ)) ∧
  (∀ (v0 : Option Value) (v1 : Option Value) (v3 : Option Value) (v4 : Option Value) (v5 : Option Value) (x1 : Int32) (st : List Value) (σ : ma_H), ma_rn ro d 84 (16, [v0, v1, some (.int x1), v3, v4, v5], st, SH, σ) = ma_rn ro d 84 (17, [v0, v1, some (.int x1), v3, v4, v5], .int x1 :: st, SH, σ)) ∧
  (∀ (v0 : Option Value) (v1 : Option Value) (v2 : Option Value) (v3 : Option Value) (v4 : Option Value) (v5 : Option Value) (st : List Value) (σ : ma_H), ma_rn ro d 84 (17, [v0, v1, v2, v3, v4, v5], st, SH, σ) = ma_rn ro d 84 (19, [v0, v1, v2, v3, v4, v5], .int (nI 6) :: st, SH, σ)) ∧
  (∀ (v0 : Option Value) (v1 : Option Value) (v2 : Option Value) (v3 : Option Value) (v4 : Option Value) (v5 : Option Value) (x1 : Int32) (x2 : Int32) (σ : ma_H), ma_rn ro (d + 1) 84 (19, [v0, v1, v2, v3, v4, v5], .int x2 :: .int x1 :: [], SH, σ) = (ma_ev ro d 88 [.int x1, .int x2] SH σ).bind (fun q => ma_rn ro (d + 1) 84 (22, [v0, v1, v2, v3, v4, v5], (q.1.toList ++ []), q.2.1, q.2.2))) ∧
  (∀ (v0 : Option Value) (v1 : Option Value) (v2 : Option Value) (v3 : Option Value) (v4 : Option Value) (v5 : Option Value) (x1 : Int32) (st : List Value) (σ : ma_H), ma_rn ro d 84 (22, [v0, v1, v2, v3, v4, v5], .int x1 :: st, SH, σ) = if x1 = nI 0 then ma_rn ro d 84 (27, [v0, v1, v2, v3, v4, v5], st, SH, σ) else ma_rn ro d 84 (25, [v0, v1, v2, v3, v4, v5], st, SH, σ)) ∧
  (∀ (v0 : Option Value) (v1 : Option Value) (v2 : Option Value) (v3 : Option Value) (v4 : Option Value) (v5 : Option Value) (st : List Value) (σ : ma_H), ma_rn ro d 84 (25, [v0, v1, v2, v3, v4, v5], st, SH, σ) = ma_rn ro d 84 (26, [v0, v1, v2, v3, v4, v5], .int ((-1)) :: st, SH, σ)) ∧
  (∀ (v0 : Option Value) (v1 : Option Value) (v2 : Option Value) (v3 : Option Value) (v4 : Option Value) (v5 : Option Value) (x1 : Int32) (σ : ma_H), ma_rn ro d 84 (26, [v0, v1, v2, v3, v4, v5], [.int x1], SH, σ) = some (some (.int x1), SH, σ)) ∧
  (∀ (v0 : Option Value) (v1 : Option Value) (v2 : Option Value) (v4 : Option Value) (v5 : Option Value) (a1 : Nat) (st : List Value) (σ : ma_H), ma_rn ro d 84 (27, [v0, v1, v2, some (.ref a1), v4, v5], st, SH, σ) = ma_rn ro d 84 (28, [v0, v1, v2, some (.ref a1), v4, v5], .ref a1 :: st, SH, σ)) ∧
  (∀ (v0 : Option Value) (v1 : Option Value) (v2 : Option Value) (v4 : Option Value) (v5 : Option Value) (st : List Value) (σ : ma_H), ma_rn ro d 84 (27, [v0, v1, v2, some .null, v4, v5], st, SH, σ) = ma_rn ro d 84 (28, [v0, v1, v2, some .null, v4, v5], .null :: st, SH, σ)) ∧
  (∀ (v0 : Option Value) (v1 : Option Value) (v2 : Option Value) (v3 : Option Value) (v4 : Option Value) (v5 : Option Value) (a1 : Nat) (st : List Value) (σ : ma_H) (hc : hk_cls a1 = 1), ma_rn ro d 84 (28, [v0, v1, v2, v3, v4, v5], .ref a1 :: st, SH, σ) = ma_rn ro d 84 (31, [v0, v1, v2, v3, v4, v5], .int (σ a1 1) :: st, SH, σ)) ∧
  (∀ (v0 : Option Value) (v1 : Option Value) (v2 : Option Value) (v3 : Option Value) (v4 : Option Value) (v5 : Option Value) (x1 : Int32) (st : List Value) (σ : ma_H) (hb : ma_bef [v0, v1, v2, v3, v4, v5] 4 = false), ma_rn ro d 84 (31, [v0, v1, v2, v3, v4, v5], .int x1 :: st, SH, σ) = ma_rn ro d 84 (33, [v0, v1, v2, v3, some (.int x1), v5], st, SH, σ)) ∧
  (∀ (v0 : Option Value) (v1 : Option Value) (v2 : Option Value) (v3 : Option Value) (v4 : Option Value) (v5 : Option Value) (st : List Value) (σ : ma_H), ma_rn ro d 84 (33, [v0, v1, v2, v3, v4, v5], st, SH, σ) = ma_rn ro d 84 (34, [v0, v1, v2, v3, v4, v5], .int (nI 0) :: st, SH, σ)) ∧
  (∀ (v0 : Option Value) (v1 : Option Value) (v2 : Option Value) (v3 : Option Value) (v5 : Option Value) (x9 : Int32) (x1 : Int32) (st : List Value) (σ : ma_H), ma_rn ro d 84 (34, [v0, v1, v2, v3, some (.int x9), v5], .int x1 :: st, SH, σ) = ma_rn ro d 84 (36, [v0, v1, v2, v3, some (.int x9), some (.int x1)], st, SH, σ)) ∧
  (∀ (v0 : Option Value) (v1 : Option Value) (v2 : Option Value) (v3 : Option Value) (v4 : Option Value) (v5 : Option Value) (st : List Value) (σ : ma_H), ma_rn ro d 84 (38, [v0, v1, v2, v3, v4, v5], st, SH, σ) = ma_rn ro d 84 (39, [v0, v1, v2, v3, v4, v5], .int (nI 3) :: st, SH, σ)) ∧
  (∀ (v0 : Option Value) (v1 : Option Value) (v2 : Option Value) (v3 : Option Value) (v4 : Option Value) (v5 : Option Value) (x1 : Int32) (x2 : Int32) (st : List Value) (σ : ma_H), ma_rn ro d 84 (39, [v0, v1, v2, v3, v4, v5], .int x1 :: .int x2 :: st, SH, σ) = if x2 < x1 then ma_rn ro d 84 (42, [v0, v1, v2, v3, v4, v5], st, SH, σ) else ma_rn ro d 84 (66, [v0, v1, v2, v3, v4, v5], st, SH, σ)) ∧
  (∀ (v0 : Option Value) (v1 : Option Value) (v2 : Option Value) (v3 : Option Value) (v5 : Option Value) (x1 : Int32) (st : List Value) (σ : ma_H), ma_rn ro d 84 (42, [v0, v1, v2, v3, some (.int x1), v5], st, SH, σ) = ma_rn ro d 84 (44, [v0, v1, v2, v3, some (.int x1), v5], .int x1 :: st, SH, σ)) ∧
  (∀ (v0 : Option Value) (v1 : Option Value) (v3 : Option Value) (v4 : Option Value) (v5 : Option Value) (x1 : Int32) (st : List Value) (σ : ma_H), ma_rn ro d 84 (44, [v0, v1, some (.int x1), v3, v4, v5], st, SH, σ) = ma_rn ro d 84 (45, [v0, v1, some (.int x1), v3, v4, v5], .int x1 :: st, SH, σ)) ∧
  (∀ (v0 : Option Value) (v1 : Option Value) (v2 : Option Value) (v3 : Option Value) (v4 : Option Value) (v5 : Option Value) (x1 : Int32) (x2 : Int32) (st : List Value) (σ : ma_H), ma_rn ro d 84 (45, [v0, v1, v2, v3, v4, v5], .int x1 :: .int x2 :: st, SH, σ) = if x2 = x1 then ma_rn ro d 84 (48, [v0, v1, v2, v3, v4, v5], st, SH, σ) else ma_rn ro d 84 (53, [v0, v1, v2, v3, v4, v5], st, SH, σ)) ∧
  (∀ (v0 : Option Value) (v1 : Option Value) (v2 : Option Value) (v4 : Option Value) (v5 : Option Value) (a1 : Nat) (st : List Value) (σ : ma_H), ma_rn ro d 84 (48, [v0, v1, v2, some (.ref a1), v4, v5], st, SH, σ) = ma_rn ro d 84 (49, [v0, v1, v2, some (.ref a1), v4, v5], .ref a1 :: st, SH, σ)) ∧
  (∀ (v0 : Option Value) (v1 : Option Value) (v2 : Option Value) (v4 : Option Value) (v5 : Option Value) (st : List Value) (σ : ma_H), ma_rn ro d 84 (48, [v0, v1, v2, some .null, v4, v5], st, SH, σ) = ma_rn ro d 84 (49, [v0, v1, v2, some .null, v4, v5], .null :: st, SH, σ)) ∧
  (∀ (v0 : Option Value) (v1 : Option Value) (v2 : Option Value) (v3 : Option Value) (v4 : Option Value) (v5 : Option Value) (a1 : Nat) (st : List Value) (σ : ma_H) (hc : hk_cls a1 = 1), ma_rn ro d 84 (49, [v0, v1, v2, v3, v4, v5], .ref a1 :: st, SH, σ) = ma_rn ro d 84 (52, [v0, v1, v2, v3, v4, v5], .int (σ a1 2) :: st, SH, σ)) ∧
  (∀ (v0 : Option Value) (v1 : Option Value) (v2 : Option Value) (v3 : Option Value) (v4 : Option Value) (v5 : Option Value) (x1 : Int32) (σ : ma_H), ma_rn ro d 84 (52, [v0, v1, v2, v3, v4, v5], [.int x1], SH, σ) = some (some (.int x1), SH, σ)) ∧
  (∀ (v0 : Option Value) (v1 : Option Value) (v2 : Option Value) (v3 : Option Value) (v5 : Option Value) (x1 : Int32) (st : List Value) (σ : ma_H), ma_rn ro d 84 (53, [v0, v1, v2, v3, some (.int x1), v5], st, SH, σ) = ma_rn ro d 84 (55, [v0, v1, v2, v3, some (.int x1), v5], .int x1 :: st, SH, σ)) ∧
  (∀ (v0 : Option Value) (v1 : Option Value) (v2 : Option Value) (v3 : Option Value) (v4 : Option Value) (v5 : Option Value) (x1 : Int32) (σ : ma_H), ma_rn ro (d + 1) 84 (55, [v0, v1, v2, v3, v4, v5], .int x1 :: [], SH, σ) = (ma_ev ro d 89 [.int x1] SH σ).bind (fun q => ma_rn ro (d + 1) 84 (58, [v0, v1, v2, v3, v4, v5], (q.1.toList ++ []), q.2.1, q.2.2))) ∧
  (∀ (v0 : Option Value) (v1 : Option Value) (v2 : Option Value) (v3 : Option Value) (v4 : Option Value) (v5 : Option Value) (x1 : Int32) (st : List Value) (σ : ma_H) (hb : ma_bef [v0, v1, v2, v3, v4, v5] 4 = false), ma_rn ro d 84 (58, [v0, v1, v2, v3, v4, v5], .int x1 :: st, SH, σ) = ma_rn ro d 84 (60, [v0, v1, v2, v3, some (.int x1), v5], st, SH, σ)) ∧
  (∀ (v0 : Option Value) (v1 : Option Value) (v2 : Option Value) (v3 : Option Value) (x1 : Int32) (x9 : Int32) (st : List Value) (σ : ma_H), ma_rn ro d 84 (60, [v0, v1, v2, v3, some (.int x9), some (.int x1)], st, SH, σ) = ma_rn ro d 84 (63, [v0, v1, v2, v3, some (.int x9), some (.int (x1 + nI 1))], st, SH, σ)) ∧
  (∀ (v0 : Option Value) (v1 : Option Value) (v2 : Option Value) (v3 : Option Value) (v4 : Option Value) (v5 : Option Value) (st : List Value) (σ : ma_H), ma_rn ro d 84 (63, [v0, v1, v2, v3, v4, v5], st, SH, σ) = ma_rn ro d 84 (36, [v0, v1, v2, v3, v4, v5], st, SH, σ)) ∧
  (∀ (v0 : Option Value) (v1 : Option Value) (v2 : Option Value) (v3 : Option Value) (v4 : Option Value) (v5 : Option Value) (st : List Value) (σ : ma_H), ma_rn ro d 84 (66, [v0, v1, v2, v3, v4, v5], st, SH, σ) = ma_rn ro d 84 (68, [v0, v1, v2, v3, v4, v5], .int ((-6)) :: st, SH, σ)) ∧
  (∀ (v0 : Option Value) (v1 : Option Value) (v2 : Option Value) (v3 : Option Value) (v4 : Option Value) (v5 : Option Value) (x1 : Int32) (σ : ma_H), ma_rn ro d 84 (68, [v0, v1, v2, v3, v4, v5], [.int x1], SH, σ) = some (some (.int x1), SH, σ)) := ⟨fun v1 v2 v3 v4 v5 a1 st σ => q_go e84_0 rfl rfl,
  fun v0 v1 v2 v3 v4 v5 a1 st σ hc => q_getA e84_1 o_84 f_7_12 (by decide) hc,
  fun v0 v1 v2 v3 v4 v5 a1 st σ hc => q_getA e84_4 o_84 f_7_93 (by decide) hc,
  fun v0 v2 v3 v4 v5 x1 st σ => q_go e84_7 rfl rfl,
  fun v0 v1 v2 v3 v4 v5 x1 a0 σ hc => q_invV (as := [.int x1]) (rest := []) e84_8 o_84 bn_7_102 c_7_102 m_50 (by decide) rfl rfl (Nat.le_of_ble_eq_true rfl) (Nat.le_of_ble_eq_true rfl) hc,
  fun v0 v1 v3 v4 v5 x9 a1 st σ => q_go e84_11 rfl rfl,
  fun v0 v1 v3 v4 v5 x9 st σ => q_go e84_11 rfl rfl,
  fun v0 v1 v2 v4 v5 a1 st σ => q_go e84_12 rfl rfl,
  fun v0 v1 v2 v4 v5 st σ => q_go e84_12 rfl rfl,
  fun v0 v1 v2 v3 v4 v5 a1 st σ => q_ifnullR e84_13 rfl,
  fun v0 v1 v2 v3 v4 v5 st σ => q_ifnullN e84_13 rfl,
  fun v0 v1 v3 v4 v5 x1 st σ => q_go e84_16 rfl rfl,
  fun v0 v1 v2 v3 v4 v5 st σ => q_bipush e84_17 (by decide),
  fun v0 v1 v2 v3 v4 v5 x1 x2 σ => q_invS (as := [.int x1, .int x2]) (rest := []) e84_19 o_84 bn_7_67 c_7_67 ⟨m_88.1, m_88.2.1, m_88.2.2.1⟩ rfl rfl (Nat.le_of_ble_eq_true rfl) (Nat.le_of_ble_eq_true rfl),
  fun v0 v1 v2 v3 v4 v5 x1 st σ => (q_if e84_22 rfl).trans q_eq,
  fun v0 v1 v2 v3 v4 v5 st σ => q_iconst e84_25 (by decide),
  fun v0 v1 v2 v3 v4 v5 x1 σ => q_iret e84_26 r_84,
  fun v0 v1 v2 v4 v5 a1 st σ => q_go e84_27 rfl rfl,
  fun v0 v1 v2 v4 v5 st σ => q_go e84_27 rfl rfl,
  fun v0 v1 v2 v3 v4 v5 a1 st σ hc => q_getI e84_28 o_84 f_7_107 (by decide) hc,
  fun v0 v1 v2 v3 v4 v5 x1 st σ hb => q_go e84_31 rfl (q_s1 hb rfl (Nat.le_of_ble_eq_true rfl)),
  fun v0 v1 v2 v3 v4 v5 st σ => q_iconst e84_33 (by decide),
  fun v0 v1 v2 v3 v5 x9 x1 st σ => q_go e84_34 rfl rfl,
  fun v0 v1 v2 v3 v4 v5 st σ => q_iconst e84_38 (by decide),
  fun v0 v1 v2 v3 v4 v5 x1 x2 st σ => (q_cmp e84_39 rfl).trans q_nlt,
  fun v0 v1 v2 v3 v5 x1 st σ => q_go e84_42 rfl rfl,
  fun v0 v1 v3 v4 v5 x1 st σ => q_go e84_44 rfl rfl,
  fun v0 v1 v2 v3 v4 v5 x1 x2 st σ => (q_cmp e84_45 rfl).trans q_ne,
  fun v0 v1 v2 v4 v5 a1 st σ => q_go e84_48 rfl rfl,
  fun v0 v1 v2 v4 v5 st σ => q_go e84_48 rfl rfl,
  fun v0 v1 v2 v3 v4 v5 a1 st σ hc => q_getI e84_49 o_84 f_7_110 (by decide) hc,
  fun v0 v1 v2 v3 v4 v5 x1 σ => q_iret e84_52 r_84,
  fun v0 v1 v2 v3 v5 x1 st σ => q_go e84_53 rfl rfl,
  fun v0 v1 v2 v3 v4 v5 x1 σ => q_invS (as := [.int x1]) (rest := []) e84_55 o_84 bn_7_256 c_7_256 ⟨m_89.1, m_89.2.1, m_89.2.2.1⟩ rfl rfl (Nat.le_of_ble_eq_true rfl) (Nat.le_of_ble_eq_true rfl),
  fun v0 v1 v2 v3 v4 v5 x1 st σ hb => q_go e84_58 rfl (q_s1 hb rfl (Nat.le_of_ble_eq_true rfl)),
  fun v0 v1 v2 v3 x1 x9 st σ => q_iinc e84_60 rfl rfl (by decide),
  fun v0 v1 v2 v3 v4 v5 st σ => q_goto e84_63 rfl,
  fun v0 v1 v2 v3 v4 v5 st σ => q_bipush e84_66 (by decide),
  fun v0 v1 v2 v3 v4 v5 x1 σ => q_iret e84_68 r_84⟩
theorem E84 {ro : ma_RO} {d : Nat} (a0 : Nat) (x1 : Int32) (x2 : Int32) (sh : List ma_Sh) (σ : ma_H) : ma_ev ro d 84 [.ref a0, .int x1, .int x2] sh σ = ma_rn ro d 84 (0, [some (.ref a0), some (.int x1), some (.int x2), none, none, none], [], sh, σ) := q_ent x_84 rfl
theorem e85_0 : decode (ma_cd 85) 0 = .ok (.aload_n 0, 1) := (congrArg (fun b => decode b 0) cd_85).trans dX7_image_0
theorem e85_1 : decode (ma_cd 85) 1 = .ok (.getfield 18, 3) := (congrArg (fun b => decode b 1) cd_85).trans dX7_image_1
theorem e85_4 : decode (ma_cd 85) 4 = .ok (.aload_n 0, 1) := (congrArg (fun b => decode b 4) cd_85).trans dX7_image_4
theorem e85_5 : decode (ma_cd 85) 5 = .ok (.getfield 12, 3) := (congrArg (fun b => decode b 5) cd_85).trans dX7_image_5
theorem e85_8 : decode (ma_cd 85) 8 = .ok (.invokevirtual 259, 3) := (congrArg (fun b => decode b 8) cd_85).trans dX7_image_8
theorem e85_11 : decode (ma_cd 85) 11 = .ok (.aload_n 0, 1) := (congrArg (fun b => decode b 11) cd_85).trans dX7_image_11
theorem e85_12 : decode (ma_cd 85) 12 = .ok (.iconst 1, 1) := (congrArg (fun b => decode b 12) cd_85).trans dX7_image_12
theorem e85_13 : decode (ma_cd 85) 13 = .ok (.putfield 262, 3) := (congrArg (fun b => decode b 13) cd_85).trans dX7_image_13
theorem e85_16 : decode (ma_cd 85) 16 = .ok (.aload_n 0, 1) := (congrArg (fun b => decode b 16) cd_85).trans dX7_image_16
theorem e85_17 : decode (ma_cd 85) 17 = .ok (.getfield 12, 3) := (congrArg (fun b => decode b 17) cd_85).trans dX7_image_17
theorem e85_20 : decode (ma_cd 85) 20 = .ok (.getfield 93, 3) := (congrArg (fun b => decode b 20) cd_85).trans dX7_image_20
theorem e85_23 : decode (ma_cd 85) 23 = .ok (.getfield 99, 3) := (congrArg (fun b => decode b 23) cd_85).trans dX7_image_23
theorem e85_26 : decode (ma_cd 85) 26 = .ok (.ireturn, 1) := (congrArg (fun b => decode b 26) cd_85).trans dX7_image_26
theorem S85 {ro : ma_RO} {d : Nat} : (∀ (a1 : Nat) (st : List Value) (σ : ma_H), ma_rn ro d 85 (0, [some (.ref a1)], st, SH, σ) = ma_rn ro d 85 (1, [some (.ref a1)], .ref a1 :: st, SH, σ)) ∧
  (∀ (v0 : Option Value) (a1 : Nat) (st : List Value) (σ : ma_H) (hc : hk_cls a1 = 7), ma_rn ro d 85 (1, [v0], .ref a1 :: st, SH, σ) = ma_rn ro d 85 (4, [v0], .ref (33) :: st, SH, σ)) ∧
  (∀ (a1 : Nat) (st : List Value) (σ : ma_H), ma_rn ro d 85 (4, [some (.ref a1)], st, SH, σ) = ma_rn ro d 85 (5, [some (.ref a1)], .ref a1 :: st, SH, σ)) ∧
  (∀ (v0 : Option Value) (a1 : Nat) (st : List Value) (σ : ma_H) (hc : hk_cls a1 = 7), ma_rn ro d 85 (5, [v0], .ref a1 :: st, SH, σ) = ma_rn ro d 85 (8, [v0], .ref (1) :: st, SH, σ)) ∧
  (∀ (v0 : Option Value) (a1 : Nat) (a0 : Nat) (σ : ma_H) (hc : hk_cls a0 = 5), ma_rn ro (d + 1) 85 (8, [v0], .ref a1 :: .ref a0 :: [], SH, σ) = (ma_ev ro d 48 [.ref a0, .ref a1] SH σ).bind (fun q => ma_rn ro (d + 1) 85 (11, [v0], (q.1.toList ++ []), q.2.1, q.2.2))) ∧
  (∀ (a1 : Nat) (st : List Value) (σ : ma_H), ma_rn ro d 85 (11, [some (.ref a1)], st, SH, σ) = ma_rn ro d 85 (12, [some (.ref a1)], .ref a1 :: st, SH, σ)) ∧
  (∀ (v0 : Option Value) (st : List Value) (σ : ma_H), ma_rn ro d 85 (12, [v0], st, SH, σ) = ma_rn ro d 85 (13, [v0], .int (nI 1) :: st, SH, σ)) ∧
  (∀ (v0 : Option Value) (x1 : Int32) (a2 : Nat) (st : List Value) (σ : ma_H) (hx : ma_fitI .boolean x1 = true) (hc : hk_cls a2 = 7), ma_rn ro d 85 (13, [v0], .int x1 :: .ref a2 :: st, SH, σ) = ma_rn ro d 85 (16, [v0], st, SH, (ma_up σ a2 2 x1))) ∧
  (∀ (a1 : Nat) (st : List Value) (σ : ma_H), ma_rn ro d 85 (16, [some (.ref a1)], st, SH, σ) = ma_rn ro d 85 (17, [some (.ref a1)], .ref a1 :: st, SH, σ)) ∧
  (∀ (v0 : Option Value) (a1 : Nat) (st : List Value) (σ : ma_H) (hc : hk_cls a1 = 7), ma_rn ro d 85 (17, [v0], .ref a1 :: st, SH, σ) = ma_rn ro d 85 (20, [v0], .ref (1) :: st, SH, σ)) ∧
  (∀ (v0 : Option Value) (a1 : Nat) (st : List Value) (σ : ma_H) (hc : hk_cls a1 = 5), ma_rn ro d 85 (20, [v0], .ref a1 :: st, SH, σ) = ma_rn ro d 85 (23, [v0], .ref (a1 + 1) :: st, SH, σ)) ∧
  (∀ (v0 : Option Value) (a1 : Nat) (st : List Value) (σ : ma_H) (hc : hk_cls a1 = 6), ma_rn ro d 85 (23, [v0], .ref a1 :: st, SH, σ) = ma_rn ro d 85 (26, [v0], .int (σ a1 1) :: st, SH, σ)) ∧
  (∀ (v0 : Option Value) (x1 : Int32) (σ : ma_H), ma_rn ro d 85 (26, [v0], [.int x1], SH, σ) = some (some (.int x1), SH, σ)) := ⟨fun a1 st σ => q_go e85_0 rfl rfl,
  fun v0 a1 st σ hc => q_getA e85_1 o_85 f_7_18 (by decide) hc,
  fun a1 st σ => q_go e85_4 rfl rfl,
  fun v0 a1 st σ hc => q_getA e85_5 o_85 f_7_12 (by decide) hc,
  fun v0 a1 a0 σ hc => q_invV (as := [.ref a1]) (rest := []) e85_8 o_85 bn_7_259 c_7_259 m_48 (by decide) rfl rfl (Nat.le_of_ble_eq_true rfl) (Nat.le_of_ble_eq_true rfl) hc,
  fun a1 st σ => q_go e85_11 rfl rfl,
  fun v0 st σ => q_iconst e85_12 (by decide),
  fun v0 x1 a2 st σ hx hc => q_putI e85_13 o_85 f_7_262 (by decide) hx hc,
  fun a1 st σ => q_go e85_16 rfl rfl,
  fun v0 a1 st σ hc => q_getA e85_17 o_85 f_7_12 (by decide) hc,
  fun v0 a1 st σ hc => q_getA e85_20 o_85 f_7_93 (by decide) hc,
  fun v0 a1 st σ hc => q_getI e85_23 o_85 f_7_99 (by decide) hc,
  fun v0 x1 σ => q_iret e85_26 r_85⟩
theorem E85 {ro : ma_RO} {d : Nat} (a0 : Nat) (sh : List ma_Sh) (σ : ma_H) : ma_ev ro d 85 [.ref a0] sh σ = ma_rn ro d 85 (0, [some (.ref a0)], [], sh, σ) := q_ent x_85 rfl
theorem e86_0 : decode (ma_cd 86) 0 = .ok (.aload_n 0, 1) := (congrArg (fun b => decode b 0) cd_86).trans dX7_undo_0
theorem e86_1 : decode (ma_cd 86) 1 = .ok (.getfield 262, 3) := (congrArg (fun b => decode b 1) cd_86).trans dX7_undo_1
theorem e86_4 : decode (ma_cd 86) 4 = .ok (.ifCond .ne 6, 3) := (congrArg (fun b => decode b 4) cd_86).trans dX7_undo_4
theorem e86_7 : decode (ma_cd 86) 7 = .ok (.bipush (-3), 2) := (congrArg (fun b => decode b 7) cd_86).trans dX7_undo_7
theorem e86_9 : decode (ma_cd 86) 9 = .ok (.ireturn, 1) := (congrArg (fun b => decode b 9) cd_86).trans dX7_undo_9
theorem e86_10 : decode (ma_cd 86) 10 = .ok (.aload_n 0, 1) := (congrArg (fun b => decode b 10) cd_86).trans dX7_undo_10
theorem e86_11 : decode (ma_cd 86) 11 = .ok (.getfield 12, 3) := (congrArg (fun b => decode b 11) cd_86).trans dX7_undo_11
theorem e86_14 : decode (ma_cd 86) 14 = .ok (.aload_n 0, 1) := (congrArg (fun b => decode b 14) cd_86).trans dX7_undo_14
theorem e86_15 : decode (ma_cd 86) 15 = .ok (.getfield 18, 3) := (congrArg (fun b => decode b 15) cd_86).trans dX7_undo_15
theorem e86_18 : decode (ma_cd 86) 18 = .ok (.invokevirtual 259, 3) := (congrArg (fun b => decode b 18) cd_86).trans dX7_undo_18
theorem e86_21 : decode (ma_cd 86) 21 = .ok (.aload_n 0, 1) := (congrArg (fun b => decode b 21) cd_86).trans dX7_undo_21
theorem e86_22 : decode (ma_cd 86) 22 = .ok (.getfield 12, 3) := (congrArg (fun b => decode b 22) cd_86).trans dX7_undo_22
theorem e86_25 : decode (ma_cd 86) 25 = .ok (.getfield 93, 3) := (congrArg (fun b => decode b 25) cd_86).trans dX7_undo_25
theorem e86_28 : decode (ma_cd 86) 28 = .ok (.getfield 99, 3) := (congrArg (fun b => decode b 28) cd_86).trans dX7_undo_28
theorem e86_31 : decode (ma_cd 86) 31 = .ok (.ireturn, 1) := (congrArg (fun b => decode b 31) cd_86).trans dX7_undo_31
theorem S86 {ro : ma_RO} {d : Nat} : (∀ (a1 : Nat) (st : List Value) (σ : ma_H), ma_rn ro d 86 (0, [some (.ref a1)], st, SH, σ) = ma_rn ro d 86 (1, [some (.ref a1)], .ref a1 :: st, SH, σ)) ∧
  (∀ (v0 : Option Value) (a1 : Nat) (st : List Value) (σ : ma_H) (hc : hk_cls a1 = 7), ma_rn ro d 86 (1, [v0], .ref a1 :: st, SH, σ) = ma_rn ro d 86 (4, [v0], .int (σ a1 2) :: st, SH, σ)) ∧
  (∀ (v0 : Option Value) (x1 : Int32) (st : List Value) (σ : ma_H), ma_rn ro d 86 (4, [v0], .int x1 :: st, SH, σ) = if x1 = nI 0 then ma_rn ro d 86 (7, [v0], st, SH, σ) else ma_rn ro d 86 (10, [v0], st, SH, σ)) ∧
  (∀ (v0 : Option Value) (st : List Value) (σ : ma_H), ma_rn ro d 86 (7, [v0], st, SH, σ) = ma_rn ro d 86 (9, [v0], .int ((-3)) :: st, SH, σ)) ∧
  (∀ (v0 : Option Value) (x1 : Int32) (σ : ma_H), ma_rn ro d 86 (9, [v0], [.int x1], SH, σ) = some (some (.int x1), SH, σ)) ∧
  (∀ (a1 : Nat) (st : List Value) (σ : ma_H), ma_rn ro d 86 (10, [some (.ref a1)], st, SH, σ) = ma_rn ro d 86 (11, [some (.ref a1)], .ref a1 :: st, SH, σ)) ∧
  (∀ (v0 : Option Value) (a1 : Nat) (st : List Value) (σ : ma_H) (hc : hk_cls a1 = 7), ma_rn ro d 86 (11, [v0], .ref a1 :: st, SH, σ) = ma_rn ro d 86 (14, [v0], .ref (1) :: st, SH, σ)) ∧
  (∀ (a1 : Nat) (st : List Value) (σ : ma_H), ma_rn ro d 86 (14, [some (.ref a1)], st, SH, σ) = ma_rn ro d 86 (15, [some (.ref a1)], .ref a1 :: st, SH, σ)) ∧
  (∀ (v0 : Option Value) (a1 : Nat) (st : List Value) (σ : ma_H) (hc : hk_cls a1 = 7), ma_rn ro d 86 (15, [v0], .ref a1 :: st, SH, σ) = ma_rn ro d 86 (18, [v0], .ref (33) :: st, SH, σ)) ∧
  (∀ (v0 : Option Value) (a1 : Nat) (a0 : Nat) (σ : ma_H) (hc : hk_cls a0 = 5), ma_rn ro (d + 1) 86 (18, [v0], .ref a1 :: .ref a0 :: [], SH, σ) = (ma_ev ro d 48 [.ref a0, .ref a1] SH σ).bind (fun q => ma_rn ro (d + 1) 86 (21, [v0], (q.1.toList ++ []), q.2.1, q.2.2))) ∧
  (∀ (a1 : Nat) (st : List Value) (σ : ma_H), ma_rn ro d 86 (21, [some (.ref a1)], st, SH, σ) = ma_rn ro d 86 (22, [some (.ref a1)], .ref a1 :: st, SH, σ)) ∧
  (∀ (v0 : Option Value) (a1 : Nat) (st : List Value) (σ : ma_H) (hc : hk_cls a1 = 7), ma_rn ro d 86 (22, [v0], .ref a1 :: st, SH, σ) = ma_rn ro d 86 (25, [v0], .ref (1) :: st, SH, σ)) ∧
  (∀ (v0 : Option Value) (a1 : Nat) (st : List Value) (σ : ma_H) (hc : hk_cls a1 = 5), ma_rn ro d 86 (25, [v0], .ref a1 :: st, SH, σ) = ma_rn ro d 86 (28, [v0], .ref (a1 + 1) :: st, SH, σ)) ∧
  (∀ (v0 : Option Value) (a1 : Nat) (st : List Value) (σ : ma_H) (hc : hk_cls a1 = 6), ma_rn ro d 86 (28, [v0], .ref a1 :: st, SH, σ) = ma_rn ro d 86 (31, [v0], .int (σ a1 1) :: st, SH, σ)) ∧
  (∀ (v0 : Option Value) (x1 : Int32) (σ : ma_H), ma_rn ro d 86 (31, [v0], [.int x1], SH, σ) = some (some (.int x1), SH, σ)) := ⟨fun a1 st σ => q_go e86_0 rfl rfl,
  fun v0 a1 st σ hc => q_getI e86_1 o_86 f_7_262 (by decide) hc,
  fun v0 x1 st σ => (q_if e86_4 rfl).trans q_ne,
  fun v0 st σ => q_bipush e86_7 (by decide),
  fun v0 x1 σ => q_iret e86_9 r_86,
  fun a1 st σ => q_go e86_10 rfl rfl,
  fun v0 a1 st σ hc => q_getA e86_11 o_86 f_7_12 (by decide) hc,
  fun a1 st σ => q_go e86_14 rfl rfl,
  fun v0 a1 st σ hc => q_getA e86_15 o_86 f_7_18 (by decide) hc,
  fun v0 a1 a0 σ hc => q_invV (as := [.ref a1]) (rest := []) e86_18 o_86 bn_7_259 c_7_259 m_48 (by decide) rfl rfl (Nat.le_of_ble_eq_true rfl) (Nat.le_of_ble_eq_true rfl) hc,
  fun a1 st σ => q_go e86_21 rfl rfl,
  fun v0 a1 st σ hc => q_getA e86_22 o_86 f_7_12 (by decide) hc,
  fun v0 a1 st σ hc => q_getA e86_25 o_86 f_7_93 (by decide) hc,
  fun v0 a1 st σ hc => q_getI e86_28 o_86 f_7_99 (by decide) hc,
  fun v0 x1 σ => q_iret e86_31 r_86⟩
theorem E86 {ro : ma_RO} {d : Nat} (a0 : Nat) (sh : List ma_Sh) (σ : ma_H) : ma_ev ro d 86 [.ref a0] sh σ = ma_rn ro d 86 (0, [some (.ref a0)], [], sh, σ) := q_ent x_86 rfl
theorem e87_0 : decode (ma_cd 87) 0 = .ok (.iload_n 1, 1) := (congrArg (fun b => decode b 0) cd_87).trans dX7_count_0
theorem e87_1 : decode (ma_cd 87) 1 = .ok (.tableswitch 111 0 6 #[43, 54, 62, 73, 84, 95, 103], 43) := (congrArg (fun b => decode b 1) cd_87).trans dX7_count_1
theorem e87_44 : decode (ma_cd 87) 44 = .ok (.aload_n 0, 1) := (congrArg (fun b => decode b 44) cd_87).trans dX7_count_44
theorem e87_45 : decode (ma_cd 87) 45 = .ok (.getfield 12, 3) := (congrArg (fun b => decode b 45) cd_87).trans dX7_count_45
theorem e87_48 : decode (ma_cd 87) 48 = .ok (.getfield 93, 3) := (congrArg (fun b => decode b 48) cd_87).trans dX7_count_48
theorem e87_51 : decode (ma_cd 87) 51 = .ok (.getfield 99, 3) := (congrArg (fun b => decode b 51) cd_87).trans dX7_count_51
theorem e87_54 : decode (ma_cd 87) 54 = .ok (.ireturn, 1) := (congrArg (fun b => decode b 54) cd_87).trans dX7_count_54
theorem e87_55 : decode (ma_cd 87) 55 = .ok (.aload_n 0, 1) := (congrArg (fun b => decode b 55) cd_87).trans dX7_count_55
theorem e87_56 : decode (ma_cd 87) 56 = .ok (.getfield 12, 3) := (congrArg (fun b => decode b 56) cd_87).trans dX7_count_56
theorem e87_59 : decode (ma_cd 87) 59 = .ok (.getfield 79, 3) := (congrArg (fun b => decode b 59) cd_87).trans dX7_count_59
theorem e87_62 : decode (ma_cd 87) 62 = .ok (.ireturn, 1) := (congrArg (fun b => decode b 62) cd_87).trans dX7_count_62
theorem e87_63 : decode (ma_cd 87) 63 = .ok (.aload_n 0, 1) := (congrArg (fun b => decode b 63) cd_87).trans dX7_count_63
theorem e87_64 : decode (ma_cd 87) 64 = .ok (.getfield 12, 3) := (congrArg (fun b => decode b 64) cd_87).trans dX7_count_64
theorem e87_67 : decode (ma_cd 87) 67 = .ok (.getfield 193, 3) := (congrArg (fun b => decode b 67) cd_87).trans dX7_count_67
theorem e87_70 : decode (ma_cd 87) 70 = .ok (.getfield 197, 3) := (congrArg (fun b => decode b 70) cd_87).trans dX7_count_70
theorem e87_73 : decode (ma_cd 87) 73 = .ok (.ireturn, 1) := (congrArg (fun b => decode b 73) cd_87).trans dX7_count_73
theorem e87_74 : decode (ma_cd 87) 74 = .ok (.aload_n 0, 1) := (congrArg (fun b => decode b 74) cd_87).trans dX7_count_74
theorem e87_75 : decode (ma_cd 87) 75 = .ok (.getfield 12, 3) := (congrArg (fun b => decode b 75) cd_87).trans dX7_count_75
theorem e87_78 : decode (ma_cd 87) 78 = .ok (.getfield 225, 3) := (congrArg (fun b => decode b 78) cd_87).trans dX7_count_78
theorem e87_81 : decode (ma_cd 87) 81 = .ok (.getfield 197, 3) := (congrArg (fun b => decode b 81) cd_87).trans dX7_count_81
theorem e87_84 : decode (ma_cd 87) 84 = .ok (.ireturn, 1) := (congrArg (fun b => decode b 84) cd_87).trans dX7_count_84
theorem e87_85 : decode (ma_cd 87) 85 = .ok (.aload_n 0, 1) := (congrArg (fun b => decode b 85) cd_87).trans dX7_count_85
theorem e87_86 : decode (ma_cd 87) 86 = .ok (.getfield 12, 3) := (congrArg (fun b => decode b 86) cd_87).trans dX7_count_86
theorem e87_89 : decode (ma_cd 87) 89 = .ok (.getfield 237, 3) := (congrArg (fun b => decode b 89) cd_87).trans dX7_count_89
theorem e87_92 : decode (ma_cd 87) 92 = .ok (.getfield 197, 3) := (congrArg (fun b => decode b 92) cd_87).trans dX7_count_92
theorem e87_95 : decode (ma_cd 87) 95 = .ok (.ireturn, 1) := (congrArg (fun b => decode b 95) cd_87).trans dX7_count_95
theorem e87_96 : decode (ma_cd 87) 96 = .ok (.aload_n 0, 1) := (congrArg (fun b => decode b 96) cd_87).trans dX7_count_96
theorem e87_97 : decode (ma_cd 87) 97 = .ok (.getfield 12, 3) := (congrArg (fun b => decode b 97) cd_87).trans dX7_count_97
theorem e87_100 : decode (ma_cd 87) 100 = .ok (.getfield 75, 3) := (congrArg (fun b => decode b 100) cd_87).trans dX7_count_100
theorem e87_103 : decode (ma_cd 87) 103 = .ok (.ireturn, 1) := (congrArg (fun b => decode b 103) cd_87).trans dX7_count_103
theorem e87_104 : decode (ma_cd 87) 104 = .ok (.aload_n 0, 1) := (congrArg (fun b => decode b 104) cd_87).trans dX7_count_104
theorem e87_105 : decode (ma_cd 87) 105 = .ok (.getfield 56, 3) := (congrArg (fun b => decode b 105) cd_87).trans dX7_count_105
theorem e87_108 : decode (ma_cd 87) 108 = .ok (.getfield 240, 3) := (congrArg (fun b => decode b 108) cd_87).trans dX7_count_108
theorem e87_111 : decode (ma_cd 87) 111 = .ok (.ireturn, 1) := (congrArg (fun b => decode b 111) cd_87).trans dX7_count_111
theorem e87_112 : decode (ma_cd 87) 112 = .ok (.iconst (-1), 1) := (congrArg (fun b => decode b 112) cd_87).trans dX7_count_112
theorem e87_113 : decode (ma_cd 87) 113 = .ok (.ireturn, 1) := (congrArg (fun b => decode b 113) cd_87).trans dX7_count_113
theorem S87 {ro : ma_RO} {d : Nat} : (∀ (v0 : Option Value) (x1 : Int32) (st : List Value) (σ : ma_H), ma_rn ro d 87 (0, [v0, some (.int x1)], st, SH, σ) = ma_rn ro d 87 (1, [v0, some (.int x1)], .int x1 :: st, SH, σ)) ∧
  (∀ (v0 : Option Value) (v1 : Option Value) (x1 : Int32) (st : List Value) (σ : ma_H), ma_rn ro d 87 (1, [v0, v1], .int x1 :: st, SH, σ) = if x1 = nI 0 then ma_rn ro d 87 (44, [v0, v1], st, SH, σ) else if x1 = nI 1 then ma_rn ro d 87 (55, [v0, v1], st, SH, σ) else if x1 = nI 2 then ma_rn ro d 87 (63, [v0, v1], st, SH, σ) else if x1 = nI 3 then ma_rn ro d 87 (74, [v0, v1], st, SH, σ) else if x1 = nI 4 then ma_rn ro d 87 (85, [v0, v1], st, SH, σ) else if x1 = nI 5 then ma_rn ro d 87 (96, [v0, v1], st, SH, σ) else if x1 = nI 6 then ma_rn ro d 87 (104, [v0, v1], st, SH, σ) else ma_rn ro d 87 (112, [v0, v1], st, SH, σ)) ∧
  (∀ (v1 : Option Value) (a1 : Nat) (st : List Value) (σ : ma_H), ma_rn ro d 87 (44, [some (.ref a1), v1], st, SH, σ) = ma_rn ro d 87 (45, [some (.ref a1), v1], .ref a1 :: st, SH, σ)) ∧
  (∀ (v0 : Option Value) (v1 : Option Value) (a1 : Nat) (st : List Value) (σ : ma_H) (hc : hk_cls a1 = 7), ma_rn ro d 87 (45, [v0, v1], .ref a1 :: st, SH, σ) = ma_rn ro d 87 (48, [v0, v1], .ref (1) :: st, SH, σ)) ∧
  (∀ (v0 : Option Value) (v1 : Option Value) (a1 : Nat) (st : List Value) (σ : ma_H) (hc : hk_cls a1 = 5), ma_rn ro d 87 (48, [v0, v1], .ref a1 :: st, SH, σ) = ma_rn ro d 87 (51, [v0, v1], .ref (a1 + 1) :: st, SH, σ)) ∧
  (∀ (v0 : Option Value) (v1 : Option Value) (a1 : Nat) (st : List Value) (σ : ma_H) (hc : hk_cls a1 = 6), ma_rn ro d 87 (51, [v0, v1], .ref a1 :: st, SH, σ) = ma_rn ro d 87 (54, [v0, v1], .int (σ a1 1) :: st, SH, σ)) ∧
  (∀ (v0 : Option Value) (v1 : Option Value) (x1 : Int32) (σ : ma_H), ma_rn ro d 87 (54, [v0, v1], [.int x1], SH, σ) = some (some (.int x1), SH, σ)) ∧
  (∀ (v1 : Option Value) (a1 : Nat) (st : List Value) (σ : ma_H), ma_rn ro d 87 (55, [some (.ref a1), v1], st, SH, σ) = ma_rn ro d 87 (56, [some (.ref a1), v1], .ref a1 :: st, SH, σ)) ∧
  (∀ (v0 : Option Value) (v1 : Option Value) (a1 : Nat) (st : List Value) (σ : ma_H) (hc : hk_cls a1 = 7), ma_rn ro d 87 (56, [v0, v1], .ref a1 :: st, SH, σ) = ma_rn ro d 87 (59, [v0, v1], .ref (1) :: st, SH, σ)) ∧
  (∀ (v0 : Option Value) (v1 : Option Value) (a1 : Nat) (st : List Value) (σ : ma_H) (hc : hk_cls a1 = 5), ma_rn ro d 87 (59, [v0, v1], .ref a1 :: st, SH, σ) = ma_rn ro d 87 (62, [v0, v1], .int (σ a1 2) :: st, SH, σ)) ∧
  (∀ (v0 : Option Value) (v1 : Option Value) (x1 : Int32) (σ : ma_H), ma_rn ro d 87 (62, [v0, v1], [.int x1], SH, σ) = some (some (.int x1), SH, σ)) ∧
  (∀ (v1 : Option Value) (a1 : Nat) (st : List Value) (σ : ma_H), ma_rn ro d 87 (63, [some (.ref a1), v1], st, SH, σ) = ma_rn ro d 87 (64, [some (.ref a1), v1], .ref a1 :: st, SH, σ)) ∧
  (∀ (v0 : Option Value) (v1 : Option Value) (a1 : Nat) (st : List Value) (σ : ma_H) (hc : hk_cls a1 = 7), ma_rn ro d 87 (64, [v0, v1], .ref a1 :: st, SH, σ) = ma_rn ro d 87 (67, [v0, v1], .ref (1) :: st, SH, σ)) ∧
  (∀ (v0 : Option Value) (v1 : Option Value) (a1 : Nat) (st : List Value) (σ : ma_H) (hc : hk_cls a1 = 5), ma_rn ro d 87 (67, [v0, v1], .ref a1 :: st, SH, σ) = ma_rn ro d 87 (70, [v0, v1], .ref (a1 + 20) :: st, SH, σ)) ∧
  (∀ (v0 : Option Value) (v1 : Option Value) (a1 : Nat) (st : List Value) (σ : ma_H) (hc : hk_cls a1 = 4), ma_rn ro d 87 (70, [v0, v1], .ref a1 :: st, SH, σ) = ma_rn ro d 87 (73, [v0, v1], .int (σ a1 3) :: st, SH, σ)) ∧
  (∀ (v0 : Option Value) (v1 : Option Value) (x1 : Int32) (σ : ma_H), ma_rn ro d 87 (73, [v0, v1], [.int x1], SH, σ) = some (some (.int x1), SH, σ)) ∧
  (∀ (v1 : Option Value) (a1 : Nat) (st : List Value) (σ : ma_H), ma_rn ro d 87 (74, [some (.ref a1), v1], st, SH, σ) = ma_rn ro d 87 (75, [some (.ref a1), v1], .ref a1 :: st, SH, σ)) ∧
  (∀ (v0 : Option Value) (v1 : Option Value) (a1 : Nat) (st : List Value) (σ : ma_H) (hc : hk_cls a1 = 7), ma_rn ro d 87 (75, [v0, v1], .ref a1 :: st, SH, σ) = ma_rn ro d 87 (78, [v0, v1], .ref (1) :: st, SH, σ)) ∧
  (∀ (v0 : Option Value) (v1 : Option Value) (a1 : Nat) (st : List Value) (σ : ma_H) (hc : hk_cls a1 = 5), ma_rn ro d 87 (78, [v0, v1], .ref a1 :: st, SH, σ) = ma_rn ro d 87 (81, [v0, v1], .ref (a1 + 24) :: st, SH, σ)) ∧
  (∀ (v0 : Option Value) (v1 : Option Value) (a1 : Nat) (st : List Value) (σ : ma_H) (hc : hk_cls a1 = 4), ma_rn ro d 87 (81, [v0, v1], .ref a1 :: st, SH, σ) = ma_rn ro d 87 (84, [v0, v1], .int (σ a1 3) :: st, SH, σ)) ∧
  (∀ (v0 : Option Value) (v1 : Option Value) (x1 : Int32) (σ : ma_H), ma_rn ro d 87 (84, [v0, v1], [.int x1], SH, σ) = some (some (.int x1), SH, σ)) ∧
  (∀ (v1 : Option Value) (a1 : Nat) (st : List Value) (σ : ma_H), ma_rn ro d 87 (85, [some (.ref a1), v1], st, SH, σ) = ma_rn ro d 87 (86, [some (.ref a1), v1], .ref a1 :: st, SH, σ)) ∧
  (∀ (v0 : Option Value) (v1 : Option Value) (a1 : Nat) (st : List Value) (σ : ma_H) (hc : hk_cls a1 = 7), ma_rn ro d 87 (86, [v0, v1], .ref a1 :: st, SH, σ) = ma_rn ro d 87 (89, [v0, v1], .ref (1) :: st, SH, σ)) ∧
  (∀ (v0 : Option Value) (v1 : Option Value) (a1 : Nat) (st : List Value) (σ : ma_H) (hc : hk_cls a1 = 5), ma_rn ro d 87 (89, [v0, v1], .ref a1 :: st, SH, σ) = ma_rn ro d 87 (92, [v0, v1], .ref (a1 + 28) :: st, SH, σ)) ∧
  (∀ (v0 : Option Value) (v1 : Option Value) (a1 : Nat) (st : List Value) (σ : ma_H) (hc : hk_cls a1 = 4), ma_rn ro d 87 (92, [v0, v1], .ref a1 :: st, SH, σ) = ma_rn ro d 87 (95, [v0, v1], .int (σ a1 3) :: st, SH, σ)) ∧
  (∀ (v0 : Option Value) (v1 : Option Value) (x1 : Int32) (σ : ma_H), ma_rn ro d 87 (95, [v0, v1], [.int x1], SH, σ) = some (some (.int x1), SH, σ)) ∧
  (∀ (v1 : Option Value) (a1 : Nat) (st : List Value) (σ : ma_H), ma_rn ro d 87 (96, [some (.ref a1), v1], st, SH, σ) = ma_rn ro d 87 (97, [some (.ref a1), v1], .ref a1 :: st, SH, σ)) ∧
  (∀ (v0 : Option Value) (v1 : Option Value) (a1 : Nat) (st : List Value) (σ : ma_H) (hc : hk_cls a1 = 7), ma_rn ro d 87 (97, [v0, v1], .ref a1 :: st, SH, σ) = ma_rn ro d 87 (100, [v0, v1], .ref (1) :: st, SH, σ)) ∧
  (∀ (v0 : Option Value) (v1 : Option Value) (a1 : Nat) (st : List Value) (σ : ma_H) (hc : hk_cls a1 = 5), ma_rn ro d 87 (100, [v0, v1], .ref a1 :: st, SH, σ) = ma_rn ro d 87 (103, [v0, v1], .int (σ a1 4) :: st, SH, σ)) ∧
  (∀ (v0 : Option Value) (v1 : Option Value) (x1 : Int32) (σ : ma_H), ma_rn ro d 87 (103, [v0, v1], [.int x1], SH, σ) = some (some (.int x1), SH, σ)) ∧
  (∀ (v1 : Option Value) (a1 : Nat) (st : List Value) (σ : ma_H), ma_rn ro d 87 (104, [some (.ref a1), v1], st, SH, σ) = ma_rn ro d 87 (105, [some (.ref a1), v1], .ref a1 :: st, SH, σ)) ∧
  (∀ (v0 : Option Value) (v1 : Option Value) (a1 : Nat) (st : List Value) (σ : ma_H) (hc : hk_cls a1 = 7), ma_rn ro d 87 (105, [v0, v1], .ref a1 :: st, SH, σ) = ma_rn ro d 87 (108, [v0, v1], .ref (86) :: st, SH, σ)) ∧
  (∀ (v0 : Option Value) (v1 : Option Value) (a1 : Nat) (st : List Value) (σ : ma_H) (hc : hk_cls a1 = 0), ma_rn ro d 87 (108, [v0, v1], .ref a1 :: st, SH, σ) = ma_rn ro d 87 (111, [v0, v1], .int (σ a1 1) :: st, SH, σ)) ∧
  (∀ (v0 : Option Value) (v1 : Option Value) (x1 : Int32) (σ : ma_H), ma_rn ro d 87 (111, [v0, v1], [.int x1], SH, σ) = some (some (.int x1), SH, σ)) ∧
  (∀ (v0 : Option Value) (v1 : Option Value) (st : List Value) (σ : ma_H), ma_rn ro d 87 (112, [v0, v1], st, SH, σ) = ma_rn ro d 87 (113, [v0, v1], .int ((-1)) :: st, SH, σ)) ∧
  (∀ (v0 : Option Value) (v1 : Option Value) (x1 : Int32) (σ : ma_H), ma_rn ro d 87 (113, [v0, v1], [.int x1], SH, σ) = some (some (.int x1), SH, σ)) := ⟨fun v0 x1 st σ => q_go e87_0 rfl rfl,
  fun v0 v1 x1 st σ => by
    by_cases h0 : x1 = nI 0
    · rw [if_pos h0]; exact q_tswIn e87_1 h0 (k := 0) (by decide) (by decide) (by decide) rfl rfl
    rw [if_neg h0]
    by_cases h1 : x1 = nI 1
    · rw [if_pos h1]; exact q_tswIn e87_1 h1 (k := 1) (by decide) (by decide) (by decide) rfl rfl
    rw [if_neg h1]
    by_cases h2 : x1 = nI 2
    · rw [if_pos h2]; exact q_tswIn e87_1 h2 (k := 2) (by decide) (by decide) (by decide) rfl rfl
    rw [if_neg h2]
    by_cases h3 : x1 = nI 3
    · rw [if_pos h3]; exact q_tswIn e87_1 h3 (k := 3) (by decide) (by decide) (by decide) rfl rfl
    rw [if_neg h3]
    by_cases h4 : x1 = nI 4
    · rw [if_pos h4]; exact q_tswIn e87_1 h4 (k := 4) (by decide) (by decide) (by decide) rfl rfl
    rw [if_neg h4]
    by_cases h5 : x1 = nI 5
    · rw [if_pos h5]; exact q_tswIn e87_1 h5 (k := 5) (by decide) (by decide) (by decide) rfl rfl
    rw [if_neg h5]
    by_cases h6 : x1 = nI 6
    · rw [if_pos h6]; exact q_tswIn e87_1 h6 (k := 6) (by decide) (by decide) (by decide) rfl rfl
    rw [if_neg h6]
    have g0 := q_nnI h0 (by decide)
    have g1 := q_nnI h1 (by decide)
    have g2 := q_nnI h2 (by decide)
    have g3 := q_nnI h3 (by decide)
    have g4 := q_nnI h4 (by decide)
    have g5 := q_nnI h5 (by decide)
    have g6 := q_nnI h6 (by decide)
    exact q_tswOut e87_1 (by omega) rfl,
  fun v1 a1 st σ => q_go e87_44 rfl rfl,
  fun v0 v1 a1 st σ hc => q_getA e87_45 o_87 f_7_12 (by decide) hc,
  fun v0 v1 a1 st σ hc => q_getA e87_48 o_87 f_7_93 (by decide) hc,
  fun v0 v1 a1 st σ hc => q_getI e87_51 o_87 f_7_99 (by decide) hc,
  fun v0 v1 x1 σ => q_iret e87_54 r_87,
  fun v1 a1 st σ => q_go e87_55 rfl rfl,
  fun v0 v1 a1 st σ hc => q_getA e87_56 o_87 f_7_12 (by decide) hc,
  fun v0 v1 a1 st σ hc => q_getI e87_59 o_87 f_7_79 (by decide) hc,
  fun v0 v1 x1 σ => q_iret e87_62 r_87,
  fun v1 a1 st σ => q_go e87_63 rfl rfl,
  fun v0 v1 a1 st σ hc => q_getA e87_64 o_87 f_7_12 (by decide) hc,
  fun v0 v1 a1 st σ hc => q_getA e87_67 o_87 f_7_193 (by decide) hc,
  fun v0 v1 a1 st σ hc => q_getI e87_70 o_87 f_7_197 (by decide) hc,
  fun v0 v1 x1 σ => q_iret e87_73 r_87,
  fun v1 a1 st σ => q_go e87_74 rfl rfl,
  fun v0 v1 a1 st σ hc => q_getA e87_75 o_87 f_7_12 (by decide) hc,
  fun v0 v1 a1 st σ hc => q_getA e87_78 o_87 f_7_225 (by decide) hc,
  fun v0 v1 a1 st σ hc => q_getI e87_81 o_87 f_7_197 (by decide) hc,
  fun v0 v1 x1 σ => q_iret e87_84 r_87,
  fun v1 a1 st σ => q_go e87_85 rfl rfl,
  fun v0 v1 a1 st σ hc => q_getA e87_86 o_87 f_7_12 (by decide) hc,
  fun v0 v1 a1 st σ hc => q_getA e87_89 o_87 f_7_237 (by decide) hc,
  fun v0 v1 a1 st σ hc => q_getI e87_92 o_87 f_7_197 (by decide) hc,
  fun v0 v1 x1 σ => q_iret e87_95 r_87,
  fun v1 a1 st σ => q_go e87_96 rfl rfl,
  fun v0 v1 a1 st σ hc => q_getA e87_97 o_87 f_7_12 (by decide) hc,
  fun v0 v1 a1 st σ hc => q_getI e87_100 o_87 f_7_75 (by decide) hc,
  fun v0 v1 x1 σ => q_iret e87_103 r_87,
  fun v1 a1 st σ => q_go e87_104 rfl rfl,
  fun v0 v1 a1 st σ hc => q_getA e87_105 o_87 f_7_56 (by decide) hc,
  fun v0 v1 a1 st σ hc => q_getI e87_108 o_87 f_7_240 (by decide) hc,
  fun v0 v1 x1 σ => q_iret e87_111 r_87,
  fun v0 v1 st σ => q_iconst e87_112 (by decide),
  fun v0 v1 x1 σ => q_iret e87_113 r_87⟩
theorem E87 {ro : ma_RO} {d : Nat} (a0 : Nat) (x1 : Int32) (sh : List ma_Sh) (σ : ma_H) : ma_ev ro d 87 [.ref a0, .int x1] sh σ = ma_rn ro d 87 (0, [some (.ref a0), some (.int x1)], [], sh, σ) := q_ent x_87 rfl
theorem e88_0 : decode (ma_cd 88) 0 = .ok (.iload_n 0, 1) := (congrArg (fun b => decode b 0) cd_88).trans dX7_isOff_0
theorem e88_1 : decode (ma_cd 88) 1 = .ok (.ifCond .lt 8, 3) := (congrArg (fun b => decode b 1) cd_88).trans dX7_isOff_1
theorem e88_4 : decode (ma_cd 88) 4 = .ok (.iload_n 0, 1) := (congrArg (fun b => decode b 4) cd_88).trans dX7_isOff_4
theorem e88_5 : decode (ma_cd 88) 5 = .ok (.iload_n 1, 1) := (congrArg (fun b => decode b 5) cd_88).trans dX7_isOff_5
theorem e88_6 : decode (ma_cd 88) 6 = .ok (.if_icmp .le 7, 3) := (congrArg (fun b => decode b 6) cd_88).trans dX7_isOff_6
theorem e88_9 : decode (ma_cd 88) 9 = .ok (.iconst 1, 1) := (congrArg (fun b => decode b 9) cd_88).trans dX7_isOff_9
theorem e88_10 : decode (ma_cd 88) 10 = .ok (.goto 4, 3) := (congrArg (fun b => decode b 10) cd_88).trans dX7_isOff_10
theorem e88_13 : decode (ma_cd 88) 13 = .ok (.iconst 0, 1) := (congrArg (fun b => decode b 13) cd_88).trans dX7_isOff_13
theorem e88_14 : decode (ma_cd 88) 14 = .ok (.ireturn, 1) := (congrArg (fun b => decode b 14) cd_88).trans dX7_isOff_14
theorem S88 {ro : ma_RO} {d : Nat} : (∀ (v1 : Option Value) (x1 : Int32) (st : List Value) (σ : ma_H), ma_rn ro d 88 (0, [some (.int x1), v1], st, SH, σ) = ma_rn ro d 88 (1, [some (.int x1), v1], .int x1 :: st, SH, σ)) ∧
  (∀ (v0 : Option Value) (v1 : Option Value) (x1 : Int32) (st : List Value) (σ : ma_H), ma_rn ro d 88 (1, [v0, v1], .int x1 :: st, SH, σ) = if x1 < nI 0 then ma_rn ro d 88 (9, [v0, v1], st, SH, σ) else ma_rn ro d 88 (4, [v0, v1], st, SH, σ)) ∧
  (∀ (v1 : Option Value) (x1 : Int32) (st : List Value) (σ : ma_H), ma_rn ro d 88 (4, [some (.int x1), v1], st, SH, σ) = ma_rn ro d 88 (5, [some (.int x1), v1], .int x1 :: st, SH, σ)) ∧
  (∀ (v0 : Option Value) (x1 : Int32) (st : List Value) (σ : ma_H), ma_rn ro d 88 (5, [v0, some (.int x1)], st, SH, σ) = ma_rn ro d 88 (6, [v0, some (.int x1)], .int x1 :: st, SH, σ)) ∧
  (∀ (v0 : Option Value) (v1 : Option Value) (x1 : Int32) (x2 : Int32) (st : List Value) (σ : ma_H), ma_rn ro d 88 (6, [v0, v1], .int x1 :: .int x2 :: st, SH, σ) = if x1 < x2 then ma_rn ro d 88 (9, [v0, v1], st, SH, σ) else ma_rn ro d 88 (13, [v0, v1], st, SH, σ)) ∧
  (∀ (v0 : Option Value) (v1 : Option Value) (st : List Value) (σ : ma_H), ma_rn ro d 88 (9, [v0, v1], st, SH, σ) = ma_rn ro d 88 (10, [v0, v1], .int (nI 1) :: st, SH, σ)) ∧
  (∀ (v0 : Option Value) (v1 : Option Value) (st : List Value) (σ : ma_H), ma_rn ro d 88 (10, [v0, v1], st, SH, σ) = ma_rn ro d 88 (14, [v0, v1], st, SH, σ)) ∧
  (∀ (v0 : Option Value) (v1 : Option Value) (st : List Value) (σ : ma_H), ma_rn ro d 88 (13, [v0, v1], st, SH, σ) = ma_rn ro d 88 (14, [v0, v1], .int (nI 0) :: st, SH, σ)) ∧
  (∀ (v0 : Option Value) (v1 : Option Value) (x1 : Int32) (σ : ma_H) (hx : ma_fitI .boolean x1 = true), ma_rn ro d 88 (14, [v0, v1], [.int x1], SH, σ) = some (some (.int x1), SH, σ)) := ⟨fun v1 x1 st σ => q_go e88_0 rfl rfl,
  fun v0 v1 x1 st σ => (q_if e88_1 rfl).trans q_lt,
  fun v1 x1 st σ => q_go e88_4 rfl rfl,
  fun v0 x1 st σ => q_go e88_5 rfl rfl,
  fun v0 v1 x1 x2 st σ => (q_cmp e88_6 rfl).trans q_ngt,
  fun v0 v1 st σ => q_iconst e88_9 (by decide),
  fun v0 v1 st σ => q_goto e88_10 rfl,
  fun v0 v1 st σ => q_iconst e88_13 (by decide),
  fun v0 v1 x1 σ hx => q_zret e88_14 r_88 hx⟩
theorem E88 {ro : ma_RO} {d : Nat} (x1 : Int32) (x2 : Int32) (sh : List ma_Sh) (σ : ma_H) : ma_ev ro d 88 [.int x1, .int x2] sh σ = ma_rn ro d 88 (0, [some (.int x1), some (.int x2)], [], sh, σ) := q_ent x_88 rfl
theorem e89_0 : decode (ma_cd 89) 0 = .ok (.iload_n 0, 1) := (congrArg (fun b => decode b 0) cd_89).trans dX7_above_0
theorem e89_1 : decode (ma_cd 89) 1 = .ok (.ifCond .lt 19, 3) := (congrArg (fun b => decode b 1) cd_89).trans dX7_above_1
theorem e89_4 : decode (ma_cd 89) 4 = .ok (.iload_n 0, 1) := (congrArg (fun b => decode b 4) cd_89).trans dX7_above_4
theorem e89_5 : decode (ma_cd 89) 5 = .ok (.getstatic 265, 3) := (congrArg (fun b => decode b 5) cd_89).trans dX7_above_5
theorem e89_8 : decode (ma_cd 89) 8 = .ok (.arraylength, 1) := (congrArg (fun b => decode b 8) cd_89).trans dX7_above_8
theorem e89_9 : decode (ma_cd 89) 9 = .ok (.if_icmp .ge 11, 3) := (congrArg (fun b => decode b 9) cd_89).trans dX7_above_9
theorem e89_12 : decode (ma_cd 89) 12 = .ok (.getstatic 265, 3) := (congrArg (fun b => decode b 12) cd_89).trans dX7_above_12
theorem e89_15 : decode (ma_cd 89) 15 = .ok (.iload_n 0, 1) := (congrArg (fun b => decode b 15) cd_89).trans dX7_above_15
theorem e89_16 : decode (ma_cd 89) 16 = .ok (.iaload, 1) := (congrArg (fun b => decode b 16) cd_89).trans dX7_above_16
theorem e89_17 : decode (ma_cd 89) 17 = .ok (.goto 4, 3) := (congrArg (fun b => decode b 17) cd_89).trans dX7_above_17
theorem e89_20 : decode (ma_cd 89) 20 = .ok (.iconst (-1), 1) := (congrArg (fun b => decode b 20) cd_89).trans dX7_above_20
theorem e89_21 : decode (ma_cd 89) 21 = .ok (.ireturn, 1) := (congrArg (fun b => decode b 21) cd_89).trans dX7_above_21
theorem S89 {ro : ma_RO} {d : Nat} : (∀ (x1 : Int32) (st : List Value) (σ : ma_H), ma_rn ro d 89 (0, [some (.int x1)], st, SH, σ) = ma_rn ro d 89 (1, [some (.int x1)], .int x1 :: st, SH, σ)) ∧
  (∀ (v0 : Option Value) (x1 : Int32) (st : List Value) (σ : ma_H), ma_rn ro d 89 (1, [v0], .int x1 :: st, SH, σ) = if x1 < nI 0 then ma_rn ro d 89 (20, [v0], st, SH, σ) else ma_rn ro d 89 (4, [v0], st, SH, σ)) ∧
  (∀ (x1 : Int32) (st : List Value) (σ : ma_H), ma_rn ro d 89 (4, [some (.int x1)], st, SH, σ) = ma_rn ro d 89 (5, [some (.int x1)], .int x1 :: st, SH, σ)) ∧
  (∀ (v0 : Option Value) (st : List Value) (σ : ma_H), ma_rn ro d 89 (5, [v0], st, SH, σ) = ma_rn ro d 89 (8, [v0], .ref 3000000 :: st, SH, σ)) ∧
  (∀ (v0 : Option Value) (a1 : Nat) (st : List Value) (σ : ma_H) (hn : 0 < hk_alen a1), ma_rn ro d 89 (8, [v0], .ref a1 :: st, SH, σ) = ma_rn ro d 89 (9, [v0], .int (nI (hk_alen a1)) :: st, SH, σ)) ∧
  (∀ (v0 : Option Value) (x1 : Int32) (x2 : Int32) (st : List Value) (σ : ma_H), ma_rn ro d 89 (9, [v0], .int x1 :: .int x2 :: st, SH, σ) = if x2 < x1 then ma_rn ro d 89 (12, [v0], st, SH, σ) else ma_rn ro d 89 (20, [v0], st, SH, σ)) ∧
  (∀ (v0 : Option Value) (st : List Value) (σ : ma_H), ma_rn ro d 89 (12, [v0], st, SH, σ) = ma_rn ro d 89 (15, [v0], .ref 3000000 :: st, SH, σ)) ∧
  (∀ (x1 : Int32) (st : List Value) (σ : ma_H), ma_rn ro d 89 (15, [some (.int x1)], st, SH, σ) = ma_rn ro d 89 (16, [some (.int x1)], .int x1 :: st, SH, σ)) ∧
  (∀ (v0 : Option Value) (k : Nat) (a2 : Nat) (st : List Value) (σ : ma_H) (hk : k < hk_len a2), ma_rn ro d 89 (16, [v0], .int (nI k) :: .ref a2 :: st, SH, σ) = ma_rn ro d 89 (17, [v0], .int (σ a2 k) :: st, SH, σ)) ∧
  (∀ (v0 : Option Value) (st : List Value) (σ : ma_H), ma_rn ro d 89 (17, [v0], st, SH, σ) = ma_rn ro d 89 (21, [v0], st, SH, σ)) ∧
  (∀ (v0 : Option Value) (st : List Value) (σ : ma_H), ma_rn ro d 89 (20, [v0], st, SH, σ) = ma_rn ro d 89 (21, [v0], .int ((-1)) :: st, SH, σ)) ∧
  (∀ (v0 : Option Value) (x1 : Int32) (σ : ma_H), ma_rn ro d 89 (21, [v0], [.int x1], SH, σ) = some (some (.int x1), SH, σ)) := ⟨fun x1 st σ => q_go e89_0 rfl rfl,
  fun v0 x1 st σ => (q_if e89_1 rfl).trans q_lt,
  fun x1 st σ => q_go e89_4 rfl rfl,
  fun v0 st σ => q_go e89_5 rfl (q_gst o_89),
  fun v0 a1 st σ hn => q_alen e89_8 rfl hn,
  fun v0 x1 x2 st σ => (q_cmp e89_9 rfl).trans q_nlt,
  fun v0 st σ => q_go e89_12 rfl (q_gst o_89),
  fun x1 st σ => q_go e89_15 rfl rfl,
  fun v0 k a2 st σ hk => q_iald e89_16 hk,
  fun v0 st σ => q_goto e89_17 rfl,
  fun v0 st σ => q_iconst e89_20 (by decide),
  fun v0 x1 σ => q_iret e89_21 r_89⟩
theorem E89 {ro : ma_RO} {d : Nat} (x1 : Int32) (sh : List ma_Sh) (σ : ma_H) : ma_ev ro d 89 [.int x1] sh σ = ma_rn ro d 89 (0, [some (.int x1)], [], sh, σ) := q_ent x_89 rfl
theorem e90_0 : decode (ma_cd 90) 0 = .ok (.iconst 0, 1) := (congrArg (fun b => decode b 0) cd_90).trans dX7_within_0
theorem e90_1 : decode (ma_cd 90) 1 = .ok (.iload_n 1, 1) := (congrArg (fun b => decode b 1) cd_90).trans dX7_within_1
theorem e90_2 : decode (ma_cd 90) 2 = .ok (.iload_n 0, 1) := (congrArg (fun b => decode b 2) cd_90).trans dX7_within_2
theorem e90_3 : decode (ma_cd 90) 3 = .ok (.invokestatic 171, 3) := (congrArg (fun b => decode b 3) cd_90).trans dX7_within_3
theorem e90_6 : decode (ma_cd 90) 6 = .ok (.invokestatic 268, 3) := (congrArg (fun b => decode b 6) cd_90).trans dX7_within_6
theorem e90_9 : decode (ma_cd 90) 9 = .ok (.ireturn, 1) := (congrArg (fun b => decode b 9) cd_90).trans dX7_within_9
theorem S90 {ro : ma_RO} {d : Nat} : (∀ (v0 : Option Value) (v1 : Option Value) (st : List Value) (σ : ma_H), ma_rn ro d 90 (0, [v0, v1], st, SH, σ) = ma_rn ro d 90 (1, [v0, v1], .int (nI 0) :: st, SH, σ)) ∧
  (∀ (v0 : Option Value) (x1 : Int32) (st : List Value) (σ : ma_H), ma_rn ro d 90 (1, [v0, some (.int x1)], st, SH, σ) = ma_rn ro d 90 (2, [v0, some (.int x1)], .int x1 :: st, SH, σ)) ∧
  (∀ (v1 : Option Value) (x1 : Int32) (st : List Value) (σ : ma_H), ma_rn ro d 90 (2, [some (.int x1), v1], st, SH, σ) = ma_rn ro d 90 (3, [some (.int x1), v1], .int x1 :: st, SH, σ)) ∧
  (∀ (v0 : Option Value) (v1 : Option Value) (x1 : Int32) (x2 : Int32) (x20 : Int32) (σ : ma_H), ma_rn ro d 90 (3, [v0, v1], .int x1 :: .int x2 :: .int x20 :: [], SH, σ) = ma_rn ro d 90 (6, [v0, v1], .int (if x1 < x2 then x1 else x2) :: .int x20 :: [], SH, σ)) ∧
  (∀ (v0 : Option Value) (v1 : Option Value) (x1 : Int32) (x2 : Int32) (σ : ma_H), ma_rn ro d 90 (6, [v0, v1], .int x1 :: .int x2 :: [], SH, σ) = ma_rn ro d 90 (9, [v0, v1], .int (if x2 < x1 then x1 else x2) :: [], SH, σ)) ∧
  (∀ (v0 : Option Value) (v1 : Option Value) (x1 : Int32) (σ : ma_H), ma_rn ro d 90 (9, [v0, v1], [.int x1], SH, σ) = some (some (.int x1), SH, σ)) := ⟨fun v0 v1 st σ => q_iconst e90_0 (by decide),
  fun v0 x1 st σ => q_go e90_1 rfl rfl,
  fun v1 x1 st σ => q_go e90_2 rfl rfl,
  fun v0 v1 x1 x2 x20 σ => q_bt e90_3 o_90 b_7_171 (by decide) (Nat.le_of_ble_eq_true rfl),
  fun v0 v1 x1 x2 σ => q_bt e90_6 o_90 b_7_268 (by decide) (Nat.le_of_ble_eq_true rfl),
  fun v0 v1 x1 σ => q_iret e90_9 r_90⟩
theorem E90 {ro : ma_RO} {d : Nat} (x1 : Int32) (x2 : Int32) (sh : List ma_Sh) (σ : ma_H) : ma_ev ro d 90 [.int x1, .int x2] sh σ = ma_rn ro d 90 (0, [some (.int x1), some (.int x2)], [], sh, σ) := q_ent x_90 rfl
theorem e91_0 : decode (ma_cd 91) 0 = .ok (.iconst 0, 1) := (congrArg (fun b => decode b 0) cd_91).trans dX7_copyInts_0
theorem e91_1 : decode (ma_cd 91) 1 = .ok (.istore_n 2, 1) := (congrArg (fun b => decode b 1) cd_91).trans dX7_copyInts_1
theorem e91_2 : decode (ma_cd 91) 2 = .ok (.iload_n 2, 1) := (congrArg (fun b => decode b 2) cd_91).trans dX7_copyInts_2
theorem e91_3 : decode (ma_cd 91) 3 = .ok (.aload_n 0, 1) := (congrArg (fun b => decode b 3) cd_91).trans dX7_copyInts_3
theorem e91_4 : decode (ma_cd 91) 4 = .ok (.arraylength, 1) := (congrArg (fun b => decode b 4) cd_91).trans dX7_copyInts_4
theorem e91_5 : decode (ma_cd 91) 5 = .ok (.if_icmp .ge 21, 3) := (congrArg (fun b => decode b 5) cd_91).trans dX7_copyInts_5
theorem e91_8 : decode (ma_cd 91) 8 = .ok (.iload_n 2, 1) := (congrArg (fun b => decode b 8) cd_91).trans dX7_copyInts_8
theorem e91_9 : decode (ma_cd 91) 9 = .ok (.aload_n 1, 1) := (congrArg (fun b => decode b 9) cd_91).trans dX7_copyInts_9
theorem e91_10 : decode (ma_cd 91) 10 = .ok (.arraylength, 1) := (congrArg (fun b => decode b 10) cd_91).trans dX7_copyInts_10
theorem e91_11 : decode (ma_cd 91) 11 = .ok (.if_icmp .ge 15, 3) := (congrArg (fun b => decode b 11) cd_91).trans dX7_copyInts_11
theorem e91_14 : decode (ma_cd 91) 14 = .ok (.aload_n 1, 1) := (congrArg (fun b => decode b 14) cd_91).trans dX7_copyInts_14
theorem e91_15 : decode (ma_cd 91) 15 = .ok (.iload_n 2, 1) := (congrArg (fun b => decode b 15) cd_91).trans dX7_copyInts_15
theorem e91_16 : decode (ma_cd 91) 16 = .ok (.aload_n 0, 1) := (congrArg (fun b => decode b 16) cd_91).trans dX7_copyInts_16
theorem e91_17 : decode (ma_cd 91) 17 = .ok (.iload_n 2, 1) := (congrArg (fun b => decode b 17) cd_91).trans dX7_copyInts_17
theorem e91_18 : decode (ma_cd 91) 18 = .ok (.iaload, 1) := (congrArg (fun b => decode b 18) cd_91).trans dX7_copyInts_18
theorem e91_19 : decode (ma_cd 91) 19 = .ok (.iastore, 1) := (congrArg (fun b => decode b 19) cd_91).trans dX7_copyInts_19
theorem e91_20 : decode (ma_cd 91) 20 = .ok (.iinc 2 1, 3) := (congrArg (fun b => decode b 20) cd_91).trans dX7_copyInts_20
theorem e91_23 : decode (ma_cd 91) 23 = .ok (.goto (-21), 3) := (congrArg (fun b => decode b 23) cd_91).trans dX7_copyInts_23
theorem e91_26 : decode (ma_cd 91) 26 = .ok (.return_, 1) := (congrArg (fun b => decode b 26) cd_91).trans dX7_copyInts_26
theorem Sh91_2 {ro : ma_RO} {d : Nat} : (∀ (v0 : Option Value) (v1 : Option Value) (x1 : Int32) (st : List Value) (σ : ma_H), ma_rn ro d 91 (2, [v0, v1, some (.int x1)], st, SH, σ) = ma_rn ro d 91 (3, [v0, v1, some (.int x1)], .int x1 :: st, SH, σ)) := fun v0 v1 x1 st σ => q_go e91_2 rfl rfl
theorem S91 {ro : ma_RO} {d : Nat} : (∀ (v0 : Option Value) (v1 : Option Value) (v2 : Option Value) (st : List Value) (σ : ma_H), ma_rn ro d 91 (0, [v0, v1, v2], st, SH, σ) = ma_rn ro d 91 (1, [v0, v1, v2], .int (nI 0) :: st, SH, σ)) ∧
  (∀ (v0 : Option Value) (v2 : Option Value) (a9 : Nat) (x1 : Int32) (st : List Value) (σ : ma_H), ma_rn ro d 91 (1, [v0, some (.ref a9), v2], .int x1 :: st, SH, σ) = ma_rn ro d 91 (2, [v0, some (.ref a9), some (.int x1)], st, SH, σ)) ∧
  (∀ (v1 : Option Value) (v2 : Option Value) (a1 : Nat) (st : List Value) (σ : ma_H), ma_rn ro d 91 (3, [some (.ref a1), v1, v2], st, SH, σ) = ma_rn ro d 91 (4, [some (.ref a1), v1, v2], .ref a1 :: st, SH, σ)) ∧
  (∀ (v0 : Option Value) (v1 : Option Value) (v2 : Option Value) (a1 : Nat) (st : List Value) (σ : ma_H) (hn : 0 < hk_alen a1), ma_rn ro d 91 (4, [v0, v1, v2], .ref a1 :: st, SH, σ) = ma_rn ro d 91 (5, [v0, v1, v2], .int (nI (hk_alen a1)) :: st, SH, σ)) ∧
  (∀ (v0 : Option Value) (v1 : Option Value) (v2 : Option Value) (x1 : Int32) (x2 : Int32) (st : List Value) (σ : ma_H), ma_rn ro d 91 (5, [v0, v1, v2], .int x1 :: .int x2 :: st, SH, σ) = if x2 < x1 then ma_rn ro d 91 (8, [v0, v1, v2], st, SH, σ) else ma_rn ro d 91 (26, [v0, v1, v2], st, SH, σ)) ∧
  (∀ (v0 : Option Value) (v1 : Option Value) (x1 : Int32) (st : List Value) (σ : ma_H), ma_rn ro d 91 (8, [v0, v1, some (.int x1)], st, SH, σ) = ma_rn ro d 91 (9, [v0, v1, some (.int x1)], .int x1 :: st, SH, σ)) ∧
  (∀ (v0 : Option Value) (v2 : Option Value) (a1 : Nat) (st : List Value) (σ : ma_H), ma_rn ro d 91 (9, [v0, some (.ref a1), v2], st, SH, σ) = ma_rn ro d 91 (10, [v0, some (.ref a1), v2], .ref a1 :: st, SH, σ)) ∧
  (∀ (v0 : Option Value) (v1 : Option Value) (v2 : Option Value) (a1 : Nat) (st : List Value) (σ : ma_H) (hn : 0 < hk_alen a1), ma_rn ro d 91 (10, [v0, v1, v2], .ref a1 :: st, SH, σ) = ma_rn ro d 91 (11, [v0, v1, v2], .int (nI (hk_alen a1)) :: st, SH, σ)) ∧
  (∀ (v0 : Option Value) (v1 : Option Value) (v2 : Option Value) (x1 : Int32) (x2 : Int32) (st : List Value) (σ : ma_H), ma_rn ro d 91 (11, [v0, v1, v2], .int x1 :: .int x2 :: st, SH, σ) = if x2 < x1 then ma_rn ro d 91 (14, [v0, v1, v2], st, SH, σ) else ma_rn ro d 91 (26, [v0, v1, v2], st, SH, σ)) ∧
  (∀ (v0 : Option Value) (v2 : Option Value) (a1 : Nat) (st : List Value) (σ : ma_H), ma_rn ro d 91 (14, [v0, some (.ref a1), v2], st, SH, σ) = ma_rn ro d 91 (15, [v0, some (.ref a1), v2], .ref a1 :: st, SH, σ)) ∧
  (∀ (v0 : Option Value) (v1 : Option Value) (x1 : Int32) (st : List Value) (σ : ma_H), ma_rn ro d 91 (15, [v0, v1, some (.int x1)], st, SH, σ) = ma_rn ro d 91 (16, [v0, v1, some (.int x1)], .int x1 :: st, SH, σ)) ∧
  (∀ (v1 : Option Value) (v2 : Option Value) (a1 : Nat) (st : List Value) (σ : ma_H), ma_rn ro d 91 (16, [some (.ref a1), v1, v2], st, SH, σ) = ma_rn ro d 91 (17, [some (.ref a1), v1, v2], .ref a1 :: st, SH, σ)) ∧
  (∀ (v0 : Option Value) (v1 : Option Value) (x1 : Int32) (st : List Value) (σ : ma_H), ma_rn ro d 91 (17, [v0, v1, some (.int x1)], st, SH, σ) = ma_rn ro d 91 (18, [v0, v1, some (.int x1)], .int x1 :: st, SH, σ)) ∧
  (∀ (v0 : Option Value) (v1 : Option Value) (v2 : Option Value) (k : Nat) (a2 : Nat) (st : List Value) (σ : ma_H) (hk : k < hk_len a2), ma_rn ro d 91 (18, [v0, v1, v2], .int (nI k) :: .ref a2 :: st, SH, σ) = ma_rn ro d 91 (19, [v0, v1, v2], .int (σ a2 k) :: st, SH, σ)) ∧
  (∀ (v0 : Option Value) (v1 : Option Value) (v2 : Option Value) (x1 : Int32) (k : Nat) (a3 : Nat) (st : List Value) (σ : ma_H) (hk : k < hk_len a3), ma_rn ro d 91 (19, [v0, v1, v2], .int x1 :: .int (nI k) :: .ref a3 :: st, SH, σ) = ma_rn ro d 91 (20, [v0, v1, v2], st, SH, (ma_up σ a3 k x1))) ∧
  (∀ (v0 : Option Value) (x1 : Int32) (a9 : Nat) (st : List Value) (σ : ma_H), ma_rn ro d 91 (20, [v0, some (.ref a9), some (.int x1)], st, SH, σ) = ma_rn ro d 91 (23, [v0, some (.ref a9), some (.int (x1 + nI 1))], st, SH, σ)) ∧
  (∀ (v0 : Option Value) (v1 : Option Value) (v2 : Option Value) (st : List Value) (σ : ma_H), ma_rn ro d 91 (23, [v0, v1, v2], st, SH, σ) = ma_rn ro d 91 (2, [v0, v1, v2], st, SH, σ)) ∧
  (∀ (v0 : Option Value) (v1 : Option Value) (v2 : Option Value) (σ : ma_H), ma_rn ro d 91 (26, [v0, v1, v2], [], SH, σ) = some (none, SH, σ)) := ⟨fun v0 v1 v2 st σ => q_iconst e91_0 (by decide),
  fun v0 v2 a9 x1 st σ => q_go e91_1 rfl rfl,
  fun v1 v2 a1 st σ => q_go e91_3 rfl rfl,
  fun v0 v1 v2 a1 st σ hn => q_alen e91_4 rfl hn,
  fun v0 v1 v2 x1 x2 st σ => (q_cmp e91_5 rfl).trans q_nlt,
  fun v0 v1 x1 st σ => q_go e91_8 rfl rfl,
  fun v0 v2 a1 st σ => q_go e91_9 rfl rfl,
  fun v0 v1 v2 a1 st σ hn => q_alen e91_10 rfl hn,
  fun v0 v1 v2 x1 x2 st σ => (q_cmp e91_11 rfl).trans q_nlt,
  fun v0 v2 a1 st σ => q_go e91_14 rfl rfl,
  fun v0 v1 x1 st σ => q_go e91_15 rfl rfl,
  fun v1 v2 a1 st σ => q_go e91_16 rfl rfl,
  fun v0 v1 x1 st σ => q_go e91_17 rfl rfl,
  fun v0 v1 v2 k a2 st σ hk => q_iald e91_18 hk,
  fun v0 v1 v2 x1 k a3 st σ hk => q_iast e91_19 hk,
  fun v0 x1 a9 st σ => q_iinc e91_20 rfl rfl (by decide),
  fun v0 v1 v2 st σ => q_goto e91_23 rfl,
  fun v0 v1 v2 σ => q_vret e91_26 r_91⟩
theorem E91 {ro : ma_RO} {d : Nat} (a1 : Nat) (a2 : Nat) (sh : List ma_Sh) (σ : ma_H) : ma_ev ro d 91 [.ref a1, .ref a2] sh σ = ma_rn ro d 91 (0, [some (.ref a1), some (.ref a2), none], [], sh, σ) := q_ent x_91 rfl
theorem e92_0 : decode (ma_cd 92) 0 = .ok (.lload_n 0, 1) := (congrArg (fun b => decode b 0) cd_92).trans dX7_lowest_0
theorem e92_1 : decode (ma_cd 92) 1 = .ok (.lstore 5, 2) := (congrArg (fun b => decode b 1) cd_92).trans dX7_lowest_1
theorem e92_3 : decode (ma_cd 92) 3 = .ok (.lload_n 2, 1) := (congrArg (fun b => decode b 3) cd_92).trans dX7_lowest_3
theorem e92_4 : decode (ma_cd 92) 4 = .ok (.lstore 7, 2) := (congrArg (fun b => decode b 4) cd_92).trans dX7_lowest_4
theorem e92_6 : decode (ma_cd 92) 6 = .ok (.iconst 0, 1) := (congrArg (fun b => decode b 6) cd_92).trans dX7_lowest_6
theorem e92_7 : decode (ma_cd 92) 7 = .ok (.istore 9, 2) := (congrArg (fun b => decode b 7) cd_92).trans dX7_lowest_7
theorem e92_9 : decode (ma_cd 92) 9 = .ok (.iload 9, 2) := (congrArg (fun b => decode b 9) cd_92).trans dX7_lowest_9
theorem e92_11 : decode (ma_cd 92) 11 = .ok (.bipush 100, 2) := (congrArg (fun b => decode b 11) cd_92).trans dX7_lowest_11
theorem e92_13 : decode (ma_cd 92) 13 = .ok (.if_icmp .ge 31, 3) := (congrArg (fun b => decode b 13) cd_92).trans dX7_lowest_13
theorem e92_16 : decode (ma_cd 92) 16 = .ok (.lload 7, 2) := (congrArg (fun b => decode b 16) cd_92).trans dX7_lowest_16
theorem e92_18 : decode (ma_cd 92) 18 = .ok (.lconst 0, 1) := (congrArg (fun b => decode b 18) cd_92).trans dX7_lowest_18
theorem e92_19 : decode (ma_cd 92) 19 = .ok (.lcmp, 1) := (congrArg (fun b => decode b 19) cd_92).trans dX7_lowest_19
theorem e92_20 : decode (ma_cd 92) 20 = .ok (.ifCond .eq 24, 3) := (congrArg (fun b => decode b 20) cd_92).trans dX7_lowest_20
theorem e92_23 : decode (ma_cd 92) 23 = .ok (.lload 5, 2) := (congrArg (fun b => decode b 23) cd_92).trans dX7_lowest_23
theorem e92_25 : decode (ma_cd 92) 25 = .ok (.lload 7, 2) := (congrArg (fun b => decode b 25) cd_92).trans dX7_lowest_25
theorem e92_27 : decode (ma_cd 92) 27 = .ok (.lrem, 1) := (congrArg (fun b => decode b 27) cd_92).trans dX7_lowest_27
theorem e92_28 : decode (ma_cd 92) 28 = .ok (.lstore 10, 2) := (congrArg (fun b => decode b 28) cd_92).trans dX7_lowest_28
theorem e92_30 : decode (ma_cd 92) 30 = .ok (.lload 7, 2) := (congrArg (fun b => decode b 30) cd_92).trans dX7_lowest_30
theorem e92_32 : decode (ma_cd 92) 32 = .ok (.lstore 5, 2) := (congrArg (fun b => decode b 32) cd_92).trans dX7_lowest_32
theorem e92_34 : decode (ma_cd 92) 34 = .ok (.lload 10, 2) := (congrArg (fun b => decode b 34) cd_92).trans dX7_lowest_34
theorem e92_36 : decode (ma_cd 92) 36 = .ok (.lstore 7, 2) := (congrArg (fun b => decode b 36) cd_92).trans dX7_lowest_36
theorem e92_38 : decode (ma_cd 92) 38 = .ok (.iinc 9 1, 3) := (congrArg (fun b => decode b 38) cd_92).trans dX7_lowest_38
theorem e92_41 : decode (ma_cd 92) 41 = .ok (.goto (-32), 3) := (congrArg (fun b => decode b 41) cd_92).trans dX7_lowest_41
theorem e92_44 : decode (ma_cd 92) 44 = .ok (.lload 5, 2) := (congrArg (fun b => decode b 44) cd_92).trans dX7_lowest_44
theorem e92_46 : decode (ma_cd 92) 46 = .ok (.lconst 0, 1) := (congrArg (fun b => decode b 46) cd_92).trans dX7_lowest_46
theorem e92_47 : decode (ma_cd 92) 47 = .ok (.lcmp, 1) := (congrArg (fun b => decode b 47) cd_92).trans dX7_lowest_47
theorem e92_48 : decode (ma_cd 92) 48 = .ok (.ifCond .ne 7, 3) := (congrArg (fun b => decode b 48) cd_92).trans dX7_lowest_48
theorem e92_51 : decode (ma_cd 92) 51 = .ok (.ldc2_w 208, 3) := (congrArg (fun b => decode b 51) cd_92).trans dX7_lowest_51
theorem e92_54 : decode (ma_cd 92) 54 = .ok (.lreturn, 1) := (congrArg (fun b => decode b 54) cd_92).trans dX7_lowest_54
theorem e92_55 : decode (ma_cd 92) 55 = .ok (.iload 4, 2) := (congrArg (fun b => decode b 55) cd_92).trans dX7_lowest_55
theorem e92_57 : decode (ma_cd 92) 57 = .ok (.ifCond .ne 10, 3) := (congrArg (fun b => decode b 57) cd_92).trans dX7_lowest_57
theorem e92_60 : decode (ma_cd 92) 60 = .ok (.lload_n 0, 1) := (congrArg (fun b => decode b 60) cd_92).trans dX7_lowest_60
theorem e92_61 : decode (ma_cd 92) 61 = .ok (.lload 5, 2) := (congrArg (fun b => decode b 61) cd_92).trans dX7_lowest_61
theorem e92_63 : decode (ma_cd 92) 63 = .ok (.ldiv, 1) := (congrArg (fun b => decode b 63) cd_92).trans dX7_lowest_63
theorem e92_64 : decode (ma_cd 92) 64 = .ok (.goto 7, 3) := (congrArg (fun b => decode b 64) cd_92).trans dX7_lowest_64
theorem e92_67 : decode (ma_cd 92) 67 = .ok (.lload_n 2, 1) := (congrArg (fun b => decode b 67) cd_92).trans dX7_lowest_67
theorem e92_68 : decode (ma_cd 92) 68 = .ok (.lload 5, 2) := (congrArg (fun b => decode b 68) cd_92).trans dX7_lowest_68
theorem e92_70 : decode (ma_cd 92) 70 = .ok (.ldiv, 1) := (congrArg (fun b => decode b 70) cd_92).trans dX7_lowest_70
theorem e92_71 : decode (ma_cd 92) 71 = .ok (.lreturn, 1) := (congrArg (fun b => decode b 71) cd_92).trans dX7_lowest_71
theorem Sh92_9 {ro : ma_RO} {d : Nat} : (∀ (v0 : Option Value) (v1 : Option Value) (v2 : Option Value) (v3 : Option Value) (v4 : Option Value) (v5 : Option Value) (v6 : Option Value) (v7 : Option Value) (v8 : Option Value) (v10 : Option Value) (v11 : Option Value) (x1 : Int32) (st : List Value) (σ : ma_H), ma_rn ro d 92 (9, [v0, v1, v2, v3, v4, v5, v6, v7, v8, some (.int x1), v10, v11], st, SH, σ) = ma_rn ro d 92 (11, [v0, v1, v2, v3, v4, v5, v6, v7, v8, some (.int x1), v10, v11], .int x1 :: st, SH, σ)) := fun v0 v1 v2 v3 v4 v5 v6 v7 v8 v10 v11 x1 st σ => q_go e92_9 rfl rfl
theorem S92 {ro : ma_RO} {d : Nat} : (∀ (v1 : Option Value) (v2 : Option Value) (v3 : Option Value) (v4 : Option Value) (v5 : Option Value) (v6 : Option Value) (v7 : Option Value) (v8 : Option Value) (v9 : Option Value) (v10 : Option Value) (v11 : Option Value) (j1 : Int64) (st : List Value) (σ : ma_H), ma_rn ro d 92 (0, [some (.long j1), v1, v2, v3, v4, v5, v6, v7, v8, v9, v10, v11], st, SH, σ) = ma_rn ro d 92 (1, [some (.long j1), v1, v2, v3, v4, v5, v6, v7, v8, v9, v10, v11], .long j1 :: st, SH, σ)) ∧
  (∀ (v0 : Option Value) (v1 : Option Value) (v2 : Option Value) (v3 : Option Value) (v5 : Option Value) (v6 : Option Value) (v7 : Option Value) (v8 : Option Value) (v9 : Option Value) (v10 : Option Value) (v11 : Option Value) (x9 : Int32) (j1 : Int64) (st : List Value) (σ : ma_H), ma_rn ro d 92 (1, [v0, v1, v2, v3, some (.int x9), v5, v6, v7, v8, v9, v10, v11], .long j1 :: st, SH, σ) = ma_rn ro d 92 (3, [v0, v1, v2, v3, some (.int x9), some (.long j1), none, v7, v8, v9, v10, v11], st, SH, σ)) ∧
  (∀ (v0 : Option Value) (v1 : Option Value) (v3 : Option Value) (v4 : Option Value) (v5 : Option Value) (v6 : Option Value) (v7 : Option Value) (v8 : Option Value) (v9 : Option Value) (v10 : Option Value) (v11 : Option Value) (j1 : Int64) (st : List Value) (σ : ma_H), ma_rn ro d 92 (3, [v0, v1, some (.long j1), v3, v4, v5, v6, v7, v8, v9, v10, v11], st, SH, σ) = ma_rn ro d 92 (4, [v0, v1, some (.long j1), v3, v4, v5, v6, v7, v8, v9, v10, v11], .long j1 :: st, SH, σ)) ∧
  (∀ (v0 : Option Value) (v1 : Option Value) (v2 : Option Value) (v3 : Option Value) (v4 : Option Value) (v5 : Option Value) (v6 : Option Value) (v7 : Option Value) (v8 : Option Value) (v9 : Option Value) (v10 : Option Value) (v11 : Option Value) (j1 : Int64) (st : List Value) (σ : ma_H) (hb : ma_bef [v0, v1, v2, v3, v4, v5, v6, v7, v8, v9, v10, v11] 7 = false), ma_rn ro d 92 (4, [v0, v1, v2, v3, v4, v5, v6, v7, v8, v9, v10, v11], .long j1 :: st, SH, σ) = ma_rn ro d 92 (6, [v0, v1, v2, v3, v4, v5, v6, some (.long j1), none, v9, v10, v11], st, SH, σ)) ∧
  (∀ (v0 : Option Value) (v1 : Option Value) (v2 : Option Value) (v3 : Option Value) (v4 : Option Value) (v5 : Option Value) (v6 : Option Value) (v7 : Option Value) (v8 : Option Value) (v9 : Option Value) (v10 : Option Value) (v11 : Option Value) (st : List Value) (σ : ma_H), ma_rn ro d 92 (6, [v0, v1, v2, v3, v4, v5, v6, v7, v8, v9, v10, v11], st, SH, σ) = ma_rn ro d 92 (7, [v0, v1, v2, v3, v4, v5, v6, v7, v8, v9, v10, v11], .int (nI 0) :: st, SH, σ)) ∧
  (∀ (v0 : Option Value) (v1 : Option Value) (v2 : Option Value) (v3 : Option Value) (v4 : Option Value) (v5 : Option Value) (v6 : Option Value) (v7 : Option Value) (v8 : Option Value) (v9 : Option Value) (v10 : Option Value) (v11 : Option Value) (x1 : Int32) (st : List Value) (σ : ma_H) (hb : ma_bef [v0, v1, v2, v3, v4, v5, v6, v7, v8, v9, v10, v11] 9 = false), ma_rn ro d 92 (7, [v0, v1, v2, v3, v4, v5, v6, v7, v8, v9, v10, v11], .int x1 :: st, SH, σ) = ma_rn ro d 92 (9, [v0, v1, v2, v3, v4, v5, v6, v7, v8, some (.int x1), v10, v11], st, SH, σ)) ∧
  (∀ (v0 : Option Value) (v1 : Option Value) (v2 : Option Value) (v3 : Option Value) (v4 : Option Value) (v5 : Option Value) (v6 : Option Value) (v7 : Option Value) (v8 : Option Value) (v9 : Option Value) (v10 : Option Value) (v11 : Option Value) (st : List Value) (σ : ma_H), ma_rn ro d 92 (11, [v0, v1, v2, v3, v4, v5, v6, v7, v8, v9, v10, v11], st, SH, σ) = ma_rn ro d 92 (13, [v0, v1, v2, v3, v4, v5, v6, v7, v8, v9, v10, v11], .int (nI 100) :: st, SH, σ)) ∧
  (∀ (v0 : Option Value) (v1 : Option Value) (v2 : Option Value) (v3 : Option Value) (v4 : Option Value) (v5 : Option Value) (v6 : Option Value) (v7 : Option Value) (v8 : Option Value) (v9 : Option Value) (v10 : Option Value) (v11 : Option Value) (x1 : Int32) (x2 : Int32) (st : List Value) (σ : ma_H), ma_rn ro d 92 (13, [v0, v1, v2, v3, v4, v5, v6, v7, v8, v9, v10, v11], .int x1 :: .int x2 :: st, SH, σ) = if x2 < x1 then ma_rn ro d 92 (16, [v0, v1, v2, v3, v4, v5, v6, v7, v8, v9, v10, v11], st, SH, σ) else ma_rn ro d 92 (44, [v0, v1, v2, v3, v4, v5, v6, v7, v8, v9, v10, v11], st, SH, σ)) ∧
  (∀ (v0 : Option Value) (v1 : Option Value) (v2 : Option Value) (v3 : Option Value) (v4 : Option Value) (v5 : Option Value) (v6 : Option Value) (v8 : Option Value) (v9 : Option Value) (v10 : Option Value) (v11 : Option Value) (j1 : Int64) (st : List Value) (σ : ma_H), ma_rn ro d 92 (16, [v0, v1, v2, v3, v4, v5, v6, some (.long j1), v8, v9, v10, v11], st, SH, σ) = ma_rn ro d 92 (18, [v0, v1, v2, v3, v4, v5, v6, some (.long j1), v8, v9, v10, v11], .long j1 :: st, SH, σ)) ∧
  (∀ (v0 : Option Value) (v1 : Option Value) (v2 : Option Value) (v3 : Option Value) (v4 : Option Value) (v5 : Option Value) (v6 : Option Value) (v7 : Option Value) (v8 : Option Value) (v9 : Option Value) (v10 : Option Value) (v11 : Option Value) (st : List Value) (σ : ma_H), ma_rn ro d 92 (18, [v0, v1, v2, v3, v4, v5, v6, v7, v8, v9, v10, v11], st, SH, σ) = ma_rn ro d 92 (19, [v0, v1, v2, v3, v4, v5, v6, v7, v8, v9, v10, v11], .long 0 :: st, SH, σ)) ∧
  (∀ (v0 : Option Value) (v1 : Option Value) (v2 : Option Value) (v3 : Option Value) (v4 : Option Value) (v5 : Option Value) (v6 : Option Value) (v7 : Option Value) (v8 : Option Value) (v9 : Option Value) (v10 : Option Value) (v11 : Option Value) (j1 : Int64) (j2 : Int64) (st : List Value) (σ : ma_H), ma_rn ro d 92 (19, [v0, v1, v2, v3, v4, v5, v6, v7, v8, v9, v10, v11], .long j1 :: .long j2 :: st, SH, σ) = ma_rn ro d 92 (20, [v0, v1, v2, v3, v4, v5, v6, v7, v8, v9, v10, v11], .int (lg_cmp j2 j1) :: st, SH, σ)) ∧
  (∀ (v0 : Option Value) (v1 : Option Value) (v2 : Option Value) (v3 : Option Value) (v4 : Option Value) (v5 : Option Value) (v6 : Option Value) (v7 : Option Value) (v8 : Option Value) (v9 : Option Value) (v10 : Option Value) (v11 : Option Value) (x1 : Int32) (st : List Value) (σ : ma_H), ma_rn ro d 92 (20, [v0, v1, v2, v3, v4, v5, v6, v7, v8, v9, v10, v11], .int x1 :: st, SH, σ) = if x1 = nI 0 then ma_rn ro d 92 (44, [v0, v1, v2, v3, v4, v5, v6, v7, v8, v9, v10, v11], st, SH, σ) else ma_rn ro d 92 (23, [v0, v1, v2, v3, v4, v5, v6, v7, v8, v9, v10, v11], st, SH, σ)) ∧
  (∀ (v0 : Option Value) (v1 : Option Value) (v2 : Option Value) (v3 : Option Value) (v4 : Option Value) (v6 : Option Value) (v7 : Option Value) (v8 : Option Value) (v9 : Option Value) (v10 : Option Value) (v11 : Option Value) (j1 : Int64) (st : List Value) (σ : ma_H), ma_rn ro d 92 (23, [v0, v1, v2, v3, v4, some (.long j1), v6, v7, v8, v9, v10, v11], st, SH, σ) = ma_rn ro d 92 (25, [v0, v1, v2, v3, v4, some (.long j1), v6, v7, v8, v9, v10, v11], .long j1 :: st, SH, σ)) ∧
  (∀ (v0 : Option Value) (v1 : Option Value) (v2 : Option Value) (v3 : Option Value) (v4 : Option Value) (v5 : Option Value) (v6 : Option Value) (v8 : Option Value) (v9 : Option Value) (v10 : Option Value) (v11 : Option Value) (j1 : Int64) (st : List Value) (σ : ma_H), ma_rn ro d 92 (25, [v0, v1, v2, v3, v4, v5, v6, some (.long j1), v8, v9, v10, v11], st, SH, σ) = ma_rn ro d 92 (27, [v0, v1, v2, v3, v4, v5, v6, some (.long j1), v8, v9, v10, v11], .long j1 :: st, SH, σ)) ∧
  (∀ (v0 : Option Value) (v1 : Option Value) (v2 : Option Value) (v3 : Option Value) (v4 : Option Value) (v5 : Option Value) (v6 : Option Value) (v7 : Option Value) (v8 : Option Value) (v9 : Option Value) (v10 : Option Value) (v11 : Option Value) (j1 : Int64) (j2 : Int64) (st : List Value) (σ : ma_H) (hy : ¬ j1 = 0), ma_rn ro d 92 (27, [v0, v1, v2, v3, v4, v5, v6, v7, v8, v9, v10, v11], .long j1 :: .long j2 :: st, SH, σ) = ma_rn ro d 92 (28, [v0, v1, v2, v3, v4, v5, v6, v7, v8, v9, v10, v11], .long (j2 - j2 / j1 * j1) :: st, SH, σ)) ∧
  (∀ (v0 : Option Value) (v1 : Option Value) (v2 : Option Value) (v3 : Option Value) (v4 : Option Value) (v5 : Option Value) (v6 : Option Value) (v7 : Option Value) (v8 : Option Value) (v10 : Option Value) (v11 : Option Value) (x9 : Int32) (j1 : Int64) (st : List Value) (σ : ma_H), ma_rn ro d 92 (28, [v0, v1, v2, v3, v4, v5, v6, v7, v8, some (.int x9), v10, v11], .long j1 :: st, SH, σ) = ma_rn ro d 92 (30, [v0, v1, v2, v3, v4, v5, v6, v7, v8, some (.int x9), some (.long j1), none], st, SH, σ)) ∧
  (∀ (v0 : Option Value) (v1 : Option Value) (v2 : Option Value) (v3 : Option Value) (v4 : Option Value) (v5 : Option Value) (v6 : Option Value) (v8 : Option Value) (v9 : Option Value) (v10 : Option Value) (v11 : Option Value) (j1 : Int64) (st : List Value) (σ : ma_H), ma_rn ro d 92 (30, [v0, v1, v2, v3, v4, v5, v6, some (.long j1), v8, v9, v10, v11], st, SH, σ) = ma_rn ro d 92 (32, [v0, v1, v2, v3, v4, v5, v6, some (.long j1), v8, v9, v10, v11], .long j1 :: st, SH, σ)) ∧
  (∀ (v0 : Option Value) (v1 : Option Value) (v2 : Option Value) (v3 : Option Value) (v5 : Option Value) (v6 : Option Value) (v7 : Option Value) (v8 : Option Value) (v9 : Option Value) (v10 : Option Value) (v11 : Option Value) (x9 : Int32) (j1 : Int64) (st : List Value) (σ : ma_H), ma_rn ro d 92 (32, [v0, v1, v2, v3, some (.int x9), v5, v6, v7, v8, v9, v10, v11], .long j1 :: st, SH, σ) = ma_rn ro d 92 (34, [v0, v1, v2, v3, some (.int x9), some (.long j1), none, v7, v8, v9, v10, v11], st, SH, σ)) ∧
  (∀ (v0 : Option Value) (v1 : Option Value) (v2 : Option Value) (v3 : Option Value) (v4 : Option Value) (v5 : Option Value) (v6 : Option Value) (v7 : Option Value) (v8 : Option Value) (v9 : Option Value) (v11 : Option Value) (j1 : Int64) (st : List Value) (σ : ma_H), ma_rn ro d 92 (34, [v0, v1, v2, v3, v4, v5, v6, v7, v8, v9, some (.long j1), v11], st, SH, σ) = ma_rn ro d 92 (36, [v0, v1, v2, v3, v4, v5, v6, v7, v8, v9, some (.long j1), v11], .long j1 :: st, SH, σ)) ∧
  (∀ (v0 : Option Value) (v1 : Option Value) (v2 : Option Value) (v3 : Option Value) (v4 : Option Value) (v5 : Option Value) (v6 : Option Value) (v7 : Option Value) (v8 : Option Value) (v9 : Option Value) (v10 : Option Value) (v11 : Option Value) (j1 : Int64) (st : List Value) (σ : ma_H) (hb : ma_bef [v0, v1, v2, v3, v4, v5, v6, v7, v8, v9, v10, v11] 7 = false), ma_rn ro d 92 (36, [v0, v1, v2, v3, v4, v5, v6, v7, v8, v9, v10, v11], .long j1 :: st, SH, σ) = ma_rn ro d 92 (38, [v0, v1, v2, v3, v4, v5, v6, some (.long j1), none, v9, v10, v11], st, SH, σ)) ∧
  (∀ (v0 : Option Value) (v1 : Option Value) (v2 : Option Value) (v3 : Option Value) (v4 : Option Value) (v5 : Option Value) (v6 : Option Value) (v7 : Option Value) (v8 : Option Value) (v10 : Option Value) (v11 : Option Value) (x1 : Int32) (st : List Value) (σ : ma_H) (hb : ma_bef [v0, v1, v2, v3, v4, v5, v6, v7, v8, some (.int x1), v10, v11] 9 = false), ma_rn ro d 92 (38, [v0, v1, v2, v3, v4, v5, v6, v7, v8, some (.int x1), v10, v11], st, SH, σ) = ma_rn ro d 92 (41, [v0, v1, v2, v3, v4, v5, v6, v7, v8, some (.int (x1 + nI 1)), v10, v11], st, SH, σ)) ∧
  (∀ (v0 : Option Value) (v1 : Option Value) (v2 : Option Value) (v3 : Option Value) (v4 : Option Value) (v5 : Option Value) (v6 : Option Value) (v7 : Option Value) (v8 : Option Value) (v9 : Option Value) (v10 : Option Value) (v11 : Option Value) (st : List Value) (σ : ma_H), ma_rn ro d 92 (41, [v0, v1, v2, v3, v4, v5, v6, v7, v8, v9, v10, v11], st, SH, σ) = ma_rn ro d 92 (9, [v0, v1, v2, v3, v4, v5, v6, v7, v8, v9, v10, v11], st, SH, σ)) ∧
  (∀ (v0 : Option Value) (v1 : Option Value) (v2 : Option Value) (v3 : Option Value) (v4 : Option Value) (v6 : Option Value) (v7 : Option Value) (v8 : Option Value) (v9 : Option Value) (v10 : Option Value) (v11 : Option Value) (j1 : Int64) (st : List Value) (σ : ma_H), ma_rn ro d 92 (44, [v0, v1, v2, v3, v4, some (.long j1), v6, v7, v8, v9, v10, v11], st, SH, σ) = ma_rn ro d 92 (46, [v0, v1, v2, v3, v4, some (.long j1), v6, v7, v8, v9, v10, v11], .long j1 :: st, SH, σ)) ∧
  (∀ (v0 : Option Value) (v1 : Option Value) (v2 : Option Value) (v3 : Option Value) (v4 : Option Value) (v5 : Option Value) (v6 : Option Value) (v7 : Option Value) (v8 : Option Value) (v9 : Option Value) (v10 : Option Value) (v11 : Option Value) (st : List Value) (σ : ma_H), ma_rn ro d 92 (46, [v0, v1, v2, v3, v4, v5, v6, v7, v8, v9, v10, v11], st, SH, σ) = ma_rn ro d 92 (47, [v0, v1, v2, v3, v4, v5, v6, v7, v8, v9, v10, v11], .long 0 :: st, SH, σ)) ∧
  (∀ (v0 : Option Value) (v1 : Option Value) (v2 : Option Value) (v3 : Option Value) (v4 : Option Value) (v5 : Option Value) (v6 : Option Value) (v7 : Option Value) (v8 : Option Value) (v9 : Option Value) (v10 : Option Value) (v11 : Option Value) (j1 : Int64) (j2 : Int64) (st : List Value) (σ : ma_H), ma_rn ro d 92 (47, [v0, v1, v2, v3, v4, v5, v6, v7, v8, v9, v10, v11], .long j1 :: .long j2 :: st, SH, σ) = ma_rn ro d 92 (48, [v0, v1, v2, v3, v4, v5, v6, v7, v8, v9, v10, v11], .int (lg_cmp j2 j1) :: st, SH, σ)) ∧
  (∀ (v0 : Option Value) (v1 : Option Value) (v2 : Option Value) (v3 : Option Value) (v4 : Option Value) (v5 : Option Value) (v6 : Option Value) (v7 : Option Value) (v8 : Option Value) (v9 : Option Value) (v10 : Option Value) (v11 : Option Value) (x1 : Int32) (st : List Value) (σ : ma_H), ma_rn ro d 92 (48, [v0, v1, v2, v3, v4, v5, v6, v7, v8, v9, v10, v11], .int x1 :: st, SH, σ) = if x1 = nI 0 then ma_rn ro d 92 (51, [v0, v1, v2, v3, v4, v5, v6, v7, v8, v9, v10, v11], st, SH, σ) else ma_rn ro d 92 (55, [v0, v1, v2, v3, v4, v5, v6, v7, v8, v9, v10, v11], st, SH, σ)) ∧
  (∀ (v0 : Option Value) (v1 : Option Value) (v2 : Option Value) (v3 : Option Value) (v4 : Option Value) (v5 : Option Value) (v6 : Option Value) (v7 : Option Value) (v8 : Option Value) (v9 : Option Value) (v10 : Option Value) (v11 : Option Value) (st : List Value) (σ : ma_H), ma_rn ro d 92 (51, [v0, v1, v2, v3, v4, v5, v6, v7, v8, v9, v10, v11], st, SH, σ) = ma_rn ro d 92 (54, [v0, v1, v2, v3, v4, v5, v6, v7, v8, v9, v10, v11], .long (-9223372036854775808) :: st, SH, σ)) ∧
  (∀ (v0 : Option Value) (v1 : Option Value) (v2 : Option Value) (v3 : Option Value) (v4 : Option Value) (v5 : Option Value) (v6 : Option Value) (v7 : Option Value) (v8 : Option Value) (v9 : Option Value) (v10 : Option Value) (v11 : Option Value) (j1 : Int64) (σ : ma_H), ma_rn ro d 92 (54, [v0, v1, v2, v3, v4, v5, v6, v7, v8, v9, v10, v11], [.long j1], SH, σ) = some (some (.long j1), SH, σ)) ∧
  (∀ (v0 : Option Value) (v1 : Option Value) (v2 : Option Value) (v3 : Option Value) (v5 : Option Value) (v6 : Option Value) (v7 : Option Value) (v8 : Option Value) (v9 : Option Value) (v10 : Option Value) (v11 : Option Value) (x1 : Int32) (st : List Value) (σ : ma_H), ma_rn ro d 92 (55, [v0, v1, v2, v3, some (.int x1), v5, v6, v7, v8, v9, v10, v11], st, SH, σ) = ma_rn ro d 92 (57, [v0, v1, v2, v3, some (.int x1), v5, v6, v7, v8, v9, v10, v11], .int x1 :: st, SH, σ)) ∧
  (∀ (v0 : Option Value) (v1 : Option Value) (v2 : Option Value) (v3 : Option Value) (v4 : Option Value) (v5 : Option Value) (v6 : Option Value) (v7 : Option Value) (v8 : Option Value) (v9 : Option Value) (v10 : Option Value) (v11 : Option Value) (x1 : Int32) (st : List Value) (σ : ma_H), ma_rn ro d 92 (57, [v0, v1, v2, v3, v4, v5, v6, v7, v8, v9, v10, v11], .int x1 :: st, SH, σ) = if x1 = nI 0 then ma_rn ro d 92 (60, [v0, v1, v2, v3, v4, v5, v6, v7, v8, v9, v10, v11], st, SH, σ) else ma_rn ro d 92 (67, [v0, v1, v2, v3, v4, v5, v6, v7, v8, v9, v10, v11], st, SH, σ)) ∧
  (∀ (v1 : Option Value) (v2 : Option Value) (v3 : Option Value) (v4 : Option Value) (v5 : Option Value) (v6 : Option Value) (v7 : Option Value) (v8 : Option Value) (v9 : Option Value) (v10 : Option Value) (v11 : Option Value) (j1 : Int64) (st : List Value) (σ : ma_H), ma_rn ro d 92 (60, [some (.long j1), v1, v2, v3, v4, v5, v6, v7, v8, v9, v10, v11], st, SH, σ) = ma_rn ro d 92 (61, [some (.long j1), v1, v2, v3, v4, v5, v6, v7, v8, v9, v10, v11], .long j1 :: st, SH, σ)) ∧
  (∀ (v0 : Option Value) (v1 : Option Value) (v2 : Option Value) (v3 : Option Value) (v4 : Option Value) (v6 : Option Value) (v7 : Option Value) (v8 : Option Value) (v9 : Option Value) (v10 : Option Value) (v11 : Option Value) (j1 : Int64) (st : List Value) (σ : ma_H), ma_rn ro d 92 (61, [v0, v1, v2, v3, v4, some (.long j1), v6, v7, v8, v9, v10, v11], st, SH, σ) = ma_rn ro d 92 (63, [v0, v1, v2, v3, v4, some (.long j1), v6, v7, v8, v9, v10, v11], .long j1 :: st, SH, σ)) ∧
  (∀ (v0 : Option Value) (v1 : Option Value) (v2 : Option Value) (v3 : Option Value) (v4 : Option Value) (v5 : Option Value) (v6 : Option Value) (v7 : Option Value) (v8 : Option Value) (v9 : Option Value) (v10 : Option Value) (v11 : Option Value) (j1 : Int64) (j2 : Int64) (st : List Value) (σ : ma_H) (hy : ¬ j1 = 0), ma_rn ro d 92 (63, [v0, v1, v2, v3, v4, v5, v6, v7, v8, v9, v10, v11], .long j1 :: .long j2 :: st, SH, σ) = ma_rn ro d 92 (64, [v0, v1, v2, v3, v4, v5, v6, v7, v8, v9, v10, v11], .long (j2 / j1) :: st, SH, σ)) ∧
  (∀ (v0 : Option Value) (v1 : Option Value) (v2 : Option Value) (v3 : Option Value) (v4 : Option Value) (v5 : Option Value) (v6 : Option Value) (v7 : Option Value) (v8 : Option Value) (v9 : Option Value) (v10 : Option Value) (v11 : Option Value) (st : List Value) (σ : ma_H), ma_rn ro d 92 (64, [v0, v1, v2, v3, v4, v5, v6, v7, v8, v9, v10, v11], st, SH, σ) = ma_rn ro d 92 (71, [v0, v1, v2, v3, v4, v5, v6, v7, v8, v9, v10, v11], st, SH, σ)) ∧
  (∀ (v0 : Option Value) (v1 : Option Value) (v3 : Option Value) (v4 : Option Value) (v5 : Option Value) (v6 : Option Value) (v7 : Option Value) (v8 : Option Value) (v9 : Option Value) (v10 : Option Value) (v11 : Option Value) (j1 : Int64) (st : List Value) (σ : ma_H), ma_rn ro d 92 (67, [v0, v1, some (.long j1), v3, v4, v5, v6, v7, v8, v9, v10, v11], st, SH, σ) = ma_rn ro d 92 (68, [v0, v1, some (.long j1), v3, v4, v5, v6, v7, v8, v9, v10, v11], .long j1 :: st, SH, σ)) ∧
  (∀ (v0 : Option Value) (v1 : Option Value) (v2 : Option Value) (v3 : Option Value) (v4 : Option Value) (v6 : Option Value) (v7 : Option Value) (v8 : Option Value) (v9 : Option Value) (v10 : Option Value) (v11 : Option Value) (j1 : Int64) (st : List Value) (σ : ma_H), ma_rn ro d 92 (68, [v0, v1, v2, v3, v4, some (.long j1), v6, v7, v8, v9, v10, v11], st, SH, σ) = ma_rn ro d 92 (70, [v0, v1, v2, v3, v4, some (.long j1), v6, v7, v8, v9, v10, v11], .long j1 :: st, SH, σ)) ∧
  (∀ (v0 : Option Value) (v1 : Option Value) (v2 : Option Value) (v3 : Option Value) (v4 : Option Value) (v5 : Option Value) (v6 : Option Value) (v7 : Option Value) (v8 : Option Value) (v9 : Option Value) (v10 : Option Value) (v11 : Option Value) (j1 : Int64) (j2 : Int64) (st : List Value) (σ : ma_H) (hy : ¬ j1 = 0), ma_rn ro d 92 (70, [v0, v1, v2, v3, v4, v5, v6, v7, v8, v9, v10, v11], .long j1 :: .long j2 :: st, SH, σ) = ma_rn ro d 92 (71, [v0, v1, v2, v3, v4, v5, v6, v7, v8, v9, v10, v11], .long (j2 / j1) :: st, SH, σ)) ∧
  (∀ (v0 : Option Value) (v1 : Option Value) (v2 : Option Value) (v3 : Option Value) (v4 : Option Value) (v5 : Option Value) (v6 : Option Value) (v7 : Option Value) (v8 : Option Value) (v9 : Option Value) (v10 : Option Value) (v11 : Option Value) (j1 : Int64) (σ : ma_H), ma_rn ro d 92 (71, [v0, v1, v2, v3, v4, v5, v6, v7, v8, v9, v10, v11], [.long j1], SH, σ) = some (some (.long j1), SH, σ)) := ⟨fun v1 v2 v3 v4 v5 v6 v7 v8 v9 v10 v11 j1 st σ => q_go e92_0 rfl rfl,
  fun v0 v1 v2 v3 v5 v6 v7 v8 v9 v10 v11 x9 j1 st σ => q_go e92_1 rfl rfl,
  fun v0 v1 v3 v4 v5 v6 v7 v8 v9 v10 v11 j1 st σ => q_go e92_3 rfl rfl,
  fun v0 v1 v2 v3 v4 v5 v6 v7 v8 v9 v10 v11 j1 st σ hb => q_go e92_4 rfl (q_s2 hb rfl (Nat.le_of_ble_eq_true rfl)),
  fun v0 v1 v2 v3 v4 v5 v6 v7 v8 v9 v10 v11 st σ => q_iconst e92_6 (by decide),
  fun v0 v1 v2 v3 v4 v5 v6 v7 v8 v9 v10 v11 x1 st σ hb => q_go e92_7 rfl (q_s1 hb rfl (Nat.le_of_ble_eq_true rfl)),
  fun v0 v1 v2 v3 v4 v5 v6 v7 v8 v9 v10 v11 st σ => q_bipush e92_11 (by decide),
  fun v0 v1 v2 v3 v4 v5 v6 v7 v8 v9 v10 v11 x1 x2 st σ => (q_cmp e92_13 rfl).trans q_nlt,
  fun v0 v1 v2 v3 v4 v5 v6 v8 v9 v10 v11 j1 st σ => q_go e92_16 rfl rfl,
  fun v0 v1 v2 v3 v4 v5 v6 v7 v8 v9 v10 v11 st σ => q_go e92_18 rfl rfl,
  fun v0 v1 v2 v3 v4 v5 v6 v7 v8 v9 v10 v11 j1 j2 st σ => q_go e92_19 rfl rfl,
  fun v0 v1 v2 v3 v4 v5 v6 v7 v8 v9 v10 v11 x1 st σ => (q_if e92_20 rfl).trans q_eq,
  fun v0 v1 v2 v3 v4 v6 v7 v8 v9 v10 v11 j1 st σ => q_go e92_23 rfl rfl,
  fun v0 v1 v2 v3 v4 v5 v6 v8 v9 v10 v11 j1 st σ => q_go e92_25 rfl rfl,
  fun v0 v1 v2 v3 v4 v5 v6 v7 v8 v9 v10 v11 j1 j2 st σ hy => q_lrem e92_27 hy,
  fun v0 v1 v2 v3 v4 v5 v6 v7 v8 v10 v11 x9 j1 st σ => q_go e92_28 rfl rfl,
  fun v0 v1 v2 v3 v4 v5 v6 v8 v9 v10 v11 j1 st σ => q_go e92_30 rfl rfl,
  fun v0 v1 v2 v3 v5 v6 v7 v8 v9 v10 v11 x9 j1 st σ => q_go e92_32 rfl rfl,
  fun v0 v1 v2 v3 v4 v5 v6 v7 v8 v9 v11 j1 st σ => q_go e92_34 rfl rfl,
  fun v0 v1 v2 v3 v4 v5 v6 v7 v8 v9 v10 v11 j1 st σ hb => q_go e92_36 rfl (q_s2 hb rfl (Nat.le_of_ble_eq_true rfl)),
  fun v0 v1 v2 v3 v4 v5 v6 v7 v8 v10 v11 x1 st σ hb => q_iinc e92_38 rfl hb (by decide),
  fun v0 v1 v2 v3 v4 v5 v6 v7 v8 v9 v10 v11 st σ => q_goto e92_41 rfl,
  fun v0 v1 v2 v3 v4 v6 v7 v8 v9 v10 v11 j1 st σ => q_go e92_44 rfl rfl,
  fun v0 v1 v2 v3 v4 v5 v6 v7 v8 v9 v10 v11 st σ => q_go e92_46 rfl rfl,
  fun v0 v1 v2 v3 v4 v5 v6 v7 v8 v9 v10 v11 j1 j2 st σ => q_go e92_47 rfl rfl,
  fun v0 v1 v2 v3 v4 v5 v6 v7 v8 v9 v10 v11 x1 st σ => (q_if e92_48 rfl).trans q_ne,
  fun v0 v1 v2 v3 v4 v5 v6 v7 v8 v9 v10 v11 st σ => q_ldc2 e92_51 o_92 l_7_208,
  fun v0 v1 v2 v3 v4 v5 v6 v7 v8 v9 v10 v11 j1 σ => q_lret e92_54 r_92,
  fun v0 v1 v2 v3 v5 v6 v7 v8 v9 v10 v11 x1 st σ => q_go e92_55 rfl rfl,
  fun v0 v1 v2 v3 v4 v5 v6 v7 v8 v9 v10 v11 x1 st σ => (q_if e92_57 rfl).trans q_ne,
  fun v1 v2 v3 v4 v5 v6 v7 v8 v9 v10 v11 j1 st σ => q_go e92_60 rfl rfl,
  fun v0 v1 v2 v3 v4 v6 v7 v8 v9 v10 v11 j1 st σ => q_go e92_61 rfl rfl,
  fun v0 v1 v2 v3 v4 v5 v6 v7 v8 v9 v10 v11 j1 j2 st σ hy => q_ldiv e92_63 hy,
  fun v0 v1 v2 v3 v4 v5 v6 v7 v8 v9 v10 v11 st σ => q_goto e92_64 rfl,
  fun v0 v1 v3 v4 v5 v6 v7 v8 v9 v10 v11 j1 st σ => q_go e92_67 rfl rfl,
  fun v0 v1 v2 v3 v4 v6 v7 v8 v9 v10 v11 j1 st σ => q_go e92_68 rfl rfl,
  fun v0 v1 v2 v3 v4 v5 v6 v7 v8 v9 v10 v11 j1 j2 st σ hy => q_ldiv e92_70 hy,
  fun v0 v1 v2 v3 v4 v5 v6 v7 v8 v9 v10 v11 j1 σ => q_lret e92_71 r_92⟩
theorem E92 {ro : ma_RO} {d : Nat} (j1 : Int64) (j2 : Int64) (x3 : Int32) (sh : List ma_Sh) (σ : ma_H) : ma_ev ro d 92 [.long j1, .long j2, .int x3] sh σ = ma_rn ro d 92 (0, [some (.long j1), none, some (.long j2), none, some (.int x3), none, none, none, none, none, none, none], [], sh, σ) := q_ent x_92 rfl
theorem e93_0 : decode (ma_cd 93) 0 = .ok (.iconst 0, 1) := (congrArg (fun b => decode b 0) cd_93).trans dX7_goOne_0
theorem e93_1 : decode (ma_cd 93) 1 = .ok (.istore_n 3, 1) := (congrArg (fun b => decode b 1) cd_93).trans dX7_goOne_1
theorem e93_2 : decode (ma_cd 93) 2 = .ok (.iload_n 3, 1) := (congrArg (fun b => decode b 2) cd_93).trans dX7_goOne_2
theorem e93_3 : decode (ma_cd 93) 3 = .ok (.iload_n 1, 1) := (congrArg (fun b => decode b 3) cd_93).trans dX7_goOne_3
theorem e93_4 : decode (ma_cd 93) 4 = .ok (.if_icmp .ge 43, 3) := (congrArg (fun b => decode b 4) cd_93).trans dX7_goOne_4
theorem e93_7 : decode (ma_cd 93) 7 = .ok (.aload_n 0, 1) := (congrArg (fun b => decode b 7) cd_93).trans dX7_goOne_7
theorem e93_8 : decode (ma_cd 93) 8 = .ok (.getfield 49, 3) := (congrArg (fun b => decode b 8) cd_93).trans dX7_goOne_8
theorem e93_11 : decode (ma_cd 93) 11 = .ok (.aload_n 0, 1) := (congrArg (fun b => decode b 11) cd_93).trans dX7_goOne_11
theorem e93_12 : decode (ma_cd 93) 12 = .ok (.getfield 49, 3) := (congrArg (fun b => decode b 12) cd_93).trans dX7_goOne_12
theorem e93_15 : decode (ma_cd 93) 15 = .ok (.aload_n 0, 1) := (congrArg (fun b => decode b 15) cd_93).trans dX7_goOne_15
theorem e93_16 : decode (ma_cd 93) 16 = .ok (.getfield 12, 3) := (congrArg (fun b => decode b 16) cd_93).trans dX7_goOne_16
theorem e93_19 : decode (ma_cd 93) 19 = .ok (.getfield 86, 3) := (congrArg (fun b => decode b 19) cd_93).trans dX7_goOne_19
theorem e93_22 : decode (ma_cd 93) 22 = .ok (.aload_n 0, 1) := (congrArg (fun b => decode b 22) cd_93).trans dX7_goOne_22
theorem e93_23 : decode (ma_cd 93) 23 = .ok (.getfield 12, 3) := (congrArg (fun b => decode b 23) cd_93).trans dX7_goOne_23
theorem e93_26 : decode (ma_cd 93) 26 = .ok (.getfield 93, 3) := (congrArg (fun b => decode b 26) cd_93).trans dX7_goOne_26
theorem e93_29 : decode (ma_cd 93) 29 = .ok (.getfield 129, 3) := (congrArg (fun b => decode b 29) cd_93).trans dX7_goOne_29
theorem e93_32 : decode (ma_cd 93) 32 = .ok (.iload_n 3, 1) := (congrArg (fun b => decode b 32) cd_93).trans dX7_goOne_32
theorem e93_33 : decode (ma_cd 93) 33 = .ok (.iadd, 1) := (congrArg (fun b => decode b 33) cd_93).trans dX7_goOne_33
theorem e93_34 : decode (ma_cd 93) 34 = .ok (.invokevirtual 132, 3) := (congrArg (fun b => decode b 34) cd_93).trans dX7_goOne_34
theorem e93_37 : decode (ma_cd 93) 37 = .ok (.iload_n 2, 1) := (congrArg (fun b => decode b 37) cd_93).trans dX7_goOne_37
theorem e93_38 : decode (ma_cd 93) 38 = .ok (.invokevirtual 271, 3) := (congrArg (fun b => decode b 38) cd_93).trans dX7_goOne_38
theorem e93_41 : decode (ma_cd 93) 41 = .ok (.iinc 3 1, 3) := (congrArg (fun b => decode b 41) cd_93).trans dX7_goOne_41
theorem e93_44 : decode (ma_cd 93) 44 = .ok (.goto (-42), 3) := (congrArg (fun b => decode b 44) cd_93).trans dX7_goOne_44
theorem e93_47 : decode (ma_cd 93) 47 = .ok (.return_, 1) := (congrArg (fun b => decode b 47) cd_93).trans dX7_goOne_47
theorem Sh93_2 {ro : ma_RO} {d : Nat} : (∀ (v0 : Option Value) (v1 : Option Value) (v2 : Option Value) (x1 : Int32) (st : List Value) (σ : ma_H), ma_rn ro d 93 (2, [v0, v1, v2, some (.int x1)], st, SH, σ) = ma_rn ro d 93 (3, [v0, v1, v2, some (.int x1)], .int x1 :: st, SH, σ)) := fun v0 v1 v2 x1 st σ => q_go e93_2 rfl rfl
theorem S93 {ro : ma_RO} {d : Nat} : (∀ (v0 : Option Value) (v1 : Option Value) (v2 : Option Value) (v3 : Option Value) (st : List Value) (σ : ma_H), ma_rn ro d 93 (0, [v0, v1, v2, v3], st, SH, σ) = ma_rn ro d 93 (1, [v0, v1, v2, v3], .int (nI 0) :: st, SH, σ)) ∧
  (∀ (v0 : Option Value) (v1 : Option Value) (v3 : Option Value) (x9 : Int32) (x1 : Int32) (st : List Value) (σ : ma_H), ma_rn ro d 93 (1, [v0, v1, some (.int x9), v3], .int x1 :: st, SH, σ) = ma_rn ro d 93 (2, [v0, v1, some (.int x9), some (.int x1)], st, SH, σ)) ∧
  (∀ (v0 : Option Value) (v2 : Option Value) (v3 : Option Value) (x1 : Int32) (st : List Value) (σ : ma_H), ma_rn ro d 93 (3, [v0, some (.int x1), v2, v3], st, SH, σ) = ma_rn ro d 93 (4, [v0, some (.int x1), v2, v3], .int x1 :: st, SH, σ)) ∧
  (∀ (v0 : Option Value) (v1 : Option Value) (v2 : Option Value) (v3 : Option Value) (x1 : Int32) (x2 : Int32) (st : List Value) (σ : ma_H), ma_rn ro d 93 (4, [v0, v1, v2, v3], .int x1 :: .int x2 :: st, SH, σ) = if x2 < x1 then ma_rn ro d 93 (7, [v0, v1, v2, v3], st, SH, σ) else ma_rn ro d 93 (47, [v0, v1, v2, v3], st, SH, σ)) ∧
  (∀ (v1 : Option Value) (v2 : Option Value) (v3 : Option Value) (a1 : Nat) (st : List Value) (σ : ma_H), ma_rn ro d 93 (7, [some (.ref a1), v1, v2, v3], st, SH, σ) = ma_rn ro d 93 (8, [some (.ref a1), v1, v2, v3], .ref a1 :: st, SH, σ)) ∧
  (∀ (v0 : Option Value) (v1 : Option Value) (v2 : Option Value) (v3 : Option Value) (a1 : Nat) (st : List Value) (σ : ma_H) (hc : hk_cls a1 = 7), ma_rn ro d 93 (8, [v0, v1, v2, v3], .ref a1 :: st, SH, σ) = ma_rn ro d 93 (11, [v0, v1, v2, v3], .ref (84) :: st, SH, σ)) ∧
  (∀ (v1 : Option Value) (v2 : Option Value) (v3 : Option Value) (a1 : Nat) (st : List Value) (σ : ma_H), ma_rn ro d 93 (11, [some (.ref a1), v1, v2, v3], st, SH, σ) = ma_rn ro d 93 (12, [some (.ref a1), v1, v2, v3], .ref a1 :: st, SH, σ)) ∧
  (∀ (v0 : Option Value) (v1 : Option Value) (v2 : Option Value) (v3 : Option Value) (a1 : Nat) (st : List Value) (σ : ma_H) (hc : hk_cls a1 = 7), ma_rn ro d 93 (12, [v0, v1, v2, v3], .ref a1 :: st, SH, σ) = ma_rn ro d 93 (15, [v0, v1, v2, v3], .ref (84) :: st, SH, σ)) ∧
  (∀ (v1 : Option Value) (v2 : Option Value) (v3 : Option Value) (a1 : Nat) (st : List Value) (σ : ma_H), ma_rn ro d 93 (15, [some (.ref a1), v1, v2, v3], st, SH, σ) = ma_rn ro d 93 (16, [some (.ref a1), v1, v2, v3], .ref a1 :: st, SH, σ)) ∧
  (∀ (v0 : Option Value) (v1 : Option Value) (v2 : Option Value) (v3 : Option Value) (a1 : Nat) (st : List Value) (σ : ma_H) (hc : hk_cls a1 = 7), ma_rn ro d 93 (16, [v0, v1, v2, v3], .ref a1 :: st, SH, σ) = ma_rn ro d 93 (19, [v0, v1, v2, v3], .ref (1) :: st, SH, σ)) ∧
  (∀ (v0 : Option Value) (v1 : Option Value) (v2 : Option Value) (v3 : Option Value) (a1 : Nat) (st : List Value) (σ : ma_H) (hc : hk_cls a1 = 5), ma_rn ro d 93 (19, [v0, v1, v2, v3], .ref a1 :: st, SH, σ) = ma_rn ro d 93 (22, [v0, v1, v2, v3], .ref (a1 + 15) :: st, SH, σ)) ∧
  (∀ (v1 : Option Value) (v2 : Option Value) (v3 : Option Value) (a1 : Nat) (st : List Value) (σ : ma_H), ma_rn ro d 93 (22, [some (.ref a1), v1, v2, v3], st, SH, σ) = ma_rn ro d 93 (23, [some (.ref a1), v1, v2, v3], .ref a1 :: st, SH, σ)) ∧
  (∀ (v0 : Option Value) (v1 : Option Value) (v2 : Option Value) (v3 : Option Value) (a1 : Nat) (st : List Value) (σ : ma_H) (hc : hk_cls a1 = 7), ma_rn ro d 93 (23, [v0, v1, v2, v3], .ref a1 :: st, SH, σ) = ma_rn ro d 93 (26, [v0, v1, v2, v3], .ref (1) :: st, SH, σ)) ∧
  (∀ (v0 : Option Value) (v1 : Option Value) (v2 : Option Value) (v3 : Option Value) (a1 : Nat) (st : List Value) (σ : ma_H) (hc : hk_cls a1 = 5), ma_rn ro d 93 (26, [v0, v1, v2, v3], .ref a1 :: st, SH, σ) = ma_rn ro d 93 (29, [v0, v1, v2, v3], .ref (a1 + 1) :: st, SH, σ)) ∧
  (∀ (v0 : Option Value) (v1 : Option Value) (v2 : Option Value) (v3 : Option Value) (a1 : Nat) (st : List Value) (σ : ma_H) (hc : hk_cls a1 = 6), ma_rn ro d 93 (29, [v0, v1, v2, v3], .ref a1 :: st, SH, σ) = ma_rn ro d 93 (32, [v0, v1, v2, v3], .int (σ a1 3) :: st, SH, σ)) ∧
  (∀ (v0 : Option Value) (v1 : Option Value) (v2 : Option Value) (x1 : Int32) (st : List Value) (σ : ma_H), ma_rn ro d 93 (32, [v0, v1, v2, some (.int x1)], st, SH, σ) = ma_rn ro d 93 (33, [v0, v1, v2, some (.int x1)], .int x1 :: st, SH, σ)) ∧
  (∀ (v0 : Option Value) (v1 : Option Value) (v2 : Option Value) (v3 : Option Value) (x1 : Int32) (x2 : Int32) (st : List Value) (σ : ma_H), ma_rn ro d 93 (33, [v0, v1, v2, v3], .int x1 :: .int x2 :: st, SH, σ) = ma_rn ro d 93 (34, [v0, v1, v2, v3], .int (x2 + x1) :: st, SH, σ)) ∧
  (∀ (v0 : Option Value) (v1 : Option Value) (v2 : Option Value) (v3 : Option Value) (a20 : Nat) (a1 : Nat) (x2 : Int32) (a0 : Nat) (σ : ma_H) (hc : hk_cls a0 = 1), ma_rn ro (d + 1) 93 (34, [v0, v1, v2, v3], .int x2 :: .ref a1 :: .ref a0 :: .ref a20 :: [], SH, σ) = (ma_ev ro d 11 [.ref a0, .ref a1, .int x2] SH σ).bind (fun q => ma_rn ro (d + 1) 93 (37, [v0, v1, v2, v3], (q.1.toList ++ (.ref a20 :: [])), q.2.1, q.2.2))) ∧
  (∀ (v0 : Option Value) (v1 : Option Value) (v3 : Option Value) (x1 : Int32) (st : List Value) (σ : ma_H), ma_rn ro d 93 (37, [v0, v1, some (.int x1), v3], st, SH, σ) = ma_rn ro d 93 (38, [v0, v1, some (.int x1), v3], .int x1 :: st, SH, σ)) ∧
  (∀ (v0 : Option Value) (v1 : Option Value) (v2 : Option Value) (v3 : Option Value) (x1 : Int32) (x2 : Int32) (a0 : Nat) (σ : ma_H) (hc : hk_cls a0 = 1), ma_rn ro (d + 1) 93 (38, [v0, v1, v2, v3], .int x2 :: .int x1 :: .ref a0 :: [], SH, σ) = (ma_ev ro d 12 [.ref a0, .int x1, .int x2] SH σ).bind (fun q => ma_rn ro (d + 1) 93 (41, [v0, v1, v2, v3], (q.1.toList ++ []), q.2.1, q.2.2))) ∧
  (∀ (v0 : Option Value) (v1 : Option Value) (x1 : Int32) (x9 : Int32) (st : List Value) (σ : ma_H), ma_rn ro d 93 (41, [v0, v1, some (.int x9), some (.int x1)], st, SH, σ) = ma_rn ro d 93 (44, [v0, v1, some (.int x9), some (.int (x1 + nI 1))], st, SH, σ)) ∧
  (∀ (v0 : Option Value) (v1 : Option Value) (v2 : Option Value) (v3 : Option Value) (st : List Value) (σ : ma_H), ma_rn ro d 93 (44, [v0, v1, v2, v3], st, SH, σ) = ma_rn ro d 93 (2, [v0, v1, v2, v3], st, SH, σ)) ∧
  (∀ (v0 : Option Value) (v1 : Option Value) (v2 : Option Value) (v3 : Option Value) (σ : ma_H), ma_rn ro d 93 (47, [v0, v1, v2, v3], [], SH, σ) = some (none, SH, σ)) := ⟨fun v0 v1 v2 v3 st σ => q_iconst e93_0 (by decide),
  fun v0 v1 v3 x9 x1 st σ => q_go e93_1 rfl rfl,
  fun v0 v2 v3 x1 st σ => q_go e93_3 rfl rfl,
  fun v0 v1 v2 v3 x1 x2 st σ => (q_cmp e93_4 rfl).trans q_nlt,
  fun v1 v2 v3 a1 st σ => q_go e93_7 rfl rfl,
  fun v0 v1 v2 v3 a1 st σ hc => q_getA e93_8 o_93 f_7_49 (by decide) hc,
  fun v1 v2 v3 a1 st σ => q_go e93_11 rfl rfl,
  fun v0 v1 v2 v3 a1 st σ hc => q_getA e93_12 o_93 f_7_49 (by decide) hc,
  fun v1 v2 v3 a1 st σ => q_go e93_15 rfl rfl,
  fun v0 v1 v2 v3 a1 st σ hc => q_getA e93_16 o_93 f_7_12 (by decide) hc,
  fun v0 v1 v2 v3 a1 st σ hc => q_getA e93_19 o_93 f_7_86 (by decide) hc,
  fun v1 v2 v3 a1 st σ => q_go e93_22 rfl rfl,
  fun v0 v1 v2 v3 a1 st σ hc => q_getA e93_23 o_93 f_7_12 (by decide) hc,
  fun v0 v1 v2 v3 a1 st σ hc => q_getA e93_26 o_93 f_7_93 (by decide) hc,
  fun v0 v1 v2 v3 a1 st σ hc => q_getI e93_29 o_93 f_7_129 (by decide) hc,
  fun v0 v1 v2 x1 st σ => q_go e93_32 rfl rfl,
  fun v0 v1 v2 v3 x1 x2 st σ => q_go e93_33 rfl rfl,
  fun v0 v1 v2 v3 a20 a1 x2 a0 σ hc => q_invV (as := [.ref a1, .int x2]) (rest := .ref a20 :: []) e93_34 o_93 bn_7_132 c_7_132 m_11 (by decide) rfl rfl (Nat.le_of_ble_eq_true rfl) (Nat.le_of_ble_eq_true rfl) hc,
  fun v0 v1 v3 x1 st σ => q_go e93_37 rfl rfl,
  fun v0 v1 v2 v3 x1 x2 a0 σ hc => q_invV (as := [.int x1, .int x2]) (rest := []) e93_38 o_93 bn_7_271 c_7_271 m_12 (by decide) rfl rfl (Nat.le_of_ble_eq_true rfl) (Nat.le_of_ble_eq_true rfl) hc,
  fun v0 v1 x1 x9 st σ => q_iinc e93_41 rfl rfl (by decide),
  fun v0 v1 v2 v3 st σ => q_goto e93_44 rfl,
  fun v0 v1 v2 v3 σ => q_vret e93_47 r_93⟩
theorem E93 {ro : ma_RO} {d : Nat} (a0 : Nat) (x1 : Int32) (x2 : Int32) (sh : List ma_Sh) (σ : ma_H) : ma_ev ro d 93 [.ref a0, .int x1, .int x2] sh σ = ma_rn ro d 93 (0, [some (.ref a0), some (.int x1), some (.int x2), none], [], sh, σ) := q_ent x_93 rfl
theorem e94_0 : decode (ma_cd 94) 0 = .ok (.iconst 0, 1) := (congrArg (fun b => decode b 0) cd_94).trans dX7_isSeenSo_0
theorem e94_1 : decode (ma_cd 94) 1 = .ok (.istore 5, 2) := (congrArg (fun b => decode b 1) cd_94).trans dX7_isSeenSo_1
theorem e94_3 : decode (ma_cd 94) 3 = .ok (.iload 5, 2) := (congrArg (fun b => decode b 3) cd_94).trans dX7_isSeenSo_3
theorem e94_5 : decode (ma_cd 94) 5 = .ok (.aload_n 0, 1) := (congrArg (fun b => decode b 5) cd_94).trans dX7_isSeenSo_5
theorem e94_6 : decode (ma_cd 94) 6 = .ok (.getfield 12, 3) := (congrArg (fun b => decode b 6) cd_94).trans dX7_isSeenSo_6
theorem e94_9 : decode (ma_cd 94) 9 = .ok (.getfield 193, 3) := (congrArg (fun b => decode b 9) cd_94).trans dX7_isSeenSo_9
theorem e94_12 : decode (ma_cd 94) 12 = .ok (.getfield 197, 3) := (congrArg (fun b => decode b 12) cd_94).trans dX7_isSeenSo_12
theorem e94_15 : decode (ma_cd 94) 15 = .ok (.if_icmp .ge 116, 3) := (congrArg (fun b => decode b 15) cd_94).trans dX7_isSeenSo_15
theorem e94_18 : decode (ma_cd 94) 18 = .ok (.aload_n 0, 1) := (congrArg (fun b => decode b 18) cd_94).trans dX7_isSeenSo_18
theorem e94_19 : decode (ma_cd 94) 19 = .ok (.getfield 12, 3) := (congrArg (fun b => decode b 19) cd_94).trans dX7_isSeenSo_19
theorem e94_22 : decode (ma_cd 94) 22 = .ok (.getfield 93, 3) := (congrArg (fun b => decode b 22) cd_94).trans dX7_isSeenSo_22
theorem e94_25 : decode (ma_cd 94) 25 = .ok (.aload_n 0, 1) := (congrArg (fun b => decode b 25) cd_94).trans dX7_isSeenSo_25
theorem e94_26 : decode (ma_cd 94) 26 = .ok (.getfield 12, 3) := (congrArg (fun b => decode b 26) cd_94).trans dX7_isSeenSo_26
theorem e94_29 : decode (ma_cd 94) 29 = .ok (.getfield 193, 3) := (congrArg (fun b => decode b 29) cd_94).trans dX7_isSeenSo_29
theorem e94_32 : decode (ma_cd 94) 32 = .ok (.iload 5, 2) := (congrArg (fun b => decode b 32) cd_94).trans dX7_isSeenSo_32
theorem e94_34 : decode (ma_cd 94) 34 = .ok (.invokevirtual 228, 3) := (congrArg (fun b => decode b 34) cd_94).trans dX7_isSeenSo_34
theorem e94_37 : decode (ma_cd 94) 37 = .ok (.invokevirtual 102, 3) := (congrArg (fun b => decode b 37) cd_94).trans dX7_isSeenSo_37
theorem e94_40 : decode (ma_cd 94) 40 = .ok (.astore 6, 2) := (congrArg (fun b => decode b 40) cd_94).trans dX7_isSeenSo_40
theorem e94_42 : decode (ma_cd 94) 42 = .ok (.aload 6, 2) := (congrArg (fun b => decode b 42) cd_94).trans dX7_isSeenSo_42
theorem e94_44 : decode (ma_cd 94) 44 = .ok (.ifnonnull 5, 3) := (congrArg (fun b => decode b 44) cd_94).trans dX7_isSeenSo_44
theorem e94_47 : decode (ma_cd 94) 47 = .ok (.iconst 0, 1) := (congrArg (fun b => decode b 47) cd_94).trans dX7_isSeenSo_47
theorem e94_48 : decode (ma_cd 94) 48 = .ok (.ireturn, 1) := (congrArg (fun b => decode b 48) cd_94).trans dX7_isSeenSo_48
theorem e94_49 : decode (ma_cd 94) 49 = .ok (.aload_n 0, 1) := (congrArg (fun b => decode b 49) cd_94).trans dX7_isSeenSo_49
theorem e94_50 : decode (ma_cd 94) 50 = .ok (.getfield 49, 3) := (congrArg (fun b => decode b 50) cd_94).trans dX7_isSeenSo_50
theorem e94_53 : decode (ma_cd 94) 53 = .ok (.aload 6, 2) := (congrArg (fun b => decode b 53) cd_94).trans dX7_isSeenSo_53
theorem e94_55 : decode (ma_cd 94) 55 = .ok (.invokevirtual 210, 3) := (congrArg (fun b => decode b 55) cd_94).trans dX7_isSeenSo_55
theorem e94_58 : decode (ma_cd 94) 58 = .ok (.aload 6, 2) := (congrArg (fun b => decode b 58) cd_94).trans dX7_isSeenSo_58
theorem e94_60 : decode (ma_cd 94) 60 = .ok (.getfield 274, 3) := (congrArg (fun b => decode b 60) cd_94).trans dX7_isSeenSo_60
theorem e94_63 : decode (ma_cd 94) 63 = .ok (.iload_n 2, 1) := (congrArg (fun b => decode b 63) cd_94).trans dX7_isSeenSo_63
theorem e94_64 : decode (ma_cd 94) 64 = .ok (.if_icmp .ne 20, 3) := (congrArg (fun b => decode b 64) cd_94).trans dX7_isSeenSo_64
theorem e94_67 : decode (ma_cd 94) 67 = .ok (.aload_n 0, 1) := (congrArg (fun b => decode b 67) cd_94).trans dX7_isSeenSo_67
theorem e94_68 : decode (ma_cd 94) 68 = .ok (.getfield 49, 3) := (congrArg (fun b => decode b 68) cd_94).trans dX7_isSeenSo_68
theorem e94_71 : decode (ma_cd 94) 71 = .ok (.iload_n 3, 1) := (congrArg (fun b => decode b 71) cd_94).trans dX7_isSeenSo_71
theorem e94_72 : decode (ma_cd 94) 72 = .ok (.putfield 110, 3) := (congrArg (fun b => decode b 72) cd_94).trans dX7_isSeenSo_72
theorem e94_75 : decode (ma_cd 94) 75 = .ok (.aload_n 0, 1) := (congrArg (fun b => decode b 75) cd_94).trans dX7_isSeenSo_75
theorem e94_76 : decode (ma_cd 94) 76 = .ok (.getfield 49, 3) := (congrArg (fun b => decode b 76) cd_94).trans dX7_isSeenSo_76
theorem e94_79 : decode (ma_cd 94) 79 = .ok (.iload 4, 2) := (congrArg (fun b => decode b 79) cd_94).trans dX7_isSeenSo_79
theorem e94_81 : decode (ma_cd 94) 81 = .ok (.putfield 120, 3) := (congrArg (fun b => decode b 81) cd_94).trans dX7_isSeenSo_81
theorem e94_84 : decode (ma_cd 94) 84 = .ok (.aload_n 0, 1) := (congrArg (fun b => decode b 84) cd_94).trans dX7_isSeenSo_84
theorem e94_85 : decode (ma_cd 94) 85 = .ok (.aload_n 0, 1) := (congrArg (fun b => decode b 85) cd_94).trans dX7_isSeenSo_85
theorem e94_86 : decode (ma_cd 94) 86 = .ok (.getfield 12, 3) := (congrArg (fun b => decode b 86) cd_94).trans dX7_isSeenSo_86
theorem e94_89 : decode (ma_cd 94) 89 = .ok (.getfield 193, 3) := (congrArg (fun b => decode b 89) cd_94).trans dX7_isSeenSo_89
theorem e94_92 : decode (ma_cd 94) 92 = .ok (.iload 5, 2) := (congrArg (fun b => decode b 92) cd_94).trans dX7_isSeenSo_92
theorem e94_94 : decode (ma_cd 94) 94 = .ok (.invokevirtual 231, 3) := (congrArg (fun b => decode b 94) cd_94).trans dX7_isSeenSo_94
theorem e94_97 : decode (ma_cd 94) 97 = .ok (.iload_n 1, 1) := (congrArg (fun b => decode b 97) cd_94).trans dX7_isSeenSo_97
theorem e94_98 : decode (ma_cd 94) 98 = .ok (.invokevirtual 213, 3) := (congrArg (fun b => decode b 98) cd_94).trans dX7_isSeenSo_98
theorem e94_101 : decode (ma_cd 94) 101 = .ok (.aload_n 0, 1) := (congrArg (fun b => decode b 101) cd_94).trans dX7_isSeenSo_101
theorem e94_102 : decode (ma_cd 94) 102 = .ok (.getfield 49, 3) := (congrArg (fun b => decode b 102) cd_94).trans dX7_isSeenSo_102
theorem e94_105 : decode (ma_cd 94) 105 = .ok (.getfield 113, 3) := (congrArg (fun b => decode b 105) cd_94).trans dX7_isSeenSo_105
theorem e94_108 : decode (ma_cd 94) 108 = .ok (.aload_n 0, 1) := (congrArg (fun b => decode b 108) cd_94).trans dX7_isSeenSo_108
theorem e94_109 : decode (ma_cd 94) 109 = .ok (.getfield 12, 3) := (congrArg (fun b => decode b 109) cd_94).trans dX7_isSeenSo_109
theorem e94_112 : decode (ma_cd 94) 112 = .ok (.getfield 193, 3) := (congrArg (fun b => decode b 112) cd_94).trans dX7_isSeenSo_112
theorem e94_115 : decode (ma_cd 94) 115 = .ok (.iload 5, 2) := (congrArg (fun b => decode b 115) cd_94).trans dX7_isSeenSo_115
theorem e94_117 : decode (ma_cd 94) 117 = .ok (.invokevirtual 277, 3) := (congrArg (fun b => decode b 117) cd_94).trans dX7_isSeenSo_117
theorem e94_120 : decode (ma_cd 94) 120 = .ok (.if_icmp .eq 5, 3) := (congrArg (fun b => decode b 120) cd_94).trans dX7_isSeenSo_120
theorem e94_123 : decode (ma_cd 94) 123 = .ok (.iconst 0, 1) := (congrArg (fun b => decode b 123) cd_94).trans dX7_isSeenSo_123
theorem e94_124 : decode (ma_cd 94) 124 = .ok (.ireturn, 1) := (congrArg (fun b => decode b 124) cd_94).trans dX7_isSeenSo_124
theorem e94_125 : decode (ma_cd 94) 125 = .ok (.iinc 5 1, 3) := (congrArg (fun b => decode b 125) cd_94).trans dX7_isSeenSo_125
theorem e94_128 : decode (ma_cd 94) 128 = .ok (.goto (-125), 3) := (congrArg (fun b => decode b 128) cd_94).trans dX7_isSeenSo_128
theorem e94_131 : decode (ma_cd 94) 131 = .ok (.iconst 1, 1) := (congrArg (fun b => decode b 131) cd_94).trans dX7_isSeenSo_131
theorem e94_132 : decode (ma_cd 94) 132 = .ok (.ireturn, 1) := (congrArg (fun b => decode b 132) cd_94).trans dX7_isSeenSo_132
theorem Sh94_3 {ro : ma_RO} {d : Nat} : (∀ (v0 : Option Value) (v1 : Option Value) (v2 : Option Value) (v3 : Option Value) (v4 : Option Value) (v6 : Option Value) (x1 : Int32) (st : List Value) (σ : ma_H), ma_rn ro d 94 (3, [v0, v1, v2, v3, v4, some (.int x1), v6], st, SH, σ) = ma_rn ro d 94 (5, [v0, v1, v2, v3, v4, some (.int x1), v6], .int x1 :: st, SH, σ)) := fun v0 v1 v2 v3 v4 v6 x1 st σ => q_go e94_3 rfl rfl
theorem S94 {ro : ma_RO} {d : Nat} : (∀ (v0 : Option Value) (v1 : Option Value) (v2 : Option Value) (v3 : Option Value) (v4 : Option Value) (v5 : Option Value) (v6 : Option Value) (st : List Value) (σ : ma_H), ma_rn ro d 94 (0, [v0, v1, v2, v3, v4, v5, v6], st, SH, σ) = ma_rn ro d 94 (1, [v0, v1, v2, v3, v4, v5, v6], .int (nI 0) :: st, SH, σ)) ∧
  (∀ (v0 : Option Value) (v1 : Option Value) (v2 : Option Value) (v3 : Option Value) (v5 : Option Value) (v6 : Option Value) (x9 : Int32) (x1 : Int32) (st : List Value) (σ : ma_H), ma_rn ro d 94 (1, [v0, v1, v2, v3, some (.int x9), v5, v6], .int x1 :: st, SH, σ) = ma_rn ro d 94 (3, [v0, v1, v2, v3, some (.int x9), some (.int x1), v6], st, SH, σ)) ∧
  (∀ (v1 : Option Value) (v2 : Option Value) (v3 : Option Value) (v4 : Option Value) (v5 : Option Value) (v6 : Option Value) (a1 : Nat) (st : List Value) (σ : ma_H), ma_rn ro d 94 (5, [some (.ref a1), v1, v2, v3, v4, v5, v6], st, SH, σ) = ma_rn ro d 94 (6, [some (.ref a1), v1, v2, v3, v4, v5, v6], .ref a1 :: st, SH, σ)) ∧
  (∀ (v0 : Option Value) (v1 : Option Value) (v2 : Option Value) (v3 : Option Value) (v4 : Option Value) (v5 : Option Value) (v6 : Option Value) (a1 : Nat) (st : List Value) (σ : ma_H) (hc : hk_cls a1 = 7), ma_rn ro d 94 (6, [v0, v1, v2, v3, v4, v5, v6], .ref a1 :: st, SH, σ) = ma_rn ro d 94 (9, [v0, v1, v2, v3, v4, v5, v6], .ref (1) :: st, SH, σ)) ∧
  (∀ (v0 : Option Value) (v1 : Option Value) (v2 : Option Value) (v3 : Option Value) (v4 : Option Value) (v5 : Option Value) (v6 : Option Value) (a1 : Nat) (st : List Value) (σ : ma_H) (hc : hk_cls a1 = 5), ma_rn ro d 94 (9, [v0, v1, v2, v3, v4, v5, v6], .ref a1 :: st, SH, σ) = ma_rn ro d 94 (12, [v0, v1, v2, v3, v4, v5, v6], .ref (a1 + 20) :: st, SH, σ)) ∧
  (∀ (v0 : Option Value) (v1 : Option Value) (v2 : Option Value) (v3 : Option Value) (v4 : Option Value) (v5 : Option Value) (v6 : Option Value) (a1 : Nat) (st : List Value) (σ : ma_H) (hc : hk_cls a1 = 4), ma_rn ro d 94 (12, [v0, v1, v2, v3, v4, v5, v6], .ref a1 :: st, SH, σ) = ma_rn ro d 94 (15, [v0, v1, v2, v3, v4, v5, v6], .int (σ a1 3) :: st, SH, σ)) ∧
  (∀ (v0 : Option Value) (v1 : Option Value) (v2 : Option Value) (v3 : Option Value) (v4 : Option Value) (v5 : Option Value) (v6 : Option Value) (x1 : Int32) (x2 : Int32) (st : List Value) (σ : ma_H), ma_rn ro d 94 (15, [v0, v1, v2, v3, v4, v5, v6], .int x1 :: .int x2 :: st, SH, σ) = if x2 < x1 then ma_rn ro d 94 (18, [v0, v1, v2, v3, v4, v5, v6], st, SH, σ) else ma_rn ro d 94 (131, [v0, v1, v2, v3, v4, v5, v6], st, SH, σ)) ∧
  (∀ (v1 : Option Value) (v2 : Option Value) (v3 : Option Value) (v4 : Option Value) (v5 : Option Value) (v6 : Option Value) (a1 : Nat) (st : List Value) (σ : ma_H), ma_rn ro d 94 (18, [some (.ref a1), v1, v2, v3, v4, v5, v6], st, SH, σ) = ma_rn ro d 94 (19, [some (.ref a1), v1, v2, v3, v4, v5, v6], .ref a1 :: st, SH, σ)) ∧
  (∀ (v0 : Option Value) (v1 : Option Value) (v2 : Option Value) (v3 : Option Value) (v4 : Option Value) (v5 : Option Value) (v6 : Option Value) (a1 : Nat) (st : List Value) (σ : ma_H) (hc : hk_cls a1 = 7), ma_rn ro d 94 (19, [v0, v1, v2, v3, v4, v5, v6], .ref a1 :: st, SH, σ) = ma_rn ro d 94 (22, [v0, v1, v2, v3, v4, v5, v6], .ref (1) :: st, SH, σ)) ∧
  (∀ (v0 : Option Value) (v1 : Option Value) (v2 : Option Value) (v3 : Option Value) (v4 : Option Value) (v5 : Option Value) (v6 : Option Value) (a1 : Nat) (st : List Value) (σ : ma_H) (hc : hk_cls a1 = 5), ma_rn ro d 94 (22, [v0, v1, v2, v3, v4, v5, v6], .ref a1 :: st, SH, σ) = ma_rn ro d 94 (25, [v0, v1, v2, v3, v4, v5, v6], .ref (a1 + 1) :: st, SH, σ)) ∧
  (∀ (v1 : Option Value) (v2 : Option Value) (v3 : Option Value) (v4 : Option Value) (v5 : Option Value) (v6 : Option Value) (a1 : Nat) (st : List Value) (σ : ma_H), ma_rn ro d 94 (25, [some (.ref a1), v1, v2, v3, v4, v5, v6], st, SH, σ) = ma_rn ro d 94 (26, [some (.ref a1), v1, v2, v3, v4, v5, v6], .ref a1 :: st, SH, σ)) ∧
  (∀ (v0 : Option Value) (v1 : Option Value) (v2 : Option Value) (v3 : Option Value) (v4 : Option Value) (v5 : Option Value) (v6 : Option Value) (a1 : Nat) (st : List Value) (σ : ma_H) (hc : hk_cls a1 = 7), ma_rn ro d 94 (26, [v0, v1, v2, v3, v4, v5, v6], .ref a1 :: st, SH, σ) = ma_rn ro d 94 (29, [v0, v1, v2, v3, v4, v5, v6], .ref (1) :: st, SH, σ)) ∧
  (∀ (v0 : Option Value) (v1 : Option Value) (v2 : Option Value) (v3 : Option Value) (v4 : Option Value) (v5 : Option Value) (v6 : Option Value) (a1 : Nat) (st : List Value) (σ : ma_H) (hc : hk_cls a1 = 5), ma_rn ro d 94 (29, [v0, v1, v2, v3, v4, v5, v6], .ref a1 :: st, SH, σ) = ma_rn ro d 94 (32, [v0, v1, v2, v3, v4, v5, v6], .ref (a1 + 20) :: st, SH, σ)) ∧
  (∀ (v0 : Option Value) (v1 : Option Value) (v2 : Option Value) (v3 : Option Value) (v4 : Option Value) (v6 : Option Value) (x1 : Int32) (st : List Value) (σ : ma_H), ma_rn ro d 94 (32, [v0, v1, v2, v3, v4, some (.int x1), v6], st, SH, σ) = ma_rn ro d 94 (34, [v0, v1, v2, v3, v4, some (.int x1), v6], .int x1 :: st, SH, σ)) ∧
  (∀ (v0 : Option Value) (v1 : Option Value) (v2 : Option Value) (v3 : Option Value) (v4 : Option Value) (v5 : Option Value) (v6 : Option Value) (a20 : Nat) (x1 : Int32) (a0 : Nat) (σ : ma_H) (hc : hk_cls a0 = 4), ma_rn ro (d + 1) 94 (34, [v0, v1, v2, v3, v4, v5, v6], .int x1 :: .ref a0 :: .ref a20 :: [], SH, σ) = (ma_ev ro d 41 [.ref a0, .int x1] SH σ).bind (fun q => ma_rn ro (d + 1) 94 (37, [v0, v1, v2, v3, v4, v5, v6], (q.1.toList ++ (.ref a20 :: [])), q.2.1, q.2.2))) ∧
  (∀ (v0 : Option Value) (v1 : Option Value) (v2 : Option Value) (v3 : Option Value) (v4 : Option Value) (v5 : Option Value) (v6 : Option Value) (x1 : Int32) (a0 : Nat) (σ : ma_H) (hc : hk_cls a0 = 6), ma_rn ro (d + 1) 94 (37, [v0, v1, v2, v3, v4, v5, v6], .int x1 :: .ref a0 :: [], SH, σ) = (ma_ev ro d 50 [.ref a0, .int x1] SH σ).bind (fun q => ma_rn ro (d + 1) 94 (40, [v0, v1, v2, v3, v4, v5, v6], (q.1.toList ++ []), q.2.1, q.2.2))) ∧
  (∀ (v0 : Option Value) (v1 : Option Value) (v2 : Option Value) (v3 : Option Value) (v4 : Option Value) (v6 : Option Value) (x9 : Int32) (a1 : Nat) (st : List Value) (σ : ma_H), ma_rn ro d 94 (40, [v0, v1, v2, v3, v4, some (.int x9), v6], .ref a1 :: st, SH, σ) = ma_rn ro d 94 (42, [v0, v1, v2, v3, v4, some (.int x9), some (.ref a1)], st, SH, σ)) ∧
  (∀ (v0 : Option Value) (v1 : Option Value) (v2 : Option Value) (v3 : Option Value) (v4 : Option Value) (v6 : Option Value) (x9 : Int32) (st : List Value) (σ : ma_H), ma_rn ro d 94 (40, [v0, v1, v2, v3, v4, some (.int x9), v6], .null :: st, SH, σ) = ma_rn ro d 94 (42, [v0, v1, v2, v3, v4, some (.int x9), some .null], st, SH, σ)) ∧
  (∀ (v0 : Option Value) (v1 : Option Value) (v2 : Option Value) (v3 : Option Value) (v4 : Option Value) (v5 : Option Value) (a1 : Nat) (st : List Value) (σ : ma_H), ma_rn ro d 94 (42, [v0, v1, v2, v3, v4, v5, some (.ref a1)], st, SH, σ) = ma_rn ro d 94 (44, [v0, v1, v2, v3, v4, v5, some (.ref a1)], .ref a1 :: st, SH, σ)) ∧
  (∀ (v0 : Option Value) (v1 : Option Value) (v2 : Option Value) (v3 : Option Value) (v4 : Option Value) (v5 : Option Value) (st : List Value) (σ : ma_H), ma_rn ro d 94 (42, [v0, v1, v2, v3, v4, v5, some .null], st, SH, σ) = ma_rn ro d 94 (44, [v0, v1, v2, v3, v4, v5, some .null], .null :: st, SH, σ)) ∧
  (∀ (v0 : Option Value) (v1 : Option Value) (v2 : Option Value) (v3 : Option Value) (v4 : Option Value) (v5 : Option Value) (v6 : Option Value) (a1 : Nat) (st : List Value) (σ : ma_H), ma_rn ro d 94 (44, [v0, v1, v2, v3, v4, v5, v6], .ref a1 :: st, SH, σ) = ma_rn ro d 94 (49, [v0, v1, v2, v3, v4, v5, v6], st, SH, σ)) ∧
  (∀ (v0 : Option Value) (v1 : Option Value) (v2 : Option Value) (v3 : Option Value) (v4 : Option Value) (v5 : Option Value) (v6 : Option Value) (st : List Value) (σ : ma_H), ma_rn ro d 94 (44, [v0, v1, v2, v3, v4, v5, v6], .null :: st, SH, σ) = ma_rn ro d 94 (47, [v0, v1, v2, v3, v4, v5, v6], st, SH, σ)) ∧
  (∀ (v0 : Option Value) (v1 : Option Value) (v2 : Option Value) (v3 : Option Value) (v4 : Option Value) (v5 : Option Value) (v6 : Option Value) (st : List Value) (σ : ma_H), ma_rn ro d 94 (47, [v0, v1, v2, v3, v4, v5, v6], st, SH, σ) = ma_rn ro d 94 (48, [v0, v1, v2, v3, v4, v5, v6], .int (nI 0) :: st, SH, σ)) ∧
  (∀ (v0 : Option Value) (v1 : Option Value) (v2 : Option Value) (v3 : Option Value) (v4 : Option Value) (v5 : Option Value) (v6 : Option Value) (x1 : Int32) (σ : ma_H) (hx : ma_fitI .boolean x1 = true), ma_rn ro d 94 (48, [v0, v1, v2, v3, v4, v5, v6], [.int x1], SH, σ) = some (some (.int x1), SH, σ)) ∧
  (∀ (v1 : Option Value) (v2 : Option Value) (v3 : Option Value) (v4 : Option Value) (v5 : Option Value) (v6 : Option Value) (a1 : Nat) (st : List Value) (σ : ma_H), ma_rn ro d 94 (49, [some (.ref a1), v1, v2, v3, v4, v5, v6], st, SH, σ) = ma_rn ro d 94 (50, [some (.ref a1), v1, v2, v3, v4, v5, v6], .ref a1 :: st, SH, σ)) ∧
  (∀ (v0 : Option Value) (v1 : Option Value) (v2 : Option Value) (v3 : Option Value) (v4 : Option Value) (v5 : Option Value) (v6 : Option Value) (a1 : Nat) (st : List Value) (σ : ma_H) (hc : hk_cls a1 = 7), ma_rn ro d 94 (50, [v0, v1, v2, v3, v4, v5, v6], .ref a1 :: st, SH, σ) = ma_rn ro d 94 (53, [v0, v1, v2, v3, v4, v5, v6], .ref (84) :: st, SH, σ)) ∧
  (∀ (v0 : Option Value) (v1 : Option Value) (v2 : Option Value) (v3 : Option Value) (v4 : Option Value) (v5 : Option Value) (a1 : Nat) (st : List Value) (σ : ma_H), ma_rn ro d 94 (53, [v0, v1, v2, v3, v4, v5, some (.ref a1)], st, SH, σ) = ma_rn ro d 94 (55, [v0, v1, v2, v3, v4, v5, some (.ref a1)], .ref a1 :: st, SH, σ)) ∧
  (∀ (v0 : Option Value) (v1 : Option Value) (v2 : Option Value) (v3 : Option Value) (v4 : Option Value) (v5 : Option Value) (st : List Value) (σ : ma_H), ma_rn ro d 94 (53, [v0, v1, v2, v3, v4, v5, some .null], st, SH, σ) = ma_rn ro d 94 (55, [v0, v1, v2, v3, v4, v5, some .null], .null :: st, SH, σ)) ∧
  (∀ (v0 : Option Value) (v1 : Option Value) (v2 : Option Value) (v3 : Option Value) (v4 : Option Value) (v5 : Option Value) (v6 : Option Value) (a1 : Nat) (a0 : Nat) (σ : ma_H) (hc : hk_cls a0 = 1), ma_rn ro (d + 1) 94 (55, [v0, v1, v2, v3, v4, v5, v6], .ref a1 :: .ref a0 :: [], SH, σ) = (ma_ev ro d 8 [.ref a0, .ref a1] SH σ).bind (fun q => ma_rn ro (d + 1) 94 (58, [v0, v1, v2, v3, v4, v5, v6], (q.1.toList ++ []), q.2.1, q.2.2))) ∧
  (∀ (v0 : Option Value) (v1 : Option Value) (v2 : Option Value) (v3 : Option Value) (v4 : Option Value) (v5 : Option Value) (a1 : Nat) (st : List Value) (σ : ma_H), ma_rn ro d 94 (58, [v0, v1, v2, v3, v4, v5, some (.ref a1)], st, SH, σ) = ma_rn ro d 94 (60, [v0, v1, v2, v3, v4, v5, some (.ref a1)], .ref a1 :: st, SH, σ)) ∧
  (∀ (v0 : Option Value) (v1 : Option Value) (v2 : Option Value) (v3 : Option Value) (v4 : Option Value) (v5 : Option Value) (st : List Value) (σ : ma_H), ma_rn ro d 94 (58, [v0, v1, v2, v3, v4, v5, some .null], st, SH, σ) = ma_rn ro d 94 (60, [v0, v1, v2, v3, v4, v5, some .null], .null :: st, SH, σ)) ∧
  (∀ (v0 : Option Value) (v1 : Option Value) (v2 : Option Value) (v3 : Option Value) (v4 : Option Value) (v5 : Option Value) (v6 : Option Value) (a1 : Nat) (st : List Value) (σ : ma_H) (hc : hk_cls a1 = 1), ma_rn ro d 94 (60, [v0, v1, v2, v3, v4, v5, v6], .ref a1 :: st, SH, σ) = ma_rn ro d 94 (63, [v0, v1, v2, v3, v4, v5, v6], .int (σ a1 0) :: st, SH, σ)) ∧
  (∀ (v0 : Option Value) (v1 : Option Value) (v3 : Option Value) (v4 : Option Value) (v5 : Option Value) (v6 : Option Value) (x1 : Int32) (st : List Value) (σ : ma_H), ma_rn ro d 94 (63, [v0, v1, some (.int x1), v3, v4, v5, v6], st, SH, σ) = ma_rn ro d 94 (64, [v0, v1, some (.int x1), v3, v4, v5, v6], .int x1 :: st, SH, σ)) ∧
  (∀ (v0 : Option Value) (v1 : Option Value) (v2 : Option Value) (v3 : Option Value) (v4 : Option Value) (v5 : Option Value) (v6 : Option Value) (x1 : Int32) (x2 : Int32) (st : List Value) (σ : ma_H), ma_rn ro d 94 (64, [v0, v1, v2, v3, v4, v5, v6], .int x1 :: .int x2 :: st, SH, σ) = if x2 = x1 then ma_rn ro d 94 (67, [v0, v1, v2, v3, v4, v5, v6], st, SH, σ) else ma_rn ro d 94 (84, [v0, v1, v2, v3, v4, v5, v6], st, SH, σ)) ∧
  (∀ (v1 : Option Value) (v2 : Option Value) (v3 : Option Value) (v4 : Option Value) (v5 : Option Value) (v6 : Option Value) (a1 : Nat) (st : List Value) (σ : ma_H), ma_rn ro d 94 (67, [some (.ref a1), v1, v2, v3, v4, v5, v6], st, SH, σ) = ma_rn ro d 94 (68, [some (.ref a1), v1, v2, v3, v4, v5, v6], .ref a1 :: st, SH, σ)) ∧
  (∀ (v0 : Option Value) (v1 : Option Value) (v2 : Option Value) (v3 : Option Value) (v4 : Option Value) (v5 : Option Value) (v6 : Option Value) (a1 : Nat) (st : List Value) (σ : ma_H) (hc : hk_cls a1 = 7), ma_rn ro d 94 (68, [v0, v1, v2, v3, v4, v5, v6], .ref a1 :: st, SH, σ) = ma_rn ro d 94 (71, [v0, v1, v2, v3, v4, v5, v6], .ref (84) :: st, SH, σ)) ∧
  (∀ (v0 : Option Value) (v1 : Option Value) (v2 : Option Value) (v4 : Option Value) (v5 : Option Value) (v6 : Option Value) (x1 : Int32) (st : List Value) (σ : ma_H), ma_rn ro d 94 (71, [v0, v1, v2, some (.int x1), v4, v5, v6], st, SH, σ) = ma_rn ro d 94 (72, [v0, v1, v2, some (.int x1), v4, v5, v6], .int x1 :: st, SH, σ)) ∧
  (∀ (v0 : Option Value) (v1 : Option Value) (v2 : Option Value) (v3 : Option Value) (v4 : Option Value) (v5 : Option Value) (v6 : Option Value) (x1 : Int32) (a2 : Nat) (st : List Value) (σ : ma_H) (hc : hk_cls a2 = 1), ma_rn ro d 94 (72, [v0, v1, v2, v3, v4, v5, v6], .int x1 :: .ref a2 :: st, SH, σ) = ma_rn ro d 94 (75, [v0, v1, v2, v3, v4, v5, v6], st, SH, (ma_up σ a2 2 x1))) ∧
  (∀ (v1 : Option Value) (v2 : Option Value) (v3 : Option Value) (v4 : Option Value) (v5 : Option Value) (v6 : Option Value) (a1 : Nat) (st : List Value) (σ : ma_H), ma_rn ro d 94 (75, [some (.ref a1), v1, v2, v3, v4, v5, v6], st, SH, σ) = ma_rn ro d 94 (76, [some (.ref a1), v1, v2, v3, v4, v5, v6], .ref a1 :: st, SH, σ)) ∧
  (∀ (v0 : Option Value) (v1 : Option Value) (v2 : Option Value) (v3 : Option Value) (v4 : Option Value) (v5 : Option Value) (v6 : Option Value) (a1 : Nat) (st : List Value) (σ : ma_H) (hc : hk_cls a1 = 7), ma_rn ro d 94 (76, [v0, v1, v2, v3, v4, v5, v6], .ref a1 :: st, SH, σ) = ma_rn ro d 94 (79, [v0, v1, v2, v3, v4, v5, v6], .ref (84) :: st, SH, σ)) ∧
  (∀ (v0 : Option Value) (v1 : Option Value) (v2 : Option Value) (v3 : Option Value) (v5 : Option Value) (v6 : Option Value) (x1 : Int32) (st : List Value) (σ : ma_H), ma_rn ro d 94 (79, [v0, v1, v2, v3, some (.int x1), v5, v6], st, SH, σ) = ma_rn ro d 94 (81, [v0, v1, v2, v3, some (.int x1), v5, v6], .int x1 :: st, SH, σ)) ∧
  (∀ (v0 : Option Value) (v1 : Option Value) (v2 : Option Value) (v3 : Option Value) (v4 : Option Value) (v5 : Option Value) (v6 : Option Value) (x1 : Int32) (a2 : Nat) (st : List Value) (σ : ma_H) (hc : hk_cls a2 = 1), ma_rn ro d 94 (81, [v0, v1, v2, v3, v4, v5, v6], .int x1 :: .ref a2 :: st, SH, σ) = ma_rn ro d 94 (84, [v0, v1, v2, v3, v4, v5, v6], st, SH, (ma_up σ a2 5 x1))) ∧
  (∀ (v1 : Option Value) (v2 : Option Value) (v3 : Option Value) (v4 : Option Value) (v5 : Option Value) (v6 : Option Value) (a1 : Nat) (st : List Value) (σ : ma_H), ma_rn ro d 94 (84, [some (.ref a1), v1, v2, v3, v4, v5, v6], st, SH, σ) = ma_rn ro d 94 (85, [some (.ref a1), v1, v2, v3, v4, v5, v6], .ref a1 :: st, SH, σ)) ∧
  (∀ (v1 : Option Value) (v2 : Option Value) (v3 : Option Value) (v4 : Option Value) (v5 : Option Value) (v6 : Option Value) (a1 : Nat) (st : List Value) (σ : ma_H), ma_rn ro d 94 (85, [some (.ref a1), v1, v2, v3, v4, v5, v6], st, SH, σ) = ma_rn ro d 94 (86, [some (.ref a1), v1, v2, v3, v4, v5, v6], .ref a1 :: st, SH, σ)) ∧
  (∀ (v0 : Option Value) (v1 : Option Value) (v2 : Option Value) (v3 : Option Value) (v4 : Option Value) (v5 : Option Value) (v6 : Option Value) (a1 : Nat) (st : List Value) (σ : ma_H) (hc : hk_cls a1 = 7), ma_rn ro d 94 (86, [v0, v1, v2, v3, v4, v5, v6], .ref a1 :: st, SH, σ) = ma_rn ro d 94 (89, [v0, v1, v2, v3, v4, v5, v6], .ref (1) :: st, SH, σ)) ∧
  (∀ (v0 : Option Value) (v1 : Option Value) (v2 : Option Value) (v3 : Option Value) (v4 : Option Value) (v5 : Option Value) (v6 : Option Value) (a1 : Nat) (st : List Value) (σ : ma_H) (hc : hk_cls a1 = 5), ma_rn ro d 94 (89, [v0, v1, v2, v3, v4, v5, v6], .ref a1 :: st, SH, σ) = ma_rn ro d 94 (92, [v0, v1, v2, v3, v4, v5, v6], .ref (a1 + 20) :: st, SH, σ)) ∧
  (∀ (v0 : Option Value) (v1 : Option Value) (v2 : Option Value) (v3 : Option Value) (v4 : Option Value) (v6 : Option Value) (x1 : Int32) (st : List Value) (σ : ma_H), ma_rn ro d 94 (92, [v0, v1, v2, v3, v4, some (.int x1), v6], st, SH, σ) = ma_rn ro d 94 (94, [v0, v1, v2, v3, v4, some (.int x1), v6], .int x1 :: st, SH, σ)) ∧
  (∀ (v0 : Option Value) (v1 : Option Value) (v2 : Option Value) (v3 : Option Value) (v4 : Option Value) (v5 : Option Value) (v6 : Option Value) (a20 : Nat) (x1 : Int32) (a0 : Nat) (σ : ma_H) (hc : hk_cls a0 = 4), ma_rn ro (d + 1) 94 (94, [v0, v1, v2, v3, v4, v5, v6], .int x1 :: .ref a0 :: .ref a20 :: [], SH, σ) = (ma_ev ro d 42 [.ref a0, .int x1] SH σ).bind (fun q => ma_rn ro (d + 1) 94 (97, [v0, v1, v2, v3, v4, v5, v6], (q.1.toList ++ (.ref a20 :: [])), q.2.1, q.2.2))) ∧
  (∀ (v0 : Option Value) (v2 : Option Value) (v3 : Option Value) (v4 : Option Value) (v5 : Option Value) (v6 : Option Value) (x1 : Int32) (st : List Value) (σ : ma_H), ma_rn ro d 94 (97, [v0, some (.int x1), v2, v3, v4, v5, v6], st, SH, σ) = ma_rn ro d 94 (98, [v0, some (.int x1), v2, v3, v4, v5, v6], .int x1 :: st, SH, σ)) ∧
  (∀ (v0 : Option Value) (v1 : Option Value) (v2 : Option Value) (v3 : Option Value) (v4 : Option Value) (v5 : Option Value) (v6 : Option Value) (x1 : Int32) (x2 : Int32) (a0 : Nat) (σ : ma_H) (hc : hk_cls a0 = 7), ma_rn ro (d + 1) 94 (98, [v0, v1, v2, v3, v4, v5, v6], .int x2 :: .int x1 :: .ref a0 :: [], SH, σ) = (ma_ev ro d 93 [.ref a0, .int x1, .int x2] SH σ).bind (fun q => ma_rn ro (d + 1) 94 (101, [v0, v1, v2, v3, v4, v5, v6], (q.1.toList ++ []), q.2.1, q.2.2))) ∧
  (∀ (v1 : Option Value) (v2 : Option Value) (v3 : Option Value) (v4 : Option Value) (v5 : Option Value) (v6 : Option Value) (a1 : Nat) (st : List Value) (σ : ma_H), ma_rn ro d 94 (101, [some (.ref a1), v1, v2, v3, v4, v5, v6], st, SH, σ) = ma_rn ro d 94 (102, [some (.ref a1), v1, v2, v3, v4, v5, v6], .ref a1 :: st, SH, σ)) ∧
  (∀ (v0 : Option Value) (v1 : Option Value) (v2 : Option Value) (v3 : Option Value) (v4 : Option Value) (v5 : Option Value) (v6 : Option Value) (a1 : Nat) (st : List Value) (σ : ma_H) (hc : hk_cls a1 = 7), ma_rn ro d 94 (102, [v0, v1, v2, v3, v4, v5, v6], .ref a1 :: st, SH, σ) = ma_rn ro d 94 (105, [v0, v1, v2, v3, v4, v5, v6], .ref (84) :: st, SH, σ)) ∧
  (∀ (v0 : Option Value) (v1 : Option Value) (v2 : Option Value) (v3 : Option Value) (v4 : Option Value) (v5 : Option Value) (v6 : Option Value) (a1 : Nat) (st : List Value) (σ : ma_H) (hc : hk_cls a1 = 1), ma_rn ro d 94 (105, [v0, v1, v2, v3, v4, v5, v6], .ref a1 :: st, SH, σ) = ma_rn ro d 94 (108, [v0, v1, v2, v3, v4, v5, v6], .int (σ a1 3) :: st, SH, σ)) ∧
  (∀ (v1 : Option Value) (v2 : Option Value) (v3 : Option Value) (v4 : Option Value) (v5 : Option Value) (v6 : Option Value) (a1 : Nat) (st : List Value) (σ : ma_H), ma_rn ro d 94 (108, [some (.ref a1), v1, v2, v3, v4, v5, v6], st, SH, σ) = ma_rn ro d 94 (109, [some (.ref a1), v1, v2, v3, v4, v5, v6], .ref a1 :: st, SH, σ)) ∧
  (∀ (v0 : Option Value) (v1 : Option Value) (v2 : Option Value) (v3 : Option Value) (v4 : Option Value) (v5 : Option Value) (v6 : Option Value) (a1 : Nat) (st : List Value) (σ : ma_H) (hc : hk_cls a1 = 7), ma_rn ro d 94 (109, [v0, v1, v2, v3, v4, v5, v6], .ref a1 :: st, SH, σ) = ma_rn ro d 94 (112, [v0, v1, v2, v3, v4, v5, v6], .ref (1) :: st, SH, σ)) ∧
  (∀ (v0 : Option Value) (v1 : Option Value) (v2 : Option Value) (v3 : Option Value) (v4 : Option Value) (v5 : Option Value) (v6 : Option Value) (a1 : Nat) (st : List Value) (σ : ma_H) (hc : hk_cls a1 = 5), ma_rn ro d 94 (112, [v0, v1, v2, v3, v4, v5, v6], .ref a1 :: st, SH, σ) = ma_rn ro d 94 (115, [v0, v1, v2, v3, v4, v5, v6], .ref (a1 + 20) :: st, SH, σ)) ∧
  (∀ (v0 : Option Value) (v1 : Option Value) (v2 : Option Value) (v3 : Option Value) (v4 : Option Value) (v6 : Option Value) (x1 : Int32) (st : List Value) (σ : ma_H), ma_rn ro d 94 (115, [v0, v1, v2, v3, v4, some (.int x1), v6], st, SH, σ) = ma_rn ro d 94 (117, [v0, v1, v2, v3, v4, some (.int x1), v6], .int x1 :: st, SH, σ)) ∧
  (∀ (v0 : Option Value) (v1 : Option Value) (v2 : Option Value) (v3 : Option Value) (v4 : Option Value) (v5 : Option Value) (v6 : Option Value) (x20 : Int32) (x1 : Int32) (a0 : Nat) (σ : ma_H) (hc : hk_cls a0 = 4), ma_rn ro (d + 1) 94 (117, [v0, v1, v2, v3, v4, v5, v6], .int x1 :: .ref a0 :: .int x20 :: [], SH, σ) = (ma_ev ro d 43 [.ref a0, .int x1] SH σ).bind (fun q => ma_rn ro (d + 1) 94 (120, [v0, v1, v2, v3, v4, v5, v6], (q.1.toList ++ (.int x20 :: [])), q.2.1, q.2.2))) ∧
  (∀ (v0 : Option Value) (v1 : Option Value) (v2 : Option Value) (v3 : Option Value) (v4 : Option Value) (v5 : Option Value) (v6 : Option Value) (x1 : Int32) (x2 : Int32) (st : List Value) (σ : ma_H), ma_rn ro d 94 (120, [v0, v1, v2, v3, v4, v5, v6], .int x1 :: .int x2 :: st, SH, σ) = if x2 = x1 then ma_rn ro d 94 (125, [v0, v1, v2, v3, v4, v5, v6], st, SH, σ) else ma_rn ro d 94 (123, [v0, v1, v2, v3, v4, v5, v6], st, SH, σ)) ∧
  (∀ (v0 : Option Value) (v1 : Option Value) (v2 : Option Value) (v3 : Option Value) (v4 : Option Value) (v5 : Option Value) (v6 : Option Value) (st : List Value) (σ : ma_H), ma_rn ro d 94 (123, [v0, v1, v2, v3, v4, v5, v6], st, SH, σ) = ma_rn ro d 94 (124, [v0, v1, v2, v3, v4, v5, v6], .int (nI 0) :: st, SH, σ)) ∧
  (∀ (v0 : Option Value) (v1 : Option Value) (v2 : Option Value) (v3 : Option Value) (v4 : Option Value) (v5 : Option Value) (v6 : Option Value) (x1 : Int32) (σ : ma_H) (hx : ma_fitI .boolean x1 = true), ma_rn ro d 94 (124, [v0, v1, v2, v3, v4, v5, v6], [.int x1], SH, σ) = some (some (.int x1), SH, σ)) ∧
  (∀ (v0 : Option Value) (v1 : Option Value) (v2 : Option Value) (v3 : Option Value) (v6 : Option Value) (x1 : Int32) (x9 : Int32) (st : List Value) (σ : ma_H), ma_rn ro d 94 (125, [v0, v1, v2, v3, some (.int x9), some (.int x1), v6], st, SH, σ) = ma_rn ro d 94 (128, [v0, v1, v2, v3, some (.int x9), some (.int (x1 + nI 1)), v6], st, SH, σ)) ∧
  (∀ (v0 : Option Value) (v1 : Option Value) (v2 : Option Value) (v3 : Option Value) (v4 : Option Value) (v5 : Option Value) (v6 : Option Value) (st : List Value) (σ : ma_H), ma_rn ro d 94 (128, [v0, v1, v2, v3, v4, v5, v6], st, SH, σ) = ma_rn ro d 94 (3, [v0, v1, v2, v3, v4, v5, v6], st, SH, σ)) ∧
  (∀ (v0 : Option Value) (v1 : Option Value) (v2 : Option Value) (v3 : Option Value) (v4 : Option Value) (v5 : Option Value) (v6 : Option Value) (st : List Value) (σ : ma_H), ma_rn ro d 94 (131, [v0, v1, v2, v3, v4, v5, v6], st, SH, σ) = ma_rn ro d 94 (132, [v0, v1, v2, v3, v4, v5, v6], .int (nI 1) :: st, SH, σ)) ∧
  (∀ (v0 : Option Value) (v1 : Option Value) (v2 : Option Value) (v3 : Option Value) (v4 : Option Value) (v5 : Option Value) (v6 : Option Value) (x1 : Int32) (σ : ma_H) (hx : ma_fitI .boolean x1 = true), ma_rn ro d 94 (132, [v0, v1, v2, v3, v4, v5, v6], [.int x1], SH, σ) = some (some (.int x1), SH, σ)) := ⟨fun v0 v1 v2 v3 v4 v5 v6 st σ => q_iconst e94_0 (by decide),
  fun v0 v1 v2 v3 v5 v6 x9 x1 st σ => q_go e94_1 rfl rfl,
  fun v1 v2 v3 v4 v5 v6 a1 st σ => q_go e94_5 rfl rfl,
  fun v0 v1 v2 v3 v4 v5 v6 a1 st σ hc => q_getA e94_6 o_94 f_7_12 (by decide) hc,
  fun v0 v1 v2 v3 v4 v5 v6 a1 st σ hc => q_getA e94_9 o_94 f_7_193 (by decide) hc,
  fun v0 v1 v2 v3 v4 v5 v6 a1 st σ hc => q_getI e94_12 o_94 f_7_197 (by decide) hc,
  fun v0 v1 v2 v3 v4 v5 v6 x1 x2 st σ => (q_cmp e94_15 rfl).trans q_nlt,
  fun v1 v2 v3 v4 v5 v6 a1 st σ => q_go e94_18 rfl rfl,
  fun v0 v1 v2 v3 v4 v5 v6 a1 st σ hc => q_getA e94_19 o_94 f_7_12 (by decide) hc,
  fun v0 v1 v2 v3 v4 v5 v6 a1 st σ hc => q_getA e94_22 o_94 f_7_93 (by decide) hc,
  fun v1 v2 v3 v4 v5 v6 a1 st σ => q_go e94_25 rfl rfl,
  fun v0 v1 v2 v3 v4 v5 v6 a1 st σ hc => q_getA e94_26 o_94 f_7_12 (by decide) hc,
  fun v0 v1 v2 v3 v4 v5 v6 a1 st σ hc => q_getA e94_29 o_94 f_7_193 (by decide) hc,
  fun v0 v1 v2 v3 v4 v6 x1 st σ => q_go e94_32 rfl rfl,
  fun v0 v1 v2 v3 v4 v5 v6 a20 x1 a0 σ hc => q_invV (as := [.int x1]) (rest := .ref a20 :: []) e94_34 o_94 bn_7_228 c_7_228 m_41 (by decide) rfl rfl (Nat.le_of_ble_eq_true rfl) (Nat.le_of_ble_eq_true rfl) hc,
  fun v0 v1 v2 v3 v4 v5 v6 x1 a0 σ hc => q_invV (as := [.int x1]) (rest := []) e94_37 o_94 bn_7_102 c_7_102 m_50 (by decide) rfl rfl (Nat.le_of_ble_eq_true rfl) (Nat.le_of_ble_eq_true rfl) hc,
  fun v0 v1 v2 v3 v4 v6 x9 a1 st σ => q_go e94_40 rfl rfl,
  fun v0 v1 v2 v3 v4 v6 x9 st σ => q_go e94_40 rfl rfl,
  fun v0 v1 v2 v3 v4 v5 a1 st σ => q_go e94_42 rfl rfl,
  fun v0 v1 v2 v3 v4 v5 st σ => q_go e94_42 rfl rfl,
  fun v0 v1 v2 v3 v4 v5 v6 a1 st σ => q_ifnonnullR e94_44 rfl,
  fun v0 v1 v2 v3 v4 v5 v6 st σ => q_ifnonnullN e94_44 rfl,
  fun v0 v1 v2 v3 v4 v5 v6 st σ => q_iconst e94_47 (by decide),
  fun v0 v1 v2 v3 v4 v5 v6 x1 σ hx => q_zret e94_48 r_94 hx,
  fun v1 v2 v3 v4 v5 v6 a1 st σ => q_go e94_49 rfl rfl,
  fun v0 v1 v2 v3 v4 v5 v6 a1 st σ hc => q_getA e94_50 o_94 f_7_49 (by decide) hc,
  fun v0 v1 v2 v3 v4 v5 a1 st σ => q_go e94_53 rfl rfl,
  fun v0 v1 v2 v3 v4 v5 st σ => q_go e94_53 rfl rfl,
  fun v0 v1 v2 v3 v4 v5 v6 a1 a0 σ hc => q_invV (as := [.ref a1]) (rest := []) e94_55 o_94 bn_7_210 c_7_210 m_8 (by decide) rfl rfl (Nat.le_of_ble_eq_true rfl) (Nat.le_of_ble_eq_true rfl) hc,
  fun v0 v1 v2 v3 v4 v5 a1 st σ => q_go e94_58 rfl rfl,
  fun v0 v1 v2 v3 v4 v5 st σ => q_go e94_58 rfl rfl,
  fun v0 v1 v2 v3 v4 v5 v6 a1 st σ hc => q_getI e94_60 o_94 f_7_274 (by decide) hc,
  fun v0 v1 v3 v4 v5 v6 x1 st σ => q_go e94_63 rfl rfl,
  fun v0 v1 v2 v3 v4 v5 v6 x1 x2 st σ => (q_cmp e94_64 rfl).trans q_ne,
  fun v1 v2 v3 v4 v5 v6 a1 st σ => q_go e94_67 rfl rfl,
  fun v0 v1 v2 v3 v4 v5 v6 a1 st σ hc => q_getA e94_68 o_94 f_7_49 (by decide) hc,
  fun v0 v1 v2 v4 v5 v6 x1 st σ => q_go e94_71 rfl rfl,
  fun v0 v1 v2 v3 v4 v5 v6 x1 a2 st σ hc => q_putI e94_72 o_94 f_7_110 (by decide) rfl hc,
  fun v1 v2 v3 v4 v5 v6 a1 st σ => q_go e94_75 rfl rfl,
  fun v0 v1 v2 v3 v4 v5 v6 a1 st σ hc => q_getA e94_76 o_94 f_7_49 (by decide) hc,
  fun v0 v1 v2 v3 v5 v6 x1 st σ => q_go e94_79 rfl rfl,
  fun v0 v1 v2 v3 v4 v5 v6 x1 a2 st σ hc => q_putI e94_81 o_94 f_7_120 (by decide) rfl hc,
  fun v1 v2 v3 v4 v5 v6 a1 st σ => q_go e94_84 rfl rfl,
  fun v1 v2 v3 v4 v5 v6 a1 st σ => q_go e94_85 rfl rfl,
  fun v0 v1 v2 v3 v4 v5 v6 a1 st σ hc => q_getA e94_86 o_94 f_7_12 (by decide) hc,
  fun v0 v1 v2 v3 v4 v5 v6 a1 st σ hc => q_getA e94_89 o_94 f_7_193 (by decide) hc,
  fun v0 v1 v2 v3 v4 v6 x1 st σ => q_go e94_92 rfl rfl,
  fun v0 v1 v2 v3 v4 v5 v6 a20 x1 a0 σ hc => q_invV (as := [.int x1]) (rest := .ref a20 :: []) e94_94 o_94 bn_7_231 c_7_231 m_42 (by decide) rfl rfl (Nat.le_of_ble_eq_true rfl) (Nat.le_of_ble_eq_true rfl) hc,
  fun v0 v2 v3 v4 v5 v6 x1 st σ => q_go e94_97 rfl rfl,
  fun v0 v1 v2 v3 v4 v5 v6 x1 x2 a0 σ hc => q_invV (as := [.int x1, .int x2]) (rest := []) e94_98 o_94 bn_7_213 c_7_213 m_93 (by decide) rfl rfl (Nat.le_of_ble_eq_true rfl) (Nat.le_of_ble_eq_true rfl) hc,
  fun v1 v2 v3 v4 v5 v6 a1 st σ => q_go e94_101 rfl rfl,
  fun v0 v1 v2 v3 v4 v5 v6 a1 st σ hc => q_getA e94_102 o_94 f_7_49 (by decide) hc,
  fun v0 v1 v2 v3 v4 v5 v6 a1 st σ hc => q_getI e94_105 o_94 f_7_113 (by decide) hc,
  fun v1 v2 v3 v4 v5 v6 a1 st σ => q_go e94_108 rfl rfl,
  fun v0 v1 v2 v3 v4 v5 v6 a1 st σ hc => q_getA e94_109 o_94 f_7_12 (by decide) hc,
  fun v0 v1 v2 v3 v4 v5 v6 a1 st σ hc => q_getA e94_112 o_94 f_7_193 (by decide) hc,
  fun v0 v1 v2 v3 v4 v6 x1 st σ => q_go e94_115 rfl rfl,
  fun v0 v1 v2 v3 v4 v5 v6 x20 x1 a0 σ hc => q_invV (as := [.int x1]) (rest := .int x20 :: []) e94_117 o_94 bn_7_277 c_7_277 m_43 (by decide) rfl rfl (Nat.le_of_ble_eq_true rfl) (Nat.le_of_ble_eq_true rfl) hc,
  fun v0 v1 v2 v3 v4 v5 v6 x1 x2 st σ => (q_cmp e94_120 rfl).trans q_eq,
  fun v0 v1 v2 v3 v4 v5 v6 st σ => q_iconst e94_123 (by decide),
  fun v0 v1 v2 v3 v4 v5 v6 x1 σ hx => q_zret e94_124 r_94 hx,
  fun v0 v1 v2 v3 v6 x1 x9 st σ => q_iinc e94_125 rfl rfl (by decide),
  fun v0 v1 v2 v3 v4 v5 v6 st σ => q_goto e94_128 rfl,
  fun v0 v1 v2 v3 v4 v5 v6 st σ => q_iconst e94_131 (by decide),
  fun v0 v1 v2 v3 v4 v5 v6 x1 σ hx => q_zret e94_132 r_94 hx⟩
theorem E94 {ro : ma_RO} {d : Nat} (a0 : Nat) (x1 : Int32) (x2 : Int32) (x3 : Int32) (x4 : Int32) (sh : List ma_Sh) (σ : ma_H) : ma_ev ro d 94 [.ref a0, .int x1, .int x2, .int x3, .int x4] sh σ = ma_rn ro d 94 (0, [some (.ref a0), some (.int x1), some (.int x2), some (.int x3), some (.int x4), none, none], [], sh, σ) := q_ent x_94 rfl
theorem e95_0 : decode (ma_cd 95) 0 = .ok (.iconst 0, 1) := (congrArg (fun b => decode b 0) cd_95).trans dX7_minutesOf_0
theorem e95_1 : decode (ma_cd 95) 1 = .ok (.istore_n 2, 1) := (congrArg (fun b => decode b 1) cd_95).trans dX7_minutesOf_1
theorem e95_2 : decode (ma_cd 95) 2 = .ok (.iconst 0, 1) := (congrArg (fun b => decode b 2) cd_95).trans dX7_minutesOf_2
theorem e95_3 : decode (ma_cd 95) 3 = .ok (.istore_n 3, 1) := (congrArg (fun b => decode b 3) cd_95).trans dX7_minutesOf_3
theorem e95_4 : decode (ma_cd 95) 4 = .ok (.iload_n 3, 1) := (congrArg (fun b => decode b 4) cd_95).trans dX7_minutesOf_4
theorem e95_5 : decode (ma_cd 95) 5 = .ok (.aload_n 0, 1) := (congrArg (fun b => decode b 5) cd_95).trans dX7_minutesOf_5
theorem e95_6 : decode (ma_cd 95) 6 = .ok (.getfield 12, 3) := (congrArg (fun b => decode b 6) cd_95).trans dX7_minutesOf_6
theorem e95_9 : decode (ma_cd 95) 9 = .ok (.getfield 93, 3) := (congrArg (fun b => decode b 9) cd_95).trans dX7_minutesOf_9
theorem e95_12 : decode (ma_cd 95) 12 = .ok (.getfield 99, 3) := (congrArg (fun b => decode b 12) cd_95).trans dX7_minutesOf_12
theorem e95_15 : decode (ma_cd 95) 15 = .ok (.if_icmp .ge 47, 3) := (congrArg (fun b => decode b 15) cd_95).trans dX7_minutesOf_15
theorem e95_18 : decode (ma_cd 95) 18 = .ok (.aload_n 0, 1) := (congrArg (fun b => decode b 18) cd_95).trans dX7_minutesOf_18
theorem e95_19 : decode (ma_cd 95) 19 = .ok (.getfield 12, 3) := (congrArg (fun b => decode b 19) cd_95).trans dX7_minutesOf_19
theorem e95_22 : decode (ma_cd 95) 22 = .ok (.getfield 93, 3) := (congrArg (fun b => decode b 22) cd_95).trans dX7_minutesOf_22
theorem e95_25 : decode (ma_cd 95) 25 = .ok (.iload_n 3, 1) := (congrArg (fun b => decode b 25) cd_95).trans dX7_minutesOf_25
theorem e95_26 : decode (ma_cd 95) 26 = .ok (.invokevirtual 102, 3) := (congrArg (fun b => decode b 26) cd_95).trans dX7_minutesOf_26
theorem e95_29 : decode (ma_cd 95) 29 = .ok (.astore 4, 2) := (congrArg (fun b => decode b 29) cd_95).trans dX7_minutesOf_29
theorem e95_31 : decode (ma_cd 95) 31 = .ok (.aload 4, 2) := (congrArg (fun b => decode b 31) cd_95).trans dX7_minutesOf_31
theorem e95_33 : decode (ma_cd 95) 33 = .ok (.ifnull 23, 3) := (congrArg (fun b => decode b 33) cd_95).trans dX7_minutesOf_33
theorem e95_36 : decode (ma_cd 95) 36 = .ok (.iload_n 1, 1) := (congrArg (fun b => decode b 36) cd_95).trans dX7_minutesOf_36
theorem e95_37 : decode (ma_cd 95) 37 = .ok (.iload_n 3, 1) := (congrArg (fun b => decode b 37) cd_95).trans dX7_minutesOf_37
theorem e95_38 : decode (ma_cd 95) 38 = .ok (.ishr, 1) := (congrArg (fun b => decode b 38) cd_95).trans dX7_minutesOf_38
theorem e95_39 : decode (ma_cd 95) 39 = .ok (.iconst 1, 1) := (congrArg (fun b => decode b 39) cd_95).trans dX7_minutesOf_39
theorem e95_40 : decode (ma_cd 95) 40 = .ok (.iand, 1) := (congrArg (fun b => decode b 40) cd_95).trans dX7_minutesOf_40
theorem e95_41 : decode (ma_cd 95) 41 = .ok (.ifCond .eq 15, 3) := (congrArg (fun b => decode b 41) cd_95).trans dX7_minutesOf_41
theorem e95_44 : decode (ma_cd 95) 44 = .ok (.iload_n 2, 1) := (congrArg (fun b => decode b 44) cd_95).trans dX7_minutesOf_44
theorem e95_45 : decode (ma_cd 95) 45 = .ok (.aload 4, 2) := (congrArg (fun b => decode b 45) cd_95).trans dX7_minutesOf_45
theorem e95_47 : decode (ma_cd 95) 47 = .ok (.getfield 110, 3) := (congrArg (fun b => decode b 47) cd_95).trans dX7_minutesOf_47
theorem e95_50 : decode (ma_cd 95) 50 = .ok (.iconst 4, 1) := (congrArg (fun b => decode b 50) cd_95).trans dX7_minutesOf_50
theorem e95_51 : decode (ma_cd 95) 51 = .ok (.irem, 1) := (congrArg (fun b => decode b 51) cd_95).trans dX7_minutesOf_51
theorem e95_52 : decode (ma_cd 95) 52 = .ok (.iconst 1, 1) := (congrArg (fun b => decode b 52) cd_95).trans dX7_minutesOf_52
theorem e95_53 : decode (ma_cd 95) 53 = .ok (.iadd, 1) := (congrArg (fun b => decode b 53) cd_95).trans dX7_minutesOf_53
theorem e95_54 : decode (ma_cd 95) 54 = .ok (.iadd, 1) := (congrArg (fun b => decode b 54) cd_95).trans dX7_minutesOf_54
theorem e95_55 : decode (ma_cd 95) 55 = .ok (.istore_n 2, 1) := (congrArg (fun b => decode b 55) cd_95).trans dX7_minutesOf_55
theorem e95_56 : decode (ma_cd 95) 56 = .ok (.iinc 3 1, 3) := (congrArg (fun b => decode b 56) cd_95).trans dX7_minutesOf_56
theorem e95_59 : decode (ma_cd 95) 59 = .ok (.goto (-55), 3) := (congrArg (fun b => decode b 59) cd_95).trans dX7_minutesOf_59
theorem e95_62 : decode (ma_cd 95) 62 = .ok (.iload_n 2, 1) := (congrArg (fun b => decode b 62) cd_95).trans dX7_minutesOf_62
theorem e95_63 : decode (ma_cd 95) 63 = .ok (.ireturn, 1) := (congrArg (fun b => decode b 63) cd_95).trans dX7_minutesOf_63
theorem Sh95_4 {ro : ma_RO} {d : Nat} : (∀ (v0 : Option Value) (v1 : Option Value) (v2 : Option Value) (v4 : Option Value) (x1 : Int32) (st : List Value) (σ : ma_H), ma_rn ro d 95 (4, [v0, v1, v2, some (.int x1), v4], st, SH, σ) = ma_rn ro d 95 (5, [v0, v1, v2, some (.int x1), v4], .int x1 :: st, SH, σ)) := fun v0 v1 v2 v4 x1 st σ => q_go e95_4 rfl rfl
theorem S95 {ro : ma_RO} {d : Nat} : (∀ (v0 : Option Value) (v1 : Option Value) (v2 : Option Value) (v3 : Option Value) (v4 : Option Value) (st : List Value) (σ : ma_H), ma_rn ro d 95 (0, [v0, v1, v2, v3, v4], st, SH, σ) = ma_rn ro d 95 (1, [v0, v1, v2, v3, v4], .int (nI 0) :: st, SH, σ)) ∧
  (∀ (v0 : Option Value) (v2 : Option Value) (v3 : Option Value) (v4 : Option Value) (x9 : Int32) (x1 : Int32) (st : List Value) (σ : ma_H), ma_rn ro d 95 (1, [v0, some (.int x9), v2, v3, v4], .int x1 :: st, SH, σ) = ma_rn ro d 95 (2, [v0, some (.int x9), some (.int x1), v3, v4], st, SH, σ)) ∧
  (∀ (v0 : Option Value) (v1 : Option Value) (v2 : Option Value) (v3 : Option Value) (v4 : Option Value) (st : List Value) (σ : ma_H), ma_rn ro d 95 (2, [v0, v1, v2, v3, v4], st, SH, σ) = ma_rn ro d 95 (3, [v0, v1, v2, v3, v4], .int (nI 0) :: st, SH, σ)) ∧
  (∀ (v0 : Option Value) (v1 : Option Value) (v3 : Option Value) (v4 : Option Value) (x9 : Int32) (x1 : Int32) (st : List Value) (σ : ma_H), ma_rn ro d 95 (3, [v0, v1, some (.int x9), v3, v4], .int x1 :: st, SH, σ) = ma_rn ro d 95 (4, [v0, v1, some (.int x9), some (.int x1), v4], st, SH, σ)) ∧
  (∀ (v1 : Option Value) (v2 : Option Value) (v3 : Option Value) (v4 : Option Value) (a1 : Nat) (st : List Value) (σ : ma_H), ma_rn ro d 95 (5, [some (.ref a1), v1, v2, v3, v4], st, SH, σ) = ma_rn ro d 95 (6, [some (.ref a1), v1, v2, v3, v4], .ref a1 :: st, SH, σ)) ∧
  (∀ (v0 : Option Value) (v1 : Option Value) (v2 : Option Value) (v3 : Option Value) (v4 : Option Value) (a1 : Nat) (st : List Value) (σ : ma_H) (hc : hk_cls a1 = 7), ma_rn ro d 95 (6, [v0, v1, v2, v3, v4], .ref a1 :: st, SH, σ) = ma_rn ro d 95 (9, [v0, v1, v2, v3, v4], .ref (1) :: st, SH, σ)) ∧
  (∀ (v0 : Option Value) (v1 : Option Value) (v2 : Option Value) (v3 : Option Value) (v4 : Option Value) (a1 : Nat) (st : List Value) (σ : ma_H) (hc : hk_cls a1 = 5), ma_rn ro d 95 (9, [v0, v1, v2, v3, v4], .ref a1 :: st, SH, σ) = ma_rn ro d 95 (12, [v0, v1, v2, v3, v4], .ref (a1 + 1) :: st, SH, σ)) ∧
  (∀ (v0 : Option Value) (v1 : Option Value) (v2 : Option Value) (v3 : Option Value) (v4 : Option Value) (a1 : Nat) (st : List Value) (σ : ma_H) (hc : hk_cls a1 = 6), ma_rn ro d 95 (12, [v0, v1, v2, v3, v4], .ref a1 :: st, SH, σ) = ma_rn ro d 95 (15, [v0, v1, v2, v3, v4], .int (σ a1 1) :: st, SH, σ)) ∧
  (∀ (v0 : Option Value) (v1 : Option Value) (v2 : Option Value) (v3 : Option Value) (v4 : Option Value) (x1 : Int32) (x2 : Int32) (st : List Value) (σ : ma_H), ma_rn ro d 95 (15, [v0, v1, v2, v3, v4], .int x1 :: .int x2 :: st, SH, σ) = if x2 < x1 then ma_rn ro d 95 (18, [v0, v1, v2, v3, v4], st, SH, σ) else ma_rn ro d 95 (62, [v0, v1, v2, v3, v4], st, SH, σ)) ∧
  (∀ (v1 : Option Value) (v2 : Option Value) (v3 : Option Value) (v4 : Option Value) (a1 : Nat) (st : List Value) (σ : ma_H), ma_rn ro d 95 (18, [some (.ref a1), v1, v2, v3, v4], st, SH, σ) = ma_rn ro d 95 (19, [some (.ref a1), v1, v2, v3, v4], .ref a1 :: st, SH, σ)) ∧
  (∀ (v0 : Option Value) (v1 : Option Value) (v2 : Option Value) (v3 : Option Value) (v4 : Option Value) (a1 : Nat) (st : List Value) (σ : ma_H) (hc : hk_cls a1 = 7), ma_rn ro d 95 (19, [v0, v1, v2, v3, v4], .ref a1 :: st, SH, σ) = ma_rn ro d 95 (22, [v0, v1, v2, v3, v4], .ref (1) :: st, SH, σ)) ∧
  (∀ (v0 : Option Value) (v1 : Option Value) (v2 : Option Value) (v3 : Option Value) (v4 : Option Value) (a1 : Nat) (st : List Value) (σ : ma_H) (hc : hk_cls a1 = 5), ma_rn ro d 95 (22, [v0, v1, v2, v3, v4], .ref a1 :: st, SH, σ) = ma_rn ro d 95 (25, [v0, v1, v2, v3, v4], .ref (a1 + 1) :: st, SH, σ)) ∧
  (∀ (v0 : Option Value) (v1 : Option Value) (v2 : Option Value) (v4 : Option Value) (x1 : Int32) (st : List Value) (σ : ma_H), ma_rn ro d 95 (25, [v0, v1, v2, some (.int x1), v4], st, SH, σ) = ma_rn ro d 95 (26, [v0, v1, v2, some (.int x1), v4], .int x1 :: st, SH, σ)) ∧
  (∀ (v0 : Option Value) (v1 : Option Value) (v2 : Option Value) (v3 : Option Value) (v4 : Option Value) (x1 : Int32) (a0 : Nat) (σ : ma_H) (hc : hk_cls a0 = 6), ma_rn ro (d + 1) 95 (26, [v0, v1, v2, v3, v4], .int x1 :: .ref a0 :: [], SH, σ) = (ma_ev ro d 50 [.ref a0, .int x1] SH σ).bind (fun q => ma_rn ro (d + 1) 95 (29, [v0, v1, v2, v3, v4], (q.1.toList ++ []), q.2.1, q.2.2))) ∧
  (∀ (v0 : Option Value) (v1 : Option Value) (v2 : Option Value) (v4 : Option Value) (x9 : Int32) (a1 : Nat) (st : List Value) (σ : ma_H), ma_rn ro d 95 (29, [v0, v1, v2, some (.int x9), v4], .ref a1 :: st, SH, σ) = ma_rn ro d 95 (31, [v0, v1, v2, some (.int x9), some (.ref a1)], st, SH, σ)) ∧
  (∀ (v0 : Option Value) (v1 : Option Value) (v2 : Option Value) (v4 : Option Value) (x9 : Int32) (st : List Value) (σ : ma_H), ma_rn ro d 95 (29, [v0, v1, v2, some (.int x9), v4], .null :: st, SH, σ) = ma_rn ro d 95 (31, [v0, v1, v2, some (.int x9), some .null], st, SH, σ)) ∧
  (∀ (v0 : Option Value) (v1 : Option Value) (v2 : Option Value) (v3 : Option Value) (a1 : Nat) (st : List Value) (σ : ma_H), ma_rn ro d 95 (31, [v0, v1, v2, v3, some (.ref a1)], st, SH, σ) = ma_rn ro d 95 (33, [v0, v1, v2, v3, some (.ref a1)], .ref a1 :: st, SH, σ)) ∧
  (∀ (v0 : Option Value) (v1 : Option Value) (v2 : Option Value) (v3 : Option Value) (st : List Value) (σ : ma_H), ma_rn ro d 95 (31, [v0, v1, v2, v3, some .null], st, SH, σ) = ma_rn ro d 95 (33, [v0, v1, v2, v3, some .null], .null :: st, SH, σ)) ∧
  (∀ (v0 : Option Value) (v1 : Option Value) (v2 : Option Value) (v3 : Option Value) (v4 : Option Value) (a1 : Nat) (st : List Value) (σ : ma_H), ma_rn ro d 95 (33, [v0, v1, v2, v3, v4], .ref a1 :: st, SH, σ) = ma_rn ro d 95 (36, [v0, v1, v2, v3, v4], st, SH, σ)) ∧
  (∀ (v0 : Option Value) (v1 : Option Value) (v2 : Option Value) (v3 : Option Value) (v4 : Option Value) (st : List Value) (σ : ma_H), ma_rn ro d 95 (33, [v0, v1, v2, v3, v4], .null :: st, SH, σ) = ma_rn ro d 95 (56, [v0, v1, v2, v3, v4], st, SH, σ)) ∧
  (∀ (v0 : Option Value) (v2 : Option Value) (v3 : Option Value) (v4 : Option Value) (x1 : Int32) (st : List Value) (σ : ma_H), ma_rn ro d 95 (36, [v0, some (.int x1), v2, v3, v4], st, SH, σ) = ma_rn ro d 95 (37, [v0, some (.int x1), v2, v3, v4], .int x1 :: st, SH, σ)) ∧
  (∀ (v0 : Option Value) (v1 : Option Value) (v2 : Option Value) (v4 : Option Value) (x1 : Int32) (st : List Value) (σ : ma_H), ma_rn ro d 95 (37, [v0, v1, v2, some (.int x1), v4], st, SH, σ) = ma_rn ro d 95 (38, [v0, v1, v2, some (.int x1), v4], .int x1 :: st, SH, σ)) ∧
  (∀ (v0 : Option Value) (v1 : Option Value) (v2 : Option Value) (v3 : Option Value) (v4 : Option Value) (x1 : Int32) (x2 : Int32) (st : List Value) (σ : ma_H), ma_rn ro d 95 (38, [v0, v1, v2, v3, v4], .int x1 :: .int x2 :: st, SH, σ) = ma_rn ro d 95 (39, [v0, v1, v2, v3, v4], .int (x2 >>> (x1 &&& 31)) :: st, SH, σ)) ∧
  (∀ (v0 : Option Value) (v1 : Option Value) (v2 : Option Value) (v3 : Option Value) (v4 : Option Value) (st : List Value) (σ : ma_H), ma_rn ro d 95 (39, [v0, v1, v2, v3, v4], st, SH, σ) = ma_rn ro d 95 (40, [v0, v1, v2, v3, v4], .int (nI 1) :: st, SH, σ)) ∧
  (∀ (v0 : Option Value) (v1 : Option Value) (v2 : Option Value) (v3 : Option Value) (v4 : Option Value) (x1 : Int32) (x2 : Int32) (st : List Value) (σ : ma_H), ma_rn ro d 95 (40, [v0, v1, v2, v3, v4], .int x1 :: .int x2 :: st, SH, σ) = ma_rn ro d 95 (41, [v0, v1, v2, v3, v4], .int (x2 &&& x1) :: st, SH, σ)) ∧
  (∀ (v0 : Option Value) (v1 : Option Value) (v2 : Option Value) (v3 : Option Value) (v4 : Option Value) (x1 : Int32) (st : List Value) (σ : ma_H), ma_rn ro d 95 (41, [v0, v1, v2, v3, v4], .int x1 :: st, SH, σ) = if x1 = nI 0 then ma_rn ro d 95 (56, [v0, v1, v2, v3, v4], st, SH, σ) else ma_rn ro d 95 (44, [v0, v1, v2, v3, v4], st, SH, σ)) ∧
  (∀ (v0 : Option Value) (v1 : Option Value) (v3 : Option Value) (v4 : Option Value) (x1 : Int32) (st : List Value) (σ : ma_H), ma_rn ro d 95 (44, [v0, v1, some (.int x1), v3, v4], st, SH, σ) = ma_rn ro d 95 (45, [v0, v1, some (.int x1), v3, v4], .int x1 :: st, SH, σ)) ∧
  (∀ (v0 : Option Value) (v1 : Option Value) (v2 : Option Value) (v3 : Option Value) (a1 : Nat) (st : List Value) (σ : ma_H), ma_rn ro d 95 (45, [v0, v1, v2, v3, some (.ref a1)], st, SH, σ) = ma_rn ro d 95 (47, [v0, v1, v2, v3, some (.ref a1)], .ref a1 :: st, SH, σ)) ∧
  (∀ (v0 : Option Value) (v1 : Option Value) (v2 : Option Value) (v3 : Option Value) (st : List Value) (σ : ma_H), ma_rn ro d 95 (45, [v0, v1, v2, v3, some .null], st, SH, σ) = ma_rn ro d 95 (47, [v0, v1, v2, v3, some .null], .null :: st, SH, σ)) ∧
  (∀ (v0 : Option Value) (v1 : Option Value) (v2 : Option Value) (v3 : Option Value) (v4 : Option Value) (a1 : Nat) (st : List Value) (σ : ma_H) (hc : hk_cls a1 = 1), ma_rn ro d 95 (47, [v0, v1, v2, v3, v4], .ref a1 :: st, SH, σ) = ma_rn ro d 95 (50, [v0, v1, v2, v3, v4], .int (σ a1 2) :: st, SH, σ)) ∧
  (∀ (v0 : Option Value) (v1 : Option Value) (v2 : Option Value) (v3 : Option Value) (v4 : Option Value) (st : List Value) (σ : ma_H), ma_rn ro d 95 (50, [v0, v1, v2, v3, v4], st, SH, σ) = ma_rn ro d 95 (51, [v0, v1, v2, v3, v4], .int (nI 4) :: st, SH, σ)) ∧
  (∀ (v0 : Option Value) (v1 : Option Value) (v2 : Option Value) (v3 : Option Value) (v4 : Option Value) (x1 : Int32) (x2 : Int32) (st : List Value) (σ : ma_H) (hy : ¬ x1 = 0), ma_rn ro d 95 (51, [v0, v1, v2, v3, v4], .int x1 :: .int x2 :: st, SH, σ) = ma_rn ro d 95 (52, [v0, v1, v2, v3, v4], .int (x2 - x2 / x1 * x1) :: st, SH, σ)) ∧
  (∀ (v0 : Option Value) (v1 : Option Value) (v2 : Option Value) (v3 : Option Value) (v4 : Option Value) (st : List Value) (σ : ma_H), ma_rn ro d 95 (52, [v0, v1, v2, v3, v4], st, SH, σ) = ma_rn ro d 95 (53, [v0, v1, v2, v3, v4], .int (nI 1) :: st, SH, σ)) ∧
  (∀ (v0 : Option Value) (v1 : Option Value) (v2 : Option Value) (v3 : Option Value) (v4 : Option Value) (x1 : Int32) (x2 : Int32) (st : List Value) (σ : ma_H), ma_rn ro d 95 (53, [v0, v1, v2, v3, v4], .int x1 :: .int x2 :: st, SH, σ) = ma_rn ro d 95 (54, [v0, v1, v2, v3, v4], .int (x2 + x1) :: st, SH, σ)) ∧
  (∀ (v0 : Option Value) (v1 : Option Value) (v2 : Option Value) (v3 : Option Value) (v4 : Option Value) (x1 : Int32) (x2 : Int32) (st : List Value) (σ : ma_H), ma_rn ro d 95 (54, [v0, v1, v2, v3, v4], .int x1 :: .int x2 :: st, SH, σ) = ma_rn ro d 95 (55, [v0, v1, v2, v3, v4], .int (x2 + x1) :: st, SH, σ)) ∧
  (∀ (v0 : Option Value) (v2 : Option Value) (v3 : Option Value) (v4 : Option Value) (x9 : Int32) (x1 : Int32) (st : List Value) (σ : ma_H), ma_rn ro d 95 (55, [v0, some (.int x9), v2, v3, v4], .int x1 :: st, SH, σ) = ma_rn ro d 95 (56, [v0, some (.int x9), some (.int x1), v3, v4], st, SH, σ)) ∧
  (∀ (v0 : Option Value) (v1 : Option Value) (v4 : Option Value) (x1 : Int32) (x9 : Int32) (st : List Value) (σ : ma_H), ma_rn ro d 95 (56, [v0, v1, some (.int x9), some (.int x1), v4], st, SH, σ) = ma_rn ro d 95 (59, [v0, v1, some (.int x9), some (.int (x1 + nI 1)), v4], st, SH, σ)) ∧
  (∀ (v0 : Option Value) (v1 : Option Value) (v2 : Option Value) (v3 : Option Value) (v4 : Option Value) (st : List Value) (σ : ma_H), ma_rn ro d 95 (59, [v0, v1, v2, v3, v4], st, SH, σ) = ma_rn ro d 95 (4, [v0, v1, v2, v3, v4], st, SH, σ)) ∧
  (∀ (v0 : Option Value) (v1 : Option Value) (v3 : Option Value) (v4 : Option Value) (x1 : Int32) (st : List Value) (σ : ma_H), ma_rn ro d 95 (62, [v0, v1, some (.int x1), v3, v4], st, SH, σ) = ma_rn ro d 95 (63, [v0, v1, some (.int x1), v3, v4], .int x1 :: st, SH, σ)) ∧
  (∀ (v0 : Option Value) (v1 : Option Value) (v2 : Option Value) (v3 : Option Value) (v4 : Option Value) (x1 : Int32) (σ : ma_H), ma_rn ro d 95 (63, [v0, v1, v2, v3, v4], [.int x1], SH, σ) = some (some (.int x1), SH, σ)) := ⟨fun v0 v1 v2 v3 v4 st σ => q_iconst e95_0 (by decide),
  fun v0 v2 v3 v4 x9 x1 st σ => q_go e95_1 rfl rfl,
  fun v0 v1 v2 v3 v4 st σ => q_iconst e95_2 (by decide),
  fun v0 v1 v3 v4 x9 x1 st σ => q_go e95_3 rfl rfl,
  fun v1 v2 v3 v4 a1 st σ => q_go e95_5 rfl rfl,
  fun v0 v1 v2 v3 v4 a1 st σ hc => q_getA e95_6 o_95 f_7_12 (by decide) hc,
  fun v0 v1 v2 v3 v4 a1 st σ hc => q_getA e95_9 o_95 f_7_93 (by decide) hc,
  fun v0 v1 v2 v3 v4 a1 st σ hc => q_getI e95_12 o_95 f_7_99 (by decide) hc,
  fun v0 v1 v2 v3 v4 x1 x2 st σ => (q_cmp e95_15 rfl).trans q_nlt,
  fun v1 v2 v3 v4 a1 st σ => q_go e95_18 rfl rfl,
  fun v0 v1 v2 v3 v4 a1 st σ hc => q_getA e95_19 o_95 f_7_12 (by decide) hc,
  fun v0 v1 v2 v3 v4 a1 st σ hc => q_getA e95_22 o_95 f_7_93 (by decide) hc,
  fun v0 v1 v2 v4 x1 st σ => q_go e95_25 rfl rfl,
  fun v0 v1 v2 v3 v4 x1 a0 σ hc => q_invV (as := [.int x1]) (rest := []) e95_26 o_95 bn_7_102 c_7_102 m_50 (by decide) rfl rfl (Nat.le_of_ble_eq_true rfl) (Nat.le_of_ble_eq_true rfl) hc,
  fun v0 v1 v2 v4 x9 a1 st σ => q_go e95_29 rfl rfl,
  fun v0 v1 v2 v4 x9 st σ => q_go e95_29 rfl rfl,
  fun v0 v1 v2 v3 a1 st σ => q_go e95_31 rfl rfl,
  fun v0 v1 v2 v3 st σ => q_go e95_31 rfl rfl,
  fun v0 v1 v2 v3 v4 a1 st σ => q_ifnullR e95_33 rfl,
  fun v0 v1 v2 v3 v4 st σ => q_ifnullN e95_33 rfl,
  fun v0 v2 v3 v4 x1 st σ => q_go e95_36 rfl rfl,
  fun v0 v1 v2 v4 x1 st σ => q_go e95_37 rfl rfl,
  fun v0 v1 v2 v3 v4 x1 x2 st σ => q_go e95_38 rfl rfl,
  fun v0 v1 v2 v3 v4 st σ => q_iconst e95_39 (by decide),
  fun v0 v1 v2 v3 v4 x1 x2 st σ => q_go e95_40 rfl rfl,
  fun v0 v1 v2 v3 v4 x1 st σ => (q_if e95_41 rfl).trans q_eq,
  fun v0 v1 v3 v4 x1 st σ => q_go e95_44 rfl rfl,
  fun v0 v1 v2 v3 a1 st σ => q_go e95_45 rfl rfl,
  fun v0 v1 v2 v3 st σ => q_go e95_45 rfl rfl,
  fun v0 v1 v2 v3 v4 a1 st σ hc => q_getI e95_47 o_95 f_7_110 (by decide) hc,
  fun v0 v1 v2 v3 v4 st σ => q_iconst e95_50 (by decide),
  fun v0 v1 v2 v3 v4 x1 x2 st σ hy => q_irem e95_51 hy,
  fun v0 v1 v2 v3 v4 st σ => q_iconst e95_52 (by decide),
  fun v0 v1 v2 v3 v4 x1 x2 st σ => q_go e95_53 rfl rfl,
  fun v0 v1 v2 v3 v4 x1 x2 st σ => q_go e95_54 rfl rfl,
  fun v0 v2 v3 v4 x9 x1 st σ => q_go e95_55 rfl rfl,
  fun v0 v1 v4 x1 x9 st σ => q_iinc e95_56 rfl rfl (by decide),
  fun v0 v1 v2 v3 v4 st σ => q_goto e95_59 rfl,
  fun v0 v1 v3 v4 x1 st σ => q_go e95_62 rfl rfl,
  fun v0 v1 v2 v3 v4 x1 σ => q_iret e95_63 r_95⟩
theorem E95 {ro : ma_RO} {d : Nat} (a0 : Nat) (x1 : Int32) (sh : List ma_Sh) (σ : ma_H) : ma_ev ro d 95 [.ref a0, .int x1] sh σ = ma_rn ro d 95 (0, [some (.ref a0), some (.int x1), none, none, none], [], sh, σ) := q_ent x_95 rfl
theorem e96_0 : decode (ma_cd 96) 0 = .ok (.iconst 0, 1) := (congrArg (fun b => decode b 0) cd_96).trans dX7_worthOf_0
theorem e96_1 : decode (ma_cd 96) 1 = .ok (.istore_n 2, 1) := (congrArg (fun b => decode b 1) cd_96).trans dX7_worthOf_1
theorem e96_2 : decode (ma_cd 96) 2 = .ok (.iconst 0, 1) := (congrArg (fun b => decode b 2) cd_96).trans dX7_worthOf_2
theorem e96_3 : decode (ma_cd 96) 3 = .ok (.istore_n 3, 1) := (congrArg (fun b => decode b 3) cd_96).trans dX7_worthOf_3
theorem e96_4 : decode (ma_cd 96) 4 = .ok (.iload_n 3, 1) := (congrArg (fun b => decode b 4) cd_96).trans dX7_worthOf_4
theorem e96_5 : decode (ma_cd 96) 5 = .ok (.aload_n 0, 1) := (congrArg (fun b => decode b 5) cd_96).trans dX7_worthOf_5
theorem e96_6 : decode (ma_cd 96) 6 = .ok (.getfield 12, 3) := (congrArg (fun b => decode b 6) cd_96).trans dX7_worthOf_6
theorem e96_9 : decode (ma_cd 96) 9 = .ok (.getfield 93, 3) := (congrArg (fun b => decode b 9) cd_96).trans dX7_worthOf_9
theorem e96_12 : decode (ma_cd 96) 12 = .ok (.getfield 99, 3) := (congrArg (fun b => decode b 12) cd_96).trans dX7_worthOf_12
theorem e96_15 : decode (ma_cd 96) 15 = .ok (.if_icmp .ge 67, 3) := (congrArg (fun b => decode b 15) cd_96).trans dX7_worthOf_15
theorem e96_18 : decode (ma_cd 96) 18 = .ok (.aload_n 0, 1) := (congrArg (fun b => decode b 18) cd_96).trans dX7_worthOf_18
theorem e96_19 : decode (ma_cd 96) 19 = .ok (.getfield 12, 3) := (congrArg (fun b => decode b 19) cd_96).trans dX7_worthOf_19
theorem e96_22 : decode (ma_cd 96) 22 = .ok (.getfield 93, 3) := (congrArg (fun b => decode b 22) cd_96).trans dX7_worthOf_22
theorem e96_25 : decode (ma_cd 96) 25 = .ok (.iload_n 3, 1) := (congrArg (fun b => decode b 25) cd_96).trans dX7_worthOf_25
theorem e96_26 : decode (ma_cd 96) 26 = .ok (.invokevirtual 102, 3) := (congrArg (fun b => decode b 26) cd_96).trans dX7_worthOf_26
theorem e96_29 : decode (ma_cd 96) 29 = .ok (.astore 4, 2) := (congrArg (fun b => decode b 29) cd_96).trans dX7_worthOf_29
theorem e96_31 : decode (ma_cd 96) 31 = .ok (.aload 4, 2) := (congrArg (fun b => decode b 31) cd_96).trans dX7_worthOf_31
theorem e96_33 : decode (ma_cd 96) 33 = .ok (.ifnull 43, 3) := (congrArg (fun b => decode b 33) cd_96).trans dX7_worthOf_33
theorem e96_36 : decode (ma_cd 96) 36 = .ok (.iload_n 1, 1) := (congrArg (fun b => decode b 36) cd_96).trans dX7_worthOf_36
theorem e96_37 : decode (ma_cd 96) 37 = .ok (.iload_n 3, 1) := (congrArg (fun b => decode b 37) cd_96).trans dX7_worthOf_37
theorem e96_38 : decode (ma_cd 96) 38 = .ok (.ishr, 1) := (congrArg (fun b => decode b 38) cd_96).trans dX7_worthOf_38
theorem e96_39 : decode (ma_cd 96) 39 = .ok (.iconst 1, 1) := (congrArg (fun b => decode b 39) cd_96).trans dX7_worthOf_39
theorem e96_40 : decode (ma_cd 96) 40 = .ok (.iand, 1) := (congrArg (fun b => decode b 40) cd_96).trans dX7_worthOf_40
theorem e96_41 : decode (ma_cd 96) 41 = .ok (.ifCond .eq 35, 3) := (congrArg (fun b => decode b 41) cd_96).trans dX7_worthOf_41
theorem e96_44 : decode (ma_cd 96) 44 = .ok (.iload_n 2, 1) := (congrArg (fun b => decode b 44) cd_96).trans dX7_worthOf_44
theorem e96_45 : decode (ma_cd 96) 45 = .ok (.iconst 0, 1) := (congrArg (fun b => decode b 45) cd_96).trans dX7_worthOf_45
theorem e96_46 : decode (ma_cd 96) 46 = .ok (.aload 4, 2) := (congrArg (fun b => decode b 46) cd_96).trans dX7_worthOf_46
theorem e96_48 : decode (ma_cd 96) 48 = .ok (.bipush 20, 2) := (congrArg (fun b => decode b 48) cd_96).trans dX7_worthOf_48
theorem e96_50 : decode (ma_cd 96) 50 = .ok (.aload_n 0, 1) := (congrArg (fun b => decode b 50) cd_96).trans dX7_worthOf_50
theorem e96_51 : decode (ma_cd 96) 51 = .ok (.getfield 12, 3) := (congrArg (fun b => decode b 51) cd_96).trans dX7_worthOf_51
theorem e96_54 : decode (ma_cd 96) 54 = .ok (.getfield 86, 3) := (congrArg (fun b => decode b 54) cd_96).trans dX7_worthOf_54
theorem e96_57 : decode (ma_cd 96) 57 = .ok (.getfield 136, 3) := (congrArg (fun b => decode b 57) cd_96).trans dX7_worthOf_57
theorem e96_60 : decode (ma_cd 96) 60 = .ok (.invokevirtual 156, 3) := (congrArg (fun b => decode b 60) cd_96).trans dX7_worthOf_60
theorem e96_63 : decode (ma_cd 96) 63 = .ok (.invokestatic 268, 3) := (congrArg (fun b => decode b 63) cd_96).trans dX7_worthOf_63
theorem e96_66 : decode (ma_cd 96) 66 = .ok (.aload 4, 2) := (congrArg (fun b => decode b 66) cd_96).trans dX7_worthOf_66
theorem e96_68 : decode (ma_cd 96) 68 = .ok (.getfield 110, 3) := (congrArg (fun b => decode b 68) cd_96).trans dX7_worthOf_68
theorem e96_71 : decode (ma_cd 96) 71 = .ok (.iconst 1, 1) := (congrArg (fun b => decode b 71) cd_96).trans dX7_worthOf_71
theorem e96_72 : decode (ma_cd 96) 72 = .ok (.iadd, 1) := (congrArg (fun b => decode b 72) cd_96).trans dX7_worthOf_72
theorem e96_73 : decode (ma_cd 96) 73 = .ok (.imul, 1) := (congrArg (fun b => decode b 73) cd_96).trans dX7_worthOf_73
theorem e96_74 : decode (ma_cd 96) 74 = .ok (.iadd, 1) := (congrArg (fun b => decode b 74) cd_96).trans dX7_worthOf_74
theorem e96_75 : decode (ma_cd 96) 75 = .ok (.istore_n 2, 1) := (congrArg (fun b => decode b 75) cd_96).trans dX7_worthOf_75
theorem e96_76 : decode (ma_cd 96) 76 = .ok (.iinc 3 1, 3) := (congrArg (fun b => decode b 76) cd_96).trans dX7_worthOf_76
theorem e96_79 : decode (ma_cd 96) 79 = .ok (.goto (-75), 3) := (congrArg (fun b => decode b 79) cd_96).trans dX7_worthOf_79
theorem e96_82 : decode (ma_cd 96) 82 = .ok (.iload_n 2, 1) := (congrArg (fun b => decode b 82) cd_96).trans dX7_worthOf_82
theorem e96_83 : decode (ma_cd 96) 83 = .ok (.ireturn, 1) := (congrArg (fun b => decode b 83) cd_96).trans dX7_worthOf_83
theorem Sh96_4 {ro : ma_RO} {d : Nat} : (∀ (v0 : Option Value) (v1 : Option Value) (v2 : Option Value) (v4 : Option Value) (x1 : Int32) (st : List Value) (σ : ma_H), ma_rn ro d 96 (4, [v0, v1, v2, some (.int x1), v4], st, SH, σ) = ma_rn ro d 96 (5, [v0, v1, v2, some (.int x1), v4], .int x1 :: st, SH, σ)) := fun v0 v1 v2 v4 x1 st σ => q_go e96_4 rfl rfl
theorem S96 {ro : ma_RO} {d : Nat} : (∀ (v0 : Option Value) (v1 : Option Value) (v2 : Option Value) (v3 : Option Value) (v4 : Option Value) (st : List Value) (σ : ma_H), ma_rn ro d 96 (0, [v0, v1, v2, v3, v4], st, SH, σ) = ma_rn ro d 96 (1, [v0, v1, v2, v3, v4], .int (nI 0) :: st, SH, σ)) ∧
  (∀ (v0 : Option Value) (v2 : Option Value) (v3 : Option Value) (v4 : Option Value) (x9 : Int32) (x1 : Int32) (st : List Value) (σ : ma_H), ma_rn ro d 96 (1, [v0, some (.int x9), v2, v3, v4], .int x1 :: st, SH, σ) = ma_rn ro d 96 (2, [v0, some (.int x9), some (.int x1), v3, v4], st, SH, σ)) ∧
  (∀ (v0 : Option Value) (v1 : Option Value) (v2 : Option Value) (v3 : Option Value) (v4 : Option Value) (st : List Value) (σ : ma_H), ma_rn ro d 96 (2, [v0, v1, v2, v3, v4], st, SH, σ) = ma_rn ro d 96 (3, [v0, v1, v2, v3, v4], .int (nI 0) :: st, SH, σ)) ∧
  (∀ (v0 : Option Value) (v1 : Option Value) (v3 : Option Value) (v4 : Option Value) (x9 : Int32) (x1 : Int32) (st : List Value) (σ : ma_H), ma_rn ro d 96 (3, [v0, v1, some (.int x9), v3, v4], .int x1 :: st, SH, σ) = ma_rn ro d 96 (4, [v0, v1, some (.int x9), some (.int x1), v4], st, SH, σ)) ∧
  (∀ (v1 : Option Value) (v2 : Option Value) (v3 : Option Value) (v4 : Option Value) (a1 : Nat) (st : List Value) (σ : ma_H), ma_rn ro d 96 (5, [some (.ref a1), v1, v2, v3, v4], st, SH, σ) = ma_rn ro d 96 (6, [some (.ref a1), v1, v2, v3, v4], .ref a1 :: st, SH, σ)) ∧
  (∀ (v0 : Option Value) (v1 : Option Value) (v2 : Option Value) (v3 : Option Value) (v4 : Option Value) (a1 : Nat) (st : List Value) (σ : ma_H) (hc : hk_cls a1 = 7), ma_rn ro d 96 (6, [v0, v1, v2, v3, v4], .ref a1 :: st, SH, σ) = ma_rn ro d 96 (9, [v0, v1, v2, v3, v4], .ref (1) :: st, SH, σ)) ∧
  (∀ (v0 : Option Value) (v1 : Option Value) (v2 : Option Value) (v3 : Option Value) (v4 : Option Value) (a1 : Nat) (st : List Value) (σ : ma_H) (hc : hk_cls a1 = 5), ma_rn ro d 96 (9, [v0, v1, v2, v3, v4], .ref a1 :: st, SH, σ) = ma_rn ro d 96 (12, [v0, v1, v2, v3, v4], .ref (a1 + 1) :: st, SH, σ)) ∧
  (∀ (v0 : Option Value) (v1 : Option Value) (v2 : Option Value) (v3 : Option Value) (v4 : Option Value) (a1 : Nat) (st : List Value) (σ : ma_H) (hc : hk_cls a1 = 6), ma_rn ro d 96 (12, [v0, v1, v2, v3, v4], .ref a1 :: st, SH, σ) = ma_rn ro d 96 (15, [v0, v1, v2, v3, v4], .int (σ a1 1) :: st, SH, σ)) ∧
  (∀ (v0 : Option Value) (v1 : Option Value) (v2 : Option Value) (v3 : Option Value) (v4 : Option Value) (x1 : Int32) (x2 : Int32) (st : List Value) (σ : ma_H), ma_rn ro d 96 (15, [v0, v1, v2, v3, v4], .int x1 :: .int x2 :: st, SH, σ) = if x2 < x1 then ma_rn ro d 96 (18, [v0, v1, v2, v3, v4], st, SH, σ) else ma_rn ro d 96 (82, [v0, v1, v2, v3, v4], st, SH, σ)) ∧
  (∀ (v1 : Option Value) (v2 : Option Value) (v3 : Option Value) (v4 : Option Value) (a1 : Nat) (st : List Value) (σ : ma_H), ma_rn ro d 96 (18, [some (.ref a1), v1, v2, v3, v4], st, SH, σ) = ma_rn ro d 96 (19, [some (.ref a1), v1, v2, v3, v4], .ref a1 :: st, SH, σ)) ∧
  (∀ (v0 : Option Value) (v1 : Option Value) (v2 : Option Value) (v3 : Option Value) (v4 : Option Value) (a1 : Nat) (st : List Value) (σ : ma_H) (hc : hk_cls a1 = 7), ma_rn ro d 96 (19, [v0, v1, v2, v3, v4], .ref a1 :: st, SH, σ) = ma_rn ro d 96 (22, [v0, v1, v2, v3, v4], .ref (1) :: st, SH, σ)) ∧
  (∀ (v0 : Option Value) (v1 : Option Value) (v2 : Option Value) (v3 : Option Value) (v4 : Option Value) (a1 : Nat) (st : List Value) (σ : ma_H) (hc : hk_cls a1 = 5), ma_rn ro d 96 (22, [v0, v1, v2, v3, v4], .ref a1 :: st, SH, σ) = ma_rn ro d 96 (25, [v0, v1, v2, v3, v4], .ref (a1 + 1) :: st, SH, σ)) ∧
  (∀ (v0 : Option Value) (v1 : Option Value) (v2 : Option Value) (v4 : Option Value) (x1 : Int32) (st : List Value) (σ : ma_H), ma_rn ro d 96 (25, [v0, v1, v2, some (.int x1), v4], st, SH, σ) = ma_rn ro d 96 (26, [v0, v1, v2, some (.int x1), v4], .int x1 :: st, SH, σ)) ∧
  (∀ (v0 : Option Value) (v1 : Option Value) (v2 : Option Value) (v3 : Option Value) (v4 : Option Value) (x1 : Int32) (a0 : Nat) (σ : ma_H) (hc : hk_cls a0 = 6), ma_rn ro (d + 1) 96 (26, [v0, v1, v2, v3, v4], .int x1 :: .ref a0 :: [], SH, σ) = (ma_ev ro d 50 [.ref a0, .int x1] SH σ).bind (fun q => ma_rn ro (d + 1) 96 (29, [v0, v1, v2, v3, v4], (q.1.toList ++ []), q.2.1, q.2.2))) ∧
  (∀ (v0 : Option Value) (v1 : Option Value) (v2 : Option Value) (v4 : Option Value) (x9 : Int32) (a1 : Nat) (st : List Value) (σ : ma_H), ma_rn ro d 96 (29, [v0, v1, v2, some (.int x9), v4], .ref a1 :: st, SH, σ) = ma_rn ro d 96 (31, [v0, v1, v2, some (.int x9), some (.ref a1)], st, SH, σ)) ∧
  (∀ (v0 : Option Value) (v1 : Option Value) (v2 : Option Value) (v4 : Option Value) (x9 : Int32) (st : List Value) (σ : ma_H), ma_rn ro d 96 (29, [v0, v1, v2, some (.int x9), v4], .null :: st, SH, σ) = ma_rn ro d 96 (31, [v0, v1, v2, some (.int x9), some .null], st, SH, σ)) ∧
  (∀ (v0 : Option Value) (v1 : Option Value) (v2 : Option Value) (v3 : Option Value) (a1 : Nat) (st : List Value) (σ : ma_H), ma_rn ro d 96 (31, [v0, v1, v2, v3, some (.ref a1)], st, SH, σ) = ma_rn ro d 96 (33, [v0, v1, v2, v3, some (.ref a1)], .ref a1 :: st, SH, σ)) ∧
  (∀ (v0 : Option Value) (v1 : Option Value) (v2 : Option Value) (v3 : Option Value) (st : List Value) (σ : ma_H), ma_rn ro d 96 (31, [v0, v1, v2, v3, some .null], st, SH, σ) = ma_rn ro d 96 (33, [v0, v1, v2, v3, some .null], .null :: st, SH, σ)) ∧
  (∀ (v0 : Option Value) (v1 : Option Value) (v2 : Option Value) (v3 : Option Value) (v4 : Option Value) (a1 : Nat) (st : List Value) (σ : ma_H), ma_rn ro d 96 (33, [v0, v1, v2, v3, v4], .ref a1 :: st, SH, σ) = ma_rn ro d 96 (36, [v0, v1, v2, v3, v4], st, SH, σ)) ∧
  (∀ (v0 : Option Value) (v1 : Option Value) (v2 : Option Value) (v3 : Option Value) (v4 : Option Value) (st : List Value) (σ : ma_H), ma_rn ro d 96 (33, [v0, v1, v2, v3, v4], .null :: st, SH, σ) = ma_rn ro d 96 (76, [v0, v1, v2, v3, v4], st, SH, σ)) ∧
  (∀ (v0 : Option Value) (v2 : Option Value) (v3 : Option Value) (v4 : Option Value) (x1 : Int32) (st : List Value) (σ : ma_H), ma_rn ro d 96 (36, [v0, some (.int x1), v2, v3, v4], st, SH, σ) = ma_rn ro d 96 (37, [v0, some (.int x1), v2, v3, v4], .int x1 :: st, SH, σ)) ∧
  (∀ (v0 : Option Value) (v1 : Option Value) (v2 : Option Value) (v4 : Option Value) (x1 : Int32) (st : List Value) (σ : ma_H), ma_rn ro d 96 (37, [v0, v1, v2, some (.int x1), v4], st, SH, σ) = ma_rn ro d 96 (38, [v0, v1, v2, some (.int x1), v4], .int x1 :: st, SH, σ)) ∧
  (∀ (v0 : Option Value) (v1 : Option Value) (v2 : Option Value) (v3 : Option Value) (v4 : Option Value) (x1 : Int32) (x2 : Int32) (st : List Value) (σ : ma_H), ma_rn ro d 96 (38, [v0, v1, v2, v3, v4], .int x1 :: .int x2 :: st, SH, σ) = ma_rn ro d 96 (39, [v0, v1, v2, v3, v4], .int (x2 >>> (x1 &&& 31)) :: st, SH, σ)) ∧
  (∀ (v0 : Option Value) (v1 : Option Value) (v2 : Option Value) (v3 : Option Value) (v4 : Option Value) (st : List Value) (σ : ma_H), ma_rn ro d 96 (39, [v0, v1, v2, v3, v4], st, SH, σ) = ma_rn ro d 96 (40, [v0, v1, v2, v3, v4], .int (nI 1) :: st, SH, σ)) ∧
  (∀ (v0 : Option Value) (v1 : Option Value) (v2 : Option Value) (v3 : Option Value) (v4 : Option Value) (x1 : Int32) (x2 : Int32) (st : List Value) (σ : ma_H), ma_rn ro d 96 (40, [v0, v1, v2, v3, v4], .int x1 :: .int x2 :: st, SH, σ) = ma_rn ro d 96 (41, [v0, v1, v2, v3, v4], .int (x2 &&& x1) :: st, SH, σ)) ∧
  (∀ (v0 : Option Value) (v1 : Option Value) (v2 : Option Value) (v3 : Option Value) (v4 : Option Value) (x1 : Int32) (st : List Value) (σ : ma_H), ma_rn ro d 96 (41, [v0, v1, v2, v3, v4], .int x1 :: st, SH, σ) = if x1 = nI 0 then ma_rn ro d 96 (76, [v0, v1, v2, v3, v4], st, SH, σ) else ma_rn ro d 96 (44, [v0, v1, v2, v3, v4], st, SH, σ)) ∧
  (∀ (v0 : Option Value) (v1 : Option Value) (v3 : Option Value) (v4 : Option Value) (x1 : Int32) (st : List Value) (σ : ma_H), ma_rn ro d 96 (44, [v0, v1, some (.int x1), v3, v4], st, SH, σ) = ma_rn ro d 96 (45, [v0, v1, some (.int x1), v3, v4], .int x1 :: st, SH, σ)) ∧
  (∀ (v0 : Option Value) (v1 : Option Value) (v2 : Option Value) (v3 : Option Value) (v4 : Option Value) (st : List Value) (σ : ma_H), ma_rn ro d 96 (45, [v0, v1, v2, v3, v4], st, SH, σ) = ma_rn ro d 96 (46, [v0, v1, v2, v3, v4], .int (nI 0) :: st, SH, σ)) ∧
  (∀ (v0 : Option Value) (v1 : Option Value) (v2 : Option Value) (v3 : Option Value) (a1 : Nat) (st : List Value) (σ : ma_H), ma_rn ro d 96 (46, [v0, v1, v2, v3, some (.ref a1)], st, SH, σ) = ma_rn ro d 96 (48, [v0, v1, v2, v3, some (.ref a1)], .ref a1 :: st, SH, σ)) ∧
  (∀ (v0 : Option Value) (v1 : Option Value) (v2 : Option Value) (v3 : Option Value) (st : List Value) (σ : ma_H), ma_rn ro d 96 (46, [v0, v1, v2, v3, some .null], st, SH, σ) = ma_rn ro d 96 (48, [v0, v1, v2, v3, some .null], .null :: st, SH, σ)) ∧
  (∀ (v0 : Option Value) (v1 : Option Value) (v2 : Option Value) (v3 : Option Value) (v4 : Option Value) (st : List Value) (σ : ma_H), ma_rn ro d 96 (48, [v0, v1, v2, v3, v4], st, SH, σ) = ma_rn ro d 96 (50, [v0, v1, v2, v3, v4], .int (nI 20) :: st, SH, σ)) ∧
  (∀ (v1 : Option Value) (v2 : Option Value) (v3 : Option Value) (v4 : Option Value) (a1 : Nat) (st : List Value) (σ : ma_H), ma_rn ro d 96 (50, [some (.ref a1), v1, v2, v3, v4], st, SH, σ) = ma_rn ro d 96 (51, [some (.ref a1), v1, v2, v3, v4], .ref a1 :: st, SH, σ)) ∧
  (∀ (v0 : Option Value) (v1 : Option Value) (v2 : Option Value) (v3 : Option Value) (v4 : Option Value) (a1 : Nat) (st : List Value) (σ : ma_H) (hc : hk_cls a1 = 7), ma_rn ro d 96 (51, [v0, v1, v2, v3, v4], .ref a1 :: st, SH, σ) = ma_rn ro d 96 (54, [v0, v1, v2, v3, v4], .ref (1) :: st, SH, σ)) ∧
  (∀ (v0 : Option Value) (v1 : Option Value) (v2 : Option Value) (v3 : Option Value) (v4 : Option Value) (a1 : Nat) (st : List Value) (σ : ma_H) (hc : hk_cls a1 = 5), ma_rn ro d 96 (54, [v0, v1, v2, v3, v4], .ref a1 :: st, SH, σ) = ma_rn ro d 96 (57, [v0, v1, v2, v3, v4], .ref (a1 + 15) :: st, SH, σ)) ∧
  (∀ (v0 : Option Value) (v1 : Option Value) (v2 : Option Value) (v3 : Option Value) (v4 : Option Value) (a1 : Nat) (st : List Value) (σ : ma_H) (hc : hk_cls a1 = 2), ma_rn ro d 96 (57, [v0, v1, v2, v3, v4], .ref a1 :: st, SH, σ) = ma_rn ro d 96 (60, [v0, v1, v2, v3, v4], .int (σ a1 0) :: st, SH, σ)) ∧
  (∀ (v0 : Option Value) (v1 : Option Value) (v2 : Option Value) (v3 : Option Value) (v4 : Option Value) (x20 : Int32) (x21 : Int32) (x1 : Int32) (x2 : Int32) (a0 : Nat) (σ : ma_H) (hc : hk_cls a0 = 1), ma_rn ro (d + 1) 96 (60, [v0, v1, v2, v3, v4], .int x2 :: .int x1 :: .ref a0 :: .int x20 :: .int x21 :: [], SH, σ) = (ma_ev ro d 14 [.ref a0, .int x1, .int x2] SH σ).bind (fun q => ma_rn ro (d + 1) 96 (63, [v0, v1, v2, v3, v4], (q.1.toList ++ (.int x20 :: .int x21 :: [])), q.2.1, q.2.2))) ∧
  (∀ (v0 : Option Value) (v1 : Option Value) (v2 : Option Value) (v3 : Option Value) (v4 : Option Value) (x1 : Int32) (x2 : Int32) (x20 : Int32) (σ : ma_H), ma_rn ro d 96 (63, [v0, v1, v2, v3, v4], .int x1 :: .int x2 :: .int x20 :: [], SH, σ) = ma_rn ro d 96 (66, [v0, v1, v2, v3, v4], .int (if x2 < x1 then x1 else x2) :: .int x20 :: [], SH, σ)) ∧
  (∀ (v0 : Option Value) (v1 : Option Value) (v2 : Option Value) (v3 : Option Value) (a1 : Nat) (st : List Value) (σ : ma_H), ma_rn ro d 96 (66, [v0, v1, v2, v3, some (.ref a1)], st, SH, σ) = ma_rn ro d 96 (68, [v0, v1, v2, v3, some (.ref a1)], .ref a1 :: st, SH, σ)) ∧
  (∀ (v0 : Option Value) (v1 : Option Value) (v2 : Option Value) (v3 : Option Value) (st : List Value) (σ : ma_H), ma_rn ro d 96 (66, [v0, v1, v2, v3, some .null], st, SH, σ) = ma_rn ro d 96 (68, [v0, v1, v2, v3, some .null], .null :: st, SH, σ)) ∧
  (∀ (v0 : Option Value) (v1 : Option Value) (v2 : Option Value) (v3 : Option Value) (v4 : Option Value) (a1 : Nat) (st : List Value) (σ : ma_H) (hc : hk_cls a1 = 1), ma_rn ro d 96 (68, [v0, v1, v2, v3, v4], .ref a1 :: st, SH, σ) = ma_rn ro d 96 (71, [v0, v1, v2, v3, v4], .int (σ a1 2) :: st, SH, σ)) ∧
  (∀ (v0 : Option Value) (v1 : Option Value) (v2 : Option Value) (v3 : Option Value) (v4 : Option Value) (st : List Value) (σ : ma_H), ma_rn ro d 96 (71, [v0, v1, v2, v3, v4], st, SH, σ) = ma_rn ro d 96 (72, [v0, v1, v2, v3, v4], .int (nI 1) :: st, SH, σ)) ∧
  (∀ (v0 : Option Value) (v1 : Option Value) (v2 : Option Value) (v3 : Option Value) (v4 : Option Value) (x1 : Int32) (x2 : Int32) (st : List Value) (σ : ma_H), ma_rn ro d 96 (72, [v0, v1, v2, v3, v4], .int x1 :: .int x2 :: st, SH, σ) = ma_rn ro d 96 (73, [v0, v1, v2, v3, v4], .int (x2 + x1) :: st, SH, σ)) ∧
  (∀ (v0 : Option Value) (v1 : Option Value) (v2 : Option Value) (v3 : Option Value) (v4 : Option Value) (x1 : Int32) (x2 : Int32) (st : List Value) (σ : ma_H), ma_rn ro d 96 (73, [v0, v1, v2, v3, v4], .int x1 :: .int x2 :: st, SH, σ) = ma_rn ro d 96 (74, [v0, v1, v2, v3, v4], .int (x2 * x1) :: st, SH, σ)) ∧
  (∀ (v0 : Option Value) (v1 : Option Value) (v2 : Option Value) (v3 : Option Value) (v4 : Option Value) (x1 : Int32) (x2 : Int32) (st : List Value) (σ : ma_H), ma_rn ro d 96 (74, [v0, v1, v2, v3, v4], .int x1 :: .int x2 :: st, SH, σ) = ma_rn ro d 96 (75, [v0, v1, v2, v3, v4], .int (x2 + x1) :: st, SH, σ)) ∧
  (∀ (v0 : Option Value) (v2 : Option Value) (v3 : Option Value) (v4 : Option Value) (x9 : Int32) (x1 : Int32) (st : List Value) (σ : ma_H), ma_rn ro d 96 (75, [v0, some (.int x9), v2, v3, v4], .int x1 :: st, SH, σ) = ma_rn ro d 96 (76, [v0, some (.int x9), some (.int x1), v3, v4], st, SH, σ)) ∧
  (∀ (v0 : Option Value) (v1 : Option Value) (v4 : Option Value) (x1 : Int32) (x9 : Int32) (st : List Value) (σ : ma_H), ma_rn ro d 96 (76, [v0, v1, some (.int x9), some (.int x1), v4], st, SH, σ) = ma_rn ro d 96 (79, [v0, v1, some (.int x9), some (.int (x1 + nI 1)), v4], st, SH, σ)) ∧
  (∀ (v0 : Option Value) (v1 : Option Value) (v2 : Option Value) (v3 : Option Value) (v4 : Option Value) (st : List Value) (σ : ma_H), ma_rn ro d 96 (79, [v0, v1, v2, v3, v4], st, SH, σ) = ma_rn ro d 96 (4, [v0, v1, v2, v3, v4], st, SH, σ)) ∧
  (∀ (v0 : Option Value) (v1 : Option Value) (v3 : Option Value) (v4 : Option Value) (x1 : Int32) (st : List Value) (σ : ma_H), ma_rn ro d 96 (82, [v0, v1, some (.int x1), v3, v4], st, SH, σ) = ma_rn ro d 96 (83, [v0, v1, some (.int x1), v3, v4], .int x1 :: st, SH, σ)) ∧
  (∀ (v0 : Option Value) (v1 : Option Value) (v2 : Option Value) (v3 : Option Value) (v4 : Option Value) (x1 : Int32) (σ : ma_H), ma_rn ro d 96 (83, [v0, v1, v2, v3, v4], [.int x1], SH, σ) = some (some (.int x1), SH, σ)) := ⟨fun v0 v1 v2 v3 v4 st σ => q_iconst e96_0 (by decide),
  fun v0 v2 v3 v4 x9 x1 st σ => q_go e96_1 rfl rfl,
  fun v0 v1 v2 v3 v4 st σ => q_iconst e96_2 (by decide),
  fun v0 v1 v3 v4 x9 x1 st σ => q_go e96_3 rfl rfl,
  fun v1 v2 v3 v4 a1 st σ => q_go e96_5 rfl rfl,
  fun v0 v1 v2 v3 v4 a1 st σ hc => q_getA e96_6 o_96 f_7_12 (by decide) hc,
  fun v0 v1 v2 v3 v4 a1 st σ hc => q_getA e96_9 o_96 f_7_93 (by decide) hc,
  fun v0 v1 v2 v3 v4 a1 st σ hc => q_getI e96_12 o_96 f_7_99 (by decide) hc,
  fun v0 v1 v2 v3 v4 x1 x2 st σ => (q_cmp e96_15 rfl).trans q_nlt,
  fun v1 v2 v3 v4 a1 st σ => q_go e96_18 rfl rfl,
  fun v0 v1 v2 v3 v4 a1 st σ hc => q_getA e96_19 o_96 f_7_12 (by decide) hc,
  fun v0 v1 v2 v3 v4 a1 st σ hc => q_getA e96_22 o_96 f_7_93 (by decide) hc,
  fun v0 v1 v2 v4 x1 st σ => q_go e96_25 rfl rfl,
  fun v0 v1 v2 v3 v4 x1 a0 σ hc => q_invV (as := [.int x1]) (rest := []) e96_26 o_96 bn_7_102 c_7_102 m_50 (by decide) rfl rfl (Nat.le_of_ble_eq_true rfl) (Nat.le_of_ble_eq_true rfl) hc,
  fun v0 v1 v2 v4 x9 a1 st σ => q_go e96_29 rfl rfl,
  fun v0 v1 v2 v4 x9 st σ => q_go e96_29 rfl rfl,
  fun v0 v1 v2 v3 a1 st σ => q_go e96_31 rfl rfl,
  fun v0 v1 v2 v3 st σ => q_go e96_31 rfl rfl,
  fun v0 v1 v2 v3 v4 a1 st σ => q_ifnullR e96_33 rfl,
  fun v0 v1 v2 v3 v4 st σ => q_ifnullN e96_33 rfl,
  fun v0 v2 v3 v4 x1 st σ => q_go e96_36 rfl rfl,
  fun v0 v1 v2 v4 x1 st σ => q_go e96_37 rfl rfl,
  fun v0 v1 v2 v3 v4 x1 x2 st σ => q_go e96_38 rfl rfl,
  fun v0 v1 v2 v3 v4 st σ => q_iconst e96_39 (by decide),
  fun v0 v1 v2 v3 v4 x1 x2 st σ => q_go e96_40 rfl rfl,
  fun v0 v1 v2 v3 v4 x1 st σ => (q_if e96_41 rfl).trans q_eq,
  fun v0 v1 v3 v4 x1 st σ => q_go e96_44 rfl rfl,
  fun v0 v1 v2 v3 v4 st σ => q_iconst e96_45 (by decide),
  fun v0 v1 v2 v3 a1 st σ => q_go e96_46 rfl rfl,
  fun v0 v1 v2 v3 st σ => q_go e96_46 rfl rfl,
  fun v0 v1 v2 v3 v4 st σ => q_bipush e96_48 (by decide),
  fun v1 v2 v3 v4 a1 st σ => q_go e96_50 rfl rfl,
  fun v0 v1 v2 v3 v4 a1 st σ hc => q_getA e96_51 o_96 f_7_12 (by decide) hc,
  fun v0 v1 v2 v3 v4 a1 st σ hc => q_getA e96_54 o_96 f_7_86 (by decide) hc,
  fun v0 v1 v2 v3 v4 a1 st σ hc => q_getI e96_57 o_96 f_7_136 (by decide) hc,
  fun v0 v1 v2 v3 v4 x20 x21 x1 x2 a0 σ hc => q_invV (as := [.int x1, .int x2]) (rest := .int x20 :: .int x21 :: []) e96_60 o_96 bn_7_156 c_7_156 m_14 (by decide) rfl rfl (Nat.le_of_ble_eq_true rfl) (Nat.le_of_ble_eq_true rfl) hc,
  fun v0 v1 v2 v3 v4 x1 x2 x20 σ => q_bt e96_63 o_96 b_7_268 (by decide) (Nat.le_of_ble_eq_true rfl),
  fun v0 v1 v2 v3 a1 st σ => q_go e96_66 rfl rfl,
  fun v0 v1 v2 v3 st σ => q_go e96_66 rfl rfl,
  fun v0 v1 v2 v3 v4 a1 st σ hc => q_getI e96_68 o_96 f_7_110 (by decide) hc,
  fun v0 v1 v2 v3 v4 st σ => q_iconst e96_71 (by decide),
  fun v0 v1 v2 v3 v4 x1 x2 st σ => q_go e96_72 rfl rfl,
  fun v0 v1 v2 v3 v4 x1 x2 st σ => q_go e96_73 rfl rfl,
  fun v0 v1 v2 v3 v4 x1 x2 st σ => q_go e96_74 rfl rfl,
  fun v0 v2 v3 v4 x9 x1 st σ => q_go e96_75 rfl rfl,
  fun v0 v1 v4 x1 x9 st σ => q_iinc e96_76 rfl rfl (by decide),
  fun v0 v1 v2 v3 v4 st σ => q_goto e96_79 rfl,
  fun v0 v1 v3 v4 x1 st σ => q_go e96_82 rfl rfl,
  fun v0 v1 v2 v3 v4 x1 σ => q_iret e96_83 r_96⟩
theorem E96 {ro : ma_RO} {d : Nat} (a0 : Nat) (x1 : Int32) (sh : List ma_Sh) (σ : ma_H) : ma_ev ro d 96 [.ref a0, .int x1] sh σ = ma_rn ro d 96 (0, [some (.ref a0), some (.int x1), none, none, none], [], sh, σ) := q_ent x_96 rfl
theorem e97_0 : decode (ma_cd 97) 0 = .ok (.iconst 0, 1) := (congrArg (fun b => decode b 0) cd_97).trans dX7_planFrom_0
theorem e97_1 : decode (ma_cd 97) 1 = .ok (.istore 4, 2) := (congrArg (fun b => decode b 1) cd_97).trans dX7_planFrom_1
theorem e97_3 : decode (ma_cd 97) 3 = .ok (.iload 4, 2) := (congrArg (fun b => decode b 3) cd_97).trans dX7_planFrom_3
theorem e97_5 : decode (ma_cd 97) 5 = .ok (.aload_n 0, 1) := (congrArg (fun b => decode b 5) cd_97).trans dX7_planFrom_5
theorem e97_6 : decode (ma_cd 97) 6 = .ok (.getfield 60, 3) := (congrArg (fun b => decode b 6) cd_97).trans dX7_planFrom_6
theorem e97_9 : decode (ma_cd 97) 9 = .ok (.arraylength, 1) := (congrArg (fun b => decode b 9) cd_97).trans dX7_planFrom_9
theorem e97_10 : decode (ma_cd 97) 10 = .ok (.if_icmp .ge 25, 3) := (congrArg (fun b => decode b 10) cd_97).trans dX7_planFrom_10
theorem e97_13 : decode (ma_cd 97) 13 = .ok (.aload_n 0, 1) := (congrArg (fun b => decode b 13) cd_97).trans dX7_planFrom_13
theorem e97_14 : decode (ma_cd 97) 14 = .ok (.getfield 60, 3) := (congrArg (fun b => decode b 14) cd_97).trans dX7_planFrom_14
theorem e97_17 : decode (ma_cd 97) 17 = .ok (.iload 4, 2) := (congrArg (fun b => decode b 17) cd_97).trans dX7_planFrom_17
theorem e97_19 : decode (ma_cd 97) 19 = .ok (.aload_n 0, 1) := (congrArg (fun b => decode b 19) cd_97).trans dX7_planFrom_19
theorem e97_20 : decode (ma_cd 97) 20 = .ok (.aload_n 1, 1) := (congrArg (fun b => decode b 20) cd_97).trans dX7_planFrom_20
theorem e97_21 : decode (ma_cd 97) 21 = .ok (.iload_n 2, 1) := (congrArg (fun b => decode b 21) cd_97).trans dX7_planFrom_21
theorem e97_22 : decode (ma_cd 97) 22 = .ok (.iload_n 3, 1) := (congrArg (fun b => decode b 22) cd_97).trans dX7_planFrom_22
theorem e97_23 : decode (ma_cd 97) 23 = .ok (.iload 4, 2) := (congrArg (fun b => decode b 23) cd_97).trans dX7_planFrom_23
theorem e97_25 : decode (ma_cd 97) 25 = .ok (.invokevirtual 280, 3) := (congrArg (fun b => decode b 25) cd_97).trans dX7_planFrom_25
theorem e97_28 : decode (ma_cd 97) 28 = .ok (.iastore, 1) := (congrArg (fun b => decode b 28) cd_97).trans dX7_planFrom_28
theorem e97_29 : decode (ma_cd 97) 29 = .ok (.iinc 4 1, 3) := (congrArg (fun b => decode b 29) cd_97).trans dX7_planFrom_29
theorem e97_32 : decode (ma_cd 97) 32 = .ok (.goto (-29), 3) := (congrArg (fun b => decode b 32) cd_97).trans dX7_planFrom_32
theorem e97_35 : decode (ma_cd 97) 35 = .ok (.aload_n 0, 1) := (congrArg (fun b => decode b 35) cd_97).trans dX7_planFrom_35
theorem e97_36 : decode (ma_cd 97) 36 = .ok (.aload_n 1, 1) := (congrArg (fun b => decode b 36) cd_97).trans dX7_planFrom_36
theorem e97_37 : decode (ma_cd 97) 37 = .ok (.iload_n 2, 1) := (congrArg (fun b => decode b 37) cd_97).trans dX7_planFrom_37
theorem e97_38 : decode (ma_cd 97) 38 = .ok (.iload_n 3, 1) := (congrArg (fun b => decode b 38) cd_97).trans dX7_planFrom_38
theorem e97_39 : decode (ma_cd 97) 39 = .ok (.bipush 9, 2) := (congrArg (fun b => decode b 39) cd_97).trans dX7_planFrom_39
theorem e97_41 : decode (ma_cd 97) 41 = .ok (.invokevirtual 280, 3) := (congrArg (fun b => decode b 41) cd_97).trans dX7_planFrom_41
theorem e97_44 : decode (ma_cd 97) 44 = .ok (.sipush 256, 3) := (congrArg (fun b => decode b 44) cd_97).trans dX7_planFrom_44
theorem e97_47 : decode (ma_cd 97) 47 = .ok (.iadd, 1) := (congrArg (fun b => decode b 47) cd_97).trans dX7_planFrom_47
theorem e97_48 : decode (ma_cd 97) 48 = .ok (.iconst 1, 1) := (congrArg (fun b => decode b 48) cd_97).trans dX7_planFrom_48
theorem e97_49 : decode (ma_cd 97) 49 = .ok (.iload_n 2, 1) := (congrArg (fun b => decode b 49) cd_97).trans dX7_planFrom_49
theorem e97_50 : decode (ma_cd 97) 50 = .ok (.ishl, 1) := (congrArg (fun b => decode b 50) cd_97).trans dX7_planFrom_50
theorem e97_51 : decode (ma_cd 97) 51 = .ok (.iadd, 1) := (congrArg (fun b => decode b 51) cd_97).trans dX7_planFrom_51
theorem e97_52 : decode (ma_cd 97) 52 = .ok (.istore 4, 2) := (congrArg (fun b => decode b 52) cd_97).trans dX7_planFrom_52
theorem e97_54 : decode (ma_cd 97) 54 = .ok (.iconst 0, 1) := (congrArg (fun b => decode b 54) cd_97).trans dX7_planFrom_54
theorem e97_55 : decode (ma_cd 97) 55 = .ok (.istore 5, 2) := (congrArg (fun b => decode b 55) cd_97).trans dX7_planFrom_55
theorem e97_57 : decode (ma_cd 97) 57 = .ok (.iload 5, 2) := (congrArg (fun b => decode b 57) cd_97).trans dX7_planFrom_57
theorem e97_59 : decode (ma_cd 97) 59 = .ok (.aload_n 0, 1) := (congrArg (fun b => decode b 59) cd_97).trans dX7_planFrom_59
theorem e97_60 : decode (ma_cd 97) 60 = .ok (.getfield 60, 3) := (congrArg (fun b => decode b 60) cd_97).trans dX7_planFrom_60
theorem e97_63 : decode (ma_cd 97) 63 = .ok (.arraylength, 1) := (congrArg (fun b => decode b 63) cd_97).trans dX7_planFrom_63
theorem e97_64 : decode (ma_cd 97) 64 = .ok (.if_icmp .ge 38, 3) := (congrArg (fun b => decode b 64) cd_97).trans dX7_planFrom_64
theorem e97_67 : decode (ma_cd 97) 67 = .ok (.iload 5, 2) := (congrArg (fun b => decode b 67) cd_97).trans dX7_planFrom_67
theorem e97_69 : decode (ma_cd 97) 69 = .ok (.aload_n 0, 1) := (congrArg (fun b => decode b 69) cd_97).trans dX7_planFrom_69
theorem e97_70 : decode (ma_cd 97) 70 = .ok (.getfield 64, 3) := (congrArg (fun b => decode b 70) cd_97).trans dX7_planFrom_70
theorem e97_73 : decode (ma_cd 97) 73 = .ok (.arraylength, 1) := (congrArg (fun b => decode b 73) cd_97).trans dX7_planFrom_73
theorem e97_74 : decode (ma_cd 97) 74 = .ok (.if_icmp .ge 28, 3) := (congrArg (fun b => decode b 74) cd_97).trans dX7_planFrom_74
theorem e97_77 : decode (ma_cd 97) 77 = .ok (.aload_n 0, 1) := (congrArg (fun b => decode b 77) cd_97).trans dX7_planFrom_77
theorem e97_78 : decode (ma_cd 97) 78 = .ok (.getfield 64, 3) := (congrArg (fun b => decode b 78) cd_97).trans dX7_planFrom_78
theorem e97_81 : decode (ma_cd 97) 81 = .ok (.iload 5, 2) := (congrArg (fun b => decode b 81) cd_97).trans dX7_planFrom_81
theorem e97_83 : decode (ma_cd 97) 83 = .ok (.aload_n 0, 1) := (congrArg (fun b => decode b 83) cd_97).trans dX7_planFrom_83
theorem e97_84 : decode (ma_cd 97) 84 = .ok (.getfield 60, 3) := (congrArg (fun b => decode b 84) cd_97).trans dX7_planFrom_84
theorem e97_87 : decode (ma_cd 97) 87 = .ok (.iload 5, 2) := (congrArg (fun b => decode b 87) cd_97).trans dX7_planFrom_87
theorem e97_89 : decode (ma_cd 97) 89 = .ok (.iaload, 1) := (congrArg (fun b => decode b 89) cd_97).trans dX7_planFrom_89
theorem e97_90 : decode (ma_cd 97) 90 = .ok (.iload 4, 2) := (congrArg (fun b => decode b 90) cd_97).trans dX7_planFrom_90
theorem e97_92 : decode (ma_cd 97) 92 = .ok (.invokestatic 171, 3) := (congrArg (fun b => decode b 92) cd_97).trans dX7_planFrom_92
theorem e97_95 : decode (ma_cd 97) 95 = .ok (.iastore, 1) := (congrArg (fun b => decode b 95) cd_97).trans dX7_planFrom_95
theorem e97_96 : decode (ma_cd 97) 96 = .ok (.iinc 5 1, 3) := (congrArg (fun b => decode b 96) cd_97).trans dX7_planFrom_96
theorem e97_99 : decode (ma_cd 97) 99 = .ok (.goto (-42), 3) := (congrArg (fun b => decode b 99) cd_97).trans dX7_planFrom_99
theorem e97_102 : decode (ma_cd 97) 102 = .ok (.return_, 1) := (congrArg (fun b => decode b 102) cd_97).trans dX7_planFrom_102
theorem Sh97_3 {ro : ma_RO} {d : Nat} : (∀ (v0 : Option Value) (v1 : Option Value) (v2 : Option Value) (v3 : Option Value) (v5 : Option Value) (x1 : Int32) (st : List Value) (σ : ma_H), ma_rn ro d 97 (3, [v0, v1, v2, v3, some (.int x1), v5], st, SH, σ) = ma_rn ro d 97 (5, [v0, v1, v2, v3, some (.int x1), v5], .int x1 :: st, SH, σ)) := fun v0 v1 v2 v3 v5 x1 st σ => q_go e97_3 rfl rfl
theorem Sh97_57 {ro : ma_RO} {d : Nat} : (∀ (v0 : Option Value) (v1 : Option Value) (v2 : Option Value) (v3 : Option Value) (v4 : Option Value) (x1 : Int32) (st : List Value) (σ : ma_H), ma_rn ro d 97 (57, [v0, v1, v2, v3, v4, some (.int x1)], st, SH, σ) = ma_rn ro d 97 (59, [v0, v1, v2, v3, v4, some (.int x1)], .int x1 :: st, SH, σ)) := fun v0 v1 v2 v3 v4 x1 st σ => q_go e97_57 rfl rfl
theorem S97 {ro : ma_RO} {d : Nat} : (∀ (v0 : Option Value) (v1 : Option Value) (v2 : Option Value) (v3 : Option Value) (v4 : Option Value) (v5 : Option Value) (st : List Value) (σ : ma_H), ma_rn ro d 97 (0, [v0, v1, v2, v3, v4, v5], st, SH, σ) = ma_rn ro d 97 (1, [v0, v1, v2, v3, v4, v5], .int (nI 0) :: st, SH, σ)) ∧
  (∀ (v0 : Option Value) (v1 : Option Value) (v2 : Option Value) (v4 : Option Value) (v5 : Option Value) (x9 : Int32) (x1 : Int32) (st : List Value) (σ : ma_H), ma_rn ro d 97 (1, [v0, v1, v2, some (.int x9), v4, v5], .int x1 :: st, SH, σ) = ma_rn ro d 97 (3, [v0, v1, v2, some (.int x9), some (.int x1), v5], st, SH, σ)) ∧
  (∀ (v1 : Option Value) (v2 : Option Value) (v3 : Option Value) (v4 : Option Value) (v5 : Option Value) (a1 : Nat) (st : List Value) (σ : ma_H), ma_rn ro d 97 (5, [some (.ref a1), v1, v2, v3, v4, v5], st, SH, σ) = ma_rn ro d 97 (6, [some (.ref a1), v1, v2, v3, v4, v5], .ref a1 :: st, SH, σ)) ∧
  (∀ (v0 : Option Value) (v1 : Option Value) (v2 : Option Value) (v3 : Option Value) (v4 : Option Value) (v5 : Option Value) (a1 : Nat) (st : List Value) (σ : ma_H) (hc : hk_cls a1 = 7), ma_rn ro d 97 (6, [v0, v1, v2, v3, v4, v5], .ref a1 :: st, SH, σ) = ma_rn ro d 97 (9, [v0, v1, v2, v3, v4, v5], .ref (88) :: st, SH, σ)) ∧
  (∀ (v0 : Option Value) (v1 : Option Value) (v2 : Option Value) (v3 : Option Value) (v4 : Option Value) (v5 : Option Value) (a1 : Nat) (st : List Value) (σ : ma_H) (hn : 0 < hk_alen a1), ma_rn ro d 97 (9, [v0, v1, v2, v3, v4, v5], .ref a1 :: st, SH, σ) = ma_rn ro d 97 (10, [v0, v1, v2, v3, v4, v5], .int (nI (hk_alen a1)) :: st, SH, σ)) ∧
  (∀ (v0 : Option Value) (v1 : Option Value) (v2 : Option Value) (v3 : Option Value) (v4 : Option Value) (v5 : Option Value) (x1 : Int32) (x2 : Int32) (st : List Value) (σ : ma_H), ma_rn ro d 97 (10, [v0, v1, v2, v3, v4, v5], .int x1 :: .int x2 :: st, SH, σ) = if x2 < x1 then ma_rn ro d 97 (13, [v0, v1, v2, v3, v4, v5], st, SH, σ) else ma_rn ro d 97 (35, [v0, v1, v2, v3, v4, v5], st, SH, σ)) ∧
  (∀ (v1 : Option Value) (v2 : Option Value) (v3 : Option Value) (v4 : Option Value) (v5 : Option Value) (a1 : Nat) (st : List Value) (σ : ma_H), ma_rn ro d 97 (13, [some (.ref a1), v1, v2, v3, v4, v5], st, SH, σ) = ma_rn ro d 97 (14, [some (.ref a1), v1, v2, v3, v4, v5], .ref a1 :: st, SH, σ)) ∧
  (∀ (v0 : Option Value) (v1 : Option Value) (v2 : Option Value) (v3 : Option Value) (v4 : Option Value) (v5 : Option Value) (a1 : Nat) (st : List Value) (σ : ma_H) (hc : hk_cls a1 = 7), ma_rn ro d 97 (14, [v0, v1, v2, v3, v4, v5], .ref a1 :: st, SH, σ) = ma_rn ro d 97 (17, [v0, v1, v2, v3, v4, v5], .ref (88) :: st, SH, σ)) ∧
  (∀ (v0 : Option Value) (v1 : Option Value) (v2 : Option Value) (v3 : Option Value) (v5 : Option Value) (x1 : Int32) (st : List Value) (σ : ma_H), ma_rn ro d 97 (17, [v0, v1, v2, v3, some (.int x1), v5], st, SH, σ) = ma_rn ro d 97 (19, [v0, v1, v2, v3, some (.int x1), v5], .int x1 :: st, SH, σ)) ∧
  (∀ (v1 : Option Value) (v2 : Option Value) (v3 : Option Value) (v4 : Option Value) (v5 : Option Value) (a1 : Nat) (st : List Value) (σ : ma_H), ma_rn ro d 97 (19, [some (.ref a1), v1, v2, v3, v4, v5], st, SH, σ) = ma_rn ro d 97 (20, [some (.ref a1), v1, v2, v3, v4, v5], .ref a1 :: st, SH, σ)) ∧
  (∀ (v0 : Option Value) (v2 : Option Value) (v3 : Option Value) (v4 : Option Value) (v5 : Option Value) (a1 : Nat) (st : List Value) (σ : ma_H), ma_rn ro d 97 (20, [v0, some (.ref a1), v2, v3, v4, v5], st, SH, σ) = ma_rn ro d 97 (21, [v0, some (.ref a1), v2, v3, v4, v5], .ref a1 :: st, SH, σ)) ∧
  (∀ (v0 : Option Value) (v1 : Option Value) (v3 : Option Value) (v4 : Option Value) (v5 : Option Value) (x1 : Int32) (st : List Value) (σ : ma_H), ma_rn ro d 97 (21, [v0, v1, some (.int x1), v3, v4, v5], st, SH, σ) = ma_rn ro d 97 (22, [v0, v1, some (.int x1), v3, v4, v5], .int x1 :: st, SH, σ)) ∧
  (∀ (v0 : Option Value) (v1 : Option Value) (v2 : Option Value) (v4 : Option Value) (v5 : Option Value) (x1 : Int32) (st : List Value) (σ : ma_H), ma_rn ro d 97 (22, [v0, v1, v2, some (.int x1), v4, v5], st, SH, σ) = ma_rn ro d 97 (23, [v0, v1, v2, some (.int x1), v4, v5], .int x1 :: st, SH, σ)) ∧
  (∀ (v0 : Option Value) (v1 : Option Value) (v2 : Option Value) (v3 : Option Value) (v5 : Option Value) (x1 : Int32) (st : List Value) (σ : ma_H), ma_rn ro d 97 (23, [v0, v1, v2, v3, some (.int x1), v5], st, SH, σ) = ma_rn ro d 97 (25, [v0, v1, v2, v3, some (.int x1), v5], .int x1 :: st, SH, σ)) ∧
  (∀ (v0 : Option Value) (v1 : Option Value) (v2 : Option Value) (v3 : Option Value) (v4 : Option Value) (v5 : Option Value) (x20 : Int32) (a21 : Nat) (a1 : Nat) (x2 : Int32) (x3 : Int32) (x4 : Int32) (a0 : Nat) (σ : ma_H) (hc : hk_cls a0 = 7), ma_rn ro (d + 1) 97 (25, [v0, v1, v2, v3, v4, v5], .int x4 :: .int x3 :: .int x2 :: .ref a1 :: .ref a0 :: .int x20 :: .ref a21 :: [], SH, σ) = (ma_ev ro d 98 [.ref a0, .ref a1, .int x2, .int x3, .int x4] SH σ).bind (fun q => ma_rn ro (d + 1) 97 (28, [v0, v1, v2, v3, v4, v5], (q.1.toList ++ (.int x20 :: .ref a21 :: [])), q.2.1, q.2.2))) ∧
  (∀ (v0 : Option Value) (v1 : Option Value) (v2 : Option Value) (v3 : Option Value) (v4 : Option Value) (v5 : Option Value) (x1 : Int32) (k : Nat) (a3 : Nat) (st : List Value) (σ : ma_H) (hk : k < hk_len a3), ma_rn ro d 97 (28, [v0, v1, v2, v3, v4, v5], .int x1 :: .int (nI k) :: .ref a3 :: st, SH, σ) = ma_rn ro d 97 (29, [v0, v1, v2, v3, v4, v5], st, SH, (ma_up σ a3 k x1))) ∧
  (∀ (v0 : Option Value) (v1 : Option Value) (v2 : Option Value) (v5 : Option Value) (x1 : Int32) (x9 : Int32) (st : List Value) (σ : ma_H), ma_rn ro d 97 (29, [v0, v1, v2, some (.int x9), some (.int x1), v5], st, SH, σ) = ma_rn ro d 97 (32, [v0, v1, v2, some (.int x9), some (.int (x1 + nI 1)), v5], st, SH, σ)) ∧
  (∀ (v0 : Option Value) (v1 : Option Value) (v2 : Option Value) (v3 : Option Value) (v4 : Option Value) (v5 : Option Value) (st : List Value) (σ : ma_H), ma_rn ro d 97 (32, [v0, v1, v2, v3, v4, v5], st, SH, σ) = ma_rn ro d 97 (3, [v0, v1, v2, v3, v4, v5], st, SH, σ)) ∧
  (∀ (v1 : Option Value) (v2 : Option Value) (v3 : Option Value) (v4 : Option Value) (v5 : Option Value) (a1 : Nat) (st : List Value) (σ : ma_H), ma_rn ro d 97 (35, [some (.ref a1), v1, v2, v3, v4, v5], st, SH, σ) = ma_rn ro d 97 (36, [some (.ref a1), v1, v2, v3, v4, v5], .ref a1 :: st, SH, σ)) ∧
  (∀ (v0 : Option Value) (v2 : Option Value) (v3 : Option Value) (v4 : Option Value) (v5 : Option Value) (a1 : Nat) (st : List Value) (σ : ma_H), ma_rn ro d 97 (36, [v0, some (.ref a1), v2, v3, v4, v5], st, SH, σ) = ma_rn ro d 97 (37, [v0, some (.ref a1), v2, v3, v4, v5], .ref a1 :: st, SH, σ)) ∧
  (∀ (v0 : Option Value) (v1 : Option Value) (v3 : Option Value) (v4 : Option Value) (v5 : Option Value) (x1 : Int32) (st : List Value) (σ : ma_H), ma_rn ro d 97 (37, [v0, v1, some (.int x1), v3, v4, v5], st, SH, σ) = ma_rn ro d 97 (38, [v0, v1, some (.int x1), v3, v4, v5], .int x1 :: st, SH, σ)) ∧
  (∀ (v0 : Option Value) (v1 : Option Value) (v2 : Option Value) (v4 : Option Value) (v5 : Option Value) (x1 : Int32) (st : List Value) (σ : ma_H), ma_rn ro d 97 (38, [v0, v1, v2, some (.int x1), v4, v5], st, SH, σ) = ma_rn ro d 97 (39, [v0, v1, v2, some (.int x1), v4, v5], .int x1 :: st, SH, σ)) ∧
  (∀ (v0 : Option Value) (v1 : Option Value) (v2 : Option Value) (v3 : Option Value) (v4 : Option Value) (v5 : Option Value) (st : List Value) (σ : ma_H), ma_rn ro d 97 (39, [v0, v1, v2, v3, v4, v5], st, SH, σ) = ma_rn ro d 97 (41, [v0, v1, v2, v3, v4, v5], .int (nI 9) :: st, SH, σ)) ∧
  (∀ (v0 : Option Value) (v1 : Option Value) (v2 : Option Value) (v3 : Option Value) (v4 : Option Value) (v5 : Option Value) (a1 : Nat) (x2 : Int32) (x3 : Int32) (x4 : Int32) (a0 : Nat) (σ : ma_H) (hc : hk_cls a0 = 7), ma_rn ro (d + 1) 97 (41, [v0, v1, v2, v3, v4, v5], .int x4 :: .int x3 :: .int x2 :: .ref a1 :: .ref a0 :: [], SH, σ) = (ma_ev ro d 98 [.ref a0, .ref a1, .int x2, .int x3, .int x4] SH σ).bind (fun q => ma_rn ro (d + 1) 97 (44, [v0, v1, v2, v3, v4, v5], (q.1.toList ++ []), q.2.1, q.2.2))) ∧
  (∀ (v0 : Option Value) (v1 : Option Value) (v2 : Option Value) (v3 : Option Value) (v4 : Option Value) (v5 : Option Value) (st : List Value) (σ : ma_H), ma_rn ro d 97 (44, [v0, v1, v2, v3, v4, v5], st, SH, σ) = ma_rn ro d 97 (47, [v0, v1, v2, v3, v4, v5], .int (nI 256) :: st, SH, σ)) ∧
  (∀ (v0 : Option Value) (v1 : Option Value) (v2 : Option Value) (v3 : Option Value) (v4 : Option Value) (v5 : Option Value) (x1 : Int32) (x2 : Int32) (st : List Value) (σ : ma_H), ma_rn ro d 97 (47, [v0, v1, v2, v3, v4, v5], .int x1 :: .int x2 :: st, SH, σ) = ma_rn ro d 97 (48, [v0, v1, v2, v3, v4, v5], .int (x2 + x1) :: st, SH, σ)) ∧
  (∀ (v0 : Option Value) (v1 : Option Value) (v2 : Option Value) (v3 : Option Value) (v4 : Option Value) (v5 : Option Value) (st : List Value) (σ : ma_H), ma_rn ro d 97 (48, [v0, v1, v2, v3, v4, v5], st, SH, σ) = ma_rn ro d 97 (49, [v0, v1, v2, v3, v4, v5], .int (nI 1) :: st, SH, σ)) ∧
  (∀ (v0 : Option Value) (v1 : Option Value) (v3 : Option Value) (v4 : Option Value) (v5 : Option Value) (x1 : Int32) (st : List Value) (σ : ma_H), ma_rn ro d 97 (49, [v0, v1, some (.int x1), v3, v4, v5], st, SH, σ) = ma_rn ro d 97 (50, [v0, v1, some (.int x1), v3, v4, v5], .int x1 :: st, SH, σ)) ∧
  (∀ (v0 : Option Value) (v1 : Option Value) (v2 : Option Value) (v3 : Option Value) (v4 : Option Value) (v5 : Option Value) (x1 : Int32) (x2 : Int32) (st : List Value) (σ : ma_H), ma_rn ro d 97 (50, [v0, v1, v2, v3, v4, v5], .int x1 :: .int x2 :: st, SH, σ) = ma_rn ro d 97 (51, [v0, v1, v2, v3, v4, v5], .int (x2 <<< (x1 &&& 31)) :: st, SH, σ)) ∧
  (∀ (v0 : Option Value) (v1 : Option Value) (v2 : Option Value) (v3 : Option Value) (v4 : Option Value) (v5 : Option Value) (x1 : Int32) (x2 : Int32) (st : List Value) (σ : ma_H), ma_rn ro d 97 (51, [v0, v1, v2, v3, v4, v5], .int x1 :: .int x2 :: st, SH, σ) = ma_rn ro d 97 (52, [v0, v1, v2, v3, v4, v5], .int (x2 + x1) :: st, SH, σ)) ∧
  (∀ (v0 : Option Value) (v1 : Option Value) (v2 : Option Value) (v4 : Option Value) (v5 : Option Value) (x9 : Int32) (x1 : Int32) (st : List Value) (σ : ma_H), ma_rn ro d 97 (52, [v0, v1, v2, some (.int x9), v4, v5], .int x1 :: st, SH, σ) = ma_rn ro d 97 (54, [v0, v1, v2, some (.int x9), some (.int x1), v5], st, SH, σ)) ∧
  (∀ (v0 : Option Value) (v1 : Option Value) (v2 : Option Value) (v3 : Option Value) (v4 : Option Value) (v5 : Option Value) (st : List Value) (σ : ma_H), ma_rn ro d 97 (54, [v0, v1, v2, v3, v4, v5], st, SH, σ) = ma_rn ro d 97 (55, [v0, v1, v2, v3, v4, v5], .int (nI 0) :: st, SH, σ)) ∧
  (∀ (v0 : Option Value) (v1 : Option Value) (v2 : Option Value) (v3 : Option Value) (v5 : Option Value) (x9 : Int32) (x1 : Int32) (st : List Value) (σ : ma_H), ma_rn ro d 97 (55, [v0, v1, v2, v3, some (.int x9), v5], .int x1 :: st, SH, σ) = ma_rn ro d 97 (57, [v0, v1, v2, v3, some (.int x9), some (.int x1)], st, SH, σ)) ∧
  (∀ (v1 : Option Value) (v2 : Option Value) (v3 : Option Value) (v4 : Option Value) (v5 : Option Value) (a1 : Nat) (st : List Value) (σ : ma_H), ma_rn ro d 97 (59, [some (.ref a1), v1, v2, v3, v4, v5], st, SH, σ) = ma_rn ro d 97 (60, [some (.ref a1), v1, v2, v3, v4, v5], .ref a1 :: st, SH, σ)) ∧
  (∀ (v0 : Option Value) (v1 : Option Value) (v2 : Option Value) (v3 : Option Value) (v4 : Option Value) (v5 : Option Value) (a1 : Nat) (st : List Value) (σ : ma_H) (hc : hk_cls a1 = 7), ma_rn ro d 97 (60, [v0, v1, v2, v3, v4, v5], .ref a1 :: st, SH, σ) = ma_rn ro d 97 (63, [v0, v1, v2, v3, v4, v5], .ref (88) :: st, SH, σ)) ∧
  (∀ (v0 : Option Value) (v1 : Option Value) (v2 : Option Value) (v3 : Option Value) (v4 : Option Value) (v5 : Option Value) (a1 : Nat) (st : List Value) (σ : ma_H) (hn : 0 < hk_alen a1), ma_rn ro d 97 (63, [v0, v1, v2, v3, v4, v5], .ref a1 :: st, SH, σ) = ma_rn ro d 97 (64, [v0, v1, v2, v3, v4, v5], .int (nI (hk_alen a1)) :: st, SH, σ)) ∧
  (∀ (v0 : Option Value) (v1 : Option Value) (v2 : Option Value) (v3 : Option Value) (v4 : Option Value) (v5 : Option Value) (x1 : Int32) (x2 : Int32) (st : List Value) (σ : ma_H), ma_rn ro d 97 (64, [v0, v1, v2, v3, v4, v5], .int x1 :: .int x2 :: st, SH, σ) = if x2 < x1 then ma_rn ro d 97 (67, [v0, v1, v2, v3, v4, v5], st, SH, σ) else ma_rn ro d 97 (102, [v0, v1, v2, v3, v4, v5], st, SH, σ)) ∧
  (∀ (v0 : Option Value) (v1 : Option Value) (v2 : Option Value) (v3 : Option Value) (v4 : Option Value) (x1 : Int32) (st : List Value) (σ : ma_H), ma_rn ro d 97 (67, [v0, v1, v2, v3, v4, some (.int x1)], st, SH, σ) = ma_rn ro d 97 (69, [v0, v1, v2, v3, v4, some (.int x1)], .int x1 :: st, SH, σ)) ∧
  (∀ (v1 : Option Value) (v2 : Option Value) (v3 : Option Value) (v4 : Option Value) (v5 : Option Value) (a1 : Nat) (st : List Value) (σ : ma_H), ma_rn ro d 97 (69, [some (.ref a1), v1, v2, v3, v4, v5], st, SH, σ) = ma_rn ro d 97 (70, [some (.ref a1), v1, v2, v3, v4, v5], .ref a1 :: st, SH, σ)) ∧
  (∀ (v0 : Option Value) (v1 : Option Value) (v2 : Option Value) (v3 : Option Value) (v4 : Option Value) (v5 : Option Value) (a1 : Nat) (st : List Value) (σ : ma_H) (hc : hk_cls a1 = 7), ma_rn ro d 97 (70, [v0, v1, v2, v3, v4, v5], .ref a1 :: st, SH, σ) = ma_rn ro d 97 (73, [v0, v1, v2, v3, v4, v5], .ref (89) :: st, SH, σ)) ∧
  (∀ (v0 : Option Value) (v1 : Option Value) (v2 : Option Value) (v3 : Option Value) (v4 : Option Value) (v5 : Option Value) (a1 : Nat) (st : List Value) (σ : ma_H) (hn : 0 < hk_alen a1), ma_rn ro d 97 (73, [v0, v1, v2, v3, v4, v5], .ref a1 :: st, SH, σ) = ma_rn ro d 97 (74, [v0, v1, v2, v3, v4, v5], .int (nI (hk_alen a1)) :: st, SH, σ)) ∧
  (∀ (v0 : Option Value) (v1 : Option Value) (v2 : Option Value) (v3 : Option Value) (v4 : Option Value) (v5 : Option Value) (x1 : Int32) (x2 : Int32) (st : List Value) (σ : ma_H), ma_rn ro d 97 (74, [v0, v1, v2, v3, v4, v5], .int x1 :: .int x2 :: st, SH, σ) = if x2 < x1 then ma_rn ro d 97 (77, [v0, v1, v2, v3, v4, v5], st, SH, σ) else ma_rn ro d 97 (102, [v0, v1, v2, v3, v4, v5], st, SH, σ)) ∧
  (∀ (v1 : Option Value) (v2 : Option Value) (v3 : Option Value) (v4 : Option Value) (v5 : Option Value) (a1 : Nat) (st : List Value) (σ : ma_H), ma_rn ro d 97 (77, [some (.ref a1), v1, v2, v3, v4, v5], st, SH, σ) = ma_rn ro d 97 (78, [some (.ref a1), v1, v2, v3, v4, v5], .ref a1 :: st, SH, σ)) ∧
  (∀ (v0 : Option Value) (v1 : Option Value) (v2 : Option Value) (v3 : Option Value) (v4 : Option Value) (v5 : Option Value) (a1 : Nat) (st : List Value) (σ : ma_H) (hc : hk_cls a1 = 7), ma_rn ro d 97 (78, [v0, v1, v2, v3, v4, v5], .ref a1 :: st, SH, σ) = ma_rn ro d 97 (81, [v0, v1, v2, v3, v4, v5], .ref (89) :: st, SH, σ)) ∧
  (∀ (v0 : Option Value) (v1 : Option Value) (v2 : Option Value) (v3 : Option Value) (v4 : Option Value) (x1 : Int32) (st : List Value) (σ : ma_H), ma_rn ro d 97 (81, [v0, v1, v2, v3, v4, some (.int x1)], st, SH, σ) = ma_rn ro d 97 (83, [v0, v1, v2, v3, v4, some (.int x1)], .int x1 :: st, SH, σ)) ∧
  (∀ (v1 : Option Value) (v2 : Option Value) (v3 : Option Value) (v4 : Option Value) (v5 : Option Value) (a1 : Nat) (st : List Value) (σ : ma_H), ma_rn ro d 97 (83, [some (.ref a1), v1, v2, v3, v4, v5], st, SH, σ) = ma_rn ro d 97 (84, [some (.ref a1), v1, v2, v3, v4, v5], .ref a1 :: st, SH, σ)) ∧
  (∀ (v0 : Option Value) (v1 : Option Value) (v2 : Option Value) (v3 : Option Value) (v4 : Option Value) (v5 : Option Value) (a1 : Nat) (st : List Value) (σ : ma_H) (hc : hk_cls a1 = 7), ma_rn ro d 97 (84, [v0, v1, v2, v3, v4, v5], .ref a1 :: st, SH, σ) = ma_rn ro d 97 (87, [v0, v1, v2, v3, v4, v5], .ref (88) :: st, SH, σ)) ∧
  (∀ (v0 : Option Value) (v1 : Option Value) (v2 : Option Value) (v3 : Option Value) (v4 : Option Value) (x1 : Int32) (st : List Value) (σ : ma_H), ma_rn ro d 97 (87, [v0, v1, v2, v3, v4, some (.int x1)], st, SH, σ) = ma_rn ro d 97 (89, [v0, v1, v2, v3, v4, some (.int x1)], .int x1 :: st, SH, σ)) ∧
  (∀ (v0 : Option Value) (v1 : Option Value) (v2 : Option Value) (v3 : Option Value) (v4 : Option Value) (v5 : Option Value) (k : Nat) (a2 : Nat) (st : List Value) (σ : ma_H) (hk : k < hk_len a2), ma_rn ro d 97 (89, [v0, v1, v2, v3, v4, v5], .int (nI k) :: .ref a2 :: st, SH, σ) = ma_rn ro d 97 (90, [v0, v1, v2, v3, v4, v5], .int (σ a2 k) :: st, SH, σ)) ∧
  (∀ (v0 : Option Value) (v1 : Option Value) (v2 : Option Value) (v3 : Option Value) (v5 : Option Value) (x1 : Int32) (st : List Value) (σ : ma_H), ma_rn ro d 97 (90, [v0, v1, v2, v3, some (.int x1), v5], st, SH, σ) = ma_rn ro d 97 (92, [v0, v1, v2, v3, some (.int x1), v5], .int x1 :: st, SH, σ)) ∧
  (∀ (v0 : Option Value) (v1 : Option Value) (v2 : Option Value) (v3 : Option Value) (v4 : Option Value) (v5 : Option Value) (x1 : Int32) (x2 : Int32) (x20 : Int32) (a21 : Nat) (σ : ma_H), ma_rn ro d 97 (92, [v0, v1, v2, v3, v4, v5], .int x1 :: .int x2 :: .int x20 :: .ref a21 :: [], SH, σ) = ma_rn ro d 97 (95, [v0, v1, v2, v3, v4, v5], .int (if x1 < x2 then x1 else x2) :: .int x20 :: .ref a21 :: [], SH, σ)) ∧
  (∀ (v0 : Option Value) (v1 : Option Value) (v2 : Option Value) (v3 : Option Value) (v4 : Option Value) (v5 : Option Value) (x1 : Int32) (k : Nat) (a3 : Nat) (st : List Value) (σ : ma_H) (hk : k < hk_len a3), ma_rn ro d 97 (95, [v0, v1, v2, v3, v4, v5], .int x1 :: .int (nI k) :: .ref a3 :: st, SH, σ) = ma_rn ro d 97 (96, [v0, v1, v2, v3, v4, v5], st, SH, (ma_up σ a3 k x1))) ∧
  (∀ (v0 : Option Value) (v1 : Option Value) (v2 : Option Value) (v3 : Option Value) (x1 : Int32) (x9 : Int32) (st : List Value) (σ : ma_H), ma_rn ro d 97 (96, [v0, v1, v2, v3, some (.int x9), some (.int x1)], st, SH, σ) = ma_rn ro d 97 (99, [v0, v1, v2, v3, some (.int x9), some (.int (x1 + nI 1))], st, SH, σ)) ∧
  (∀ (v0 : Option Value) (v1 : Option Value) (v2 : Option Value) (v3 : Option Value) (v4 : Option Value) (v5 : Option Value) (st : List Value) (σ : ma_H), ma_rn ro d 97 (99, [v0, v1, v2, v3, v4, v5], st, SH, σ) = ma_rn ro d 97 (57, [v0, v1, v2, v3, v4, v5], st, SH, σ)) ∧
  (∀ (v0 : Option Value) (v1 : Option Value) (v2 : Option Value) (v3 : Option Value) (v4 : Option Value) (v5 : Option Value) (σ : ma_H), ma_rn ro d 97 (102, [v0, v1, v2, v3, v4, v5], [], SH, σ) = some (none, SH, σ)) := ⟨fun v0 v1 v2 v3 v4 v5 st σ => q_iconst e97_0 (by decide),
  fun v0 v1 v2 v4 v5 x9 x1 st σ => q_go e97_1 rfl rfl,
  fun v1 v2 v3 v4 v5 a1 st σ => q_go e97_5 rfl rfl,
  fun v0 v1 v2 v3 v4 v5 a1 st σ hc => q_getA e97_6 o_97 f_7_60 (by decide) hc,
  fun v0 v1 v2 v3 v4 v5 a1 st σ hn => q_alen e97_9 rfl hn,
  fun v0 v1 v2 v3 v4 v5 x1 x2 st σ => (q_cmp e97_10 rfl).trans q_nlt,
  fun v1 v2 v3 v4 v5 a1 st σ => q_go e97_13 rfl rfl,
  fun v0 v1 v2 v3 v4 v5 a1 st σ hc => q_getA e97_14 o_97 f_7_60 (by decide) hc,
  fun v0 v1 v2 v3 v5 x1 st σ => q_go e97_17 rfl rfl,
  fun v1 v2 v3 v4 v5 a1 st σ => q_go e97_19 rfl rfl,
  fun v0 v2 v3 v4 v5 a1 st σ => q_go e97_20 rfl rfl,
  fun v0 v1 v3 v4 v5 x1 st σ => q_go e97_21 rfl rfl,
  fun v0 v1 v2 v4 v5 x1 st σ => q_go e97_22 rfl rfl,
  fun v0 v1 v2 v3 v5 x1 st σ => q_go e97_23 rfl rfl,
  fun v0 v1 v2 v3 v4 v5 x20 a21 a1 x2 x3 x4 a0 σ hc => q_invV (as := [.ref a1, .int x2, .int x3, .int x4]) (rest := .int x20 :: .ref a21 :: []) e97_25 o_97 bn_7_280 c_7_280 m_98 (by decide) rfl rfl (Nat.le_of_ble_eq_true rfl) (Nat.le_of_ble_eq_true rfl) hc,
  fun v0 v1 v2 v3 v4 v5 x1 k a3 st σ hk => q_iast e97_28 hk,
  fun v0 v1 v2 v5 x1 x9 st σ => q_iinc e97_29 rfl rfl (by decide),
  fun v0 v1 v2 v3 v4 v5 st σ => q_goto e97_32 rfl,
  fun v1 v2 v3 v4 v5 a1 st σ => q_go e97_35 rfl rfl,
  fun v0 v2 v3 v4 v5 a1 st σ => q_go e97_36 rfl rfl,
  fun v0 v1 v3 v4 v5 x1 st σ => q_go e97_37 rfl rfl,
  fun v0 v1 v2 v4 v5 x1 st σ => q_go e97_38 rfl rfl,
  fun v0 v1 v2 v3 v4 v5 st σ => q_bipush e97_39 (by decide),
  fun v0 v1 v2 v3 v4 v5 a1 x2 x3 x4 a0 σ hc => q_invV (as := [.ref a1, .int x2, .int x3, .int x4]) (rest := []) e97_41 o_97 bn_7_280 c_7_280 m_98 (by decide) rfl rfl (Nat.le_of_ble_eq_true rfl) (Nat.le_of_ble_eq_true rfl) hc,
  fun v0 v1 v2 v3 v4 v5 st σ => q_sipush e97_44 (by decide),
  fun v0 v1 v2 v3 v4 v5 x1 x2 st σ => q_go e97_47 rfl rfl,
  fun v0 v1 v2 v3 v4 v5 st σ => q_iconst e97_48 (by decide),
  fun v0 v1 v3 v4 v5 x1 st σ => q_go e97_49 rfl rfl,
  fun v0 v1 v2 v3 v4 v5 x1 x2 st σ => q_go e97_50 rfl rfl,
  fun v0 v1 v2 v3 v4 v5 x1 x2 st σ => q_go e97_51 rfl rfl,
  fun v0 v1 v2 v4 v5 x9 x1 st σ => q_go e97_52 rfl rfl,
  fun v0 v1 v2 v3 v4 v5 st σ => q_iconst e97_54 (by decide),
  fun v0 v1 v2 v3 v5 x9 x1 st σ => q_go e97_55 rfl rfl,
  fun v1 v2 v3 v4 v5 a1 st σ => q_go e97_59 rfl rfl,
  fun v0 v1 v2 v3 v4 v5 a1 st σ hc => q_getA e97_60 o_97 f_7_60 (by decide) hc,
  fun v0 v1 v2 v3 v4 v5 a1 st σ hn => q_alen e97_63 rfl hn,
  fun v0 v1 v2 v3 v4 v5 x1 x2 st σ => (q_cmp e97_64 rfl).trans q_nlt,
  fun v0 v1 v2 v3 v4 x1 st σ => q_go e97_67 rfl rfl,
  fun v1 v2 v3 v4 v5 a1 st σ => q_go e97_69 rfl rfl,
  fun v0 v1 v2 v3 v4 v5 a1 st σ hc => q_getA e97_70 o_97 f_7_64 (by decide) hc,
  fun v0 v1 v2 v3 v4 v5 a1 st σ hn => q_alen e97_73 rfl hn,
  fun v0 v1 v2 v3 v4 v5 x1 x2 st σ => (q_cmp e97_74 rfl).trans q_nlt,
  fun v1 v2 v3 v4 v5 a1 st σ => q_go e97_77 rfl rfl,
  fun v0 v1 v2 v3 v4 v5 a1 st σ hc => q_getA e97_78 o_97 f_7_64 (by decide) hc,
  fun v0 v1 v2 v3 v4 x1 st σ => q_go e97_81 rfl rfl,
  fun v1 v2 v3 v4 v5 a1 st σ => q_go e97_83 rfl rfl,
  fun v0 v1 v2 v3 v4 v5 a1 st σ hc => q_getA e97_84 o_97 f_7_60 (by decide) hc,
  fun v0 v1 v2 v3 v4 x1 st σ => q_go e97_87 rfl rfl,
  fun v0 v1 v2 v3 v4 v5 k a2 st σ hk => q_iald e97_89 hk,
  fun v0 v1 v2 v3 v5 x1 st σ => q_go e97_90 rfl rfl,
  fun v0 v1 v2 v3 v4 v5 x1 x2 x20 a21 σ => q_bt e97_92 o_97 b_7_171 (by decide) (Nat.le_of_ble_eq_true rfl),
  fun v0 v1 v2 v3 v4 v5 x1 k a3 st σ hk => q_iast e97_95 hk,
  fun v0 v1 v2 v3 x1 x9 st σ => q_iinc e97_96 rfl rfl (by decide),
  fun v0 v1 v2 v3 v4 v5 st σ => q_goto e97_99 rfl,
  fun v0 v1 v2 v3 v4 v5 σ => q_vret e97_102 r_97⟩
theorem E97 {ro : ma_RO} {d : Nat} (a0 : Nat) (a1 : Nat) (x2 : Int32) (x3 : Int32) (sh : List ma_Sh) (σ : ma_H) : ma_ev ro d 97 [.ref a0, .ref a1, .int x2, .int x3] sh σ = ma_rn ro d 97 (0, [some (.ref a0), some (.ref a1), some (.int x2), some (.int x3), none, none], [], sh, σ) := q_ent x_97 rfl
theorem e98_0 : decode (ma_cd 98) 0 = .ok (.aload_n 0, 1) := (congrArg (fun b => decode b 0) cd_98).trans dX7_planWithout_0
theorem e98_1 : decode (ma_cd 98) 1 = .ok (.getfield 49, 3) := (congrArg (fun b => decode b 1) cd_98).trans dX7_planWithout_1
theorem e98_4 : decode (ma_cd 98) 4 = .ok (.aload_n 1, 1) := (congrArg (fun b => decode b 4) cd_98).trans dX7_planWithout_4
theorem e98_5 : decode (ma_cd 98) 5 = .ok (.invokevirtual 210, 3) := (congrArg (fun b => decode b 5) cd_98).trans dX7_planWithout_5
theorem e98_8 : decode (ma_cd 98) 8 = .ok (.aload_n 0, 1) := (congrArg (fun b => decode b 8) cd_98).trans dX7_planWithout_8
theorem e98_9 : decode (ma_cd 98) 9 = .ok (.getfield 49, 3) := (congrArg (fun b => decode b 9) cd_98).trans dX7_planWithout_9
theorem e98_12 : decode (ma_cd 98) 12 = .ok (.bipush 99, 2) := (congrArg (fun b => decode b 12) cd_98).trans dX7_planWithout_12
theorem e98_14 : decode (ma_cd 98) 14 = .ok (.aload_n 1, 1) := (congrArg (fun b => decode b 14) cd_98).trans dX7_planWithout_14
theorem e98_15 : decode (ma_cd 98) 15 = .ok (.getfield 120, 3) := (congrArg (fun b => decode b 15) cd_98).trans dX7_planWithout_15
theorem e98_18 : decode (ma_cd 98) 18 = .ok (.iload_n 2, 1) := (congrArg (fun b => decode b 18) cd_98).trans dX7_planWithout_18
theorem e98_19 : decode (ma_cd 98) 19 = .ok (.iadd, 1) := (congrArg (fun b => decode b 19) cd_98).trans dX7_planWithout_19
theorem e98_20 : decode (ma_cd 98) 20 = .ok (.invokestatic 171, 3) := (congrArg (fun b => decode b 20) cd_98).trans dX7_planWithout_20
theorem e98_23 : decode (ma_cd 98) 23 = .ok (.putfield 120, 3) := (congrArg (fun b => decode b 23) cd_98).trans dX7_planWithout_23
theorem e98_26 : decode (ma_cd 98) 26 = .ok (.aload_n 0, 1) := (congrArg (fun b => decode b 26) cd_98).trans dX7_planWithout_26
theorem e98_27 : decode (ma_cd 98) 27 = .ok (.getfield 49, 3) := (congrArg (fun b => decode b 27) cd_98).trans dX7_planWithout_27
theorem e98_30 : decode (ma_cd 98) 30 = .ok (.iload 4, 2) := (congrArg (fun b => decode b 30) cd_98).trans dX7_planWithout_30
theorem e98_32 : decode (ma_cd 98) 32 = .ok (.putfield 123, 3) := (congrArg (fun b => decode b 32) cd_98).trans dX7_planWithout_32
theorem e98_35 : decode (ma_cd 98) 35 = .ok (.aload_n 0, 1) := (congrArg (fun b => decode b 35) cd_98).trans dX7_planWithout_35
theorem e98_36 : decode (ma_cd 98) 36 = .ok (.getfield 49, 3) := (congrArg (fun b => decode b 36) cd_98).trans dX7_planWithout_36
theorem e98_39 : decode (ma_cd 98) 39 = .ok (.aload_n 0, 1) := (congrArg (fun b => decode b 39) cd_98).trans dX7_planWithout_39
theorem e98_40 : decode (ma_cd 98) 40 = .ok (.getfield 49, 3) := (congrArg (fun b => decode b 40) cd_98).trans dX7_planWithout_40
theorem e98_43 : decode (ma_cd 98) 43 = .ok (.aload_n 0, 1) := (congrArg (fun b => decode b 43) cd_98).trans dX7_planWithout_43
theorem e98_44 : decode (ma_cd 98) 44 = .ok (.getfield 12, 3) := (congrArg (fun b => decode b 44) cd_98).trans dX7_planWithout_44
theorem e98_47 : decode (ma_cd 98) 47 = .ok (.getfield 86, 3) := (congrArg (fun b => decode b 47) cd_98).trans dX7_planWithout_47
theorem e98_50 : decode (ma_cd 98) 50 = .ok (.aload_n 0, 1) := (congrArg (fun b => decode b 50) cd_98).trans dX7_planWithout_50
theorem e98_51 : decode (ma_cd 98) 51 = .ok (.getfield 12, 3) := (congrArg (fun b => decode b 51) cd_98).trans dX7_planWithout_51
theorem e98_54 : decode (ma_cd 98) 54 = .ok (.getfield 93, 3) := (congrArg (fun b => decode b 54) cd_98).trans dX7_planWithout_54
theorem e98_57 : decode (ma_cd 98) 57 = .ok (.getfield 129, 3) := (congrArg (fun b => decode b 57) cd_98).trans dX7_planWithout_57
theorem e98_60 : decode (ma_cd 98) 60 = .ok (.iload_n 2, 1) := (congrArg (fun b => decode b 60) cd_98).trans dX7_planWithout_60
theorem e98_61 : decode (ma_cd 98) 61 = .ok (.iadd, 1) := (congrArg (fun b => decode b 61) cd_98).trans dX7_planWithout_61
theorem e98_62 : decode (ma_cd 98) 62 = .ok (.invokevirtual 132, 3) := (congrArg (fun b => decode b 62) cd_98).trans dX7_planWithout_62
theorem e98_65 : decode (ma_cd 98) 65 = .ok (.aload_n 0, 1) := (congrArg (fun b => decode b 65) cd_98).trans dX7_planWithout_65
theorem e98_66 : decode (ma_cd 98) 66 = .ok (.getfield 12, 3) := (congrArg (fun b => decode b 66) cd_98).trans dX7_planWithout_66
theorem e98_69 : decode (ma_cd 98) 69 = .ok (.getfield 93, 3) := (congrArg (fun b => decode b 69) cd_98).trans dX7_planWithout_69
theorem e98_72 : decode (ma_cd 98) 72 = .ok (.getfield 150, 3) := (congrArg (fun b => decode b 72) cd_98).trans dX7_planWithout_72
theorem e98_75 : decode (ma_cd 98) 75 = .ok (.invokevirtual 271, 3) := (congrArg (fun b => decode b 75) cd_98).trans dX7_planWithout_75
theorem e98_78 : decode (ma_cd 98) 78 = .ok (.aload_n 0, 1) := (congrArg (fun b => decode b 78) cd_98).trans dX7_planWithout_78
theorem e98_79 : decode (ma_cd 98) 79 = .ok (.getfield 49, 3) := (congrArg (fun b => decode b 79) cd_98).trans dX7_planWithout_79
theorem e98_82 : decode (ma_cd 98) 82 = .ok (.getfield 117, 3) := (congrArg (fun b => decode b 82) cd_98).trans dX7_planWithout_82
theorem e98_85 : decode (ma_cd 98) 85 = .ok (.iload_n 3, 1) := (congrArg (fun b => decode b 85) cd_98).trans dX7_planWithout_85
theorem e98_86 : decode (ma_cd 98) 86 = .ok (.if_icmp .ge 8, 3) := (congrArg (fun b => decode b 86) cd_98).trans dX7_planWithout_86
theorem e98_89 : decode (ma_cd 98) 89 = .ok (.ldc 192, 2) := (congrArg (fun b => decode b 89) cd_98).trans dX7_planWithout_89
theorem e98_91 : decode (ma_cd 98) 91 = .ok (.goto 14, 3) := (congrArg (fun b => decode b 91) cd_98).trans dX7_planWithout_91
theorem e98_94 : decode (ma_cd 98) 94 = .ok (.aload_n 0, 1) := (congrArg (fun b => decode b 94) cd_98).trans dX7_planWithout_94
theorem e98_95 : decode (ma_cd 98) 95 = .ok (.aload_n 0, 1) := (congrArg (fun b => decode b 95) cd_98).trans dX7_planWithout_95
theorem e98_96 : decode (ma_cd 98) 96 = .ok (.getfield 49, 3) := (congrArg (fun b => decode b 96) cd_98).trans dX7_planWithout_96
theorem e98_99 : decode (ma_cd 98) 99 = .ok (.getfield 123, 3) := (congrArg (fun b => decode b 99) cd_98).trans dX7_planWithout_99
theorem e98_102 : decode (ma_cd 98) 102 = .ok (.invokevirtual 189, 3) := (congrArg (fun b => decode b 102) cd_98).trans dX7_planWithout_102
theorem e98_105 : decode (ma_cd 98) 105 = .ok (.ireturn, 1) := (congrArg (fun b => decode b 105) cd_98).trans dX7_planWithout_105
theorem S98 {ro : ma_RO} {d : Nat} : (∀ (v1 : Option Value) (v2 : Option Value) (v3 : Option Value) (v4 : Option Value) (a1 : Nat) (st : List Value) (σ : ma_H), ma_rn ro d 98 (0, [some (.ref a1), v1, v2, v3, v4], st, SH, σ) = ma_rn ro d 98 (1, [some (.ref a1), v1, v2, v3, v4], .ref a1 :: st, SH, σ)) ∧
  (∀ (v0 : Option Value) (v1 : Option Value) (v2 : Option Value) (v3 : Option Value) (v4 : Option Value) (a1 : Nat) (st : List Value) (σ : ma_H) (hc : hk_cls a1 = 7), ma_rn ro d 98 (1, [v0, v1, v2, v3, v4], .ref a1 :: st, SH, σ) = ma_rn ro d 98 (4, [v0, v1, v2, v3, v4], .ref (84) :: st, SH, σ)) ∧
  (∀ (v0 : Option Value) (v2 : Option Value) (v3 : Option Value) (v4 : Option Value) (a1 : Nat) (st : List Value) (σ : ma_H), ma_rn ro d 98 (4, [v0, some (.ref a1), v2, v3, v4], st, SH, σ) = ma_rn ro d 98 (5, [v0, some (.ref a1), v2, v3, v4], .ref a1 :: st, SH, σ)) ∧
  (∀ (v0 : Option Value) (v1 : Option Value) (v2 : Option Value) (v3 : Option Value) (v4 : Option Value) (a1 : Nat) (a0 : Nat) (σ : ma_H) (hc : hk_cls a0 = 1), ma_rn ro (d + 1) 98 (5, [v0, v1, v2, v3, v4], .ref a1 :: .ref a0 :: [], SH, σ) = (ma_ev ro d 8 [.ref a0, .ref a1] SH σ).bind (fun q => ma_rn ro (d + 1) 98 (8, [v0, v1, v2, v3, v4], (q.1.toList ++ []), q.2.1, q.2.2))) ∧
  (∀ (v1 : Option Value) (v2 : Option Value) (v3 : Option Value) (v4 : Option Value) (a1 : Nat) (st : List Value) (σ : ma_H), ma_rn ro d 98 (8, [some (.ref a1), v1, v2, v3, v4], st, SH, σ) = ma_rn ro d 98 (9, [some (.ref a1), v1, v2, v3, v4], .ref a1 :: st, SH, σ)) ∧
  (∀ (v0 : Option Value) (v1 : Option Value) (v2 : Option Value) (v3 : Option Value) (v4 : Option Value) (a1 : Nat) (st : List Value) (σ : ma_H) (hc : hk_cls a1 = 7), ma_rn ro d 98 (9, [v0, v1, v2, v3, v4], .ref a1 :: st, SH, σ) = ma_rn ro d 98 (12, [v0, v1, v2, v3, v4], .ref (84) :: st, SH, σ)) ∧
  (∀ (v0 : Option Value) (v1 : Option Value) (v2 : Option Value) (v3 : Option Value) (v4 : Option Value) (st : List Value) (σ : ma_H), ma_rn ro d 98 (12, [v0, v1, v2, v3, v4], st, SH, σ) = ma_rn ro d 98 (14, [v0, v1, v2, v3, v4], .int (nI 99) :: st, SH, σ)) ∧
  (∀ (v0 : Option Value) (v2 : Option Value) (v3 : Option Value) (v4 : Option Value) (a1 : Nat) (st : List Value) (σ : ma_H), ma_rn ro d 98 (14, [v0, some (.ref a1), v2, v3, v4], st, SH, σ) = ma_rn ro d 98 (15, [v0, some (.ref a1), v2, v3, v4], .ref a1 :: st, SH, σ)) ∧
  (∀ (v0 : Option Value) (v1 : Option Value) (v2 : Option Value) (v3 : Option Value) (v4 : Option Value) (a1 : Nat) (st : List Value) (σ : ma_H) (hc : hk_cls a1 = 1), ma_rn ro d 98 (15, [v0, v1, v2, v3, v4], .ref a1 :: st, SH, σ) = ma_rn ro d 98 (18, [v0, v1, v2, v3, v4], .int (σ a1 5) :: st, SH, σ)) ∧
  (∀ (v0 : Option Value) (v1 : Option Value) (v3 : Option Value) (v4 : Option Value) (x1 : Int32) (st : List Value) (σ : ma_H), ma_rn ro d 98 (18, [v0, v1, some (.int x1), v3, v4], st, SH, σ) = ma_rn ro d 98 (19, [v0, v1, some (.int x1), v3, v4], .int x1 :: st, SH, σ)) ∧
  (∀ (v0 : Option Value) (v1 : Option Value) (v2 : Option Value) (v3 : Option Value) (v4 : Option Value) (x1 : Int32) (x2 : Int32) (st : List Value) (σ : ma_H), ma_rn ro d 98 (19, [v0, v1, v2, v3, v4], .int x1 :: .int x2 :: st, SH, σ) = ma_rn ro d 98 (20, [v0, v1, v2, v3, v4], .int (x2 + x1) :: st, SH, σ)) ∧
  (∀ (v0 : Option Value) (v1 : Option Value) (v2 : Option Value) (v3 : Option Value) (v4 : Option Value) (x1 : Int32) (x2 : Int32) (a20 : Nat) (σ : ma_H), ma_rn ro d 98 (20, [v0, v1, v2, v3, v4], .int x1 :: .int x2 :: .ref a20 :: [], SH, σ) = ma_rn ro d 98 (23, [v0, v1, v2, v3, v4], .int (if x1 < x2 then x1 else x2) :: .ref a20 :: [], SH, σ)) ∧
  (∀ (v0 : Option Value) (v1 : Option Value) (v2 : Option Value) (v3 : Option Value) (v4 : Option Value) (x1 : Int32) (a2 : Nat) (st : List Value) (σ : ma_H) (hc : hk_cls a2 = 1), ma_rn ro d 98 (23, [v0, v1, v2, v3, v4], .int x1 :: .ref a2 :: st, SH, σ) = ma_rn ro d 98 (26, [v0, v1, v2, v3, v4], st, SH, (ma_up σ a2 5 x1))) ∧
  (∀ (v1 : Option Value) (v2 : Option Value) (v3 : Option Value) (v4 : Option Value) (a1 : Nat) (st : List Value) (σ : ma_H), ma_rn ro d 98 (26, [some (.ref a1), v1, v2, v3, v4], st, SH, σ) = ma_rn ro d 98 (27, [some (.ref a1), v1, v2, v3, v4], .ref a1 :: st, SH, σ)) ∧
  (∀ (v0 : Option Value) (v1 : Option Value) (v2 : Option Value) (v3 : Option Value) (v4 : Option Value) (a1 : Nat) (st : List Value) (σ : ma_H) (hc : hk_cls a1 = 7), ma_rn ro d 98 (27, [v0, v1, v2, v3, v4], .ref a1 :: st, SH, σ) = ma_rn ro d 98 (30, [v0, v1, v2, v3, v4], .ref (84) :: st, SH, σ)) ∧
  (∀ (v0 : Option Value) (v1 : Option Value) (v2 : Option Value) (v3 : Option Value) (x1 : Int32) (st : List Value) (σ : ma_H), ma_rn ro d 98 (30, [v0, v1, v2, v3, some (.int x1)], st, SH, σ) = ma_rn ro d 98 (32, [v0, v1, v2, v3, some (.int x1)], .int x1 :: st, SH, σ)) ∧
  (∀ (v0 : Option Value) (v1 : Option Value) (v2 : Option Value) (v3 : Option Value) (v4 : Option Value) (x1 : Int32) (a2 : Nat) (st : List Value) (σ : ma_H) (hc : hk_cls a2 = 1), ma_rn ro d 98 (32, [v0, v1, v2, v3, v4], .int x1 :: .ref a2 :: st, SH, σ) = ma_rn ro d 98 (35, [v0, v1, v2, v3, v4], st, SH, (ma_up σ a2 6 x1))) ∧
  (∀ (v1 : Option Value) (v2 : Option Value) (v3 : Option Value) (v4 : Option Value) (a1 : Nat) (st : List Value) (σ : ma_H), ma_rn ro d 98 (35, [some (.ref a1), v1, v2, v3, v4], st, SH, σ) = ma_rn ro d 98 (36, [some (.ref a1), v1, v2, v3, v4], .ref a1 :: st, SH, σ)) ∧
  (∀ (v0 : Option Value) (v1 : Option Value) (v2 : Option Value) (v3 : Option Value) (v4 : Option Value) (a1 : Nat) (st : List Value) (σ : ma_H) (hc : hk_cls a1 = 7), ma_rn ro d 98 (36, [v0, v1, v2, v3, v4], .ref a1 :: st, SH, σ) = ma_rn ro d 98 (39, [v0, v1, v2, v3, v4], .ref (84) :: st, SH, σ)) ∧
  (∀ (v1 : Option Value) (v2 : Option Value) (v3 : Option Value) (v4 : Option Value) (a1 : Nat) (st : List Value) (σ : ma_H), ma_rn ro d 98 (39, [some (.ref a1), v1, v2, v3, v4], st, SH, σ) = ma_rn ro d 98 (40, [some (.ref a1), v1, v2, v3, v4], .ref a1 :: st, SH, σ)) ∧
  (∀ (v0 : Option Value) (v1 : Option Value) (v2 : Option Value) (v3 : Option Value) (v4 : Option Value) (a1 : Nat) (st : List Value) (σ : ma_H) (hc : hk_cls a1 = 7), ma_rn ro d 98 (40, [v0, v1, v2, v3, v4], .ref a1 :: st, SH, σ) = ma_rn ro d 98 (43, [v0, v1, v2, v3, v4], .ref (84) :: st, SH, σ)) ∧
  (∀ (v1 : Option Value) (v2 : Option Value) (v3 : Option Value) (v4 : Option Value) (a1 : Nat) (st : List Value) (σ : ma_H), ma_rn ro d 98 (43, [some (.ref a1), v1, v2, v3, v4], st, SH, σ) = ma_rn ro d 98 (44, [some (.ref a1), v1, v2, v3, v4], .ref a1 :: st, SH, σ)) ∧
  (∀ (v0 : Option Value) (v1 : Option Value) (v2 : Option Value) (v3 : Option Value) (v4 : Option Value) (a1 : Nat) (st : List Value) (σ : ma_H) (hc : hk_cls a1 = 7), ma_rn ro d 98 (44, [v0, v1, v2, v3, v4], .ref a1 :: st, SH, σ) = ma_rn ro d 98 (47, [v0, v1, v2, v3, v4], .ref (1) :: st, SH, σ)) ∧
  (∀ (v0 : Option Value) (v1 : Option Value) (v2 : Option Value) (v3 : Option Value) (v4 : Option Value) (a1 : Nat) (st : List Value) (σ : ma_H) (hc : hk_cls a1 = 5), ma_rn ro d 98 (47, [v0, v1, v2, v3, v4], .ref a1 :: st, SH, σ) = ma_rn ro d 98 (50, [v0, v1, v2, v3, v4], .ref (a1 + 15) :: st, SH, σ)) ∧
  (∀ (v1 : Option Value) (v2 : Option Value) (v3 : Option Value) (v4 : Option Value) (a1 : Nat) (st : List Value) (σ : ma_H), ma_rn ro d 98 (50, [some (.ref a1), v1, v2, v3, v4], st, SH, σ) = ma_rn ro d 98 (51, [some (.ref a1), v1, v2, v3, v4], .ref a1 :: st, SH, σ)) ∧
  (∀ (v0 : Option Value) (v1 : Option Value) (v2 : Option Value) (v3 : Option Value) (v4 : Option Value) (a1 : Nat) (st : List Value) (σ : ma_H) (hc : hk_cls a1 = 7), ma_rn ro d 98 (51, [v0, v1, v2, v3, v4], .ref a1 :: st, SH, σ) = ma_rn ro d 98 (54, [v0, v1, v2, v3, v4], .ref (1) :: st, SH, σ)) ∧
  (∀ (v0 : Option Value) (v1 : Option Value) (v2 : Option Value) (v3 : Option Value) (v4 : Option Value) (a1 : Nat) (st : List Value) (σ : ma_H) (hc : hk_cls a1 = 5), ma_rn ro d 98 (54, [v0, v1, v2, v3, v4], .ref a1 :: st, SH, σ) = ma_rn ro d 98 (57, [v0, v1, v2, v3, v4], .ref (a1 + 1) :: st, SH, σ)) ∧
  (∀ (v0 : Option Value) (v1 : Option Value) (v2 : Option Value) (v3 : Option Value) (v4 : Option Value) (a1 : Nat) (st : List Value) (σ : ma_H) (hc : hk_cls a1 = 6), ma_rn ro d 98 (57, [v0, v1, v2, v3, v4], .ref a1 :: st, SH, σ) = ma_rn ro d 98 (60, [v0, v1, v2, v3, v4], .int (σ a1 3) :: st, SH, σ)) ∧
  (∀ (v0 : Option Value) (v1 : Option Value) (v3 : Option Value) (v4 : Option Value) (x1 : Int32) (st : List Value) (σ : ma_H), ma_rn ro d 98 (60, [v0, v1, some (.int x1), v3, v4], st, SH, σ) = ma_rn ro d 98 (61, [v0, v1, some (.int x1), v3, v4], .int x1 :: st, SH, σ)) ∧
  (∀ (v0 : Option Value) (v1 : Option Value) (v2 : Option Value) (v3 : Option Value) (v4 : Option Value) (x1 : Int32) (x2 : Int32) (st : List Value) (σ : ma_H), ma_rn ro d 98 (61, [v0, v1, v2, v3, v4], .int x1 :: .int x2 :: st, SH, σ) = ma_rn ro d 98 (62, [v0, v1, v2, v3, v4], .int (x2 + x1) :: st, SH, σ)) ∧
  (∀ (v0 : Option Value) (v1 : Option Value) (v2 : Option Value) (v3 : Option Value) (v4 : Option Value) (a20 : Nat) (a1 : Nat) (x2 : Int32) (a0 : Nat) (σ : ma_H) (hc : hk_cls a0 = 1), ma_rn ro (d + 1) 98 (62, [v0, v1, v2, v3, v4], .int x2 :: .ref a1 :: .ref a0 :: .ref a20 :: [], SH, σ) = (ma_ev ro d 11 [.ref a0, .ref a1, .int x2] SH σ).bind (fun q => ma_rn ro (d + 1) 98 (65, [v0, v1, v2, v3, v4], (q.1.toList ++ (.ref a20 :: [])), q.2.1, q.2.2))) ∧
  (∀ (v1 : Option Value) (v2 : Option Value) (v3 : Option Value) (v4 : Option Value) (a1 : Nat) (st : List Value) (σ : ma_H), ma_rn ro d 98 (65, [some (.ref a1), v1, v2, v3, v4], st, SH, σ) = ma_rn ro d 98 (66, [some (.ref a1), v1, v2, v3, v4], .ref a1 :: st, SH, σ)) ∧
  (∀ (v0 : Option Value) (v1 : Option Value) (v2 : Option Value) (v3 : Option Value) (v4 : Option Value) (a1 : Nat) (st : List Value) (σ : ma_H) (hc : hk_cls a1 = 7), ma_rn ro d 98 (66, [v0, v1, v2, v3, v4], .ref a1 :: st, SH, σ) = ma_rn ro d 98 (69, [v0, v1, v2, v3, v4], .ref (1) :: st, SH, σ)) ∧
  (∀ (v0 : Option Value) (v1 : Option Value) (v2 : Option Value) (v3 : Option Value) (v4 : Option Value) (a1 : Nat) (st : List Value) (σ : ma_H) (hc : hk_cls a1 = 5), ma_rn ro d 98 (69, [v0, v1, v2, v3, v4], .ref a1 :: st, SH, σ) = ma_rn ro d 98 (72, [v0, v1, v2, v3, v4], .ref (a1 + 1) :: st, SH, σ)) ∧
  (∀ (v0 : Option Value) (v1 : Option Value) (v2 : Option Value) (v3 : Option Value) (v4 : Option Value) (a1 : Nat) (st : List Value) (σ : ma_H) (hc : hk_cls a1 = 6), ma_rn ro d 98 (72, [v0, v1, v2, v3, v4], .ref a1 :: st, SH, σ) = ma_rn ro d 98 (75, [v0, v1, v2, v3, v4], .int (σ a1 2) :: st, SH, σ)) ∧
  (∀ (v0 : Option Value) (v1 : Option Value) (v2 : Option Value) (v3 : Option Value) (v4 : Option Value) (x1 : Int32) (x2 : Int32) (a0 : Nat) (σ : ma_H) (hc : hk_cls a0 = 1), ma_rn ro (d + 1) 98 (75, [v0, v1, v2, v3, v4], .int x2 :: .int x1 :: .ref a0 :: [], SH, σ) = (ma_ev ro d 12 [.ref a0, .int x1, .int x2] SH σ).bind (fun q => ma_rn ro (d + 1) 98 (78, [v0, v1, v2, v3, v4], (q.1.toList ++ []), q.2.1, q.2.2))) ∧
  (∀ (v1 : Option Value) (v2 : Option Value) (v3 : Option Value) (v4 : Option Value) (a1 : Nat) (st : List Value) (σ : ma_H), ma_rn ro d 98 (78, [some (.ref a1), v1, v2, v3, v4], st, SH, σ) = ma_rn ro d 98 (79, [some (.ref a1), v1, v2, v3, v4], .ref a1 :: st, SH, σ)) ∧
  (∀ (v0 : Option Value) (v1 : Option Value) (v2 : Option Value) (v3 : Option Value) (v4 : Option Value) (a1 : Nat) (st : List Value) (σ : ma_H) (hc : hk_cls a1 = 7), ma_rn ro d 98 (79, [v0, v1, v2, v3, v4], .ref a1 :: st, SH, σ) = ma_rn ro d 98 (82, [v0, v1, v2, v3, v4], .ref (84) :: st, SH, σ)) ∧
  (∀ (v0 : Option Value) (v1 : Option Value) (v2 : Option Value) (v3 : Option Value) (v4 : Option Value) (a1 : Nat) (st : List Value) (σ : ma_H) (hc : hk_cls a1 = 1), ma_rn ro d 98 (82, [v0, v1, v2, v3, v4], .ref a1 :: st, SH, σ) = ma_rn ro d 98 (85, [v0, v1, v2, v3, v4], .int (σ a1 4) :: st, SH, σ)) ∧
  (∀ (v0 : Option Value) (v1 : Option Value) (v2 : Option Value) (v4 : Option Value) (x1 : Int32) (st : List Value) (σ : ma_H), ma_rn ro d 98 (85, [v0, v1, v2, some (.int x1), v4], st, SH, σ) = ma_rn ro d 98 (86, [v0, v1, v2, some (.int x1), v4], .int x1 :: st, SH, σ)) ∧
  (∀ (v0 : Option Value) (v1 : Option Value) (v2 : Option Value) (v3 : Option Value) (v4 : Option Value) (x1 : Int32) (x2 : Int32) (st : List Value) (σ : ma_H), ma_rn ro d 98 (86, [v0, v1, v2, v3, v4], .int x1 :: .int x2 :: st, SH, σ) = if x2 < x1 then ma_rn ro d 98 (89, [v0, v1, v2, v3, v4], st, SH, σ) else ma_rn ro d 98 (94, [v0, v1, v2, v3, v4], st, SH, σ)) ∧
  (∀ (v0 : Option Value) (v1 : Option Value) (v2 : Option Value) (v3 : Option Value) (v4 : Option Value) (st : List Value) (σ : ma_H), ma_rn ro d 98 (89, [v0, v1, v2, v3, v4], st, SH, σ) = ma_rn ro d 98 (91, [v0, v1, v2, v3, v4], .int (nI 1048576) :: st, SH, σ)) ∧
  (∀ (v0 : Option Value) (v1 : Option Value) (v2 : Option Value) (v3 : Option Value) (v4 : Option Value) (st : List Value) (σ : ma_H), ma_rn ro d 98 (91, [v0, v1, v2, v3, v4], st, SH, σ) = ma_rn ro d 98 (105, [v0, v1, v2, v3, v4], st, SH, σ)) ∧
  (∀ (v1 : Option Value) (v2 : Option Value) (v3 : Option Value) (v4 : Option Value) (a1 : Nat) (st : List Value) (σ : ma_H), ma_rn ro d 98 (94, [some (.ref a1), v1, v2, v3, v4], st, SH, σ) = ma_rn ro d 98 (95, [some (.ref a1), v1, v2, v3, v4], .ref a1 :: st, SH, σ)) ∧
  (∀ (v1 : Option Value) (v2 : Option Value) (v3 : Option Value) (v4 : Option Value) (a1 : Nat) (st : List Value) (σ : ma_H), ma_rn ro d 98 (95, [some (.ref a1), v1, v2, v3, v4], st, SH, σ) = ma_rn ro d 98 (96, [some (.ref a1), v1, v2, v3, v4], .ref a1 :: st, SH, σ)) ∧
  (∀ (v0 : Option Value) (v1 : Option Value) (v2 : Option Value) (v3 : Option Value) (v4 : Option Value) (a1 : Nat) (st : List Value) (σ : ma_H) (hc : hk_cls a1 = 7), ma_rn ro d 98 (96, [v0, v1, v2, v3, v4], .ref a1 :: st, SH, σ) = ma_rn ro d 98 (99, [v0, v1, v2, v3, v4], .ref (84) :: st, SH, σ)) ∧
  (∀ (v0 : Option Value) (v1 : Option Value) (v2 : Option Value) (v3 : Option Value) (v4 : Option Value) (a1 : Nat) (st : List Value) (σ : ma_H) (hc : hk_cls a1 = 1), ma_rn ro d 98 (99, [v0, v1, v2, v3, v4], .ref a1 :: st, SH, σ) = ma_rn ro d 98 (102, [v0, v1, v2, v3, v4], .int (σ a1 6) :: st, SH, σ)) ∧
  (∀ (v0 : Option Value) (v1 : Option Value) (v2 : Option Value) (v3 : Option Value) (v4 : Option Value) (x1 : Int32) (a0 : Nat) (σ : ma_H) (hc : hk_cls a0 = 7), ma_rn ro (d + 1) 98 (102, [v0, v1, v2, v3, v4], .int x1 :: .ref a0 :: [], SH, σ) = (ma_ev ro d 99 [.ref a0, .int x1] SH σ).bind (fun q => ma_rn ro (d + 1) 98 (105, [v0, v1, v2, v3, v4], (q.1.toList ++ []), q.2.1, q.2.2))) ∧
  (∀ (v0 : Option Value) (v1 : Option Value) (v2 : Option Value) (v3 : Option Value) (v4 : Option Value) (x1 : Int32) (σ : ma_H), ma_rn ro d 98 (105, [v0, v1, v2, v3, v4], [.int x1], SH, σ) = some (some (.int x1), SH, σ)) := ⟨fun v1 v2 v3 v4 a1 st σ => q_go e98_0 rfl rfl,
  fun v0 v1 v2 v3 v4 a1 st σ hc => q_getA e98_1 o_98 f_7_49 (by decide) hc,
  fun v0 v2 v3 v4 a1 st σ => q_go e98_4 rfl rfl,
  fun v0 v1 v2 v3 v4 a1 a0 σ hc => q_invV (as := [.ref a1]) (rest := []) e98_5 o_98 bn_7_210 c_7_210 m_8 (by decide) rfl rfl (Nat.le_of_ble_eq_true rfl) (Nat.le_of_ble_eq_true rfl) hc,
  fun v1 v2 v3 v4 a1 st σ => q_go e98_8 rfl rfl,
  fun v0 v1 v2 v3 v4 a1 st σ hc => q_getA e98_9 o_98 f_7_49 (by decide) hc,
  fun v0 v1 v2 v3 v4 st σ => q_bipush e98_12 (by decide),
  fun v0 v2 v3 v4 a1 st σ => q_go e98_14 rfl rfl,
  fun v0 v1 v2 v3 v4 a1 st σ hc => q_getI e98_15 o_98 f_7_120 (by decide) hc,
  fun v0 v1 v3 v4 x1 st σ => q_go e98_18 rfl rfl,
  fun v0 v1 v2 v3 v4 x1 x2 st σ => q_go e98_19 rfl rfl,
  fun v0 v1 v2 v3 v4 x1 x2 a20 σ => q_bt e98_20 o_98 b_7_171 (by decide) (Nat.le_of_ble_eq_true rfl),
  fun v0 v1 v2 v3 v4 x1 a2 st σ hc => q_putI e98_23 o_98 f_7_120 (by decide) rfl hc,
  fun v1 v2 v3 v4 a1 st σ => q_go e98_26 rfl rfl,
  fun v0 v1 v2 v3 v4 a1 st σ hc => q_getA e98_27 o_98 f_7_49 (by decide) hc,
  fun v0 v1 v2 v3 x1 st σ => q_go e98_30 rfl rfl,
  fun v0 v1 v2 v3 v4 x1 a2 st σ hc => q_putI e98_32 o_98 f_7_123 (by decide) rfl hc,
  fun v1 v2 v3 v4 a1 st σ => q_go e98_35 rfl rfl,
  fun v0 v1 v2 v3 v4 a1 st σ hc => q_getA e98_36 o_98 f_7_49 (by decide) hc,
  fun v1 v2 v3 v4 a1 st σ => q_go e98_39 rfl rfl,
  fun v0 v1 v2 v3 v4 a1 st σ hc => q_getA e98_40 o_98 f_7_49 (by decide) hc,
  fun v1 v2 v3 v4 a1 st σ => q_go e98_43 rfl rfl,
  fun v0 v1 v2 v3 v4 a1 st σ hc => q_getA e98_44 o_98 f_7_12 (by decide) hc,
  fun v0 v1 v2 v3 v4 a1 st σ hc => q_getA e98_47 o_98 f_7_86 (by decide) hc,
  fun v1 v2 v3 v4 a1 st σ => q_go e98_50 rfl rfl,
  fun v0 v1 v2 v3 v4 a1 st σ hc => q_getA e98_51 o_98 f_7_12 (by decide) hc,
  fun v0 v1 v2 v3 v4 a1 st σ hc => q_getA e98_54 o_98 f_7_93 (by decide) hc,
  fun v0 v1 v2 v3 v4 a1 st σ hc => q_getI e98_57 o_98 f_7_129 (by decide) hc,
  fun v0 v1 v3 v4 x1 st σ => q_go e98_60 rfl rfl,
  fun v0 v1 v2 v3 v4 x1 x2 st σ => q_go e98_61 rfl rfl,
  fun v0 v1 v2 v3 v4 a20 a1 x2 a0 σ hc => q_invV (as := [.ref a1, .int x2]) (rest := .ref a20 :: []) e98_62 o_98 bn_7_132 c_7_132 m_11 (by decide) rfl rfl (Nat.le_of_ble_eq_true rfl) (Nat.le_of_ble_eq_true rfl) hc,
  fun v1 v2 v3 v4 a1 st σ => q_go e98_65 rfl rfl,
  fun v0 v1 v2 v3 v4 a1 st σ hc => q_getA e98_66 o_98 f_7_12 (by decide) hc,
  fun v0 v1 v2 v3 v4 a1 st σ hc => q_getA e98_69 o_98 f_7_93 (by decide) hc,
  fun v0 v1 v2 v3 v4 a1 st σ hc => q_getI e98_72 o_98 f_7_150 (by decide) hc,
  fun v0 v1 v2 v3 v4 x1 x2 a0 σ hc => q_invV (as := [.int x1, .int x2]) (rest := []) e98_75 o_98 bn_7_271 c_7_271 m_12 (by decide) rfl rfl (Nat.le_of_ble_eq_true rfl) (Nat.le_of_ble_eq_true rfl) hc,
  fun v1 v2 v3 v4 a1 st σ => q_go e98_78 rfl rfl,
  fun v0 v1 v2 v3 v4 a1 st σ hc => q_getA e98_79 o_98 f_7_49 (by decide) hc,
  fun v0 v1 v2 v3 v4 a1 st σ hc => q_getI e98_82 o_98 f_7_117 (by decide) hc,
  fun v0 v1 v2 v4 x1 st σ => q_go e98_85 rfl rfl,
  fun v0 v1 v2 v3 v4 x1 x2 st σ => (q_cmp e98_86 rfl).trans q_nlt,
  fun v0 v1 v2 v3 v4 st σ => q_ldc e98_89 o_98 k_7_192,
  fun v0 v1 v2 v3 v4 st σ => q_goto e98_91 rfl,
  fun v1 v2 v3 v4 a1 st σ => q_go e98_94 rfl rfl,
  fun v1 v2 v3 v4 a1 st σ => q_go e98_95 rfl rfl,
  fun v0 v1 v2 v3 v4 a1 st σ hc => q_getA e98_96 o_98 f_7_49 (by decide) hc,
  fun v0 v1 v2 v3 v4 a1 st σ hc => q_getI e98_99 o_98 f_7_123 (by decide) hc,
  fun v0 v1 v2 v3 v4 x1 a0 σ hc => q_invV (as := [.int x1]) (rest := []) e98_102 o_98 bn_7_189 c_7_189 m_99 (by decide) rfl rfl (Nat.le_of_ble_eq_true rfl) (Nat.le_of_ble_eq_true rfl) hc,
  fun v0 v1 v2 v3 v4 x1 σ => q_iret e98_105 r_98⟩
theorem E98 {ro : ma_RO} {d : Nat} (a0 : Nat) (a1 : Nat) (x2 : Int32) (x3 : Int32) (x4 : Int32) (sh : List ma_Sh) (σ : ma_H) : ma_ev ro d 98 [.ref a0, .ref a1, .int x2, .int x3, .int x4] sh σ = ma_rn ro d 98 (0, [some (.ref a0), some (.ref a1), some (.int x2), some (.int x3), some (.int x4)], [], sh, σ) := q_ent x_98 rfl
theorem e99_0 : decode (ma_cd 99) 0 = .ok (.iload_n 1, 1) := (congrArg (fun b => decode b 0) cd_99).trans dX7_planAt_0
theorem e99_1 : decode (ma_cd 99) 1 = .ok (.ifCond .lt 21, 3) := (congrArg (fun b => decode b 1) cd_99).trans dX7_planAt_1
theorem e99_4 : decode (ma_cd 99) 4 = .ok (.iload_n 1, 1) := (congrArg (fun b => decode b 4) cd_99).trans dX7_planAt_4
theorem e99_5 : decode (ma_cd 99) 5 = .ok (.aload_n 0, 1) := (congrArg (fun b => decode b 5) cd_99).trans dX7_planAt_5
theorem e99_6 : decode (ma_cd 99) 6 = .ok (.getfield 64, 3) := (congrArg (fun b => decode b 6) cd_99).trans dX7_planAt_6
theorem e99_9 : decode (ma_cd 99) 9 = .ok (.arraylength, 1) := (congrArg (fun b => decode b 9) cd_99).trans dX7_planAt_9
theorem e99_10 : decode (ma_cd 99) 10 = .ok (.if_icmp .ge 12, 3) := (congrArg (fun b => decode b 10) cd_99).trans dX7_planAt_10
theorem e99_13 : decode (ma_cd 99) 13 = .ok (.aload_n 0, 1) := (congrArg (fun b => decode b 13) cd_99).trans dX7_planAt_13
theorem e99_14 : decode (ma_cd 99) 14 = .ok (.getfield 64, 3) := (congrArg (fun b => decode b 14) cd_99).trans dX7_planAt_14
theorem e99_17 : decode (ma_cd 99) 17 = .ok (.iload_n 1, 1) := (congrArg (fun b => decode b 17) cd_99).trans dX7_planAt_17
theorem e99_18 : decode (ma_cd 99) 18 = .ok (.iaload, 1) := (congrArg (fun b => decode b 18) cd_99).trans dX7_planAt_18
theorem e99_19 : decode (ma_cd 99) 19 = .ok (.goto 5, 3) := (congrArg (fun b => decode b 19) cd_99).trans dX7_planAt_19
theorem e99_22 : decode (ma_cd 99) 22 = .ok (.ldc 192, 2) := (congrArg (fun b => decode b 22) cd_99).trans dX7_planAt_22
theorem e99_24 : decode (ma_cd 99) 24 = .ok (.ireturn, 1) := (congrArg (fun b => decode b 24) cd_99).trans dX7_planAt_24
theorem S99 {ro : ma_RO} {d : Nat} : (∀ (v0 : Option Value) (x1 : Int32) (st : List Value) (σ : ma_H), ma_rn ro d 99 (0, [v0, some (.int x1)], st, SH, σ) = ma_rn ro d 99 (1, [v0, some (.int x1)], .int x1 :: st, SH, σ)) ∧
  (∀ (v0 : Option Value) (v1 : Option Value) (x1 : Int32) (st : List Value) (σ : ma_H), ma_rn ro d 99 (1, [v0, v1], .int x1 :: st, SH, σ) = if x1 < nI 0 then ma_rn ro d 99 (22, [v0, v1], st, SH, σ) else ma_rn ro d 99 (4, [v0, v1], st, SH, σ)) ∧
  (∀ (v0 : Option Value) (x1 : Int32) (st : List Value) (σ : ma_H), ma_rn ro d 99 (4, [v0, some (.int x1)], st, SH, σ) = ma_rn ro d 99 (5, [v0, some (.int x1)], .int x1 :: st, SH, σ)) ∧
  (∀ (v1 : Option Value) (a1 : Nat) (st : List Value) (σ : ma_H), ma_rn ro d 99 (5, [some (.ref a1), v1], st, SH, σ) = ma_rn ro d 99 (6, [some (.ref a1), v1], .ref a1 :: st, SH, σ)) ∧
  (∀ (v0 : Option Value) (v1 : Option Value) (a1 : Nat) (st : List Value) (σ : ma_H) (hc : hk_cls a1 = 7), ma_rn ro d 99 (6, [v0, v1], .ref a1 :: st, SH, σ) = ma_rn ro d 99 (9, [v0, v1], .ref (89) :: st, SH, σ)) ∧
  (∀ (v0 : Option Value) (v1 : Option Value) (a1 : Nat) (st : List Value) (σ : ma_H) (hn : 0 < hk_alen a1), ma_rn ro d 99 (9, [v0, v1], .ref a1 :: st, SH, σ) = ma_rn ro d 99 (10, [v0, v1], .int (nI (hk_alen a1)) :: st, SH, σ)) ∧
  (∀ (v0 : Option Value) (v1 : Option Value) (x1 : Int32) (x2 : Int32) (st : List Value) (σ : ma_H), ma_rn ro d 99 (10, [v0, v1], .int x1 :: .int x2 :: st, SH, σ) = if x2 < x1 then ma_rn ro d 99 (13, [v0, v1], st, SH, σ) else ma_rn ro d 99 (22, [v0, v1], st, SH, σ)) ∧
  (∀ (v1 : Option Value) (a1 : Nat) (st : List Value) (σ : ma_H), ma_rn ro d 99 (13, [some (.ref a1), v1], st, SH, σ) = ma_rn ro d 99 (14, [some (.ref a1), v1], .ref a1 :: st, SH, σ)) ∧
  (∀ (v0 : Option Value) (v1 : Option Value) (a1 : Nat) (st : List Value) (σ : ma_H) (hc : hk_cls a1 = 7), ma_rn ro d 99 (14, [v0, v1], .ref a1 :: st, SH, σ) = ma_rn ro d 99 (17, [v0, v1], .ref (89) :: st, SH, σ)) ∧
  (∀ (v0 : Option Value) (x1 : Int32) (st : List Value) (σ : ma_H), ma_rn ro d 99 (17, [v0, some (.int x1)], st, SH, σ) = ma_rn ro d 99 (18, [v0, some (.int x1)], .int x1 :: st, SH, σ)) ∧
  (∀ (v0 : Option Value) (v1 : Option Value) (k : Nat) (a2 : Nat) (st : List Value) (σ : ma_H) (hk : k < hk_len a2), ma_rn ro d 99 (18, [v0, v1], .int (nI k) :: .ref a2 :: st, SH, σ) = ma_rn ro d 99 (19, [v0, v1], .int (σ a2 k) :: st, SH, σ)) ∧
  (∀ (v0 : Option Value) (v1 : Option Value) (st : List Value) (σ : ma_H), ma_rn ro d 99 (19, [v0, v1], st, SH, σ) = ma_rn ro d 99 (24, [v0, v1], st, SH, σ)) ∧
  (∀ (v0 : Option Value) (v1 : Option Value) (st : List Value) (σ : ma_H), ma_rn ro d 99 (22, [v0, v1], st, SH, σ) = ma_rn ro d 99 (24, [v0, v1], .int (nI 1048576) :: st, SH, σ)) ∧
  (∀ (v0 : Option Value) (v1 : Option Value) (x1 : Int32) (σ : ma_H), ma_rn ro d 99 (24, [v0, v1], [.int x1], SH, σ) = some (some (.int x1), SH, σ)) := ⟨fun v0 x1 st σ => q_go e99_0 rfl rfl,
  fun v0 v1 x1 st σ => (q_if e99_1 rfl).trans q_lt,
  fun v0 x1 st σ => q_go e99_4 rfl rfl,
  fun v1 a1 st σ => q_go e99_5 rfl rfl,
  fun v0 v1 a1 st σ hc => q_getA e99_6 o_99 f_7_64 (by decide) hc,
  fun v0 v1 a1 st σ hn => q_alen e99_9 rfl hn,
  fun v0 v1 x1 x2 st σ => (q_cmp e99_10 rfl).trans q_nlt,
  fun v1 a1 st σ => q_go e99_13 rfl rfl,
  fun v0 v1 a1 st σ hc => q_getA e99_14 o_99 f_7_64 (by decide) hc,
  fun v0 x1 st σ => q_go e99_17 rfl rfl,
  fun v0 v1 k a2 st σ hk => q_iald e99_18 hk,
  fun v0 v1 st σ => q_goto e99_19 rfl,
  fun v0 v1 st σ => q_ldc e99_22 o_99 k_7_192,
  fun v0 v1 x1 σ => q_iret e99_24 r_99⟩
theorem E99 {ro : ma_RO} {d : Nat} (a0 : Nat) (x1 : Int32) (sh : List ma_Sh) (σ : ma_H) : ma_ev ro d 99 [.ref a0, .int x1] sh σ = ma_rn ro d 99 (0, [some (.ref a0), some (.int x1)], [], sh, σ) := q_ent x_99 rfl
theorem e100_0 : decode (ma_cd 100) 0 = .ok (.iload_n 1, 1) := (congrArg (fun b => decode b 0) cd_100).trans dX7_goStep_0
theorem e100_1 : decode (ma_cd 100) 1 = .ok (.ifCond .ne 17, 3) := (congrArg (fun b => decode b 1) cd_100).trans dX7_goStep_1
theorem e100_4 : decode (ma_cd 100) 4 = .ok (.aload_n 0, 1) := (congrArg (fun b => decode b 4) cd_100).trans dX7_goStep_4
theorem e100_5 : decode (ma_cd 100) 5 = .ok (.getfield 40, 3) := (congrArg (fun b => decode b 5) cd_100).trans dX7_goStep_5
theorem e100_8 : decode (ma_cd 100) 8 = .ok (.aload_n 0, 1) := (congrArg (fun b => decode b 8) cd_100).trans dX7_goStep_8
theorem e100_9 : decode (ma_cd 100) 9 = .ok (.getfield 12, 3) := (congrArg (fun b => decode b 9) cd_100).trans dX7_goStep_9
theorem e100_12 : decode (ma_cd 100) 12 = .ok (.getfield 86, 3) := (congrArg (fun b => decode b 12) cd_100).trans dX7_goStep_12
theorem e100_15 : decode (ma_cd 100) 15 = .ok (.invokevirtual 283, 3) := (congrArg (fun b => decode b 15) cd_100).trans dX7_goStep_15
theorem e100_18 : decode (ma_cd 100) 18 = .ok (.iload_n 1, 1) := (congrArg (fun b => decode b 18) cd_100).trans dX7_goStep_18
theorem e100_19 : decode (ma_cd 100) 19 = .ok (.iconst 3, 1) := (congrArg (fun b => decode b 19) cd_100).trans dX7_goStep_19
theorem e100_20 : decode (ma_cd 100) 20 = .ok (.if_icmp .ne 11, 3) := (congrArg (fun b => decode b 20) cd_100).trans dX7_goStep_20
theorem e100_23 : decode (ma_cd 100) 23 = .ok (.aload_n 0, 1) := (congrArg (fun b => decode b 23) cd_100).trans dX7_goStep_23
theorem e100_24 : decode (ma_cd 100) 24 = .ok (.getfield 40, 3) := (congrArg (fun b => decode b 24) cd_100).trans dX7_goStep_24
theorem e100_27 : decode (ma_cd 100) 27 = .ok (.iload_n 2, 1) := (congrArg (fun b => decode b 27) cd_100).trans dX7_goStep_27
theorem e100_28 : decode (ma_cd 100) 28 = .ok (.putfield 150, 3) := (congrArg (fun b => decode b 28) cd_100).trans dX7_goStep_28
theorem e100_31 : decode (ma_cd 100) 31 = .ok (.aload_n 0, 1) := (congrArg (fun b => decode b 31) cd_100).trans dX7_goStep_31
theorem e100_32 : decode (ma_cd 100) 32 = .ok (.getfield 40, 3) := (congrArg (fun b => decode b 32) cd_100).trans dX7_goStep_32
theorem e100_35 : decode (ma_cd 100) 35 = .ok (.iload_n 2, 1) := (congrArg (fun b => decode b 35) cd_100).trans dX7_goStep_35
theorem e100_36 : decode (ma_cd 100) 36 = .ok (.invokevirtual 102, 3) := (congrArg (fun b => decode b 36) cd_100).trans dX7_goStep_36
theorem e100_39 : decode (ma_cd 100) 39 = .ok (.astore_n 3, 1) := (congrArg (fun b => decode b 39) cd_100).trans dX7_goStep_39
theorem e100_40 : decode (ma_cd 100) 40 = .ok (.aload_n 3, 1) := (congrArg (fun b => decode b 40) cd_100).trans dX7_goStep_40
theorem e100_41 : decode (ma_cd 100) 41 = .ok (.ifnonnull 4, 3) := (congrArg (fun b => decode b 41) cd_100).trans dX7_goStep_41
theorem e100_44 : decode (ma_cd 100) 44 = .ok (.return_, 1) := (congrArg (fun b => decode b 44) cd_100).trans dX7_goStep_44
theorem e100_45 : decode (ma_cd 100) 45 = .ok (.iload_n 1, 1) := (congrArg (fun b => decode b 45) cd_100).trans dX7_goStep_45
theorem e100_46 : decode (ma_cd 100) 46 = .ok (.iconst 1, 1) := (congrArg (fun b => decode b 46) cd_100).trans dX7_goStep_46
theorem e100_47 : decode (ma_cd 100) 47 = .ok (.if_icmp .ne 7, 3) := (congrArg (fun b => decode b 47) cd_100).trans dX7_goStep_47
theorem e100_50 : decode (ma_cd 100) 50 = .ok (.aload_n 3, 1) := (congrArg (fun b => decode b 50) cd_100).trans dX7_goStep_50
theorem e100_51 : decode (ma_cd 100) 51 = .ok (.invokevirtual 153, 3) := (congrArg (fun b => decode b 51) cd_100).trans dX7_goStep_51
theorem e100_54 : decode (ma_cd 100) 54 = .ok (.iload_n 1, 1) := (congrArg (fun b => decode b 54) cd_100).trans dX7_goStep_54
theorem e100_55 : decode (ma_cd 100) 55 = .ok (.iconst 2, 1) := (congrArg (fun b => decode b 55) cd_100).trans dX7_goStep_55
theorem e100_56 : decode (ma_cd 100) 56 = .ok (.if_icmp .ne 9, 3) := (congrArg (fun b => decode b 56) cd_100).trans dX7_goStep_56
theorem e100_59 : decode (ma_cd 100) 59 = .ok (.aload_n 3, 1) := (congrArg (fun b => decode b 59) cd_100).trans dX7_goStep_59
theorem e100_60 : decode (ma_cd 100) 60 = .ok (.bipush 9, 2) := (congrArg (fun b => decode b 60) cd_100).trans dX7_goStep_60
theorem e100_62 : decode (ma_cd 100) 62 = .ok (.putfield 123, 3) := (congrArg (fun b => decode b 62) cd_100).trans dX7_goStep_62
theorem e100_65 : decode (ma_cd 100) 65 = .ok (.return_, 1) := (congrArg (fun b => decode b 65) cd_100).trans dX7_goStep_65
theorem S100 {ro : ma_RO} {d : Nat} : (∀ (v0 : Option Value) (v2 : Option Value) (v3 : Option Value) (x1 : Int32) (st : List Value) (σ : ma_H), ma_rn ro d 100 (0, [v0, some (.int x1), v2, v3], st, SH, σ) = ma_rn ro d 100 (1, [v0, some (.int x1), v2, v3], .int x1 :: st, SH, σ)) ∧
  (∀ (v0 : Option Value) (v1 : Option Value) (v2 : Option Value) (v3 : Option Value) (x1 : Int32) (st : List Value) (σ : ma_H), ma_rn ro d 100 (1, [v0, v1, v2, v3], .int x1 :: st, SH, σ) = if x1 = nI 0 then ma_rn ro d 100 (4, [v0, v1, v2, v3], st, SH, σ) else ma_rn ro d 100 (18, [v0, v1, v2, v3], st, SH, σ)) ∧
  (∀ (v1 : Option Value) (v2 : Option Value) (v3 : Option Value) (a1 : Nat) (st : List Value) (σ : ma_H), ma_rn ro d 100 (4, [some (.ref a1), v1, v2, v3], st, SH, σ) = ma_rn ro d 100 (5, [some (.ref a1), v1, v2, v3], .ref a1 :: st, SH, σ)) ∧
  (∀ (v0 : Option Value) (v1 : Option Value) (v2 : Option Value) (v3 : Option Value) (a1 : Nat) (st : List Value) (σ : ma_H) (hc : hk_cls a1 = 7), ma_rn ro d 100 (5, [v0, v1, v2, v3], .ref a1 :: st, SH, σ) = ma_rn ro d 100 (8, [v0, v1, v2, v3], .ref (70) :: st, SH, σ)) ∧
  (∀ (v1 : Option Value) (v2 : Option Value) (v3 : Option Value) (a1 : Nat) (st : List Value) (σ : ma_H), ma_rn ro d 100 (8, [some (.ref a1), v1, v2, v3], st, SH, σ) = ma_rn ro d 100 (9, [some (.ref a1), v1, v2, v3], .ref a1 :: st, SH, σ)) ∧
  (∀ (v0 : Option Value) (v1 : Option Value) (v2 : Option Value) (v3 : Option Value) (a1 : Nat) (st : List Value) (σ : ma_H) (hc : hk_cls a1 = 7), ma_rn ro d 100 (9, [v0, v1, v2, v3], .ref a1 :: st, SH, σ) = ma_rn ro d 100 (12, [v0, v1, v2, v3], .ref (1) :: st, SH, σ)) ∧
  (∀ (v0 : Option Value) (v1 : Option Value) (v2 : Option Value) (v3 : Option Value) (a1 : Nat) (st : List Value) (σ : ma_H) (hc : hk_cls a1 = 5), ma_rn ro d 100 (12, [v0, v1, v2, v3], .ref a1 :: st, SH, σ) = ma_rn ro d 100 (15, [v0, v1, v2, v3], .ref (a1 + 15) :: st, SH, σ)) ∧
  (∀ (v0 : Option Value) (v1 : Option Value) (v2 : Option Value) (v3 : Option Value) (a1 : Nat) (a0 : Nat) (σ : ma_H) (hc : hk_cls a0 = 6), ma_rn ro (d + 1) 100 (15, [v0, v1, v2, v3], .ref a1 :: .ref a0 :: [], SH, σ) = (ma_ev ro d 54 [.ref a0, .ref a1] SH σ).bind (fun q => ma_rn ro (d + 1) 100 (18, [v0, v1, v2, v3], (q.1.toList ++ []), q.2.1, q.2.2))) ∧
  (∀ (v0 : Option Value) (v2 : Option Value) (v3 : Option Value) (x1 : Int32) (st : List Value) (σ : ma_H), ma_rn ro d 100 (18, [v0, some (.int x1), v2, v3], st, SH, σ) = ma_rn ro d 100 (19, [v0, some (.int x1), v2, v3], .int x1 :: st, SH, σ)) ∧
  (∀ (v0 : Option Value) (v1 : Option Value) (v2 : Option Value) (v3 : Option Value) (st : List Value) (σ : ma_H), ma_rn ro d 100 (19, [v0, v1, v2, v3], st, SH, σ) = ma_rn ro d 100 (20, [v0, v1, v2, v3], .int (nI 3) :: st, SH, σ)) ∧
  (∀ (v0 : Option Value) (v1 : Option Value) (v2 : Option Value) (v3 : Option Value) (x1 : Int32) (x2 : Int32) (st : List Value) (σ : ma_H), ma_rn ro d 100 (20, [v0, v1, v2, v3], .int x1 :: .int x2 :: st, SH, σ) = if x2 = x1 then ma_rn ro d 100 (23, [v0, v1, v2, v3], st, SH, σ) else ma_rn ro d 100 (31, [v0, v1, v2, v3], st, SH, σ)) ∧
  (∀ (v1 : Option Value) (v2 : Option Value) (v3 : Option Value) (a1 : Nat) (st : List Value) (σ : ma_H), ma_rn ro d 100 (23, [some (.ref a1), v1, v2, v3], st, SH, σ) = ma_rn ro d 100 (24, [some (.ref a1), v1, v2, v3], .ref a1 :: st, SH, σ)) ∧
  (∀ (v0 : Option Value) (v1 : Option Value) (v2 : Option Value) (v3 : Option Value) (a1 : Nat) (st : List Value) (σ : ma_H) (hc : hk_cls a1 = 7), ma_rn ro d 100 (24, [v0, v1, v2, v3], .ref a1 :: st, SH, σ) = ma_rn ro d 100 (27, [v0, v1, v2, v3], .ref (70) :: st, SH, σ)) ∧
  (∀ (v0 : Option Value) (v1 : Option Value) (v3 : Option Value) (x1 : Int32) (st : List Value) (σ : ma_H), ma_rn ro d 100 (27, [v0, v1, some (.int x1), v3], st, SH, σ) = ma_rn ro d 100 (28, [v0, v1, some (.int x1), v3], .int x1 :: st, SH, σ)) ∧
  (∀ (v0 : Option Value) (v1 : Option Value) (v2 : Option Value) (v3 : Option Value) (x1 : Int32) (a2 : Nat) (st : List Value) (σ : ma_H) (hc : hk_cls a2 = 6), ma_rn ro d 100 (28, [v0, v1, v2, v3], .int x1 :: .ref a2 :: st, SH, σ) = ma_rn ro d 100 (31, [v0, v1, v2, v3], st, SH, (ma_up σ a2 2 x1))) ∧
  (∀ (v1 : Option Value) (v2 : Option Value) (v3 : Option Value) (a1 : Nat) (st : List Value) (σ : ma_H), ma_rn ro d 100 (31, [some (.ref a1), v1, v2, v3], st, SH, σ) = ma_rn ro d 100 (32, [some (.ref a1), v1, v2, v3], .ref a1 :: st, SH, σ)) ∧
  (∀ (v0 : Option Value) (v1 : Option Value) (v2 : Option Value) (v3 : Option Value) (a1 : Nat) (st : List Value) (σ : ma_H) (hc : hk_cls a1 = 7), ma_rn ro d 100 (32, [v0, v1, v2, v3], .ref a1 :: st, SH, σ) = ma_rn ro d 100 (35, [v0, v1, v2, v3], .ref (70) :: st, SH, σ)) ∧
  (∀ (v0 : Option Value) (v1 : Option Value) (v3 : Option Value) (x1 : Int32) (st : List Value) (σ : ma_H), ma_rn ro d 100 (35, [v0, v1, some (.int x1), v3], st, SH, σ) = ma_rn ro d 100 (36, [v0, v1, some (.int x1), v3], .int x1 :: st, SH, σ)) ∧
  (∀ (v0 : Option Value) (v1 : Option Value) (v2 : Option Value) (v3 : Option Value) (x1 : Int32) (a0 : Nat) (σ : ma_H) (hc : hk_cls a0 = 6), ma_rn ro (d + 1) 100 (36, [v0, v1, v2, v3], .int x1 :: .ref a0 :: [], SH, σ) = (ma_ev ro d 50 [.ref a0, .int x1] SH σ).bind (fun q => ma_rn ro (d + 1) 100 (39, [v0, v1, v2, v3], (q.1.toList ++ []), q.2.1, q.2.2))) ∧
  (∀ (v0 : Option Value) (v1 : Option Value) (v3 : Option Value) (x9 : Int32) (a1 : Nat) (st : List Value) (σ : ma_H), ma_rn ro d 100 (39, [v0, v1, some (.int x9), v3], .ref a1 :: st, SH, σ) = ma_rn ro d 100 (40, [v0, v1, some (.int x9), some (.ref a1)], st, SH, σ)) ∧
  (∀ (v0 : Option Value) (v1 : Option Value) (v3 : Option Value) (x9 : Int32) (st : List Value) (σ : ma_H), ma_rn ro d 100 (39, [v0, v1, some (.int x9), v3], .null :: st, SH, σ) = ma_rn ro d 100 (40, [v0, v1, some (.int x9), some .null], st, SH, σ)) ∧
  (∀ (v0 : Option Value) (v1 : Option Value) (v2 : Option Value) (a1 : Nat) (st : List Value) (σ : ma_H), ma_rn ro d 100 (40, [v0, v1, v2, some (.ref a1)], st, SH, σ) = ma_rn ro d 100 (41, [v0, v1, v2, some (.ref a1)], .ref a1 :: st, SH, σ)) ∧
  (∀ (v0 : Option Value) (v1 : Option Value) (v2 : Option Value) (st : List Value) (σ : ma_H), ma_rn ro d 100 (40, [v0, v1, v2, some .null], st, SH, σ) = ma_rn ro d 100 (41, [v0, v1, v2, some .null], .null :: st, SH, σ)) ∧
  (∀ (v0 : Option Value) (v1 : Option Value) (v2 : Option Value) (v3 : Option Value) (a1 : Nat) (st : List Value) (σ : ma_H), ma_rn ro d 100 (41, [v0, v1, v2, v3], .ref a1 :: st, SH, σ) = ma_rn ro d 100 (45, [v0, v1, v2, v3], st, SH, σ)) ∧
  (∀ (v0 : Option Value) (v1 : Option Value) (v2 : Option Value) (v3 : Option Value) (st : List Value) (σ : ma_H), ma_rn ro d 100 (41, [v0, v1, v2, v3], .null :: st, SH, σ) = ma_rn ro d 100 (44, [v0, v1, v2, v3], st, SH, σ)) ∧
  (∀ (v0 : Option Value) (v1 : Option Value) (v2 : Option Value) (v3 : Option Value) (σ : ma_H), ma_rn ro d 100 (44, [v0, v1, v2, v3], [], SH, σ) = some (none, SH, σ)) ∧
  (∀ (v0 : Option Value) (v2 : Option Value) (v3 : Option Value) (x1 : Int32) (st : List Value) (σ : ma_H), ma_rn ro d 100 (45, [v0, some (.int x1), v2, v3], st, SH, σ) = ma_rn ro d 100 (46, [v0, some (.int x1), v2, v3], .int x1 :: st, SH, σ)) ∧
  (∀ (v0 : Option Value) (v1 : Option Value) (v2 : Option Value) (v3 : Option Value) (st : List Value) (σ : ma_H), ma_rn ro d 100 (46, [v0, v1, v2, v3], st, SH, σ) = ma_rn ro d 100 (47, [v0, v1, v2, v3], .int (nI 1) :: st, SH, σ)) ∧
  (∀ (v0 : Option Value) (v1 : Option Value) (v2 : Option Value) (v3 : Option Value) (x1 : Int32) (x2 : Int32) (st : List Value) (σ : ma_H), ma_rn ro d 100 (47, [v0, v1, v2, v3], .int x1 :: .int x2 :: st, SH, σ) = if x2 = x1 then ma_rn ro d 100 (50, [v0, v1, v2, v3], st, SH, σ) else ma_rn ro d 100 (54, [v0, v1, v2, v3], st, SH, σ)) ∧
  (∀ (v0 : Option Value) (v1 : Option Value) (v2 : Option Value) (a1 : Nat) (st : List Value) (σ : ma_H), ma_rn ro d 100 (50, [v0, v1, v2, some (.ref a1)], st, SH, σ) = ma_rn ro d 100 (51, [v0, v1, v2, some (.ref a1)], .ref a1 :: st, SH, σ)) ∧
  (∀ (v0 : Option Value) (v1 : Option Value) (v2 : Option Value) (st : List Value) (σ : ma_H), ma_rn ro d 100 (50, [v0, v1, v2, some .null], st, SH, σ) = ma_rn ro d 100 (51, [v0, v1, v2, some .null], .null :: st, SH, σ)) ∧
  (∀ (v0 : Option Value) (v1 : Option Value) (v2 : Option Value) (v3 : Option Value) (a0 : Nat) (σ : ma_H) (hc : hk_cls a0 = 1), ma_rn ro (d + 1) 100 (51, [v0, v1, v2, v3], .ref a0 :: [], SH, σ) = (ma_ev ro d 13 [.ref a0] SH σ).bind (fun q => ma_rn ro (d + 1) 100 (54, [v0, v1, v2, v3], (q.1.toList ++ []), q.2.1, q.2.2))) ∧
  (∀ (v0 : Option Value) (v2 : Option Value) (v3 : Option Value) (x1 : Int32) (st : List Value) (σ : ma_H), ma_rn ro d 100 (54, [v0, some (.int x1), v2, v3], st, SH, σ) = ma_rn ro d 100 (55, [v0, some (.int x1), v2, v3], .int x1 :: st, SH, σ)) ∧
  (∀ (v0 : Option Value) (v1 : Option Value) (v2 : Option Value) (v3 : Option Value) (st : List Value) (σ : ma_H), ma_rn ro d 100 (55, [v0, v1, v2, v3], st, SH, σ) = ma_rn ro d 100 (56, [v0, v1, v2, v3], .int (nI 2) :: st, SH, σ)) ∧
  (∀ (v0 : Option Value) (v1 : Option Value) (v2 : Option Value) (v3 : Option Value) (x1 : Int32) (x2 : Int32) (st : List Value) (σ : ma_H), ma_rn ro d 100 (56, [v0, v1, v2, v3], .int x1 :: .int x2 :: st, SH, σ) = if x2 = x1 then ma_rn ro d 100 (59, [v0, v1, v2, v3], st, SH, σ) else ma_rn ro d 100 (65, [v0, v1, v2, v3], st, SH, σ)) ∧
  (∀ (v0 : Option Value) (v1 : Option Value) (v2 : Option Value) (a1 : Nat) (st : List Value) (σ : ma_H), ma_rn ro d 100 (59, [v0, v1, v2, some (.ref a1)], st, SH, σ) = ma_rn ro d 100 (60, [v0, v1, v2, some (.ref a1)], .ref a1 :: st, SH, σ)) ∧
  (∀ (v0 : Option Value) (v1 : Option Value) (v2 : Option Value) (st : List Value) (σ : ma_H), ma_rn ro d 100 (59, [v0, v1, v2, some .null], st, SH, σ) = ma_rn ro d 100 (60, [v0, v1, v2, some .null], .null :: st, SH, σ)) ∧
  (∀ (v0 : Option Value) (v1 : Option Value) (v2 : Option Value) (v3 : Option Value) (st : List Value) (σ : ma_H), ma_rn ro d 100 (60, [v0, v1, v2, v3], st, SH, σ) = ma_rn ro d 100 (62, [v0, v1, v2, v3], .int (nI 9) :: st, SH, σ)) ∧
  (∀ (v0 : Option Value) (v1 : Option Value) (v2 : Option Value) (v3 : Option Value) (x1 : Int32) (a2 : Nat) (st : List Value) (σ : ma_H) (hc : hk_cls a2 = 1), ma_rn ro d 100 (62, [v0, v1, v2, v3], .int x1 :: .ref a2 :: st, SH, σ) = ma_rn ro d 100 (65, [v0, v1, v2, v3], st, SH, (ma_up σ a2 6 x1))) ∧
  (∀ (v0 : Option Value) (v1 : Option Value) (v2 : Option Value) (v3 : Option Value) (σ : ma_H), ma_rn ro d 100 (65, [v0, v1, v2, v3], [], SH, σ) = some (none, SH, σ)) := ⟨fun v0 v2 v3 x1 st σ => q_go e100_0 rfl rfl,
  fun v0 v1 v2 v3 x1 st σ => (q_if e100_1 rfl).trans q_ne,
  fun v1 v2 v3 a1 st σ => q_go e100_4 rfl rfl,
  fun v0 v1 v2 v3 a1 st σ hc => q_getA e100_5 o_100 f_7_40 (by decide) hc,
  fun v1 v2 v3 a1 st σ => q_go e100_8 rfl rfl,
  fun v0 v1 v2 v3 a1 st σ hc => q_getA e100_9 o_100 f_7_12 (by decide) hc,
  fun v0 v1 v2 v3 a1 st σ hc => q_getA e100_12 o_100 f_7_86 (by decide) hc,
  fun v0 v1 v2 v3 a1 a0 σ hc => q_invV (as := [.ref a1]) (rest := []) e100_15 o_100 bn_7_283 c_7_283 m_54 (by decide) rfl rfl (Nat.le_of_ble_eq_true rfl) (Nat.le_of_ble_eq_true rfl) hc,
  fun v0 v2 v3 x1 st σ => q_go e100_18 rfl rfl,
  fun v0 v1 v2 v3 st σ => q_iconst e100_19 (by decide),
  fun v0 v1 v2 v3 x1 x2 st σ => (q_cmp e100_20 rfl).trans q_ne,
  fun v1 v2 v3 a1 st σ => q_go e100_23 rfl rfl,
  fun v0 v1 v2 v3 a1 st σ hc => q_getA e100_24 o_100 f_7_40 (by decide) hc,
  fun v0 v1 v3 x1 st σ => q_go e100_27 rfl rfl,
  fun v0 v1 v2 v3 x1 a2 st σ hc => q_putI e100_28 o_100 f_7_150 (by decide) rfl hc,
  fun v1 v2 v3 a1 st σ => q_go e100_31 rfl rfl,
  fun v0 v1 v2 v3 a1 st σ hc => q_getA e100_32 o_100 f_7_40 (by decide) hc,
  fun v0 v1 v3 x1 st σ => q_go e100_35 rfl rfl,
  fun v0 v1 v2 v3 x1 a0 σ hc => q_invV (as := [.int x1]) (rest := []) e100_36 o_100 bn_7_102 c_7_102 m_50 (by decide) rfl rfl (Nat.le_of_ble_eq_true rfl) (Nat.le_of_ble_eq_true rfl) hc,
  fun v0 v1 v3 x9 a1 st σ => q_go e100_39 rfl rfl,
  fun v0 v1 v3 x9 st σ => q_go e100_39 rfl rfl,
  fun v0 v1 v2 a1 st σ => q_go e100_40 rfl rfl,
  fun v0 v1 v2 st σ => q_go e100_40 rfl rfl,
  fun v0 v1 v2 v3 a1 st σ => q_ifnonnullR e100_41 rfl,
  fun v0 v1 v2 v3 st σ => q_ifnonnullN e100_41 rfl,
  fun v0 v1 v2 v3 σ => q_vret e100_44 r_100,
  fun v0 v2 v3 x1 st σ => q_go e100_45 rfl rfl,
  fun v0 v1 v2 v3 st σ => q_iconst e100_46 (by decide),
  fun v0 v1 v2 v3 x1 x2 st σ => (q_cmp e100_47 rfl).trans q_ne,
  fun v0 v1 v2 a1 st σ => q_go e100_50 rfl rfl,
  fun v0 v1 v2 st σ => q_go e100_50 rfl rfl,
  fun v0 v1 v2 v3 a0 σ hc => q_invV (as := []) (rest := []) e100_51 o_100 bn_7_153 c_7_153 m_13 (by decide) rfl rfl (Nat.le_of_ble_eq_true rfl) (Nat.le_of_ble_eq_true rfl) hc,
  fun v0 v2 v3 x1 st σ => q_go e100_54 rfl rfl,
  fun v0 v1 v2 v3 st σ => q_iconst e100_55 (by decide),
  fun v0 v1 v2 v3 x1 x2 st σ => (q_cmp e100_56 rfl).trans q_ne,
  fun v0 v1 v2 a1 st σ => q_go e100_59 rfl rfl,
  fun v0 v1 v2 st σ => q_go e100_59 rfl rfl,
  fun v0 v1 v2 v3 st σ => q_bipush e100_60 (by decide),
  fun v0 v1 v2 v3 x1 a2 st σ hc => q_putI e100_62 o_100 f_7_123 (by decide) rfl hc,
  fun v0 v1 v2 v3 σ => q_vret e100_65 r_100⟩
theorem E100 {ro : ma_RO} {d : Nat} (a0 : Nat) (x1 : Int32) (x2 : Int32) (sh : List ma_Sh) (σ : ma_H) : ma_ev ro d 100 [.ref a0, .int x1, .int x2] sh σ = ma_rn ro d 100 (0, [some (.ref a0), some (.int x1), some (.int x2), none], [], sh, σ) := q_ent x_100 rfl

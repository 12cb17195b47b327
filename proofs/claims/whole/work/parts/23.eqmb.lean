/-! The equations of the instructions. -/
theorem e142_0 : decode (ma_cd 142) 0 = .ok (.iload_n 1, 1) := (congrArg (fun b => decode b 0) cd_142).trans dX8_pass_0
theorem e142_1 : decode (ma_cd 142) 1 = .ok (.iconst 0, 1) := (congrArg (fun b => decode b 1) cd_142).trans dX8_pass_1
theorem e142_2 : decode (ma_cd 142) 2 = .ok (.bipush 60, 2) := (congrArg (fun b => decode b 2) cd_142).trans dX8_pass_2
theorem e142_4 : decode (ma_cd 142) 4 = .ok (.invokestatic 35, 3) := (congrArg (fun b => decode b 4) cd_142).trans dX8_pass_4
theorem e142_7 : decode (ma_cd 142) 7 = .ok (.ifCond .ne 6, 3) := (congrArg (fun b => decode b 7) cd_142).trans dX8_pass_7
theorem e142_10 : decode (ma_cd 142) 10 = .ok (.bipush (-2), 2) := (congrArg (fun b => decode b 10) cd_142).trans dX8_pass_10
theorem e142_12 : decode (ma_cd 142) 12 = .ok (.ireturn, 1) := (congrArg (fun b => decode b 12) cd_142).trans dX8_pass_12
theorem e142_13 : decode (ma_cd 142) 13 = .ok (.aload_n 0, 1) := (congrArg (fun b => decode b 13) cd_142).trans dX8_pass_13
theorem e142_14 : decode (ma_cd 142) 14 = .ok (.getfield 9, 3) := (congrArg (fun b => decode b 14) cd_142).trans dX8_pass_14
theorem e142_17 : decode (ma_cd 142) 17 = .ok (.iconst 0, 1) := (congrArg (fun b => decode b 17) cd_142).trans dX8_pass_17
theorem e142_18 : decode (ma_cd 142) 18 = .ok (.iaload, 1) := (congrArg (fun b => decode b 18) cd_142).trans dX8_pass_18
theorem e142_19 : decode (ma_cd 142) 19 = .ok (.iload_n 1, 1) := (congrArg (fun b => decode b 19) cd_142).trans dX8_pass_19
theorem e142_20 : decode (ma_cd 142) 20 = .ok (.iadd, 1) := (congrArg (fun b => decode b 20) cd_142).trans dX8_pass_20
theorem e142_21 : decode (ma_cd 142) 21 = .ok (.sipush 9999, 3) := (congrArg (fun b => decode b 21) cd_142).trans dX8_pass_21
theorem e142_24 : decode (ma_cd 142) 24 = .ok (.if_icmp .le 6, 3) := (congrArg (fun b => decode b 24) cd_142).trans dX8_pass_24
theorem e142_27 : decode (ma_cd 142) 27 = .ok (.bipush (-3), 2) := (congrArg (fun b => decode b 27) cd_142).trans dX8_pass_27
theorem e142_29 : decode (ma_cd 142) 29 = .ok (.ireturn, 1) := (congrArg (fun b => decode b 29) cd_142).trans dX8_pass_29
theorem e142_30 : decode (ma_cd 142) 30 = .ok (.iconst 0, 1) := (congrArg (fun b => decode b 30) cd_142).trans dX8_pass_30
theorem e142_31 : decode (ma_cd 142) 31 = .ok (.istore_n 2, 1) := (congrArg (fun b => decode b 31) cd_142).trans dX8_pass_31
theorem e142_32 : decode (ma_cd 142) 32 = .ok (.iload_n 2, 1) := (congrArg (fun b => decode b 32) cd_142).trans dX8_pass_32
theorem e142_33 : decode (ma_cd 142) 33 = .ok (.iload_n 1, 1) := (congrArg (fun b => decode b 33) cd_142).trans dX8_pass_33
theorem e142_34 : decode (ma_cd 142) 34 = .ok (.if_icmp .ge 30, 3) := (congrArg (fun b => decode b 34) cd_142).trans dX8_pass_34
theorem e142_37 : decode (ma_cd 142) 37 = .ok (.aload_n 0, 1) := (congrArg (fun b => decode b 37) cd_142).trans dX8_pass_37
theorem e142_38 : decode (ma_cd 142) 38 = .ok (.invokevirtual 155, 3) := (congrArg (fun b => decode b 38) cd_142).trans dX8_pass_38
theorem e142_41 : decode (ma_cd 142) 41 = .ok (.aload_n 0, 1) := (congrArg (fun b => decode b 41) cd_142).trans dX8_pass_41
theorem e142_42 : decode (ma_cd 142) 42 = .ok (.getfield 9, 3) := (congrArg (fun b => decode b 42) cd_142).trans dX8_pass_42
theorem e142_45 : decode (ma_cd 142) 45 = .ok (.iconst 2, 1) := (congrArg (fun b => decode b 45) cd_142).trans dX8_pass_45
theorem e142_46 : decode (ma_cd 142) 46 = .ok (.aload_n 0, 1) := (congrArg (fun b => decode b 46) cd_142).trans dX8_pass_46
theorem e142_47 : decode (ma_cd 142) 47 = .ok (.getfield 9, 3) := (congrArg (fun b => decode b 47) cd_142).trans dX8_pass_47
theorem e142_50 : decode (ma_cd 142) 50 = .ok (.iconst 2, 1) := (congrArg (fun b => decode b 50) cd_142).trans dX8_pass_50
theorem e142_51 : decode (ma_cd 142) 51 = .ok (.iaload, 1) := (congrArg (fun b => decode b 51) cd_142).trans dX8_pass_51
theorem e142_52 : decode (ma_cd 142) 52 = .ok (.ldc 158, 2) := (congrArg (fun b => decode b 52) cd_142).trans dX8_pass_52
theorem e142_54 : decode (ma_cd 142) 54 = .ok (.invokestatic 143, 3) := (congrArg (fun b => decode b 54) cd_142).trans dX8_pass_54
theorem e142_57 : decode (ma_cd 142) 57 = .ok (.iastore, 1) := (congrArg (fun b => decode b 57) cd_142).trans dX8_pass_57
theorem e142_58 : decode (ma_cd 142) 58 = .ok (.iinc 2 1, 3) := (congrArg (fun b => decode b 58) cd_142).trans dX8_pass_58
theorem e142_61 : decode (ma_cd 142) 61 = .ok (.goto (-29), 3) := (congrArg (fun b => decode b 61) cd_142).trans dX8_pass_61
theorem e142_64 : decode (ma_cd 142) 64 = .ok (.aload_n 0, 1) := (congrArg (fun b => decode b 64) cd_142).trans dX8_pass_64
theorem e142_65 : decode (ma_cd 142) 65 = .ok (.getfield 9, 3) := (congrArg (fun b => decode b 65) cd_142).trans dX8_pass_65
theorem e142_68 : decode (ma_cd 142) 68 = .ok (.iconst 0, 1) := (congrArg (fun b => decode b 68) cd_142).trans dX8_pass_68
theorem e142_69 : decode (ma_cd 142) 69 = .ok (.iaload, 1) := (congrArg (fun b => decode b 69) cd_142).trans dX8_pass_69
theorem e142_70 : decode (ma_cd 142) 70 = .ok (.ireturn, 1) := (congrArg (fun b => decode b 70) cd_142).trans dX8_pass_70
theorem Sh142_32 {ro : ma_RO} {d : Nat} : (∀ (v0 : Option Value) (v1 : Option Value) (x1 : Int32) (st : List Value) (σ : ma_H), ma_rn ro d 142 (32, [v0, v1, some (.int x1)], st, SH, σ) = ma_rn ro d 142 (33, [v0, v1, some (.int x1)], .int x1 :: st, SH, σ)) := fun v0 v1 x1 st σ => q_go e142_32 rfl rfl
theorem S142 {ro : ma_RO} {d : Nat} : (∀ (v0 : Option Value) (v2 : Option Value) (x1 : Int32) (st : List Value) (σ : ma_H), ma_rn ro d 142 (0, [v0, some (.int x1), v2], st, SH, σ) = ma_rn ro d 142 (1, [v0, some (.int x1), v2], .int x1 :: st, SH, σ)) ∧
  (∀ (v0 : Option Value) (v1 : Option Value) (v2 : Option Value) (st : List Value) (σ : ma_H), ma_rn ro d 142 (1, [v0, v1, v2], st, SH, σ) = ma_rn ro d 142 (2, [v0, v1, v2], .int (nI 0) :: st, SH, σ)) ∧
  (∀ (v0 : Option Value) (v1 : Option Value) (v2 : Option Value) (st : List Value) (σ : ma_H), ma_rn ro d 142 (2, [v0, v1, v2], st, SH, σ) = ma_rn ro d 142 (4, [v0, v1, v2], .int (nI 60) :: st, SH, σ)) ∧
  (∀ (v0 : Option Value) (v1 : Option Value) (v2 : Option Value) (x1 : Int32) (x2 : Int32) (x3 : Int32) (σ : ma_H), ma_rn ro (d + 1) 142 (4, [v0, v1, v2], .int x3 :: .int x2 :: .int x1 :: [], SH, σ) = (ma_ev ro d 102 [.int x1, .int x2, .int x3] SH σ).bind (fun q => ma_rn ro (d + 1) 142 (7, [v0, v1, v2], (q.1.toList ++ []), q.2.1, q.2.2))) ∧
  (∀ (v0 : Option Value) (v1 : Option Value) (v2 : Option Value) (x1 : Int32) (st : List Value) (σ : ma_H), ma_rn ro d 142 (7, [v0, v1, v2], .int x1 :: st, SH, σ) = if x1 = nI 0 then ma_rn ro d 142 (10, [v0, v1, v2], st, SH, σ) else ma_rn ro d 142 (13, [v0, v1, v2], st, SH, σ)) ∧
  (∀ (v0 : Option Value) (v1 : Option Value) (v2 : Option Value) (st : List Value) (σ : ma_H), ma_rn ro d 142 (10, [v0, v1, v2], st, SH, σ) = ma_rn ro d 142 (12, [v0, v1, v2], .int ((-2)) :: st, SH, σ)) ∧
  (∀ (v0 : Option Value) (v1 : Option Value) (v2 : Option Value) (x1 : Int32) (σ : ma_H), ma_rn ro d 142 (12, [v0, v1, v2], [.int x1], SH, σ) = some (some (.int x1), SH, σ)) ∧
  (∀ (v1 : Option Value) (v2 : Option Value) (a1 : Nat) (st : List Value) (σ : ma_H), ma_rn ro d 142 (13, [some (.ref a1), v1, v2], st, SH, σ) = ma_rn ro d 142 (14, [some (.ref a1), v1, v2], .ref a1 :: st, SH, σ)) ∧
  (∀ (v0 : Option Value) (v1 : Option Value) (v2 : Option Value) (a1 : Nat) (st : List Value) (σ : ma_H) (hc : hk_cls a1 = 8), ma_rn ro d 142 (14, [v0, v1, v2], .ref a1 :: st, SH, σ) = ma_rn ro d 142 (17, [v0, v1, v2], .ref (91) :: st, SH, σ)) ∧
  (∀ (v0 : Option Value) (v1 : Option Value) (v2 : Option Value) (st : List Value) (σ : ma_H), ma_rn ro d 142 (17, [v0, v1, v2], st, SH, σ) = ma_rn ro d 142 (18, [v0, v1, v2], .int (nI 0) :: st, SH, σ)) ∧
  (∀ (v0 : Option Value) (v1 : Option Value) (v2 : Option Value) (k : Nat) (a2 : Nat) (st : List Value) (σ : ma_H) (hk : k < hk_len a2), ma_rn ro d 142 (18, [v0, v1, v2], .int (nI k) :: .ref a2 :: st, SH, σ) = ma_rn ro d 142 (19, [v0, v1, v2], .int (σ a2 k) :: st, SH, σ)) ∧
  (∀ (v0 : Option Value) (v2 : Option Value) (x1 : Int32) (st : List Value) (σ : ma_H), ma_rn ro d 142 (19, [v0, some (.int x1), v2], st, SH, σ) = ma_rn ro d 142 (20, [v0, some (.int x1), v2], .int x1 :: st, SH, σ)) ∧
  (∀ (v0 : Option Value) (v1 : Option Value) (v2 : Option Value) (x1 : Int32) (x2 : Int32) (st : List Value) (σ : ma_H), ma_rn ro d 142 (20, [v0, v1, v2], .int x1 :: .int x2 :: st, SH, σ) = ma_rn ro d 142 (21, [v0, v1, v2], .int (x2 + x1) :: st, SH, σ)) ∧
  (∀ (v0 : Option Value) (v1 : Option Value) (v2 : Option Value) (st : List Value) (σ : ma_H), ma_rn ro d 142 (21, [v0, v1, v2], st, SH, σ) = ma_rn ro d 142 (24, [v0, v1, v2], .int (nI 9999) :: st, SH, σ)) ∧
  (∀ (v0 : Option Value) (v1 : Option Value) (v2 : Option Value) (x1 : Int32) (x2 : Int32) (st : List Value) (σ : ma_H), ma_rn ro d 142 (24, [v0, v1, v2], .int x1 :: .int x2 :: st, SH, σ) = if x1 < x2 then ma_rn ro d 142 (27, [v0, v1, v2], st, SH, σ) else ma_rn ro d 142 (30, [v0, v1, v2], st, SH, σ)) ∧
  (∀ (v0 : Option Value) (v1 : Option Value) (v2 : Option Value) (st : List Value) (σ : ma_H), ma_rn ro d 142 (27, [v0, v1, v2], st, SH, σ) = ma_rn ro d 142 (29, [v0, v1, v2], .int ((-3)) :: st, SH, σ)) ∧
  (∀ (v0 : Option Value) (v1 : Option Value) (v2 : Option Value) (x1 : Int32) (σ : ma_H), ma_rn ro d 142 (29, [v0, v1, v2], [.int x1], SH, σ) = some (some (.int x1), SH, σ)) ∧
  (∀ (v0 : Option Value) (v1 : Option Value) (v2 : Option Value) (st : List Value) (σ : ma_H), ma_rn ro d 142 (30, [v0, v1, v2], st, SH, σ) = ma_rn ro d 142 (31, [v0, v1, v2], .int (nI 0) :: st, SH, σ)) ∧
  (∀ (v0 : Option Value) (v2 : Option Value) (x9 : Int32) (x1 : Int32) (st : List Value) (σ : ma_H), ma_rn ro d 142 (31, [v0, some (.int x9), v2], .int x1 :: st, SH, σ) = ma_rn ro d 142 (32, [v0, some (.int x9), some (.int x1)], st, SH, σ)) ∧
  (∀ (v0 : Option Value) (v2 : Option Value) (x1 : Int32) (st : List Value) (σ : ma_H), ma_rn ro d 142 (33, [v0, some (.int x1), v2], st, SH, σ) = ma_rn ro d 142 (34, [v0, some (.int x1), v2], .int x1 :: st, SH, σ)) ∧
  (∀ (v0 : Option Value) (v1 : Option Value) (v2 : Option Value) (x1 : Int32) (x2 : Int32) (st : List Value) (σ : ma_H), ma_rn ro d 142 (34, [v0, v1, v2], .int x1 :: .int x2 :: st, SH, σ) = if x2 < x1 then ma_rn ro d 142 (37, [v0, v1, v2], st, SH, σ) else ma_rn ro d 142 (64, [v0, v1, v2], st, SH, σ)) ∧
  (∀ (v1 : Option Value) (v2 : Option Value) (a1 : Nat) (st : List Value) (σ : ma_H), ma_rn ro d 142 (37, [some (.ref a1), v1, v2], st, SH, σ) = ma_rn ro d 142 (38, [some (.ref a1), v1, v2], .ref a1 :: st, SH, σ)) ∧
  (∀ (v0 : Option Value) (v1 : Option Value) (v2 : Option Value) (a0 : Nat) (σ : ma_H) (hc : hk_cls a0 = 8), ma_rn ro (d + 1) 142 (38, [v0, v1, v2], .ref a0 :: [], SH, σ) = (ma_ev ro d 139 [.ref a0] SH σ).bind (fun q => ma_rn ro (d + 1) 142 (41, [v0, v1, v2], (q.1.toList ++ []), q.2.1, q.2.2))) ∧
  (∀ (v1 : Option Value) (v2 : Option Value) (a1 : Nat) (st : List Value) (σ : ma_H), ma_rn ro d 142 (41, [some (.ref a1), v1, v2], st, SH, σ) = ma_rn ro d 142 (42, [some (.ref a1), v1, v2], .ref a1 :: st, SH, σ)) ∧
  (∀ (v0 : Option Value) (v1 : Option Value) (v2 : Option Value) (a1 : Nat) (st : List Value) (σ : ma_H) (hc : hk_cls a1 = 8), ma_rn ro d 142 (42, [v0, v1, v2], .ref a1 :: st, SH, σ) = ma_rn ro d 142 (45, [v0, v1, v2], .ref (91) :: st, SH, σ)) ∧
  (∀ (v0 : Option Value) (v1 : Option Value) (v2 : Option Value) (st : List Value) (σ : ma_H), ma_rn ro d 142 (45, [v0, v1, v2], st, SH, σ) = ma_rn ro d 142 (46, [v0, v1, v2], .int (nI 2) :: st, SH, σ)) ∧
  (∀ (v1 : Option Value) (v2 : Option Value) (a1 : Nat) (st : List Value) (σ : ma_H), ma_rn ro d 142 (46, [some (.ref a1), v1, v2], st, SH, σ) = ma_rn ro d 142 (47, [some (.ref a1), v1, v2], .ref a1 :: st, SH, σ)) ∧
  (∀ (v0 : Option Value) (v1 : Option Value) (v2 : Option Value) (a1 : Nat) (st : List Value) (σ : ma_H) (hc : hk_cls a1 = 8), ma_rn ro d 142 (47, [v0, v1, v2], .ref a1 :: st, SH, σ) = ma_rn ro d 142 (50, [v0, v1, v2], .ref (91) :: st, SH, σ)) ∧
  (∀ (v0 : Option Value) (v1 : Option Value) (v2 : Option Value) (st : List Value) (σ : ma_H), ma_rn ro d 142 (50, [v0, v1, v2], st, SH, σ) = ma_rn ro d 142 (51, [v0, v1, v2], .int (nI 2) :: st, SH, σ)) ∧
  (∀ (v0 : Option Value) (v1 : Option Value) (v2 : Option Value) (k : Nat) (a2 : Nat) (st : List Value) (σ : ma_H) (hk : k < hk_len a2), ma_rn ro d 142 (51, [v0, v1, v2], .int (nI k) :: .ref a2 :: st, SH, σ) = ma_rn ro d 142 (52, [v0, v1, v2], .int (σ a2 k) :: st, SH, σ)) ∧
  (∀ (v0 : Option Value) (v1 : Option Value) (v2 : Option Value) (st : List Value) (σ : ma_H), ma_rn ro d 142 (52, [v0, v1, v2], st, SH, σ) = ma_rn ro d 142 (54, [v0, v1, v2], .int (nI 999999) :: st, SH, σ)) ∧
  (∀ (v0 : Option Value) (v1 : Option Value) (v2 : Option Value) (x20 : Int32) (a21 : Nat) (x1 : Int32) (x2 : Int32) (σ : ma_H), ma_rn ro (d + 1) 142 (54, [v0, v1, v2], .int x2 :: .int x1 :: .int x20 :: .ref a21 :: [], SH, σ) = (ma_ev ro d 104 [.int x1, .int x2] SH σ).bind (fun q => ma_rn ro (d + 1) 142 (57, [v0, v1, v2], (q.1.toList ++ (.int x20 :: .ref a21 :: [])), q.2.1, q.2.2))) ∧
  (∀ (v0 : Option Value) (v1 : Option Value) (v2 : Option Value) (x1 : Int32) (k : Nat) (a3 : Nat) (st : List Value) (σ : ma_H) (hk : k < hk_len a3), ma_rn ro d 142 (57, [v0, v1, v2], .int x1 :: .int (nI k) :: .ref a3 :: st, SH, σ) = ma_rn ro d 142 (58, [v0, v1, v2], st, SH, (ma_up σ a3 k x1))) ∧
  (∀ (v0 : Option Value) (x1 : Int32) (x9 : Int32) (st : List Value) (σ : ma_H), ma_rn ro d 142 (58, [v0, some (.int x9), some (.int x1)], st, SH, σ) = ma_rn ro d 142 (61, [v0, some (.int x9), some (.int (x1 + nI 1))], st, SH, σ)) ∧
  (∀ (v0 : Option Value) (v1 : Option Value) (v2 : Option Value) (st : List Value) (σ : ma_H), ma_rn ro d 142 (61, [v0, v1, v2], st, SH, σ) = ma_rn ro d 142 (32, [v0, v1, v2], st, SH, σ)) ∧
  (∀ (v1 : Option Value) (v2 : Option Value) (a1 : Nat) (st : List Value) (σ : ma_H), ma_rn ro d 142 (64, [some (.ref a1), v1, v2], st, SH, σ) = ma_rn ro d 142 (65, [some (.ref a1), v1, v2], .ref a1 :: st, SH, σ)) ∧
  (∀ (v0 : Option Value) (v1 : Option Value) (v2 : Option Value) (a1 : Nat) (st : List Value) (σ : ma_H) (hc : hk_cls a1 = 8), ma_rn ro d 142 (65, [v0, v1, v2], .ref a1 :: st, SH, σ) = ma_rn ro d 142 (68, [v0, v1, v2], .ref (91) :: st, SH, σ)) ∧
  (∀ (v0 : Option Value) (v1 : Option Value) (v2 : Option Value) (st : List Value) (σ : ma_H), ma_rn ro d 142 (68, [v0, v1, v2], st, SH, σ) = ma_rn ro d 142 (69, [v0, v1, v2], .int (nI 0) :: st, SH, σ)) ∧
  (∀ (v0 : Option Value) (v1 : Option Value) (v2 : Option Value) (k : Nat) (a2 : Nat) (st : List Value) (σ : ma_H) (hk : k < hk_len a2), ma_rn ro d 142 (69, [v0, v1, v2], .int (nI k) :: .ref a2 :: st, SH, σ) = ma_rn ro d 142 (70, [v0, v1, v2], .int (σ a2 k) :: st, SH, σ)) ∧
  (∀ (v0 : Option Value) (v1 : Option Value) (v2 : Option Value) (x1 : Int32) (σ : ma_H), ma_rn ro d 142 (70, [v0, v1, v2], [.int x1], SH, σ) = some (some (.int x1), SH, σ)) := ⟨fun v0 v2 x1 st σ => q_go e142_0 rfl rfl,
  fun v0 v1 v2 st σ => q_iconst e142_1 (by decide),
  fun v0 v1 v2 st σ => q_bipush e142_2 (by decide),
  fun v0 v1 v2 x1 x2 x3 σ => q_invS (as := [.int x1, .int x2, .int x3]) (rest := []) e142_4 o_142 bn_8_35 c_8_35 ⟨m_102.1, m_102.2.1, m_102.2.2.1⟩ rfl rfl (Nat.le_of_ble_eq_true rfl) (Nat.le_of_ble_eq_true rfl),
  fun v0 v1 v2 x1 st σ => (q_if e142_7 rfl).trans q_ne,
  fun v0 v1 v2 st σ => q_bipush e142_10 (by decide),
  fun v0 v1 v2 x1 σ => q_iret e142_12 r_142,
  fun v1 v2 a1 st σ => q_go e142_13 rfl rfl,
  fun v0 v1 v2 a1 st σ hc => q_getA e142_14 o_142 f_8_9 (by decide) hc,
  fun v0 v1 v2 st σ => q_iconst e142_17 (by decide),
  fun v0 v1 v2 k a2 st σ hk => q_iald e142_18 hk,
  fun v0 v2 x1 st σ => q_go e142_19 rfl rfl,
  fun v0 v1 v2 x1 x2 st σ => q_go e142_20 rfl rfl,
  fun v0 v1 v2 st σ => q_sipush e142_21 (by decide),
  fun v0 v1 v2 x1 x2 st σ => (q_cmp e142_24 rfl).trans q_ngt,
  fun v0 v1 v2 st σ => q_bipush e142_27 (by decide),
  fun v0 v1 v2 x1 σ => q_iret e142_29 r_142,
  fun v0 v1 v2 st σ => q_iconst e142_30 (by decide),
  fun v0 v2 x9 x1 st σ => q_go e142_31 rfl rfl,
  fun v0 v2 x1 st σ => q_go e142_33 rfl rfl,
  fun v0 v1 v2 x1 x2 st σ => (q_cmp e142_34 rfl).trans q_nlt,
  fun v1 v2 a1 st σ => q_go e142_37 rfl rfl,
  fun v0 v1 v2 a0 σ hc => q_invV (as := []) (rest := []) e142_38 o_142 bn_8_155 c_8_155 m_139 (by decide) rfl rfl (Nat.le_of_ble_eq_true rfl) (Nat.le_of_ble_eq_true rfl) hc,
  fun v1 v2 a1 st σ => q_go e142_41 rfl rfl,
  fun v0 v1 v2 a1 st σ hc => q_getA e142_42 o_142 f_8_9 (by decide) hc,
  fun v0 v1 v2 st σ => q_iconst e142_45 (by decide),
  fun v1 v2 a1 st σ => q_go e142_46 rfl rfl,
  fun v0 v1 v2 a1 st σ hc => q_getA e142_47 o_142 f_8_9 (by decide) hc,
  fun v0 v1 v2 st σ => q_iconst e142_50 (by decide),
  fun v0 v1 v2 k a2 st σ hk => q_iald e142_51 hk,
  fun v0 v1 v2 st σ => q_ldc e142_52 o_142 k_8_158,
  fun v0 v1 v2 x20 a21 x1 x2 σ => q_invS (as := [.int x1, .int x2]) (rest := .int x20 :: .ref a21 :: []) e142_54 o_142 bn_8_143 c_8_143 ⟨m_104.1, m_104.2.1, m_104.2.2.1⟩ rfl rfl (Nat.le_of_ble_eq_true rfl) (Nat.le_of_ble_eq_true rfl),
  fun v0 v1 v2 x1 k a3 st σ hk => q_iast e142_57 hk,
  fun v0 x1 x9 st σ => q_iinc e142_58 rfl rfl (by decide),
  fun v0 v1 v2 st σ => q_goto e142_61 rfl,
  fun v1 v2 a1 st σ => q_go e142_64 rfl rfl,
  fun v0 v1 v2 a1 st σ hc => q_getA e142_65 o_142 f_8_9 (by decide) hc,
  fun v0 v1 v2 st σ => q_iconst e142_68 (by decide),
  fun v0 v1 v2 k a2 st σ hk => q_iald e142_69 hk,
  fun v0 v1 v2 x1 σ => q_iret e142_70 r_142⟩
theorem E142 {ro : ma_RO} {d : Nat} (a0 : Nat) (x1 : Int32) (sh : List ma_Sh) (σ : ma_H) : ma_ev ro d 142 [.ref a0, .int x1] sh σ = ma_rn ro d 142 (0, [some (.ref a0), some (.int x1), none], [], sh, σ) := q_ent x_142 rfl
theorem e143_0 : decode (ma_cd 143) 0 = .ok (.iload_n 2, 1) := (congrArg (fun b => decode b 0) cd_143).trans dX8_on_0
theorem e143_1 : decode (ma_cd 143) 1 = .ok (.iconst 0, 1) := (congrArg (fun b => decode b 1) cd_143).trans dX8_on_1
theorem e143_2 : decode (ma_cd 143) 2 = .ok (.iconst 1, 1) := (congrArg (fun b => decode b 2) cd_143).trans dX8_on_2
theorem e143_3 : decode (ma_cd 143) 3 = .ok (.invokestatic 35, 3) := (congrArg (fun b => decode b 3) cd_143).trans dX8_on_3
theorem e143_6 : decode (ma_cd 143) 6 = .ok (.ifCond .ne 27, 3) := (congrArg (fun b => decode b 6) cd_143).trans dX8_on_6
theorem e143_9 : decode (ma_cd 143) 9 = .ok (.aload_n 0, 1) := (congrArg (fun b => decode b 9) cd_143).trans dX8_on_9
theorem e143_10 : decode (ma_cd 143) 10 = .ok (.iload_n 2, 1) := (congrArg (fun b => decode b 10) cd_143).trans dX8_on_10
theorem e143_11 : decode (ma_cd 143) 11 = .ok (.bipush 10, 2) := (congrArg (fun b => decode b 11) cd_143).trans dX8_on_11
theorem e143_13 : decode (ma_cd 143) 13 = .ok (.isub, 1) := (congrArg (fun b => decode b 13) cd_143).trans dX8_on_13
theorem e143_14 : decode (ma_cd 143) 14 = .ok (.invokevirtual 129, 3) := (congrArg (fun b => decode b 14) cd_143).trans dX8_on_14
theorem e143_17 : decode (ma_cd 143) 17 = .ok (.ifCond .ne 16, 3) := (congrArg (fun b => decode b 17) cd_143).trans dX8_on_17
theorem e143_20 : decode (ma_cd 143) 20 = .ok (.aload_n 0, 1) := (congrArg (fun b => decode b 20) cd_143).trans dX8_on_20
theorem e143_21 : decode (ma_cd 143) 21 = .ok (.iload_n 2, 1) := (congrArg (fun b => decode b 21) cd_143).trans dX8_on_21
theorem e143_22 : decode (ma_cd 143) 22 = .ok (.bipush 20, 2) := (congrArg (fun b => decode b 22) cd_143).trans dX8_on_22
theorem e143_24 : decode (ma_cd 143) 24 = .ok (.isub, 1) := (congrArg (fun b => decode b 24) cd_143).trans dX8_on_24
theorem e143_25 : decode (ma_cd 143) 25 = .ok (.invokevirtual 129, 3) := (congrArg (fun b => decode b 25) cd_143).trans dX8_on_25
theorem e143_28 : decode (ma_cd 143) 28 = .ok (.ifCond .ne 5, 3) := (congrArg (fun b => decode b 28) cd_143).trans dX8_on_28
theorem e143_31 : decode (ma_cd 143) 31 = .ok (.iconst (-1), 1) := (congrArg (fun b => decode b 31) cd_143).trans dX8_on_31
theorem e143_32 : decode (ma_cd 143) 32 = .ok (.ireturn, 1) := (congrArg (fun b => decode b 32) cd_143).trans dX8_on_32
theorem e143_33 : decode (ma_cd 143) 33 = .ok (.iload_n 1, 1) := (congrArg (fun b => decode b 33) cd_143).trans dX8_on_33
theorem e143_34 : decode (ma_cd 143) 34 = .ok (.iconst 0, 1) := (congrArg (fun b => decode b 34) cd_143).trans dX8_on_34
theorem e143_35 : decode (ma_cd 143) 35 = .ok (.bipush 60, 2) := (congrArg (fun b => decode b 35) cd_143).trans dX8_on_35
theorem e143_37 : decode (ma_cd 143) 37 = .ok (.invokestatic 35, 3) := (congrArg (fun b => decode b 37) cd_143).trans dX8_on_37
theorem e143_40 : decode (ma_cd 143) 40 = .ok (.ifCond .ne 6, 3) := (congrArg (fun b => decode b 40) cd_143).trans dX8_on_40
theorem e143_43 : decode (ma_cd 143) 43 = .ok (.bipush (-2), 2) := (congrArg (fun b => decode b 43) cd_143).trans dX8_on_43
theorem e143_45 : decode (ma_cd 143) 45 = .ok (.ireturn, 1) := (congrArg (fun b => decode b 45) cd_143).trans dX8_on_45
theorem e143_46 : decode (ma_cd 143) 46 = .ok (.aload_n 0, 1) := (congrArg (fun b => decode b 46) cd_143).trans dX8_on_46
theorem e143_47 : decode (ma_cd 143) 47 = .ok (.invokevirtual 159, 3) := (congrArg (fun b => decode b 47) cd_143).trans dX8_on_47
theorem e143_50 : decode (ma_cd 143) 50 = .ok (.aload_n 0, 1) := (congrArg (fun b => decode b 50) cd_143).trans dX8_on_50
theorem e143_51 : decode (ma_cd 143) 51 = .ok (.iload_n 1, 1) := (congrArg (fun b => decode b 51) cd_143).trans dX8_on_51
theorem e143_52 : decode (ma_cd 143) 52 = .ok (.invokevirtual 162, 3) := (congrArg (fun b => decode b 52) cd_143).trans dX8_on_52
theorem e143_55 : decode (ma_cd 143) 55 = .ok (.iload_n 2, 1) := (congrArg (fun b => decode b 55) cd_143).trans dX8_on_55
theorem e143_56 : decode (ma_cd 143) 56 = .ok (.ifCond .ne 10, 3) := (congrArg (fun b => decode b 56) cd_143).trans dX8_on_56
theorem e143_59 : decode (ma_cd 143) 59 = .ok (.aload_n 0, 1) := (congrArg (fun b => decode b 59) cd_143).trans dX8_on_59
theorem e143_60 : decode (ma_cd 143) 60 = .ok (.invokevirtual 149, 3) := (congrArg (fun b => decode b 60) cd_143).trans dX8_on_60
theorem e143_63 : decode (ma_cd 143) 63 = .ok (.goto 50, 3) := (congrArg (fun b => decode b 63) cd_143).trans dX8_on_63
theorem e143_66 : decode (ma_cd 143) 66 = .ok (.iload_n 2, 1) := (congrArg (fun b => decode b 66) cd_143).trans dX8_on_66
theorem e143_67 : decode (ma_cd 143) 67 = .ok (.iconst 1, 1) := (congrArg (fun b => decode b 67) cd_143).trans dX8_on_67
theorem e143_68 : decode (ma_cd 143) 68 = .ok (.if_icmp .ne 12, 3) := (congrArg (fun b => decode b 68) cd_143).trans dX8_on_68
theorem e143_71 : decode (ma_cd 143) 71 = .ok (.aload_n 0, 1) := (congrArg (fun b => decode b 71) cd_143).trans dX8_on_71
theorem e143_72 : decode (ma_cd 143) 72 = .ok (.getfield 9, 3) := (congrArg (fun b => decode b 72) cd_143).trans dX8_on_72
theorem e143_75 : decode (ma_cd 143) 75 = .ok (.iconst 2, 1) := (congrArg (fun b => decode b 75) cd_143).trans dX8_on_75
theorem e143_76 : decode (ma_cd 143) 76 = .ok (.iaload, 1) := (congrArg (fun b => decode b 76) cd_143).trans dX8_on_76
theorem e143_77 : decode (ma_cd 143) 77 = .ok (.goto 36, 3) := (congrArg (fun b => decode b 77) cd_143).trans dX8_on_77
theorem e143_80 : decode (ma_cd 143) 80 = .ok (.iload_n 2, 1) := (congrArg (fun b => decode b 80) cd_143).trans dX8_on_80
theorem e143_81 : decode (ma_cd 143) 81 = .ok (.bipush 20, 2) := (congrArg (fun b => decode b 81) cd_143).trans dX8_on_81
theorem e143_83 : decode (ma_cd 143) 83 = .ok (.if_icmp .ge 18, 3) := (congrArg (fun b => decode b 83) cd_143).trans dX8_on_83
theorem e143_86 : decode (ma_cd 143) 86 = .ok (.aload_n 0, 1) := (congrArg (fun b => decode b 86) cd_143).trans dX8_on_86
theorem e143_87 : decode (ma_cd 143) 87 = .ok (.getfield 9, 3) := (congrArg (fun b => decode b 87) cd_143).trans dX8_on_87
theorem e143_90 : decode (ma_cd 143) 90 = .ok (.bipush 9, 2) := (congrArg (fun b => decode b 90) cd_143).trans dX8_on_90
theorem e143_92 : decode (ma_cd 143) 92 = .ok (.iload_n 2, 1) := (congrArg (fun b => decode b 92) cd_143).trans dX8_on_92
theorem e143_93 : decode (ma_cd 143) 93 = .ok (.iadd, 1) := (congrArg (fun b => decode b 93) cd_143).trans dX8_on_93
theorem e143_94 : decode (ma_cd 143) 94 = .ok (.bipush 10, 2) := (congrArg (fun b => decode b 94) cd_143).trans dX8_on_94
theorem e143_96 : decode (ma_cd 143) 96 = .ok (.isub, 1) := (congrArg (fun b => decode b 96) cd_143).trans dX8_on_96
theorem e143_97 : decode (ma_cd 143) 97 = .ok (.iaload, 1) := (congrArg (fun b => decode b 97) cd_143).trans dX8_on_97
theorem e143_98 : decode (ma_cd 143) 98 = .ok (.goto 15, 3) := (congrArg (fun b => decode b 98) cd_143).trans dX8_on_98
theorem e143_101 : decode (ma_cd 143) 101 = .ok (.aload_n 0, 1) := (congrArg (fun b => decode b 101) cd_143).trans dX8_on_101
theorem e143_102 : decode (ma_cd 143) 102 = .ok (.getfield 9, 3) := (congrArg (fun b => decode b 102) cd_143).trans dX8_on_102
theorem e143_105 : decode (ma_cd 143) 105 = .ok (.bipush 15, 2) := (congrArg (fun b => decode b 105) cd_143).trans dX8_on_105
theorem e143_107 : decode (ma_cd 143) 107 = .ok (.iload_n 2, 1) := (congrArg (fun b => decode b 107) cd_143).trans dX8_on_107
theorem e143_108 : decode (ma_cd 143) 108 = .ok (.iadd, 1) := (congrArg (fun b => decode b 108) cd_143).trans dX8_on_108
theorem e143_109 : decode (ma_cd 143) 109 = .ok (.bipush 20, 2) := (congrArg (fun b => decode b 109) cd_143).trans dX8_on_109
theorem e143_111 : decode (ma_cd 143) 111 = .ok (.isub, 1) := (congrArg (fun b => decode b 111) cd_143).trans dX8_on_111
theorem e143_112 : decode (ma_cd 143) 112 = .ok (.iaload, 1) := (congrArg (fun b => decode b 112) cd_143).trans dX8_on_112
theorem e143_113 : decode (ma_cd 143) 113 = .ok (.istore_n 3, 1) := (congrArg (fun b => decode b 113) cd_143).trans dX8_on_113
theorem e143_114 : decode (ma_cd 143) 114 = .ok (.aload_n 0, 1) := (congrArg (fun b => decode b 114) cd_143).trans dX8_on_114
theorem e143_115 : decode (ma_cd 143) 115 = .ok (.invokevirtual 165, 3) := (congrArg (fun b => decode b 115) cd_143).trans dX8_on_115
theorem e143_118 : decode (ma_cd 143) 118 = .ok (.iload_n 3, 1) := (congrArg (fun b => decode b 118) cd_143).trans dX8_on_118
theorem e143_119 : decode (ma_cd 143) 119 = .ok (.ireturn, 1) := (congrArg (fun b => decode b 119) cd_143).trans dX8_on_119
theorem S143 {ro : ma_RO} {d : Nat} : (∀ (v0 : Option Value) (v1 : Option Value) (v3 : Option Value) (x1 : Int32) (st : List Value) (σ : ma_H), ma_rn ro d 143 (0, [v0, v1, some (.int x1), v3], st, SH, σ) = ma_rn ro d 143 (1, [v0, v1, some (.int x1), v3], .int x1 :: st, SH, σ)) ∧
  (∀ (v0 : Option Value) (v1 : Option Value) (v2 : Option Value) (v3 : Option Value) (st : List Value) (σ : ma_H), ma_rn ro d 143 (1, [v0, v1, v2, v3], st, SH, σ) = ma_rn ro d 143 (2, [v0, v1, v2, v3], .int (nI 0) :: st, SH, σ)) ∧
  (∀ (v0 : Option Value) (v1 : Option Value) (v2 : Option Value) (v3 : Option Value) (st : List Value) (σ : ma_H), ma_rn ro d 143 (2, [v0, v1, v2, v3], st, SH, σ) = ma_rn ro d 143 (3, [v0, v1, v2, v3], .int (nI 1) :: st, SH, σ)) ∧
  (∀ (v0 : Option Value) (v1 : Option Value) (v2 : Option Value) (v3 : Option Value) (x1 : Int32) (x2 : Int32) (x3 : Int32) (σ : ma_H), ma_rn ro (d + 1) 143 (3, [v0, v1, v2, v3], .int x3 :: .int x2 :: .int x1 :: [], SH, σ) = (ma_ev ro d 102 [.int x1, .int x2, .int x3] SH σ).bind (fun q => ma_rn ro (d + 1) 143 (6, [v0, v1, v2, v3], (q.1.toList ++ []), q.2.1, q.2.2))) ∧
  (∀ (v0 : Option Value) (v1 : Option Value) (v2 : Option Value) (v3 : Option Value) (x1 : Int32) (st : List Value) (σ : ma_H), ma_rn ro d 143 (6, [v0, v1, v2, v3], .int x1 :: st, SH, σ) = if x1 = nI 0 then ma_rn ro d 143 (9, [v0, v1, v2, v3], st, SH, σ) else ma_rn ro d 143 (33, [v0, v1, v2, v3], st, SH, σ)) ∧
  (∀ (v1 : Option Value) (v2 : Option Value) (v3 : Option Value) (a1 : Nat) (st : List Value) (σ : ma_H), ma_rn ro d 143 (9, [some (.ref a1), v1, v2, v3], st, SH, σ) = ma_rn ro d 143 (10, [some (.ref a1), v1, v2, v3], .ref a1 :: st, SH, σ)) ∧
  (∀ (v0 : Option Value) (v1 : Option Value) (v3 : Option Value) (x1 : Int32) (st : List Value) (σ : ma_H), ma_rn ro d 143 (10, [v0, v1, some (.int x1), v3], st, SH, σ) = ma_rn ro d 143 (11, [v0, v1, some (.int x1), v3], .int x1 :: st, SH, σ)) ∧
  (∀ (v0 : Option Value) (v1 : Option Value) (v2 : Option Value) (v3 : Option Value) (st : List Value) (σ : ma_H), ma_rn ro d 143 (11, [v0, v1, v2, v3], st, SH, σ) = ma_rn ro d 143 (13, [v0, v1, v2, v3], .int (nI 10) :: st, SH, σ)) ∧
  (∀ (v0 : Option Value) (v1 : Option Value) (v2 : Option Value) (v3 : Option Value) (x1 : Int32) (x2 : Int32) (st : List Value) (σ : ma_H), ma_rn ro d 143 (13, [v0, v1, v2, v3], .int x1 :: .int x2 :: st, SH, σ) = ma_rn ro d 143 (14, [v0, v1, v2, v3], .int (x2 - x1) :: st, SH, σ)) ∧
  (∀ (v0 : Option Value) (v1 : Option Value) (v2 : Option Value) (v3 : Option Value) (x1 : Int32) (a0 : Nat) (σ : ma_H) (hc : hk_cls a0 = 8), ma_rn ro (d + 1) 143 (14, [v0, v1, v2, v3], .int x1 :: .ref a0 :: [], SH, σ) = (ma_ev ro d 103 [.ref a0, .int x1] SH σ).bind (fun q => ma_rn ro (d + 1) 143 (17, [v0, v1, v2, v3], (q.1.toList ++ []), q.2.1, q.2.2))) ∧
  (∀ (v0 : Option Value) (v1 : Option Value) (v2 : Option Value) (v3 : Option Value) (x1 : Int32) (st : List Value) (σ : ma_H), ma_rn ro d 143 (17, [v0, v1, v2, v3], .int x1 :: st, SH, σ) = if x1 = nI 0 then ma_rn ro d 143 (20, [v0, v1, v2, v3], st, SH, σ) else ma_rn ro d 143 (33, [v0, v1, v2, v3], st, SH, σ)) ∧
  (∀ (v1 : Option Value) (v2 : Option Value) (v3 : Option Value) (a1 : Nat) (st : List Value) (σ : ma_H), ma_rn ro d 143 (20, [some (.ref a1), v1, v2, v3], st, SH, σ) = ma_rn ro d 143 (21, [some (.ref a1), v1, v2, v3], .ref a1 :: st, SH, σ)) ∧
  (∀ (v0 : Option Value) (v1 : Option Value) (v3 : Option Value) (x1 : Int32) (st : List Value) (σ : ma_H), ma_rn ro d 143 (21, [v0, v1, some (.int x1), v3], st, SH, σ) = ma_rn ro d 143 (22, [v0, v1, some (.int x1), v3], .int x1 :: st, SH, σ)) ∧
  (∀ (v0 : Option Value) (v1 : Option Value) (v2 : Option Value) (v3 : Option Value) (st : List Value) (σ : ma_H), ma_rn ro d 143 (22, [v0, v1, v2, v3], st, SH, σ) = ma_rn ro d 143 (24, [v0, v1, v2, v3], .int (nI 20) :: st, SH, σ)) ∧
  (∀ (v0 : Option Value) (v1 : Option Value) (v2 : Option Value) (v3 : Option Value) (x1 : Int32) (x2 : Int32) (st : List Value) (σ : ma_H), ma_rn ro d 143 (24, [v0, v1, v2, v3], .int x1 :: .int x2 :: st, SH, σ) = ma_rn ro d 143 (25, [v0, v1, v2, v3], .int (x2 - x1) :: st, SH, σ)) ∧
  (∀ (v0 : Option Value) (v1 : Option Value) (v2 : Option Value) (v3 : Option Value) (x1 : Int32) (a0 : Nat) (σ : ma_H) (hc : hk_cls a0 = 8), ma_rn ro (d + 1) 143 (25, [v0, v1, v2, v3], .int x1 :: .ref a0 :: [], SH, σ) = (ma_ev ro d 103 [.ref a0, .int x1] SH σ).bind (fun q => ma_rn ro (d + 1) 143 (28, [v0, v1, v2, v3], (q.1.toList ++ []), q.2.1, q.2.2))) ∧
  (∀ (v0 : Option Value) (v1 : Option Value) (v2 : Option Value) (v3 : Option Value) (x1 : Int32) (st : List Value) (σ : ma_H), ma_rn ro d 143 (28, [v0, v1, v2, v3], .int x1 :: st, SH, σ) = if x1 = nI 0 then ma_rn ro d 143 (31, [v0, v1, v2, v3], st, SH, σ) else ma_rn ro d 143 (33, [v0, v1, v2, v3], st, SH, σ)) ∧
  (∀ (v0 : Option Value) (v1 : Option Value) (v2 : Option Value) (v3 : Option Value) (st : List Value) (σ : ma_H), ma_rn ro d 143 (31, [v0, v1, v2, v3], st, SH, σ) = ma_rn ro d 143 (32, [v0, v1, v2, v3], .int ((-1)) :: st, SH, σ)) ∧
  (∀ (v0 : Option Value) (v1 : Option Value) (v2 : Option Value) (v3 : Option Value) (x1 : Int32) (σ : ma_H), ma_rn ro d 143 (32, [v0, v1, v2, v3], [.int x1], SH, σ) = some (some (.int x1), SH, σ)) ∧
  (∀ (v0 : Option Value) (v2 : Option Value) (v3 : Option Value) (x1 : Int32) (st : List Value) (σ : ma_H), ma_rn ro d 143 (33, [v0, some (.int x1), v2, v3], st, SH, σ) = ma_rn ro d 143 (34, [v0, some (.int x1), v2, v3], .int x1 :: st, SH, σ)) ∧
  (∀ (v0 : Option Value) (v1 : Option Value) (v2 : Option Value) (v3 : Option Value) (st : List Value) (σ : ma_H), ma_rn ro d 143 (34, [v0, v1, v2, v3], st, SH, σ) = ma_rn ro d 143 (35, [v0, v1, v2, v3], .int (nI 0) :: st, SH, σ)) ∧
  (∀ (v0 : Option Value) (v1 : Option Value) (v2 : Option Value) (v3 : Option Value) (st : List Value) (σ : ma_H), ma_rn ro d 143 (35, [v0, v1, v2, v3], st, SH, σ) = ma_rn ro d 143 (37, [v0, v1, v2, v3], .int (nI 60) :: st, SH, σ)) ∧
  (∀ (v0 : Option Value) (v1 : Option Value) (v2 : Option Value) (v3 : Option Value) (x1 : Int32) (x2 : Int32) (x3 : Int32) (σ : ma_H), ma_rn ro (d + 1) 143 (37, [v0, v1, v2, v3], .int x3 :: .int x2 :: .int x1 :: [], SH, σ) = (ma_ev ro d 102 [.int x1, .int x2, .int x3] SH σ).bind (fun q => ma_rn ro (d + 1) 143 (40, [v0, v1, v2, v3], (q.1.toList ++ []), q.2.1, q.2.2))) ∧
  (∀ (v0 : Option Value) (v1 : Option Value) (v2 : Option Value) (v3 : Option Value) (x1 : Int32) (st : List Value) (σ : ma_H), ma_rn ro d 143 (40, [v0, v1, v2, v3], .int x1 :: st, SH, σ) = if x1 = nI 0 then ma_rn ro d 143 (43, [v0, v1, v2, v3], st, SH, σ) else ma_rn ro d 143 (46, [v0, v1, v2, v3], st, SH, σ)) ∧
  (∀ (v0 : Option Value) (v1 : Option Value) (v2 : Option Value) (v3 : Option Value) (st : List Value) (σ : ma_H), ma_rn ro d 143 (43, [v0, v1, v2, v3], st, SH, σ) = ma_rn ro d 143 (45, [v0, v1, v2, v3], .int ((-2)) :: st, SH, σ)) ∧
  (∀ (v0 : Option Value) (v1 : Option Value) (v2 : Option Value) (v3 : Option Value) (x1 : Int32) (σ : ma_H), ma_rn ro d 143 (45, [v0, v1, v2, v3], [.int x1], SH, σ) = some (some (.int x1), SH, σ)) ∧
  (∀ (v1 : Option Value) (v2 : Option Value) (v3 : Option Value) (a1 : Nat) (st : List Value) (σ : ma_H), ma_rn ro d 143 (46, [some (.ref a1), v1, v2, v3], st, SH, σ) = ma_rn ro d 143 (47, [some (.ref a1), v1, v2, v3], .ref a1 :: st, SH, σ)) ∧
  (∀ (v0 : Option Value) (v1 : Option Value) (v2 : Option Value) (v3 : Option Value) (a0 : Nat) (σ : ma_H) (hc : hk_cls a0 = 8), ma_rn ro (d + 1) 143 (47, [v0, v1, v2, v3], .ref a0 :: [], SH, σ) = (ma_ev ro d 105 [.ref a0] SH σ).bind (fun q => ma_rn ro (d + 1) 143 (50, [v0, v1, v2, v3], (q.1.toList ++ []), q.2.1, q.2.2))) ∧
  (∀ (v1 : Option Value) (v2 : Option Value) (v3 : Option Value) (a1 : Nat) (st : List Value) (σ : ma_H), ma_rn ro d 143 (50, [some (.ref a1), v1, v2, v3], st, SH, σ) = ma_rn ro d 143 (51, [some (.ref a1), v1, v2, v3], .ref a1 :: st, SH, σ)) ∧
  (∀ (v0 : Option Value) (v2 : Option Value) (v3 : Option Value) (x1 : Int32) (st : List Value) (σ : ma_H), ma_rn ro d 143 (51, [v0, some (.int x1), v2, v3], st, SH, σ) = ma_rn ro d 143 (52, [v0, some (.int x1), v2, v3], .int x1 :: st, SH, σ)) ∧
  (∀ (v0 : Option Value) (v1 : Option Value) (v2 : Option Value) (v3 : Option Value) (x1 : Int32) (a0 : Nat) (σ : ma_H) (hc : hk_cls a0 = 8), ma_rn ro (d + 1) 143 (52, [v0, v1, v2, v3], .int x1 :: .ref a0 :: [], SH, σ) = (ma_ev ro d 140 [.ref a0, .int x1] SH σ).bind (fun q => ma_rn ro (d + 1) 143 (55, [v0, v1, v2, v3], (q.1.toList ++ []), q.2.1, q.2.2))) ∧
  (∀ (v0 : Option Value) (v1 : Option Value) (v3 : Option Value) (x1 : Int32) (st : List Value) (σ : ma_H), ma_rn ro d 143 (55, [v0, v1, some (.int x1), v3], st, SH, σ) = ma_rn ro d 143 (56, [v0, v1, some (.int x1), v3], .int x1 :: st, SH, σ)) ∧
  (∀ (v0 : Option Value) (v1 : Option Value) (v2 : Option Value) (v3 : Option Value) (x1 : Int32) (st : List Value) (σ : ma_H), ma_rn ro d 143 (56, [v0, v1, v2, v3], .int x1 :: st, SH, σ) = if x1 = nI 0 then ma_rn ro d 143 (59, [v0, v1, v2, v3], st, SH, σ) else ma_rn ro d 143 (66, [v0, v1, v2, v3], st, SH, σ)) ∧
  (∀ (v1 : Option Value) (v2 : Option Value) (v3 : Option Value) (a1 : Nat) (st : List Value) (σ : ma_H), ma_rn ro d 143 (59, [some (.ref a1), v1, v2, v3], st, SH, σ) = ma_rn ro d 143 (60, [some (.ref a1), v1, v2, v3], .ref a1 :: st, SH, σ)) ∧
  (∀ (v0 : Option Value) (v1 : Option Value) (v2 : Option Value) (v3 : Option Value) (a0 : Nat) (σ : ma_H) (hc : hk_cls a0 = 8), ma_rn ro (d + 1) 143 (60, [v0, v1, v2, v3], .ref a0 :: [], SH, σ) = (ma_ev ro d 136 [.ref a0] SH σ).bind (fun q => ma_rn ro (d + 1) 143 (63, [v0, v1, v2, v3], (q.1.toList ++ []), q.2.1, q.2.2))) ∧
  (∀ (v0 : Option Value) (v1 : Option Value) (v2 : Option Value) (v3 : Option Value) (st : List Value) (σ : ma_H), ma_rn ro d 143 (63, [v0, v1, v2, v3], st, SH, σ) = ma_rn ro d 143 (113, [v0, v1, v2, v3], st, SH, σ)) ∧
  (∀ (v0 : Option Value) (v1 : Option Value) (v3 : Option Value) (x1 : Int32) (st : List Value) (σ : ma_H), ma_rn ro d 143 (66, [v0, v1, some (.int x1), v3], st, SH, σ) = ma_rn ro d 143 (67, [v0, v1, some (.int x1), v3], .int x1 :: st, SH, σ)) ∧
  (∀ (v0 : Option Value) (v1 : Option Value) (v2 : Option Value) (v3 : Option Value) (st : List Value) (σ : ma_H), ma_rn ro d 143 (67, [v0, v1, v2, v3], st, SH, σ) = ma_rn ro d 143 (68, [v0, v1, v2, v3], .int (nI 1) :: st, SH, σ)) ∧
  (∀ (v0 : Option Value) (v1 : Option Value) (v2 : Option Value) (v3 : Option Value) (x1 : Int32) (x2 : Int32) (st : List Value) (σ : ma_H), ma_rn ro d 143 (68, [v0, v1, v2, v3], .int x1 :: .int x2 :: st, SH, σ) = if x2 = x1 then ma_rn ro d 143 (71, [v0, v1, v2, v3], st, SH, σ) else ma_rn ro d 143 (80, [v0, v1, v2, v3], st, SH, σ)) ∧
  (∀ (v1 : Option Value) (v2 : Option Value) (v3 : Option Value) (a1 : Nat) (st : List Value) (σ : ma_H), ma_rn ro d 143 (71, [some (.ref a1), v1, v2, v3], st, SH, σ) = ma_rn ro d 143 (72, [some (.ref a1), v1, v2, v3], .ref a1 :: st, SH, σ)) ∧
  (∀ (v0 : Option Value) (v1 : Option Value) (v2 : Option Value) (v3 : Option Value) (a1 : Nat) (st : List Value) (σ : ma_H) (hc : hk_cls a1 = 8), ma_rn ro d 143 (72, [v0, v1, v2, v3], .ref a1 :: st, SH, σ) = ma_rn ro d 143 (75, [v0, v1, v2, v3], .ref (91) :: st, SH, σ)) ∧
  (∀ (v0 : Option Value) (v1 : Option Value) (v2 : Option Value) (v3 : Option Value) (st : List Value) (σ : ma_H), ma_rn ro d 143 (75, [v0, v1, v2, v3], st, SH, σ) = ma_rn ro d 143 (76, [v0, v1, v2, v3], .int (nI 2) :: st, SH, σ)) ∧
  (∀ (v0 : Option Value) (v1 : Option Value) (v2 : Option Value) (v3 : Option Value) (k : Nat) (a2 : Nat) (st : List Value) (σ : ma_H) (hk : k < hk_len a2), ma_rn ro d 143 (76, [v0, v1, v2, v3], .int (nI k) :: .ref a2 :: st, SH, σ) = ma_rn ro d 143 (77, [v0, v1, v2, v3], .int (σ a2 k) :: st, SH, σ)) ∧
  (∀ (v0 : Option Value) (v1 : Option Value) (v2 : Option Value) (v3 : Option Value) (st : List Value) (σ : ma_H), ma_rn ro d 143 (77, [v0, v1, v2, v3], st, SH, σ) = ma_rn ro d 143 (113, [v0, v1, v2, v3], st, SH, σ)) ∧
  (∀ (v0 : Option Value) (v1 : Option Value) (v3 : Option Value) (x1 : Int32) (st : List Value) (σ : ma_H), ma_rn ro d 143 (80, [v0, v1, some (.int x1), v3], st, SH, σ) = ma_rn ro d 143 (81, [v0, v1, some (.int x1), v3], .int x1 :: st, SH, σ)) ∧
  (∀ (v0 : Option Value) (v1 : Option Value) (v2 : Option Value) (v3 : Option Value) (st : List Value) (σ : ma_H), ma_rn ro d 143 (81, [v0, v1, v2, v3], st, SH, σ) = ma_rn ro d 143 (83, [v0, v1, v2, v3], .int (nI 20) :: st, SH, σ)) ∧
  (∀ (v0 : Option Value) (v1 : Option Value) (v2 : Option Value) (v3 : Option Value) (x1 : Int32) (x2 : Int32) (st : List Value) (σ : ma_H), ma_rn ro d 143 (83, [v0, v1, v2, v3], .int x1 :: .int x2 :: st, SH, σ) = if x2 < x1 then ma_rn ro d 143 (86, [v0, v1, v2, v3], st, SH, σ) else ma_rn ro d 143 (101, [v0, v1, v2, v3], st, SH, σ)) ∧
  (∀ (v1 : Option Value) (v2 : Option Value) (v3 : Option Value) (a1 : Nat) (st : List Value) (σ : ma_H), ma_rn ro d 143 (86, [some (.ref a1), v1, v2, v3], st, SH, σ) = ma_rn ro d 143 (87, [some (.ref a1), v1, v2, v3], .ref a1 :: st, SH, σ)) ∧
  (∀ (v0 : Option Value) (v1 : Option Value) (v2 : Option Value) (v3 : Option Value) (a1 : Nat) (st : List Value) (σ : ma_H) (hc : hk_cls a1 = 8), ma_rn ro d 143 (87, [v0, v1, v2, v3], .ref a1 :: st, SH, σ) = ma_rn ro d 143 (90, [v0, v1, v2, v3], .ref (91) :: st, SH, σ)) ∧
  (∀ (v0 : Option Value) (v1 : Option Value) (v2 : Option Value) (v3 : Option Value) (st : List Value) (σ : ma_H), ma_rn ro d 143 (90, [v0, v1, v2, v3], st, SH, σ) = ma_rn ro d 143 (92, [v0, v1, v2, v3], .int (nI 9) :: st, SH, σ)) ∧
  (∀ (v0 : Option Value) (v1 : Option Value) (v3 : Option Value) (x1 : Int32) (st : List Value) (σ : ma_H), ma_rn ro d 143 (92, [v0, v1, some (.int x1), v3], st, SH, σ) = ma_rn ro d 143 (93, [v0, v1, some (.int x1), v3], .int x1 :: st, SH, σ)) ∧
  (∀ (v0 : Option Value) (v1 : Option Value) (v2 : Option Value) (v3 : Option Value) (x1 : Int32) (x2 : Int32) (st : List Value) (σ : ma_H), ma_rn ro d 143 (93, [v0, v1, v2, v3], .int x1 :: .int x2 :: st, SH, σ) = ma_rn ro d 143 (94, [v0, v1, v2, v3], .int (x2 + x1) :: st, SH, σ)) ∧
  (∀ (v0 : Option Value) (v1 : Option Value) (v2 : Option Value) (v3 : Option Value) (st : List Value) (σ : ma_H), ma_rn ro d 143 (94, [v0, v1, v2, v3], st, SH, σ) = ma_rn ro d 143 (96, [v0, v1, v2, v3], .int (nI 10) :: st, SH, σ)) ∧
  (∀ (v0 : Option Value) (v1 : Option Value) (v2 : Option Value) (v3 : Option Value) (x1 : Int32) (x2 : Int32) (st : List Value) (σ : ma_H), ma_rn ro d 143 (96, [v0, v1, v2, v3], .int x1 :: .int x2 :: st, SH, σ) = ma_rn ro d 143 (97, [v0, v1, v2, v3], .int (x2 - x1) :: st, SH, σ)) ∧
  (∀ (v0 : Option Value) (v1 : Option Value) (v2 : Option Value) (v3 : Option Value) (k : Nat) (a2 : Nat) (st : List Value) (σ : ma_H) (hk : k < hk_len a2), ma_rn ro d 143 (97, [v0, v1, v2, v3], .int (nI k) :: .ref a2 :: st, SH, σ) = ma_rn ro d 143 (98, [v0, v1, v2, v3], .int (σ a2 k) :: st, SH, σ)) ∧
  (∀ (v0 : Option Value) (v1 : Option Value) (v2 : Option Value) (v3 : Option Value) (st : List Value) (σ : ma_H), ma_rn ro d 143 (98, [v0, v1, v2, v3], st, SH, σ) = ma_rn ro d 143 (113, [v0, v1, v2, v3], st, SH, σ)) ∧
  (∀ (v1 : Option Value) (v2 : Option Value) (v3 : Option Value) (a1 : Nat) (st : List Value) (σ : ma_H), ma_rn ro d 143 (101, [some (.ref a1), v1, v2, v3], st, SH, σ) = ma_rn ro d 143 (102, [some (.ref a1), v1, v2, v3], .ref a1 :: st, SH, σ)) ∧
  (∀ (v0 : Option Value) (v1 : Option Value) (v2 : Option Value) (v3 : Option Value) (a1 : Nat) (st : List Value) (σ : ma_H) (hc : hk_cls a1 = 8), ma_rn ro d 143 (102, [v0, v1, v2, v3], .ref a1 :: st, SH, σ) = ma_rn ro d 143 (105, [v0, v1, v2, v3], .ref (91) :: st, SH, σ)) ∧
  (∀ (v0 : Option Value) (v1 : Option Value) (v2 : Option Value) (v3 : Option Value) (st : List Value) (σ : ma_H), ma_rn ro d 143 (105, [v0, v1, v2, v3], st, SH, σ) = ma_rn ro d 143 (107, [v0, v1, v2, v3], .int (nI 15) :: st, SH, σ)) ∧
  (∀ (v0 : Option Value) (v1 : Option Value) (v3 : Option Value) (x1 : Int32) (st : List Value) (σ : ma_H), ma_rn ro d 143 (107, [v0, v1, some (.int x1), v3], st, SH, σ) = ma_rn ro d 143 (108, [v0, v1, some (.int x1), v3], .int x1 :: st, SH, σ)) ∧
  (∀ (v0 : Option Value) (v1 : Option Value) (v2 : Option Value) (v3 : Option Value) (x1 : Int32) (x2 : Int32) (st : List Value) (σ : ma_H), ma_rn ro d 143 (108, [v0, v1, v2, v3], .int x1 :: .int x2 :: st, SH, σ) = ma_rn ro d 143 (109, [v0, v1, v2, v3], .int (x2 + x1) :: st, SH, σ)) ∧
  (∀ (v0 : Option Value) (v1 : Option Value) (v2 : Option Value) (v3 : Option Value) (st : List Value) (σ : ma_H), ma_rn ro d 143 (109, [v0, v1, v2, v3], st, SH, σ) = ma_rn ro d 143 (111, [v0, v1, v2, v3], .int (nI 20) :: st, SH, σ)) ∧
  (∀ (v0 : Option Value) (v1 : Option Value) (v2 : Option Value) (v3 : Option Value) (x1 : Int32) (x2 : Int32) (st : List Value) (σ : ma_H), ma_rn ro d 143 (111, [v0, v1, v2, v3], .int x1 :: .int x2 :: st, SH, σ) = ma_rn ro d 143 (112, [v0, v1, v2, v3], .int (x2 - x1) :: st, SH, σ)) ∧
  (∀ (v0 : Option Value) (v1 : Option Value) (v2 : Option Value) (v3 : Option Value) (k : Nat) (a2 : Nat) (st : List Value) (σ : ma_H) (hk : k < hk_len a2), ma_rn ro d 143 (112, [v0, v1, v2, v3], .int (nI k) :: .ref a2 :: st, SH, σ) = ma_rn ro d 143 (113, [v0, v1, v2, v3], .int (σ a2 k) :: st, SH, σ)) ∧
  (∀ (v0 : Option Value) (v1 : Option Value) (v3 : Option Value) (x9 : Int32) (x1 : Int32) (st : List Value) (σ : ma_H), ma_rn ro d 143 (113, [v0, v1, some (.int x9), v3], .int x1 :: st, SH, σ) = ma_rn ro d 143 (114, [v0, v1, some (.int x9), some (.int x1)], st, SH, σ)) ∧
  (∀ (v1 : Option Value) (v2 : Option Value) (v3 : Option Value) (a1 : Nat) (st : List Value) (σ : ma_H), ma_rn ro d 143 (114, [some (.ref a1), v1, v2, v3], st, SH, σ) = ma_rn ro d 143 (115, [some (.ref a1), v1, v2, v3], .ref a1 :: st, SH, σ)) ∧
  (∀ (v0 : Option Value) (v1 : Option Value) (v2 : Option Value) (v3 : Option Value) (a0 : Nat) (σ : ma_H) (hc : hk_cls a0 = 8), ma_rn ro (d + 1) 143 (115, [v0, v1, v2, v3], .ref a0 :: [], SH, σ) = (ma_ev ro d 106 [.ref a0] SH σ).bind (fun q => ma_rn ro (d + 1) 143 (118, [v0, v1, v2, v3], (q.1.toList ++ []), q.2.1, q.2.2))) ∧
  (∀ (v0 : Option Value) (v1 : Option Value) (v2 : Option Value) (x1 : Int32) (st : List Value) (σ : ma_H), ma_rn ro d 143 (118, [v0, v1, v2, some (.int x1)], st, SH, σ) = ma_rn ro d 143 (119, [v0, v1, v2, some (.int x1)], .int x1 :: st, SH, σ)) ∧
  (∀ (v0 : Option Value) (v1 : Option Value) (v2 : Option Value) (v3 : Option Value) (x1 : Int32) (σ : ma_H), ma_rn ro d 143 (119, [v0, v1, v2, v3], [.int x1], SH, σ) = some (some (.int x1), SH, σ)) := ⟨fun v0 v1 v3 x1 st σ => q_go e143_0 rfl rfl,
  fun v0 v1 v2 v3 st σ => q_iconst e143_1 (by decide),
  fun v0 v1 v2 v3 st σ => q_iconst e143_2 (by decide),
  fun v0 v1 v2 v3 x1 x2 x3 σ => q_invS (as := [.int x1, .int x2, .int x3]) (rest := []) e143_3 o_143 bn_8_35 c_8_35 ⟨m_102.1, m_102.2.1, m_102.2.2.1⟩ rfl rfl (Nat.le_of_ble_eq_true rfl) (Nat.le_of_ble_eq_true rfl),
  fun v0 v1 v2 v3 x1 st σ => (q_if e143_6 rfl).trans q_ne,
  fun v1 v2 v3 a1 st σ => q_go e143_9 rfl rfl,
  fun v0 v1 v3 x1 st σ => q_go e143_10 rfl rfl,
  fun v0 v1 v2 v3 st σ => q_bipush e143_11 (by decide),
  fun v0 v1 v2 v3 x1 x2 st σ => q_go e143_13 rfl rfl,
  fun v0 v1 v2 v3 x1 a0 σ hc => q_invV (as := [.int x1]) (rest := []) e143_14 o_143 bn_8_129 c_8_129 m_103 (by decide) rfl rfl (Nat.le_of_ble_eq_true rfl) (Nat.le_of_ble_eq_true rfl) hc,
  fun v0 v1 v2 v3 x1 st σ => (q_if e143_17 rfl).trans q_ne,
  fun v1 v2 v3 a1 st σ => q_go e143_20 rfl rfl,
  fun v0 v1 v3 x1 st σ => q_go e143_21 rfl rfl,
  fun v0 v1 v2 v3 st σ => q_bipush e143_22 (by decide),
  fun v0 v1 v2 v3 x1 x2 st σ => q_go e143_24 rfl rfl,
  fun v0 v1 v2 v3 x1 a0 σ hc => q_invV (as := [.int x1]) (rest := []) e143_25 o_143 bn_8_129 c_8_129 m_103 (by decide) rfl rfl (Nat.le_of_ble_eq_true rfl) (Nat.le_of_ble_eq_true rfl) hc,
  fun v0 v1 v2 v3 x1 st σ => (q_if e143_28 rfl).trans q_ne,
  fun v0 v1 v2 v3 st σ => q_iconst e143_31 (by decide),
  fun v0 v1 v2 v3 x1 σ => q_iret e143_32 r_143,
  fun v0 v2 v3 x1 st σ => q_go e143_33 rfl rfl,
  fun v0 v1 v2 v3 st σ => q_iconst e143_34 (by decide),
  fun v0 v1 v2 v3 st σ => q_bipush e143_35 (by decide),
  fun v0 v1 v2 v3 x1 x2 x3 σ => q_invS (as := [.int x1, .int x2, .int x3]) (rest := []) e143_37 o_143 bn_8_35 c_8_35 ⟨m_102.1, m_102.2.1, m_102.2.2.1⟩ rfl rfl (Nat.le_of_ble_eq_true rfl) (Nat.le_of_ble_eq_true rfl),
  fun v0 v1 v2 v3 x1 st σ => (q_if e143_40 rfl).trans q_ne,
  fun v0 v1 v2 v3 st σ => q_bipush e143_43 (by decide),
  fun v0 v1 v2 v3 x1 σ => q_iret e143_45 r_143,
  fun v1 v2 v3 a1 st σ => q_go e143_46 rfl rfl,
  fun v0 v1 v2 v3 a0 σ hc => q_invV (as := []) (rest := []) e143_47 o_143 bn_8_159 c_8_159 m_105 (by decide) rfl rfl (Nat.le_of_ble_eq_true rfl) (Nat.le_of_ble_eq_true rfl) hc,
  fun v1 v2 v3 a1 st σ => q_go e143_50 rfl rfl,
  fun v0 v2 v3 x1 st σ => q_go e143_51 rfl rfl,
  fun v0 v1 v2 v3 x1 a0 σ hc => q_invV (as := [.int x1]) (rest := []) e143_52 o_143 bn_8_162 c_8_162 m_140 (by decide) rfl rfl (Nat.le_of_ble_eq_true rfl) (Nat.le_of_ble_eq_true rfl) hc,
  fun v0 v1 v3 x1 st σ => q_go e143_55 rfl rfl,
  fun v0 v1 v2 v3 x1 st σ => (q_if e143_56 rfl).trans q_ne,
  fun v1 v2 v3 a1 st σ => q_go e143_59 rfl rfl,
  fun v0 v1 v2 v3 a0 σ hc => q_invV (as := []) (rest := []) e143_60 o_143 bn_8_149 c_8_149 m_136 (by decide) rfl rfl (Nat.le_of_ble_eq_true rfl) (Nat.le_of_ble_eq_true rfl) hc,
  fun v0 v1 v2 v3 st σ => q_goto e143_63 rfl,
  fun v0 v1 v3 x1 st σ => q_go e143_66 rfl rfl,
  fun v0 v1 v2 v3 st σ => q_iconst e143_67 (by decide),
  fun v0 v1 v2 v3 x1 x2 st σ => (q_cmp e143_68 rfl).trans q_ne,
  fun v1 v2 v3 a1 st σ => q_go e143_71 rfl rfl,
  fun v0 v1 v2 v3 a1 st σ hc => q_getA e143_72 o_143 f_8_9 (by decide) hc,
  fun v0 v1 v2 v3 st σ => q_iconst e143_75 (by decide),
  fun v0 v1 v2 v3 k a2 st σ hk => q_iald e143_76 hk,
  fun v0 v1 v2 v3 st σ => q_goto e143_77 rfl,
  fun v0 v1 v3 x1 st σ => q_go e143_80 rfl rfl,
  fun v0 v1 v2 v3 st σ => q_bipush e143_81 (by decide),
  fun v0 v1 v2 v3 x1 x2 st σ => (q_cmp e143_83 rfl).trans q_nlt,
  fun v1 v2 v3 a1 st σ => q_go e143_86 rfl rfl,
  fun v0 v1 v2 v3 a1 st σ hc => q_getA e143_87 o_143 f_8_9 (by decide) hc,
  fun v0 v1 v2 v3 st σ => q_bipush e143_90 (by decide),
  fun v0 v1 v3 x1 st σ => q_go e143_92 rfl rfl,
  fun v0 v1 v2 v3 x1 x2 st σ => q_go e143_93 rfl rfl,
  fun v0 v1 v2 v3 st σ => q_bipush e143_94 (by decide),
  fun v0 v1 v2 v3 x1 x2 st σ => q_go e143_96 rfl rfl,
  fun v0 v1 v2 v3 k a2 st σ hk => q_iald e143_97 hk,
  fun v0 v1 v2 v3 st σ => q_goto e143_98 rfl,
  fun v1 v2 v3 a1 st σ => q_go e143_101 rfl rfl,
  fun v0 v1 v2 v3 a1 st σ hc => q_getA e143_102 o_143 f_8_9 (by decide) hc,
  fun v0 v1 v2 v3 st σ => q_bipush e143_105 (by decide),
  fun v0 v1 v3 x1 st σ => q_go e143_107 rfl rfl,
  fun v0 v1 v2 v3 x1 x2 st σ => q_go e143_108 rfl rfl,
  fun v0 v1 v2 v3 st σ => q_bipush e143_109 (by decide),
  fun v0 v1 v2 v3 x1 x2 st σ => q_go e143_111 rfl rfl,
  fun v0 v1 v2 v3 k a2 st σ hk => q_iald e143_112 hk,
  fun v0 v1 v3 x9 x1 st σ => q_go e143_113 rfl rfl,
  fun v1 v2 v3 a1 st σ => q_go e143_114 rfl rfl,
  fun v0 v1 v2 v3 a0 σ hc => q_invV (as := []) (rest := []) e143_115 o_143 bn_8_165 c_8_165 m_106 (by decide) rfl rfl (Nat.le_of_ble_eq_true rfl) (Nat.le_of_ble_eq_true rfl) hc,
  fun v0 v1 v2 x1 st σ => q_go e143_118 rfl rfl,
  fun v0 v1 v2 v3 x1 σ => q_iret e143_119 r_143⟩
theorem E143 {ro : ma_RO} {d : Nat} (a0 : Nat) (x1 : Int32) (x2 : Int32) (sh : List ma_Sh) (σ : ma_H) : ma_ev ro d 143 [.ref a0, .int x1, .int x2] sh σ = ma_rn ro d 143 (0, [some (.ref a0), some (.int x1), some (.int x2), none], [], sh, σ) := q_ent x_143 rfl
theorem e144_0 : decode (ma_cd 144) 0 = .ok (.iconst 0, 1) := (congrArg (fun b => decode b 0) cd_144).trans dX8_minutesOf_0
theorem e144_1 : decode (ma_cd 144) 1 = .ok (.istore_n 2, 1) := (congrArg (fun b => decode b 1) cd_144).trans dX8_minutesOf_1
theorem e144_2 : decode (ma_cd 144) 2 = .ok (.iconst 0, 1) := (congrArg (fun b => decode b 2) cd_144).trans dX8_minutesOf_2
theorem e144_3 : decode (ma_cd 144) 3 = .ok (.istore_n 3, 1) := (congrArg (fun b => decode b 3) cd_144).trans dX8_minutesOf_3
theorem e144_4 : decode (ma_cd 144) 4 = .ok (.iload_n 3, 1) := (congrArg (fun b => decode b 4) cd_144).trans dX8_minutesOf_4
theorem e144_5 : decode (ma_cd 144) 5 = .ok (.aload_n 0, 1) := (congrArg (fun b => decode b 5) cd_144).trans dX8_minutesOf_5
theorem e144_6 : decode (ma_cd 144) 6 = .ok (.getfield 9, 3) := (congrArg (fun b => decode b 6) cd_144).trans dX8_minutesOf_6
theorem e144_9 : decode (ma_cd 144) 9 = .ok (.bipush 33, 2) := (congrArg (fun b => decode b 9) cd_144).trans dX8_minutesOf_9
theorem e144_11 : decode (ma_cd 144) 11 = .ok (.iaload, 1) := (congrArg (fun b => decode b 11) cd_144).trans dX8_minutesOf_11
theorem e144_12 : decode (ma_cd 144) 12 = .ok (.if_icmp .ge 38, 3) := (congrArg (fun b => decode b 12) cd_144).trans dX8_minutesOf_12
theorem e144_15 : decode (ma_cd 144) 15 = .ok (.iload_n 2, 1) := (congrArg (fun b => decode b 15) cd_144).trans dX8_minutesOf_15
theorem e144_16 : decode (ma_cd 144) 16 = .ok (.iload_n 1, 1) := (congrArg (fun b => decode b 16) cd_144).trans dX8_minutesOf_16
theorem e144_17 : decode (ma_cd 144) 17 = .ok (.iload_n 3, 1) := (congrArg (fun b => decode b 17) cd_144).trans dX8_minutesOf_17
theorem e144_18 : decode (ma_cd 144) 18 = .ok (.ishr, 1) := (congrArg (fun b => decode b 18) cd_144).trans dX8_minutesOf_18
theorem e144_19 : decode (ma_cd 144) 19 = .ok (.iconst 1, 1) := (congrArg (fun b => decode b 19) cd_144).trans dX8_minutesOf_19
theorem e144_20 : decode (ma_cd 144) 20 = .ok (.iand, 1) := (congrArg (fun b => decode b 20) cd_144).trans dX8_minutesOf_20
theorem e144_21 : decode (ma_cd 144) 21 = .ok (.iconst 1, 1) := (congrArg (fun b => decode b 21) cd_144).trans dX8_minutesOf_21
theorem e144_22 : decode (ma_cd 144) 22 = .ok (.if_icmp .ne 19, 3) := (congrArg (fun b => decode b 22) cd_144).trans dX8_minutesOf_22
theorem e144_25 : decode (ma_cd 144) 25 = .ok (.aload_n 0, 1) := (congrArg (fun b => decode b 25) cd_144).trans dX8_minutesOf_25
theorem e144_26 : decode (ma_cd 144) 26 = .ok (.getfield 9, 3) := (congrArg (fun b => decode b 26) cd_144).trans dX8_minutesOf_26
theorem e144_29 : decode (ma_cd 144) 29 = .ok (.bipush 46, 2) := (congrArg (fun b => decode b 29) cd_144).trans dX8_minutesOf_29
theorem e144_31 : decode (ma_cd 144) 31 = .ok (.iload_n 3, 1) := (congrArg (fun b => decode b 31) cd_144).trans dX8_minutesOf_31
theorem e144_32 : decode (ma_cd 144) 32 = .ok (.iadd, 1) := (congrArg (fun b => decode b 32) cd_144).trans dX8_minutesOf_32
theorem e144_33 : decode (ma_cd 144) 33 = .ok (.iaload, 1) := (congrArg (fun b => decode b 33) cd_144).trans dX8_minutesOf_33
theorem e144_34 : decode (ma_cd 144) 34 = .ok (.iconst 4, 1) := (congrArg (fun b => decode b 34) cd_144).trans dX8_minutesOf_34
theorem e144_35 : decode (ma_cd 144) 35 = .ok (.irem, 1) := (congrArg (fun b => decode b 35) cd_144).trans dX8_minutesOf_35
theorem e144_36 : decode (ma_cd 144) 36 = .ok (.iconst 1, 1) := (congrArg (fun b => decode b 36) cd_144).trans dX8_minutesOf_36
theorem e144_37 : decode (ma_cd 144) 37 = .ok (.iadd, 1) := (congrArg (fun b => decode b 37) cd_144).trans dX8_minutesOf_37
theorem e144_38 : decode (ma_cd 144) 38 = .ok (.goto 4, 3) := (congrArg (fun b => decode b 38) cd_144).trans dX8_minutesOf_38
theorem e144_41 : decode (ma_cd 144) 41 = .ok (.iconst 0, 1) := (congrArg (fun b => decode b 41) cd_144).trans dX8_minutesOf_41
theorem e144_42 : decode (ma_cd 144) 42 = .ok (.iadd, 1) := (congrArg (fun b => decode b 42) cd_144).trans dX8_minutesOf_42
theorem e144_43 : decode (ma_cd 144) 43 = .ok (.istore_n 2, 1) := (congrArg (fun b => decode b 43) cd_144).trans dX8_minutesOf_43
theorem e144_44 : decode (ma_cd 144) 44 = .ok (.iinc 3 1, 3) := (congrArg (fun b => decode b 44) cd_144).trans dX8_minutesOf_44
theorem e144_47 : decode (ma_cd 144) 47 = .ok (.goto (-43), 3) := (congrArg (fun b => decode b 47) cd_144).trans dX8_minutesOf_47
theorem e144_50 : decode (ma_cd 144) 50 = .ok (.iload_n 2, 1) := (congrArg (fun b => decode b 50) cd_144).trans dX8_minutesOf_50
theorem e144_51 : decode (ma_cd 144) 51 = .ok (.ireturn, 1) := (congrArg (fun b => decode b 51) cd_144).trans dX8_minutesOf_51
theorem Sh144_4 {ro : ma_RO} {d : Nat} : (∀ (v0 : Option Value) (v1 : Option Value) (v2 : Option Value) (x1 : Int32) (st : List Value) (σ : ma_H), ma_rn ro d 144 (4, [v0, v1, v2, some (.int x1)], st, SH, σ) = ma_rn ro d 144 (5, [v0, v1, v2, some (.int x1)], .int x1 :: st, SH, σ)) := fun v0 v1 v2 x1 st σ => q_go e144_4 rfl rfl
theorem S144 {ro : ma_RO} {d : Nat} : (∀ (v0 : Option Value) (v1 : Option Value) (v2 : Option Value) (v3 : Option Value) (st : List Value) (σ : ma_H), ma_rn ro d 144 (0, [v0, v1, v2, v3], st, SH, σ) = ma_rn ro d 144 (1, [v0, v1, v2, v3], .int (nI 0) :: st, SH, σ)) ∧
  (∀ (v0 : Option Value) (v2 : Option Value) (v3 : Option Value) (x9 : Int32) (x1 : Int32) (st : List Value) (σ : ma_H), ma_rn ro d 144 (1, [v0, some (.int x9), v2, v3], .int x1 :: st, SH, σ) = ma_rn ro d 144 (2, [v0, some (.int x9), some (.int x1), v3], st, SH, σ)) ∧
  (∀ (v0 : Option Value) (v1 : Option Value) (v2 : Option Value) (v3 : Option Value) (st : List Value) (σ : ma_H), ma_rn ro d 144 (2, [v0, v1, v2, v3], st, SH, σ) = ma_rn ro d 144 (3, [v0, v1, v2, v3], .int (nI 0) :: st, SH, σ)) ∧
  (∀ (v0 : Option Value) (v1 : Option Value) (v3 : Option Value) (x9 : Int32) (x1 : Int32) (st : List Value) (σ : ma_H), ma_rn ro d 144 (3, [v0, v1, some (.int x9), v3], .int x1 :: st, SH, σ) = ma_rn ro d 144 (4, [v0, v1, some (.int x9), some (.int x1)], st, SH, σ)) ∧
  (∀ (v1 : Option Value) (v2 : Option Value) (v3 : Option Value) (a1 : Nat) (st : List Value) (σ : ma_H), ma_rn ro d 144 (5, [some (.ref a1), v1, v2, v3], st, SH, σ) = ma_rn ro d 144 (6, [some (.ref a1), v1, v2, v3], .ref a1 :: st, SH, σ)) ∧
  (∀ (v0 : Option Value) (v1 : Option Value) (v2 : Option Value) (v3 : Option Value) (a1 : Nat) (st : List Value) (σ : ma_H) (hc : hk_cls a1 = 8), ma_rn ro d 144 (6, [v0, v1, v2, v3], .ref a1 :: st, SH, σ) = ma_rn ro d 144 (9, [v0, v1, v2, v3], .ref (91) :: st, SH, σ)) ∧
  (∀ (v0 : Option Value) (v1 : Option Value) (v2 : Option Value) (v3 : Option Value) (st : List Value) (σ : ma_H), ma_rn ro d 144 (9, [v0, v1, v2, v3], st, SH, σ) = ma_rn ro d 144 (11, [v0, v1, v2, v3], .int (nI 33) :: st, SH, σ)) ∧
  (∀ (v0 : Option Value) (v1 : Option Value) (v2 : Option Value) (v3 : Option Value) (k : Nat) (a2 : Nat) (st : List Value) (σ : ma_H) (hk : k < hk_len a2), ma_rn ro d 144 (11, [v0, v1, v2, v3], .int (nI k) :: .ref a2 :: st, SH, σ) = ma_rn ro d 144 (12, [v0, v1, v2, v3], .int (σ a2 k) :: st, SH, σ)) ∧
  (∀ (v0 : Option Value) (v1 : Option Value) (v2 : Option Value) (v3 : Option Value) (x1 : Int32) (x2 : Int32) (st : List Value) (σ : ma_H), ma_rn ro d 144 (12, [v0, v1, v2, v3], .int x1 :: .int x2 :: st, SH, σ) = if x2 < x1 then ma_rn ro d 144 (15, [v0, v1, v2, v3], st, SH, σ) else ma_rn ro d 144 (50, [v0, v1, v2, v3], st, SH, σ)) ∧
  (∀ (v0 : Option Value) (v1 : Option Value) (v3 : Option Value) (x1 : Int32) (st : List Value) (σ : ma_H), ma_rn ro d 144 (15, [v0, v1, some (.int x1), v3], st, SH, σ) = ma_rn ro d 144 (16, [v0, v1, some (.int x1), v3], .int x1 :: st, SH, σ)) ∧
  (∀ (v0 : Option Value) (v2 : Option Value) (v3 : Option Value) (x1 : Int32) (st : List Value) (σ : ma_H), ma_rn ro d 144 (16, [v0, some (.int x1), v2, v3], st, SH, σ) = ma_rn ro d 144 (17, [v0, some (.int x1), v2, v3], .int x1 :: st, SH, σ)) ∧
  (∀ (v0 : Option Value) (v1 : Option Value) (v2 : Option Value) (x1 : Int32) (st : List Value) (σ : ma_H), ma_rn ro d 144 (17, [v0, v1, v2, some (.int x1)], st, SH, σ) = ma_rn ro d 144 (18, [v0, v1, v2, some (.int x1)], .int x1 :: st, SH, σ)) ∧
  (∀ (v0 : Option Value) (v1 : Option Value) (v2 : Option Value) (v3 : Option Value) (x1 : Int32) (x2 : Int32) (st : List Value) (σ : ma_H), ma_rn ro d 144 (18, [v0, v1, v2, v3], .int x1 :: .int x2 :: st, SH, σ) = ma_rn ro d 144 (19, [v0, v1, v2, v3], .int (x2 >>> (x1 &&& 31)) :: st, SH, σ)) ∧
  (∀ (v0 : Option Value) (v1 : Option Value) (v2 : Option Value) (v3 : Option Value) (st : List Value) (σ : ma_H), ma_rn ro d 144 (19, [v0, v1, v2, v3], st, SH, σ) = ma_rn ro d 144 (20, [v0, v1, v2, v3], .int (nI 1) :: st, SH, σ)) ∧
  (∀ (v0 : Option Value) (v1 : Option Value) (v2 : Option Value) (v3 : Option Value) (x1 : Int32) (x2 : Int32) (st : List Value) (σ : ma_H), ma_rn ro d 144 (20, [v0, v1, v2, v3], .int x1 :: .int x2 :: st, SH, σ) = ma_rn ro d 144 (21, [v0, v1, v2, v3], .int (x2 &&& x1) :: st, SH, σ)) ∧
  (∀ (v0 : Option Value) (v1 : Option Value) (v2 : Option Value) (v3 : Option Value) (st : List Value) (σ : ma_H), ma_rn ro d 144 (21, [v0, v1, v2, v3], st, SH, σ) = ma_rn ro d 144 (22, [v0, v1, v2, v3], .int (nI 1) :: st, SH, σ)) ∧
  (∀ (v0 : Option Value) (v1 : Option Value) (v2 : Option Value) (v3 : Option Value) (x1 : Int32) (x2 : Int32) (st : List Value) (σ : ma_H), ma_rn ro d 144 (22, [v0, v1, v2, v3], .int x1 :: .int x2 :: st, SH, σ) = if x2 = x1 then ma_rn ro d 144 (25, [v0, v1, v2, v3], st, SH, σ) else ma_rn ro d 144 (41, [v0, v1, v2, v3], st, SH, σ)) ∧
  (∀ (v1 : Option Value) (v2 : Option Value) (v3 : Option Value) (a1 : Nat) (st : List Value) (σ : ma_H), ma_rn ro d 144 (25, [some (.ref a1), v1, v2, v3], st, SH, σ) = ma_rn ro d 144 (26, [some (.ref a1), v1, v2, v3], .ref a1 :: st, SH, σ)) ∧
  (∀ (v0 : Option Value) (v1 : Option Value) (v2 : Option Value) (v3 : Option Value) (a1 : Nat) (st : List Value) (σ : ma_H) (hc : hk_cls a1 = 8), ma_rn ro d 144 (26, [v0, v1, v2, v3], .ref a1 :: st, SH, σ) = ma_rn ro d 144 (29, [v0, v1, v2, v3], .ref (91) :: st, SH, σ)) ∧
  (∀ (v0 : Option Value) (v1 : Option Value) (v2 : Option Value) (v3 : Option Value) (st : List Value) (σ : ma_H), ma_rn ro d 144 (29, [v0, v1, v2, v3], st, SH, σ) = ma_rn ro d 144 (31, [v0, v1, v2, v3], .int (nI 46) :: st, SH, σ)) ∧
  (∀ (v0 : Option Value) (v1 : Option Value) (v2 : Option Value) (x1 : Int32) (st : List Value) (σ : ma_H), ma_rn ro d 144 (31, [v0, v1, v2, some (.int x1)], st, SH, σ) = ma_rn ro d 144 (32, [v0, v1, v2, some (.int x1)], .int x1 :: st, SH, σ)) ∧
  (∀ (v0 : Option Value) (v1 : Option Value) (v2 : Option Value) (v3 : Option Value) (x1 : Int32) (x2 : Int32) (st : List Value) (σ : ma_H), ma_rn ro d 144 (32, [v0, v1, v2, v3], .int x1 :: .int x2 :: st, SH, σ) = ma_rn ro d 144 (33, [v0, v1, v2, v3], .int (x2 + x1) :: st, SH, σ)) ∧
  (∀ (v0 : Option Value) (v1 : Option Value) (v2 : Option Value) (v3 : Option Value) (k : Nat) (a2 : Nat) (st : List Value) (σ : ma_H) (hk : k < hk_len a2), ma_rn ro d 144 (33, [v0, v1, v2, v3], .int (nI k) :: .ref a2 :: st, SH, σ) = ma_rn ro d 144 (34, [v0, v1, v2, v3], .int (σ a2 k) :: st, SH, σ)) ∧
  (∀ (v0 : Option Value) (v1 : Option Value) (v2 : Option Value) (v3 : Option Value) (st : List Value) (σ : ma_H), ma_rn ro d 144 (34, [v0, v1, v2, v3], st, SH, σ) = ma_rn ro d 144 (35, [v0, v1, v2, v3], .int (nI 4) :: st, SH, σ)) ∧
  (∀ (v0 : Option Value) (v1 : Option Value) (v2 : Option Value) (v3 : Option Value) (x1 : Int32) (x2 : Int32) (st : List Value) (σ : ma_H) (hy : ¬ x1 = 0), ma_rn ro d 144 (35, [v0, v1, v2, v3], .int x1 :: .int x2 :: st, SH, σ) = ma_rn ro d 144 (36, [v0, v1, v2, v3], .int (x2 - x2 / x1 * x1) :: st, SH, σ)) ∧
  (∀ (v0 : Option Value) (v1 : Option Value) (v2 : Option Value) (v3 : Option Value) (st : List Value) (σ : ma_H), ma_rn ro d 144 (36, [v0, v1, v2, v3], st, SH, σ) = ma_rn ro d 144 (37, [v0, v1, v2, v3], .int (nI 1) :: st, SH, σ)) ∧
  (∀ (v0 : Option Value) (v1 : Option Value) (v2 : Option Value) (v3 : Option Value) (x1 : Int32) (x2 : Int32) (st : List Value) (σ : ma_H), ma_rn ro d 144 (37, [v0, v1, v2, v3], .int x1 :: .int x2 :: st, SH, σ) = ma_rn ro d 144 (38, [v0, v1, v2, v3], .int (x2 + x1) :: st, SH, σ)) ∧
  (∀ (v0 : Option Value) (v1 : Option Value) (v2 : Option Value) (v3 : Option Value) (st : List Value) (σ : ma_H), ma_rn ro d 144 (38, [v0, v1, v2, v3], st, SH, σ) = ma_rn ro d 144 (42, [v0, v1, v2, v3], st, SH, σ)) ∧
  (∀ (v0 : Option Value) (v1 : Option Value) (v2 : Option Value) (v3 : Option Value) (st : List Value) (σ : ma_H), ma_rn ro d 144 (41, [v0, v1, v2, v3], st, SH, σ) = ma_rn ro d 144 (42, [v0, v1, v2, v3], .int (nI 0) :: st, SH, σ)) ∧
  (∀ (v0 : Option Value) (v1 : Option Value) (v2 : Option Value) (v3 : Option Value) (x1 : Int32) (x2 : Int32) (st : List Value) (σ : ma_H), ma_rn ro d 144 (42, [v0, v1, v2, v3], .int x1 :: .int x2 :: st, SH, σ) = ma_rn ro d 144 (43, [v0, v1, v2, v3], .int (x2 + x1) :: st, SH, σ)) ∧
  (∀ (v0 : Option Value) (v2 : Option Value) (v3 : Option Value) (x9 : Int32) (x1 : Int32) (st : List Value) (σ : ma_H), ma_rn ro d 144 (43, [v0, some (.int x9), v2, v3], .int x1 :: st, SH, σ) = ma_rn ro d 144 (44, [v0, some (.int x9), some (.int x1), v3], st, SH, σ)) ∧
  (∀ (v0 : Option Value) (v1 : Option Value) (x1 : Int32) (x9 : Int32) (st : List Value) (σ : ma_H), ma_rn ro d 144 (44, [v0, v1, some (.int x9), some (.int x1)], st, SH, σ) = ma_rn ro d 144 (47, [v0, v1, some (.int x9), some (.int (x1 + nI 1))], st, SH, σ)) ∧
  (∀ (v0 : Option Value) (v1 : Option Value) (v2 : Option Value) (v3 : Option Value) (st : List Value) (σ : ma_H), ma_rn ro d 144 (47, [v0, v1, v2, v3], st, SH, σ) = ma_rn ro d 144 (4, [v0, v1, v2, v3], st, SH, σ)) ∧
  (∀ (v0 : Option Value) (v1 : Option Value) (v3 : Option Value) (x1 : Int32) (st : List Value) (σ : ma_H), ma_rn ro d 144 (50, [v0, v1, some (.int x1), v3], st, SH, σ) = ma_rn ro d 144 (51, [v0, v1, some (.int x1), v3], .int x1 :: st, SH, σ)) ∧
  (∀ (v0 : Option Value) (v1 : Option Value) (v2 : Option Value) (v3 : Option Value) (x1 : Int32) (σ : ma_H), ma_rn ro d 144 (51, [v0, v1, v2, v3], [.int x1], SH, σ) = some (some (.int x1), SH, σ)) := ⟨fun v0 v1 v2 v3 st σ => q_iconst e144_0 (by decide),
  fun v0 v2 v3 x9 x1 st σ => q_go e144_1 rfl rfl,
  fun v0 v1 v2 v3 st σ => q_iconst e144_2 (by decide),
  fun v0 v1 v3 x9 x1 st σ => q_go e144_3 rfl rfl,
  fun v1 v2 v3 a1 st σ => q_go e144_5 rfl rfl,
  fun v0 v1 v2 v3 a1 st σ hc => q_getA e144_6 o_144 f_8_9 (by decide) hc,
  fun v0 v1 v2 v3 st σ => q_bipush e144_9 (by decide),
  fun v0 v1 v2 v3 k a2 st σ hk => q_iald e144_11 hk,
  fun v0 v1 v2 v3 x1 x2 st σ => (q_cmp e144_12 rfl).trans q_nlt,
  fun v0 v1 v3 x1 st σ => q_go e144_15 rfl rfl,
  fun v0 v2 v3 x1 st σ => q_go e144_16 rfl rfl,
  fun v0 v1 v2 x1 st σ => q_go e144_17 rfl rfl,
  fun v0 v1 v2 v3 x1 x2 st σ => q_go e144_18 rfl rfl,
  fun v0 v1 v2 v3 st σ => q_iconst e144_19 (by decide),
  fun v0 v1 v2 v3 x1 x2 st σ => q_go e144_20 rfl rfl,
  fun v0 v1 v2 v3 st σ => q_iconst e144_21 (by decide),
  fun v0 v1 v2 v3 x1 x2 st σ => (q_cmp e144_22 rfl).trans q_ne,
  fun v1 v2 v3 a1 st σ => q_go e144_25 rfl rfl,
  fun v0 v1 v2 v3 a1 st σ hc => q_getA e144_26 o_144 f_8_9 (by decide) hc,
  fun v0 v1 v2 v3 st σ => q_bipush e144_29 (by decide),
  fun v0 v1 v2 x1 st σ => q_go e144_31 rfl rfl,
  fun v0 v1 v2 v3 x1 x2 st σ => q_go e144_32 rfl rfl,
  fun v0 v1 v2 v3 k a2 st σ hk => q_iald e144_33 hk,
  fun v0 v1 v2 v3 st σ => q_iconst e144_34 (by decide),
  fun v0 v1 v2 v3 x1 x2 st σ hy => q_irem e144_35 hy,
  fun v0 v1 v2 v3 st σ => q_iconst e144_36 (by decide),
  fun v0 v1 v2 v3 x1 x2 st σ => q_go e144_37 rfl rfl,
  fun v0 v1 v2 v3 st σ => q_goto e144_38 rfl,
  fun v0 v1 v2 v3 st σ => q_iconst e144_41 (by decide),
  fun v0 v1 v2 v3 x1 x2 st σ => q_go e144_42 rfl rfl,
  fun v0 v2 v3 x9 x1 st σ => q_go e144_43 rfl rfl,
  fun v0 v1 x1 x9 st σ => q_iinc e144_44 rfl rfl (by decide),
  fun v0 v1 v2 v3 st σ => q_goto e144_47 rfl,
  fun v0 v1 v3 x1 st σ => q_go e144_50 rfl rfl,
  fun v0 v1 v2 v3 x1 σ => q_iret e144_51 r_144⟩
theorem E144 {ro : ma_RO} {d : Nat} (a0 : Nat) (x1 : Int32) (sh : List ma_Sh) (σ : ma_H) : ma_ev ro d 144 [.ref a0, .int x1] sh σ = ma_rn ro d 144 (0, [some (.ref a0), some (.int x1), none, none], [], sh, σ) := q_ent x_144 rfl
theorem e145_0 : decode (ma_cd 145) 0 = .ok (.iconst 0, 1) := (congrArg (fun b => decode b 0) cd_145).trans dX8_doubtsOf_0
theorem e145_1 : decode (ma_cd 145) 1 = .ok (.istore_n 2, 1) := (congrArg (fun b => decode b 1) cd_145).trans dX8_doubtsOf_1
theorem e145_2 : decode (ma_cd 145) 2 = .ok (.iconst 0, 1) := (congrArg (fun b => decode b 2) cd_145).trans dX8_doubtsOf_2
theorem e145_3 : decode (ma_cd 145) 3 = .ok (.istore_n 3, 1) := (congrArg (fun b => decode b 3) cd_145).trans dX8_doubtsOf_3
theorem e145_4 : decode (ma_cd 145) 4 = .ok (.iload_n 3, 1) := (congrArg (fun b => decode b 4) cd_145).trans dX8_doubtsOf_4
theorem e145_5 : decode (ma_cd 145) 5 = .ok (.aload_n 0, 1) := (congrArg (fun b => decode b 5) cd_145).trans dX8_doubtsOf_5
theorem e145_6 : decode (ma_cd 145) 6 = .ok (.getfield 9, 3) := (congrArg (fun b => decode b 6) cd_145).trans dX8_doubtsOf_6
theorem e145_9 : decode (ma_cd 145) 9 = .ok (.bipush 33, 2) := (congrArg (fun b => decode b 9) cd_145).trans dX8_doubtsOf_9
theorem e145_11 : decode (ma_cd 145) 11 = .ok (.iaload, 1) := (congrArg (fun b => decode b 11) cd_145).trans dX8_doubtsOf_11
theorem e145_12 : decode (ma_cd 145) 12 = .ok (.if_icmp .ge 53, 3) := (congrArg (fun b => decode b 12) cd_145).trans dX8_doubtsOf_12
theorem e145_15 : decode (ma_cd 145) 15 = .ok (.aload_n 0, 1) := (congrArg (fun b => decode b 15) cd_145).trans dX8_doubtsOf_15
theorem e145_16 : decode (ma_cd 145) 16 = .ok (.iload_n 3, 1) := (congrArg (fun b => decode b 16) cd_145).trans dX8_doubtsOf_16
theorem e145_17 : decode (ma_cd 145) 17 = .ok (.bipush 20, 2) := (congrArg (fun b => decode b 17) cd_145).trans dX8_doubtsOf_17
theorem e145_19 : decode (ma_cd 145) 19 = .ok (.invokevirtual 126, 3) := (congrArg (fun b => decode b 19) cd_145).trans dX8_doubtsOf_19
theorem e145_22 : decode (ma_cd 145) 22 = .ok (.istore 4, 2) := (congrArg (fun b => decode b 22) cd_145).trans dX8_doubtsOf_22
theorem e145_24 : decode (ma_cd 145) 24 = .ok (.iload_n 2, 1) := (congrArg (fun b => decode b 24) cd_145).trans dX8_doubtsOf_24
theorem e145_25 : decode (ma_cd 145) 25 = .ok (.iload_n 1, 1) := (congrArg (fun b => decode b 25) cd_145).trans dX8_doubtsOf_25
theorem e145_26 : decode (ma_cd 145) 26 = .ok (.iload_n 3, 1) := (congrArg (fun b => decode b 26) cd_145).trans dX8_doubtsOf_26
theorem e145_27 : decode (ma_cd 145) 27 = .ok (.ishr, 1) := (congrArg (fun b => decode b 27) cd_145).trans dX8_doubtsOf_27
theorem e145_28 : decode (ma_cd 145) 28 = .ok (.iconst 1, 1) := (congrArg (fun b => decode b 28) cd_145).trans dX8_doubtsOf_28
theorem e145_29 : decode (ma_cd 145) 29 = .ok (.iand, 1) := (congrArg (fun b => decode b 29) cd_145).trans dX8_doubtsOf_29
theorem e145_30 : decode (ma_cd 145) 30 = .ok (.iconst 1, 1) := (congrArg (fun b => decode b 30) cd_145).trans dX8_doubtsOf_30
theorem e145_31 : decode (ma_cd 145) 31 = .ok (.if_icmp .ne 25, 3) := (congrArg (fun b => decode b 31) cd_145).trans dX8_doubtsOf_31
theorem e145_34 : decode (ma_cd 145) 34 = .ok (.iload 4, 2) := (congrArg (fun b => decode b 34) cd_145).trans dX8_doubtsOf_34
theorem e145_36 : decode (ma_cd 145) 36 = .ok (.ifCond .le 20, 3) := (congrArg (fun b => decode b 36) cd_145).trans dX8_doubtsOf_36
theorem e145_39 : decode (ma_cd 145) 39 = .ok (.iload 4, 2) := (congrArg (fun b => decode b 39) cd_145).trans dX8_doubtsOf_39
theorem e145_41 : decode (ma_cd 145) 41 = .ok (.aload_n 0, 1) := (congrArg (fun b => decode b 41) cd_145).trans dX8_doubtsOf_41
theorem e145_42 : decode (ma_cd 145) 42 = .ok (.getfield 9, 3) := (congrArg (fun b => decode b 42) cd_145).trans dX8_doubtsOf_42
theorem e145_45 : decode (ma_cd 145) 45 = .ok (.bipush 46, 2) := (congrArg (fun b => decode b 45) cd_145).trans dX8_doubtsOf_45
theorem e145_47 : decode (ma_cd 145) 47 = .ok (.iload_n 3, 1) := (congrArg (fun b => decode b 47) cd_145).trans dX8_doubtsOf_47
theorem e145_48 : decode (ma_cd 145) 48 = .ok (.iadd, 1) := (congrArg (fun b => decode b 48) cd_145).trans dX8_doubtsOf_48
theorem e145_49 : decode (ma_cd 145) 49 = .ok (.iaload, 1) := (congrArg (fun b => decode b 49) cd_145).trans dX8_doubtsOf_49
theorem e145_50 : decode (ma_cd 145) 50 = .ok (.iconst 1, 1) := (congrArg (fun b => decode b 50) cd_145).trans dX8_doubtsOf_50
theorem e145_51 : decode (ma_cd 145) 51 = .ok (.iadd, 1) := (congrArg (fun b => decode b 51) cd_145).trans dX8_doubtsOf_51
theorem e145_52 : decode (ma_cd 145) 52 = .ok (.imul, 1) := (congrArg (fun b => decode b 52) cd_145).trans dX8_doubtsOf_52
theorem e145_53 : decode (ma_cd 145) 53 = .ok (.goto 4, 3) := (congrArg (fun b => decode b 53) cd_145).trans dX8_doubtsOf_53
theorem e145_56 : decode (ma_cd 145) 56 = .ok (.iconst 0, 1) := (congrArg (fun b => decode b 56) cd_145).trans dX8_doubtsOf_56
theorem e145_57 : decode (ma_cd 145) 57 = .ok (.iadd, 1) := (congrArg (fun b => decode b 57) cd_145).trans dX8_doubtsOf_57
theorem e145_58 : decode (ma_cd 145) 58 = .ok (.istore_n 2, 1) := (congrArg (fun b => decode b 58) cd_145).trans dX8_doubtsOf_58
theorem e145_59 : decode (ma_cd 145) 59 = .ok (.iinc 3 1, 3) := (congrArg (fun b => decode b 59) cd_145).trans dX8_doubtsOf_59
theorem e145_62 : decode (ma_cd 145) 62 = .ok (.goto (-58), 3) := (congrArg (fun b => decode b 62) cd_145).trans dX8_doubtsOf_62
theorem e145_65 : decode (ma_cd 145) 65 = .ok (.iload_n 2, 1) := (congrArg (fun b => decode b 65) cd_145).trans dX8_doubtsOf_65
theorem e145_66 : decode (ma_cd 145) 66 = .ok (.ireturn, 1) := (congrArg (fun b => decode b 66) cd_145).trans dX8_doubtsOf_66
theorem Sh145_4 {ro : ma_RO} {d : Nat} : (∀ (v0 : Option Value) (v1 : Option Value) (v2 : Option Value) (v4 : Option Value) (x1 : Int32) (st : List Value) (σ : ma_H), ma_rn ro d 145 (4, [v0, v1, v2, some (.int x1), v4], st, SH, σ) = ma_rn ro d 145 (5, [v0, v1, v2, some (.int x1), v4], .int x1 :: st, SH, σ)) := fun v0 v1 v2 v4 x1 st σ => q_go e145_4 rfl rfl
theorem S145 {ro : ma_RO} {d : Nat} : (∀ (v0 : Option Value) (v1 : Option Value) (v2 : Option Value) (v3 : Option Value) (v4 : Option Value) (st : List Value) (σ : ma_H), ma_rn ro d 145 (0, [v0, v1, v2, v3, v4], st, SH, σ) = ma_rn ro d 145 (1, [v0, v1, v2, v3, v4], .int (nI 0) :: st, SH, σ)) ∧
  (∀ (v0 : Option Value) (v2 : Option Value) (v3 : Option Value) (v4 : Option Value) (x9 : Int32) (x1 : Int32) (st : List Value) (σ : ma_H), ma_rn ro d 145 (1, [v0, some (.int x9), v2, v3, v4], .int x1 :: st, SH, σ) = ma_rn ro d 145 (2, [v0, some (.int x9), some (.int x1), v3, v4], st, SH, σ)) ∧
  (∀ (v0 : Option Value) (v1 : Option Value) (v2 : Option Value) (v3 : Option Value) (v4 : Option Value) (st : List Value) (σ : ma_H), ma_rn ro d 145 (2, [v0, v1, v2, v3, v4], st, SH, σ) = ma_rn ro d 145 (3, [v0, v1, v2, v3, v4], .int (nI 0) :: st, SH, σ)) ∧
  (∀ (v0 : Option Value) (v1 : Option Value) (v3 : Option Value) (v4 : Option Value) (x9 : Int32) (x1 : Int32) (st : List Value) (σ : ma_H), ma_rn ro d 145 (3, [v0, v1, some (.int x9), v3, v4], .int x1 :: st, SH, σ) = ma_rn ro d 145 (4, [v0, v1, some (.int x9), some (.int x1), v4], st, SH, σ)) ∧
  (∀ (v1 : Option Value) (v2 : Option Value) (v3 : Option Value) (v4 : Option Value) (a1 : Nat) (st : List Value) (σ : ma_H), ma_rn ro d 145 (5, [some (.ref a1), v1, v2, v3, v4], st, SH, σ) = ma_rn ro d 145 (6, [some (.ref a1), v1, v2, v3, v4], .ref a1 :: st, SH, σ)) ∧
  (∀ (v0 : Option Value) (v1 : Option Value) (v2 : Option Value) (v3 : Option Value) (v4 : Option Value) (a1 : Nat) (st : List Value) (σ : ma_H) (hc : hk_cls a1 = 8), ma_rn ro d 145 (6, [v0, v1, v2, v3, v4], .ref a1 :: st, SH, σ) = ma_rn ro d 145 (9, [v0, v1, v2, v3, v4], .ref (91) :: st, SH, σ)) ∧
  (∀ (v0 : Option Value) (v1 : Option Value) (v2 : Option Value) (v3 : Option Value) (v4 : Option Value) (st : List Value) (σ : ma_H), ma_rn ro d 145 (9, [v0, v1, v2, v3, v4], st, SH, σ) = ma_rn ro d 145 (11, [v0, v1, v2, v3, v4], .int (nI 33) :: st, SH, σ)) ∧
  (∀ (v0 : Option Value) (v1 : Option Value) (v2 : Option Value) (v3 : Option Value) (v4 : Option Value) (k : Nat) (a2 : Nat) (st : List Value) (σ : ma_H) (hk : k < hk_len a2), ma_rn ro d 145 (11, [v0, v1, v2, v3, v4], .int (nI k) :: .ref a2 :: st, SH, σ) = ma_rn ro d 145 (12, [v0, v1, v2, v3, v4], .int (σ a2 k) :: st, SH, σ)) ∧
  (∀ (v0 : Option Value) (v1 : Option Value) (v2 : Option Value) (v3 : Option Value) (v4 : Option Value) (x1 : Int32) (x2 : Int32) (st : List Value) (σ : ma_H), ma_rn ro d 145 (12, [v0, v1, v2, v3, v4], .int x1 :: .int x2 :: st, SH, σ) = if x2 < x1 then ma_rn ro d 145 (15, [v0, v1, v2, v3, v4], st, SH, σ) else ma_rn ro d 145 (65, [v0, v1, v2, v3, v4], st, SH, σ)) ∧
  (∀ (v1 : Option Value) (v2 : Option Value) (v3 : Option Value) (v4 : Option Value) (a1 : Nat) (st : List Value) (σ : ma_H), ma_rn ro d 145 (15, [some (.ref a1), v1, v2, v3, v4], st, SH, σ) = ma_rn ro d 145 (16, [some (.ref a1), v1, v2, v3, v4], .ref a1 :: st, SH, σ)) ∧
  (∀ (v0 : Option Value) (v1 : Option Value) (v2 : Option Value) (v4 : Option Value) (x1 : Int32) (st : List Value) (σ : ma_H), ma_rn ro d 145 (16, [v0, v1, v2, some (.int x1), v4], st, SH, σ) = ma_rn ro d 145 (17, [v0, v1, v2, some (.int x1), v4], .int x1 :: st, SH, σ)) ∧
  (∀ (v0 : Option Value) (v1 : Option Value) (v2 : Option Value) (v3 : Option Value) (v4 : Option Value) (st : List Value) (σ : ma_H), ma_rn ro d 145 (17, [v0, v1, v2, v3, v4], st, SH, σ) = ma_rn ro d 145 (19, [v0, v1, v2, v3, v4], .int (nI 20) :: st, SH, σ)) ∧
  (∀ (v0 : Option Value) (v1 : Option Value) (v2 : Option Value) (v3 : Option Value) (v4 : Option Value) (x1 : Int32) (x2 : Int32) (a0 : Nat) (σ : ma_H) (hc : hk_cls a0 = 8), ma_rn ro (d + 1) 145 (19, [v0, v1, v2, v3, v4], .int x2 :: .int x1 :: .ref a0 :: [], SH, σ) = (ma_ev ro d 125 [.ref a0, .int x1, .int x2] SH σ).bind (fun q => ma_rn ro (d + 1) 145 (22, [v0, v1, v2, v3, v4], (q.1.toList ++ []), q.2.1, q.2.2))) ∧
  (∀ (v0 : Option Value) (v1 : Option Value) (v2 : Option Value) (v4 : Option Value) (x9 : Int32) (x1 : Int32) (st : List Value) (σ : ma_H), ma_rn ro d 145 (22, [v0, v1, v2, some (.int x9), v4], .int x1 :: st, SH, σ) = ma_rn ro d 145 (24, [v0, v1, v2, some (.int x9), some (.int x1)], st, SH, σ)) ∧
  (∀ (v0 : Option Value) (v1 : Option Value) (v3 : Option Value) (v4 : Option Value) (x1 : Int32) (st : List Value) (σ : ma_H), ma_rn ro d 145 (24, [v0, v1, some (.int x1), v3, v4], st, SH, σ) = ma_rn ro d 145 (25, [v0, v1, some (.int x1), v3, v4], .int x1 :: st, SH, σ)) ∧
  (∀ (v0 : Option Value) (v2 : Option Value) (v3 : Option Value) (v4 : Option Value) (x1 : Int32) (st : List Value) (σ : ma_H), ma_rn ro d 145 (25, [v0, some (.int x1), v2, v3, v4], st, SH, σ) = ma_rn ro d 145 (26, [v0, some (.int x1), v2, v3, v4], .int x1 :: st, SH, σ)) ∧
  (∀ (v0 : Option Value) (v1 : Option Value) (v2 : Option Value) (v4 : Option Value) (x1 : Int32) (st : List Value) (σ : ma_H), ma_rn ro d 145 (26, [v0, v1, v2, some (.int x1), v4], st, SH, σ) = ma_rn ro d 145 (27, [v0, v1, v2, some (.int x1), v4], .int x1 :: st, SH, σ)) ∧
  (∀ (v0 : Option Value) (v1 : Option Value) (v2 : Option Value) (v3 : Option Value) (v4 : Option Value) (x1 : Int32) (x2 : Int32) (st : List Value) (σ : ma_H), ma_rn ro d 145 (27, [v0, v1, v2, v3, v4], .int x1 :: .int x2 :: st, SH, σ) = ma_rn ro d 145 (28, [v0, v1, v2, v3, v4], .int (x2 >>> (x1 &&& 31)) :: st, SH, σ)) ∧
  (∀ (v0 : Option Value) (v1 : Option Value) (v2 : Option Value) (v3 : Option Value) (v4 : Option Value) (st : List Value) (σ : ma_H), ma_rn ro d 145 (28, [v0, v1, v2, v3, v4], st, SH, σ) = ma_rn ro d 145 (29, [v0, v1, v2, v3, v4], .int (nI 1) :: st, SH, σ)) ∧
  (∀ (v0 : Option Value) (v1 : Option Value) (v2 : Option Value) (v3 : Option Value) (v4 : Option Value) (x1 : Int32) (x2 : Int32) (st : List Value) (σ : ma_H), ma_rn ro d 145 (29, [v0, v1, v2, v3, v4], .int x1 :: .int x2 :: st, SH, σ) = ma_rn ro d 145 (30, [v0, v1, v2, v3, v4], .int (x2 &&& x1) :: st, SH, σ)) ∧
  (∀ (v0 : Option Value) (v1 : Option Value) (v2 : Option Value) (v3 : Option Value) (v4 : Option Value) (st : List Value) (σ : ma_H), ma_rn ro d 145 (30, [v0, v1, v2, v3, v4], st, SH, σ) = ma_rn ro d 145 (31, [v0, v1, v2, v3, v4], .int (nI 1) :: st, SH, σ)) ∧
  (∀ (v0 : Option Value) (v1 : Option Value) (v2 : Option Value) (v3 : Option Value) (v4 : Option Value) (x1 : Int32) (x2 : Int32) (st : List Value) (σ : ma_H), ma_rn ro d 145 (31, [v0, v1, v2, v3, v4], .int x1 :: .int x2 :: st, SH, σ) = if x2 = x1 then ma_rn ro d 145 (34, [v0, v1, v2, v3, v4], st, SH, σ) else ma_rn ro d 145 (56, [v0, v1, v2, v3, v4], st, SH, σ)) ∧
  (∀ (v0 : Option Value) (v1 : Option Value) (v2 : Option Value) (v3 : Option Value) (x1 : Int32) (st : List Value) (σ : ma_H), ma_rn ro d 145 (34, [v0, v1, v2, v3, some (.int x1)], st, SH, σ) = ma_rn ro d 145 (36, [v0, v1, v2, v3, some (.int x1)], .int x1 :: st, SH, σ)) ∧
  (∀ (v0 : Option Value) (v1 : Option Value) (v2 : Option Value) (v3 : Option Value) (v4 : Option Value) (x1 : Int32) (st : List Value) (σ : ma_H), ma_rn ro d 145 (36, [v0, v1, v2, v3, v4], .int x1 :: st, SH, σ) = if nI 0 < x1 then ma_rn ro d 145 (39, [v0, v1, v2, v3, v4], st, SH, σ) else ma_rn ro d 145 (56, [v0, v1, v2, v3, v4], st, SH, σ)) ∧
  (∀ (v0 : Option Value) (v1 : Option Value) (v2 : Option Value) (v3 : Option Value) (x1 : Int32) (st : List Value) (σ : ma_H), ma_rn ro d 145 (39, [v0, v1, v2, v3, some (.int x1)], st, SH, σ) = ma_rn ro d 145 (41, [v0, v1, v2, v3, some (.int x1)], .int x1 :: st, SH, σ)) ∧
  (∀ (v1 : Option Value) (v2 : Option Value) (v3 : Option Value) (v4 : Option Value) (a1 : Nat) (st : List Value) (σ : ma_H), ma_rn ro d 145 (41, [some (.ref a1), v1, v2, v3, v4], st, SH, σ) = ma_rn ro d 145 (42, [some (.ref a1), v1, v2, v3, v4], .ref a1 :: st, SH, σ)) ∧
  (∀ (v0 : Option Value) (v1 : Option Value) (v2 : Option Value) (v3 : Option Value) (v4 : Option Value) (a1 : Nat) (st : List Value) (σ : ma_H) (hc : hk_cls a1 = 8), ma_rn ro d 145 (42, [v0, v1, v2, v3, v4], .ref a1 :: st, SH, σ) = ma_rn ro d 145 (45, [v0, v1, v2, v3, v4], .ref (91) :: st, SH, σ)) ∧
  (∀ (v0 : Option Value) (v1 : Option Value) (v2 : Option Value) (v3 : Option Value) (v4 : Option Value) (st : List Value) (σ : ma_H), ma_rn ro d 145 (45, [v0, v1, v2, v3, v4], st, SH, σ) = ma_rn ro d 145 (47, [v0, v1, v2, v3, v4], .int (nI 46) :: st, SH, σ)) ∧
  (∀ (v0 : Option Value) (v1 : Option Value) (v2 : Option Value) (v4 : Option Value) (x1 : Int32) (st : List Value) (σ : ma_H), ma_rn ro d 145 (47, [v0, v1, v2, some (.int x1), v4], st, SH, σ) = ma_rn ro d 145 (48, [v0, v1, v2, some (.int x1), v4], .int x1 :: st, SH, σ)) ∧
  (∀ (v0 : Option Value) (v1 : Option Value) (v2 : Option Value) (v3 : Option Value) (v4 : Option Value) (x1 : Int32) (x2 : Int32) (st : List Value) (σ : ma_H), ma_rn ro d 145 (48, [v0, v1, v2, v3, v4], .int x1 :: .int x2 :: st, SH, σ) = ma_rn ro d 145 (49, [v0, v1, v2, v3, v4], .int (x2 + x1) :: st, SH, σ)) ∧
  (∀ (v0 : Option Value) (v1 : Option Value) (v2 : Option Value) (v3 : Option Value) (v4 : Option Value) (k : Nat) (a2 : Nat) (st : List Value) (σ : ma_H) (hk : k < hk_len a2), ma_rn ro d 145 (49, [v0, v1, v2, v3, v4], .int (nI k) :: .ref a2 :: st, SH, σ) = ma_rn ro d 145 (50, [v0, v1, v2, v3, v4], .int (σ a2 k) :: st, SH, σ)) ∧
  (∀ (v0 : Option Value) (v1 : Option Value) (v2 : Option Value) (v3 : Option Value) (v4 : Option Value) (st : List Value) (σ : ma_H), ma_rn ro d 145 (50, [v0, v1, v2, v3, v4], st, SH, σ) = ma_rn ro d 145 (51, [v0, v1, v2, v3, v4], .int (nI 1) :: st, SH, σ)) ∧
  (∀ (v0 : Option Value) (v1 : Option Value) (v2 : Option Value) (v3 : Option Value) (v4 : Option Value) (x1 : Int32) (x2 : Int32) (st : List Value) (σ : ma_H), ma_rn ro d 145 (51, [v0, v1, v2, v3, v4], .int x1 :: .int x2 :: st, SH, σ) = ma_rn ro d 145 (52, [v0, v1, v2, v3, v4], .int (x2 + x1) :: st, SH, σ)) ∧
  (∀ (v0 : Option Value) (v1 : Option Value) (v2 : Option Value) (v3 : Option Value) (v4 : Option Value) (x1 : Int32) (x2 : Int32) (st : List Value) (σ : ma_H), ma_rn ro d 145 (52, [v0, v1, v2, v3, v4], .int x1 :: .int x2 :: st, SH, σ) = ma_rn ro d 145 (53, [v0, v1, v2, v3, v4], .int (x2 * x1) :: st, SH, σ)) ∧
  (∀ (v0 : Option Value) (v1 : Option Value) (v2 : Option Value) (v3 : Option Value) (v4 : Option Value) (st : List Value) (σ : ma_H), ma_rn ro d 145 (53, [v0, v1, v2, v3, v4], st, SH, σ) = ma_rn ro d 145 (57, [v0, v1, v2, v3, v4], st, SH, σ)) ∧
  (∀ (v0 : Option Value) (v1 : Option Value) (v2 : Option Value) (v3 : Option Value) (v4 : Option Value) (st : List Value) (σ : ma_H), ma_rn ro d 145 (56, [v0, v1, v2, v3, v4], st, SH, σ) = ma_rn ro d 145 (57, [v0, v1, v2, v3, v4], .int (nI 0) :: st, SH, σ)) ∧
  (∀ (v0 : Option Value) (v1 : Option Value) (v2 : Option Value) (v3 : Option Value) (v4 : Option Value) (x1 : Int32) (x2 : Int32) (st : List Value) (σ : ma_H), ma_rn ro d 145 (57, [v0, v1, v2, v3, v4], .int x1 :: .int x2 :: st, SH, σ) = ma_rn ro d 145 (58, [v0, v1, v2, v3, v4], .int (x2 + x1) :: st, SH, σ)) ∧
  (∀ (v0 : Option Value) (v2 : Option Value) (v3 : Option Value) (v4 : Option Value) (x9 : Int32) (x1 : Int32) (st : List Value) (σ : ma_H), ma_rn ro d 145 (58, [v0, some (.int x9), v2, v3, v4], .int x1 :: st, SH, σ) = ma_rn ro d 145 (59, [v0, some (.int x9), some (.int x1), v3, v4], st, SH, σ)) ∧
  (∀ (v0 : Option Value) (v1 : Option Value) (v4 : Option Value) (x1 : Int32) (x9 : Int32) (st : List Value) (σ : ma_H), ma_rn ro d 145 (59, [v0, v1, some (.int x9), some (.int x1), v4], st, SH, σ) = ma_rn ro d 145 (62, [v0, v1, some (.int x9), some (.int (x1 + nI 1)), v4], st, SH, σ)) ∧
  (∀ (v0 : Option Value) (v1 : Option Value) (v2 : Option Value) (v3 : Option Value) (v4 : Option Value) (st : List Value) (σ : ma_H), ma_rn ro d 145 (62, [v0, v1, v2, v3, v4], st, SH, σ) = ma_rn ro d 145 (4, [v0, v1, v2, v3, v4], st, SH, σ)) ∧
  (∀ (v0 : Option Value) (v1 : Option Value) (v3 : Option Value) (v4 : Option Value) (x1 : Int32) (st : List Value) (σ : ma_H), ma_rn ro d 145 (65, [v0, v1, some (.int x1), v3, v4], st, SH, σ) = ma_rn ro d 145 (66, [v0, v1, some (.int x1), v3, v4], .int x1 :: st, SH, σ)) ∧
  (∀ (v0 : Option Value) (v1 : Option Value) (v2 : Option Value) (v3 : Option Value) (v4 : Option Value) (x1 : Int32) (σ : ma_H), ma_rn ro d 145 (66, [v0, v1, v2, v3, v4], [.int x1], SH, σ) = some (some (.int x1), SH, σ)) := ⟨fun v0 v1 v2 v3 v4 st σ => q_iconst e145_0 (by decide),
  fun v0 v2 v3 v4 x9 x1 st σ => q_go e145_1 rfl rfl,
  fun v0 v1 v2 v3 v4 st σ => q_iconst e145_2 (by decide),
  fun v0 v1 v3 v4 x9 x1 st σ => q_go e145_3 rfl rfl,
  fun v1 v2 v3 v4 a1 st σ => q_go e145_5 rfl rfl,
  fun v0 v1 v2 v3 v4 a1 st σ hc => q_getA e145_6 o_145 f_8_9 (by decide) hc,
  fun v0 v1 v2 v3 v4 st σ => q_bipush e145_9 (by decide),
  fun v0 v1 v2 v3 v4 k a2 st σ hk => q_iald e145_11 hk,
  fun v0 v1 v2 v3 v4 x1 x2 st σ => (q_cmp e145_12 rfl).trans q_nlt,
  fun v1 v2 v3 v4 a1 st σ => q_go e145_15 rfl rfl,
  fun v0 v1 v2 v4 x1 st σ => q_go e145_16 rfl rfl,
  fun v0 v1 v2 v3 v4 st σ => q_bipush e145_17 (by decide),
  fun v0 v1 v2 v3 v4 x1 x2 a0 σ hc => q_invV (as := [.int x1, .int x2]) (rest := []) e145_19 o_145 bn_8_126 c_8_126 m_125 (by decide) rfl rfl (Nat.le_of_ble_eq_true rfl) (Nat.le_of_ble_eq_true rfl) hc,
  fun v0 v1 v2 v4 x9 x1 st σ => q_go e145_22 rfl rfl,
  fun v0 v1 v3 v4 x1 st σ => q_go e145_24 rfl rfl,
  fun v0 v2 v3 v4 x1 st σ => q_go e145_25 rfl rfl,
  fun v0 v1 v2 v4 x1 st σ => q_go e145_26 rfl rfl,
  fun v0 v1 v2 v3 v4 x1 x2 st σ => q_go e145_27 rfl rfl,
  fun v0 v1 v2 v3 v4 st σ => q_iconst e145_28 (by decide),
  fun v0 v1 v2 v3 v4 x1 x2 st σ => q_go e145_29 rfl rfl,
  fun v0 v1 v2 v3 v4 st σ => q_iconst e145_30 (by decide),
  fun v0 v1 v2 v3 v4 x1 x2 st σ => (q_cmp e145_31 rfl).trans q_ne,
  fun v0 v1 v2 v3 x1 st σ => q_go e145_34 rfl rfl,
  fun v0 v1 v2 v3 v4 x1 st σ => (q_if e145_36 rfl).trans q_ngt,
  fun v0 v1 v2 v3 x1 st σ => q_go e145_39 rfl rfl,
  fun v1 v2 v3 v4 a1 st σ => q_go e145_41 rfl rfl,
  fun v0 v1 v2 v3 v4 a1 st σ hc => q_getA e145_42 o_145 f_8_9 (by decide) hc,
  fun v0 v1 v2 v3 v4 st σ => q_bipush e145_45 (by decide),
  fun v0 v1 v2 v4 x1 st σ => q_go e145_47 rfl rfl,
  fun v0 v1 v2 v3 v4 x1 x2 st σ => q_go e145_48 rfl rfl,
  fun v0 v1 v2 v3 v4 k a2 st σ hk => q_iald e145_49 hk,
  fun v0 v1 v2 v3 v4 st σ => q_iconst e145_50 (by decide),
  fun v0 v1 v2 v3 v4 x1 x2 st σ => q_go e145_51 rfl rfl,
  fun v0 v1 v2 v3 v4 x1 x2 st σ => q_go e145_52 rfl rfl,
  fun v0 v1 v2 v3 v4 st σ => q_goto e145_53 rfl,
  fun v0 v1 v2 v3 v4 st σ => q_iconst e145_56 (by decide),
  fun v0 v1 v2 v3 v4 x1 x2 st σ => q_go e145_57 rfl rfl,
  fun v0 v2 v3 v4 x9 x1 st σ => q_go e145_58 rfl rfl,
  fun v0 v1 v4 x1 x9 st σ => q_iinc e145_59 rfl rfl (by decide),
  fun v0 v1 v2 v3 v4 st σ => q_goto e145_62 rfl,
  fun v0 v1 v3 v4 x1 st σ => q_go e145_65 rfl rfl,
  fun v0 v1 v2 v3 v4 x1 σ => q_iret e145_66 r_145⟩
theorem E145 {ro : ma_RO} {d : Nat} (a0 : Nat) (x1 : Int32) (sh : List ma_Sh) (σ : ma_H) : ma_ev ro d 145 [.ref a0, .int x1] sh σ = ma_rn ro d 145 (0, [some (.ref a0), some (.int x1), none, none, none], [], sh, σ) := q_ent x_145 rfl
theorem e146_0 : decode (ma_cd 146) 0 = .ok (.iload_n 2, 1) := (congrArg (fun b => decode b 0) cd_146).trans dX8_best_0
theorem e146_1 : decode (ma_cd 146) 1 = .ok (.iconst 0, 1) := (congrArg (fun b => decode b 1) cd_146).trans dX8_best_1
theorem e146_2 : decode (ma_cd 146) 2 = .ok (.iconst 1, 1) := (congrArg (fun b => decode b 2) cd_146).trans dX8_best_2
theorem e146_3 : decode (ma_cd 146) 3 = .ok (.invokestatic 35, 3) := (congrArg (fun b => decode b 3) cd_146).trans dX8_best_3
theorem e146_6 : decode (ma_cd 146) 6 = .ok (.ifCond .ne 5, 3) := (congrArg (fun b => decode b 6) cd_146).trans dX8_best_6
theorem e146_9 : decode (ma_cd 146) 9 = .ok (.iconst (-1), 1) := (congrArg (fun b => decode b 9) cd_146).trans dX8_best_9
theorem e146_10 : decode (ma_cd 146) 10 = .ok (.ireturn, 1) := (congrArg (fun b => decode b 10) cd_146).trans dX8_best_10
theorem e146_11 : decode (ma_cd 146) 11 = .ok (.iload_n 1, 1) := (congrArg (fun b => decode b 11) cd_146).trans dX8_best_11
theorem e146_12 : decode (ma_cd 146) 12 = .ok (.iconst 0, 1) := (congrArg (fun b => decode b 12) cd_146).trans dX8_best_12
theorem e146_13 : decode (ma_cd 146) 13 = .ok (.bipush 30, 2) := (congrArg (fun b => decode b 13) cd_146).trans dX8_best_13
theorem e146_15 : decode (ma_cd 146) 15 = .ok (.invokestatic 35, 3) := (congrArg (fun b => decode b 15) cd_146).trans dX8_best_15
theorem e146_18 : decode (ma_cd 146) 18 = .ok (.ifCond .ne 6, 3) := (congrArg (fun b => decode b 18) cd_146).trans dX8_best_18
theorem e146_21 : decode (ma_cd 146) 21 = .ok (.bipush (-2), 2) := (congrArg (fun b => decode b 21) cd_146).trans dX8_best_21
theorem e146_23 : decode (ma_cd 146) 23 = .ok (.ireturn, 1) := (congrArg (fun b => decode b 23) cd_146).trans dX8_best_23
theorem e146_24 : decode (ma_cd 146) 24 = .ok (.iconst 0, 1) := (congrArg (fun b => decode b 24) cd_146).trans dX8_best_24
theorem e146_25 : decode (ma_cd 146) 25 = .ok (.istore_n 3, 1) := (congrArg (fun b => decode b 25) cd_146).trans dX8_best_25
theorem e146_26 : decode (ma_cd 146) 26 = .ok (.iconst 1, 1) := (congrArg (fun b => decode b 26) cd_146).trans dX8_best_26
theorem e146_27 : decode (ma_cd 146) 27 = .ok (.istore 4, 2) := (congrArg (fun b => decode b 27) cd_146).trans dX8_best_27
theorem e146_29 : decode (ma_cd 146) 29 = .ok (.iload 4, 2) := (congrArg (fun b => decode b 29) cd_146).trans dX8_best_29
theorem e146_31 : decode (ma_cd 146) 31 = .ok (.iconst 1, 1) := (congrArg (fun b => decode b 31) cd_146).trans dX8_best_31
theorem e146_32 : decode (ma_cd 146) 32 = .ok (.aload_n 0, 1) := (congrArg (fun b => decode b 32) cd_146).trans dX8_best_32
theorem e146_33 : decode (ma_cd 146) 33 = .ok (.getfield 9, 3) := (congrArg (fun b => decode b 33) cd_146).trans dX8_best_33
theorem e146_36 : decode (ma_cd 146) 36 = .ok (.bipush 33, 2) := (congrArg (fun b => decode b 36) cd_146).trans dX8_best_36
theorem e146_38 : decode (ma_cd 146) 38 = .ok (.iaload, 1) := (congrArg (fun b => decode b 38) cd_146).trans dX8_best_38
theorem e146_39 : decode (ma_cd 146) 39 = .ok (.ishl, 1) := (congrArg (fun b => decode b 39) cd_146).trans dX8_best_39
theorem e146_40 : decode (ma_cd 146) 40 = .ok (.if_icmp .ge 40, 3) := (congrArg (fun b => decode b 40) cd_146).trans dX8_best_40
theorem e146_43 : decode (ma_cd 146) 43 = .ok (.aload_n 0, 1) := (congrArg (fun b => decode b 43) cd_146).trans dX8_best_43
theorem e146_44 : decode (ma_cd 146) 44 = .ok (.iload 4, 2) := (congrArg (fun b => decode b 44) cd_146).trans dX8_best_44
theorem e146_46 : decode (ma_cd 146) 46 = .ok (.invokevirtual 168, 3) := (congrArg (fun b => decode b 46) cd_146).trans dX8_best_46
theorem e146_49 : decode (ma_cd 146) 49 = .ok (.iload_n 1, 1) := (congrArg (fun b => decode b 49) cd_146).trans dX8_best_49
theorem e146_50 : decode (ma_cd 146) 50 = .ok (.if_icmp .gt 22, 3) := (congrArg (fun b => decode b 50) cd_146).trans dX8_best_50
theorem e146_53 : decode (ma_cd 146) 53 = .ok (.aload_n 0, 1) := (congrArg (fun b => decode b 53) cd_146).trans dX8_best_53
theorem e146_54 : decode (ma_cd 146) 54 = .ok (.iload 4, 2) := (congrArg (fun b => decode b 54) cd_146).trans dX8_best_54
theorem e146_56 : decode (ma_cd 146) 56 = .ok (.invokevirtual 171, 3) := (congrArg (fun b => decode b 56) cd_146).trans dX8_best_56
theorem e146_59 : decode (ma_cd 146) 59 = .ok (.aload_n 0, 1) := (congrArg (fun b => decode b 59) cd_146).trans dX8_best_59
theorem e146_60 : decode (ma_cd 146) 60 = .ok (.iload_n 3, 1) := (congrArg (fun b => decode b 60) cd_146).trans dX8_best_60
theorem e146_61 : decode (ma_cd 146) 61 = .ok (.invokevirtual 171, 3) := (congrArg (fun b => decode b 61) cd_146).trans dX8_best_61
theorem e146_64 : decode (ma_cd 146) 64 = .ok (.if_icmp .le 8, 3) := (congrArg (fun b => decode b 64) cd_146).trans dX8_best_64
theorem e146_67 : decode (ma_cd 146) 67 = .ok (.iload 4, 2) := (congrArg (fun b => decode b 67) cd_146).trans dX8_best_67
theorem e146_69 : decode (ma_cd 146) 69 = .ok (.goto 4, 3) := (congrArg (fun b => decode b 69) cd_146).trans dX8_best_69
theorem e146_72 : decode (ma_cd 146) 72 = .ok (.iload_n 3, 1) := (congrArg (fun b => decode b 72) cd_146).trans dX8_best_72
theorem e146_73 : decode (ma_cd 146) 73 = .ok (.istore_n 3, 1) := (congrArg (fun b => decode b 73) cd_146).trans dX8_best_73
theorem e146_74 : decode (ma_cd 146) 74 = .ok (.iinc 4 1, 3) := (congrArg (fun b => decode b 74) cd_146).trans dX8_best_74
theorem e146_77 : decode (ma_cd 146) 77 = .ok (.goto (-48), 3) := (congrArg (fun b => decode b 77) cd_146).trans dX8_best_77
theorem e146_80 : decode (ma_cd 146) 80 = .ok (.iload_n 2, 1) := (congrArg (fun b => decode b 80) cd_146).trans dX8_best_80
theorem e146_81 : decode (ma_cd 146) 81 = .ok (.ifCond .ne 7, 3) := (congrArg (fun b => decode b 81) cd_146).trans dX8_best_81
theorem e146_84 : decode (ma_cd 146) 84 = .ok (.iload_n 3, 1) := (congrArg (fun b => decode b 84) cd_146).trans dX8_best_84
theorem e146_85 : decode (ma_cd 146) 85 = .ok (.goto 8, 3) := (congrArg (fun b => decode b 85) cd_146).trans dX8_best_85
theorem e146_88 : decode (ma_cd 146) 88 = .ok (.aload_n 0, 1) := (congrArg (fun b => decode b 88) cd_146).trans dX8_best_88
theorem e146_89 : decode (ma_cd 146) 89 = .ok (.iload_n 3, 1) := (congrArg (fun b => decode b 89) cd_146).trans dX8_best_89
theorem e146_90 : decode (ma_cd 146) 90 = .ok (.invokevirtual 171, 3) := (congrArg (fun b => decode b 90) cd_146).trans dX8_best_90
theorem e146_93 : decode (ma_cd 146) 93 = .ok (.ireturn, 1) := (congrArg (fun b => decode b 93) cd_146).trans dX8_best_93
theorem Sh146_29 {ro : ma_RO} {d : Nat} : (∀ (v0 : Option Value) (v1 : Option Value) (v2 : Option Value) (v3 : Option Value) (x1 : Int32) (st : List Value) (σ : ma_H), ma_rn ro d 146 (29, [v0, v1, v2, v3, some (.int x1)], st, SH, σ) = ma_rn ro d 146 (31, [v0, v1, v2, v3, some (.int x1)], .int x1 :: st, SH, σ)) := fun v0 v1 v2 v3 x1 st σ => q_go e146_29 rfl rfl
theorem S146 {ro : ma_RO} {d : Nat} : (∀ (v0 : Option Value) (v1 : Option Value) (v3 : Option Value) (v4 : Option Value) (x1 : Int32) (st : List Value) (σ : ma_H), ma_rn ro d 146 (0, [v0, v1, some (.int x1), v3, v4], st, SH, σ) = ma_rn ro d 146 (1, [v0, v1, some (.int x1), v3, v4], .int x1 :: st, SH, σ)) ∧
  (∀ (v0 : Option Value) (v1 : Option Value) (v2 : Option Value) (v3 : Option Value) (v4 : Option Value) (st : List Value) (σ : ma_H), ma_rn ro d 146 (1, [v0, v1, v2, v3, v4], st, SH, σ) = ma_rn ro d 146 (2, [v0, v1, v2, v3, v4], .int (nI 0) :: st, SH, σ)) ∧
  (∀ (v0 : Option Value) (v1 : Option Value) (v2 : Option Value) (v3 : Option Value) (v4 : Option Value) (st : List Value) (σ : ma_H), ma_rn ro d 146 (2, [v0, v1, v2, v3, v4], st, SH, σ) = ma_rn ro d 146 (3, [v0, v1, v2, v3, v4], .int (nI 1) :: st, SH, σ)) ∧
  (∀ (v0 : Option Value) (v1 : Option Value) (v2 : Option Value) (v3 : Option Value) (v4 : Option Value) (x1 : Int32) (x2 : Int32) (x3 : Int32) (σ : ma_H), ma_rn ro (d + 1) 146 (3, [v0, v1, v2, v3, v4], .int x3 :: .int x2 :: .int x1 :: [], SH, σ) = (ma_ev ro d 102 [.int x1, .int x2, .int x3] SH σ).bind (fun q => ma_rn ro (d + 1) 146 (6, [v0, v1, v2, v3, v4], (q.1.toList ++ []), q.2.1, q.2.2))) ∧
  (∀ (v0 : Option Value) (v1 : Option Value) (v2 : Option Value) (v3 : Option Value) (v4 : Option Value) (x1 : Int32) (st : List Value) (σ : ma_H), ma_rn ro d 146 (6, [v0, v1, v2, v3, v4], .int x1 :: st, SH, σ) = if x1 = nI 0 then ma_rn ro d 146 (9, [v0, v1, v2, v3, v4], st, SH, σ) else ma_rn ro d 146 (11, [v0, v1, v2, v3, v4], st, SH, σ)) ∧
  (∀ (v0 : Option Value) (v1 : Option Value) (v2 : Option Value) (v3 : Option Value) (v4 : Option Value) (st : List Value) (σ : ma_H), ma_rn ro d 146 (9, [v0, v1, v2, v3, v4], st, SH, σ) = ma_rn ro d 146 (10, [v0, v1, v2, v3, v4], .int ((-1)) :: st, SH, σ)) ∧
  (∀ (v0 : Option Value) (v1 : Option Value) (v2 : Option Value) (v3 : Option Value) (v4 : Option Value) (x1 : Int32) (σ : ma_H), ma_rn ro d 146 (10, [v0, v1, v2, v3, v4], [.int x1], SH, σ) = some (some (.int x1), SH, σ)) ∧
  (∀ (v0 : Option Value) (v2 : Option Value) (v3 : Option Value) (v4 : Option Value) (x1 : Int32) (st : List Value) (σ : ma_H), ma_rn ro d 146 (11, [v0, some (.int x1), v2, v3, v4], st, SH, σ) = ma_rn ro d 146 (12, [v0, some (.int x1), v2, v3, v4], .int x1 :: st, SH, σ)) ∧
  (∀ (v0 : Option Value) (v1 : Option Value) (v2 : Option Value) (v3 : Option Value) (v4 : Option Value) (st : List Value) (σ : ma_H), ma_rn ro d 146 (12, [v0, v1, v2, v3, v4], st, SH, σ) = ma_rn ro d 146 (13, [v0, v1, v2, v3, v4], .int (nI 0) :: st, SH, σ)) ∧
  (∀ (v0 : Option Value) (v1 : Option Value) (v2 : Option Value) (v3 : Option Value) (v4 : Option Value) (st : List Value) (σ : ma_H), ma_rn ro d 146 (13, [v0, v1, v2, v3, v4], st, SH, σ) = ma_rn ro d 146 (15, [v0, v1, v2, v3, v4], .int (nI 30) :: st, SH, σ)) ∧
  (∀ (v0 : Option Value) (v1 : Option Value) (v2 : Option Value) (v3 : Option Value) (v4 : Option Value) (x1 : Int32) (x2 : Int32) (x3 : Int32) (σ : ma_H), ma_rn ro (d + 1) 146 (15, [v0, v1, v2, v3, v4], .int x3 :: .int x2 :: .int x1 :: [], SH, σ) = (ma_ev ro d 102 [.int x1, .int x2, .int x3] SH σ).bind (fun q => ma_rn ro (d + 1) 146 (18, [v0, v1, v2, v3, v4], (q.1.toList ++ []), q.2.1, q.2.2))) ∧
  (∀ (v0 : Option Value) (v1 : Option Value) (v2 : Option Value) (v3 : Option Value) (v4 : Option Value) (x1 : Int32) (st : List Value) (σ : ma_H), ma_rn ro d 146 (18, [v0, v1, v2, v3, v4], .int x1 :: st, SH, σ) = if x1 = nI 0 then ma_rn ro d 146 (21, [v0, v1, v2, v3, v4], st, SH, σ) else ma_rn ro d 146 (24, [v0, v1, v2, v3, v4], st, SH, σ)) ∧
  (∀ (v0 : Option Value) (v1 : Option Value) (v2 : Option Value) (v3 : Option Value) (v4 : Option Value) (st : List Value) (σ : ma_H), ma_rn ro d 146 (21, [v0, v1, v2, v3, v4], st, SH, σ) = ma_rn ro d 146 (23, [v0, v1, v2, v3, v4], .int ((-2)) :: st, SH, σ)) ∧
  (∀ (v0 : Option Value) (v1 : Option Value) (v2 : Option Value) (v3 : Option Value) (v4 : Option Value) (x1 : Int32) (σ : ma_H), ma_rn ro d 146 (23, [v0, v1, v2, v3, v4], [.int x1], SH, σ) = some (some (.int x1), SH, σ)) ∧
  (∀ (v0 : Option Value) (v1 : Option Value) (v2 : Option Value) (v3 : Option Value) (v4 : Option Value) (st : List Value) (σ : ma_H), ma_rn ro d 146 (24, [v0, v1, v2, v3, v4], st, SH, σ) = ma_rn ro d 146 (25, [v0, v1, v2, v3, v4], .int (nI 0) :: st, SH, σ)) ∧
  (∀ (v0 : Option Value) (v1 : Option Value) (v3 : Option Value) (v4 : Option Value) (x9 : Int32) (x1 : Int32) (st : List Value) (σ : ma_H), ma_rn ro d 146 (25, [v0, v1, some (.int x9), v3, v4], .int x1 :: st, SH, σ) = ma_rn ro d 146 (26, [v0, v1, some (.int x9), some (.int x1), v4], st, SH, σ)) ∧
  (∀ (v0 : Option Value) (v1 : Option Value) (v2 : Option Value) (v3 : Option Value) (v4 : Option Value) (st : List Value) (σ : ma_H), ma_rn ro d 146 (26, [v0, v1, v2, v3, v4], st, SH, σ) = ma_rn ro d 146 (27, [v0, v1, v2, v3, v4], .int (nI 1) :: st, SH, σ)) ∧
  (∀ (v0 : Option Value) (v1 : Option Value) (v2 : Option Value) (v4 : Option Value) (x9 : Int32) (x1 : Int32) (st : List Value) (σ : ma_H), ma_rn ro d 146 (27, [v0, v1, v2, some (.int x9), v4], .int x1 :: st, SH, σ) = ma_rn ro d 146 (29, [v0, v1, v2, some (.int x9), some (.int x1)], st, SH, σ)) ∧
  (∀ (v0 : Option Value) (v1 : Option Value) (v2 : Option Value) (v3 : Option Value) (v4 : Option Value) (st : List Value) (σ : ma_H), ma_rn ro d 146 (31, [v0, v1, v2, v3, v4], st, SH, σ) = ma_rn ro d 146 (32, [v0, v1, v2, v3, v4], .int (nI 1) :: st, SH, σ)) ∧
  (∀ (v1 : Option Value) (v2 : Option Value) (v3 : Option Value) (v4 : Option Value) (a1 : Nat) (st : List Value) (σ : ma_H), ma_rn ro d 146 (32, [some (.ref a1), v1, v2, v3, v4], st, SH, σ) = ma_rn ro d 146 (33, [some (.ref a1), v1, v2, v3, v4], .ref a1 :: st, SH, σ)) ∧
  (∀ (v0 : Option Value) (v1 : Option Value) (v2 : Option Value) (v3 : Option Value) (v4 : Option Value) (a1 : Nat) (st : List Value) (σ : ma_H) (hc : hk_cls a1 = 8), ma_rn ro d 146 (33, [v0, v1, v2, v3, v4], .ref a1 :: st, SH, σ) = ma_rn ro d 146 (36, [v0, v1, v2, v3, v4], .ref (91) :: st, SH, σ)) ∧
  (∀ (v0 : Option Value) (v1 : Option Value) (v2 : Option Value) (v3 : Option Value) (v4 : Option Value) (st : List Value) (σ : ma_H), ma_rn ro d 146 (36, [v0, v1, v2, v3, v4], st, SH, σ) = ma_rn ro d 146 (38, [v0, v1, v2, v3, v4], .int (nI 33) :: st, SH, σ)) ∧
  (∀ (v0 : Option Value) (v1 : Option Value) (v2 : Option Value) (v3 : Option Value) (v4 : Option Value) (k : Nat) (a2 : Nat) (st : List Value) (σ : ma_H) (hk : k < hk_len a2), ma_rn ro d 146 (38, [v0, v1, v2, v3, v4], .int (nI k) :: .ref a2 :: st, SH, σ) = ma_rn ro d 146 (39, [v0, v1, v2, v3, v4], .int (σ a2 k) :: st, SH, σ)) ∧
  (∀ (v0 : Option Value) (v1 : Option Value) (v2 : Option Value) (v3 : Option Value) (v4 : Option Value) (x1 : Int32) (x2 : Int32) (st : List Value) (σ : ma_H), ma_rn ro d 146 (39, [v0, v1, v2, v3, v4], .int x1 :: .int x2 :: st, SH, σ) = ma_rn ro d 146 (40, [v0, v1, v2, v3, v4], .int (x2 <<< (x1 &&& 31)) :: st, SH, σ)) ∧
  (∀ (v0 : Option Value) (v1 : Option Value) (v2 : Option Value) (v3 : Option Value) (v4 : Option Value) (x1 : Int32) (x2 : Int32) (st : List Value) (σ : ma_H), ma_rn ro d 146 (40, [v0, v1, v2, v3, v4], .int x1 :: .int x2 :: st, SH, σ) = if x2 < x1 then ma_rn ro d 146 (43, [v0, v1, v2, v3, v4], st, SH, σ) else ma_rn ro d 146 (80, [v0, v1, v2, v3, v4], st, SH, σ)) ∧
  (∀ (v1 : Option Value) (v2 : Option Value) (v3 : Option Value) (v4 : Option Value) (a1 : Nat) (st : List Value) (σ : ma_H), ma_rn ro d 146 (43, [some (.ref a1), v1, v2, v3, v4], st, SH, σ) = ma_rn ro d 146 (44, [some (.ref a1), v1, v2, v3, v4], .ref a1 :: st, SH, σ)) ∧
  (∀ (v0 : Option Value) (v1 : Option Value) (v2 : Option Value) (v3 : Option Value) (x1 : Int32) (st : List Value) (σ : ma_H), ma_rn ro d 146 (44, [v0, v1, v2, v3, some (.int x1)], st, SH, σ) = ma_rn ro d 146 (46, [v0, v1, v2, v3, some (.int x1)], .int x1 :: st, SH, σ)) ∧
  (∀ (v0 : Option Value) (v1 : Option Value) (v2 : Option Value) (v3 : Option Value) (v4 : Option Value) (x1 : Int32) (a0 : Nat) (σ : ma_H) (hc : hk_cls a0 = 8), ma_rn ro (d + 1) 146 (46, [v0, v1, v2, v3, v4], .int x1 :: .ref a0 :: [], SH, σ) = (ma_ev ro d 144 [.ref a0, .int x1] SH σ).bind (fun q => ma_rn ro (d + 1) 146 (49, [v0, v1, v2, v3, v4], (q.1.toList ++ []), q.2.1, q.2.2))) ∧
  (∀ (v0 : Option Value) (v2 : Option Value) (v3 : Option Value) (v4 : Option Value) (x1 : Int32) (st : List Value) (σ : ma_H), ma_rn ro d 146 (49, [v0, some (.int x1), v2, v3, v4], st, SH, σ) = ma_rn ro d 146 (50, [v0, some (.int x1), v2, v3, v4], .int x1 :: st, SH, σ)) ∧
  (∀ (v0 : Option Value) (v1 : Option Value) (v2 : Option Value) (v3 : Option Value) (v4 : Option Value) (x1 : Int32) (x2 : Int32) (st : List Value) (σ : ma_H), ma_rn ro d 146 (50, [v0, v1, v2, v3, v4], .int x1 :: .int x2 :: st, SH, σ) = if x1 < x2 then ma_rn ro d 146 (72, [v0, v1, v2, v3, v4], st, SH, σ) else ma_rn ro d 146 (53, [v0, v1, v2, v3, v4], st, SH, σ)) ∧
  (∀ (v1 : Option Value) (v2 : Option Value) (v3 : Option Value) (v4 : Option Value) (a1 : Nat) (st : List Value) (σ : ma_H), ma_rn ro d 146 (53, [some (.ref a1), v1, v2, v3, v4], st, SH, σ) = ma_rn ro d 146 (54, [some (.ref a1), v1, v2, v3, v4], .ref a1 :: st, SH, σ)) ∧
  (∀ (v0 : Option Value) (v1 : Option Value) (v2 : Option Value) (v3 : Option Value) (x1 : Int32) (st : List Value) (σ : ma_H), ma_rn ro d 146 (54, [v0, v1, v2, v3, some (.int x1)], st, SH, σ) = ma_rn ro d 146 (56, [v0, v1, v2, v3, some (.int x1)], .int x1 :: st, SH, σ)) ∧
  (∀ (v0 : Option Value) (v1 : Option Value) (v2 : Option Value) (v3 : Option Value) (v4 : Option Value) (x1 : Int32) (a0 : Nat) (σ : ma_H) (hc : hk_cls a0 = 8), ma_rn ro (d + 1) 146 (56, [v0, v1, v2, v3, v4], .int x1 :: .ref a0 :: [], SH, σ) = (ma_ev ro d 145 [.ref a0, .int x1] SH σ).bind (fun q => ma_rn ro (d + 1) 146 (59, [v0, v1, v2, v3, v4], (q.1.toList ++ []), q.2.1, q.2.2))) ∧
  (∀ (v1 : Option Value) (v2 : Option Value) (v3 : Option Value) (v4 : Option Value) (a1 : Nat) (st : List Value) (σ : ma_H), ma_rn ro d 146 (59, [some (.ref a1), v1, v2, v3, v4], st, SH, σ) = ma_rn ro d 146 (60, [some (.ref a1), v1, v2, v3, v4], .ref a1 :: st, SH, σ)) ∧
  (∀ (v0 : Option Value) (v1 : Option Value) (v2 : Option Value) (v4 : Option Value) (x1 : Int32) (st : List Value) (σ : ma_H), ma_rn ro d 146 (60, [v0, v1, v2, some (.int x1), v4], st, SH, σ) = ma_rn ro d 146 (61, [v0, v1, v2, some (.int x1), v4], .int x1 :: st, SH, σ)) ∧
  (∀ (v0 : Option Value) (v1 : Option Value) (v2 : Option Value) (v3 : Option Value) (v4 : Option Value) (x20 : Int32) (x1 : Int32) (a0 : Nat) (σ : ma_H) (hc : hk_cls a0 = 8), ma_rn ro (d + 1) 146 (61, [v0, v1, v2, v3, v4], .int x1 :: .ref a0 :: .int x20 :: [], SH, σ) = (ma_ev ro d 145 [.ref a0, .int x1] SH σ).bind (fun q => ma_rn ro (d + 1) 146 (64, [v0, v1, v2, v3, v4], (q.1.toList ++ (.int x20 :: [])), q.2.1, q.2.2))) ∧
  (∀ (v0 : Option Value) (v1 : Option Value) (v2 : Option Value) (v3 : Option Value) (v4 : Option Value) (x1 : Int32) (x2 : Int32) (st : List Value) (σ : ma_H), ma_rn ro d 146 (64, [v0, v1, v2, v3, v4], .int x1 :: .int x2 :: st, SH, σ) = if x1 < x2 then ma_rn ro d 146 (67, [v0, v1, v2, v3, v4], st, SH, σ) else ma_rn ro d 146 (72, [v0, v1, v2, v3, v4], st, SH, σ)) ∧
  (∀ (v0 : Option Value) (v1 : Option Value) (v2 : Option Value) (v3 : Option Value) (x1 : Int32) (st : List Value) (σ : ma_H), ma_rn ro d 146 (67, [v0, v1, v2, v3, some (.int x1)], st, SH, σ) = ma_rn ro d 146 (69, [v0, v1, v2, v3, some (.int x1)], .int x1 :: st, SH, σ)) ∧
  (∀ (v0 : Option Value) (v1 : Option Value) (v2 : Option Value) (v3 : Option Value) (v4 : Option Value) (st : List Value) (σ : ma_H), ma_rn ro d 146 (69, [v0, v1, v2, v3, v4], st, SH, σ) = ma_rn ro d 146 (73, [v0, v1, v2, v3, v4], st, SH, σ)) ∧
  (∀ (v0 : Option Value) (v1 : Option Value) (v2 : Option Value) (v4 : Option Value) (x1 : Int32) (st : List Value) (σ : ma_H), ma_rn ro d 146 (72, [v0, v1, v2, some (.int x1), v4], st, SH, σ) = ma_rn ro d 146 (73, [v0, v1, v2, some (.int x1), v4], .int x1 :: st, SH, σ)) ∧
  (∀ (v0 : Option Value) (v1 : Option Value) (v3 : Option Value) (v4 : Option Value) (x9 : Int32) (x1 : Int32) (st : List Value) (σ : ma_H), ma_rn ro d 146 (73, [v0, v1, some (.int x9), v3, v4], .int x1 :: st, SH, σ) = ma_rn ro d 146 (74, [v0, v1, some (.int x9), some (.int x1), v4], st, SH, σ)) ∧
  (∀ (v0 : Option Value) (v1 : Option Value) (v2 : Option Value) (x1 : Int32) (x9 : Int32) (st : List Value) (σ : ma_H), ma_rn ro d 146 (74, [v0, v1, v2, some (.int x9), some (.int x1)], st, SH, σ) = ma_rn ro d 146 (77, [v0, v1, v2, some (.int x9), some (.int (x1 + nI 1))], st, SH, σ)) ∧
  (∀ (v0 : Option Value) (v1 : Option Value) (v2 : Option Value) (v3 : Option Value) (v4 : Option Value) (st : List Value) (σ : ma_H), ma_rn ro d 146 (77, [v0, v1, v2, v3, v4], st, SH, σ) = ma_rn ro d 146 (29, [v0, v1, v2, v3, v4], st, SH, σ)) ∧
  (∀ (v0 : Option Value) (v1 : Option Value) (v3 : Option Value) (v4 : Option Value) (x1 : Int32) (st : List Value) (σ : ma_H), ma_rn ro d 146 (80, [v0, v1, some (.int x1), v3, v4], st, SH, σ) = ma_rn ro d 146 (81, [v0, v1, some (.int x1), v3, v4], .int x1 :: st, SH, σ)) ∧
  (∀ (v0 : Option Value) (v1 : Option Value) (v2 : Option Value) (v3 : Option Value) (v4 : Option Value) (x1 : Int32) (st : List Value) (σ : ma_H), ma_rn ro d 146 (81, [v0, v1, v2, v3, v4], .int x1 :: st, SH, σ) = if x1 = nI 0 then ma_rn ro d 146 (84, [v0, v1, v2, v3, v4], st, SH, σ) else ma_rn ro d 146 (88, [v0, v1, v2, v3, v4], st, SH, σ)) ∧
  (∀ (v0 : Option Value) (v1 : Option Value) (v2 : Option Value) (v4 : Option Value) (x1 : Int32) (st : List Value) (σ : ma_H), ma_rn ro d 146 (84, [v0, v1, v2, some (.int x1), v4], st, SH, σ) = ma_rn ro d 146 (85, [v0, v1, v2, some (.int x1), v4], .int x1 :: st, SH, σ)) ∧
  (∀ (v0 : Option Value) (v1 : Option Value) (v2 : Option Value) (v3 : Option Value) (v4 : Option Value) (st : List Value) (σ : ma_H), ma_rn ro d 146 (85, [v0, v1, v2, v3, v4], st, SH, σ) = ma_rn ro d 146 (93, [v0, v1, v2, v3, v4], st, SH, σ)) ∧
  (∀ (v1 : Option Value) (v2 : Option Value) (v3 : Option Value) (v4 : Option Value) (a1 : Nat) (st : List Value) (σ : ma_H), ma_rn ro d 146 (88, [some (.ref a1), v1, v2, v3, v4], st, SH, σ) = ma_rn ro d 146 (89, [some (.ref a1), v1, v2, v3, v4], .ref a1 :: st, SH, σ)) ∧
  (∀ (v0 : Option Value) (v1 : Option Value) (v2 : Option Value) (v4 : Option Value) (x1 : Int32) (st : List Value) (σ : ma_H), ma_rn ro d 146 (89, [v0, v1, v2, some (.int x1), v4], st, SH, σ) = ma_rn ro d 146 (90, [v0, v1, v2, some (.int x1), v4], .int x1 :: st, SH, σ)) ∧
  (∀ (v0 : Option Value) (v1 : Option Value) (v2 : Option Value) (v3 : Option Value) (v4 : Option Value) (x1 : Int32) (a0 : Nat) (σ : ma_H) (hc : hk_cls a0 = 8), ma_rn ro (d + 1) 146 (90, [v0, v1, v2, v3, v4], .int x1 :: .ref a0 :: [], SH, σ) = (ma_ev ro d 145 [.ref a0, .int x1] SH σ).bind (fun q => ma_rn ro (d + 1) 146 (93, [v0, v1, v2, v3, v4], (q.1.toList ++ []), q.2.1, q.2.2))) ∧
  (∀ (v0 : Option Value) (v1 : Option Value) (v2 : Option Value) (v3 : Option Value) (v4 : Option Value) (x1 : Int32) (σ : ma_H), ma_rn ro d 146 (93, [v0, v1, v2, v3, v4], [.int x1], SH, σ) = some (some (.int x1), SH, σ)) := ⟨fun v0 v1 v3 v4 x1 st σ => q_go e146_0 rfl rfl,
  fun v0 v1 v2 v3 v4 st σ => q_iconst e146_1 (by decide),
  fun v0 v1 v2 v3 v4 st σ => q_iconst e146_2 (by decide),
  fun v0 v1 v2 v3 v4 x1 x2 x3 σ => q_invS (as := [.int x1, .int x2, .int x3]) (rest := []) e146_3 o_146 bn_8_35 c_8_35 ⟨m_102.1, m_102.2.1, m_102.2.2.1⟩ rfl rfl (Nat.le_of_ble_eq_true rfl) (Nat.le_of_ble_eq_true rfl),
  fun v0 v1 v2 v3 v4 x1 st σ => (q_if e146_6 rfl).trans q_ne,
  fun v0 v1 v2 v3 v4 st σ => q_iconst e146_9 (by decide),
  fun v0 v1 v2 v3 v4 x1 σ => q_iret e146_10 r_146,
  fun v0 v2 v3 v4 x1 st σ => q_go e146_11 rfl rfl,
  fun v0 v1 v2 v3 v4 st σ => q_iconst e146_12 (by decide),
  fun v0 v1 v2 v3 v4 st σ => q_bipush e146_13 (by decide),
  fun v0 v1 v2 v3 v4 x1 x2 x3 σ => q_invS (as := [.int x1, .int x2, .int x3]) (rest := []) e146_15 o_146 bn_8_35 c_8_35 ⟨m_102.1, m_102.2.1, m_102.2.2.1⟩ rfl rfl (Nat.le_of_ble_eq_true rfl) (Nat.le_of_ble_eq_true rfl),
  fun v0 v1 v2 v3 v4 x1 st σ => (q_if e146_18 rfl).trans q_ne,
  fun v0 v1 v2 v3 v4 st σ => q_bipush e146_21 (by decide),
  fun v0 v1 v2 v3 v4 x1 σ => q_iret e146_23 r_146,
  fun v0 v1 v2 v3 v4 st σ => q_iconst e146_24 (by decide),
  fun v0 v1 v3 v4 x9 x1 st σ => q_go e146_25 rfl rfl,
  fun v0 v1 v2 v3 v4 st σ => q_iconst e146_26 (by decide),
  fun v0 v1 v2 v4 x9 x1 st σ => q_go e146_27 rfl rfl,
  fun v0 v1 v2 v3 v4 st σ => q_iconst e146_31 (by decide),
  fun v1 v2 v3 v4 a1 st σ => q_go e146_32 rfl rfl,
  fun v0 v1 v2 v3 v4 a1 st σ hc => q_getA e146_33 o_146 f_8_9 (by decide) hc,
  fun v0 v1 v2 v3 v4 st σ => q_bipush e146_36 (by decide),
  fun v0 v1 v2 v3 v4 k a2 st σ hk => q_iald e146_38 hk,
  fun v0 v1 v2 v3 v4 x1 x2 st σ => q_go e146_39 rfl rfl,
  fun v0 v1 v2 v3 v4 x1 x2 st σ => (q_cmp e146_40 rfl).trans q_nlt,
  fun v1 v2 v3 v4 a1 st σ => q_go e146_43 rfl rfl,
  fun v0 v1 v2 v3 x1 st σ => q_go e146_44 rfl rfl,
  fun v0 v1 v2 v3 v4 x1 a0 σ hc => q_invV (as := [.int x1]) (rest := []) e146_46 o_146 bn_8_168 c_8_168 m_144 (by decide) rfl rfl (Nat.le_of_ble_eq_true rfl) (Nat.le_of_ble_eq_true rfl) hc,
  fun v0 v2 v3 v4 x1 st σ => q_go e146_49 rfl rfl,
  fun v0 v1 v2 v3 v4 x1 x2 st σ => (q_cmp e146_50 rfl).trans q_gt,
  fun v1 v2 v3 v4 a1 st σ => q_go e146_53 rfl rfl,
  fun v0 v1 v2 v3 x1 st σ => q_go e146_54 rfl rfl,
  fun v0 v1 v2 v3 v4 x1 a0 σ hc => q_invV (as := [.int x1]) (rest := []) e146_56 o_146 bn_8_171 c_8_171 m_145 (by decide) rfl rfl (Nat.le_of_ble_eq_true rfl) (Nat.le_of_ble_eq_true rfl) hc,
  fun v1 v2 v3 v4 a1 st σ => q_go e146_59 rfl rfl,
  fun v0 v1 v2 v4 x1 st σ => q_go e146_60 rfl rfl,
  fun v0 v1 v2 v3 v4 x20 x1 a0 σ hc => q_invV (as := [.int x1]) (rest := .int x20 :: []) e146_61 o_146 bn_8_171 c_8_171 m_145 (by decide) rfl rfl (Nat.le_of_ble_eq_true rfl) (Nat.le_of_ble_eq_true rfl) hc,
  fun v0 v1 v2 v3 v4 x1 x2 st σ => (q_cmp e146_64 rfl).trans q_ngt,
  fun v0 v1 v2 v3 x1 st σ => q_go e146_67 rfl rfl,
  fun v0 v1 v2 v3 v4 st σ => q_goto e146_69 rfl,
  fun v0 v1 v2 v4 x1 st σ => q_go e146_72 rfl rfl,
  fun v0 v1 v3 v4 x9 x1 st σ => q_go e146_73 rfl rfl,
  fun v0 v1 v2 x1 x9 st σ => q_iinc e146_74 rfl rfl (by decide),
  fun v0 v1 v2 v3 v4 st σ => q_goto e146_77 rfl,
  fun v0 v1 v3 v4 x1 st σ => q_go e146_80 rfl rfl,
  fun v0 v1 v2 v3 v4 x1 st σ => (q_if e146_81 rfl).trans q_ne,
  fun v0 v1 v2 v4 x1 st σ => q_go e146_84 rfl rfl,
  fun v0 v1 v2 v3 v4 st σ => q_goto e146_85 rfl,
  fun v1 v2 v3 v4 a1 st σ => q_go e146_88 rfl rfl,
  fun v0 v1 v2 v4 x1 st σ => q_go e146_89 rfl rfl,
  fun v0 v1 v2 v3 v4 x1 a0 σ hc => q_invV (as := [.int x1]) (rest := []) e146_90 o_146 bn_8_171 c_8_171 m_145 (by decide) rfl rfl (Nat.le_of_ble_eq_true rfl) (Nat.le_of_ble_eq_true rfl) hc,
  fun v0 v1 v2 v3 v4 x1 σ => q_iret e146_93 r_146⟩
theorem E146 {ro : ma_RO} {d : Nat} (a0 : Nat) (x1 : Int32) (x2 : Int32) (sh : List ma_Sh) (σ : ma_H) : ma_ev ro d 146 [.ref a0, .int x1, .int x2] sh σ = ma_rn ro d 146 (0, [some (.ref a0), some (.int x1), some (.int x2), none, none], [], sh, σ) := q_ent x_146 rfl
theorem e147_0 : decode (ma_cd 147) 0 = .ok (.aload_n 0, 1) := (congrArg (fun b => decode b 0) cd_147).trans dX8_staysBy_0
theorem e147_1 : decode (ma_cd 147) 1 = .ok (.invokevirtual 159, 3) := (congrArg (fun b => decode b 1) cd_147).trans dX8_staysBy_1
theorem e147_4 : decode (ma_cd 147) 4 = .ok (.iconst 1, 1) := (congrArg (fun b => decode b 4) cd_147).trans dX8_staysBy_4
theorem e147_5 : decode (ma_cd 147) 5 = .ok (.istore 5, 2) := (congrArg (fun b => decode b 5) cd_147).trans dX8_staysBy_5
theorem e147_7 : decode (ma_cd 147) 7 = .ok (.iconst 0, 1) := (congrArg (fun b => decode b 7) cd_147).trans dX8_staysBy_7
theorem e147_8 : decode (ma_cd 147) 8 = .ok (.istore 6, 2) := (congrArg (fun b => decode b 8) cd_147).trans dX8_staysBy_8
theorem e147_10 : decode (ma_cd 147) 10 = .ok (.iload 6, 2) := (congrArg (fun b => decode b 10) cd_147).trans dX8_staysBy_10
theorem e147_12 : decode (ma_cd 147) 12 = .ok (.iload_n 3, 1) := (congrArg (fun b => decode b 12) cd_147).trans dX8_staysBy_12
theorem e147_13 : decode (ma_cd 147) 13 = .ok (.if_icmp .ge 74, 3) := (congrArg (fun b => decode b 13) cd_147).trans dX8_staysBy_13
theorem e147_16 : decode (ma_cd 147) 16 = .ok (.iload 5, 2) := (congrArg (fun b => decode b 16) cd_147).trans dX8_staysBy_16
theorem e147_18 : decode (ma_cd 147) 18 = .ok (.ifCond .eq 69, 3) := (congrArg (fun b => decode b 18) cd_147).trans dX8_staysBy_18
theorem e147_21 : decode (ma_cd 147) 21 = .ok (.aload_n 0, 1) := (congrArg (fun b => decode b 21) cd_147).trans dX8_staysBy_21
theorem e147_22 : decode (ma_cd 147) 22 = .ok (.getfield 9, 3) := (congrArg (fun b => decode b 22) cd_147).trans dX8_staysBy_22
theorem e147_25 : decode (ma_cd 147) 25 = .ok (.bipush 21, 2) := (congrArg (fun b => decode b 25) cd_147).trans dX8_staysBy_25
theorem e147_27 : decode (ma_cd 147) 27 = .ok (.iload_n 1, 1) := (congrArg (fun b => decode b 27) cd_147).trans dX8_staysBy_27
theorem e147_28 : decode (ma_cd 147) 28 = .ok (.iadd, 1) := (congrArg (fun b => decode b 28) cd_147).trans dX8_staysBy_28
theorem e147_29 : decode (ma_cd 147) 29 = .ok (.iload_n 2, 1) := (congrArg (fun b => decode b 29) cd_147).trans dX8_staysBy_29
theorem e147_30 : decode (ma_cd 147) 30 = .ok (.iload 6, 2) := (congrArg (fun b => decode b 30) cd_147).trans dX8_staysBy_30
theorem e147_32 : decode (ma_cd 147) 32 = .ok (.ishr, 1) := (congrArg (fun b => decode b 32) cd_147).trans dX8_staysBy_32
theorem e147_33 : decode (ma_cd 147) 33 = .ok (.iconst 1, 1) := (congrArg (fun b => decode b 33) cd_147).trans dX8_staysBy_33
theorem e147_34 : decode (ma_cd 147) 34 = .ok (.iand, 1) := (congrArg (fun b => decode b 34) cd_147).trans dX8_staysBy_34
theorem e147_35 : decode (ma_cd 147) 35 = .ok (.iconst 1, 1) := (congrArg (fun b => decode b 35) cd_147).trans dX8_staysBy_35
theorem e147_36 : decode (ma_cd 147) 36 = .ok (.if_icmp .ne 8, 3) := (congrArg (fun b => decode b 36) cd_147).trans dX8_staysBy_36
theorem e147_39 : decode (ma_cd 147) 39 = .ok (.bipush 9, 2) := (congrArg (fun b => decode b 39) cd_147).trans dX8_staysBy_39
theorem e147_41 : decode (ma_cd 147) 41 = .ok (.goto 12, 3) := (congrArg (fun b => decode b 41) cd_147).trans dX8_staysBy_41
theorem e147_44 : decode (ma_cd 147) 44 = .ok (.aload_n 0, 1) := (congrArg (fun b => decode b 44) cd_147).trans dX8_staysBy_44
theorem e147_45 : decode (ma_cd 147) 45 = .ok (.getfield 9, 3) := (congrArg (fun b => decode b 45) cd_147).trans dX8_staysBy_45
theorem e147_48 : decode (ma_cd 147) 48 = .ok (.bipush 21, 2) := (congrArg (fun b => decode b 48) cd_147).trans dX8_staysBy_48
theorem e147_50 : decode (ma_cd 147) 50 = .ok (.iload_n 1, 1) := (congrArg (fun b => decode b 50) cd_147).trans dX8_staysBy_50
theorem e147_51 : decode (ma_cd 147) 51 = .ok (.iadd, 1) := (congrArg (fun b => decode b 51) cd_147).trans dX8_staysBy_51
theorem e147_52 : decode (ma_cd 147) 52 = .ok (.iaload, 1) := (congrArg (fun b => decode b 52) cd_147).trans dX8_staysBy_52
theorem e147_53 : decode (ma_cd 147) 53 = .ok (.iastore, 1) := (congrArg (fun b => decode b 53) cd_147).trans dX8_staysBy_53
theorem e147_54 : decode (ma_cd 147) 54 = .ok (.aload_n 0, 1) := (congrArg (fun b => decode b 54) cd_147).trans dX8_staysBy_54
theorem e147_55 : decode (ma_cd 147) 55 = .ok (.iload_n 1, 1) := (congrArg (fun b => decode b 55) cd_147).trans dX8_staysBy_55
theorem e147_56 : decode (ma_cd 147) 56 = .ok (.iconst 1, 1) := (congrArg (fun b => decode b 56) cd_147).trans dX8_staysBy_56
theorem e147_57 : decode (ma_cd 147) 57 = .ok (.invokevirtual 174, 3) := (congrArg (fun b => decode b 57) cd_147).trans dX8_staysBy_57
theorem e147_60 : decode (ma_cd 147) 60 = .ok (.aload_n 0, 1) := (congrArg (fun b => decode b 60) cd_147).trans dX8_staysBy_60
theorem e147_61 : decode (ma_cd 147) 61 = .ok (.getfield 9, 3) := (congrArg (fun b => decode b 61) cd_147).trans dX8_staysBy_61
theorem e147_64 : decode (ma_cd 147) 64 = .ok (.bipush 9, 2) := (congrArg (fun b => decode b 64) cd_147).trans dX8_staysBy_64
theorem e147_66 : decode (ma_cd 147) 66 = .ok (.iload_n 1, 1) := (congrArg (fun b => decode b 66) cd_147).trans dX8_staysBy_66
theorem e147_67 : decode (ma_cd 147) 67 = .ok (.iadd, 1) := (congrArg (fun b => decode b 67) cd_147).trans dX8_staysBy_67
theorem e147_68 : decode (ma_cd 147) 68 = .ok (.iaload, 1) := (congrArg (fun b => decode b 68) cd_147).trans dX8_staysBy_68
theorem e147_69 : decode (ma_cd 147) 69 = .ok (.iload 4, 2) := (congrArg (fun b => decode b 69) cd_147).trans dX8_staysBy_69
theorem e147_71 : decode (ma_cd 147) 71 = .ok (.if_icmp .lt 7, 3) := (congrArg (fun b => decode b 71) cd_147).trans dX8_staysBy_71
theorem e147_74 : decode (ma_cd 147) 74 = .ok (.iconst 1, 1) := (congrArg (fun b => decode b 74) cd_147).trans dX8_staysBy_74
theorem e147_75 : decode (ma_cd 147) 75 = .ok (.goto 4, 3) := (congrArg (fun b => decode b 75) cd_147).trans dX8_staysBy_75
theorem e147_78 : decode (ma_cd 147) 78 = .ok (.iconst 0, 1) := (congrArg (fun b => decode b 78) cd_147).trans dX8_staysBy_78
theorem e147_79 : decode (ma_cd 147) 79 = .ok (.istore 5, 2) := (congrArg (fun b => decode b 79) cd_147).trans dX8_staysBy_79
theorem e147_81 : decode (ma_cd 147) 81 = .ok (.iinc 6 1, 3) := (congrArg (fun b => decode b 81) cd_147).trans dX8_staysBy_81
theorem e147_84 : decode (ma_cd 147) 84 = .ok (.goto (-74), 3) := (congrArg (fun b => decode b 84) cd_147).trans dX8_staysBy_84
theorem e147_87 : decode (ma_cd 147) 87 = .ok (.aload_n 0, 1) := (congrArg (fun b => decode b 87) cd_147).trans dX8_staysBy_87
theorem e147_88 : decode (ma_cd 147) 88 = .ok (.invokevirtual 165, 3) := (congrArg (fun b => decode b 88) cd_147).trans dX8_staysBy_88
theorem e147_91 : decode (ma_cd 147) 91 = .ok (.iload 5, 2) := (congrArg (fun b => decode b 91) cd_147).trans dX8_staysBy_91
theorem e147_93 : decode (ma_cd 147) 93 = .ok (.ireturn, 1) := (congrArg (fun b => decode b 93) cd_147).trans dX8_staysBy_93
theorem Sh147_10 {ro : ma_RO} {d : Nat} : (∀ (v0 : Option Value) (v1 : Option Value) (v2 : Option Value) (v3 : Option Value) (v4 : Option Value) (v5 : Option Value) (x1 : Int32) (st : List Value) (σ : ma_H), ma_rn ro d 147 (10, [v0, v1, v2, v3, v4, v5, some (.int x1)], st, SH, σ) = ma_rn ro d 147 (12, [v0, v1, v2, v3, v4, v5, some (.int x1)], .int x1 :: st, SH, σ)) := fun v0 v1 v2 v3 v4 v5 x1 st σ => q_go e147_10 rfl rfl
theorem S147 {ro : ma_RO} {d : Nat} : (∀ (v1 : Option Value) (v2 : Option Value) (v3 : Option Value) (v4 : Option Value) (v5 : Option Value) (v6 : Option Value) (a1 : Nat) (st : List Value) (σ : ma_H), ma_rn ro d 147 (0, [some (.ref a1), v1, v2, v3, v4, v5, v6], st, SH, σ) = ma_rn ro d 147 (1, [some (.ref a1), v1, v2, v3, v4, v5, v6], .ref a1 :: st, SH, σ)) ∧
  (∀ (v0 : Option Value) (v1 : Option Value) (v2 : Option Value) (v3 : Option Value) (v4 : Option Value) (v5 : Option Value) (v6 : Option Value) (a0 : Nat) (σ : ma_H) (hc : hk_cls a0 = 8), ma_rn ro (d + 1) 147 (1, [v0, v1, v2, v3, v4, v5, v6], .ref a0 :: [], SH, σ) = (ma_ev ro d 105 [.ref a0] SH σ).bind (fun q => ma_rn ro (d + 1) 147 (4, [v0, v1, v2, v3, v4, v5, v6], (q.1.toList ++ []), q.2.1, q.2.2))) ∧
  (∀ (v0 : Option Value) (v1 : Option Value) (v2 : Option Value) (v3 : Option Value) (v4 : Option Value) (v5 : Option Value) (v6 : Option Value) (st : List Value) (σ : ma_H), ma_rn ro d 147 (4, [v0, v1, v2, v3, v4, v5, v6], st, SH, σ) = ma_rn ro d 147 (5, [v0, v1, v2, v3, v4, v5, v6], .int (nI 1) :: st, SH, σ)) ∧
  (∀ (v0 : Option Value) (v1 : Option Value) (v2 : Option Value) (v3 : Option Value) (v5 : Option Value) (v6 : Option Value) (x9 : Int32) (x1 : Int32) (st : List Value) (σ : ma_H), ma_rn ro d 147 (5, [v0, v1, v2, v3, some (.int x9), v5, v6], .int x1 :: st, SH, σ) = ma_rn ro d 147 (7, [v0, v1, v2, v3, some (.int x9), some (.int x1), v6], st, SH, σ)) ∧
  (∀ (v0 : Option Value) (v1 : Option Value) (v2 : Option Value) (v3 : Option Value) (v4 : Option Value) (v5 : Option Value) (v6 : Option Value) (st : List Value) (σ : ma_H), ma_rn ro d 147 (7, [v0, v1, v2, v3, v4, v5, v6], st, SH, σ) = ma_rn ro d 147 (8, [v0, v1, v2, v3, v4, v5, v6], .int (nI 0) :: st, SH, σ)) ∧
  (∀ (v0 : Option Value) (v1 : Option Value) (v2 : Option Value) (v3 : Option Value) (v4 : Option Value) (v6 : Option Value) (x9 : Int32) (x1 : Int32) (st : List Value) (σ : ma_H), ma_rn ro d 147 (8, [v0, v1, v2, v3, v4, some (.int x9), v6], .int x1 :: st, SH, σ) = ma_rn ro d 147 (10, [v0, v1, v2, v3, v4, some (.int x9), some (.int x1)], st, SH, σ)) ∧
  (∀ (v0 : Option Value) (v1 : Option Value) (v2 : Option Value) (v4 : Option Value) (v5 : Option Value) (v6 : Option Value) (x1 : Int32) (st : List Value) (σ : ma_H), ma_rn ro d 147 (12, [v0, v1, v2, some (.int x1), v4, v5, v6], st, SH, σ) = ma_rn ro d 147 (13, [v0, v1, v2, some (.int x1), v4, v5, v6], .int x1 :: st, SH, σ)) ∧
  (∀ (v0 : Option Value) (v1 : Option Value) (v2 : Option Value) (v3 : Option Value) (v4 : Option Value) (v5 : Option Value) (v6 : Option Value) (x1 : Int32) (x2 : Int32) (st : List Value) (σ : ma_H), ma_rn ro d 147 (13, [v0, v1, v2, v3, v4, v5, v6], .int x1 :: .int x2 :: st, SH, σ) = if x2 < x1 then ma_rn ro d 147 (16, [v0, v1, v2, v3, v4, v5, v6], st, SH, σ) else ma_rn ro d 147 (87, [v0, v1, v2, v3, v4, v5, v6], st, SH, σ)) ∧
  (∀ (v0 : Option Value) (v1 : Option Value) (v2 : Option Value) (v3 : Option Value) (v4 : Option Value) (v6 : Option Value) (x1 : Int32) (st : List Value) (σ : ma_H), ma_rn ro d 147 (16, [v0, v1, v2, v3, v4, some (.int x1), v6], st, SH, σ) = ma_rn ro d 147 (18, [v0, v1, v2, v3, v4, some (.int x1), v6], .int x1 :: st, SH, σ)) ∧
  (∀ (v0 : Option Value) (v1 : Option Value) (v2 : Option Value) (v3 : Option Value) (v4 : Option Value) (v5 : Option Value) (v6 : Option Value) (x1 : Int32) (st : List Value) (σ : ma_H), ma_rn ro d 147 (18, [v0, v1, v2, v3, v4, v5, v6], .int x1 :: st, SH, σ) = if x1 = nI 0 then ma_rn ro d 147 (87, [v0, v1, v2, v3, v4, v5, v6], st, SH, σ) else ma_rn ro d 147 (21, [v0, v1, v2, v3, v4, v5, v6], st, SH, σ)) ∧
  (∀ (v1 : Option Value) (v2 : Option Value) (v3 : Option Value) (v4 : Option Value) (v5 : Option Value) (v6 : Option Value) (a1 : Nat) (st : List Value) (σ : ma_H), ma_rn ro d 147 (21, [some (.ref a1), v1, v2, v3, v4, v5, v6], st, SH, σ) = ma_rn ro d 147 (22, [some (.ref a1), v1, v2, v3, v4, v5, v6], .ref a1 :: st, SH, σ)) ∧
  (∀ (v0 : Option Value) (v1 : Option Value) (v2 : Option Value) (v3 : Option Value) (v4 : Option Value) (v5 : Option Value) (v6 : Option Value) (a1 : Nat) (st : List Value) (σ : ma_H) (hc : hk_cls a1 = 8), ma_rn ro d 147 (22, [v0, v1, v2, v3, v4, v5, v6], .ref a1 :: st, SH, σ) = ma_rn ro d 147 (25, [v0, v1, v2, v3, v4, v5, v6], .ref (91) :: st, SH, σ)) ∧
  (∀ (v0 : Option Value) (v1 : Option Value) (v2 : Option Value) (v3 : Option Value) (v4 : Option Value) (v5 : Option Value) (v6 : Option Value) (st : List Value) (σ : ma_H), ma_rn ro d 147 (25, [v0, v1, v2, v3, v4, v5, v6], st, SH, σ) = ma_rn ro d 147 (27, [v0, v1, v2, v3, v4, v5, v6], .int (nI 21) :: st, SH, σ)) ∧
  (∀ (v0 : Option Value) (v2 : Option Value) (v3 : Option Value) (v4 : Option Value) (v5 : Option Value) (v6 : Option Value) (x1 : Int32) (st : List Value) (σ : ma_H), ma_rn ro d 147 (27, [v0, some (.int x1), v2, v3, v4, v5, v6], st, SH, σ) = ma_rn ro d 147 (28, [v0, some (.int x1), v2, v3, v4, v5, v6], .int x1 :: st, SH, σ)) ∧
  (∀ (v0 : Option Value) (v1 : Option Value) (v2 : Option Value) (v3 : Option Value) (v4 : Option Value) (v5 : Option Value) (v6 : Option Value) (x1 : Int32) (x2 : Int32) (st : List Value) (σ : ma_H), ma_rn ro d 147 (28, [v0, v1, v2, v3, v4, v5, v6], .int x1 :: .int x2 :: st, SH, σ) = ma_rn ro d 147 (29, [v0, v1, v2, v3, v4, v5, v6], .int (x2 + x1) :: st, SH, σ)) ∧
  (∀ (v0 : Option Value) (v1 : Option Value) (v3 : Option Value) (v4 : Option Value) (v5 : Option Value) (v6 : Option Value) (x1 : Int32) (st : List Value) (σ : ma_H), ma_rn ro d 147 (29, [v0, v1, some (.int x1), v3, v4, v5, v6], st, SH, σ) = ma_rn ro d 147 (30, [v0, v1, some (.int x1), v3, v4, v5, v6], .int x1 :: st, SH, σ)) ∧
  (∀ (v0 : Option Value) (v1 : Option Value) (v2 : Option Value) (v3 : Option Value) (v4 : Option Value) (v5 : Option Value) (x1 : Int32) (st : List Value) (σ : ma_H), ma_rn ro d 147 (30, [v0, v1, v2, v3, v4, v5, some (.int x1)], st, SH, σ) = ma_rn ro d 147 (32, [v0, v1, v2, v3, v4, v5, some (.int x1)], .int x1 :: st, SH, σ)) ∧
  (∀ (v0 : Option Value) (v1 : Option Value) (v2 : Option Value) (v3 : Option Value) (v4 : Option Value) (v5 : Option Value) (v6 : Option Value) (x1 : Int32) (x2 : Int32) (st : List Value) (σ : ma_H), ma_rn ro d 147 (32, [v0, v1, v2, v3, v4, v5, v6], .int x1 :: .int x2 :: st, SH, σ) = ma_rn ro d 147 (33, [v0, v1, v2, v3, v4, v5, v6], .int (x2 >>> (x1 &&& 31)) :: st, SH, σ)) ∧
  (∀ (v0 : Option Value) (v1 : Option Value) (v2 : Option Value) (v3 : Option Value) (v4 : Option Value) (v5 : Option Value) (v6 : Option Value) (st : List Value) (σ : ma_H), ma_rn ro d 147 (33, [v0, v1, v2, v3, v4, v5, v6], st, SH, σ) = ma_rn ro d 147 (34, [v0, v1, v2, v3, v4, v5, v6], .int (nI 1) :: st, SH, σ)) ∧
  (∀ (v0 : Option Value) (v1 : Option Value) (v2 : Option Value) (v3 : Option Value) (v4 : Option Value) (v5 : Option Value) (v6 : Option Value) (x1 : Int32) (x2 : Int32) (st : List Value) (σ : ma_H), ma_rn ro d 147 (34, [v0, v1, v2, v3, v4, v5, v6], .int x1 :: .int x2 :: st, SH, σ) = ma_rn ro d 147 (35, [v0, v1, v2, v3, v4, v5, v6], .int (x2 &&& x1) :: st, SH, σ)) ∧
  (∀ (v0 : Option Value) (v1 : Option Value) (v2 : Option Value) (v3 : Option Value) (v4 : Option Value) (v5 : Option Value) (v6 : Option Value) (st : List Value) (σ : ma_H), ma_rn ro d 147 (35, [v0, v1, v2, v3, v4, v5, v6], st, SH, σ) = ma_rn ro d 147 (36, [v0, v1, v2, v3, v4, v5, v6], .int (nI 1) :: st, SH, σ)) ∧
  (∀ (v0 : Option Value) (v1 : Option Value) (v2 : Option Value) (v3 : Option Value) (v4 : Option Value) (v5 : Option Value) (v6 : Option Value) (x1 : Int32) (x2 : Int32) (st : List Value) (σ : ma_H), ma_rn ro d 147 (36, [v0, v1, v2, v3, v4, v5, v6], .int x1 :: .int x2 :: st, SH, σ) = if x2 = x1 then ma_rn ro d 147 (39, [v0, v1, v2, v3, v4, v5, v6], st, SH, σ) else ma_rn ro d 147 (44, [v0, v1, v2, v3, v4, v5, v6], st, SH, σ)) ∧
  (∀ (v0 : Option Value) (v1 : Option Value) (v2 : Option Value) (v3 : Option Value) (v4 : Option Value) (v5 : Option Value) (v6 : Option Value) (st : List Value) (σ : ma_H), ma_rn ro d 147 (39, [v0, v1, v2, v3, v4, v5, v6], st, SH, σ) = ma_rn ro d 147 (41, [v0, v1, v2, v3, v4, v5, v6], .int (nI 9) :: st, SH, σ)) ∧
  (∀ (v0 : Option Value) (v1 : Option Value) (v2 : Option Value) (v3 : Option Value) (v4 : Option Value) (v5 : Option Value) (v6 : Option Value) (st : List Value) (σ : ma_H), ma_rn ro d 147 (41, [v0, v1, v2, v3, v4, v5, v6], st, SH, σ) = ma_rn ro d 147 (53, [v0, v1, v2, v3, v4, v5, v6], st, SH, σ)) ∧
  (∀ (v1 : Option Value) (v2 : Option Value) (v3 : Option Value) (v4 : Option Value) (v5 : Option Value) (v6 : Option Value) (a1 : Nat) (st : List Value) (σ : ma_H), ma_rn ro d 147 (44, [some (.ref a1), v1, v2, v3, v4, v5, v6], st, SH, σ) = ma_rn ro d 147 (45, [some (.ref a1), v1, v2, v3, v4, v5, v6], .ref a1 :: st, SH, σ)) ∧
  (∀ (v0 : Option Value) (v1 : Option Value) (v2 : Option Value) (v3 : Option Value) (v4 : Option Value) (v5 : Option Value) (v6 : Option Value) (a1 : Nat) (st : List Value) (σ : ma_H) (hc : hk_cls a1 = 8), ma_rn ro d 147 (45, [v0, v1, v2, v3, v4, v5, v6], .ref a1 :: st, SH, σ) = ma_rn ro d 147 (48, [v0, v1, v2, v3, v4, v5, v6], .ref (91) :: st, SH, σ)) ∧
  (∀ (v0 : Option Value) (v1 : Option Value) (v2 : Option Value) (v3 : Option Value) (v4 : Option Value) (v5 : Option Value) (v6 : Option Value) (st : List Value) (σ : ma_H), ma_rn ro d 147 (48, [v0, v1, v2, v3, v4, v5, v6], st, SH, σ) = ma_rn ro d 147 (50, [v0, v1, v2, v3, v4, v5, v6], .int (nI 21) :: st, SH, σ)) ∧
  (∀ (v0 : Option Value) (v2 : Option Value) (v3 : Option Value) (v4 : Option Value) (v5 : Option Value) (v6 : Option Value) (x1 : Int32) (st : List Value) (σ : ma_H), ma_rn ro d 147 (50, [v0, some (.int x1), v2, v3, v4, v5, v6], st, SH, σ) = ma_rn ro d 147 (51, [v0, some (.int x1), v2, v3, v4, v5, v6], .int x1 :: st, SH, σ)) ∧
  (∀ (v0 : Option Value) (v1 : Option Value) (v2 : Option Value) (v3 : Option Value) (v4 : Option Value) (v5 : Option Value) (v6 : Option Value) (x1 : Int32) (x2 : Int32) (st : List Value) (σ : ma_H), ma_rn ro d 147 (51, [v0, v1, v2, v3, v4, v5, v6], .int x1 :: .int x2 :: st, SH, σ) = ma_rn ro d 147 (52, [v0, v1, v2, v3, v4, v5, v6], .int (x2 + x1) :: st, SH, σ)) ∧
  (∀ (v0 : Option Value) (v1 : Option Value) (v2 : Option Value) (v3 : Option Value) (v4 : Option Value) (v5 : Option Value) (v6 : Option Value) (k : Nat) (a2 : Nat) (st : List Value) (σ : ma_H) (hk : k < hk_len a2), ma_rn ro d 147 (52, [v0, v1, v2, v3, v4, v5, v6], .int (nI k) :: .ref a2 :: st, SH, σ) = ma_rn ro d 147 (53, [v0, v1, v2, v3, v4, v5, v6], .int (σ a2 k) :: st, SH, σ)) ∧
  (∀ (v0 : Option Value) (v1 : Option Value) (v2 : Option Value) (v3 : Option Value) (v4 : Option Value) (v5 : Option Value) (v6 : Option Value) (x1 : Int32) (k : Nat) (a3 : Nat) (st : List Value) (σ : ma_H) (hk : k < hk_len a3), ma_rn ro d 147 (53, [v0, v1, v2, v3, v4, v5, v6], .int x1 :: .int (nI k) :: .ref a3 :: st, SH, σ) = ma_rn ro d 147 (54, [v0, v1, v2, v3, v4, v5, v6], st, SH, (ma_up σ a3 k x1))) ∧
  (∀ (v1 : Option Value) (v2 : Option Value) (v3 : Option Value) (v4 : Option Value) (v5 : Option Value) (v6 : Option Value) (a1 : Nat) (st : List Value) (σ : ma_H), ma_rn ro d 147 (54, [some (.ref a1), v1, v2, v3, v4, v5, v6], st, SH, σ) = ma_rn ro d 147 (55, [some (.ref a1), v1, v2, v3, v4, v5, v6], .ref a1 :: st, SH, σ)) ∧
  (∀ (v0 : Option Value) (v2 : Option Value) (v3 : Option Value) (v4 : Option Value) (v5 : Option Value) (v6 : Option Value) (x1 : Int32) (st : List Value) (σ : ma_H), ma_rn ro d 147 (55, [v0, some (.int x1), v2, v3, v4, v5, v6], st, SH, σ) = ma_rn ro d 147 (56, [v0, some (.int x1), v2, v3, v4, v5, v6], .int x1 :: st, SH, σ)) ∧
  (∀ (v0 : Option Value) (v1 : Option Value) (v2 : Option Value) (v3 : Option Value) (v4 : Option Value) (v5 : Option Value) (v6 : Option Value) (st : List Value) (σ : ma_H), ma_rn ro d 147 (56, [v0, v1, v2, v3, v4, v5, v6], st, SH, σ) = ma_rn ro d 147 (57, [v0, v1, v2, v3, v4, v5, v6], .int (nI 1) :: st, SH, σ)) ∧
  (∀ (v0 : Option Value) (v1 : Option Value) (v2 : Option Value) (v3 : Option Value) (v4 : Option Value) (v5 : Option Value) (v6 : Option Value) (x1 : Int32) (x2 : Int32) (a0 : Nat) (σ : ma_H) (hc : hk_cls a0 = 8), ma_rn ro (d + 1) 147 (57, [v0, v1, v2, v3, v4, v5, v6], .int x2 :: .int x1 :: .ref a0 :: [], SH, σ) = (ma_ev ro d 141 [.ref a0, .int x1, .int x2] SH σ).bind (fun q => ma_rn ro (d + 1) 147 (60, [v0, v1, v2, v3, v4, v5, v6], (q.1.toList ++ []), q.2.1, q.2.2))) ∧
  (∀ (v1 : Option Value) (v2 : Option Value) (v3 : Option Value) (v4 : Option Value) (v5 : Option Value) (v6 : Option Value) (a1 : Nat) (st : List Value) (σ : ma_H), ma_rn ro d 147 (60, [some (.ref a1), v1, v2, v3, v4, v5, v6], st, SH, σ) = ma_rn ro d 147 (61, [some (.ref a1), v1, v2, v3, v4, v5, v6], .ref a1 :: st, SH, σ)) ∧
  (∀ (v0 : Option Value) (v1 : Option Value) (v2 : Option Value) (v3 : Option Value) (v4 : Option Value) (v5 : Option Value) (v6 : Option Value) (a1 : Nat) (st : List Value) (σ : ma_H) (hc : hk_cls a1 = 8), ma_rn ro d 147 (61, [v0, v1, v2, v3, v4, v5, v6], .ref a1 :: st, SH, σ) = ma_rn ro d 147 (64, [v0, v1, v2, v3, v4, v5, v6], .ref (91) :: st, SH, σ)) ∧
  (∀ (v0 : Option Value) (v1 : Option Value) (v2 : Option Value) (v3 : Option Value) (v4 : Option Value) (v5 : Option Value) (v6 : Option Value) (st : List Value) (σ : ma_H), ma_rn ro d 147 (64, [v0, v1, v2, v3, v4, v5, v6], st, SH, σ) = ma_rn ro d 147 (66, [v0, v1, v2, v3, v4, v5, v6], .int (nI 9) :: st, SH, σ)) ∧
  (∀ (v0 : Option Value) (v2 : Option Value) (v3 : Option Value) (v4 : Option Value) (v5 : Option Value) (v6 : Option Value) (x1 : Int32) (st : List Value) (σ : ma_H), ma_rn ro d 147 (66, [v0, some (.int x1), v2, v3, v4, v5, v6], st, SH, σ) = ma_rn ro d 147 (67, [v0, some (.int x1), v2, v3, v4, v5, v6], .int x1 :: st, SH, σ)) ∧
  (∀ (v0 : Option Value) (v1 : Option Value) (v2 : Option Value) (v3 : Option Value) (v4 : Option Value) (v5 : Option Value) (v6 : Option Value) (x1 : Int32) (x2 : Int32) (st : List Value) (σ : ma_H), ma_rn ro d 147 (67, [v0, v1, v2, v3, v4, v5, v6], .int x1 :: .int x2 :: st, SH, σ) = ma_rn ro d 147 (68, [v0, v1, v2, v3, v4, v5, v6], .int (x2 + x1) :: st, SH, σ)) ∧
  (∀ (v0 : Option Value) (v1 : Option Value) (v2 : Option Value) (v3 : Option Value) (v4 : Option Value) (v5 : Option Value) (v6 : Option Value) (k : Nat) (a2 : Nat) (st : List Value) (σ : ma_H) (hk : k < hk_len a2), ma_rn ro d 147 (68, [v0, v1, v2, v3, v4, v5, v6], .int (nI k) :: .ref a2 :: st, SH, σ) = ma_rn ro d 147 (69, [v0, v1, v2, v3, v4, v5, v6], .int (σ a2 k) :: st, SH, σ)) ∧
  (∀ (v0 : Option Value) (v1 : Option Value) (v2 : Option Value) (v3 : Option Value) (v5 : Option Value) (v6 : Option Value) (x1 : Int32) (st : List Value) (σ : ma_H), ma_rn ro d 147 (69, [v0, v1, v2, v3, some (.int x1), v5, v6], st, SH, σ) = ma_rn ro d 147 (71, [v0, v1, v2, v3, some (.int x1), v5, v6], .int x1 :: st, SH, σ)) ∧
  (∀ (v0 : Option Value) (v1 : Option Value) (v2 : Option Value) (v3 : Option Value) (v4 : Option Value) (v5 : Option Value) (v6 : Option Value) (x1 : Int32) (x2 : Int32) (st : List Value) (σ : ma_H), ma_rn ro d 147 (71, [v0, v1, v2, v3, v4, v5, v6], .int x1 :: .int x2 :: st, SH, σ) = if x2 < x1 then ma_rn ro d 147 (78, [v0, v1, v2, v3, v4, v5, v6], st, SH, σ) else ma_rn ro d 147 (74, [v0, v1, v2, v3, v4, v5, v6], st, SH, σ)) ∧
  (∀ (v0 : Option Value) (v1 : Option Value) (v2 : Option Value) (v3 : Option Value) (v4 : Option Value) (v5 : Option Value) (v6 : Option Value) (st : List Value) (σ : ma_H), ma_rn ro d 147 (74, [v0, v1, v2, v3, v4, v5, v6], st, SH, σ) = ma_rn ro d 147 (75, [v0, v1, v2, v3, v4, v5, v6], .int (nI 1) :: st, SH, σ)) ∧
  (∀ (v0 : Option Value) (v1 : Option Value) (v2 : Option Value) (v3 : Option Value) (v4 : Option Value) (v5 : Option Value) (v6 : Option Value) (st : List Value) (σ : ma_H), ma_rn ro d 147 (75, [v0, v1, v2, v3, v4, v5, v6], st, SH, σ) = ma_rn ro d 147 (79, [v0, v1, v2, v3, v4, v5, v6], st, SH, σ)) ∧
  (∀ (v0 : Option Value) (v1 : Option Value) (v2 : Option Value) (v3 : Option Value) (v4 : Option Value) (v5 : Option Value) (v6 : Option Value) (st : List Value) (σ : ma_H), ma_rn ro d 147 (78, [v0, v1, v2, v3, v4, v5, v6], st, SH, σ) = ma_rn ro d 147 (79, [v0, v1, v2, v3, v4, v5, v6], .int (nI 0) :: st, SH, σ)) ∧
  (∀ (v0 : Option Value) (v1 : Option Value) (v2 : Option Value) (v3 : Option Value) (v5 : Option Value) (v6 : Option Value) (x9 : Int32) (x1 : Int32) (st : List Value) (σ : ma_H), ma_rn ro d 147 (79, [v0, v1, v2, v3, some (.int x9), v5, v6], .int x1 :: st, SH, σ) = ma_rn ro d 147 (81, [v0, v1, v2, v3, some (.int x9), some (.int x1), v6], st, SH, σ)) ∧
  (∀ (v0 : Option Value) (v1 : Option Value) (v2 : Option Value) (v3 : Option Value) (v4 : Option Value) (x1 : Int32) (x9 : Int32) (st : List Value) (σ : ma_H), ma_rn ro d 147 (81, [v0, v1, v2, v3, v4, some (.int x9), some (.int x1)], st, SH, σ) = ma_rn ro d 147 (84, [v0, v1, v2, v3, v4, some (.int x9), some (.int (x1 + nI 1))], st, SH, σ)) ∧
  (∀ (v0 : Option Value) (v1 : Option Value) (v2 : Option Value) (v3 : Option Value) (v4 : Option Value) (v5 : Option Value) (v6 : Option Value) (st : List Value) (σ : ma_H), ma_rn ro d 147 (84, [v0, v1, v2, v3, v4, v5, v6], st, SH, σ) = ma_rn ro d 147 (10, [v0, v1, v2, v3, v4, v5, v6], st, SH, σ)) ∧
  (∀ (v1 : Option Value) (v2 : Option Value) (v3 : Option Value) (v4 : Option Value) (v5 : Option Value) (v6 : Option Value) (a1 : Nat) (st : List Value) (σ : ma_H), ma_rn ro d 147 (87, [some (.ref a1), v1, v2, v3, v4, v5, v6], st, SH, σ) = ma_rn ro d 147 (88, [some (.ref a1), v1, v2, v3, v4, v5, v6], .ref a1 :: st, SH, σ)) ∧
  (∀ (v0 : Option Value) (v1 : Option Value) (v2 : Option Value) (v3 : Option Value) (v4 : Option Value) (v5 : Option Value) (v6 : Option Value) (a0 : Nat) (σ : ma_H) (hc : hk_cls a0 = 8), ma_rn ro (d + 1) 147 (88, [v0, v1, v2, v3, v4, v5, v6], .ref a0 :: [], SH, σ) = (ma_ev ro d 106 [.ref a0] SH σ).bind (fun q => ma_rn ro (d + 1) 147 (91, [v0, v1, v2, v3, v4, v5, v6], (q.1.toList ++ []), q.2.1, q.2.2))) ∧
  (∀ (v0 : Option Value) (v1 : Option Value) (v2 : Option Value) (v3 : Option Value) (v4 : Option Value) (v6 : Option Value) (x1 : Int32) (st : List Value) (σ : ma_H), ma_rn ro d 147 (91, [v0, v1, v2, v3, v4, some (.int x1), v6], st, SH, σ) = ma_rn ro d 147 (93, [v0, v1, v2, v3, v4, some (.int x1), v6], .int x1 :: st, SH, σ)) ∧
  (∀ (v0 : Option Value) (v1 : Option Value) (v2 : Option Value) (v3 : Option Value) (v4 : Option Value) (v5 : Option Value) (v6 : Option Value) (x1 : Int32) (σ : ma_H) (hx : ma_fitI .boolean x1 = true), ma_rn ro d 147 (93, [v0, v1, v2, v3, v4, v5, v6], [.int x1], SH, σ) = some (some (.int x1), SH, σ)) := ⟨fun v1 v2 v3 v4 v5 v6 a1 st σ => q_go e147_0 rfl rfl,
  fun v0 v1 v2 v3 v4 v5 v6 a0 σ hc => q_invV (as := []) (rest := []) e147_1 o_147 bn_8_159 c_8_159 m_105 (by decide) rfl rfl (Nat.le_of_ble_eq_true rfl) (Nat.le_of_ble_eq_true rfl) hc,
  fun v0 v1 v2 v3 v4 v5 v6 st σ => q_iconst e147_4 (by decide),
  fun v0 v1 v2 v3 v5 v6 x9 x1 st σ => q_go e147_5 rfl rfl,
  fun v0 v1 v2 v3 v4 v5 v6 st σ => q_iconst e147_7 (by decide),
  fun v0 v1 v2 v3 v4 v6 x9 x1 st σ => q_go e147_8 rfl rfl,
  fun v0 v1 v2 v4 v5 v6 x1 st σ => q_go e147_12 rfl rfl,
  fun v0 v1 v2 v3 v4 v5 v6 x1 x2 st σ => (q_cmp e147_13 rfl).trans q_nlt,
  fun v0 v1 v2 v3 v4 v6 x1 st σ => q_go e147_16 rfl rfl,
  fun v0 v1 v2 v3 v4 v5 v6 x1 st σ => (q_if e147_18 rfl).trans q_eq,
  fun v1 v2 v3 v4 v5 v6 a1 st σ => q_go e147_21 rfl rfl,
  fun v0 v1 v2 v3 v4 v5 v6 a1 st σ hc => q_getA e147_22 o_147 f_8_9 (by decide) hc,
  fun v0 v1 v2 v3 v4 v5 v6 st σ => q_bipush e147_25 (by decide),
  fun v0 v2 v3 v4 v5 v6 x1 st σ => q_go e147_27 rfl rfl,
  fun v0 v1 v2 v3 v4 v5 v6 x1 x2 st σ => q_go e147_28 rfl rfl,
  fun v0 v1 v3 v4 v5 v6 x1 st σ => q_go e147_29 rfl rfl,
  fun v0 v1 v2 v3 v4 v5 x1 st σ => q_go e147_30 rfl rfl,
  fun v0 v1 v2 v3 v4 v5 v6 x1 x2 st σ => q_go e147_32 rfl rfl,
  fun v0 v1 v2 v3 v4 v5 v6 st σ => q_iconst e147_33 (by decide),
  fun v0 v1 v2 v3 v4 v5 v6 x1 x2 st σ => q_go e147_34 rfl rfl,
  fun v0 v1 v2 v3 v4 v5 v6 st σ => q_iconst e147_35 (by decide),
  fun v0 v1 v2 v3 v4 v5 v6 x1 x2 st σ => (q_cmp e147_36 rfl).trans q_ne,
  fun v0 v1 v2 v3 v4 v5 v6 st σ => q_bipush e147_39 (by decide),
  fun v0 v1 v2 v3 v4 v5 v6 st σ => q_goto e147_41 rfl,
  fun v1 v2 v3 v4 v5 v6 a1 st σ => q_go e147_44 rfl rfl,
  fun v0 v1 v2 v3 v4 v5 v6 a1 st σ hc => q_getA e147_45 o_147 f_8_9 (by decide) hc,
  fun v0 v1 v2 v3 v4 v5 v6 st σ => q_bipush e147_48 (by decide),
  fun v0 v2 v3 v4 v5 v6 x1 st σ => q_go e147_50 rfl rfl,
  fun v0 v1 v2 v3 v4 v5 v6 x1 x2 st σ => q_go e147_51 rfl rfl,
  fun v0 v1 v2 v3 v4 v5 v6 k a2 st σ hk => q_iald e147_52 hk,
  fun v0 v1 v2 v3 v4 v5 v6 x1 k a3 st σ hk => q_iast e147_53 hk,
  fun v1 v2 v3 v4 v5 v6 a1 st σ => q_go e147_54 rfl rfl,
  fun v0 v2 v3 v4 v5 v6 x1 st σ => q_go e147_55 rfl rfl,
  fun v0 v1 v2 v3 v4 v5 v6 st σ => q_iconst e147_56 (by decide),
  fun v0 v1 v2 v3 v4 v5 v6 x1 x2 a0 σ hc => q_invV (as := [.int x1, .int x2]) (rest := []) e147_57 o_147 bn_8_174 c_8_174 m_141 (by decide) rfl rfl (Nat.le_of_ble_eq_true rfl) (Nat.le_of_ble_eq_true rfl) hc,
  fun v1 v2 v3 v4 v5 v6 a1 st σ => q_go e147_60 rfl rfl,
  fun v0 v1 v2 v3 v4 v5 v6 a1 st σ hc => q_getA e147_61 o_147 f_8_9 (by decide) hc,
  fun v0 v1 v2 v3 v4 v5 v6 st σ => q_bipush e147_64 (by decide),
  fun v0 v2 v3 v4 v5 v6 x1 st σ => q_go e147_66 rfl rfl,
  fun v0 v1 v2 v3 v4 v5 v6 x1 x2 st σ => q_go e147_67 rfl rfl,
  fun v0 v1 v2 v3 v4 v5 v6 k a2 st σ hk => q_iald e147_68 hk,
  fun v0 v1 v2 v3 v5 v6 x1 st σ => q_go e147_69 rfl rfl,
  fun v0 v1 v2 v3 v4 v5 v6 x1 x2 st σ => (q_cmp e147_71 rfl).trans q_lt,
  fun v0 v1 v2 v3 v4 v5 v6 st σ => q_iconst e147_74 (by decide),
  fun v0 v1 v2 v3 v4 v5 v6 st σ => q_goto e147_75 rfl,
  fun v0 v1 v2 v3 v4 v5 v6 st σ => q_iconst e147_78 (by decide),
  fun v0 v1 v2 v3 v5 v6 x9 x1 st σ => q_go e147_79 rfl rfl,
  fun v0 v1 v2 v3 v4 x1 x9 st σ => q_iinc e147_81 rfl rfl (by decide),
  fun v0 v1 v2 v3 v4 v5 v6 st σ => q_goto e147_84 rfl,
  fun v1 v2 v3 v4 v5 v6 a1 st σ => q_go e147_87 rfl rfl,
  fun v0 v1 v2 v3 v4 v5 v6 a0 σ hc => q_invV (as := []) (rest := []) e147_88 o_147 bn_8_165 c_8_165 m_106 (by decide) rfl rfl (Nat.le_of_ble_eq_true rfl) (Nat.le_of_ble_eq_true rfl) hc,
  fun v0 v1 v2 v3 v4 v6 x1 st σ => q_go e147_91 rfl rfl,
  fun v0 v1 v2 v3 v4 v5 v6 x1 σ hx => q_zret e147_93 r_147 hx⟩
theorem E147 {ro : ma_RO} {d : Nat} (a0 : Nat) (x1 : Int32) (x2 : Int32) (x3 : Int32) (x4 : Int32) (sh : List ma_Sh) (σ : ma_H) : ma_ev ro d 147 [.ref a0, .int x1, .int x2, .int x3, .int x4] sh σ = ma_rn ro d 147 (0, [some (.ref a0), some (.int x1), some (.int x2), some (.int x3), some (.int x4), none, none], [], sh, σ) := q_ent x_147 rfl
theorem e148_0 : decode (ma_cd 148) 0 = .ok (.iconst 0, 1) := (congrArg (fun b => decode b 0) cd_148).trans dX8_countOf_0
theorem e148_1 : decode (ma_cd 148) 1 = .ok (.istore_n 1, 1) := (congrArg (fun b => decode b 1) cd_148).trans dX8_countOf_1
theorem e148_2 : decode (ma_cd 148) 2 = .ok (.iconst 0, 1) := (congrArg (fun b => decode b 2) cd_148).trans dX8_countOf_2
theorem e148_3 : decode (ma_cd 148) 3 = .ok (.istore_n 2, 1) := (congrArg (fun b => decode b 3) cd_148).trans dX8_countOf_3
theorem e148_4 : decode (ma_cd 148) 4 = .ok (.iload_n 2, 1) := (congrArg (fun b => decode b 4) cd_148).trans dX8_countOf_4
theorem e148_5 : decode (ma_cd 148) 5 = .ok (.bipush 8, 2) := (congrArg (fun b => decode b 5) cd_148).trans dX8_countOf_5
theorem e148_7 : decode (ma_cd 148) 7 = .ok (.if_icmp .ge 17, 3) := (congrArg (fun b => decode b 7) cd_148).trans dX8_countOf_7
theorem e148_10 : decode (ma_cd 148) 10 = .ok (.iload_n 1, 1) := (congrArg (fun b => decode b 10) cd_148).trans dX8_countOf_10
theorem e148_11 : decode (ma_cd 148) 11 = .ok (.iload_n 0, 1) := (congrArg (fun b => decode b 11) cd_148).trans dX8_countOf_11
theorem e148_12 : decode (ma_cd 148) 12 = .ok (.iload_n 2, 1) := (congrArg (fun b => decode b 12) cd_148).trans dX8_countOf_12
theorem e148_13 : decode (ma_cd 148) 13 = .ok (.ishr, 1) := (congrArg (fun b => decode b 13) cd_148).trans dX8_countOf_13
theorem e148_14 : decode (ma_cd 148) 14 = .ok (.iconst 1, 1) := (congrArg (fun b => decode b 14) cd_148).trans dX8_countOf_14
theorem e148_15 : decode (ma_cd 148) 15 = .ok (.iand, 1) := (congrArg (fun b => decode b 15) cd_148).trans dX8_countOf_15
theorem e148_16 : decode (ma_cd 148) 16 = .ok (.iadd, 1) := (congrArg (fun b => decode b 16) cd_148).trans dX8_countOf_16
theorem e148_17 : decode (ma_cd 148) 17 = .ok (.istore_n 1, 1) := (congrArg (fun b => decode b 17) cd_148).trans dX8_countOf_17
theorem e148_18 : decode (ma_cd 148) 18 = .ok (.iinc 2 1, 3) := (congrArg (fun b => decode b 18) cd_148).trans dX8_countOf_18
theorem e148_21 : decode (ma_cd 148) 21 = .ok (.goto (-17), 3) := (congrArg (fun b => decode b 21) cd_148).trans dX8_countOf_21
theorem e148_24 : decode (ma_cd 148) 24 = .ok (.iload_n 1, 1) := (congrArg (fun b => decode b 24) cd_148).trans dX8_countOf_24
theorem e148_25 : decode (ma_cd 148) 25 = .ok (.ireturn, 1) := (congrArg (fun b => decode b 25) cd_148).trans dX8_countOf_25
theorem Sh148_4 {ro : ma_RO} {d : Nat} : (∀ (v0 : Option Value) (v1 : Option Value) (x1 : Int32) (st : List Value) (σ : ma_H), ma_rn ro d 148 (4, [v0, v1, some (.int x1)], st, SH, σ) = ma_rn ro d 148 (5, [v0, v1, some (.int x1)], .int x1 :: st, SH, σ)) := fun v0 v1 x1 st σ => q_go e148_4 rfl rfl
theorem S148 {ro : ma_RO} {d : Nat} : (∀ (v0 : Option Value) (v1 : Option Value) (v2 : Option Value) (st : List Value) (σ : ma_H), ma_rn ro d 148 (0, [v0, v1, v2], st, SH, σ) = ma_rn ro d 148 (1, [v0, v1, v2], .int (nI 0) :: st, SH, σ)) ∧
  (∀ (v1 : Option Value) (v2 : Option Value) (x9 : Int32) (x1 : Int32) (st : List Value) (σ : ma_H), ma_rn ro d 148 (1, [some (.int x9), v1, v2], .int x1 :: st, SH, σ) = ma_rn ro d 148 (2, [some (.int x9), some (.int x1), v2], st, SH, σ)) ∧
  (∀ (v0 : Option Value) (v1 : Option Value) (v2 : Option Value) (st : List Value) (σ : ma_H), ma_rn ro d 148 (2, [v0, v1, v2], st, SH, σ) = ma_rn ro d 148 (3, [v0, v1, v2], .int (nI 0) :: st, SH, σ)) ∧
  (∀ (v0 : Option Value) (v2 : Option Value) (x9 : Int32) (x1 : Int32) (st : List Value) (σ : ma_H), ma_rn ro d 148 (3, [v0, some (.int x9), v2], .int x1 :: st, SH, σ) = ma_rn ro d 148 (4, [v0, some (.int x9), some (.int x1)], st, SH, σ)) ∧
  (∀ (v0 : Option Value) (v1 : Option Value) (v2 : Option Value) (st : List Value) (σ : ma_H), ma_rn ro d 148 (5, [v0, v1, v2], st, SH, σ) = ma_rn ro d 148 (7, [v0, v1, v2], .int (nI 8) :: st, SH, σ)) ∧
  (∀ (v0 : Option Value) (v1 : Option Value) (v2 : Option Value) (x1 : Int32) (x2 : Int32) (st : List Value) (σ : ma_H), ma_rn ro d 148 (7, [v0, v1, v2], .int x1 :: .int x2 :: st, SH, σ) = if x2 < x1 then ma_rn ro d 148 (10, [v0, v1, v2], st, SH, σ) else ma_rn ro d 148 (24, [v0, v1, v2], st, SH, σ)) ∧
  (∀ (v0 : Option Value) (v2 : Option Value) (x1 : Int32) (st : List Value) (σ : ma_H), ma_rn ro d 148 (10, [v0, some (.int x1), v2], st, SH, σ) = ma_rn ro d 148 (11, [v0, some (.int x1), v2], .int x1 :: st, SH, σ)) ∧
  (∀ (v1 : Option Value) (v2 : Option Value) (x1 : Int32) (st : List Value) (σ : ma_H), ma_rn ro d 148 (11, [some (.int x1), v1, v2], st, SH, σ) = ma_rn ro d 148 (12, [some (.int x1), v1, v2], .int x1 :: st, SH, σ)) ∧
  (∀ (v0 : Option Value) (v1 : Option Value) (x1 : Int32) (st : List Value) (σ : ma_H), ma_rn ro d 148 (12, [v0, v1, some (.int x1)], st, SH, σ) = ma_rn ro d 148 (13, [v0, v1, some (.int x1)], .int x1 :: st, SH, σ)) ∧
  (∀ (v0 : Option Value) (v1 : Option Value) (v2 : Option Value) (x1 : Int32) (x2 : Int32) (st : List Value) (σ : ma_H), ma_rn ro d 148 (13, [v0, v1, v2], .int x1 :: .int x2 :: st, SH, σ) = ma_rn ro d 148 (14, [v0, v1, v2], .int (x2 >>> (x1 &&& 31)) :: st, SH, σ)) ∧
  (∀ (v0 : Option Value) (v1 : Option Value) (v2 : Option Value) (st : List Value) (σ : ma_H), ma_rn ro d 148 (14, [v0, v1, v2], st, SH, σ) = ma_rn ro d 148 (15, [v0, v1, v2], .int (nI 1) :: st, SH, σ)) ∧
  (∀ (v0 : Option Value) (v1 : Option Value) (v2 : Option Value) (x1 : Int32) (x2 : Int32) (st : List Value) (σ : ma_H), ma_rn ro d 148 (15, [v0, v1, v2], .int x1 :: .int x2 :: st, SH, σ) = ma_rn ro d 148 (16, [v0, v1, v2], .int (x2 &&& x1) :: st, SH, σ)) ∧
  (∀ (v0 : Option Value) (v1 : Option Value) (v2 : Option Value) (x1 : Int32) (x2 : Int32) (st : List Value) (σ : ma_H), ma_rn ro d 148 (16, [v0, v1, v2], .int x1 :: .int x2 :: st, SH, σ) = ma_rn ro d 148 (17, [v0, v1, v2], .int (x2 + x1) :: st, SH, σ)) ∧
  (∀ (v1 : Option Value) (v2 : Option Value) (x9 : Int32) (x1 : Int32) (st : List Value) (σ : ma_H), ma_rn ro d 148 (17, [some (.int x9), v1, v2], .int x1 :: st, SH, σ) = ma_rn ro d 148 (18, [some (.int x9), some (.int x1), v2], st, SH, σ)) ∧
  (∀ (v0 : Option Value) (x1 : Int32) (x9 : Int32) (st : List Value) (σ : ma_H), ma_rn ro d 148 (18, [v0, some (.int x9), some (.int x1)], st, SH, σ) = ma_rn ro d 148 (21, [v0, some (.int x9), some (.int (x1 + nI 1))], st, SH, σ)) ∧
  (∀ (v0 : Option Value) (v1 : Option Value) (v2 : Option Value) (st : List Value) (σ : ma_H), ma_rn ro d 148 (21, [v0, v1, v2], st, SH, σ) = ma_rn ro d 148 (4, [v0, v1, v2], st, SH, σ)) ∧
  (∀ (v0 : Option Value) (v2 : Option Value) (x1 : Int32) (st : List Value) (σ : ma_H), ma_rn ro d 148 (24, [v0, some (.int x1), v2], st, SH, σ) = ma_rn ro d 148 (25, [v0, some (.int x1), v2], .int x1 :: st, SH, σ)) ∧
  (∀ (v0 : Option Value) (v1 : Option Value) (v2 : Option Value) (x1 : Int32) (σ : ma_H), ma_rn ro d 148 (25, [v0, v1, v2], [.int x1], SH, σ) = some (some (.int x1), SH, σ)) := ⟨fun v0 v1 v2 st σ => q_iconst e148_0 (by decide),
  fun v1 v2 x9 x1 st σ => q_go e148_1 rfl rfl,
  fun v0 v1 v2 st σ => q_iconst e148_2 (by decide),
  fun v0 v2 x9 x1 st σ => q_go e148_3 rfl rfl,
  fun v0 v1 v2 st σ => q_bipush e148_5 (by decide),
  fun v0 v1 v2 x1 x2 st σ => (q_cmp e148_7 rfl).trans q_nlt,
  fun v0 v2 x1 st σ => q_go e148_10 rfl rfl,
  fun v1 v2 x1 st σ => q_go e148_11 rfl rfl,
  fun v0 v1 x1 st σ => q_go e148_12 rfl rfl,
  fun v0 v1 v2 x1 x2 st σ => q_go e148_13 rfl rfl,
  fun v0 v1 v2 st σ => q_iconst e148_14 (by decide),
  fun v0 v1 v2 x1 x2 st σ => q_go e148_15 rfl rfl,
  fun v0 v1 v2 x1 x2 st σ => q_go e148_16 rfl rfl,
  fun v1 v2 x9 x1 st σ => q_go e148_17 rfl rfl,
  fun v0 x1 x9 st σ => q_iinc e148_18 rfl rfl (by decide),
  fun v0 v1 v2 st σ => q_goto e148_21 rfl,
  fun v0 v2 x1 st σ => q_go e148_24 rfl rfl,
  fun v0 v1 v2 x1 σ => q_iret e148_25 r_148⟩
theorem E148 {ro : ma_RO} {d : Nat} (x1 : Int32) (sh : List ma_Sh) (σ : ma_H) : ma_ev ro d 148 [.int x1] sh σ = ma_rn ro d 148 (0, [some (.int x1), none, none], [], sh, σ) := q_ent x_148 rfl
theorem e149_0 : decode (ma_cd 149) 0 = .ok (.aload_n 0, 1) := (congrArg (fun b => decode b 0) cd_149).trans dX8_renew_0
theorem e149_1 : decode (ma_cd 149) 1 = .ok (.iload_n 1, 1) := (congrArg (fun b => decode b 1) cd_149).trans dX8_renew_1
theorem e149_2 : decode (ma_cd 149) 2 = .ok (.invokevirtual 129, 3) := (congrArg (fun b => decode b 2) cd_149).trans dX8_renew_2
theorem e149_5 : decode (ma_cd 149) 5 = .ok (.ifCond .ne 5, 3) := (congrArg (fun b => decode b 5) cd_149).trans dX8_renew_5
theorem e149_8 : decode (ma_cd 149) 8 = .ok (.iconst (-1), 1) := (congrArg (fun b => decode b 8) cd_149).trans dX8_renew_8
theorem e149_9 : decode (ma_cd 149) 9 = .ok (.ireturn, 1) := (congrArg (fun b => decode b 9) cd_149).trans dX8_renew_9
theorem e149_10 : decode (ma_cd 149) 10 = .ok (.iload_n 2, 1) := (congrArg (fun b => decode b 10) cd_149).trans dX8_renew_10
theorem e149_11 : decode (ma_cd 149) 11 = .ok (.iconst 1, 1) := (congrArg (fun b => decode b 11) cd_149).trans dX8_renew_11
theorem e149_12 : decode (ma_cd 149) 12 = .ok (.bipush 8, 2) := (congrArg (fun b => decode b 12) cd_149).trans dX8_renew_12
theorem e149_14 : decode (ma_cd 149) 14 = .ok (.invokestatic 35, 3) := (congrArg (fun b => decode b 14) cd_149).trans dX8_renew_14
theorem e149_17 : decode (ma_cd 149) 17 = .ok (.ifCond .eq 13, 3) := (congrArg (fun b => decode b 17) cd_149).trans dX8_renew_17
theorem e149_20 : decode (ma_cd 149) 20 = .ok (.iload_n 3, 1) := (congrArg (fun b => decode b 20) cd_149).trans dX8_renew_20
theorem e149_21 : decode (ma_cd 149) 21 = .ok (.iconst 0, 1) := (congrArg (fun b => decode b 21) cd_149).trans dX8_renew_21
theorem e149_22 : decode (ma_cd 149) 22 = .ok (.bipush 99, 2) := (congrArg (fun b => decode b 22) cd_149).trans dX8_renew_22
theorem e149_24 : decode (ma_cd 149) 24 = .ok (.invokestatic 35, 3) := (congrArg (fun b => decode b 24) cd_149).trans dX8_renew_24
theorem e149_27 : decode (ma_cd 149) 27 = .ok (.ifCond .ne 6, 3) := (congrArg (fun b => decode b 27) cd_149).trans dX8_renew_27
theorem e149_30 : decode (ma_cd 149) 30 = .ok (.bipush (-2), 2) := (congrArg (fun b => decode b 30) cd_149).trans dX8_renew_30
theorem e149_32 : decode (ma_cd 149) 32 = .ok (.ireturn, 1) := (congrArg (fun b => decode b 32) cd_149).trans dX8_renew_32
theorem e149_33 : decode (ma_cd 149) 33 = .ok (.bipush (-5), 2) := (congrArg (fun b => decode b 33) cd_149).trans dX8_renew_33
theorem e149_35 : decode (ma_cd 149) 35 = .ok (.istore 4, 2) := (congrArg (fun b => decode b 35) cd_149).trans dX8_renew_35
theorem e149_37 : decode (ma_cd 149) 37 = .ok (.iconst 0, 1) := (congrArg (fun b => decode b 37) cd_149).trans dX8_renew_37
theorem e149_38 : decode (ma_cd 149) 38 = .ok (.istore 5, 2) := (congrArg (fun b => decode b 38) cd_149).trans dX8_renew_38
theorem e149_40 : decode (ma_cd 149) 40 = .ok (.iload 5, 2) := (congrArg (fun b => decode b 40) cd_149).trans dX8_renew_40
theorem e149_42 : decode (ma_cd 149) 42 = .ok (.iconst 1, 1) := (congrArg (fun b => decode b 42) cd_149).trans dX8_renew_42
theorem e149_43 : decode (ma_cd 149) 43 = .ok (.iload_n 2, 1) := (congrArg (fun b => decode b 43) cd_149).trans dX8_renew_43
theorem e149_44 : decode (ma_cd 149) 44 = .ok (.ishl, 1) := (congrArg (fun b => decode b 44) cd_149).trans dX8_renew_44
theorem e149_45 : decode (ma_cd 149) 45 = .ok (.if_icmp .ge 62, 3) := (congrArg (fun b => decode b 45) cd_149).trans dX8_renew_45
theorem e149_48 : decode (ma_cd 149) 48 = .ok (.iload 4, 2) := (congrArg (fun b => decode b 48) cd_149).trans dX8_renew_48
theorem e149_50 : decode (ma_cd 149) 50 = .ok (.bipush (-5), 2) := (congrArg (fun b => decode b 50) cd_149).trans dX8_renew_50
theorem e149_52 : decode (ma_cd 149) 52 = .ok (.if_icmp .eq 16, 3) := (congrArg (fun b => decode b 52) cd_149).trans dX8_renew_52
theorem e149_55 : decode (ma_cd 149) 55 = .ok (.iload 5, 2) := (congrArg (fun b => decode b 55) cd_149).trans dX8_renew_55
theorem e149_57 : decode (ma_cd 149) 57 = .ok (.invokestatic 178, 3) := (congrArg (fun b => decode b 57) cd_149).trans dX8_renew_57
theorem e149_60 : decode (ma_cd 149) 60 = .ok (.iload 4, 2) := (congrArg (fun b => decode b 60) cd_149).trans dX8_renew_60
theorem e149_62 : decode (ma_cd 149) 62 = .ok (.invokestatic 178, 3) := (congrArg (fun b => decode b 62) cd_149).trans dX8_renew_62
theorem e149_65 : decode (ma_cd 149) 65 = .ok (.if_icmp .ge 7, 3) := (congrArg (fun b => decode b 65) cd_149).trans dX8_renew_65
theorem e149_68 : decode (ma_cd 149) 68 = .ok (.iconst 1, 1) := (congrArg (fun b => decode b 68) cd_149).trans dX8_renew_68
theorem e149_69 : decode (ma_cd 149) 69 = .ok (.goto 4, 3) := (congrArg (fun b => decode b 69) cd_149).trans dX8_renew_69
theorem e149_72 : decode (ma_cd 149) 72 = .ok (.iconst 0, 1) := (congrArg (fun b => decode b 72) cd_149).trans dX8_renew_72
theorem e149_73 : decode (ma_cd 149) 73 = .ok (.istore 6, 2) := (congrArg (fun b => decode b 73) cd_149).trans dX8_renew_73
theorem e149_75 : decode (ma_cd 149) 75 = .ok (.iload 6, 2) := (congrArg (fun b => decode b 75) cd_149).trans dX8_renew_75
theorem e149_77 : decode (ma_cd 149) 77 = .ok (.ifCond .eq 20, 3) := (congrArg (fun b => decode b 77) cd_149).trans dX8_renew_77
theorem e149_80 : decode (ma_cd 149) 80 = .ok (.aload_n 0, 1) := (congrArg (fun b => decode b 80) cd_149).trans dX8_renew_80
theorem e149_81 : decode (ma_cd 149) 81 = .ok (.iload_n 1, 1) := (congrArg (fun b => decode b 81) cd_149).trans dX8_renew_81
theorem e149_82 : decode (ma_cd 149) 82 = .ok (.iload 5, 2) := (congrArg (fun b => decode b 82) cd_149).trans dX8_renew_82
theorem e149_84 : decode (ma_cd 149) 84 = .ok (.iload_n 2, 1) := (congrArg (fun b => decode b 84) cd_149).trans dX8_renew_84
theorem e149_85 : decode (ma_cd 149) 85 = .ok (.iload_n 3, 1) := (congrArg (fun b => decode b 85) cd_149).trans dX8_renew_85
theorem e149_86 : decode (ma_cd 149) 86 = .ok (.invokevirtual 181, 3) := (congrArg (fun b => decode b 86) cd_149).trans dX8_renew_86
theorem e149_89 : decode (ma_cd 149) 89 = .ok (.ifCond .eq 8, 3) := (congrArg (fun b => decode b 89) cd_149).trans dX8_renew_89
theorem e149_92 : decode (ma_cd 149) 92 = .ok (.iload 5, 2) := (congrArg (fun b => decode b 92) cd_149).trans dX8_renew_92
theorem e149_94 : decode (ma_cd 149) 94 = .ok (.goto 5, 3) := (congrArg (fun b => decode b 94) cd_149).trans dX8_renew_94
theorem e149_97 : decode (ma_cd 149) 97 = .ok (.iload 4, 2) := (congrArg (fun b => decode b 97) cd_149).trans dX8_renew_97
theorem e149_99 : decode (ma_cd 149) 99 = .ok (.istore 4, 2) := (congrArg (fun b => decode b 99) cd_149).trans dX8_renew_99
theorem e149_101 : decode (ma_cd 149) 101 = .ok (.iinc 5 1, 3) := (congrArg (fun b => decode b 101) cd_149).trans dX8_renew_101
theorem e149_104 : decode (ma_cd 149) 104 = .ok (.goto (-64), 3) := (congrArg (fun b => decode b 104) cd_149).trans dX8_renew_104
theorem e149_107 : decode (ma_cd 149) 107 = .ok (.iload 4, 2) := (congrArg (fun b => decode b 107) cd_149).trans dX8_renew_107
theorem e149_109 : decode (ma_cd 149) 109 = .ok (.ireturn, 1) := (congrArg (fun b => decode b 109) cd_149).trans dX8_renew_109
theorem Sh149_40 {ro : ma_RO} {d : Nat} : (∀ (v0 : Option Value) (v1 : Option Value) (v2 : Option Value) (v3 : Option Value) (v4 : Option Value) (v6 : Option Value) (x1 : Int32) (st : List Value) (σ : ma_H), ma_rn ro d 149 (40, [v0, v1, v2, v3, v4, some (.int x1), v6], st, SH, σ) = ma_rn ro d 149 (42, [v0, v1, v2, v3, v4, some (.int x1), v6], .int x1 :: st, SH, σ)) := fun v0 v1 v2 v3 v4 v6 x1 st σ => q_go e149_40 rfl rfl
theorem S149 {ro : ma_RO} {d : Nat} : (∀ (v1 : Option Value) (v2 : Option Value) (v3 : Option Value) (v4 : Option Value) (v5 : Option Value) (v6 : Option Value) (a1 : Nat) (st : List Value) (σ : ma_H), ma_rn ro d 149 (0, [some (.ref a1), v1, v2, v3, v4, v5, v6], st, SH, σ) = ma_rn ro d 149 (1, [some (.ref a1), v1, v2, v3, v4, v5, v6], .ref a1 :: st, SH, σ)) ∧
  (∀ (v0 : Option Value) (v2 : Option Value) (v3 : Option Value) (v4 : Option Value) (v5 : Option Value) (v6 : Option Value) (x1 : Int32) (st : List Value) (σ : ma_H), ma_rn ro d 149 (1, [v0, some (.int x1), v2, v3, v4, v5, v6], st, SH, σ) = ma_rn ro d 149 (2, [v0, some (.int x1), v2, v3, v4, v5, v6], .int x1 :: st, SH, σ)) ∧
  (∀ (v0 : Option Value) (v1 : Option Value) (v2 : Option Value) (v3 : Option Value) (v4 : Option Value) (v5 : Option Value) (v6 : Option Value) (x1 : Int32) (a0 : Nat) (σ : ma_H) (hc : hk_cls a0 = 8), ma_rn ro (d + 1) 149 (2, [v0, v1, v2, v3, v4, v5, v6], .int x1 :: .ref a0 :: [], SH, σ) = (ma_ev ro d 103 [.ref a0, .int x1] SH σ).bind (fun q => ma_rn ro (d + 1) 149 (5, [v0, v1, v2, v3, v4, v5, v6], (q.1.toList ++ []), q.2.1, q.2.2))) ∧
  (∀ (v0 : Option Value) (v1 : Option Value) (v2 : Option Value) (v3 : Option Value) (v4 : Option Value) (v5 : Option Value) (v6 : Option Value) (x1 : Int32) (st : List Value) (σ : ma_H), ma_rn ro d 149 (5, [v0, v1, v2, v3, v4, v5, v6], .int x1 :: st, SH, σ) = if x1 = nI 0 then ma_rn ro d 149 (8, [v0, v1, v2, v3, v4, v5, v6], st, SH, σ) else ma_rn ro d 149 (10, [v0, v1, v2, v3, v4, v5, v6], st, SH, σ)) ∧
  (∀ (v0 : Option Value) (v1 : Option Value) (v2 : Option Value) (v3 : Option Value) (v4 : Option Value) (v5 : Option Value) (v6 : Option Value) (st : List Value) (σ : ma_H), ma_rn ro d 149 (8, [v0, v1, v2, v3, v4, v5, v6], st, SH, σ) = ma_rn ro d 149 (9, [v0, v1, v2, v3, v4, v5, v6], .int ((-1)) :: st, SH, σ)) ∧
  (∀ (v0 : Option Value) (v1 : Option Value) (v2 : Option Value) (v3 : Option Value) (v4 : Option Value) (v5 : Option Value) (v6 : Option Value) (x1 : Int32) (σ : ma_H), ma_rn ro d 149 (9, [v0, v1, v2, v3, v4, v5, v6], [.int x1], SH, σ) = some (some (.int x1), SH, σ)) ∧
  (∀ (v0 : Option Value) (v1 : Option Value) (v3 : Option Value) (v4 : Option Value) (v5 : Option Value) (v6 : Option Value) (x1 : Int32) (st : List Value) (σ : ma_H), ma_rn ro d 149 (10, [v0, v1, some (.int x1), v3, v4, v5, v6], st, SH, σ) = ma_rn ro d 149 (11, [v0, v1, some (.int x1), v3, v4, v5, v6], .int x1 :: st, SH, σ)) ∧
  (∀ (v0 : Option Value) (v1 : Option Value) (v2 : Option Value) (v3 : Option Value) (v4 : Option Value) (v5 : Option Value) (v6 : Option Value) (st : List Value) (σ : ma_H), ma_rn ro d 149 (11, [v0, v1, v2, v3, v4, v5, v6], st, SH, σ) = ma_rn ro d 149 (12, [v0, v1, v2, v3, v4, v5, v6], .int (nI 1) :: st, SH, σ)) ∧
  (∀ (v0 : Option Value) (v1 : Option Value) (v2 : Option Value) (v3 : Option Value) (v4 : Option Value) (v5 : Option Value) (v6 : Option Value) (st : List Value) (σ : ma_H), ma_rn ro d 149 (12, [v0, v1, v2, v3, v4, v5, v6], st, SH, σ) = ma_rn ro d 149 (14, [v0, v1, v2, v3, v4, v5, v6], .int (nI 8) :: st, SH, σ)) ∧
  (∀ (v0 : Option Value) (v1 : Option Value) (v2 : Option Value) (v3 : Option Value) (v4 : Option Value) (v5 : Option Value) (v6 : Option Value) (x1 : Int32) (x2 : Int32) (x3 : Int32) (σ : ma_H), ma_rn ro (d + 1) 149 (14, [v0, v1, v2, v3, v4, v5, v6], .int x3 :: .int x2 :: .int x1 :: [], SH, σ) = (ma_ev ro d 102 [.int x1, .int x2, .int x3] SH σ).bind (fun q => ma_rn ro (d + 1) 149 (17, [v0, v1, v2, v3, v4, v5, v6], (q.1.toList ++ []), q.2.1, q.2.2))) ∧
  (∀ (v0 : Option Value) (v1 : Option Value) (v2 : Option Value) (v3 : Option Value) (v4 : Option Value) (v5 : Option Value) (v6 : Option Value) (x1 : Int32) (st : List Value) (σ : ma_H), ma_rn ro d 149 (17, [v0, v1, v2, v3, v4, v5, v6], .int x1 :: st, SH, σ) = if x1 = nI 0 then ma_rn ro d 149 (30, [v0, v1, v2, v3, v4, v5, v6], st, SH, σ) else ma_rn ro d 149 (20, [v0, v1, v2, v3, v4, v5, v6], st, SH, σ)) ∧
  (∀ (v0 : Option Value) (v1 : Option Value) (v2 : Option Value) (v4 : Option Value) (v5 : Option Value) (v6 : Option Value) (x1 : Int32) (st : List Value) (σ : ma_H), ma_rn ro d 149 (20, [v0, v1, v2, some (.int x1), v4, v5, v6], st, SH, σ) = ma_rn ro d 149 (21, [v0, v1, v2, some (.int x1), v4, v5, v6], .int x1 :: st, SH, σ)) ∧
  (∀ (v0 : Option Value) (v1 : Option Value) (v2 : Option Value) (v3 : Option Value) (v4 : Option Value) (v5 : Option Value) (v6 : Option Value) (st : List Value) (σ : ma_H), ma_rn ro d 149 (21, [v0, v1, v2, v3, v4, v5, v6], st, SH, σ) = ma_rn ro d 149 (22, [v0, v1, v2, v3, v4, v5, v6], .int (nI 0) :: st, SH, σ)) ∧
  (∀ (v0 : Option Value) (v1 : Option Value) (v2 : Option Value) (v3 : Option Value) (v4 : Option Value) (v5 : Option Value) (v6 : Option Value) (st : List Value) (σ : ma_H), ma_rn ro d 149 (22, [v0, v1, v2, v3, v4, v5, v6], st, SH, σ) = ma_rn ro d 149 (24, [v0, v1, v2, v3, v4, v5, v6], .int (nI 99) :: st, SH, σ)) ∧
  (∀ (v0 : Option Value) (v1 : Option Value) (v2 : Option Value) (v3 : Option Value) (v4 : Option Value) (v5 : Option Value) (v6 : Option Value) (x1 : Int32) (x2 : Int32) (x3 : Int32) (σ : ma_H), ma_rn ro (d + 1) 149 (24, [v0, v1, v2, v3, v4, v5, v6], .int x3 :: .int x2 :: .int x1 :: [], SH, σ) = (ma_ev ro d 102 [.int x1, .int x2, .int x3] SH σ).bind (fun q => ma_rn ro (d + 1) 149 (27, [v0, v1, v2, v3, v4, v5, v6], (q.1.toList ++ []), q.2.1, q.2.2))) ∧
  (∀ (v0 : Option Value) (v1 : Option Value) (v2 : Option Value) (v3 : Option Value) (v4 : Option Value) (v5 : Option Value) (v6 : Option Value) (x1 : Int32) (st : List Value) (σ : ma_H), ma_rn ro d 149 (27, [v0, v1, v2, v3, v4, v5, v6], .int x1 :: st, SH, σ) = if x1 = nI 0 then ma_rn ro d 149 (30, [v0, v1, v2, v3, v4, v5, v6], st, SH, σ) else ma_rn ro d 149 (33, [v0, v1, v2, v3, v4, v5, v6], st, SH, σ)) ∧
  (∀ (v0 : Option Value) (v1 : Option Value) (v2 : Option Value) (v3 : Option Value) (v4 : Option Value) (v5 : Option Value) (v6 : Option Value) (st : List Value) (σ : ma_H), ma_rn ro d 149 (30, [v0, v1, v2, v3, v4, v5, v6], st, SH, σ) = ma_rn ro d 149 (32, [v0, v1, v2, v3, v4, v5, v6], .int ((-2)) :: st, SH, σ)) ∧
  (∀ (v0 : Option Value) (v1 : Option Value) (v2 : Option Value) (v3 : Option Value) (v4 : Option Value) (v5 : Option Value) (v6 : Option Value) (x1 : Int32) (σ : ma_H), ma_rn ro d 149 (32, [v0, v1, v2, v3, v4, v5, v6], [.int x1], SH, σ) = some (some (.int x1), SH, σ)) ∧
  (∀ (v0 : Option Value) (v1 : Option Value) (v2 : Option Value) (v3 : Option Value) (v4 : Option Value) (v5 : Option Value) (v6 : Option Value) (st : List Value) (σ : ma_H), ma_rn ro d 149 (33, [v0, v1, v2, v3, v4, v5, v6], st, SH, σ) = ma_rn ro d 149 (35, [v0, v1, v2, v3, v4, v5, v6], .int ((-5)) :: st, SH, σ)) ∧
  (∀ (v0 : Option Value) (v1 : Option Value) (v2 : Option Value) (v4 : Option Value) (v5 : Option Value) (v6 : Option Value) (x9 : Int32) (x1 : Int32) (st : List Value) (σ : ma_H), ma_rn ro d 149 (35, [v0, v1, v2, some (.int x9), v4, v5, v6], .int x1 :: st, SH, σ) = ma_rn ro d 149 (37, [v0, v1, v2, some (.int x9), some (.int x1), v5, v6], st, SH, σ)) ∧
  (∀ (v0 : Option Value) (v1 : Option Value) (v2 : Option Value) (v3 : Option Value) (v4 : Option Value) (v5 : Option Value) (v6 : Option Value) (st : List Value) (σ : ma_H), ma_rn ro d 149 (37, [v0, v1, v2, v3, v4, v5, v6], st, SH, σ) = ma_rn ro d 149 (38, [v0, v1, v2, v3, v4, v5, v6], .int (nI 0) :: st, SH, σ)) ∧
  (∀ (v0 : Option Value) (v1 : Option Value) (v2 : Option Value) (v3 : Option Value) (v5 : Option Value) (v6 : Option Value) (x9 : Int32) (x1 : Int32) (st : List Value) (σ : ma_H), ma_rn ro d 149 (38, [v0, v1, v2, v3, some (.int x9), v5, v6], .int x1 :: st, SH, σ) = ma_rn ro d 149 (40, [v0, v1, v2, v3, some (.int x9), some (.int x1), v6], st, SH, σ)) ∧
  (∀ (v0 : Option Value) (v1 : Option Value) (v2 : Option Value) (v3 : Option Value) (v4 : Option Value) (v5 : Option Value) (v6 : Option Value) (st : List Value) (σ : ma_H), ma_rn ro d 149 (42, [v0, v1, v2, v3, v4, v5, v6], st, SH, σ) = ma_rn ro d 149 (43, [v0, v1, v2, v3, v4, v5, v6], .int (nI 1) :: st, SH, σ)) ∧
  (∀ (v0 : Option Value) (v1 : Option Value) (v3 : Option Value) (v4 : Option Value) (v5 : Option Value) (v6 : Option Value) (x1 : Int32) (st : List Value) (σ : ma_H), ma_rn ro d 149 (43, [v0, v1, some (.int x1), v3, v4, v5, v6], st, SH, σ) = ma_rn ro d 149 (44, [v0, v1, some (.int x1), v3, v4, v5, v6], .int x1 :: st, SH, σ)) ∧
  (∀ (v0 : Option Value) (v1 : Option Value) (v2 : Option Value) (v3 : Option Value) (v4 : Option Value) (v5 : Option Value) (v6 : Option Value) (x1 : Int32) (x2 : Int32) (st : List Value) (σ : ma_H), ma_rn ro d 149 (44, [v0, v1, v2, v3, v4, v5, v6], .int x1 :: .int x2 :: st, SH, σ) = ma_rn ro d 149 (45, [v0, v1, v2, v3, v4, v5, v6], .int (x2 <<< (x1 &&& 31)) :: st, SH, σ)) ∧
  (∀ (v0 : Option Value) (v1 : Option Value) (v2 : Option Value) (v3 : Option Value) (v4 : Option Value) (v5 : Option Value) (v6 : Option Value) (x1 : Int32) (x2 : Int32) (st : List Value) (σ : ma_H), ma_rn ro d 149 (45, [v0, v1, v2, v3, v4, v5, v6], .int x1 :: .int x2 :: st, SH, σ) = if x2 < x1 then ma_rn ro d 149 (48, [v0, v1, v2, v3, v4, v5, v6], st, SH, σ) else ma_rn ro d 149 (107, [v0, v1, v2, v3, v4, v5, v6], st, SH, σ)) ∧
  (∀ (v0 : Option Value) (v1 : Option Value) (v2 : Option Value) (v3 : Option Value) (v5 : Option Value) (v6 : Option Value) (x1 : Int32) (st : List Value) (σ : ma_H), ma_rn ro d 149 (48, [v0, v1, v2, v3, some (.int x1), v5, v6], st, SH, σ) = ma_rn ro d 149 (50, [v0, v1, v2, v3, some (.int x1), v5, v6], .int x1 :: st, SH, σ)) ∧
  (∀ (v0 : Option Value) (v1 : Option Value) (v2 : Option Value) (v3 : Option Value) (v4 : Option Value) (v5 : Option Value) (v6 : Option Value) (st : List Value) (σ : ma_H), ma_rn ro d 149 (50, [v0, v1, v2, v3, v4, v5, v6], st, SH, σ) = ma_rn ro d 149 (52, [v0, v1, v2, v3, v4, v5, v6], .int ((-5)) :: st, SH, σ)) ∧
  (∀ (v0 : Option Value) (v1 : Option Value) (v2 : Option Value) (v3 : Option Value) (v4 : Option Value) (v5 : Option Value) (v6 : Option Value) (x1 : Int32) (x2 : Int32) (st : List Value) (σ : ma_H), ma_rn ro d 149 (52, [v0, v1, v2, v3, v4, v5, v6], .int x1 :: .int x2 :: st, SH, σ) = if x2 = x1 then ma_rn ro d 149 (68, [v0, v1, v2, v3, v4, v5, v6], st, SH, σ) else ma_rn ro d 149 (55, [v0, v1, v2, v3, v4, v5, v6], st, SH, σ)) ∧
  (∀ (v0 : Option Value) (v1 : Option Value) (v2 : Option Value) (v3 : Option Value) (v4 : Option Value) (v6 : Option Value) (x1 : Int32) (st : List Value) (σ : ma_H), ma_rn ro d 149 (55, [v0, v1, v2, v3, v4, some (.int x1), v6], st, SH, σ) = ma_rn ro d 149 (57, [v0, v1, v2, v3, v4, some (.int x1), v6], .int x1 :: st, SH, σ)) ∧
  (∀ (v0 : Option Value) (v1 : Option Value) (v2 : Option Value) (v3 : Option Value) (v4 : Option Value) (v5 : Option Value) (v6 : Option Value) (x1 : Int32) (σ : ma_H), ma_rn ro (d + 1) 149 (57, [v0, v1, v2, v3, v4, v5, v6], .int x1 :: [], SH, σ) = (ma_ev ro d 148 [.int x1] SH σ).bind (fun q => ma_rn ro (d + 1) 149 (60, [v0, v1, v2, v3, v4, v5, v6], (q.1.toList ++ []), q.2.1, q.2.2))) ∧
  (∀ (v0 : Option Value) (v1 : Option Value) (v2 : Option Value) (v3 : Option Value) (v5 : Option Value) (v6 : Option Value) (x1 : Int32) (st : List Value) (σ : ma_H), ma_rn ro d 149 (60, [v0, v1, v2, v3, some (.int x1), v5, v6], st, SH, σ) = ma_rn ro d 149 (62, [v0, v1, v2, v3, some (.int x1), v5, v6], .int x1 :: st, SH, σ)) ∧
  (∀ (v0 : Option Value) (v1 : Option Value) (v2 : Option Value) (v3 : Option Value) (v4 : Option Value) (v5 : Option Value) (v6 : Option Value) (x20 : Int32) (x1 : Int32) (σ : ma_H), ma_rn ro (d + 1) 149 (62, [v0, v1, v2, v3, v4, v5, v6], .int x1 :: .int x20 :: [], SH, σ) = (ma_ev ro d 148 [.int x1] SH σ).bind (fun q => ma_rn ro (d + 1) 149 (65, [v0, v1, v2, v3, v4, v5, v6], (q.1.toList ++ (.int x20 :: [])), q.2.1, q.2.2))) ∧
  (∀ (v0 : Option Value) (v1 : Option Value) (v2 : Option Value) (v3 : Option Value) (v4 : Option Value) (v5 : Option Value) (v6 : Option Value) (x1 : Int32) (x2 : Int32) (st : List Value) (σ : ma_H), ma_rn ro d 149 (65, [v0, v1, v2, v3, v4, v5, v6], .int x1 :: .int x2 :: st, SH, σ) = if x2 < x1 then ma_rn ro d 149 (68, [v0, v1, v2, v3, v4, v5, v6], st, SH, σ) else ma_rn ro d 149 (72, [v0, v1, v2, v3, v4, v5, v6], st, SH, σ)) ∧
  (∀ (v0 : Option Value) (v1 : Option Value) (v2 : Option Value) (v3 : Option Value) (v4 : Option Value) (v5 : Option Value) (v6 : Option Value) (st : List Value) (σ : ma_H), ma_rn ro d 149 (68, [v0, v1, v2, v3, v4, v5, v6], st, SH, σ) = ma_rn ro d 149 (69, [v0, v1, v2, v3, v4, v5, v6], .int (nI 1) :: st, SH, σ)) ∧
  (∀ (v0 : Option Value) (v1 : Option Value) (v2 : Option Value) (v3 : Option Value) (v4 : Option Value) (v5 : Option Value) (v6 : Option Value) (st : List Value) (σ : ma_H), ma_rn ro d 149 (69, [v0, v1, v2, v3, v4, v5, v6], st, SH, σ) = ma_rn ro d 149 (73, [v0, v1, v2, v3, v4, v5, v6], st, SH, σ)) ∧
  (∀ (v0 : Option Value) (v1 : Option Value) (v2 : Option Value) (v3 : Option Value) (v4 : Option Value) (v5 : Option Value) (v6 : Option Value) (st : List Value) (σ : ma_H), ma_rn ro d 149 (72, [v0, v1, v2, v3, v4, v5, v6], st, SH, σ) = ma_rn ro d 149 (73, [v0, v1, v2, v3, v4, v5, v6], .int (nI 0) :: st, SH, σ)) ∧
  (∀ (v0 : Option Value) (v1 : Option Value) (v2 : Option Value) (v3 : Option Value) (v4 : Option Value) (v6 : Option Value) (x9 : Int32) (x1 : Int32) (st : List Value) (σ : ma_H), ma_rn ro d 149 (73, [v0, v1, v2, v3, v4, some (.int x9), v6], .int x1 :: st, SH, σ) = ma_rn ro d 149 (75, [v0, v1, v2, v3, v4, some (.int x9), some (.int x1)], st, SH, σ)) ∧
  (∀ (v0 : Option Value) (v1 : Option Value) (v2 : Option Value) (v3 : Option Value) (v4 : Option Value) (v5 : Option Value) (x1 : Int32) (st : List Value) (σ : ma_H), ma_rn ro d 149 (75, [v0, v1, v2, v3, v4, v5, some (.int x1)], st, SH, σ) = ma_rn ro d 149 (77, [v0, v1, v2, v3, v4, v5, some (.int x1)], .int x1 :: st, SH, σ)) ∧
  (∀ (v0 : Option Value) (v1 : Option Value) (v2 : Option Value) (v3 : Option Value) (v4 : Option Value) (v5 : Option Value) (v6 : Option Value) (x1 : Int32) (st : List Value) (σ : ma_H), ma_rn ro d 149 (77, [v0, v1, v2, v3, v4, v5, v6], .int x1 :: st, SH, σ) = if x1 = nI 0 then ma_rn ro d 149 (97, [v0, v1, v2, v3, v4, v5, v6], st, SH, σ) else ma_rn ro d 149 (80, [v0, v1, v2, v3, v4, v5, v6], st, SH, σ)) ∧
  (∀ (v1 : Option Value) (v2 : Option Value) (v3 : Option Value) (v4 : Option Value) (v5 : Option Value) (v6 : Option Value) (a1 : Nat) (st : List Value) (σ : ma_H), ma_rn ro d 149 (80, [some (.ref a1), v1, v2, v3, v4, v5, v6], st, SH, σ) = ma_rn ro d 149 (81, [some (.ref a1), v1, v2, v3, v4, v5, v6], .ref a1 :: st, SH, σ)) ∧
  (∀ (v0 : Option Value) (v2 : Option Value) (v3 : Option Value) (v4 : Option Value) (v5 : Option Value) (v6 : Option Value) (x1 : Int32) (st : List Value) (σ : ma_H), ma_rn ro d 149 (81, [v0, some (.int x1), v2, v3, v4, v5, v6], st, SH, σ) = ma_rn ro d 149 (82, [v0, some (.int x1), v2, v3, v4, v5, v6], .int x1 :: st, SH, σ)) ∧
  (∀ (v0 : Option Value) (v1 : Option Value) (v2 : Option Value) (v3 : Option Value) (v4 : Option Value) (v6 : Option Value) (x1 : Int32) (st : List Value) (σ : ma_H), ma_rn ro d 149 (82, [v0, v1, v2, v3, v4, some (.int x1), v6], st, SH, σ) = ma_rn ro d 149 (84, [v0, v1, v2, v3, v4, some (.int x1), v6], .int x1 :: st, SH, σ)) ∧
  (∀ (v0 : Option Value) (v1 : Option Value) (v3 : Option Value) (v4 : Option Value) (v5 : Option Value) (v6 : Option Value) (x1 : Int32) (st : List Value) (σ : ma_H), ma_rn ro d 149 (84, [v0, v1, some (.int x1), v3, v4, v5, v6], st, SH, σ) = ma_rn ro d 149 (85, [v0, v1, some (.int x1), v3, v4, v5, v6], .int x1 :: st, SH, σ)) ∧
  (∀ (v0 : Option Value) (v1 : Option Value) (v2 : Option Value) (v4 : Option Value) (v5 : Option Value) (v6 : Option Value) (x1 : Int32) (st : List Value) (σ : ma_H), ma_rn ro d 149 (85, [v0, v1, v2, some (.int x1), v4, v5, v6], st, SH, σ) = ma_rn ro d 149 (86, [v0, v1, v2, some (.int x1), v4, v5, v6], .int x1 :: st, SH, σ)) ∧
  (∀ (v0 : Option Value) (v1 : Option Value) (v2 : Option Value) (v3 : Option Value) (v4 : Option Value) (v5 : Option Value) (v6 : Option Value) (x1 : Int32) (x2 : Int32) (x3 : Int32) (x4 : Int32) (a0 : Nat) (σ : ma_H) (hc : hk_cls a0 = 8), ma_rn ro (d + 1) 149 (86, [v0, v1, v2, v3, v4, v5, v6], .int x4 :: .int x3 :: .int x2 :: .int x1 :: .ref a0 :: [], SH, σ) = (ma_ev ro d 147 [.ref a0, .int x1, .int x2, .int x3, .int x4] SH σ).bind (fun q => ma_rn ro (d + 1) 149 (89, [v0, v1, v2, v3, v4, v5, v6], (q.1.toList ++ []), q.2.1, q.2.2))) ∧
  (∀ (v0 : Option Value) (v1 : Option Value) (v2 : Option Value) (v3 : Option Value) (v4 : Option Value) (v5 : Option Value) (v6 : Option Value) (x1 : Int32) (st : List Value) (σ : ma_H), ma_rn ro d 149 (89, [v0, v1, v2, v3, v4, v5, v6], .int x1 :: st, SH, σ) = if x1 = nI 0 then ma_rn ro d 149 (97, [v0, v1, v2, v3, v4, v5, v6], st, SH, σ) else ma_rn ro d 149 (92, [v0, v1, v2, v3, v4, v5, v6], st, SH, σ)) ∧
  (∀ (v0 : Option Value) (v1 : Option Value) (v2 : Option Value) (v3 : Option Value) (v4 : Option Value) (v6 : Option Value) (x1 : Int32) (st : List Value) (σ : ma_H), ma_rn ro d 149 (92, [v0, v1, v2, v3, v4, some (.int x1), v6], st, SH, σ) = ma_rn ro d 149 (94, [v0, v1, v2, v3, v4, some (.int x1), v6], .int x1 :: st, SH, σ)) ∧
  (∀ (v0 : Option Value) (v1 : Option Value) (v2 : Option Value) (v3 : Option Value) (v4 : Option Value) (v5 : Option Value) (v6 : Option Value) (st : List Value) (σ : ma_H), ma_rn ro d 149 (94, [v0, v1, v2, v3, v4, v5, v6], st, SH, σ) = ma_rn ro d 149 (99, [v0, v1, v2, v3, v4, v5, v6], st, SH, σ)) ∧
  (∀ (v0 : Option Value) (v1 : Option Value) (v2 : Option Value) (v3 : Option Value) (v5 : Option Value) (v6 : Option Value) (x1 : Int32) (st : List Value) (σ : ma_H), ma_rn ro d 149 (97, [v0, v1, v2, v3, some (.int x1), v5, v6], st, SH, σ) = ma_rn ro d 149 (99, [v0, v1, v2, v3, some (.int x1), v5, v6], .int x1 :: st, SH, σ)) ∧
  (∀ (v0 : Option Value) (v1 : Option Value) (v2 : Option Value) (v4 : Option Value) (v5 : Option Value) (v6 : Option Value) (x9 : Int32) (x1 : Int32) (st : List Value) (σ : ma_H), ma_rn ro d 149 (99, [v0, v1, v2, some (.int x9), v4, v5, v6], .int x1 :: st, SH, σ) = ma_rn ro d 149 (101, [v0, v1, v2, some (.int x9), some (.int x1), v5, v6], st, SH, σ)) ∧
  (∀ (v0 : Option Value) (v1 : Option Value) (v2 : Option Value) (v3 : Option Value) (v6 : Option Value) (x1 : Int32) (x9 : Int32) (st : List Value) (σ : ma_H), ma_rn ro d 149 (101, [v0, v1, v2, v3, some (.int x9), some (.int x1), v6], st, SH, σ) = ma_rn ro d 149 (104, [v0, v1, v2, v3, some (.int x9), some (.int (x1 + nI 1)), v6], st, SH, σ)) ∧
  (∀ (v0 : Option Value) (v1 : Option Value) (v2 : Option Value) (v3 : Option Value) (v4 : Option Value) (v5 : Option Value) (v6 : Option Value) (st : List Value) (σ : ma_H), ma_rn ro d 149 (104, [v0, v1, v2, v3, v4, v5, v6], st, SH, σ) = ma_rn ro d 149 (40, [v0, v1, v2, v3, v4, v5, v6], st, SH, σ)) ∧
  (∀ (v0 : Option Value) (v1 : Option Value) (v2 : Option Value) (v3 : Option Value) (v5 : Option Value) (v6 : Option Value) (x1 : Int32) (st : List Value) (σ : ma_H), ma_rn ro d 149 (107, [v0, v1, v2, v3, some (.int x1), v5, v6], st, SH, σ) = ma_rn ro d 149 (109, [v0, v1, v2, v3, some (.int x1), v5, v6], .int x1 :: st, SH, σ)) ∧
  (∀ (v0 : Option Value) (v1 : Option Value) (v2 : Option Value) (v3 : Option Value) (v4 : Option Value) (v5 : Option Value) (v6 : Option Value) (x1 : Int32) (σ : ma_H), ma_rn ro d 149 (109, [v0, v1, v2, v3, v4, v5, v6], [.int x1], SH, σ) = some (some (.int x1), SH, σ)) := ⟨fun v1 v2 v3 v4 v5 v6 a1 st σ => q_go e149_0 rfl rfl,
  fun v0 v2 v3 v4 v5 v6 x1 st σ => q_go e149_1 rfl rfl,
  fun v0 v1 v2 v3 v4 v5 v6 x1 a0 σ hc => q_invV (as := [.int x1]) (rest := []) e149_2 o_149 bn_8_129 c_8_129 m_103 (by decide) rfl rfl (Nat.le_of_ble_eq_true rfl) (Nat.le_of_ble_eq_true rfl) hc,
  fun v0 v1 v2 v3 v4 v5 v6 x1 st σ => (q_if e149_5 rfl).trans q_ne,
  fun v0 v1 v2 v3 v4 v5 v6 st σ => q_iconst e149_8 (by decide),
  fun v0 v1 v2 v3 v4 v5 v6 x1 σ => q_iret e149_9 r_149,
  fun v0 v1 v3 v4 v5 v6 x1 st σ => q_go e149_10 rfl rfl,
  fun v0 v1 v2 v3 v4 v5 v6 st σ => q_iconst e149_11 (by decide),
  fun v0 v1 v2 v3 v4 v5 v6 st σ => q_bipush e149_12 (by decide),
  fun v0 v1 v2 v3 v4 v5 v6 x1 x2 x3 σ => q_invS (as := [.int x1, .int x2, .int x3]) (rest := []) e149_14 o_149 bn_8_35 c_8_35 ⟨m_102.1, m_102.2.1, m_102.2.2.1⟩ rfl rfl (Nat.le_of_ble_eq_true rfl) (Nat.le_of_ble_eq_true rfl),
  fun v0 v1 v2 v3 v4 v5 v6 x1 st σ => (q_if e149_17 rfl).trans q_eq,
  fun v0 v1 v2 v4 v5 v6 x1 st σ => q_go e149_20 rfl rfl,
  fun v0 v1 v2 v3 v4 v5 v6 st σ => q_iconst e149_21 (by decide),
  fun v0 v1 v2 v3 v4 v5 v6 st σ => q_bipush e149_22 (by decide),
  fun v0 v1 v2 v3 v4 v5 v6 x1 x2 x3 σ => q_invS (as := [.int x1, .int x2, .int x3]) (rest := []) e149_24 o_149 bn_8_35 c_8_35 ⟨m_102.1, m_102.2.1, m_102.2.2.1⟩ rfl rfl (Nat.le_of_ble_eq_true rfl) (Nat.le_of_ble_eq_true rfl),
  fun v0 v1 v2 v3 v4 v5 v6 x1 st σ => (q_if e149_27 rfl).trans q_ne,
  fun v0 v1 v2 v3 v4 v5 v6 st σ => q_bipush e149_30 (by decide),
  fun v0 v1 v2 v3 v4 v5 v6 x1 σ => q_iret e149_32 r_149,
  fun v0 v1 v2 v3 v4 v5 v6 st σ => q_bipush e149_33 (by decide),
  fun v0 v1 v2 v4 v5 v6 x9 x1 st σ => q_go e149_35 rfl rfl,
  fun v0 v1 v2 v3 v4 v5 v6 st σ => q_iconst e149_37 (by decide),
  fun v0 v1 v2 v3 v5 v6 x9 x1 st σ => q_go e149_38 rfl rfl,
  fun v0 v1 v2 v3 v4 v5 v6 st σ => q_iconst e149_42 (by decide),
  fun v0 v1 v3 v4 v5 v6 x1 st σ => q_go e149_43 rfl rfl,
  fun v0 v1 v2 v3 v4 v5 v6 x1 x2 st σ => q_go e149_44 rfl rfl,
  fun v0 v1 v2 v3 v4 v5 v6 x1 x2 st σ => (q_cmp e149_45 rfl).trans q_nlt,
  fun v0 v1 v2 v3 v5 v6 x1 st σ => q_go e149_48 rfl rfl,
  fun v0 v1 v2 v3 v4 v5 v6 st σ => q_bipush e149_50 (by decide),
  fun v0 v1 v2 v3 v4 v5 v6 x1 x2 st σ => (q_cmp e149_52 rfl).trans q_eq,
  fun v0 v1 v2 v3 v4 v6 x1 st σ => q_go e149_55 rfl rfl,
  fun v0 v1 v2 v3 v4 v5 v6 x1 σ => q_invS (as := [.int x1]) (rest := []) e149_57 o_149 bn_8_178 c_8_178 ⟨m_148.1, m_148.2.1, m_148.2.2.1⟩ rfl rfl (Nat.le_of_ble_eq_true rfl) (Nat.le_of_ble_eq_true rfl),
  fun v0 v1 v2 v3 v5 v6 x1 st σ => q_go e149_60 rfl rfl,
  fun v0 v1 v2 v3 v4 v5 v6 x20 x1 σ => q_invS (as := [.int x1]) (rest := .int x20 :: []) e149_62 o_149 bn_8_178 c_8_178 ⟨m_148.1, m_148.2.1, m_148.2.2.1⟩ rfl rfl (Nat.le_of_ble_eq_true rfl) (Nat.le_of_ble_eq_true rfl),
  fun v0 v1 v2 v3 v4 v5 v6 x1 x2 st σ => (q_cmp e149_65 rfl).trans q_nlt,
  fun v0 v1 v2 v3 v4 v5 v6 st σ => q_iconst e149_68 (by decide),
  fun v0 v1 v2 v3 v4 v5 v6 st σ => q_goto e149_69 rfl,
  fun v0 v1 v2 v3 v4 v5 v6 st σ => q_iconst e149_72 (by decide),
  fun v0 v1 v2 v3 v4 v6 x9 x1 st σ => q_go e149_73 rfl rfl,
  fun v0 v1 v2 v3 v4 v5 x1 st σ => q_go e149_75 rfl rfl,
  fun v0 v1 v2 v3 v4 v5 v6 x1 st σ => (q_if e149_77 rfl).trans q_eq,
  fun v1 v2 v3 v4 v5 v6 a1 st σ => q_go e149_80 rfl rfl,
  fun v0 v2 v3 v4 v5 v6 x1 st σ => q_go e149_81 rfl rfl,
  fun v0 v1 v2 v3 v4 v6 x1 st σ => q_go e149_82 rfl rfl,
  fun v0 v1 v3 v4 v5 v6 x1 st σ => q_go e149_84 rfl rfl,
  fun v0 v1 v2 v4 v5 v6 x1 st σ => q_go e149_85 rfl rfl,
  fun v0 v1 v2 v3 v4 v5 v6 x1 x2 x3 x4 a0 σ hc => q_invV (as := [.int x1, .int x2, .int x3, .int x4]) (rest := []) e149_86 o_149 bn_8_181 c_8_181 m_147 (by decide) rfl rfl (Nat.le_of_ble_eq_true rfl) (Nat.le_of_ble_eq_true rfl) hc,
  fun v0 v1 v2 v3 v4 v5 v6 x1 st σ => (q_if e149_89 rfl).trans q_eq,
  fun v0 v1 v2 v3 v4 v6 x1 st σ => q_go e149_92 rfl rfl,
  fun v0 v1 v2 v3 v4 v5 v6 st σ => q_goto e149_94 rfl,
  fun v0 v1 v2 v3 v5 v6 x1 st σ => q_go e149_97 rfl rfl,
  fun v0 v1 v2 v4 v5 v6 x9 x1 st σ => q_go e149_99 rfl rfl,
  fun v0 v1 v2 v3 v6 x1 x9 st σ => q_iinc e149_101 rfl rfl (by decide),
  fun v0 v1 v2 v3 v4 v5 v6 st σ => q_goto e149_104 rfl,
  fun v0 v1 v2 v3 v5 v6 x1 st σ => q_go e149_107 rfl rfl,
  fun v0 v1 v2 v3 v4 v5 v6 x1 σ => q_iret e149_109 r_149⟩
theorem E149 {ro : ma_RO} {d : Nat} (a0 : Nat) (x1 : Int32) (x2 : Int32) (x3 : Int32) (sh : List ma_Sh) (σ : ma_H) : ma_ev ro d 149 [.ref a0, .int x1, .int x2, .int x3] sh σ = ma_rn ro d 149 (0, [some (.ref a0), some (.int x1), some (.int x2), some (.int x3), none, none, none], [], sh, σ) := q_ent x_149 rfl
theorem e150_0 : decode (ma_cd 150) 0 = .ok (.iload_n 1, 1) := (congrArg (fun b => decode b 0) cd_150).trans dX8_see_0
theorem e150_1 : decode (ma_cd 150) 1 = .ok (.iconst (-1), 1) := (congrArg (fun b => decode b 1) cd_150).trans dX8_see_1
theorem e150_2 : decode (ma_cd 150) 2 = .ok (.if_icmp .ne 13, 3) := (congrArg (fun b => decode b 2) cd_150).trans dX8_see_2
theorem e150_5 : decode (ma_cd 150) 5 = .ok (.aload_n 0, 1) := (congrArg (fun b => decode b 5) cd_150).trans dX8_see_5
theorem e150_6 : decode (ma_cd 150) 6 = .ok (.getfield 9, 3) := (congrArg (fun b => decode b 6) cd_150).trans dX8_see_6
theorem e150_9 : decode (ma_cd 150) 9 = .ok (.bipush 35, 2) := (congrArg (fun b => decode b 9) cd_150).trans dX8_see_9
theorem e150_11 : decode (ma_cd 150) 11 = .ok (.iconst 0, 1) := (congrArg (fun b => decode b 11) cd_150).trans dX8_see_11
theorem e150_12 : decode (ma_cd 150) 12 = .ok (.iastore, 1) := (congrArg (fun b => decode b 12) cd_150).trans dX8_see_12
theorem e150_13 : decode (ma_cd 150) 13 = .ok (.iconst 0, 1) := (congrArg (fun b => decode b 13) cd_150).trans dX8_see_13
theorem e150_14 : decode (ma_cd 150) 14 = .ok (.ireturn, 1) := (congrArg (fun b => decode b 14) cd_150).trans dX8_see_14
theorem e150_15 : decode (ma_cd 150) 15 = .ok (.aload_n 0, 1) := (congrArg (fun b => decode b 15) cd_150).trans dX8_see_15
theorem e150_16 : decode (ma_cd 150) 16 = .ok (.iload_n 1, 1) := (congrArg (fun b => decode b 16) cd_150).trans dX8_see_16
theorem e150_17 : decode (ma_cd 150) 17 = .ok (.invokevirtual 129, 3) := (congrArg (fun b => decode b 17) cd_150).trans dX8_see_17
theorem e150_20 : decode (ma_cd 150) 20 = .ok (.ifCond .ne 5, 3) := (congrArg (fun b => decode b 20) cd_150).trans dX8_see_20
theorem e150_23 : decode (ma_cd 150) 23 = .ok (.iconst (-1), 1) := (congrArg (fun b => decode b 23) cd_150).trans dX8_see_23
theorem e150_24 : decode (ma_cd 150) 24 = .ok (.ireturn, 1) := (congrArg (fun b => decode b 24) cd_150).trans dX8_see_24
theorem e150_25 : decode (ma_cd 150) 25 = .ok (.iload_n 2, 1) := (congrArg (fun b => decode b 25) cd_150).trans dX8_see_25
theorem e150_26 : decode (ma_cd 150) 26 = .ok (.iconst 0, 1) := (congrArg (fun b => decode b 26) cd_150).trans dX8_see_26
theorem e150_27 : decode (ma_cd 150) 27 = .ok (.bipush 20, 2) := (congrArg (fun b => decode b 27) cd_150).trans dX8_see_27
theorem e150_29 : decode (ma_cd 150) 29 = .ok (.invokestatic 35, 3) := (congrArg (fun b => decode b 29) cd_150).trans dX8_see_29
theorem e150_32 : decode (ma_cd 150) 32 = .ok (.ifCond .ne 6, 3) := (congrArg (fun b => decode b 32) cd_150).trans dX8_see_32
theorem e150_35 : decode (ma_cd 150) 35 = .ok (.bipush (-2), 2) := (congrArg (fun b => decode b 35) cd_150).trans dX8_see_35
theorem e150_37 : decode (ma_cd 150) 37 = .ok (.ireturn, 1) := (congrArg (fun b => decode b 37) cd_150).trans dX8_see_37
theorem e150_38 : decode (ma_cd 150) 38 = .ok (.aload_n 0, 1) := (congrArg (fun b => decode b 38) cd_150).trans dX8_see_38
theorem e150_39 : decode (ma_cd 150) 39 = .ok (.getfield 9, 3) := (congrArg (fun b => decode b 39) cd_150).trans dX8_see_39
theorem e150_42 : decode (ma_cd 150) 42 = .ok (.bipush 35, 2) := (congrArg (fun b => decode b 42) cd_150).trans dX8_see_42
theorem e150_44 : decode (ma_cd 150) 44 = .ok (.iaload, 1) := (congrArg (fun b => decode b 44) cd_150).trans dX8_see_44
theorem e150_45 : decode (ma_cd 150) 45 = .ok (.iconst 5, 1) := (congrArg (fun b => decode b 45) cd_150).trans dX8_see_45
theorem e150_46 : decode (ma_cd 150) 46 = .ok (.if_icmp .ne 6, 3) := (congrArg (fun b => decode b 46) cd_150).trans dX8_see_46
theorem e150_49 : decode (ma_cd 150) 49 = .ok (.bipush (-4), 2) := (congrArg (fun b => decode b 49) cd_150).trans dX8_see_49
theorem e150_51 : decode (ma_cd 150) 51 = .ok (.ireturn, 1) := (congrArg (fun b => decode b 51) cd_150).trans dX8_see_51
theorem e150_52 : decode (ma_cd 150) 52 = .ok (.aload_n 0, 1) := (congrArg (fun b => decode b 52) cd_150).trans dX8_see_52
theorem e150_53 : decode (ma_cd 150) 53 = .ok (.getfield 9, 3) := (congrArg (fun b => decode b 53) cd_150).trans dX8_see_53
theorem e150_56 : decode (ma_cd 150) 56 = .ok (.bipush 76, 2) := (congrArg (fun b => decode b 56) cd_150).trans dX8_see_56
theorem e150_58 : decode (ma_cd 150) 58 = .ok (.aload_n 0, 1) := (congrArg (fun b => decode b 58) cd_150).trans dX8_see_58
theorem e150_59 : decode (ma_cd 150) 59 = .ok (.getfield 9, 3) := (congrArg (fun b => decode b 59) cd_150).trans dX8_see_59
theorem e150_62 : decode (ma_cd 150) 62 = .ok (.bipush 35, 2) := (congrArg (fun b => decode b 62) cd_150).trans dX8_see_62
theorem e150_64 : decode (ma_cd 150) 64 = .ok (.iaload, 1) := (congrArg (fun b => decode b 64) cd_150).trans dX8_see_64
theorem e150_65 : decode (ma_cd 150) 65 = .ok (.iadd, 1) := (congrArg (fun b => decode b 65) cd_150).trans dX8_see_65
theorem e150_66 : decode (ma_cd 150) 66 = .ok (.iload_n 1, 1) := (congrArg (fun b => decode b 66) cd_150).trans dX8_see_66
theorem e150_67 : decode (ma_cd 150) 67 = .ok (.iastore, 1) := (congrArg (fun b => decode b 67) cd_150).trans dX8_see_67
theorem e150_68 : decode (ma_cd 150) 68 = .ok (.aload_n 0, 1) := (congrArg (fun b => decode b 68) cd_150).trans dX8_see_68
theorem e150_69 : decode (ma_cd 150) 69 = .ok (.getfield 9, 3) := (congrArg (fun b => decode b 69) cd_150).trans dX8_see_69
theorem e150_72 : decode (ma_cd 150) 72 = .ok (.bipush 81, 2) := (congrArg (fun b => decode b 72) cd_150).trans dX8_see_72
theorem e150_74 : decode (ma_cd 150) 74 = .ok (.aload_n 0, 1) := (congrArg (fun b => decode b 74) cd_150).trans dX8_see_74
theorem e150_75 : decode (ma_cd 150) 75 = .ok (.getfield 9, 3) := (congrArg (fun b => decode b 75) cd_150).trans dX8_see_75
theorem e150_78 : decode (ma_cd 150) 78 = .ok (.bipush 35, 2) := (congrArg (fun b => decode b 78) cd_150).trans dX8_see_78
theorem e150_80 : decode (ma_cd 150) 80 = .ok (.iaload, 1) := (congrArg (fun b => decode b 80) cd_150).trans dX8_see_80
theorem e150_81 : decode (ma_cd 150) 81 = .ok (.iadd, 1) := (congrArg (fun b => decode b 81) cd_150).trans dX8_see_81
theorem e150_82 : decode (ma_cd 150) 82 = .ok (.iload_n 2, 1) := (congrArg (fun b => decode b 82) cd_150).trans dX8_see_82
theorem e150_83 : decode (ma_cd 150) 83 = .ok (.iastore, 1) := (congrArg (fun b => decode b 83) cd_150).trans dX8_see_83
theorem e150_84 : decode (ma_cd 150) 84 = .ok (.aload_n 0, 1) := (congrArg (fun b => decode b 84) cd_150).trans dX8_see_84
theorem e150_85 : decode (ma_cd 150) 85 = .ok (.getfield 9, 3) := (congrArg (fun b => decode b 85) cd_150).trans dX8_see_85
theorem e150_88 : decode (ma_cd 150) 88 = .ok (.bipush 86, 2) := (congrArg (fun b => decode b 88) cd_150).trans dX8_see_88
theorem e150_90 : decode (ma_cd 150) 90 = .ok (.aload_n 0, 1) := (congrArg (fun b => decode b 90) cd_150).trans dX8_see_90
theorem e150_91 : decode (ma_cd 150) 91 = .ok (.getfield 9, 3) := (congrArg (fun b => decode b 91) cd_150).trans dX8_see_91
theorem e150_94 : decode (ma_cd 150) 94 = .ok (.bipush 35, 2) := (congrArg (fun b => decode b 94) cd_150).trans dX8_see_94
theorem e150_96 : decode (ma_cd 150) 96 = .ok (.iaload, 1) := (congrArg (fun b => decode b 96) cd_150).trans dX8_see_96
theorem e150_97 : decode (ma_cd 150) 97 = .ok (.iadd, 1) := (congrArg (fun b => decode b 97) cd_150).trans dX8_see_97
theorem e150_98 : decode (ma_cd 150) 98 = .ok (.iload_n 3, 1) := (congrArg (fun b => decode b 98) cd_150).trans dX8_see_98
theorem e150_99 : decode (ma_cd 150) 99 = .ok (.ifCond .eq 7, 3) := (congrArg (fun b => decode b 99) cd_150).trans dX8_see_99
theorem e150_102 : decode (ma_cd 150) 102 = .ok (.iconst 1, 1) := (congrArg (fun b => decode b 102) cd_150).trans dX8_see_102
theorem e150_103 : decode (ma_cd 150) 103 = .ok (.goto 4, 3) := (congrArg (fun b => decode b 103) cd_150).trans dX8_see_103
theorem e150_106 : decode (ma_cd 150) 106 = .ok (.iconst 0, 1) := (congrArg (fun b => decode b 106) cd_150).trans dX8_see_106
theorem e150_107 : decode (ma_cd 150) 107 = .ok (.iastore, 1) := (congrArg (fun b => decode b 107) cd_150).trans dX8_see_107
theorem e150_108 : decode (ma_cd 150) 108 = .ok (.aload_n 0, 1) := (congrArg (fun b => decode b 108) cd_150).trans dX8_see_108
theorem e150_109 : decode (ma_cd 150) 109 = .ok (.getfield 9, 3) := (congrArg (fun b => decode b 109) cd_150).trans dX8_see_109
theorem e150_112 : decode (ma_cd 150) 112 = .ok (.bipush 35, 2) := (congrArg (fun b => decode b 112) cd_150).trans dX8_see_112
theorem e150_114 : decode (ma_cd 150) 114 = .ok (.dup2, 1) := (congrArg (fun b => decode b 114) cd_150).trans dX8_see_114
theorem e150_115 : decode (ma_cd 150) 115 = .ok (.iaload, 1) := (congrArg (fun b => decode b 115) cd_150).trans dX8_see_115
theorem e150_116 : decode (ma_cd 150) 116 = .ok (.iconst 1, 1) := (congrArg (fun b => decode b 116) cd_150).trans dX8_see_116
theorem e150_117 : decode (ma_cd 150) 117 = .ok (.iadd, 1) := (congrArg (fun b => decode b 117) cd_150).trans dX8_see_117
theorem e150_118 : decode (ma_cd 150) 118 = .ok (.iastore, 1) := (congrArg (fun b => decode b 118) cd_150).trans dX8_see_118
theorem e150_119 : decode (ma_cd 150) 119 = .ok (.aload_n 0, 1) := (congrArg (fun b => decode b 119) cd_150).trans dX8_see_119
theorem e150_120 : decode (ma_cd 150) 120 = .ok (.getfield 9, 3) := (congrArg (fun b => decode b 120) cd_150).trans dX8_see_120
theorem e150_123 : decode (ma_cd 150) 123 = .ok (.bipush 35, 2) := (congrArg (fun b => decode b 123) cd_150).trans dX8_see_123
theorem e150_125 : decode (ma_cd 150) 125 = .ok (.iaload, 1) := (congrArg (fun b => decode b 125) cd_150).trans dX8_see_125
theorem e150_126 : decode (ma_cd 150) 126 = .ok (.ireturn, 1) := (congrArg (fun b => decode b 126) cd_150).trans dX8_see_126
theorem S150 {ro : ma_RO} {d : Nat} : (∀ (v0 : Option Value) (v2 : Option Value) (v3 : Option Value) (x1 : Int32) (st : List Value) (σ : ma_H), ma_rn ro d 150 (0, [v0, some (.int x1), v2, v3], st, SH, σ) = ma_rn ro d 150 (1, [v0, some (.int x1), v2, v3], .int x1 :: st, SH, σ)) ∧
  (∀ (v0 : Option Value) (v1 : Option Value) (v2 : Option Value) (v3 : Option Value) (st : List Value) (σ : ma_H), ma_rn ro d 150 (1, [v0, v1, v2, v3], st, SH, σ) = ma_rn ro d 150 (2, [v0, v1, v2, v3], .int ((-1)) :: st, SH, σ)) ∧
  (∀ (v0 : Option Value) (v1 : Option Value) (v2 : Option Value) (v3 : Option Value) (x1 : Int32) (x2 : Int32) (st : List Value) (σ : ma_H), ma_rn ro d 150 (2, [v0, v1, v2, v3], .int x1 :: .int x2 :: st, SH, σ) = if x2 = x1 then ma_rn ro d 150 (5, [v0, v1, v2, v3], st, SH, σ) else ma_rn ro d 150 (15, [v0, v1, v2, v3], st, SH, σ)) ∧
  (∀ (v1 : Option Value) (v2 : Option Value) (v3 : Option Value) (a1 : Nat) (st : List Value) (σ : ma_H), ma_rn ro d 150 (5, [some (.ref a1), v1, v2, v3], st, SH, σ) = ma_rn ro d 150 (6, [some (.ref a1), v1, v2, v3], .ref a1 :: st, SH, σ)) ∧
  (∀ (v0 : Option Value) (v1 : Option Value) (v2 : Option Value) (v3 : Option Value) (a1 : Nat) (st : List Value) (σ : ma_H) (hc : hk_cls a1 = 8), ma_rn ro d 150 (6, [v0, v1, v2, v3], .ref a1 :: st, SH, σ) = ma_rn ro d 150 (9, [v0, v1, v2, v3], .ref (91) :: st, SH, σ)) ∧
  (∀ (v0 : Option Value) (v1 : Option Value) (v2 : Option Value) (v3 : Option Value) (st : List Value) (σ : ma_H), ma_rn ro d 150 (9, [v0, v1, v2, v3], st, SH, σ) = ma_rn ro d 150 (11, [v0, v1, v2, v3], .int (nI 35) :: st, SH, σ)) ∧
  (∀ (v0 : Option Value) (v1 : Option Value) (v2 : Option Value) (v3 : Option Value) (st : List Value) (σ : ma_H), ma_rn ro d 150 (11, [v0, v1, v2, v3], st, SH, σ) = ma_rn ro d 150 (12, [v0, v1, v2, v3], .int (nI 0) :: st, SH, σ)) ∧
  (∀ (v0 : Option Value) (v1 : Option Value) (v2 : Option Value) (v3 : Option Value) (x1 : Int32) (k : Nat) (a3 : Nat) (st : List Value) (σ : ma_H) (hk : k < hk_len a3), ma_rn ro d 150 (12, [v0, v1, v2, v3], .int x1 :: .int (nI k) :: .ref a3 :: st, SH, σ) = ma_rn ro d 150 (13, [v0, v1, v2, v3], st, SH, (ma_up σ a3 k x1))) ∧
  (∀ (v0 : Option Value) (v1 : Option Value) (v2 : Option Value) (v3 : Option Value) (st : List Value) (σ : ma_H), ma_rn ro d 150 (13, [v0, v1, v2, v3], st, SH, σ) = ma_rn ro d 150 (14, [v0, v1, v2, v3], .int (nI 0) :: st, SH, σ)) ∧
  (∀ (v0 : Option Value) (v1 : Option Value) (v2 : Option Value) (v3 : Option Value) (x1 : Int32) (σ : ma_H), ma_rn ro d 150 (14, [v0, v1, v2, v3], [.int x1], SH, σ) = some (some (.int x1), SH, σ)) ∧
  (∀ (v1 : Option Value) (v2 : Option Value) (v3 : Option Value) (a1 : Nat) (st : List Value) (σ : ma_H), ma_rn ro d 150 (15, [some (.ref a1), v1, v2, v3], st, SH, σ) = ma_rn ro d 150 (16, [some (.ref a1), v1, v2, v3], .ref a1 :: st, SH, σ)) ∧
  (∀ (v0 : Option Value) (v2 : Option Value) (v3 : Option Value) (x1 : Int32) (st : List Value) (σ : ma_H), ma_rn ro d 150 (16, [v0, some (.int x1), v2, v3], st, SH, σ) = ma_rn ro d 150 (17, [v0, some (.int x1), v2, v3], .int x1 :: st, SH, σ)) ∧
  (∀ (v0 : Option Value) (v1 : Option Value) (v2 : Option Value) (v3 : Option Value) (x1 : Int32) (a0 : Nat) (σ : ma_H) (hc : hk_cls a0 = 8), ma_rn ro (d + 1) 150 (17, [v0, v1, v2, v3], .int x1 :: .ref a0 :: [], SH, σ) = (ma_ev ro d 103 [.ref a0, .int x1] SH σ).bind (fun q => ma_rn ro (d + 1) 150 (20, [v0, v1, v2, v3], (q.1.toList ++ []), q.2.1, q.2.2))) ∧
  (∀ (v0 : Option Value) (v1 : Option Value) (v2 : Option Value) (v3 : Option Value) (x1 : Int32) (st : List Value) (σ : ma_H), ma_rn ro d 150 (20, [v0, v1, v2, v3], .int x1 :: st, SH, σ) = if x1 = nI 0 then ma_rn ro d 150 (23, [v0, v1, v2, v3], st, SH, σ) else ma_rn ro d 150 (25, [v0, v1, v2, v3], st, SH, σ)) ∧
  (∀ (v0 : Option Value) (v1 : Option Value) (v2 : Option Value) (v3 : Option Value) (st : List Value) (σ : ma_H), ma_rn ro d 150 (23, [v0, v1, v2, v3], st, SH, σ) = ma_rn ro d 150 (24, [v0, v1, v2, v3], .int ((-1)) :: st, SH, σ)) ∧
  (∀ (v0 : Option Value) (v1 : Option Value) (v2 : Option Value) (v3 : Option Value) (x1 : Int32) (σ : ma_H), ma_rn ro d 150 (24, [v0, v1, v2, v3], [.int x1], SH, σ) = some (some (.int x1), SH, σ)) ∧
  (∀ (v0 : Option Value) (v1 : Option Value) (v3 : Option Value) (x1 : Int32) (st : List Value) (σ : ma_H), ma_rn ro d 150 (25, [v0, v1, some (.int x1), v3], st, SH, σ) = ma_rn ro d 150 (26, [v0, v1, some (.int x1), v3], .int x1 :: st, SH, σ)) ∧
  (∀ (v0 : Option Value) (v1 : Option Value) (v2 : Option Value) (v3 : Option Value) (st : List Value) (σ : ma_H), ma_rn ro d 150 (26, [v0, v1, v2, v3], st, SH, σ) = ma_rn ro d 150 (27, [v0, v1, v2, v3], .int (nI 0) :: st, SH, σ)) ∧
  (∀ (v0 : Option Value) (v1 : Option Value) (v2 : Option Value) (v3 : Option Value) (st : List Value) (σ : ma_H), ma_rn ro d 150 (27, [v0, v1, v2, v3], st, SH, σ) = ma_rn ro d 150 (29, [v0, v1, v2, v3], .int (nI 20) :: st, SH, σ)) ∧
  (∀ (v0 : Option Value) (v1 : Option Value) (v2 : Option Value) (v3 : Option Value) (x1 : Int32) (x2 : Int32) (x3 : Int32) (σ : ma_H), ma_rn ro (d + 1) 150 (29, [v0, v1, v2, v3], .int x3 :: .int x2 :: .int x1 :: [], SH, σ) = (ma_ev ro d 102 [.int x1, .int x2, .int x3] SH σ).bind (fun q => ma_rn ro (d + 1) 150 (32, [v0, v1, v2, v3], (q.1.toList ++ []), q.2.1, q.2.2))) ∧
  (∀ (v0 : Option Value) (v1 : Option Value) (v2 : Option Value) (v3 : Option Value) (x1 : Int32) (st : List Value) (σ : ma_H), ma_rn ro d 150 (32, [v0, v1, v2, v3], .int x1 :: st, SH, σ) = if x1 = nI 0 then ma_rn ro d 150 (35, [v0, v1, v2, v3], st, SH, σ) else ma_rn ro d 150 (38, [v0, v1, v2, v3], st, SH, σ)) ∧
  (∀ (v0 : Option Value) (v1 : Option Value) (v2 : Option Value) (v3 : Option Value) (st : List Value) (σ : ma_H), ma_rn ro d 150 (35, [v0, v1, v2, v3], st, SH, σ) = ma_rn ro d 150 (37, [v0, v1, v2, v3], .int ((-2)) :: st, SH, σ)) ∧
  (∀ (v0 : Option Value) (v1 : Option Value) (v2 : Option Value) (v3 : Option Value) (x1 : Int32) (σ : ma_H), ma_rn ro d 150 (37, [v0, v1, v2, v3], [.int x1], SH, σ) = some (some (.int x1), SH, σ)) ∧
  (∀ (v1 : Option Value) (v2 : Option Value) (v3 : Option Value) (a1 : Nat) (st : List Value) (σ : ma_H), ma_rn ro d 150 (38, [some (.ref a1), v1, v2, v3], st, SH, σ) = ma_rn ro d 150 (39, [some (.ref a1), v1, v2, v3], .ref a1 :: st, SH, σ)) ∧
  (∀ (v0 : Option Value) (v1 : Option Value) (v2 : Option Value) (v3 : Option Value) (a1 : Nat) (st : List Value) (σ : ma_H) (hc : hk_cls a1 = 8), ma_rn ro d 150 (39, [v0, v1, v2, v3], .ref a1 :: st, SH, σ) = ma_rn ro d 150 (42, [v0, v1, v2, v3], .ref (91) :: st, SH, σ)) ∧
  (∀ (v0 : Option Value) (v1 : Option Value) (v2 : Option Value) (v3 : Option Value) (st : List Value) (σ : ma_H), ma_rn ro d 150 (42, [v0, v1, v2, v3], st, SH, σ) = ma_rn ro d 150 (44, [v0, v1, v2, v3], .int (nI 35) :: st, SH, σ)) ∧
  (∀ (v0 : Option Value) (v1 : Option Value) (v2 : Option Value) (v3 : Option Value) (k : Nat) (a2 : Nat) (st : List Value) (σ : ma_H) (hk : k < hk_len a2), ma_rn ro d 150 (44, [v0, v1, v2, v3], .int (nI k) :: .ref a2 :: st, SH, σ) = ma_rn ro d 150 (45, [v0, v1, v2, v3], .int (σ a2 k) :: st, SH, σ)) ∧
  (∀ (v0 : Option Value) (v1 : Option Value) (v2 : Option Value) (v3 : Option Value) (st : List Value) (σ : ma_H), ma_rn ro d 150 (45, [v0, v1, v2, v3], st, SH, σ) = ma_rn ro d 150 (46, [v0, v1, v2, v3], .int (nI 5) :: st, SH, σ)) ∧
  (∀ (v0 : Option Value) (v1 : Option Value) (v2 : Option Value) (v3 : Option Value) (x1 : Int32) (x2 : Int32) (st : List Value) (σ : ma_H), ma_rn ro d 150 (46, [v0, v1, v2, v3], .int x1 :: .int x2 :: st, SH, σ) = if x2 = x1 then ma_rn ro d 150 (49, [v0, v1, v2, v3], st, SH, σ) else ma_rn ro d 150 (52, [v0, v1, v2, v3], st, SH, σ)) ∧
  (∀ (v0 : Option Value) (v1 : Option Value) (v2 : Option Value) (v3 : Option Value) (st : List Value) (σ : ma_H), ma_rn ro d 150 (49, [v0, v1, v2, v3], st, SH, σ) = ma_rn ro d 150 (51, [v0, v1, v2, v3], .int ((-4)) :: st, SH, σ)) ∧
  (∀ (v0 : Option Value) (v1 : Option Value) (v2 : Option Value) (v3 : Option Value) (x1 : Int32) (σ : ma_H), ma_rn ro d 150 (51, [v0, v1, v2, v3], [.int x1], SH, σ) = some (some (.int x1), SH, σ)) ∧
  (∀ (v1 : Option Value) (v2 : Option Value) (v3 : Option Value) (a1 : Nat) (st : List Value) (σ : ma_H), ma_rn ro d 150 (52, [some (.ref a1), v1, v2, v3], st, SH, σ) = ma_rn ro d 150 (53, [some (.ref a1), v1, v2, v3], .ref a1 :: st, SH, σ)) ∧
  (∀ (v0 : Option Value) (v1 : Option Value) (v2 : Option Value) (v3 : Option Value) (a1 : Nat) (st : List Value) (σ : ma_H) (hc : hk_cls a1 = 8), ma_rn ro d 150 (53, [v0, v1, v2, v3], .ref a1 :: st, SH, σ) = ma_rn ro d 150 (56, [v0, v1, v2, v3], .ref (91) :: st, SH, σ)) ∧
  (∀ (v0 : Option Value) (v1 : Option Value) (v2 : Option Value) (v3 : Option Value) (st : List Value) (σ : ma_H), ma_rn ro d 150 (56, [v0, v1, v2, v3], st, SH, σ) = ma_rn ro d 150 (58, [v0, v1, v2, v3], .int (nI 76) :: st, SH, σ)) ∧
  (∀ (v1 : Option Value) (v2 : Option Value) (v3 : Option Value) (a1 : Nat) (st : List Value) (σ : ma_H), ma_rn ro d 150 (58, [some (.ref a1), v1, v2, v3], st, SH, σ) = ma_rn ro d 150 (59, [some (.ref a1), v1, v2, v3], .ref a1 :: st, SH, σ)) ∧
  (∀ (v0 : Option Value) (v1 : Option Value) (v2 : Option Value) (v3 : Option Value) (a1 : Nat) (st : List Value) (σ : ma_H) (hc : hk_cls a1 = 8), ma_rn ro d 150 (59, [v0, v1, v2, v3], .ref a1 :: st, SH, σ) = ma_rn ro d 150 (62, [v0, v1, v2, v3], .ref (91) :: st, SH, σ)) ∧
  (∀ (v0 : Option Value) (v1 : Option Value) (v2 : Option Value) (v3 : Option Value) (st : List Value) (σ : ma_H), ma_rn ro d 150 (62, [v0, v1, v2, v3], st, SH, σ) = ma_rn ro d 150 (64, [v0, v1, v2, v3], .int (nI 35) :: st, SH, σ)) ∧
  (∀ (v0 : Option Value) (v1 : Option Value) (v2 : Option Value) (v3 : Option Value) (k : Nat) (a2 : Nat) (st : List Value) (σ : ma_H) (hk : k < hk_len a2), ma_rn ro d 150 (64, [v0, v1, v2, v3], .int (nI k) :: .ref a2 :: st, SH, σ) = ma_rn ro d 150 (65, [v0, v1, v2, v3], .int (σ a2 k) :: st, SH, σ)) ∧
  (∀ (v0 : Option Value) (v1 : Option Value) (v2 : Option Value) (v3 : Option Value) (x1 : Int32) (x2 : Int32) (st : List Value) (σ : ma_H), ma_rn ro d 150 (65, [v0, v1, v2, v3], .int x1 :: .int x2 :: st, SH, σ) = ma_rn ro d 150 (66, [v0, v1, v2, v3], .int (x2 + x1) :: st, SH, σ)) ∧
  (∀ (v0 : Option Value) (v2 : Option Value) (v3 : Option Value) (x1 : Int32) (st : List Value) (σ : ma_H), ma_rn ro d 150 (66, [v0, some (.int x1), v2, v3], st, SH, σ) = ma_rn ro d 150 (67, [v0, some (.int x1), v2, v3], .int x1 :: st, SH, σ)) ∧
  (∀ (v0 : Option Value) (v1 : Option Value) (v2 : Option Value) (v3 : Option Value) (x1 : Int32) (k : Nat) (a3 : Nat) (st : List Value) (σ : ma_H) (hk : k < hk_len a3), ma_rn ro d 150 (67, [v0, v1, v2, v3], .int x1 :: .int (nI k) :: .ref a3 :: st, SH, σ) = ma_rn ro d 150 (68, [v0, v1, v2, v3], st, SH, (ma_up σ a3 k x1))) ∧
  (∀ (v1 : Option Value) (v2 : Option Value) (v3 : Option Value) (a1 : Nat) (st : List Value) (σ : ma_H), ma_rn ro d 150 (68, [some (.ref a1), v1, v2, v3], st, SH, σ) = ma_rn ro d 150 (69, [some (.ref a1), v1, v2, v3], .ref a1 :: st, SH, σ)) ∧
  (∀ (v0 : Option Value) (v1 : Option Value) (v2 : Option Value) (v3 : Option Value) (a1 : Nat) (st : List Value) (σ : ma_H) (hc : hk_cls a1 = 8), ma_rn ro d 150 (69, [v0, v1, v2, v3], .ref a1 :: st, SH, σ) = ma_rn ro d 150 (72, [v0, v1, v2, v3], .ref (91) :: st, SH, σ)) ∧
  (∀ (v0 : Option Value) (v1 : Option Value) (v2 : Option Value) (v3 : Option Value) (st : List Value) (σ : ma_H), ma_rn ro d 150 (72, [v0, v1, v2, v3], st, SH, σ) = ma_rn ro d 150 (74, [v0, v1, v2, v3], .int (nI 81) :: st, SH, σ)) ∧
  (∀ (v1 : Option Value) (v2 : Option Value) (v3 : Option Value) (a1 : Nat) (st : List Value) (σ : ma_H), ma_rn ro d 150 (74, [some (.ref a1), v1, v2, v3], st, SH, σ) = ma_rn ro d 150 (75, [some (.ref a1), v1, v2, v3], .ref a1 :: st, SH, σ)) ∧
  (∀ (v0 : Option Value) (v1 : Option Value) (v2 : Option Value) (v3 : Option Value) (a1 : Nat) (st : List Value) (σ : ma_H) (hc : hk_cls a1 = 8), ma_rn ro d 150 (75, [v0, v1, v2, v3], .ref a1 :: st, SH, σ) = ma_rn ro d 150 (78, [v0, v1, v2, v3], .ref (91) :: st, SH, σ)) ∧
  (∀ (v0 : Option Value) (v1 : Option Value) (v2 : Option Value) (v3 : Option Value) (st : List Value) (σ : ma_H), ma_rn ro d 150 (78, [v0, v1, v2, v3], st, SH, σ) = ma_rn ro d 150 (80, [v0, v1, v2, v3], .int (nI 35) :: st, SH, σ)) ∧
  (∀ (v0 : Option Value) (v1 : Option Value) (v2 : Option Value) (v3 : Option Value) (k : Nat) (a2 : Nat) (st : List Value) (σ : ma_H) (hk : k < hk_len a2), ma_rn ro d 150 (80, [v0, v1, v2, v3], .int (nI k) :: .ref a2 :: st, SH, σ) = ma_rn ro d 150 (81, [v0, v1, v2, v3], .int (σ a2 k) :: st, SH, σ)) ∧
  (∀ (v0 : Option Value) (v1 : Option Value) (v2 : Option Value) (v3 : Option Value) (x1 : Int32) (x2 : Int32) (st : List Value) (σ : ma_H), ma_rn ro d 150 (81, [v0, v1, v2, v3], .int x1 :: .int x2 :: st, SH, σ) = ma_rn ro d 150 (82, [v0, v1, v2, v3], .int (x2 + x1) :: st, SH, σ)) ∧
  (∀ (v0 : Option Value) (v1 : Option Value) (v3 : Option Value) (x1 : Int32) (st : List Value) (σ : ma_H), ma_rn ro d 150 (82, [v0, v1, some (.int x1), v3], st, SH, σ) = ma_rn ro d 150 (83, [v0, v1, some (.int x1), v3], .int x1 :: st, SH, σ)) ∧
  (∀ (v0 : Option Value) (v1 : Option Value) (v2 : Option Value) (v3 : Option Value) (x1 : Int32) (k : Nat) (a3 : Nat) (st : List Value) (σ : ma_H) (hk : k < hk_len a3), ma_rn ro d 150 (83, [v0, v1, v2, v3], .int x1 :: .int (nI k) :: .ref a3 :: st, SH, σ) = ma_rn ro d 150 (84, [v0, v1, v2, v3], st, SH, (ma_up σ a3 k x1))) ∧
  (∀ (v1 : Option Value) (v2 : Option Value) (v3 : Option Value) (a1 : Nat) (st : List Value) (σ : ma_H), ma_rn ro d 150 (84, [some (.ref a1), v1, v2, v3], st, SH, σ) = ma_rn ro d 150 (85, [some (.ref a1), v1, v2, v3], .ref a1 :: st, SH, σ)) ∧
  (∀ (v0 : Option Value) (v1 : Option Value) (v2 : Option Value) (v3 : Option Value) (a1 : Nat) (st : List Value) (σ : ma_H) (hc : hk_cls a1 = 8), ma_rn ro d 150 (85, [v0, v1, v2, v3], .ref a1 :: st, SH, σ) = ma_rn ro d 150 (88, [v0, v1, v2, v3], .ref (91) :: st, SH, σ)) ∧
  (∀ (v0 : Option Value) (v1 : Option Value) (v2 : Option Value) (v3 : Option Value) (st : List Value) (σ : ma_H), ma_rn ro d 150 (88, [v0, v1, v2, v3], st, SH, σ) = ma_rn ro d 150 (90, [v0, v1, v2, v3], .int (nI 86) :: st, SH, σ)) ∧
  (∀ (v1 : Option Value) (v2 : Option Value) (v3 : Option Value) (a1 : Nat) (st : List Value) (σ : ma_H), ma_rn ro d 150 (90, [some (.ref a1), v1, v2, v3], st, SH, σ) = ma_rn ro d 150 (91, [some (.ref a1), v1, v2, v3], .ref a1 :: st, SH, σ)) ∧
  (∀ (v0 : Option Value) (v1 : Option Value) (v2 : Option Value) (v3 : Option Value) (a1 : Nat) (st : List Value) (σ : ma_H) (hc : hk_cls a1 = 8), ma_rn ro d 150 (91, [v0, v1, v2, v3], .ref a1 :: st, SH, σ) = ma_rn ro d 150 (94, [v0, v1, v2, v3], .ref (91) :: st, SH, σ)) ∧
  (∀ (v0 : Option Value) (v1 : Option Value) (v2 : Option Value) (v3 : Option Value) (st : List Value) (σ : ma_H), ma_rn ro d 150 (94, [v0, v1, v2, v3], st, SH, σ) = ma_rn ro d 150 (96, [v0, v1, v2, v3], .int (nI 35) :: st, SH, σ)) ∧
  (∀ (v0 : Option Value) (v1 : Option Value) (v2 : Option Value) (v3 : Option Value) (k : Nat) (a2 : Nat) (st : List Value) (σ : ma_H) (hk : k < hk_len a2), ma_rn ro d 150 (96, [v0, v1, v2, v3], .int (nI k) :: .ref a2 :: st, SH, σ) = ma_rn ro d 150 (97, [v0, v1, v2, v3], .int (σ a2 k) :: st, SH, σ)) ∧
  (∀ (v0 : Option Value) (v1 : Option Value) (v2 : Option Value) (v3 : Option Value) (x1 : Int32) (x2 : Int32) (st : List Value) (σ : ma_H), ma_rn ro d 150 (97, [v0, v1, v2, v3], .int x1 :: .int x2 :: st, SH, σ) = ma_rn ro d 150 (98, [v0, v1, v2, v3], .int (x2 + x1) :: st, SH, σ)) ∧
  (∀ (v0 : Option Value) (v1 : Option Value) (v2 : Option Value) (x1 : Int32) (st : List Value) (σ : ma_H), ma_rn ro d 150 (98, [v0, v1, v2, some (.int x1)], st, SH, σ) = ma_rn ro d 150 (99, [v0, v1, v2, some (.int x1)], .int x1 :: st, SH, σ)) ∧
  (∀ (v0 : Option Value) (v1 : Option Value) (v2 : Option Value) (v3 : Option Value) (x1 : Int32) (st : List Value) (σ : ma_H), ma_rn ro d 150 (99, [v0, v1, v2, v3], .int x1 :: st, SH, σ) = if x1 = nI 0 then ma_rn ro d 150 (106, [v0, v1, v2, v3], st, SH, σ) else ma_rn ro d 150 (102, [v0, v1, v2, v3], st, SH, σ)) ∧
  (∀ (v0 : Option Value) (v1 : Option Value) (v2 : Option Value) (v3 : Option Value) (st : List Value) (σ : ma_H), ma_rn ro d 150 (102, [v0, v1, v2, v3], st, SH, σ) = ma_rn ro d 150 (103, [v0, v1, v2, v3], .int (nI 1) :: st, SH, σ)) ∧
  (∀ (v0 : Option Value) (v1 : Option Value) (v2 : Option Value) (v3 : Option Value) (st : List Value) (σ : ma_H), ma_rn ro d 150 (103, [v0, v1, v2, v3], st, SH, σ) = ma_rn ro d 150 (107, [v0, v1, v2, v3], st, SH, σ)) ∧
  (∀ (v0 : Option Value) (v1 : Option Value) (v2 : Option Value) (v3 : Option Value) (st : List Value) (σ : ma_H), ma_rn ro d 150 (106, [v0, v1, v2, v3], st, SH, σ) = ma_rn ro d 150 (107, [v0, v1, v2, v3], .int (nI 0) :: st, SH, σ)) ∧
  (∀ (v0 : Option Value) (v1 : Option Value) (v2 : Option Value) (v3 : Option Value) (x1 : Int32) (k : Nat) (a3 : Nat) (st : List Value) (σ : ma_H) (hk : k < hk_len a3), ma_rn ro d 150 (107, [v0, v1, v2, v3], .int x1 :: .int (nI k) :: .ref a3 :: st, SH, σ) = ma_rn ro d 150 (108, [v0, v1, v2, v3], st, SH, (ma_up σ a3 k x1))) ∧
  (∀ (v1 : Option Value) (v2 : Option Value) (v3 : Option Value) (a1 : Nat) (st : List Value) (σ : ma_H), ma_rn ro d 150 (108, [some (.ref a1), v1, v2, v3], st, SH, σ) = ma_rn ro d 150 (109, [some (.ref a1), v1, v2, v3], .ref a1 :: st, SH, σ)) ∧
  (∀ (v0 : Option Value) (v1 : Option Value) (v2 : Option Value) (v3 : Option Value) (a1 : Nat) (st : List Value) (σ : ma_H) (hc : hk_cls a1 = 8), ma_rn ro d 150 (109, [v0, v1, v2, v3], .ref a1 :: st, SH, σ) = ma_rn ro d 150 (112, [v0, v1, v2, v3], .ref (91) :: st, SH, σ)) ∧
  (∀ (v0 : Option Value) (v1 : Option Value) (v2 : Option Value) (v3 : Option Value) (st : List Value) (σ : ma_H), ma_rn ro d 150 (112, [v0, v1, v2, v3], st, SH, σ) = ma_rn ro d 150 (114, [v0, v1, v2, v3], .int (nI 35) :: st, SH, σ)) ∧
  (∀ (v0 : Option Value) (v1 : Option Value) (v2 : Option Value) (v3 : Option Value) (x1 : Int32) (a2 : Nat) (st : List Value) (σ : ma_H), ma_rn ro d 150 (114, [v0, v1, v2, v3], .int x1 :: .ref a2 :: st, SH, σ) = ma_rn ro d 150 (115, [v0, v1, v2, v3], .int x1 :: .ref a2 :: .int x1 :: .ref a2 :: st, SH, σ)) ∧
  (∀ (v0 : Option Value) (v1 : Option Value) (v2 : Option Value) (v3 : Option Value) (k : Nat) (a2 : Nat) (st : List Value) (σ : ma_H) (hk : k < hk_len a2), ma_rn ro d 150 (115, [v0, v1, v2, v3], .int (nI k) :: .ref a2 :: st, SH, σ) = ma_rn ro d 150 (116, [v0, v1, v2, v3], .int (σ a2 k) :: st, SH, σ)) ∧
  (∀ (v0 : Option Value) (v1 : Option Value) (v2 : Option Value) (v3 : Option Value) (st : List Value) (σ : ma_H), ma_rn ro d 150 (116, [v0, v1, v2, v3], st, SH, σ) = ma_rn ro d 150 (117, [v0, v1, v2, v3], .int (nI 1) :: st, SH, σ)) ∧
  (∀ (v0 : Option Value) (v1 : Option Value) (v2 : Option Value) (v3 : Option Value) (x1 : Int32) (x2 : Int32) (st : List Value) (σ : ma_H), ma_rn ro d 150 (117, [v0, v1, v2, v3], .int x1 :: .int x2 :: st, SH, σ) = ma_rn ro d 150 (118, [v0, v1, v2, v3], .int (x2 + x1) :: st, SH, σ)) ∧
  (∀ (v0 : Option Value) (v1 : Option Value) (v2 : Option Value) (v3 : Option Value) (x1 : Int32) (k : Nat) (a3 : Nat) (st : List Value) (σ : ma_H) (hk : k < hk_len a3), ma_rn ro d 150 (118, [v0, v1, v2, v3], .int x1 :: .int (nI k) :: .ref a3 :: st, SH, σ) = ma_rn ro d 150 (119, [v0, v1, v2, v3], st, SH, (ma_up σ a3 k x1))) ∧
  (∀ (v1 : Option Value) (v2 : Option Value) (v3 : Option Value) (a1 : Nat) (st : List Value) (σ : ma_H), ma_rn ro d 150 (119, [some (.ref a1), v1, v2, v3], st, SH, σ) = ma_rn ro d 150 (120, [some (.ref a1), v1, v2, v3], .ref a1 :: st, SH, σ)) ∧
  (∀ (v0 : Option Value) (v1 : Option Value) (v2 : Option Value) (v3 : Option Value) (a1 : Nat) (st : List Value) (σ : ma_H) (hc : hk_cls a1 = 8), ma_rn ro d 150 (120, [v0, v1, v2, v3], .ref a1 :: st, SH, σ) = ma_rn ro d 150 (123, [v0, v1, v2, v3], .ref (91) :: st, SH, σ)) ∧
  (∀ (v0 : Option Value) (v1 : Option Value) (v2 : Option Value) (v3 : Option Value) (st : List Value) (σ : ma_H), ma_rn ro d 150 (123, [v0, v1, v2, v3], st, SH, σ) = ma_rn ro d 150 (125, [v0, v1, v2, v3], .int (nI 35) :: st, SH, σ)) ∧
  (∀ (v0 : Option Value) (v1 : Option Value) (v2 : Option Value) (v3 : Option Value) (k : Nat) (a2 : Nat) (st : List Value) (σ : ma_H) (hk : k < hk_len a2), ma_rn ro d 150 (125, [v0, v1, v2, v3], .int (nI k) :: .ref a2 :: st, SH, σ) = ma_rn ro d 150 (126, [v0, v1, v2, v3], .int (σ a2 k) :: st, SH, σ)) ∧
  (∀ (v0 : Option Value) (v1 : Option Value) (v2 : Option Value) (v3 : Option Value) (x1 : Int32) (σ : ma_H), ma_rn ro d 150 (126, [v0, v1, v2, v3], [.int x1], SH, σ) = some (some (.int x1), SH, σ)) := ⟨fun v0 v2 v3 x1 st σ => q_go e150_0 rfl rfl,
  fun v0 v1 v2 v3 st σ => q_iconst e150_1 (by decide),
  fun v0 v1 v2 v3 x1 x2 st σ => (q_cmp e150_2 rfl).trans q_ne,
  fun v1 v2 v3 a1 st σ => q_go e150_5 rfl rfl,
  fun v0 v1 v2 v3 a1 st σ hc => q_getA e150_6 o_150 f_8_9 (by decide) hc,
  fun v0 v1 v2 v3 st σ => q_bipush e150_9 (by decide),
  fun v0 v1 v2 v3 st σ => q_iconst e150_11 (by decide),
  fun v0 v1 v2 v3 x1 k a3 st σ hk => q_iast e150_12 hk,
  fun v0 v1 v2 v3 st σ => q_iconst e150_13 (by decide),
  fun v0 v1 v2 v3 x1 σ => q_iret e150_14 r_150,
  fun v1 v2 v3 a1 st σ => q_go e150_15 rfl rfl,
  fun v0 v2 v3 x1 st σ => q_go e150_16 rfl rfl,
  fun v0 v1 v2 v3 x1 a0 σ hc => q_invV (as := [.int x1]) (rest := []) e150_17 o_150 bn_8_129 c_8_129 m_103 (by decide) rfl rfl (Nat.le_of_ble_eq_true rfl) (Nat.le_of_ble_eq_true rfl) hc,
  fun v0 v1 v2 v3 x1 st σ => (q_if e150_20 rfl).trans q_ne,
  fun v0 v1 v2 v3 st σ => q_iconst e150_23 (by decide),
  fun v0 v1 v2 v3 x1 σ => q_iret e150_24 r_150,
  fun v0 v1 v3 x1 st σ => q_go e150_25 rfl rfl,
  fun v0 v1 v2 v3 st σ => q_iconst e150_26 (by decide),
  fun v0 v1 v2 v3 st σ => q_bipush e150_27 (by decide),
  fun v0 v1 v2 v3 x1 x2 x3 σ => q_invS (as := [.int x1, .int x2, .int x3]) (rest := []) e150_29 o_150 bn_8_35 c_8_35 ⟨m_102.1, m_102.2.1, m_102.2.2.1⟩ rfl rfl (Nat.le_of_ble_eq_true rfl) (Nat.le_of_ble_eq_true rfl),
  fun v0 v1 v2 v3 x1 st σ => (q_if e150_32 rfl).trans q_ne,
  fun v0 v1 v2 v3 st σ => q_bipush e150_35 (by decide),
  fun v0 v1 v2 v3 x1 σ => q_iret e150_37 r_150,
  fun v1 v2 v3 a1 st σ => q_go e150_38 rfl rfl,
  fun v0 v1 v2 v3 a1 st σ hc => q_getA e150_39 o_150 f_8_9 (by decide) hc,
  fun v0 v1 v2 v3 st σ => q_bipush e150_42 (by decide),
  fun v0 v1 v2 v3 k a2 st σ hk => q_iald e150_44 hk,
  fun v0 v1 v2 v3 st σ => q_iconst e150_45 (by decide),
  fun v0 v1 v2 v3 x1 x2 st σ => (q_cmp e150_46 rfl).trans q_ne,
  fun v0 v1 v2 v3 st σ => q_bipush e150_49 (by decide),
  fun v0 v1 v2 v3 x1 σ => q_iret e150_51 r_150,
  fun v1 v2 v3 a1 st σ => q_go e150_52 rfl rfl,
  fun v0 v1 v2 v3 a1 st σ hc => q_getA e150_53 o_150 f_8_9 (by decide) hc,
  fun v0 v1 v2 v3 st σ => q_bipush e150_56 (by decide),
  fun v1 v2 v3 a1 st σ => q_go e150_58 rfl rfl,
  fun v0 v1 v2 v3 a1 st σ hc => q_getA e150_59 o_150 f_8_9 (by decide) hc,
  fun v0 v1 v2 v3 st σ => q_bipush e150_62 (by decide),
  fun v0 v1 v2 v3 k a2 st σ hk => q_iald e150_64 hk,
  fun v0 v1 v2 v3 x1 x2 st σ => q_go e150_65 rfl rfl,
  fun v0 v2 v3 x1 st σ => q_go e150_66 rfl rfl,
  fun v0 v1 v2 v3 x1 k a3 st σ hk => q_iast e150_67 hk,
  fun v1 v2 v3 a1 st σ => q_go e150_68 rfl rfl,
  fun v0 v1 v2 v3 a1 st σ hc => q_getA e150_69 o_150 f_8_9 (by decide) hc,
  fun v0 v1 v2 v3 st σ => q_bipush e150_72 (by decide),
  fun v1 v2 v3 a1 st σ => q_go e150_74 rfl rfl,
  fun v0 v1 v2 v3 a1 st σ hc => q_getA e150_75 o_150 f_8_9 (by decide) hc,
  fun v0 v1 v2 v3 st σ => q_bipush e150_78 (by decide),
  fun v0 v1 v2 v3 k a2 st σ hk => q_iald e150_80 hk,
  fun v0 v1 v2 v3 x1 x2 st σ => q_go e150_81 rfl rfl,
  fun v0 v1 v3 x1 st σ => q_go e150_82 rfl rfl,
  fun v0 v1 v2 v3 x1 k a3 st σ hk => q_iast e150_83 hk,
  fun v1 v2 v3 a1 st σ => q_go e150_84 rfl rfl,
  fun v0 v1 v2 v3 a1 st σ hc => q_getA e150_85 o_150 f_8_9 (by decide) hc,
  fun v0 v1 v2 v3 st σ => q_bipush e150_88 (by decide),
  fun v1 v2 v3 a1 st σ => q_go e150_90 rfl rfl,
  fun v0 v1 v2 v3 a1 st σ hc => q_getA e150_91 o_150 f_8_9 (by decide) hc,
  fun v0 v1 v2 v3 st σ => q_bipush e150_94 (by decide),
  fun v0 v1 v2 v3 k a2 st σ hk => q_iald e150_96 hk,
  fun v0 v1 v2 v3 x1 x2 st σ => q_go e150_97 rfl rfl,
  fun v0 v1 v2 x1 st σ => q_go e150_98 rfl rfl,
  fun v0 v1 v2 v3 x1 st σ => (q_if e150_99 rfl).trans q_eq,
  fun v0 v1 v2 v3 st σ => q_iconst e150_102 (by decide),
  fun v0 v1 v2 v3 st σ => q_goto e150_103 rfl,
  fun v0 v1 v2 v3 st σ => q_iconst e150_106 (by decide),
  fun v0 v1 v2 v3 x1 k a3 st σ hk => q_iast e150_107 hk,
  fun v1 v2 v3 a1 st σ => q_go e150_108 rfl rfl,
  fun v0 v1 v2 v3 a1 st σ hc => q_getA e150_109 o_150 f_8_9 (by decide) hc,
  fun v0 v1 v2 v3 st σ => q_bipush e150_112 (by decide),
  fun v0 v1 v2 v3 x1 a2 st σ => q_go e150_114 rfl rfl,
  fun v0 v1 v2 v3 k a2 st σ hk => q_iald e150_115 hk,
  fun v0 v1 v2 v3 st σ => q_iconst e150_116 (by decide),
  fun v0 v1 v2 v3 x1 x2 st σ => q_go e150_117 rfl rfl,
  fun v0 v1 v2 v3 x1 k a3 st σ hk => q_iast e150_118 hk,
  fun v1 v2 v3 a1 st σ => q_go e150_119 rfl rfl,
  fun v0 v1 v2 v3 a1 st σ hc => q_getA e150_120 o_150 f_8_9 (by decide) hc,
  fun v0 v1 v2 v3 st σ => q_bipush e150_123 (by decide),
  fun v0 v1 v2 v3 k a2 st σ hk => q_iald e150_125 hk,
  fun v0 v1 v2 v3 x1 σ => q_iret e150_126 r_150⟩
theorem E150 {ro : ma_RO} {d : Nat} (a0 : Nat) (x1 : Int32) (x2 : Int32) (x3 : Int32) (sh : List ma_Sh) (σ : ma_H) : ma_ev ro d 150 [.ref a0, .int x1, .int x2, .int x3] sh σ = ma_rn ro d 150 (0, [some (.ref a0), some (.int x1), some (.int x2), some (.int x3)], [], sh, σ) := q_ent x_150 rfl
theorem e151_0 : decode (ma_cd 151) 0 = .ok (.aload_n 0, 1) := (congrArg (fun b => decode b 0) cd_151).trans dX8_areAsSeen_0
theorem e151_1 : decode (ma_cd 151) 1 = .ok (.getfield 9, 3) := (congrArg (fun b => decode b 1) cd_151).trans dX8_areAsSeen_1
theorem e151_4 : decode (ma_cd 151) 4 = .ok (.iload_n 1, 1) := (congrArg (fun b => decode b 4) cd_151).trans dX8_areAsSeen_4
theorem e151_5 : decode (ma_cd 151) 5 = .ok (.iaload, 1) := (congrArg (fun b => decode b 5) cd_151).trans dX8_areAsSeen_5
theorem e151_6 : decode (ma_cd 151) 6 = .ok (.istore_n 3, 1) := (congrArg (fun b => decode b 6) cd_151).trans dX8_areAsSeen_6
theorem e151_7 : decode (ma_cd 151) 7 = .ok (.iconst 1, 1) := (congrArg (fun b => decode b 7) cd_151).trans dX8_areAsSeen_7
theorem e151_8 : decode (ma_cd 151) 8 = .ok (.istore 4, 2) := (congrArg (fun b => decode b 8) cd_151).trans dX8_areAsSeen_8
theorem e151_10 : decode (ma_cd 151) 10 = .ok (.iconst 0, 1) := (congrArg (fun b => decode b 10) cd_151).trans dX8_areAsSeen_10
theorem e151_11 : decode (ma_cd 151) 11 = .ok (.istore 5, 2) := (congrArg (fun b => decode b 11) cd_151).trans dX8_areAsSeen_11
theorem e151_13 : decode (ma_cd 151) 13 = .ok (.iload 5, 2) := (congrArg (fun b => decode b 13) cd_151).trans dX8_areAsSeen_13
theorem e151_15 : decode (ma_cd 151) 15 = .ok (.aload_n 0, 1) := (congrArg (fun b => decode b 15) cd_151).trans dX8_areAsSeen_15
theorem e151_16 : decode (ma_cd 151) 16 = .ok (.getfield 9, 3) := (congrArg (fun b => decode b 16) cd_151).trans dX8_areAsSeen_16
theorem e151_19 : decode (ma_cd 151) 19 = .ok (.bipush 35, 2) := (congrArg (fun b => decode b 19) cd_151).trans dX8_areAsSeen_19
theorem e151_21 : decode (ma_cd 151) 21 = .ok (.iaload, 1) := (congrArg (fun b => decode b 21) cd_151).trans dX8_areAsSeen_21
theorem e151_22 : decode (ma_cd 151) 22 = .ok (.if_icmp .ge 97, 3) := (congrArg (fun b => decode b 22) cd_151).trans dX8_areAsSeen_22
theorem e151_25 : decode (ma_cd 151) 25 = .ok (.iload 4, 2) := (congrArg (fun b => decode b 25) cd_151).trans dX8_areAsSeen_25
theorem e151_27 : decode (ma_cd 151) 27 = .ok (.ifCond .eq 92, 3) := (congrArg (fun b => decode b 27) cd_151).trans dX8_areAsSeen_27
theorem e151_30 : decode (ma_cd 151) 30 = .ok (.aload_n 0, 1) := (congrArg (fun b => decode b 30) cd_151).trans dX8_areAsSeen_30
theorem e151_31 : decode (ma_cd 151) 31 = .ok (.invokevirtual 159, 3) := (congrArg (fun b => decode b 31) cd_151).trans dX8_areAsSeen_31
theorem e151_34 : decode (ma_cd 151) 34 = .ok (.aload_n 0, 1) := (congrArg (fun b => decode b 34) cd_151).trans dX8_areAsSeen_34
theorem e151_35 : decode (ma_cd 151) 35 = .ok (.getfield 9, 3) := (congrArg (fun b => decode b 35) cd_151).trans dX8_areAsSeen_35
theorem e151_38 : decode (ma_cd 151) 38 = .ok (.iload_n 1, 1) := (congrArg (fun b => decode b 38) cd_151).trans dX8_areAsSeen_38
theorem e151_39 : decode (ma_cd 151) 39 = .ok (.iload_n 2, 1) := (congrArg (fun b => decode b 39) cd_151).trans dX8_areAsSeen_39
theorem e151_40 : decode (ma_cd 151) 40 = .ok (.iastore, 1) := (congrArg (fun b => decode b 40) cd_151).trans dX8_areAsSeen_40
theorem e151_41 : decode (ma_cd 151) 41 = .ok (.aload_n 0, 1) := (congrArg (fun b => decode b 41) cd_151).trans dX8_areAsSeen_41
theorem e151_42 : decode (ma_cd 151) 42 = .ok (.aload_n 0, 1) := (congrArg (fun b => decode b 42) cd_151).trans dX8_areAsSeen_42
theorem e151_43 : decode (ma_cd 151) 43 = .ok (.getfield 9, 3) := (congrArg (fun b => decode b 43) cd_151).trans dX8_areAsSeen_43
theorem e151_46 : decode (ma_cd 151) 46 = .ok (.bipush 76, 2) := (congrArg (fun b => decode b 46) cd_151).trans dX8_areAsSeen_46
theorem e151_48 : decode (ma_cd 151) 48 = .ok (.iload 5, 2) := (congrArg (fun b => decode b 48) cd_151).trans dX8_areAsSeen_48
theorem e151_50 : decode (ma_cd 151) 50 = .ok (.iadd, 1) := (congrArg (fun b => decode b 50) cd_151).trans dX8_areAsSeen_50
theorem e151_51 : decode (ma_cd 151) 51 = .ok (.iaload, 1) := (congrArg (fun b => decode b 51) cd_151).trans dX8_areAsSeen_51
theorem e151_52 : decode (ma_cd 151) 52 = .ok (.aload_n 0, 1) := (congrArg (fun b => decode b 52) cd_151).trans dX8_areAsSeen_52
theorem e151_53 : decode (ma_cd 151) 53 = .ok (.getfield 9, 3) := (congrArg (fun b => decode b 53) cd_151).trans dX8_areAsSeen_53
theorem e151_56 : decode (ma_cd 151) 56 = .ok (.bipush 81, 2) := (congrArg (fun b => decode b 56) cd_151).trans dX8_areAsSeen_56
theorem e151_58 : decode (ma_cd 151) 58 = .ok (.iload 5, 2) := (congrArg (fun b => decode b 58) cd_151).trans dX8_areAsSeen_58
theorem e151_60 : decode (ma_cd 151) 60 = .ok (.iadd, 1) := (congrArg (fun b => decode b 60) cd_151).trans dX8_areAsSeen_60
theorem e151_61 : decode (ma_cd 151) 61 = .ok (.iaload, 1) := (congrArg (fun b => decode b 61) cd_151).trans dX8_areAsSeen_61
theorem e151_62 : decode (ma_cd 151) 62 = .ok (.invokevirtual 174, 3) := (congrArg (fun b => decode b 62) cd_151).trans dX8_areAsSeen_62
theorem e151_65 : decode (ma_cd 151) 65 = .ok (.aload_n 0, 1) := (congrArg (fun b => decode b 65) cd_151).trans dX8_areAsSeen_65
theorem e151_66 : decode (ma_cd 151) 66 = .ok (.getfield 9, 3) := (congrArg (fun b => decode b 66) cd_151).trans dX8_areAsSeen_66
theorem e151_69 : decode (ma_cd 151) 69 = .ok (.iconst 3, 1) := (congrArg (fun b => decode b 69) cd_151).trans dX8_areAsSeen_69
theorem e151_70 : decode (ma_cd 151) 70 = .ok (.aload_n 0, 1) := (congrArg (fun b => decode b 70) cd_151).trans dX8_areAsSeen_70
theorem e151_71 : decode (ma_cd 151) 71 = .ok (.getfield 9, 3) := (congrArg (fun b => decode b 71) cd_151).trans dX8_areAsSeen_71
theorem e151_74 : decode (ma_cd 151) 74 = .ok (.bipush 76, 2) := (congrArg (fun b => decode b 74) cd_151).trans dX8_areAsSeen_74
theorem e151_76 : decode (ma_cd 151) 76 = .ok (.iload 5, 2) := (congrArg (fun b => decode b 76) cd_151).trans dX8_areAsSeen_76
theorem e151_78 : decode (ma_cd 151) 78 = .ok (.iadd, 1) := (congrArg (fun b => decode b 78) cd_151).trans dX8_areAsSeen_78
theorem e151_79 : decode (ma_cd 151) 79 = .ok (.iaload, 1) := (congrArg (fun b => decode b 79) cd_151).trans dX8_areAsSeen_79
theorem e151_80 : decode (ma_cd 151) 80 = .ok (.iadd, 1) := (congrArg (fun b => decode b 80) cd_151).trans dX8_areAsSeen_80
theorem e151_81 : decode (ma_cd 151) 81 = .ok (.iaload, 1) := (congrArg (fun b => decode b 81) cd_151).trans dX8_areAsSeen_81
theorem e151_82 : decode (ma_cd 151) 82 = .ok (.aload_n 0, 1) := (congrArg (fun b => decode b 82) cd_151).trans dX8_areAsSeen_82
theorem e151_83 : decode (ma_cd 151) 83 = .ok (.getfield 9, 3) := (congrArg (fun b => decode b 83) cd_151).trans dX8_areAsSeen_83
theorem e151_86 : decode (ma_cd 151) 86 = .ok (.bipush 86, 2) := (congrArg (fun b => decode b 86) cd_151).trans dX8_areAsSeen_86
theorem e151_88 : decode (ma_cd 151) 88 = .ok (.iload 5, 2) := (congrArg (fun b => decode b 88) cd_151).trans dX8_areAsSeen_88
theorem e151_90 : decode (ma_cd 151) 90 = .ok (.iadd, 1) := (congrArg (fun b => decode b 90) cd_151).trans dX8_areAsSeen_90
theorem e151_91 : decode (ma_cd 151) 91 = .ok (.iaload, 1) := (congrArg (fun b => decode b 91) cd_151).trans dX8_areAsSeen_91
theorem e151_92 : decode (ma_cd 151) 92 = .ok (.if_icmp .ne 7, 3) := (congrArg (fun b => decode b 92) cd_151).trans dX8_areAsSeen_92
theorem e151_95 : decode (ma_cd 151) 95 = .ok (.iconst 1, 1) := (congrArg (fun b => decode b 95) cd_151).trans dX8_areAsSeen_95
theorem e151_96 : decode (ma_cd 151) 96 = .ok (.goto 4, 3) := (congrArg (fun b => decode b 96) cd_151).trans dX8_areAsSeen_96
theorem e151_99 : decode (ma_cd 151) 99 = .ok (.iconst 0, 1) := (congrArg (fun b => decode b 99) cd_151).trans dX8_areAsSeen_99
theorem e151_100 : decode (ma_cd 151) 100 = .ok (.istore 4, 2) := (congrArg (fun b => decode b 100) cd_151).trans dX8_areAsSeen_100
theorem e151_102 : decode (ma_cd 151) 102 = .ok (.aload_n 0, 1) := (congrArg (fun b => decode b 102) cd_151).trans dX8_areAsSeen_102
theorem e151_103 : decode (ma_cd 151) 103 = .ok (.invokevirtual 165, 3) := (congrArg (fun b => decode b 103) cd_151).trans dX8_areAsSeen_103
theorem e151_106 : decode (ma_cd 151) 106 = .ok (.aload_n 0, 1) := (congrArg (fun b => decode b 106) cd_151).trans dX8_areAsSeen_106
theorem e151_107 : decode (ma_cd 151) 107 = .ok (.getfield 9, 3) := (congrArg (fun b => decode b 107) cd_151).trans dX8_areAsSeen_107
theorem e151_110 : decode (ma_cd 151) 110 = .ok (.iload_n 1, 1) := (congrArg (fun b => decode b 110) cd_151).trans dX8_areAsSeen_110
theorem e151_111 : decode (ma_cd 151) 111 = .ok (.iload_n 3, 1) := (congrArg (fun b => decode b 111) cd_151).trans dX8_areAsSeen_111
theorem e151_112 : decode (ma_cd 151) 112 = .ok (.iastore, 1) := (congrArg (fun b => decode b 112) cd_151).trans dX8_areAsSeen_112
theorem e151_113 : decode (ma_cd 151) 113 = .ok (.iinc 5 1, 3) := (congrArg (fun b => decode b 113) cd_151).trans dX8_areAsSeen_113
theorem e151_116 : decode (ma_cd 151) 116 = .ok (.goto (-103), 3) := (congrArg (fun b => decode b 116) cd_151).trans dX8_areAsSeen_116
theorem e151_119 : decode (ma_cd 151) 119 = .ok (.iload 4, 2) := (congrArg (fun b => decode b 119) cd_151).trans dX8_areAsSeen_119
theorem e151_121 : decode (ma_cd 151) 121 = .ok (.ireturn, 1) := (congrArg (fun b => decode b 121) cd_151).trans dX8_areAsSeen_121
theorem Sh151_13 {ro : ma_RO} {d : Nat} : (∀ (v0 : Option Value) (v1 : Option Value) (v2 : Option Value) (v3 : Option Value) (v4 : Option Value) (x1 : Int32) (st : List Value) (σ : ma_H), ma_rn ro d 151 (13, [v0, v1, v2, v3, v4, some (.int x1)], st, SH, σ) = ma_rn ro d 151 (15, [v0, v1, v2, v3, v4, some (.int x1)], .int x1 :: st, SH, σ)) := fun v0 v1 v2 v3 v4 x1 st σ => q_go e151_13 rfl rfl
theorem S151 {ro : ma_RO} {d : Nat} : (∀ (v1 : Option Value) (v2 : Option Value) (v3 : Option Value) (v4 : Option Value) (v5 : Option Value) (a1 : Nat) (st : List Value) (σ : ma_H), ma_rn ro d 151 (0, [some (.ref a1), v1, v2, v3, v4, v5], st, SH, σ) = ma_rn ro d 151 (1, [some (.ref a1), v1, v2, v3, v4, v5], .ref a1 :: st, SH, σ)) ∧
  (∀ (v0 : Option Value) (v1 : Option Value) (v2 : Option Value) (v3 : Option Value) (v4 : Option Value) (v5 : Option Value) (a1 : Nat) (st : List Value) (σ : ma_H) (hc : hk_cls a1 = 8), ma_rn ro d 151 (1, [v0, v1, v2, v3, v4, v5], .ref a1 :: st, SH, σ) = ma_rn ro d 151 (4, [v0, v1, v2, v3, v4, v5], .ref (91) :: st, SH, σ)) ∧
  (∀ (v0 : Option Value) (v2 : Option Value) (v3 : Option Value) (v4 : Option Value) (v5 : Option Value) (x1 : Int32) (st : List Value) (σ : ma_H), ma_rn ro d 151 (4, [v0, some (.int x1), v2, v3, v4, v5], st, SH, σ) = ma_rn ro d 151 (5, [v0, some (.int x1), v2, v3, v4, v5], .int x1 :: st, SH, σ)) ∧
  (∀ (v0 : Option Value) (v1 : Option Value) (v2 : Option Value) (v3 : Option Value) (v4 : Option Value) (v5 : Option Value) (k : Nat) (a2 : Nat) (st : List Value) (σ : ma_H) (hk : k < hk_len a2), ma_rn ro d 151 (5, [v0, v1, v2, v3, v4, v5], .int (nI k) :: .ref a2 :: st, SH, σ) = ma_rn ro d 151 (6, [v0, v1, v2, v3, v4, v5], .int (σ a2 k) :: st, SH, σ)) ∧
  (∀ (v0 : Option Value) (v1 : Option Value) (v3 : Option Value) (v4 : Option Value) (v5 : Option Value) (x9 : Int32) (x1 : Int32) (st : List Value) (σ : ma_H), ma_rn ro d 151 (6, [v0, v1, some (.int x9), v3, v4, v5], .int x1 :: st, SH, σ) = ma_rn ro d 151 (7, [v0, v1, some (.int x9), some (.int x1), v4, v5], st, SH, σ)) ∧
  (∀ (v0 : Option Value) (v1 : Option Value) (v2 : Option Value) (v3 : Option Value) (v4 : Option Value) (v5 : Option Value) (st : List Value) (σ : ma_H), ma_rn ro d 151 (7, [v0, v1, v2, v3, v4, v5], st, SH, σ) = ma_rn ro d 151 (8, [v0, v1, v2, v3, v4, v5], .int (nI 1) :: st, SH, σ)) ∧
  (∀ (v0 : Option Value) (v1 : Option Value) (v2 : Option Value) (v4 : Option Value) (v5 : Option Value) (x9 : Int32) (x1 : Int32) (st : List Value) (σ : ma_H), ma_rn ro d 151 (8, [v0, v1, v2, some (.int x9), v4, v5], .int x1 :: st, SH, σ) = ma_rn ro d 151 (10, [v0, v1, v2, some (.int x9), some (.int x1), v5], st, SH, σ)) ∧
  (∀ (v0 : Option Value) (v1 : Option Value) (v2 : Option Value) (v3 : Option Value) (v4 : Option Value) (v5 : Option Value) (st : List Value) (σ : ma_H), ma_rn ro d 151 (10, [v0, v1, v2, v3, v4, v5], st, SH, σ) = ma_rn ro d 151 (11, [v0, v1, v2, v3, v4, v5], .int (nI 0) :: st, SH, σ)) ∧
  (∀ (v0 : Option Value) (v1 : Option Value) (v2 : Option Value) (v3 : Option Value) (v5 : Option Value) (x9 : Int32) (x1 : Int32) (st : List Value) (σ : ma_H), ma_rn ro d 151 (11, [v0, v1, v2, v3, some (.int x9), v5], .int x1 :: st, SH, σ) = ma_rn ro d 151 (13, [v0, v1, v2, v3, some (.int x9), some (.int x1)], st, SH, σ)) ∧
  (∀ (v1 : Option Value) (v2 : Option Value) (v3 : Option Value) (v4 : Option Value) (v5 : Option Value) (a1 : Nat) (st : List Value) (σ : ma_H), ma_rn ro d 151 (15, [some (.ref a1), v1, v2, v3, v4, v5], st, SH, σ) = ma_rn ro d 151 (16, [some (.ref a1), v1, v2, v3, v4, v5], .ref a1 :: st, SH, σ)) ∧
  (∀ (v0 : Option Value) (v1 : Option Value) (v2 : Option Value) (v3 : Option Value) (v4 : Option Value) (v5 : Option Value) (a1 : Nat) (st : List Value) (σ : ma_H) (hc : hk_cls a1 = 8), ma_rn ro d 151 (16, [v0, v1, v2, v3, v4, v5], .ref a1 :: st, SH, σ) = ma_rn ro d 151 (19, [v0, v1, v2, v3, v4, v5], .ref (91) :: st, SH, σ)) ∧
  (∀ (v0 : Option Value) (v1 : Option Value) (v2 : Option Value) (v3 : Option Value) (v4 : Option Value) (v5 : Option Value) (st : List Value) (σ : ma_H), ma_rn ro d 151 (19, [v0, v1, v2, v3, v4, v5], st, SH, σ) = ma_rn ro d 151 (21, [v0, v1, v2, v3, v4, v5], .int (nI 35) :: st, SH, σ)) ∧
  (∀ (v0 : Option Value) (v1 : Option Value) (v2 : Option Value) (v3 : Option Value) (v4 : Option Value) (v5 : Option Value) (k : Nat) (a2 : Nat) (st : List Value) (σ : ma_H) (hk : k < hk_len a2), ma_rn ro d 151 (21, [v0, v1, v2, v3, v4, v5], .int (nI k) :: .ref a2 :: st, SH, σ) = ma_rn ro d 151 (22, [v0, v1, v2, v3, v4, v5], .int (σ a2 k) :: st, SH, σ)) ∧
  (∀ (v0 : Option Value) (v1 : Option Value) (v2 : Option Value) (v3 : Option Value) (v4 : Option Value) (v5 : Option Value) (x1 : Int32) (x2 : Int32) (st : List Value) (σ : ma_H), ma_rn ro d 151 (22, [v0, v1, v2, v3, v4, v5], .int x1 :: .int x2 :: st, SH, σ) = if x2 < x1 then ma_rn ro d 151 (25, [v0, v1, v2, v3, v4, v5], st, SH, σ) else ma_rn ro d 151 (119, [v0, v1, v2, v3, v4, v5], st, SH, σ)) ∧
  (∀ (v0 : Option Value) (v1 : Option Value) (v2 : Option Value) (v3 : Option Value) (v5 : Option Value) (x1 : Int32) (st : List Value) (σ : ma_H), ma_rn ro d 151 (25, [v0, v1, v2, v3, some (.int x1), v5], st, SH, σ) = ma_rn ro d 151 (27, [v0, v1, v2, v3, some (.int x1), v5], .int x1 :: st, SH, σ)) ∧
  (∀ (v0 : Option Value) (v1 : Option Value) (v2 : Option Value) (v3 : Option Value) (v4 : Option Value) (v5 : Option Value) (x1 : Int32) (st : List Value) (σ : ma_H), ma_rn ro d 151 (27, [v0, v1, v2, v3, v4, v5], .int x1 :: st, SH, σ) = if x1 = nI 0 then ma_rn ro d 151 (119, [v0, v1, v2, v3, v4, v5], st, SH, σ) else ma_rn ro d 151 (30, [v0, v1, v2, v3, v4, v5], st, SH, σ)) ∧
  (∀ (v1 : Option Value) (v2 : Option Value) (v3 : Option Value) (v4 : Option Value) (v5 : Option Value) (a1 : Nat) (st : List Value) (σ : ma_H), ma_rn ro d 151 (30, [some (.ref a1), v1, v2, v3, v4, v5], st, SH, σ) = ma_rn ro d 151 (31, [some (.ref a1), v1, v2, v3, v4, v5], .ref a1 :: st, SH, σ)) ∧
  (∀ (v0 : Option Value) (v1 : Option Value) (v2 : Option Value) (v3 : Option Value) (v4 : Option Value) (v5 : Option Value) (a0 : Nat) (σ : ma_H) (hc : hk_cls a0 = 8), ma_rn ro (d + 1) 151 (31, [v0, v1, v2, v3, v4, v5], .ref a0 :: [], SH, σ) = (ma_ev ro d 105 [.ref a0] SH σ).bind (fun q => ma_rn ro (d + 1) 151 (34, [v0, v1, v2, v3, v4, v5], (q.1.toList ++ []), q.2.1, q.2.2))) ∧
  (∀ (v1 : Option Value) (v2 : Option Value) (v3 : Option Value) (v4 : Option Value) (v5 : Option Value) (a1 : Nat) (st : List Value) (σ : ma_H), ma_rn ro d 151 (34, [some (.ref a1), v1, v2, v3, v4, v5], st, SH, σ) = ma_rn ro d 151 (35, [some (.ref a1), v1, v2, v3, v4, v5], .ref a1 :: st, SH, σ)) ∧
  (∀ (v0 : Option Value) (v1 : Option Value) (v2 : Option Value) (v3 : Option Value) (v4 : Option Value) (v5 : Option Value) (a1 : Nat) (st : List Value) (σ : ma_H) (hc : hk_cls a1 = 8), ma_rn ro d 151 (35, [v0, v1, v2, v3, v4, v5], .ref a1 :: st, SH, σ) = ma_rn ro d 151 (38, [v0, v1, v2, v3, v4, v5], .ref (91) :: st, SH, σ)) ∧
  (∀ (v0 : Option Value) (v2 : Option Value) (v3 : Option Value) (v4 : Option Value) (v5 : Option Value) (x1 : Int32) (st : List Value) (σ : ma_H), ma_rn ro d 151 (38, [v0, some (.int x1), v2, v3, v4, v5], st, SH, σ) = ma_rn ro d 151 (39, [v0, some (.int x1), v2, v3, v4, v5], .int x1 :: st, SH, σ)) ∧
  (∀ (v0 : Option Value) (v1 : Option Value) (v3 : Option Value) (v4 : Option Value) (v5 : Option Value) (x1 : Int32) (st : List Value) (σ : ma_H), ma_rn ro d 151 (39, [v0, v1, some (.int x1), v3, v4, v5], st, SH, σ) = ma_rn ro d 151 (40, [v0, v1, some (.int x1), v3, v4, v5], .int x1 :: st, SH, σ)) ∧
  (∀ (v0 : Option Value) (v1 : Option Value) (v2 : Option Value) (v3 : Option Value) (v4 : Option Value) (v5 : Option Value) (x1 : Int32) (k : Nat) (a3 : Nat) (st : List Value) (σ : ma_H) (hk : k < hk_len a3), ma_rn ro d 151 (40, [v0, v1, v2, v3, v4, v5], .int x1 :: .int (nI k) :: .ref a3 :: st, SH, σ) = ma_rn ro d 151 (41, [v0, v1, v2, v3, v4, v5], st, SH, (ma_up σ a3 k x1))) ∧
  (∀ (v1 : Option Value) (v2 : Option Value) (v3 : Option Value) (v4 : Option Value) (v5 : Option Value) (a1 : Nat) (st : List Value) (σ : ma_H), ma_rn ro d 151 (41, [some (.ref a1), v1, v2, v3, v4, v5], st, SH, σ) = ma_rn ro d 151 (42, [some (.ref a1), v1, v2, v3, v4, v5], .ref a1 :: st, SH, σ)) ∧
  (∀ (v1 : Option Value) (v2 : Option Value) (v3 : Option Value) (v4 : Option Value) (v5 : Option Value) (a1 : Nat) (st : List Value) (σ : ma_H), ma_rn ro d 151 (42, [some (.ref a1), v1, v2, v3, v4, v5], st, SH, σ) = ma_rn ro d 151 (43, [some (.ref a1), v1, v2, v3, v4, v5], .ref a1 :: st, SH, σ)) ∧
  (∀ (v0 : Option Value) (v1 : Option Value) (v2 : Option Value) (v3 : Option Value) (v4 : Option Value) (v5 : Option Value) (a1 : Nat) (st : List Value) (σ : ma_H) (hc : hk_cls a1 = 8), ma_rn ro d 151 (43, [v0, v1, v2, v3, v4, v5], .ref a1 :: st, SH, σ) = ma_rn ro d 151 (46, [v0, v1, v2, v3, v4, v5], .ref (91) :: st, SH, σ)) ∧
  (∀ (v0 : Option Value) (v1 : Option Value) (v2 : Option Value) (v3 : Option Value) (v4 : Option Value) (v5 : Option Value) (st : List Value) (σ : ma_H), ma_rn ro d 151 (46, [v0, v1, v2, v3, v4, v5], st, SH, σ) = ma_rn ro d 151 (48, [v0, v1, v2, v3, v4, v5], .int (nI 76) :: st, SH, σ)) ∧
  (∀ (v0 : Option Value) (v1 : Option Value) (v2 : Option Value) (v3 : Option Value) (v4 : Option Value) (x1 : Int32) (st : List Value) (σ : ma_H), ma_rn ro d 151 (48, [v0, v1, v2, v3, v4, some (.int x1)], st, SH, σ) = ma_rn ro d 151 (50, [v0, v1, v2, v3, v4, some (.int x1)], .int x1 :: st, SH, σ)) ∧
  (∀ (v0 : Option Value) (v1 : Option Value) (v2 : Option Value) (v3 : Option Value) (v4 : Option Value) (v5 : Option Value) (x1 : Int32) (x2 : Int32) (st : List Value) (σ : ma_H), ma_rn ro d 151 (50, [v0, v1, v2, v3, v4, v5], .int x1 :: .int x2 :: st, SH, σ) = ma_rn ro d 151 (51, [v0, v1, v2, v3, v4, v5], .int (x2 + x1) :: st, SH, σ)) ∧
  (∀ (v0 : Option Value) (v1 : Option Value) (v2 : Option Value) (v3 : Option Value) (v4 : Option Value) (v5 : Option Value) (k : Nat) (a2 : Nat) (st : List Value) (σ : ma_H) (hk : k < hk_len a2), ma_rn ro d 151 (51, [v0, v1, v2, v3, v4, v5], .int (nI k) :: .ref a2 :: st, SH, σ) = ma_rn ro d 151 (52, [v0, v1, v2, v3, v4, v5], .int (σ a2 k) :: st, SH, σ)) ∧
  (∀ (v1 : Option Value) (v2 : Option Value) (v3 : Option Value) (v4 : Option Value) (v5 : Option Value) (a1 : Nat) (st : List Value) (σ : ma_H), ma_rn ro d 151 (52, [some (.ref a1), v1, v2, v3, v4, v5], st, SH, σ) = ma_rn ro d 151 (53, [some (.ref a1), v1, v2, v3, v4, v5], .ref a1 :: st, SH, σ)) ∧
  (∀ (v0 : Option Value) (v1 : Option Value) (v2 : Option Value) (v3 : Option Value) (v4 : Option Value) (v5 : Option Value) (a1 : Nat) (st : List Value) (σ : ma_H) (hc : hk_cls a1 = 8), ma_rn ro d 151 (53, [v0, v1, v2, v3, v4, v5], .ref a1 :: st, SH, σ) = ma_rn ro d 151 (56, [v0, v1, v2, v3, v4, v5], .ref (91) :: st, SH, σ)) ∧
  (∀ (v0 : Option Value) (v1 : Option Value) (v2 : Option Value) (v3 : Option Value) (v4 : Option Value) (v5 : Option Value) (st : List Value) (σ : ma_H), ma_rn ro d 151 (56, [v0, v1, v2, v3, v4, v5], st, SH, σ) = ma_rn ro d 151 (58, [v0, v1, v2, v3, v4, v5], .int (nI 81) :: st, SH, σ)) ∧
  (∀ (v0 : Option Value) (v1 : Option Value) (v2 : Option Value) (v3 : Option Value) (v4 : Option Value) (x1 : Int32) (st : List Value) (σ : ma_H), ma_rn ro d 151 (58, [v0, v1, v2, v3, v4, some (.int x1)], st, SH, σ) = ma_rn ro d 151 (60, [v0, v1, v2, v3, v4, some (.int x1)], .int x1 :: st, SH, σ)) ∧
  (∀ (v0 : Option Value) (v1 : Option Value) (v2 : Option Value) (v3 : Option Value) (v4 : Option Value) (v5 : Option Value) (x1 : Int32) (x2 : Int32) (st : List Value) (σ : ma_H), ma_rn ro d 151 (60, [v0, v1, v2, v3, v4, v5], .int x1 :: .int x2 :: st, SH, σ) = ma_rn ro d 151 (61, [v0, v1, v2, v3, v4, v5], .int (x2 + x1) :: st, SH, σ)) ∧
  (∀ (v0 : Option Value) (v1 : Option Value) (v2 : Option Value) (v3 : Option Value) (v4 : Option Value) (v5 : Option Value) (k : Nat) (a2 : Nat) (st : List Value) (σ : ma_H) (hk : k < hk_len a2), ma_rn ro d 151 (61, [v0, v1, v2, v3, v4, v5], .int (nI k) :: .ref a2 :: st, SH, σ) = ma_rn ro d 151 (62, [v0, v1, v2, v3, v4, v5], .int (σ a2 k) :: st, SH, σ)) ∧
  (∀ (v0 : Option Value) (v1 : Option Value) (v2 : Option Value) (v3 : Option Value) (v4 : Option Value) (v5 : Option Value) (x1 : Int32) (x2 : Int32) (a0 : Nat) (σ : ma_H) (hc : hk_cls a0 = 8), ma_rn ro (d + 1) 151 (62, [v0, v1, v2, v3, v4, v5], .int x2 :: .int x1 :: .ref a0 :: [], SH, σ) = (ma_ev ro d 141 [.ref a0, .int x1, .int x2] SH σ).bind (fun q => ma_rn ro (d + 1) 151 (65, [v0, v1, v2, v3, v4, v5], (q.1.toList ++ []), q.2.1, q.2.2))) ∧
  (∀ (v1 : Option Value) (v2 : Option Value) (v3 : Option Value) (v4 : Option Value) (v5 : Option Value) (a1 : Nat) (st : List Value) (σ : ma_H), ma_rn ro d 151 (65, [some (.ref a1), v1, v2, v3, v4, v5], st, SH, σ) = ma_rn ro d 151 (66, [some (.ref a1), v1, v2, v3, v4, v5], .ref a1 :: st, SH, σ)) ∧
  (∀ (v0 : Option Value) (v1 : Option Value) (v2 : Option Value) (v3 : Option Value) (v4 : Option Value) (v5 : Option Value) (a1 : Nat) (st : List Value) (σ : ma_H) (hc : hk_cls a1 = 8), ma_rn ro d 151 (66, [v0, v1, v2, v3, v4, v5], .ref a1 :: st, SH, σ) = ma_rn ro d 151 (69, [v0, v1, v2, v3, v4, v5], .ref (91) :: st, SH, σ)) ∧
  (∀ (v0 : Option Value) (v1 : Option Value) (v2 : Option Value) (v3 : Option Value) (v4 : Option Value) (v5 : Option Value) (st : List Value) (σ : ma_H), ma_rn ro d 151 (69, [v0, v1, v2, v3, v4, v5], st, SH, σ) = ma_rn ro d 151 (70, [v0, v1, v2, v3, v4, v5], .int (nI 3) :: st, SH, σ)) ∧
  (∀ (v1 : Option Value) (v2 : Option Value) (v3 : Option Value) (v4 : Option Value) (v5 : Option Value) (a1 : Nat) (st : List Value) (σ : ma_H), ma_rn ro d 151 (70, [some (.ref a1), v1, v2, v3, v4, v5], st, SH, σ) = ma_rn ro d 151 (71, [some (.ref a1), v1, v2, v3, v4, v5], .ref a1 :: st, SH, σ)) ∧
  (∀ (v0 : Option Value) (v1 : Option Value) (v2 : Option Value) (v3 : Option Value) (v4 : Option Value) (v5 : Option Value) (a1 : Nat) (st : List Value) (σ : ma_H) (hc : hk_cls a1 = 8), ma_rn ro d 151 (71, [v0, v1, v2, v3, v4, v5], .ref a1 :: st, SH, σ) = ma_rn ro d 151 (74, [v0, v1, v2, v3, v4, v5], .ref (91) :: st, SH, σ)) ∧
  (∀ (v0 : Option Value) (v1 : Option Value) (v2 : Option Value) (v3 : Option Value) (v4 : Option Value) (v5 : Option Value) (st : List Value) (σ : ma_H), ma_rn ro d 151 (74, [v0, v1, v2, v3, v4, v5], st, SH, σ) = ma_rn ro d 151 (76, [v0, v1, v2, v3, v4, v5], .int (nI 76) :: st, SH, σ)) ∧
  (∀ (v0 : Option Value) (v1 : Option Value) (v2 : Option Value) (v3 : Option Value) (v4 : Option Value) (x1 : Int32) (st : List Value) (σ : ma_H), ma_rn ro d 151 (76, [v0, v1, v2, v3, v4, some (.int x1)], st, SH, σ) = ma_rn ro d 151 (78, [v0, v1, v2, v3, v4, some (.int x1)], .int x1 :: st, SH, σ)) ∧
  (∀ (v0 : Option Value) (v1 : Option Value) (v2 : Option Value) (v3 : Option Value) (v4 : Option Value) (v5 : Option Value) (x1 : Int32) (x2 : Int32) (st : List Value) (σ : ma_H), ma_rn ro d 151 (78, [v0, v1, v2, v3, v4, v5], .int x1 :: .int x2 :: st, SH, σ) = ma_rn ro d 151 (79, [v0, v1, v2, v3, v4, v5], .int (x2 + x1) :: st, SH, σ)) ∧
  (∀ (v0 : Option Value) (v1 : Option Value) (v2 : Option Value) (v3 : Option Value) (v4 : Option Value) (v5 : Option Value) (k : Nat) (a2 : Nat) (st : List Value) (σ : ma_H) (hk : k < hk_len a2), ma_rn ro d 151 (79, [v0, v1, v2, v3, v4, v5], .int (nI k) :: .ref a2 :: st, SH, σ) = ma_rn ro d 151 (80, [v0, v1, v2, v3, v4, v5], .int (σ a2 k) :: st, SH, σ)) ∧
  (∀ (v0 : Option Value) (v1 : Option Value) (v2 : Option Value) (v3 : Option Value) (v4 : Option Value) (v5 : Option Value) (x1 : Int32) (x2 : Int32) (st : List Value) (σ : ma_H), ma_rn ro d 151 (80, [v0, v1, v2, v3, v4, v5], .int x1 :: .int x2 :: st, SH, σ) = ma_rn ro d 151 (81, [v0, v1, v2, v3, v4, v5], .int (x2 + x1) :: st, SH, σ)) ∧
  (∀ (v0 : Option Value) (v1 : Option Value) (v2 : Option Value) (v3 : Option Value) (v4 : Option Value) (v5 : Option Value) (k : Nat) (a2 : Nat) (st : List Value) (σ : ma_H) (hk : k < hk_len a2), ma_rn ro d 151 (81, [v0, v1, v2, v3, v4, v5], .int (nI k) :: .ref a2 :: st, SH, σ) = ma_rn ro d 151 (82, [v0, v1, v2, v3, v4, v5], .int (σ a2 k) :: st, SH, σ)) ∧
  (∀ (v1 : Option Value) (v2 : Option Value) (v3 : Option Value) (v4 : Option Value) (v5 : Option Value) (a1 : Nat) (st : List Value) (σ : ma_H), ma_rn ro d 151 (82, [some (.ref a1), v1, v2, v3, v4, v5], st, SH, σ) = ma_rn ro d 151 (83, [some (.ref a1), v1, v2, v3, v4, v5], .ref a1 :: st, SH, σ)) ∧
  (∀ (v0 : Option Value) (v1 : Option Value) (v2 : Option Value) (v3 : Option Value) (v4 : Option Value) (v5 : Option Value) (a1 : Nat) (st : List Value) (σ : ma_H) (hc : hk_cls a1 = 8), ma_rn ro d 151 (83, [v0, v1, v2, v3, v4, v5], .ref a1 :: st, SH, σ) = ma_rn ro d 151 (86, [v0, v1, v2, v3, v4, v5], .ref (91) :: st, SH, σ)) ∧
  (∀ (v0 : Option Value) (v1 : Option Value) (v2 : Option Value) (v3 : Option Value) (v4 : Option Value) (v5 : Option Value) (st : List Value) (σ : ma_H), ma_rn ro d 151 (86, [v0, v1, v2, v3, v4, v5], st, SH, σ) = ma_rn ro d 151 (88, [v0, v1, v2, v3, v4, v5], .int (nI 86) :: st, SH, σ)) ∧
  (∀ (v0 : Option Value) (v1 : Option Value) (v2 : Option Value) (v3 : Option Value) (v4 : Option Value) (x1 : Int32) (st : List Value) (σ : ma_H), ma_rn ro d 151 (88, [v0, v1, v2, v3, v4, some (.int x1)], st, SH, σ) = ma_rn ro d 151 (90, [v0, v1, v2, v3, v4, some (.int x1)], .int x1 :: st, SH, σ)) ∧
  (∀ (v0 : Option Value) (v1 : Option Value) (v2 : Option Value) (v3 : Option Value) (v4 : Option Value) (v5 : Option Value) (x1 : Int32) (x2 : Int32) (st : List Value) (σ : ma_H), ma_rn ro d 151 (90, [v0, v1, v2, v3, v4, v5], .int x1 :: .int x2 :: st, SH, σ) = ma_rn ro d 151 (91, [v0, v1, v2, v3, v4, v5], .int (x2 + x1) :: st, SH, σ)) ∧
  (∀ (v0 : Option Value) (v1 : Option Value) (v2 : Option Value) (v3 : Option Value) (v4 : Option Value) (v5 : Option Value) (k : Nat) (a2 : Nat) (st : List Value) (σ : ma_H) (hk : k < hk_len a2), ma_rn ro d 151 (91, [v0, v1, v2, v3, v4, v5], .int (nI k) :: .ref a2 :: st, SH, σ) = ma_rn ro d 151 (92, [v0, v1, v2, v3, v4, v5], .int (σ a2 k) :: st, SH, σ)) ∧
  (∀ (v0 : Option Value) (v1 : Option Value) (v2 : Option Value) (v3 : Option Value) (v4 : Option Value) (v5 : Option Value) (x1 : Int32) (x2 : Int32) (st : List Value) (σ : ma_H), ma_rn ro d 151 (92, [v0, v1, v2, v3, v4, v5], .int x1 :: .int x2 :: st, SH, σ) = if x2 = x1 then ma_rn ro d 151 (95, [v0, v1, v2, v3, v4, v5], st, SH, σ) else ma_rn ro d 151 (99, [v0, v1, v2, v3, v4, v5], st, SH, σ)) ∧
  (∀ (v0 : Option Value) (v1 : Option Value) (v2 : Option Value) (v3 : Option Value) (v4 : Option Value) (v5 : Option Value) (st : List Value) (σ : ma_H), ma_rn ro d 151 (95, [v0, v1, v2, v3, v4, v5], st, SH, σ) = ma_rn ro d 151 (96, [v0, v1, v2, v3, v4, v5], .int (nI 1) :: st, SH, σ)) ∧
  (∀ (v0 : Option Value) (v1 : Option Value) (v2 : Option Value) (v3 : Option Value) (v4 : Option Value) (v5 : Option Value) (st : List Value) (σ : ma_H), ma_rn ro d 151 (96, [v0, v1, v2, v3, v4, v5], st, SH, σ) = ma_rn ro d 151 (100, [v0, v1, v2, v3, v4, v5], st, SH, σ)) ∧
  (∀ (v0 : Option Value) (v1 : Option Value) (v2 : Option Value) (v3 : Option Value) (v4 : Option Value) (v5 : Option Value) (st : List Value) (σ : ma_H), ma_rn ro d 151 (99, [v0, v1, v2, v3, v4, v5], st, SH, σ) = ma_rn ro d 151 (100, [v0, v1, v2, v3, v4, v5], .int (nI 0) :: st, SH, σ)) ∧
  (∀ (v0 : Option Value) (v1 : Option Value) (v2 : Option Value) (v4 : Option Value) (v5 : Option Value) (x9 : Int32) (x1 : Int32) (st : List Value) (σ : ma_H), ma_rn ro d 151 (100, [v0, v1, v2, some (.int x9), v4, v5], .int x1 :: st, SH, σ) = ma_rn ro d 151 (102, [v0, v1, v2, some (.int x9), some (.int x1), v5], st, SH, σ)) ∧
  (∀ (v1 : Option Value) (v2 : Option Value) (v3 : Option Value) (v4 : Option Value) (v5 : Option Value) (a1 : Nat) (st : List Value) (σ : ma_H), ma_rn ro d 151 (102, [some (.ref a1), v1, v2, v3, v4, v5], st, SH, σ) = ma_rn ro d 151 (103, [some (.ref a1), v1, v2, v3, v4, v5], .ref a1 :: st, SH, σ)) ∧
  (∀ (v0 : Option Value) (v1 : Option Value) (v2 : Option Value) (v3 : Option Value) (v4 : Option Value) (v5 : Option Value) (a0 : Nat) (σ : ma_H) (hc : hk_cls a0 = 8), ma_rn ro (d + 1) 151 (103, [v0, v1, v2, v3, v4, v5], .ref a0 :: [], SH, σ) = (ma_ev ro d 106 [.ref a0] SH σ).bind (fun q => ma_rn ro (d + 1) 151 (106, [v0, v1, v2, v3, v4, v5], (q.1.toList ++ []), q.2.1, q.2.2))) ∧
  (∀ (v1 : Option Value) (v2 : Option Value) (v3 : Option Value) (v4 : Option Value) (v5 : Option Value) (a1 : Nat) (st : List Value) (σ : ma_H), ma_rn ro d 151 (106, [some (.ref a1), v1, v2, v3, v4, v5], st, SH, σ) = ma_rn ro d 151 (107, [some (.ref a1), v1, v2, v3, v4, v5], .ref a1 :: st, SH, σ)) ∧
  (∀ (v0 : Option Value) (v1 : Option Value) (v2 : Option Value) (v3 : Option Value) (v4 : Option Value) (v5 : Option Value) (a1 : Nat) (st : List Value) (σ : ma_H) (hc : hk_cls a1 = 8), ma_rn ro d 151 (107, [v0, v1, v2, v3, v4, v5], .ref a1 :: st, SH, σ) = ma_rn ro d 151 (110, [v0, v1, v2, v3, v4, v5], .ref (91) :: st, SH, σ)) ∧
  (∀ (v0 : Option Value) (v2 : Option Value) (v3 : Option Value) (v4 : Option Value) (v5 : Option Value) (x1 : Int32) (st : List Value) (σ : ma_H), ma_rn ro d 151 (110, [v0, some (.int x1), v2, v3, v4, v5], st, SH, σ) = ma_rn ro d 151 (111, [v0, some (.int x1), v2, v3, v4, v5], .int x1 :: st, SH, σ)) ∧
  (∀ (v0 : Option Value) (v1 : Option Value) (v2 : Option Value) (v4 : Option Value) (v5 : Option Value) (x1 : Int32) (st : List Value) (σ : ma_H), ma_rn ro d 151 (111, [v0, v1, v2, some (.int x1), v4, v5], st, SH, σ) = ma_rn ro d 151 (112, [v0, v1, v2, some (.int x1), v4, v5], .int x1 :: st, SH, σ)) ∧
  (∀ (v0 : Option Value) (v1 : Option Value) (v2 : Option Value) (v3 : Option Value) (v4 : Option Value) (v5 : Option Value) (x1 : Int32) (k : Nat) (a3 : Nat) (st : List Value) (σ : ma_H) (hk : k < hk_len a3), ma_rn ro d 151 (112, [v0, v1, v2, v3, v4, v5], .int x1 :: .int (nI k) :: .ref a3 :: st, SH, σ) = ma_rn ro d 151 (113, [v0, v1, v2, v3, v4, v5], st, SH, (ma_up σ a3 k x1))) ∧
  (∀ (v0 : Option Value) (v1 : Option Value) (v2 : Option Value) (v3 : Option Value) (x1 : Int32) (x9 : Int32) (st : List Value) (σ : ma_H), ma_rn ro d 151 (113, [v0, v1, v2, v3, some (.int x9), some (.int x1)], st, SH, σ) = ma_rn ro d 151 (116, [v0, v1, v2, v3, some (.int x9), some (.int (x1 + nI 1))], st, SH, σ)) ∧
  (∀ (v0 : Option Value) (v1 : Option Value) (v2 : Option Value) (v3 : Option Value) (v4 : Option Value) (v5 : Option Value) (st : List Value) (σ : ma_H), ma_rn ro d 151 (116, [v0, v1, v2, v3, v4, v5], st, SH, σ) = ma_rn ro d 151 (13, [v0, v1, v2, v3, v4, v5], st, SH, σ)) ∧
  (∀ (v0 : Option Value) (v1 : Option Value) (v2 : Option Value) (v3 : Option Value) (v5 : Option Value) (x1 : Int32) (st : List Value) (σ : ma_H), ma_rn ro d 151 (119, [v0, v1, v2, v3, some (.int x1), v5], st, SH, σ) = ma_rn ro d 151 (121, [v0, v1, v2, v3, some (.int x1), v5], .int x1 :: st, SH, σ)) ∧
  (∀ (v0 : Option Value) (v1 : Option Value) (v2 : Option Value) (v3 : Option Value) (v4 : Option Value) (v5 : Option Value) (x1 : Int32) (σ : ma_H) (hx : ma_fitI .boolean x1 = true), ma_rn ro d 151 (121, [v0, v1, v2, v3, v4, v5], [.int x1], SH, σ) = some (some (.int x1), SH, σ)) := ⟨fun v1 v2 v3 v4 v5 a1 st σ => q_go e151_0 rfl rfl,
  fun v0 v1 v2 v3 v4 v5 a1 st σ hc => q_getA e151_1 o_151 f_8_9 (by decide) hc,
  fun v0 v2 v3 v4 v5 x1 st σ => q_go e151_4 rfl rfl,
  fun v0 v1 v2 v3 v4 v5 k a2 st σ hk => q_iald e151_5 hk,
  fun v0 v1 v3 v4 v5 x9 x1 st σ => q_go e151_6 rfl rfl,
  fun v0 v1 v2 v3 v4 v5 st σ => q_iconst e151_7 (by decide),
  fun v0 v1 v2 v4 v5 x9 x1 st σ => q_go e151_8 rfl rfl,
  fun v0 v1 v2 v3 v4 v5 st σ => q_iconst e151_10 (by decide),
  fun v0 v1 v2 v3 v5 x9 x1 st σ => q_go e151_11 rfl rfl,
  fun v1 v2 v3 v4 v5 a1 st σ => q_go e151_15 rfl rfl,
  fun v0 v1 v2 v3 v4 v5 a1 st σ hc => q_getA e151_16 o_151 f_8_9 (by decide) hc,
  fun v0 v1 v2 v3 v4 v5 st σ => q_bipush e151_19 (by decide),
  fun v0 v1 v2 v3 v4 v5 k a2 st σ hk => q_iald e151_21 hk,
  fun v0 v1 v2 v3 v4 v5 x1 x2 st σ => (q_cmp e151_22 rfl).trans q_nlt,
  fun v0 v1 v2 v3 v5 x1 st σ => q_go e151_25 rfl rfl,
  fun v0 v1 v2 v3 v4 v5 x1 st σ => (q_if e151_27 rfl).trans q_eq,
  fun v1 v2 v3 v4 v5 a1 st σ => q_go e151_30 rfl rfl,
  fun v0 v1 v2 v3 v4 v5 a0 σ hc => q_invV (as := []) (rest := []) e151_31 o_151 bn_8_159 c_8_159 m_105 (by decide) rfl rfl (Nat.le_of_ble_eq_true rfl) (Nat.le_of_ble_eq_true rfl) hc,
  fun v1 v2 v3 v4 v5 a1 st σ => q_go e151_34 rfl rfl,
  fun v0 v1 v2 v3 v4 v5 a1 st σ hc => q_getA e151_35 o_151 f_8_9 (by decide) hc,
  fun v0 v2 v3 v4 v5 x1 st σ => q_go e151_38 rfl rfl,
  fun v0 v1 v3 v4 v5 x1 st σ => q_go e151_39 rfl rfl,
  fun v0 v1 v2 v3 v4 v5 x1 k a3 st σ hk => q_iast e151_40 hk,
  fun v1 v2 v3 v4 v5 a1 st σ => q_go e151_41 rfl rfl,
  fun v1 v2 v3 v4 v5 a1 st σ => q_go e151_42 rfl rfl,
  fun v0 v1 v2 v3 v4 v5 a1 st σ hc => q_getA e151_43 o_151 f_8_9 (by decide) hc,
  fun v0 v1 v2 v3 v4 v5 st σ => q_bipush e151_46 (by decide),
  fun v0 v1 v2 v3 v4 x1 st σ => q_go e151_48 rfl rfl,
  fun v0 v1 v2 v3 v4 v5 x1 x2 st σ => q_go e151_50 rfl rfl,
  fun v0 v1 v2 v3 v4 v5 k a2 st σ hk => q_iald e151_51 hk,
  fun v1 v2 v3 v4 v5 a1 st σ => q_go e151_52 rfl rfl,
  fun v0 v1 v2 v3 v4 v5 a1 st σ hc => q_getA e151_53 o_151 f_8_9 (by decide) hc,
  fun v0 v1 v2 v3 v4 v5 st σ => q_bipush e151_56 (by decide),
  fun v0 v1 v2 v3 v4 x1 st σ => q_go e151_58 rfl rfl,
  fun v0 v1 v2 v3 v4 v5 x1 x2 st σ => q_go e151_60 rfl rfl,
  fun v0 v1 v2 v3 v4 v5 k a2 st σ hk => q_iald e151_61 hk,
  fun v0 v1 v2 v3 v4 v5 x1 x2 a0 σ hc => q_invV (as := [.int x1, .int x2]) (rest := []) e151_62 o_151 bn_8_174 c_8_174 m_141 (by decide) rfl rfl (Nat.le_of_ble_eq_true rfl) (Nat.le_of_ble_eq_true rfl) hc,
  fun v1 v2 v3 v4 v5 a1 st σ => q_go e151_65 rfl rfl,
  fun v0 v1 v2 v3 v4 v5 a1 st σ hc => q_getA e151_66 o_151 f_8_9 (by decide) hc,
  fun v0 v1 v2 v3 v4 v5 st σ => q_iconst e151_69 (by decide),
  fun v1 v2 v3 v4 v5 a1 st σ => q_go e151_70 rfl rfl,
  fun v0 v1 v2 v3 v4 v5 a1 st σ hc => q_getA e151_71 o_151 f_8_9 (by decide) hc,
  fun v0 v1 v2 v3 v4 v5 st σ => q_bipush e151_74 (by decide),
  fun v0 v1 v2 v3 v4 x1 st σ => q_go e151_76 rfl rfl,
  fun v0 v1 v2 v3 v4 v5 x1 x2 st σ => q_go e151_78 rfl rfl,
  fun v0 v1 v2 v3 v4 v5 k a2 st σ hk => q_iald e151_79 hk,
  fun v0 v1 v2 v3 v4 v5 x1 x2 st σ => q_go e151_80 rfl rfl,
  fun v0 v1 v2 v3 v4 v5 k a2 st σ hk => q_iald e151_81 hk,
  fun v1 v2 v3 v4 v5 a1 st σ => q_go e151_82 rfl rfl,
  fun v0 v1 v2 v3 v4 v5 a1 st σ hc => q_getA e151_83 o_151 f_8_9 (by decide) hc,
  fun v0 v1 v2 v3 v4 v5 st σ => q_bipush e151_86 (by decide),
  fun v0 v1 v2 v3 v4 x1 st σ => q_go e151_88 rfl rfl,
  fun v0 v1 v2 v3 v4 v5 x1 x2 st σ => q_go e151_90 rfl rfl,
  fun v0 v1 v2 v3 v4 v5 k a2 st σ hk => q_iald e151_91 hk,
  fun v0 v1 v2 v3 v4 v5 x1 x2 st σ => (q_cmp e151_92 rfl).trans q_ne,
  fun v0 v1 v2 v3 v4 v5 st σ => q_iconst e151_95 (by decide),
  fun v0 v1 v2 v3 v4 v5 st σ => q_goto e151_96 rfl,
  fun v0 v1 v2 v3 v4 v5 st σ => q_iconst e151_99 (by decide),
  fun v0 v1 v2 v4 v5 x9 x1 st σ => q_go e151_100 rfl rfl,
  fun v1 v2 v3 v4 v5 a1 st σ => q_go e151_102 rfl rfl,
  fun v0 v1 v2 v3 v4 v5 a0 σ hc => q_invV (as := []) (rest := []) e151_103 o_151 bn_8_165 c_8_165 m_106 (by decide) rfl rfl (Nat.le_of_ble_eq_true rfl) (Nat.le_of_ble_eq_true rfl) hc,
  fun v1 v2 v3 v4 v5 a1 st σ => q_go e151_106 rfl rfl,
  fun v0 v1 v2 v3 v4 v5 a1 st σ hc => q_getA e151_107 o_151 f_8_9 (by decide) hc,
  fun v0 v2 v3 v4 v5 x1 st σ => q_go e151_110 rfl rfl,
  fun v0 v1 v2 v4 v5 x1 st σ => q_go e151_111 rfl rfl,
  fun v0 v1 v2 v3 v4 v5 x1 k a3 st σ hk => q_iast e151_112 hk,
  fun v0 v1 v2 v3 x1 x9 st σ => q_iinc e151_113 rfl rfl (by decide),
  fun v0 v1 v2 v3 v4 v5 st σ => q_goto e151_116 rfl,
  fun v0 v1 v2 v3 v5 x1 st σ => q_go e151_119 rfl rfl,
  fun v0 v1 v2 v3 v4 v5 x1 σ hx => q_zret e151_121 r_151 hx⟩
theorem E151 {ro : ma_RO} {d : Nat} (a0 : Nat) (x1 : Int32) (x2 : Int32) (sh : List ma_Sh) (σ : ma_H) : ma_ev ro d 151 [.ref a0, .int x1, .int x2] sh σ = ma_rn ro d 151 (0, [some (.ref a0), some (.int x1), some (.int x2), none, none, none], [], sh, σ) := q_ent x_151 rfl
theorem e152_0 : decode (ma_cd 152) 0 = .ok (.iconst 0, 1) := (congrArg (fun b => decode b 0) cd_152).trans dX8_fitting_0
theorem e152_1 : decode (ma_cd 152) 1 = .ok (.istore 4, 2) := (congrArg (fun b => decode b 1) cd_152).trans dX8_fitting_1
theorem e152_3 : decode (ma_cd 152) 3 = .ok (.bipush (-5), 2) := (congrArg (fun b => decode b 3) cd_152).trans dX8_fitting_3
theorem e152_5 : decode (ma_cd 152) 5 = .ok (.istore 5, 2) := (congrArg (fun b => decode b 5) cd_152).trans dX8_fitting_5
theorem e152_7 : decode (ma_cd 152) 7 = .ok (.iload_n 2, 1) := (congrArg (fun b => decode b 7) cd_152).trans dX8_fitting_7
theorem e152_8 : decode (ma_cd 152) 8 = .ok (.istore 6, 2) := (congrArg (fun b => decode b 8) cd_152).trans dX8_fitting_8
theorem e152_10 : decode (ma_cd 152) 10 = .ok (.iload 6, 2) := (congrArg (fun b => decode b 10) cd_152).trans dX8_fitting_10
theorem e152_12 : decode (ma_cd 152) 12 = .ok (.ifCond .lt 47, 3) := (congrArg (fun b => decode b 12) cd_152).trans dX8_fitting_12
theorem e152_15 : decode (ma_cd 152) 15 = .ok (.aload_n 0, 1) := (congrArg (fun b => decode b 15) cd_152).trans dX8_fitting_15
theorem e152_16 : decode (ma_cd 152) 16 = .ok (.iload_n 1, 1) := (congrArg (fun b => decode b 16) cd_152).trans dX8_fitting_16
theorem e152_17 : decode (ma_cd 152) 17 = .ok (.iload 6, 2) := (congrArg (fun b => decode b 17) cd_152).trans dX8_fitting_17
theorem e152_19 : decode (ma_cd 152) 19 = .ok (.invokevirtual 185, 3) := (congrArg (fun b => decode b 19) cd_152).trans dX8_fitting_19
theorem e152_22 : decode (ma_cd 152) 22 = .ok (.istore 7, 2) := (congrArg (fun b => decode b 22) cd_152).trans dX8_fitting_22
theorem e152_24 : decode (ma_cd 152) 24 = .ok (.iload 4, 2) := (congrArg (fun b => decode b 24) cd_152).trans dX8_fitting_24
theorem e152_26 : decode (ma_cd 152) 26 = .ok (.iload 7, 2) := (congrArg (fun b => decode b 26) cd_152).trans dX8_fitting_26
theorem e152_28 : decode (ma_cd 152) 28 = .ok (.ifCond .eq 7, 3) := (congrArg (fun b => decode b 28) cd_152).trans dX8_fitting_28
theorem e152_31 : decode (ma_cd 152) 31 = .ok (.iconst 1, 1) := (congrArg (fun b => decode b 31) cd_152).trans dX8_fitting_31
theorem e152_32 : decode (ma_cd 152) 32 = .ok (.goto 4, 3) := (congrArg (fun b => decode b 32) cd_152).trans dX8_fitting_32
theorem e152_35 : decode (ma_cd 152) 35 = .ok (.iconst 0, 1) := (congrArg (fun b => decode b 35) cd_152).trans dX8_fitting_35
theorem e152_36 : decode (ma_cd 152) 36 = .ok (.iadd, 1) := (congrArg (fun b => decode b 36) cd_152).trans dX8_fitting_36
theorem e152_37 : decode (ma_cd 152) 37 = .ok (.istore 4, 2) := (congrArg (fun b => decode b 37) cd_152).trans dX8_fitting_37
theorem e152_39 : decode (ma_cd 152) 39 = .ok (.iload 7, 2) := (congrArg (fun b => decode b 39) cd_152).trans dX8_fitting_39
theorem e152_41 : decode (ma_cd 152) 41 = .ok (.ifCond .eq 8, 3) := (congrArg (fun b => decode b 41) cd_152).trans dX8_fitting_41
theorem e152_44 : decode (ma_cd 152) 44 = .ok (.iload 6, 2) := (congrArg (fun b => decode b 44) cd_152).trans dX8_fitting_44
theorem e152_46 : decode (ma_cd 152) 46 = .ok (.goto 5, 3) := (congrArg (fun b => decode b 46) cd_152).trans dX8_fitting_46
theorem e152_49 : decode (ma_cd 152) 49 = .ok (.iload 5, 2) := (congrArg (fun b => decode b 49) cd_152).trans dX8_fitting_49
theorem e152_51 : decode (ma_cd 152) 51 = .ok (.istore 5, 2) := (congrArg (fun b => decode b 51) cd_152).trans dX8_fitting_51
theorem e152_53 : decode (ma_cd 152) 53 = .ok (.iinc 6 (-1), 3) := (congrArg (fun b => decode b 53) cd_152).trans dX8_fitting_53
theorem e152_56 : decode (ma_cd 152) 56 = .ok (.goto (-46), 3) := (congrArg (fun b => decode b 56) cd_152).trans dX8_fitting_56
theorem e152_59 : decode (ma_cd 152) 59 = .ok (.iload_n 3, 1) := (congrArg (fun b => decode b 59) cd_152).trans dX8_fitting_59
theorem e152_60 : decode (ma_cd 152) 60 = .ok (.ifCond .ne 8, 3) := (congrArg (fun b => decode b 60) cd_152).trans dX8_fitting_60
theorem e152_63 : decode (ma_cd 152) 63 = .ok (.iload 4, 2) := (congrArg (fun b => decode b 63) cd_152).trans dX8_fitting_63
theorem e152_65 : decode (ma_cd 152) 65 = .ok (.goto 5, 3) := (congrArg (fun b => decode b 65) cd_152).trans dX8_fitting_65
theorem e152_68 : decode (ma_cd 152) 68 = .ok (.iload 5, 2) := (congrArg (fun b => decode b 68) cd_152).trans dX8_fitting_68
theorem e152_70 : decode (ma_cd 152) 70 = .ok (.ireturn, 1) := (congrArg (fun b => decode b 70) cd_152).trans dX8_fitting_70
theorem Sh152_10 {ro : ma_RO} {d : Nat} : (∀ (v0 : Option Value) (v1 : Option Value) (v2 : Option Value) (v3 : Option Value) (v4 : Option Value) (v5 : Option Value) (v7 : Option Value) (x1 : Int32) (st : List Value) (σ : ma_H), ma_rn ro d 152 (10, [v0, v1, v2, v3, v4, v5, some (.int x1), v7], st, SH, σ) = ma_rn ro d 152 (12, [v0, v1, v2, v3, v4, v5, some (.int x1), v7], .int x1 :: st, SH, σ)) := fun v0 v1 v2 v3 v4 v5 v7 x1 st σ => q_go e152_10 rfl rfl
theorem S152 {ro : ma_RO} {d : Nat} : (∀ (v0 : Option Value) (v1 : Option Value) (v2 : Option Value) (v3 : Option Value) (v4 : Option Value) (v5 : Option Value) (v6 : Option Value) (v7 : Option Value) (st : List Value) (σ : ma_H), ma_rn ro d 152 (0, [v0, v1, v2, v3, v4, v5, v6, v7], st, SH, σ) = ma_rn ro d 152 (1, [v0, v1, v2, v3, v4, v5, v6, v7], .int (nI 0) :: st, SH, σ)) ∧
  (∀ (v0 : Option Value) (v1 : Option Value) (v2 : Option Value) (v4 : Option Value) (v5 : Option Value) (v6 : Option Value) (v7 : Option Value) (x9 : Int32) (x1 : Int32) (st : List Value) (σ : ma_H), ma_rn ro d 152 (1, [v0, v1, v2, some (.int x9), v4, v5, v6, v7], .int x1 :: st, SH, σ) = ma_rn ro d 152 (3, [v0, v1, v2, some (.int x9), some (.int x1), v5, v6, v7], st, SH, σ)) ∧
  (∀ (v0 : Option Value) (v1 : Option Value) (v2 : Option Value) (v3 : Option Value) (v4 : Option Value) (v5 : Option Value) (v6 : Option Value) (v7 : Option Value) (st : List Value) (σ : ma_H), ma_rn ro d 152 (3, [v0, v1, v2, v3, v4, v5, v6, v7], st, SH, σ) = ma_rn ro d 152 (5, [v0, v1, v2, v3, v4, v5, v6, v7], .int ((-5)) :: st, SH, σ)) ∧
  (∀ (v0 : Option Value) (v1 : Option Value) (v2 : Option Value) (v3 : Option Value) (v5 : Option Value) (v6 : Option Value) (v7 : Option Value) (x9 : Int32) (x1 : Int32) (st : List Value) (σ : ma_H), ma_rn ro d 152 (5, [v0, v1, v2, v3, some (.int x9), v5, v6, v7], .int x1 :: st, SH, σ) = ma_rn ro d 152 (7, [v0, v1, v2, v3, some (.int x9), some (.int x1), v6, v7], st, SH, σ)) ∧
  (∀ (v0 : Option Value) (v1 : Option Value) (v3 : Option Value) (v4 : Option Value) (v5 : Option Value) (v6 : Option Value) (v7 : Option Value) (x1 : Int32) (st : List Value) (σ : ma_H), ma_rn ro d 152 (7, [v0, v1, some (.int x1), v3, v4, v5, v6, v7], st, SH, σ) = ma_rn ro d 152 (8, [v0, v1, some (.int x1), v3, v4, v5, v6, v7], .int x1 :: st, SH, σ)) ∧
  (∀ (v0 : Option Value) (v1 : Option Value) (v2 : Option Value) (v3 : Option Value) (v4 : Option Value) (v6 : Option Value) (v7 : Option Value) (x9 : Int32) (x1 : Int32) (st : List Value) (σ : ma_H), ma_rn ro d 152 (8, [v0, v1, v2, v3, v4, some (.int x9), v6, v7], .int x1 :: st, SH, σ) = ma_rn ro d 152 (10, [v0, v1, v2, v3, v4, some (.int x9), some (.int x1), v7], st, SH, σ)) ∧
  (∀ (v0 : Option Value) (v1 : Option Value) (v2 : Option Value) (v3 : Option Value) (v4 : Option Value) (v5 : Option Value) (v6 : Option Value) (v7 : Option Value) (x1 : Int32) (st : List Value) (σ : ma_H), ma_rn ro d 152 (12, [v0, v1, v2, v3, v4, v5, v6, v7], .int x1 :: st, SH, σ) = if x1 < nI 0 then ma_rn ro d 152 (59, [v0, v1, v2, v3, v4, v5, v6, v7], st, SH, σ) else ma_rn ro d 152 (15, [v0, v1, v2, v3, v4, v5, v6, v7], st, SH, σ)) ∧
  (∀ (v1 : Option Value) (v2 : Option Value) (v3 : Option Value) (v4 : Option Value) (v5 : Option Value) (v6 : Option Value) (v7 : Option Value) (a1 : Nat) (st : List Value) (σ : ma_H), ma_rn ro d 152 (15, [some (.ref a1), v1, v2, v3, v4, v5, v6, v7], st, SH, σ) = ma_rn ro d 152 (16, [some (.ref a1), v1, v2, v3, v4, v5, v6, v7], .ref a1 :: st, SH, σ)) ∧
  (∀ (v0 : Option Value) (v2 : Option Value) (v3 : Option Value) (v4 : Option Value) (v5 : Option Value) (v6 : Option Value) (v7 : Option Value) (x1 : Int32) (st : List Value) (σ : ma_H), ma_rn ro d 152 (16, [v0, some (.int x1), v2, v3, v4, v5, v6, v7], st, SH, σ) = ma_rn ro d 152 (17, [v0, some (.int x1), v2, v3, v4, v5, v6, v7], .int x1 :: st, SH, σ)) ∧
  (∀ (v0 : Option Value) (v1 : Option Value) (v2 : Option Value) (v3 : Option Value) (v4 : Option Value) (v5 : Option Value) (v7 : Option Value) (x1 : Int32) (st : List Value) (σ : ma_H), ma_rn ro d 152 (17, [v0, v1, v2, v3, v4, v5, some (.int x1), v7], st, SH, σ) = ma_rn ro d 152 (19, [v0, v1, v2, v3, v4, v5, some (.int x1), v7], .int x1 :: st, SH, σ)) ∧
  (∀ (v0 : Option Value) (v1 : Option Value) (v2 : Option Value) (v3 : Option Value) (v4 : Option Value) (v5 : Option Value) (v6 : Option Value) (v7 : Option Value) (x1 : Int32) (x2 : Int32) (a0 : Nat) (σ : ma_H) (hc : hk_cls a0 = 8), ma_rn ro (d + 1) 152 (19, [v0, v1, v2, v3, v4, v5, v6, v7], .int x2 :: .int x1 :: .ref a0 :: [], SH, σ) = (ma_ev ro d 151 [.ref a0, .int x1, .int x2] SH σ).bind (fun q => ma_rn ro (d + 1) 152 (22, [v0, v1, v2, v3, v4, v5, v6, v7], (q.1.toList ++ []), q.2.1, q.2.2))) ∧
  (∀ (v0 : Option Value) (v1 : Option Value) (v2 : Option Value) (v3 : Option Value) (v4 : Option Value) (v5 : Option Value) (v7 : Option Value) (x9 : Int32) (x1 : Int32) (st : List Value) (σ : ma_H), ma_rn ro d 152 (22, [v0, v1, v2, v3, v4, v5, some (.int x9), v7], .int x1 :: st, SH, σ) = ma_rn ro d 152 (24, [v0, v1, v2, v3, v4, v5, some (.int x9), some (.int x1)], st, SH, σ)) ∧
  (∀ (v0 : Option Value) (v1 : Option Value) (v2 : Option Value) (v3 : Option Value) (v5 : Option Value) (v6 : Option Value) (v7 : Option Value) (x1 : Int32) (st : List Value) (σ : ma_H), ma_rn ro d 152 (24, [v0, v1, v2, v3, some (.int x1), v5, v6, v7], st, SH, σ) = ma_rn ro d 152 (26, [v0, v1, v2, v3, some (.int x1), v5, v6, v7], .int x1 :: st, SH, σ)) ∧
  (∀ (v0 : Option Value) (v1 : Option Value) (v2 : Option Value) (v3 : Option Value) (v4 : Option Value) (v5 : Option Value) (v6 : Option Value) (x1 : Int32) (st : List Value) (σ : ma_H), ma_rn ro d 152 (26, [v0, v1, v2, v3, v4, v5, v6, some (.int x1)], st, SH, σ) = ma_rn ro d 152 (28, [v0, v1, v2, v3, v4, v5, v6, some (.int x1)], .int x1 :: st, SH, σ)) ∧
  (∀ (v0 : Option Value) (v1 : Option Value) (v2 : Option Value) (v3 : Option Value) (v4 : Option Value) (v5 : Option Value) (v6 : Option Value) (v7 : Option Value) (x1 : Int32) (st : List Value) (σ : ma_H), ma_rn ro d 152 (28, [v0, v1, v2, v3, v4, v5, v6, v7], .int x1 :: st, SH, σ) = if x1 = nI 0 then ma_rn ro d 152 (35, [v0, v1, v2, v3, v4, v5, v6, v7], st, SH, σ) else ma_rn ro d 152 (31, [v0, v1, v2, v3, v4, v5, v6, v7], st, SH, σ)) ∧
  (∀ (v0 : Option Value) (v1 : Option Value) (v2 : Option Value) (v3 : Option Value) (v4 : Option Value) (v5 : Option Value) (v6 : Option Value) (v7 : Option Value) (st : List Value) (σ : ma_H), ma_rn ro d 152 (31, [v0, v1, v2, v3, v4, v5, v6, v7], st, SH, σ) = ma_rn ro d 152 (32, [v0, v1, v2, v3, v4, v5, v6, v7], .int (nI 1) :: st, SH, σ)) ∧
  (∀ (v0 : Option Value) (v1 : Option Value) (v2 : Option Value) (v3 : Option Value) (v4 : Option Value) (v5 : Option Value) (v6 : Option Value) (v7 : Option Value) (st : List Value) (σ : ma_H), ma_rn ro d 152 (32, [v0, v1, v2, v3, v4, v5, v6, v7], st, SH, σ) = ma_rn ro d 152 (36, [v0, v1, v2, v3, v4, v5, v6, v7], st, SH, σ)) ∧
  (∀ (v0 : Option Value) (v1 : Option Value) (v2 : Option Value) (v3 : Option Value) (v4 : Option Value) (v5 : Option Value) (v6 : Option Value) (v7 : Option Value) (st : List Value) (σ : ma_H), ma_rn ro d 152 (35, [v0, v1, v2, v3, v4, v5, v6, v7], st, SH, σ) = ma_rn ro d 152 (36, [v0, v1, v2, v3, v4, v5, v6, v7], .int (nI 0) :: st, SH, σ)) ∧
  (∀ (v0 : Option Value) (v1 : Option Value) (v2 : Option Value) (v3 : Option Value) (v4 : Option Value) (v5 : Option Value) (v6 : Option Value) (v7 : Option Value) (x1 : Int32) (x2 : Int32) (st : List Value) (σ : ma_H), ma_rn ro d 152 (36, [v0, v1, v2, v3, v4, v5, v6, v7], .int x1 :: .int x2 :: st, SH, σ) = ma_rn ro d 152 (37, [v0, v1, v2, v3, v4, v5, v6, v7], .int (x2 + x1) :: st, SH, σ)) ∧
  (∀ (v0 : Option Value) (v1 : Option Value) (v2 : Option Value) (v4 : Option Value) (v5 : Option Value) (v6 : Option Value) (v7 : Option Value) (x9 : Int32) (x1 : Int32) (st : List Value) (σ : ma_H), ma_rn ro d 152 (37, [v0, v1, v2, some (.int x9), v4, v5, v6, v7], .int x1 :: st, SH, σ) = ma_rn ro d 152 (39, [v0, v1, v2, some (.int x9), some (.int x1), v5, v6, v7], st, SH, σ)) ∧
  (∀ (v0 : Option Value) (v1 : Option Value) (v2 : Option Value) (v3 : Option Value) (v4 : Option Value) (v5 : Option Value) (v6 : Option Value) (x1 : Int32) (st : List Value) (σ : ma_H), ma_rn ro d 152 (39, [v0, v1, v2, v3, v4, v5, v6, some (.int x1)], st, SH, σ) = ma_rn ro d 152 (41, [v0, v1, v2, v3, v4, v5, v6, some (.int x1)], .int x1 :: st, SH, σ)) ∧
  (∀ (v0 : Option Value) (v1 : Option Value) (v2 : Option Value) (v3 : Option Value) (v4 : Option Value) (v5 : Option Value) (v6 : Option Value) (v7 : Option Value) (x1 : Int32) (st : List Value) (σ : ma_H), ma_rn ro d 152 (41, [v0, v1, v2, v3, v4, v5, v6, v7], .int x1 :: st, SH, σ) = if x1 = nI 0 then ma_rn ro d 152 (49, [v0, v1, v2, v3, v4, v5, v6, v7], st, SH, σ) else ma_rn ro d 152 (44, [v0, v1, v2, v3, v4, v5, v6, v7], st, SH, σ)) ∧
  (∀ (v0 : Option Value) (v1 : Option Value) (v2 : Option Value) (v3 : Option Value) (v4 : Option Value) (v5 : Option Value) (v7 : Option Value) (x1 : Int32) (st : List Value) (σ : ma_H), ma_rn ro d 152 (44, [v0, v1, v2, v3, v4, v5, some (.int x1), v7], st, SH, σ) = ma_rn ro d 152 (46, [v0, v1, v2, v3, v4, v5, some (.int x1), v7], .int x1 :: st, SH, σ)) ∧
  (∀ (v0 : Option Value) (v1 : Option Value) (v2 : Option Value) (v3 : Option Value) (v4 : Option Value) (v5 : Option Value) (v6 : Option Value) (v7 : Option Value) (st : List Value) (σ : ma_H), ma_rn ro d 152 (46, [v0, v1, v2, v3, v4, v5, v6, v7], st, SH, σ) = ma_rn ro d 152 (51, [v0, v1, v2, v3, v4, v5, v6, v7], st, SH, σ)) ∧
  (∀ (v0 : Option Value) (v1 : Option Value) (v2 : Option Value) (v3 : Option Value) (v4 : Option Value) (v6 : Option Value) (v7 : Option Value) (x1 : Int32) (st : List Value) (σ : ma_H), ma_rn ro d 152 (49, [v0, v1, v2, v3, v4, some (.int x1), v6, v7], st, SH, σ) = ma_rn ro d 152 (51, [v0, v1, v2, v3, v4, some (.int x1), v6, v7], .int x1 :: st, SH, σ)) ∧
  (∀ (v0 : Option Value) (v1 : Option Value) (v2 : Option Value) (v3 : Option Value) (v5 : Option Value) (v6 : Option Value) (v7 : Option Value) (x9 : Int32) (x1 : Int32) (st : List Value) (σ : ma_H), ma_rn ro d 152 (51, [v0, v1, v2, v3, some (.int x9), v5, v6, v7], .int x1 :: st, SH, σ) = ma_rn ro d 152 (53, [v0, v1, v2, v3, some (.int x9), some (.int x1), v6, v7], st, SH, σ)) ∧
  (∀ (v0 : Option Value) (v1 : Option Value) (v2 : Option Value) (v3 : Option Value) (v4 : Option Value) (v7 : Option Value) (x1 : Int32) (x9 : Int32) (st : List Value) (σ : ma_H), ma_rn ro d 152 (53, [v0, v1, v2, v3, v4, some (.int x9), some (.int x1), v7], st, SH, σ) = ma_rn ro d 152 (56, [v0, v1, v2, v3, v4, some (.int x9), some (.int (x1 + (-1))), v7], st, SH, σ)) ∧
  (∀ (v0 : Option Value) (v1 : Option Value) (v2 : Option Value) (v3 : Option Value) (v4 : Option Value) (v5 : Option Value) (v6 : Option Value) (v7 : Option Value) (st : List Value) (σ : ma_H), ma_rn ro d 152 (56, [v0, v1, v2, v3, v4, v5, v6, v7], st, SH, σ) = ma_rn ro d 152 (10, [v0, v1, v2, v3, v4, v5, v6, v7], st, SH, σ)) ∧
  (∀ (v0 : Option Value) (v1 : Option Value) (v2 : Option Value) (v4 : Option Value) (v5 : Option Value) (v6 : Option Value) (v7 : Option Value) (x1 : Int32) (st : List Value) (σ : ma_H), ma_rn ro d 152 (59, [v0, v1, v2, some (.int x1), v4, v5, v6, v7], st, SH, σ) = ma_rn ro d 152 (60, [v0, v1, v2, some (.int x1), v4, v5, v6, v7], .int x1 :: st, SH, σ)) ∧
  (∀ (v0 : Option Value) (v1 : Option Value) (v2 : Option Value) (v3 : Option Value) (v4 : Option Value) (v5 : Option Value) (v6 : Option Value) (v7 : Option Value) (x1 : Int32) (st : List Value) (σ : ma_H), ma_rn ro d 152 (60, [v0, v1, v2, v3, v4, v5, v6, v7], .int x1 :: st, SH, σ) = if x1 = nI 0 then ma_rn ro d 152 (63, [v0, v1, v2, v3, v4, v5, v6, v7], st, SH, σ) else ma_rn ro d 152 (68, [v0, v1, v2, v3, v4, v5, v6, v7], st, SH, σ)) ∧
  (∀ (v0 : Option Value) (v1 : Option Value) (v2 : Option Value) (v3 : Option Value) (v5 : Option Value) (v6 : Option Value) (v7 : Option Value) (x1 : Int32) (st : List Value) (σ : ma_H), ma_rn ro d 152 (63, [v0, v1, v2, v3, some (.int x1), v5, v6, v7], st, SH, σ) = ma_rn ro d 152 (65, [v0, v1, v2, v3, some (.int x1), v5, v6, v7], .int x1 :: st, SH, σ)) ∧
  (∀ (v0 : Option Value) (v1 : Option Value) (v2 : Option Value) (v3 : Option Value) (v4 : Option Value) (v5 : Option Value) (v6 : Option Value) (v7 : Option Value) (st : List Value) (σ : ma_H), ma_rn ro d 152 (65, [v0, v1, v2, v3, v4, v5, v6, v7], st, SH, σ) = ma_rn ro d 152 (70, [v0, v1, v2, v3, v4, v5, v6, v7], st, SH, σ)) ∧
  (∀ (v0 : Option Value) (v1 : Option Value) (v2 : Option Value) (v3 : Option Value) (v4 : Option Value) (v6 : Option Value) (v7 : Option Value) (x1 : Int32) (st : List Value) (σ : ma_H), ma_rn ro d 152 (68, [v0, v1, v2, v3, v4, some (.int x1), v6, v7], st, SH, σ) = ma_rn ro d 152 (70, [v0, v1, v2, v3, v4, some (.int x1), v6, v7], .int x1 :: st, SH, σ)) ∧
  (∀ (v0 : Option Value) (v1 : Option Value) (v2 : Option Value) (v3 : Option Value) (v4 : Option Value) (v5 : Option Value) (v6 : Option Value) (v7 : Option Value) (x1 : Int32) (σ : ma_H), ma_rn ro d 152 (70, [v0, v1, v2, v3, v4, v5, v6, v7], [.int x1], SH, σ) = some (some (.int x1), SH, σ)) := ⟨fun v0 v1 v2 v3 v4 v5 v6 v7 st σ => q_iconst e152_0 (by decide),
  fun v0 v1 v2 v4 v5 v6 v7 x9 x1 st σ => q_go e152_1 rfl rfl,
  fun v0 v1 v2 v3 v4 v5 v6 v7 st σ => q_bipush e152_3 (by decide),
  fun v0 v1 v2 v3 v5 v6 v7 x9 x1 st σ => q_go e152_5 rfl rfl,
  fun v0 v1 v3 v4 v5 v6 v7 x1 st σ => q_go e152_7 rfl rfl,
  fun v0 v1 v2 v3 v4 v6 v7 x9 x1 st σ => q_go e152_8 rfl rfl,
  fun v0 v1 v2 v3 v4 v5 v6 v7 x1 st σ => (q_if e152_12 rfl).trans q_lt,
  fun v1 v2 v3 v4 v5 v6 v7 a1 st σ => q_go e152_15 rfl rfl,
  fun v0 v2 v3 v4 v5 v6 v7 x1 st σ => q_go e152_16 rfl rfl,
  fun v0 v1 v2 v3 v4 v5 v7 x1 st σ => q_go e152_17 rfl rfl,
  fun v0 v1 v2 v3 v4 v5 v6 v7 x1 x2 a0 σ hc => q_invV (as := [.int x1, .int x2]) (rest := []) e152_19 o_152 bn_8_185 c_8_185 m_151 (by decide) rfl rfl (Nat.le_of_ble_eq_true rfl) (Nat.le_of_ble_eq_true rfl) hc,
  fun v0 v1 v2 v3 v4 v5 v7 x9 x1 st σ => q_go e152_22 rfl rfl,
  fun v0 v1 v2 v3 v5 v6 v7 x1 st σ => q_go e152_24 rfl rfl,
  fun v0 v1 v2 v3 v4 v5 v6 x1 st σ => q_go e152_26 rfl rfl,
  fun v0 v1 v2 v3 v4 v5 v6 v7 x1 st σ => (q_if e152_28 rfl).trans q_eq,
  fun v0 v1 v2 v3 v4 v5 v6 v7 st σ => q_iconst e152_31 (by decide),
  fun v0 v1 v2 v3 v4 v5 v6 v7 st σ => q_goto e152_32 rfl,
  fun v0 v1 v2 v3 v4 v5 v6 v7 st σ => q_iconst e152_35 (by decide),
  fun v0 v1 v2 v3 v4 v5 v6 v7 x1 x2 st σ => q_go e152_36 rfl rfl,
  fun v0 v1 v2 v4 v5 v6 v7 x9 x1 st σ => q_go e152_37 rfl rfl,
  fun v0 v1 v2 v3 v4 v5 v6 x1 st σ => q_go e152_39 rfl rfl,
  fun v0 v1 v2 v3 v4 v5 v6 v7 x1 st σ => (q_if e152_41 rfl).trans q_eq,
  fun v0 v1 v2 v3 v4 v5 v7 x1 st σ => q_go e152_44 rfl rfl,
  fun v0 v1 v2 v3 v4 v5 v6 v7 st σ => q_goto e152_46 rfl,
  fun v0 v1 v2 v3 v4 v6 v7 x1 st σ => q_go e152_49 rfl rfl,
  fun v0 v1 v2 v3 v5 v6 v7 x9 x1 st σ => q_go e152_51 rfl rfl,
  fun v0 v1 v2 v3 v4 v7 x1 x9 st σ => q_iinc e152_53 rfl rfl (by decide),
  fun v0 v1 v2 v3 v4 v5 v6 v7 st σ => q_goto e152_56 rfl,
  fun v0 v1 v2 v4 v5 v6 v7 x1 st σ => q_go e152_59 rfl rfl,
  fun v0 v1 v2 v3 v4 v5 v6 v7 x1 st σ => (q_if e152_60 rfl).trans q_ne,
  fun v0 v1 v2 v3 v5 v6 v7 x1 st σ => q_go e152_63 rfl rfl,
  fun v0 v1 v2 v3 v4 v5 v6 v7 st σ => q_goto e152_65 rfl,
  fun v0 v1 v2 v3 v4 v6 v7 x1 st σ => q_go e152_68 rfl rfl,
  fun v0 v1 v2 v3 v4 v5 v6 v7 x1 σ => q_iret e152_70 r_152⟩
theorem E152 {ro : ma_RO} {d : Nat} (a0 : Nat) (x1 : Int32) (x2 : Int32) (x3 : Int32) (sh : List ma_Sh) (σ : ma_H) : ma_ev ro d 152 [.ref a0, .int x1, .int x2, .int x3] sh σ = ma_rn ro d 152 (0, [some (.ref a0), some (.int x1), some (.int x2), some (.int x3), none, none, none, none], [], sh, σ) := q_ent x_152 rfl
theorem e153_0 : decode (ma_cd 153) 0 = .ok (.iload_n 1, 1) := (congrArg (fun b => decode b 0) cd_153).trans dX8_hurries_0
theorem e153_1 : decode (ma_cd 153) 1 = .ok (.iconst 0, 1) := (congrArg (fun b => decode b 1) cd_153).trans dX8_hurries_1
theorem e153_2 : decode (ma_cd 153) 2 = .ok (.iconst 1, 1) := (congrArg (fun b => decode b 2) cd_153).trans dX8_hurries_2
theorem e153_3 : decode (ma_cd 153) 3 = .ok (.invokestatic 35, 3) := (congrArg (fun b => decode b 3) cd_153).trans dX8_hurries_3
theorem e153_6 : decode (ma_cd 153) 6 = .ok (.ifCond .eq 14, 3) := (congrArg (fun b => decode b 6) cd_153).trans dX8_hurries_6
theorem e153_9 : decode (ma_cd 153) 9 = .ok (.aload_n 0, 1) := (congrArg (fun b => decode b 9) cd_153).trans dX8_hurries_9
theorem e153_10 : decode (ma_cd 153) 10 = .ok (.iconst 1, 1) := (congrArg (fun b => decode b 10) cd_153).trans dX8_hurries_10
theorem e153_11 : decode (ma_cd 153) 11 = .ok (.bipush 20, 2) := (congrArg (fun b => decode b 11) cd_153).trans dX8_hurries_11
theorem e153_13 : decode (ma_cd 153) 13 = .ok (.iload_n 1, 1) := (congrArg (fun b => decode b 13) cd_153).trans dX8_hurries_13
theorem e153_14 : decode (ma_cd 153) 14 = .ok (.invokevirtual 189, 3) := (congrArg (fun b => decode b 14) cd_153).trans dX8_hurries_14
theorem e153_17 : decode (ma_cd 153) 17 = .ok (.goto 4, 3) := (congrArg (fun b => decode b 17) cd_153).trans dX8_hurries_17
theorem e153_20 : decode (ma_cd 153) 20 = .ok (.iconst (-1), 1) := (congrArg (fun b => decode b 20) cd_153).trans dX8_hurries_20
theorem e153_21 : decode (ma_cd 153) 21 = .ok (.ireturn, 1) := (congrArg (fun b => decode b 21) cd_153).trans dX8_hurries_21
theorem S153 {ro : ma_RO} {d : Nat} : (∀ (v0 : Option Value) (x1 : Int32) (st : List Value) (σ : ma_H), ma_rn ro d 153 (0, [v0, some (.int x1)], st, SH, σ) = ma_rn ro d 153 (1, [v0, some (.int x1)], .int x1 :: st, SH, σ)) ∧
  (∀ (v0 : Option Value) (v1 : Option Value) (st : List Value) (σ : ma_H), ma_rn ro d 153 (1, [v0, v1], st, SH, σ) = ma_rn ro d 153 (2, [v0, v1], .int (nI 0) :: st, SH, σ)) ∧
  (∀ (v0 : Option Value) (v1 : Option Value) (st : List Value) (σ : ma_H), ma_rn ro d 153 (2, [v0, v1], st, SH, σ) = ma_rn ro d 153 (3, [v0, v1], .int (nI 1) :: st, SH, σ)) ∧
  (∀ (v0 : Option Value) (v1 : Option Value) (x1 : Int32) (x2 : Int32) (x3 : Int32) (σ : ma_H), ma_rn ro (d + 1) 153 (3, [v0, v1], .int x3 :: .int x2 :: .int x1 :: [], SH, σ) = (ma_ev ro d 102 [.int x1, .int x2, .int x3] SH σ).bind (fun q => ma_rn ro (d + 1) 153 (6, [v0, v1], (q.1.toList ++ []), q.2.1, q.2.2))) ∧
  (∀ (v0 : Option Value) (v1 : Option Value) (x1 : Int32) (st : List Value) (σ : ma_H), ma_rn ro d 153 (6, [v0, v1], .int x1 :: st, SH, σ) = if x1 = nI 0 then ma_rn ro d 153 (20, [v0, v1], st, SH, σ) else ma_rn ro d 153 (9, [v0, v1], st, SH, σ)) ∧
  (∀ (v1 : Option Value) (a1 : Nat) (st : List Value) (σ : ma_H), ma_rn ro d 153 (9, [some (.ref a1), v1], st, SH, σ) = ma_rn ro d 153 (10, [some (.ref a1), v1], .ref a1 :: st, SH, σ)) ∧
  (∀ (v0 : Option Value) (v1 : Option Value) (st : List Value) (σ : ma_H), ma_rn ro d 153 (10, [v0, v1], st, SH, σ) = ma_rn ro d 153 (11, [v0, v1], .int (nI 1) :: st, SH, σ)) ∧
  (∀ (v0 : Option Value) (v1 : Option Value) (st : List Value) (σ : ma_H), ma_rn ro d 153 (11, [v0, v1], st, SH, σ) = ma_rn ro d 153 (13, [v0, v1], .int (nI 20) :: st, SH, σ)) ∧
  (∀ (v0 : Option Value) (x1 : Int32) (st : List Value) (σ : ma_H), ma_rn ro d 153 (13, [v0, some (.int x1)], st, SH, σ) = ma_rn ro d 153 (14, [v0, some (.int x1)], .int x1 :: st, SH, σ)) ∧
  (∀ (v0 : Option Value) (v1 : Option Value) (x1 : Int32) (x2 : Int32) (x3 : Int32) (a0 : Nat) (σ : ma_H) (hc : hk_cls a0 = 8), ma_rn ro (d + 1) 153 (14, [v0, v1], .int x3 :: .int x2 :: .int x1 :: .ref a0 :: [], SH, σ) = (ma_ev ro d 152 [.ref a0, .int x1, .int x2, .int x3] SH σ).bind (fun q => ma_rn ro (d + 1) 153 (17, [v0, v1], (q.1.toList ++ []), q.2.1, q.2.2))) ∧
  (∀ (v0 : Option Value) (v1 : Option Value) (st : List Value) (σ : ma_H), ma_rn ro d 153 (17, [v0, v1], st, SH, σ) = ma_rn ro d 153 (21, [v0, v1], st, SH, σ)) ∧
  (∀ (v0 : Option Value) (v1 : Option Value) (st : List Value) (σ : ma_H), ma_rn ro d 153 (20, [v0, v1], st, SH, σ) = ma_rn ro d 153 (21, [v0, v1], .int ((-1)) :: st, SH, σ)) ∧
  (∀ (v0 : Option Value) (v1 : Option Value) (x1 : Int32) (σ : ma_H), ma_rn ro d 153 (21, [v0, v1], [.int x1], SH, σ) = some (some (.int x1), SH, σ)) := ⟨fun v0 x1 st σ => q_go e153_0 rfl rfl,
  fun v0 v1 st σ => q_iconst e153_1 (by decide),
  fun v0 v1 st σ => q_iconst e153_2 (by decide),
  fun v0 v1 x1 x2 x3 σ => q_invS (as := [.int x1, .int x2, .int x3]) (rest := []) e153_3 o_153 bn_8_35 c_8_35 ⟨m_102.1, m_102.2.1, m_102.2.2.1⟩ rfl rfl (Nat.le_of_ble_eq_true rfl) (Nat.le_of_ble_eq_true rfl),
  fun v0 v1 x1 st σ => (q_if e153_6 rfl).trans q_eq,
  fun v1 a1 st σ => q_go e153_9 rfl rfl,
  fun v0 v1 st σ => q_iconst e153_10 (by decide),
  fun v0 v1 st σ => q_bipush e153_11 (by decide),
  fun v0 x1 st σ => q_go e153_13 rfl rfl,
  fun v0 v1 x1 x2 x3 a0 σ hc => q_invV (as := [.int x1, .int x2, .int x3]) (rest := []) e153_14 o_153 bn_8_189 c_8_189 m_152 (by decide) rfl rfl (Nat.le_of_ble_eq_true rfl) (Nat.le_of_ble_eq_true rfl) hc,
  fun v0 v1 st σ => q_goto e153_17 rfl,
  fun v0 v1 st σ => q_iconst e153_20 (by decide),
  fun v0 v1 x1 σ => q_iret e153_21 r_153⟩
theorem E153 {ro : ma_RO} {d : Nat} (a0 : Nat) (x1 : Int32) (sh : List ma_Sh) (σ : ma_H) : ma_ev ro d 153 [.ref a0, .int x1] sh σ = ma_rn ro d 153 (0, [some (.ref a0), some (.int x1)], [], sh, σ) := q_ent x_153 rfl
theorem e154_0 : decode (ma_cd 154) 0 = .ok (.aload_n 0, 1) := (congrArg (fun b => decode b 0) cd_154).trans dX8_firm_0
theorem e154_1 : decode (ma_cd 154) 1 = .ok (.iload_n 1, 1) := (congrArg (fun b => decode b 1) cd_154).trans dX8_firm_1
theorem e154_2 : decode (ma_cd 154) 2 = .ok (.invokevirtual 129, 3) := (congrArg (fun b => decode b 2) cd_154).trans dX8_firm_2
theorem e154_5 : decode (ma_cd 154) 5 = .ok (.ifCond .eq 26, 3) := (congrArg (fun b => decode b 5) cd_154).trans dX8_firm_5
theorem e154_8 : decode (ma_cd 154) 8 = .ok (.iload_n 2, 1) := (congrArg (fun b => decode b 8) cd_154).trans dX8_firm_8
theorem e154_9 : decode (ma_cd 154) 9 = .ok (.iconst 0, 1) := (congrArg (fun b => decode b 9) cd_154).trans dX8_firm_9
theorem e154_10 : decode (ma_cd 154) 10 = .ok (.iconst 1, 1) := (congrArg (fun b => decode b 10) cd_154).trans dX8_firm_10
theorem e154_11 : decode (ma_cd 154) 11 = .ok (.invokestatic 35, 3) := (congrArg (fun b => decode b 11) cd_154).trans dX8_firm_11
theorem e154_14 : decode (ma_cd 154) 14 = .ok (.ifCond .eq 17, 3) := (congrArg (fun b => decode b 14) cd_154).trans dX8_firm_14
theorem e154_17 : decode (ma_cd 154) 17 = .ok (.aload_n 0, 1) := (congrArg (fun b => decode b 17) cd_154).trans dX8_firm_17
theorem e154_18 : decode (ma_cd 154) 18 = .ok (.bipush 46, 2) := (congrArg (fun b => decode b 18) cd_154).trans dX8_firm_18
theorem e154_20 : decode (ma_cd 154) 20 = .ok (.iload_n 1, 1) := (congrArg (fun b => decode b 20) cd_154).trans dX8_firm_20
theorem e154_21 : decode (ma_cd 154) 21 = .ok (.iadd, 1) := (congrArg (fun b => decode b 21) cd_154).trans dX8_firm_21
theorem e154_22 : decode (ma_cd 154) 22 = .ok (.bipush 9, 2) := (congrArg (fun b => decode b 22) cd_154).trans dX8_firm_22
theorem e154_24 : decode (ma_cd 154) 24 = .ok (.iload_n 2, 1) := (congrArg (fun b => decode b 24) cd_154).trans dX8_firm_24
theorem e154_25 : decode (ma_cd 154) 25 = .ok (.invokevirtual 189, 3) := (congrArg (fun b => decode b 25) cd_154).trans dX8_firm_25
theorem e154_28 : decode (ma_cd 154) 28 = .ok (.goto 4, 3) := (congrArg (fun b => decode b 28) cd_154).trans dX8_firm_28
theorem e154_31 : decode (ma_cd 154) 31 = .ok (.iconst (-1), 1) := (congrArg (fun b => decode b 31) cd_154).trans dX8_firm_31
theorem e154_32 : decode (ma_cd 154) 32 = .ok (.ireturn, 1) := (congrArg (fun b => decode b 32) cd_154).trans dX8_firm_32
theorem S154 {ro : ma_RO} {d : Nat} : (∀ (v1 : Option Value) (v2 : Option Value) (a1 : Nat) (st : List Value) (σ : ma_H), ma_rn ro d 154 (0, [some (.ref a1), v1, v2], st, SH, σ) = ma_rn ro d 154 (1, [some (.ref a1), v1, v2], .ref a1 :: st, SH, σ)) ∧
  (∀ (v0 : Option Value) (v2 : Option Value) (x1 : Int32) (st : List Value) (σ : ma_H), ma_rn ro d 154 (1, [v0, some (.int x1), v2], st, SH, σ) = ma_rn ro d 154 (2, [v0, some (.int x1), v2], .int x1 :: st, SH, σ)) ∧
  (∀ (v0 : Option Value) (v1 : Option Value) (v2 : Option Value) (x1 : Int32) (a0 : Nat) (σ : ma_H) (hc : hk_cls a0 = 8), ma_rn ro (d + 1) 154 (2, [v0, v1, v2], .int x1 :: .ref a0 :: [], SH, σ) = (ma_ev ro d 103 [.ref a0, .int x1] SH σ).bind (fun q => ma_rn ro (d + 1) 154 (5, [v0, v1, v2], (q.1.toList ++ []), q.2.1, q.2.2))) ∧
  (∀ (v0 : Option Value) (v1 : Option Value) (v2 : Option Value) (x1 : Int32) (st : List Value) (σ : ma_H), ma_rn ro d 154 (5, [v0, v1, v2], .int x1 :: st, SH, σ) = if x1 = nI 0 then ma_rn ro d 154 (31, [v0, v1, v2], st, SH, σ) else ma_rn ro d 154 (8, [v0, v1, v2], st, SH, σ)) ∧
  (∀ (v0 : Option Value) (v1 : Option Value) (x1 : Int32) (st : List Value) (σ : ma_H), ma_rn ro d 154 (8, [v0, v1, some (.int x1)], st, SH, σ) = ma_rn ro d 154 (9, [v0, v1, some (.int x1)], .int x1 :: st, SH, σ)) ∧
  (∀ (v0 : Option Value) (v1 : Option Value) (v2 : Option Value) (st : List Value) (σ : ma_H), ma_rn ro d 154 (9, [v0, v1, v2], st, SH, σ) = ma_rn ro d 154 (10, [v0, v1, v2], .int (nI 0) :: st, SH, σ)) ∧
  (∀ (v0 : Option Value) (v1 : Option Value) (v2 : Option Value) (st : List Value) (σ : ma_H), ma_rn ro d 154 (10, [v0, v1, v2], st, SH, σ) = ma_rn ro d 154 (11, [v0, v1, v2], .int (nI 1) :: st, SH, σ)) ∧
  (∀ (v0 : Option Value) (v1 : Option Value) (v2 : Option Value) (x1 : Int32) (x2 : Int32) (x3 : Int32) (σ : ma_H), ma_rn ro (d + 1) 154 (11, [v0, v1, v2], .int x3 :: .int x2 :: .int x1 :: [], SH, σ) = (ma_ev ro d 102 [.int x1, .int x2, .int x3] SH σ).bind (fun q => ma_rn ro (d + 1) 154 (14, [v0, v1, v2], (q.1.toList ++ []), q.2.1, q.2.2))) ∧
  (∀ (v0 : Option Value) (v1 : Option Value) (v2 : Option Value) (x1 : Int32) (st : List Value) (σ : ma_H), ma_rn ro d 154 (14, [v0, v1, v2], .int x1 :: st, SH, σ) = if x1 = nI 0 then ma_rn ro d 154 (31, [v0, v1, v2], st, SH, σ) else ma_rn ro d 154 (17, [v0, v1, v2], st, SH, σ)) ∧
  (∀ (v1 : Option Value) (v2 : Option Value) (a1 : Nat) (st : List Value) (σ : ma_H), ma_rn ro d 154 (17, [some (.ref a1), v1, v2], st, SH, σ) = ma_rn ro d 154 (18, [some (.ref a1), v1, v2], .ref a1 :: st, SH, σ)) ∧
  (∀ (v0 : Option Value) (v1 : Option Value) (v2 : Option Value) (st : List Value) (σ : ma_H), ma_rn ro d 154 (18, [v0, v1, v2], st, SH, σ) = ma_rn ro d 154 (20, [v0, v1, v2], .int (nI 46) :: st, SH, σ)) ∧
  (∀ (v0 : Option Value) (v2 : Option Value) (x1 : Int32) (st : List Value) (σ : ma_H), ma_rn ro d 154 (20, [v0, some (.int x1), v2], st, SH, σ) = ma_rn ro d 154 (21, [v0, some (.int x1), v2], .int x1 :: st, SH, σ)) ∧
  (∀ (v0 : Option Value) (v1 : Option Value) (v2 : Option Value) (x1 : Int32) (x2 : Int32) (st : List Value) (σ : ma_H), ma_rn ro d 154 (21, [v0, v1, v2], .int x1 :: .int x2 :: st, SH, σ) = ma_rn ro d 154 (22, [v0, v1, v2], .int (x2 + x1) :: st, SH, σ)) ∧
  (∀ (v0 : Option Value) (v1 : Option Value) (v2 : Option Value) (st : List Value) (σ : ma_H), ma_rn ro d 154 (22, [v0, v1, v2], st, SH, σ) = ma_rn ro d 154 (24, [v0, v1, v2], .int (nI 9) :: st, SH, σ)) ∧
  (∀ (v0 : Option Value) (v1 : Option Value) (x1 : Int32) (st : List Value) (σ : ma_H), ma_rn ro d 154 (24, [v0, v1, some (.int x1)], st, SH, σ) = ma_rn ro d 154 (25, [v0, v1, some (.int x1)], .int x1 :: st, SH, σ)) ∧
  (∀ (v0 : Option Value) (v1 : Option Value) (v2 : Option Value) (x1 : Int32) (x2 : Int32) (x3 : Int32) (a0 : Nat) (σ : ma_H) (hc : hk_cls a0 = 8), ma_rn ro (d + 1) 154 (25, [v0, v1, v2], .int x3 :: .int x2 :: .int x1 :: .ref a0 :: [], SH, σ) = (ma_ev ro d 152 [.ref a0, .int x1, .int x2, .int x3] SH σ).bind (fun q => ma_rn ro (d + 1) 154 (28, [v0, v1, v2], (q.1.toList ++ []), q.2.1, q.2.2))) ∧
  (∀ (v0 : Option Value) (v1 : Option Value) (v2 : Option Value) (st : List Value) (σ : ma_H), ma_rn ro d 154 (28, [v0, v1, v2], st, SH, σ) = ma_rn ro d 154 (32, [v0, v1, v2], st, SH, σ)) ∧
  (∀ (v0 : Option Value) (v1 : Option Value) (v2 : Option Value) (st : List Value) (σ : ma_H), ma_rn ro d 154 (31, [v0, v1, v2], st, SH, σ) = ma_rn ro d 154 (32, [v0, v1, v2], .int ((-1)) :: st, SH, σ)) ∧
  (∀ (v0 : Option Value) (v1 : Option Value) (v2 : Option Value) (x1 : Int32) (σ : ma_H), ma_rn ro d 154 (32, [v0, v1, v2], [.int x1], SH, σ) = some (some (.int x1), SH, σ)) := ⟨fun v1 v2 a1 st σ => q_go e154_0 rfl rfl,
  fun v0 v2 x1 st σ => q_go e154_1 rfl rfl,
  fun v0 v1 v2 x1 a0 σ hc => q_invV (as := [.int x1]) (rest := []) e154_2 o_154 bn_8_129 c_8_129 m_103 (by decide) rfl rfl (Nat.le_of_ble_eq_true rfl) (Nat.le_of_ble_eq_true rfl) hc,
  fun v0 v1 v2 x1 st σ => (q_if e154_5 rfl).trans q_eq,
  fun v0 v1 x1 st σ => q_go e154_8 rfl rfl,
  fun v0 v1 v2 st σ => q_iconst e154_9 (by decide),
  fun v0 v1 v2 st σ => q_iconst e154_10 (by decide),
  fun v0 v1 v2 x1 x2 x3 σ => q_invS (as := [.int x1, .int x2, .int x3]) (rest := []) e154_11 o_154 bn_8_35 c_8_35 ⟨m_102.1, m_102.2.1, m_102.2.2.1⟩ rfl rfl (Nat.le_of_ble_eq_true rfl) (Nat.le_of_ble_eq_true rfl),
  fun v0 v1 v2 x1 st σ => (q_if e154_14 rfl).trans q_eq,
  fun v1 v2 a1 st σ => q_go e154_17 rfl rfl,
  fun v0 v1 v2 st σ => q_bipush e154_18 (by decide),
  fun v0 v2 x1 st σ => q_go e154_20 rfl rfl,
  fun v0 v1 v2 x1 x2 st σ => q_go e154_21 rfl rfl,
  fun v0 v1 v2 st σ => q_bipush e154_22 (by decide),
  fun v0 v1 x1 st σ => q_go e154_24 rfl rfl,
  fun v0 v1 v2 x1 x2 x3 a0 σ hc => q_invV (as := [.int x1, .int x2, .int x3]) (rest := []) e154_25 o_154 bn_8_189 c_8_189 m_152 (by decide) rfl rfl (Nat.le_of_ble_eq_true rfl) (Nat.le_of_ble_eq_true rfl) hc,
  fun v0 v1 v2 st σ => q_goto e154_28 rfl,
  fun v0 v1 v2 st σ => q_iconst e154_31 (by decide),
  fun v0 v1 v2 x1 σ => q_iret e154_32 r_154⟩
theorem E154 {ro : ma_RO} {d : Nat} (a0 : Nat) (x1 : Int32) (x2 : Int32) (sh : List ma_Sh) (σ : ma_H) : ma_ev ro d 154 [.ref a0, .int x1, .int x2] sh σ = ma_rn ro d 154 (0, [some (.ref a0), some (.int x1), some (.int x2)], [], sh, σ) := q_ent x_154 rfl
theorem e155_0 : decode (ma_cd 155) 0 = .ok (.aload_n 0, 1) := (congrArg (fun b => decode b 0) cd_155).trans dX8_alikes_0
theorem e155_1 : decode (ma_cd 155) 1 = .ok (.iload_n 1, 1) := (congrArg (fun b => decode b 1) cd_155).trans dX8_alikes_1
theorem e155_2 : decode (ma_cd 155) 2 = .ok (.invokevirtual 129, 3) := (congrArg (fun b => decode b 2) cd_155).trans dX8_alikes_2
theorem e155_5 : decode (ma_cd 155) 5 = .ok (.ifCond .ne 5, 3) := (congrArg (fun b => decode b 5) cd_155).trans dX8_alikes_5
theorem e155_8 : decode (ma_cd 155) 8 = .ok (.iconst (-1), 1) := (congrArg (fun b => decode b 8) cd_155).trans dX8_alikes_8
theorem e155_9 : decode (ma_cd 155) 9 = .ok (.ireturn, 1) := (congrArg (fun b => decode b 9) cd_155).trans dX8_alikes_9
theorem e155_10 : decode (ma_cd 155) 10 = .ok (.iconst 0, 1) := (congrArg (fun b => decode b 10) cd_155).trans dX8_alikes_10
theorem e155_11 : decode (ma_cd 155) 11 = .ok (.istore_n 2, 1) := (congrArg (fun b => decode b 11) cd_155).trans dX8_alikes_11
theorem e155_12 : decode (ma_cd 155) 12 = .ok (.iconst 0, 1) := (congrArg (fun b => decode b 12) cd_155).trans dX8_alikes_12
theorem e155_13 : decode (ma_cd 155) 13 = .ok (.istore_n 3, 1) := (congrArg (fun b => decode b 13) cd_155).trans dX8_alikes_13
theorem e155_14 : decode (ma_cd 155) 14 = .ok (.iload_n 3, 1) := (congrArg (fun b => decode b 14) cd_155).trans dX8_alikes_14
theorem e155_15 : decode (ma_cd 155) 15 = .ok (.bipush 10, 2) := (congrArg (fun b => decode b 15) cd_155).trans dX8_alikes_15
theorem e155_17 : decode (ma_cd 155) 17 = .ok (.if_icmp .ge 34, 3) := (congrArg (fun b => decode b 17) cd_155).trans dX8_alikes_17
theorem e155_20 : decode (ma_cd 155) 20 = .ok (.iload_n 2, 1) := (congrArg (fun b => decode b 20) cd_155).trans dX8_alikes_20
theorem e155_21 : decode (ma_cd 155) 21 = .ok (.aload_n 0, 1) := (congrArg (fun b => decode b 21) cd_155).trans dX8_alikes_21
theorem e155_22 : decode (ma_cd 155) 22 = .ok (.bipush 15, 2) := (congrArg (fun b => decode b 22) cd_155).trans dX8_alikes_22
theorem e155_24 : decode (ma_cd 155) 24 = .ok (.iload_n 1, 1) := (congrArg (fun b => decode b 24) cd_155).trans dX8_alikes_24
theorem e155_25 : decode (ma_cd 155) 25 = .ok (.iadd, 1) := (congrArg (fun b => decode b 25) cd_155).trans dX8_alikes_25
theorem e155_26 : decode (ma_cd 155) 26 = .ok (.bipush 10, 2) := (congrArg (fun b => decode b 26) cd_155).trans dX8_alikes_26
theorem e155_28 : decode (ma_cd 155) 28 = .ok (.iload_n 3, 1) := (congrArg (fun b => decode b 28) cd_155).trans dX8_alikes_28
theorem e155_29 : decode (ma_cd 155) 29 = .ok (.imul, 1) := (congrArg (fun b => decode b 29) cd_155).trans dX8_alikes_29
theorem e155_30 : decode (ma_cd 155) 30 = .ok (.invokevirtual 185, 3) := (congrArg (fun b => decode b 30) cd_155).trans dX8_alikes_30
theorem e155_33 : decode (ma_cd 155) 33 = .ok (.ifCond .eq 9, 3) := (congrArg (fun b => decode b 33) cd_155).trans dX8_alikes_33
theorem e155_36 : decode (ma_cd 155) 36 = .ok (.iconst 1, 1) := (congrArg (fun b => decode b 36) cd_155).trans dX8_alikes_36
theorem e155_37 : decode (ma_cd 155) 37 = .ok (.iload_n 3, 1) := (congrArg (fun b => decode b 37) cd_155).trans dX8_alikes_37
theorem e155_38 : decode (ma_cd 155) 38 = .ok (.ishl, 1) := (congrArg (fun b => decode b 38) cd_155).trans dX8_alikes_38
theorem e155_39 : decode (ma_cd 155) 39 = .ok (.goto 4, 3) := (congrArg (fun b => decode b 39) cd_155).trans dX8_alikes_39
theorem e155_42 : decode (ma_cd 155) 42 = .ok (.iconst 0, 1) := (congrArg (fun b => decode b 42) cd_155).trans dX8_alikes_42
theorem e155_43 : decode (ma_cd 155) 43 = .ok (.ior, 1) := (congrArg (fun b => decode b 43) cd_155).trans dX8_alikes_43
theorem e155_44 : decode (ma_cd 155) 44 = .ok (.istore_n 2, 1) := (congrArg (fun b => decode b 44) cd_155).trans dX8_alikes_44
theorem e155_45 : decode (ma_cd 155) 45 = .ok (.iinc 3 1, 3) := (congrArg (fun b => decode b 45) cd_155).trans dX8_alikes_45
theorem e155_48 : decode (ma_cd 155) 48 = .ok (.goto (-34), 3) := (congrArg (fun b => decode b 48) cd_155).trans dX8_alikes_48
theorem e155_51 : decode (ma_cd 155) 51 = .ok (.iload_n 2, 1) := (congrArg (fun b => decode b 51) cd_155).trans dX8_alikes_51
theorem e155_52 : decode (ma_cd 155) 52 = .ok (.ireturn, 1) := (congrArg (fun b => decode b 52) cd_155).trans dX8_alikes_52
theorem Sh155_14 {ro : ma_RO} {d : Nat} : (∀ (v0 : Option Value) (v1 : Option Value) (v2 : Option Value) (x1 : Int32) (st : List Value) (σ : ma_H), ma_rn ro d 155 (14, [v0, v1, v2, some (.int x1)], st, SH, σ) = ma_rn ro d 155 (15, [v0, v1, v2, some (.int x1)], .int x1 :: st, SH, σ)) := fun v0 v1 v2 x1 st σ => q_go e155_14 rfl rfl
theorem S155 {ro : ma_RO} {d : Nat} : (∀ (v1 : Option Value) (v2 : Option Value) (v3 : Option Value) (a1 : Nat) (st : List Value) (σ : ma_H), ma_rn ro d 155 (0, [some (.ref a1), v1, v2, v3], st, SH, σ) = ma_rn ro d 155 (1, [some (.ref a1), v1, v2, v3], .ref a1 :: st, SH, σ)) ∧
  (∀ (v0 : Option Value) (v2 : Option Value) (v3 : Option Value) (x1 : Int32) (st : List Value) (σ : ma_H), ma_rn ro d 155 (1, [v0, some (.int x1), v2, v3], st, SH, σ) = ma_rn ro d 155 (2, [v0, some (.int x1), v2, v3], .int x1 :: st, SH, σ)) ∧
  (∀ (v0 : Option Value) (v1 : Option Value) (v2 : Option Value) (v3 : Option Value) (x1 : Int32) (a0 : Nat) (σ : ma_H) (hc : hk_cls a0 = 8), ma_rn ro (d + 1) 155 (2, [v0, v1, v2, v3], .int x1 :: .ref a0 :: [], SH, σ) = (ma_ev ro d 103 [.ref a0, .int x1] SH σ).bind (fun q => ma_rn ro (d + 1) 155 (5, [v0, v1, v2, v3], (q.1.toList ++ []), q.2.1, q.2.2))) ∧
  (∀ (v0 : Option Value) (v1 : Option Value) (v2 : Option Value) (v3 : Option Value) (x1 : Int32) (st : List Value) (σ : ma_H), ma_rn ro d 155 (5, [v0, v1, v2, v3], .int x1 :: st, SH, σ) = if x1 = nI 0 then ma_rn ro d 155 (8, [v0, v1, v2, v3], st, SH, σ) else ma_rn ro d 155 (10, [v0, v1, v2, v3], st, SH, σ)) ∧
  (∀ (v0 : Option Value) (v1 : Option Value) (v2 : Option Value) (v3 : Option Value) (st : List Value) (σ : ma_H), ma_rn ro d 155 (8, [v0, v1, v2, v3], st, SH, σ) = ma_rn ro d 155 (9, [v0, v1, v2, v3], .int ((-1)) :: st, SH, σ)) ∧
  (∀ (v0 : Option Value) (v1 : Option Value) (v2 : Option Value) (v3 : Option Value) (x1 : Int32) (σ : ma_H), ma_rn ro d 155 (9, [v0, v1, v2, v3], [.int x1], SH, σ) = some (some (.int x1), SH, σ)) ∧
  (∀ (v0 : Option Value) (v1 : Option Value) (v2 : Option Value) (v3 : Option Value) (st : List Value) (σ : ma_H), ma_rn ro d 155 (10, [v0, v1, v2, v3], st, SH, σ) = ma_rn ro d 155 (11, [v0, v1, v2, v3], .int (nI 0) :: st, SH, σ)) ∧
  (∀ (v0 : Option Value) (v2 : Option Value) (v3 : Option Value) (x9 : Int32) (x1 : Int32) (st : List Value) (σ : ma_H), ma_rn ro d 155 (11, [v0, some (.int x9), v2, v3], .int x1 :: st, SH, σ) = ma_rn ro d 155 (12, [v0, some (.int x9), some (.int x1), v3], st, SH, σ)) ∧
  (∀ (v0 : Option Value) (v1 : Option Value) (v2 : Option Value) (v3 : Option Value) (st : List Value) (σ : ma_H), ma_rn ro d 155 (12, [v0, v1, v2, v3], st, SH, σ) = ma_rn ro d 155 (13, [v0, v1, v2, v3], .int (nI 0) :: st, SH, σ)) ∧
  (∀ (v0 : Option Value) (v1 : Option Value) (v3 : Option Value) (x9 : Int32) (x1 : Int32) (st : List Value) (σ : ma_H), ma_rn ro d 155 (13, [v0, v1, some (.int x9), v3], .int x1 :: st, SH, σ) = ma_rn ro d 155 (14, [v0, v1, some (.int x9), some (.int x1)], st, SH, σ)) ∧
  (∀ (v0 : Option Value) (v1 : Option Value) (v2 : Option Value) (v3 : Option Value) (st : List Value) (σ : ma_H), ma_rn ro d 155 (15, [v0, v1, v2, v3], st, SH, σ) = ma_rn ro d 155 (17, [v0, v1, v2, v3], .int (nI 10) :: st, SH, σ)) ∧
  (∀ (v0 : Option Value) (v1 : Option Value) (v2 : Option Value) (v3 : Option Value) (x1 : Int32) (x2 : Int32) (st : List Value) (σ : ma_H), ma_rn ro d 155 (17, [v0, v1, v2, v3], .int x1 :: .int x2 :: st, SH, σ) = if x2 < x1 then ma_rn ro d 155 (20, [v0, v1, v2, v3], st, SH, σ) else ma_rn ro d 155 (51, [v0, v1, v2, v3], st, SH, σ)) ∧
  (∀ (v0 : Option Value) (v1 : Option Value) (v3 : Option Value) (x1 : Int32) (st : List Value) (σ : ma_H), ma_rn ro d 155 (20, [v0, v1, some (.int x1), v3], st, SH, σ) = ma_rn ro d 155 (21, [v0, v1, some (.int x1), v3], .int x1 :: st, SH, σ)) ∧
  (∀ (v1 : Option Value) (v2 : Option Value) (v3 : Option Value) (a1 : Nat) (st : List Value) (σ : ma_H), ma_rn ro d 155 (21, [some (.ref a1), v1, v2, v3], st, SH, σ) = ma_rn ro d 155 (22, [some (.ref a1), v1, v2, v3], .ref a1 :: st, SH, σ)) ∧
  (∀ (v0 : Option Value) (v1 : Option Value) (v2 : Option Value) (v3 : Option Value) (st : List Value) (σ : ma_H), ma_rn ro d 155 (22, [v0, v1, v2, v3], st, SH, σ) = ma_rn ro d 155 (24, [v0, v1, v2, v3], .int (nI 15) :: st, SH, σ)) ∧
  (∀ (v0 : Option Value) (v2 : Option Value) (v3 : Option Value) (x1 : Int32) (st : List Value) (σ : ma_H), ma_rn ro d 155 (24, [v0, some (.int x1), v2, v3], st, SH, σ) = ma_rn ro d 155 (25, [v0, some (.int x1), v2, v3], .int x1 :: st, SH, σ)) ∧
  (∀ (v0 : Option Value) (v1 : Option Value) (v2 : Option Value) (v3 : Option Value) (x1 : Int32) (x2 : Int32) (st : List Value) (σ : ma_H), ma_rn ro d 155 (25, [v0, v1, v2, v3], .int x1 :: .int x2 :: st, SH, σ) = ma_rn ro d 155 (26, [v0, v1, v2, v3], .int (x2 + x1) :: st, SH, σ)) ∧
  (∀ (v0 : Option Value) (v1 : Option Value) (v2 : Option Value) (v3 : Option Value) (st : List Value) (σ : ma_H), ma_rn ro d 155 (26, [v0, v1, v2, v3], st, SH, σ) = ma_rn ro d 155 (28, [v0, v1, v2, v3], .int (nI 10) :: st, SH, σ)) ∧
  (∀ (v0 : Option Value) (v1 : Option Value) (v2 : Option Value) (x1 : Int32) (st : List Value) (σ : ma_H), ma_rn ro d 155 (28, [v0, v1, v2, some (.int x1)], st, SH, σ) = ma_rn ro d 155 (29, [v0, v1, v2, some (.int x1)], .int x1 :: st, SH, σ)) ∧
  (∀ (v0 : Option Value) (v1 : Option Value) (v2 : Option Value) (v3 : Option Value) (x1 : Int32) (x2 : Int32) (st : List Value) (σ : ma_H), ma_rn ro d 155 (29, [v0, v1, v2, v3], .int x1 :: .int x2 :: st, SH, σ) = ma_rn ro d 155 (30, [v0, v1, v2, v3], .int (x2 * x1) :: st, SH, σ)) ∧
  (∀ (v0 : Option Value) (v1 : Option Value) (v2 : Option Value) (v3 : Option Value) (x20 : Int32) (x1 : Int32) (x2 : Int32) (a0 : Nat) (σ : ma_H) (hc : hk_cls a0 = 8), ma_rn ro (d + 1) 155 (30, [v0, v1, v2, v3], .int x2 :: .int x1 :: .ref a0 :: .int x20 :: [], SH, σ) = (ma_ev ro d 151 [.ref a0, .int x1, .int x2] SH σ).bind (fun q => ma_rn ro (d + 1) 155 (33, [v0, v1, v2, v3], (q.1.toList ++ (.int x20 :: [])), q.2.1, q.2.2))) ∧
  (∀ (v0 : Option Value) (v1 : Option Value) (v2 : Option Value) (v3 : Option Value) (x1 : Int32) (st : List Value) (σ : ma_H), ma_rn ro d 155 (33, [v0, v1, v2, v3], .int x1 :: st, SH, σ) = if x1 = nI 0 then ma_rn ro d 155 (42, [v0, v1, v2, v3], st, SH, σ) else ma_rn ro d 155 (36, [v0, v1, v2, v3], st, SH, σ)) ∧
  (∀ (v0 : Option Value) (v1 : Option Value) (v2 : Option Value) (v3 : Option Value) (st : List Value) (σ : ma_H), ma_rn ro d 155 (36, [v0, v1, v2, v3], st, SH, σ) = ma_rn ro d 155 (37, [v0, v1, v2, v3], .int (nI 1) :: st, SH, σ)) ∧
  (∀ (v0 : Option Value) (v1 : Option Value) (v2 : Option Value) (x1 : Int32) (st : List Value) (σ : ma_H), ma_rn ro d 155 (37, [v0, v1, v2, some (.int x1)], st, SH, σ) = ma_rn ro d 155 (38, [v0, v1, v2, some (.int x1)], .int x1 :: st, SH, σ)) ∧
  (∀ (v0 : Option Value) (v1 : Option Value) (v2 : Option Value) (v3 : Option Value) (x1 : Int32) (x2 : Int32) (st : List Value) (σ : ma_H), ma_rn ro d 155 (38, [v0, v1, v2, v3], .int x1 :: .int x2 :: st, SH, σ) = ma_rn ro d 155 (39, [v0, v1, v2, v3], .int (x2 <<< (x1 &&& 31)) :: st, SH, σ)) ∧
  (∀ (v0 : Option Value) (v1 : Option Value) (v2 : Option Value) (v3 : Option Value) (st : List Value) (σ : ma_H), ma_rn ro d 155 (39, [v0, v1, v2, v3], st, SH, σ) = ma_rn ro d 155 (43, [v0, v1, v2, v3], st, SH, σ)) ∧
  (∀ (v0 : Option Value) (v1 : Option Value) (v2 : Option Value) (v3 : Option Value) (st : List Value) (σ : ma_H), ma_rn ro d 155 (42, [v0, v1, v2, v3], st, SH, σ) = ma_rn ro d 155 (43, [v0, v1, v2, v3], .int (nI 0) :: st, SH, σ)) ∧
  (∀ (v0 : Option Value) (v1 : Option Value) (v2 : Option Value) (v3 : Option Value) (x1 : Int32) (x2 : Int32) (st : List Value) (σ : ma_H), ma_rn ro d 155 (43, [v0, v1, v2, v3], .int x1 :: .int x2 :: st, SH, σ) = ma_rn ro d 155 (44, [v0, v1, v2, v3], .int (x2 ||| x1) :: st, SH, σ)) ∧
  (∀ (v0 : Option Value) (v2 : Option Value) (v3 : Option Value) (x9 : Int32) (x1 : Int32) (st : List Value) (σ : ma_H), ma_rn ro d 155 (44, [v0, some (.int x9), v2, v3], .int x1 :: st, SH, σ) = ma_rn ro d 155 (45, [v0, some (.int x9), some (.int x1), v3], st, SH, σ)) ∧
  (∀ (v0 : Option Value) (v1 : Option Value) (x1 : Int32) (x9 : Int32) (st : List Value) (σ : ma_H), ma_rn ro d 155 (45, [v0, v1, some (.int x9), some (.int x1)], st, SH, σ) = ma_rn ro d 155 (48, [v0, v1, some (.int x9), some (.int (x1 + nI 1))], st, SH, σ)) ∧
  (∀ (v0 : Option Value) (v1 : Option Value) (v2 : Option Value) (v3 : Option Value) (st : List Value) (σ : ma_H), ma_rn ro d 155 (48, [v0, v1, v2, v3], st, SH, σ) = ma_rn ro d 155 (14, [v0, v1, v2, v3], st, SH, σ)) ∧
  (∀ (v0 : Option Value) (v1 : Option Value) (v3 : Option Value) (x1 : Int32) (st : List Value) (σ : ma_H), ma_rn ro d 155 (51, [v0, v1, some (.int x1), v3], st, SH, σ) = ma_rn ro d 155 (52, [v0, v1, some (.int x1), v3], .int x1 :: st, SH, σ)) ∧
  (∀ (v0 : Option Value) (v1 : Option Value) (v2 : Option Value) (v3 : Option Value) (x1 : Int32) (σ : ma_H), ma_rn ro d 155 (52, [v0, v1, v2, v3], [.int x1], SH, σ) = some (some (.int x1), SH, σ)) := ⟨fun v1 v2 v3 a1 st σ => q_go e155_0 rfl rfl,
  fun v0 v2 v3 x1 st σ => q_go e155_1 rfl rfl,
  fun v0 v1 v2 v3 x1 a0 σ hc => q_invV (as := [.int x1]) (rest := []) e155_2 o_155 bn_8_129 c_8_129 m_103 (by decide) rfl rfl (Nat.le_of_ble_eq_true rfl) (Nat.le_of_ble_eq_true rfl) hc,
  fun v0 v1 v2 v3 x1 st σ => (q_if e155_5 rfl).trans q_ne,
  fun v0 v1 v2 v3 st σ => q_iconst e155_8 (by decide),
  fun v0 v1 v2 v3 x1 σ => q_iret e155_9 r_155,
  fun v0 v1 v2 v3 st σ => q_iconst e155_10 (by decide),
  fun v0 v2 v3 x9 x1 st σ => q_go e155_11 rfl rfl,
  fun v0 v1 v2 v3 st σ => q_iconst e155_12 (by decide),
  fun v0 v1 v3 x9 x1 st σ => q_go e155_13 rfl rfl,
  fun v0 v1 v2 v3 st σ => q_bipush e155_15 (by decide),
  fun v0 v1 v2 v3 x1 x2 st σ => (q_cmp e155_17 rfl).trans q_nlt,
  fun v0 v1 v3 x1 st σ => q_go e155_20 rfl rfl,
  fun v1 v2 v3 a1 st σ => q_go e155_21 rfl rfl,
  fun v0 v1 v2 v3 st σ => q_bipush e155_22 (by decide),
  fun v0 v2 v3 x1 st σ => q_go e155_24 rfl rfl,
  fun v0 v1 v2 v3 x1 x2 st σ => q_go e155_25 rfl rfl,
  fun v0 v1 v2 v3 st σ => q_bipush e155_26 (by decide),
  fun v0 v1 v2 x1 st σ => q_go e155_28 rfl rfl,
  fun v0 v1 v2 v3 x1 x2 st σ => q_go e155_29 rfl rfl,
  fun v0 v1 v2 v3 x20 x1 x2 a0 σ hc => q_invV (as := [.int x1, .int x2]) (rest := .int x20 :: []) e155_30 o_155 bn_8_185 c_8_185 m_151 (by decide) rfl rfl (Nat.le_of_ble_eq_true rfl) (Nat.le_of_ble_eq_true rfl) hc,
  fun v0 v1 v2 v3 x1 st σ => (q_if e155_33 rfl).trans q_eq,
  fun v0 v1 v2 v3 st σ => q_iconst e155_36 (by decide),
  fun v0 v1 v2 x1 st σ => q_go e155_37 rfl rfl,
  fun v0 v1 v2 v3 x1 x2 st σ => q_go e155_38 rfl rfl,
  fun v0 v1 v2 v3 st σ => q_goto e155_39 rfl,
  fun v0 v1 v2 v3 st σ => q_iconst e155_42 (by decide),
  fun v0 v1 v2 v3 x1 x2 st σ => q_go e155_43 rfl rfl,
  fun v0 v2 v3 x9 x1 st σ => q_go e155_44 rfl rfl,
  fun v0 v1 x1 x9 st σ => q_iinc e155_45 rfl rfl (by decide),
  fun v0 v1 v2 v3 st σ => q_goto e155_48 rfl,
  fun v0 v1 v3 x1 st σ => q_go e155_51 rfl rfl,
  fun v0 v1 v2 v3 x1 σ => q_iret e155_52 r_155⟩
theorem E155 {ro : ma_RO} {d : Nat} (a0 : Nat) (x1 : Int32) (sh : List ma_Sh) (σ : ma_H) : ma_ev ro d 155 [.ref a0, .int x1] sh σ = ma_rn ro d 155 (0, [some (.ref a0), some (.int x1), none, none], [], sh, σ) := q_ent x_155 rfl
theorem e156_0 : decode (ma_cd 156) 0 = .ok (.lload_n 0, 1) := (congrArg (fun b => decode b 0) cd_156).trans dX8_lowest_0
theorem e156_1 : decode (ma_cd 156) 1 = .ok (.lconst 0, 1) := (congrArg (fun b => decode b 1) cd_156).trans dX8_lowest_1
theorem e156_2 : decode (ma_cd 156) 2 = .ok (.lcmp, 1) := (congrArg (fun b => decode b 2) cd_156).trans dX8_lowest_2
theorem e156_3 : decode (ma_cd 156) 3 = .ok (.ifCond .ge 8, 3) := (congrArg (fun b => decode b 3) cd_156).trans dX8_lowest_3
theorem e156_6 : decode (ma_cd 156) 6 = .ok (.lload_n 0, 1) := (congrArg (fun b => decode b 6) cd_156).trans dX8_lowest_6
theorem e156_7 : decode (ma_cd 156) 7 = .ok (.lneg, 1) := (congrArg (fun b => decode b 7) cd_156).trans dX8_lowest_7
theorem e156_8 : decode (ma_cd 156) 8 = .ok (.goto 4, 3) := (congrArg (fun b => decode b 8) cd_156).trans dX8_lowest_8
theorem e156_11 : decode (ma_cd 156) 11 = .ok (.lload_n 0, 1) := (congrArg (fun b => decode b 11) cd_156).trans dX8_lowest_11
theorem e156_12 : decode (ma_cd 156) 12 = .ok (.lstore 5, 2) := (congrArg (fun b => decode b 12) cd_156).trans dX8_lowest_12
theorem e156_14 : decode (ma_cd 156) 14 = .ok (.lload_n 2, 1) := (congrArg (fun b => decode b 14) cd_156).trans dX8_lowest_14
theorem e156_15 : decode (ma_cd 156) 15 = .ok (.lstore 7, 2) := (congrArg (fun b => decode b 15) cd_156).trans dX8_lowest_15
theorem e156_17 : decode (ma_cd 156) 17 = .ok (.lload 7, 2) := (congrArg (fun b => decode b 17) cd_156).trans dX8_lowest_17
theorem e156_19 : decode (ma_cd 156) 19 = .ok (.lconst 0, 1) := (congrArg (fun b => decode b 19) cd_156).trans dX8_lowest_19
theorem e156_20 : decode (ma_cd 156) 20 = .ok (.lcmp, 1) := (congrArg (fun b => decode b 20) cd_156).trans dX8_lowest_20
theorem e156_21 : decode (ma_cd 156) 21 = .ok (.ifCond .eq 21, 3) := (congrArg (fun b => decode b 21) cd_156).trans dX8_lowest_21
theorem e156_24 : decode (ma_cd 156) 24 = .ok (.lload 5, 2) := (congrArg (fun b => decode b 24) cd_156).trans dX8_lowest_24
theorem e156_26 : decode (ma_cd 156) 26 = .ok (.lload 7, 2) := (congrArg (fun b => decode b 26) cd_156).trans dX8_lowest_26
theorem e156_28 : decode (ma_cd 156) 28 = .ok (.lrem, 1) := (congrArg (fun b => decode b 28) cd_156).trans dX8_lowest_28
theorem e156_29 : decode (ma_cd 156) 29 = .ok (.lstore 9, 2) := (congrArg (fun b => decode b 29) cd_156).trans dX8_lowest_29
theorem e156_31 : decode (ma_cd 156) 31 = .ok (.lload 7, 2) := (congrArg (fun b => decode b 31) cd_156).trans dX8_lowest_31
theorem e156_33 : decode (ma_cd 156) 33 = .ok (.lstore 5, 2) := (congrArg (fun b => decode b 33) cd_156).trans dX8_lowest_33
theorem e156_35 : decode (ma_cd 156) 35 = .ok (.lload 9, 2) := (congrArg (fun b => decode b 35) cd_156).trans dX8_lowest_35
theorem e156_37 : decode (ma_cd 156) 37 = .ok (.lstore 7, 2) := (congrArg (fun b => decode b 37) cd_156).trans dX8_lowest_37
theorem e156_39 : decode (ma_cd 156) 39 = .ok (.goto (-22), 3) := (congrArg (fun b => decode b 39) cd_156).trans dX8_lowest_39
theorem e156_42 : decode (ma_cd 156) 42 = .ok (.iload 4, 2) := (congrArg (fun b => decode b 42) cd_156).trans dX8_lowest_42
theorem e156_44 : decode (ma_cd 156) 44 = .ok (.ifCond .ne 7, 3) := (congrArg (fun b => decode b 44) cd_156).trans dX8_lowest_44
theorem e156_47 : decode (ma_cd 156) 47 = .ok (.lload_n 0, 1) := (congrArg (fun b => decode b 47) cd_156).trans dX8_lowest_47
theorem e156_48 : decode (ma_cd 156) 48 = .ok (.goto 4, 3) := (congrArg (fun b => decode b 48) cd_156).trans dX8_lowest_48
theorem e156_51 : decode (ma_cd 156) 51 = .ok (.lload_n 2, 1) := (congrArg (fun b => decode b 51) cd_156).trans dX8_lowest_51
theorem e156_52 : decode (ma_cd 156) 52 = .ok (.lload 5, 2) := (congrArg (fun b => decode b 52) cd_156).trans dX8_lowest_52
theorem e156_54 : decode (ma_cd 156) 54 = .ok (.ldiv, 1) := (congrArg (fun b => decode b 54) cd_156).trans dX8_lowest_54
theorem e156_55 : decode (ma_cd 156) 55 = .ok (.lreturn, 1) := (congrArg (fun b => decode b 55) cd_156).trans dX8_lowest_55
theorem Sh156_17 {ro : ma_RO} {d : Nat} : (∀ (v0 : Option Value) (v1 : Option Value) (v2 : Option Value) (v3 : Option Value) (v4 : Option Value) (v5 : Option Value) (v6 : Option Value) (v8 : Option Value) (v9 : Option Value) (v10 : Option Value) (j1 : Int64) (st : List Value) (σ : ma_H), ma_rn ro d 156 (17, [v0, v1, v2, v3, v4, v5, v6, some (.long j1), v8, v9, v10], st, SH, σ) = ma_rn ro d 156 (19, [v0, v1, v2, v3, v4, v5, v6, some (.long j1), v8, v9, v10], .long j1 :: st, SH, σ)) := fun v0 v1 v2 v3 v4 v5 v6 v8 v9 v10 j1 st σ => q_go e156_17 rfl rfl
theorem S156 {ro : ma_RO} {d : Nat} : (∀ (v1 : Option Value) (v2 : Option Value) (v3 : Option Value) (v4 : Option Value) (v5 : Option Value) (v6 : Option Value) (v7 : Option Value) (v8 : Option Value) (v9 : Option Value) (v10 : Option Value) (j1 : Int64) (st : List Value) (σ : ma_H), ma_rn ro d 156 (0, [some (.long j1), v1, v2, v3, v4, v5, v6, v7, v8, v9, v10], st, SH, σ) = ma_rn ro d 156 (1, [some (.long j1), v1, v2, v3, v4, v5, v6, v7, v8, v9, v10], .long j1 :: st, SH, σ)) ∧
  (∀ (v0 : Option Value) (v1 : Option Value) (v2 : Option Value) (v3 : Option Value) (v4 : Option Value) (v5 : Option Value) (v6 : Option Value) (v7 : Option Value) (v8 : Option Value) (v9 : Option Value) (v10 : Option Value) (st : List Value) (σ : ma_H), ma_rn ro d 156 (1, [v0, v1, v2, v3, v4, v5, v6, v7, v8, v9, v10], st, SH, σ) = ma_rn ro d 156 (2, [v0, v1, v2, v3, v4, v5, v6, v7, v8, v9, v10], .long 0 :: st, SH, σ)) ∧
  (∀ (v0 : Option Value) (v1 : Option Value) (v2 : Option Value) (v3 : Option Value) (v4 : Option Value) (v5 : Option Value) (v6 : Option Value) (v7 : Option Value) (v8 : Option Value) (v9 : Option Value) (v10 : Option Value) (j1 : Int64) (j2 : Int64) (st : List Value) (σ : ma_H), ma_rn ro d 156 (2, [v0, v1, v2, v3, v4, v5, v6, v7, v8, v9, v10], .long j1 :: .long j2 :: st, SH, σ) = ma_rn ro d 156 (3, [v0, v1, v2, v3, v4, v5, v6, v7, v8, v9, v10], .int (lg_cmp j2 j1) :: st, SH, σ)) ∧
  (∀ (v0 : Option Value) (v1 : Option Value) (v2 : Option Value) (v3 : Option Value) (v4 : Option Value) (v5 : Option Value) (v6 : Option Value) (v7 : Option Value) (v8 : Option Value) (v9 : Option Value) (v10 : Option Value) (x1 : Int32) (st : List Value) (σ : ma_H), ma_rn ro d 156 (3, [v0, v1, v2, v3, v4, v5, v6, v7, v8, v9, v10], .int x1 :: st, SH, σ) = if x1 < nI 0 then ma_rn ro d 156 (6, [v0, v1, v2, v3, v4, v5, v6, v7, v8, v9, v10], st, SH, σ) else ma_rn ro d 156 (11, [v0, v1, v2, v3, v4, v5, v6, v7, v8, v9, v10], st, SH, σ)) ∧
  (∀ (v1 : Option Value) (v2 : Option Value) (v3 : Option Value) (v4 : Option Value) (v5 : Option Value) (v6 : Option Value) (v7 : Option Value) (v8 : Option Value) (v9 : Option Value) (v10 : Option Value) (j1 : Int64) (st : List Value) (σ : ma_H), ma_rn ro d 156 (6, [some (.long j1), v1, v2, v3, v4, v5, v6, v7, v8, v9, v10], st, SH, σ) = ma_rn ro d 156 (7, [some (.long j1), v1, v2, v3, v4, v5, v6, v7, v8, v9, v10], .long j1 :: st, SH, σ)) ∧
  (∀ (v0 : Option Value) (v1 : Option Value) (v2 : Option Value) (v3 : Option Value) (v4 : Option Value) (v5 : Option Value) (v6 : Option Value) (v7 : Option Value) (v8 : Option Value) (v9 : Option Value) (v10 : Option Value) (j1 : Int64) (st : List Value) (σ : ma_H), ma_rn ro d 156 (7, [v0, v1, v2, v3, v4, v5, v6, v7, v8, v9, v10], .long j1 :: st, SH, σ) = ma_rn ro d 156 (8, [v0, v1, v2, v3, v4, v5, v6, v7, v8, v9, v10], .long (-j1) :: st, SH, σ)) ∧
  (∀ (v0 : Option Value) (v1 : Option Value) (v2 : Option Value) (v3 : Option Value) (v4 : Option Value) (v5 : Option Value) (v6 : Option Value) (v7 : Option Value) (v8 : Option Value) (v9 : Option Value) (v10 : Option Value) (st : List Value) (σ : ma_H), ma_rn ro d 156 (8, [v0, v1, v2, v3, v4, v5, v6, v7, v8, v9, v10], st, SH, σ) = ma_rn ro d 156 (12, [v0, v1, v2, v3, v4, v5, v6, v7, v8, v9, v10], st, SH, σ)) ∧
  (∀ (v1 : Option Value) (v2 : Option Value) (v3 : Option Value) (v4 : Option Value) (v5 : Option Value) (v6 : Option Value) (v7 : Option Value) (v8 : Option Value) (v9 : Option Value) (v10 : Option Value) (j1 : Int64) (st : List Value) (σ : ma_H), ma_rn ro d 156 (11, [some (.long j1), v1, v2, v3, v4, v5, v6, v7, v8, v9, v10], st, SH, σ) = ma_rn ro d 156 (12, [some (.long j1), v1, v2, v3, v4, v5, v6, v7, v8, v9, v10], .long j1 :: st, SH, σ)) ∧
  (∀ (v0 : Option Value) (v1 : Option Value) (v2 : Option Value) (v3 : Option Value) (v5 : Option Value) (v6 : Option Value) (v7 : Option Value) (v8 : Option Value) (v9 : Option Value) (v10 : Option Value) (x9 : Int32) (j1 : Int64) (st : List Value) (σ : ma_H), ma_rn ro d 156 (12, [v0, v1, v2, v3, some (.int x9), v5, v6, v7, v8, v9, v10], .long j1 :: st, SH, σ) = ma_rn ro d 156 (14, [v0, v1, v2, v3, some (.int x9), some (.long j1), none, v7, v8, v9, v10], st, SH, σ)) ∧
  (∀ (v0 : Option Value) (v1 : Option Value) (v3 : Option Value) (v4 : Option Value) (v5 : Option Value) (v6 : Option Value) (v7 : Option Value) (v8 : Option Value) (v9 : Option Value) (v10 : Option Value) (j1 : Int64) (st : List Value) (σ : ma_H), ma_rn ro d 156 (14, [v0, v1, some (.long j1), v3, v4, v5, v6, v7, v8, v9, v10], st, SH, σ) = ma_rn ro d 156 (15, [v0, v1, some (.long j1), v3, v4, v5, v6, v7, v8, v9, v10], .long j1 :: st, SH, σ)) ∧
  (∀ (v0 : Option Value) (v1 : Option Value) (v2 : Option Value) (v3 : Option Value) (v4 : Option Value) (v5 : Option Value) (v6 : Option Value) (v7 : Option Value) (v8 : Option Value) (v9 : Option Value) (v10 : Option Value) (j1 : Int64) (st : List Value) (σ : ma_H) (hb : ma_bef [v0, v1, v2, v3, v4, v5, v6, v7, v8, v9, v10] 7 = false), ma_rn ro d 156 (15, [v0, v1, v2, v3, v4, v5, v6, v7, v8, v9, v10], .long j1 :: st, SH, σ) = ma_rn ro d 156 (17, [v0, v1, v2, v3, v4, v5, v6, some (.long j1), none, v9, v10], st, SH, σ)) ∧
  (∀ (v0 : Option Value) (v1 : Option Value) (v2 : Option Value) (v3 : Option Value) (v4 : Option Value) (v5 : Option Value) (v6 : Option Value) (v7 : Option Value) (v8 : Option Value) (v9 : Option Value) (v10 : Option Value) (st : List Value) (σ : ma_H), ma_rn ro d 156 (19, [v0, v1, v2, v3, v4, v5, v6, v7, v8, v9, v10], st, SH, σ) = ma_rn ro d 156 (20, [v0, v1, v2, v3, v4, v5, v6, v7, v8, v9, v10], .long 0 :: st, SH, σ)) ∧
  (∀ (v0 : Option Value) (v1 : Option Value) (v2 : Option Value) (v3 : Option Value) (v4 : Option Value) (v5 : Option Value) (v6 : Option Value) (v7 : Option Value) (v8 : Option Value) (v9 : Option Value) (v10 : Option Value) (j1 : Int64) (j2 : Int64) (st : List Value) (σ : ma_H), ma_rn ro d 156 (20, [v0, v1, v2, v3, v4, v5, v6, v7, v8, v9, v10], .long j1 :: .long j2 :: st, SH, σ) = ma_rn ro d 156 (21, [v0, v1, v2, v3, v4, v5, v6, v7, v8, v9, v10], .int (lg_cmp j2 j1) :: st, SH, σ)) ∧
  (∀ (v0 : Option Value) (v1 : Option Value) (v2 : Option Value) (v3 : Option Value) (v4 : Option Value) (v5 : Option Value) (v6 : Option Value) (v7 : Option Value) (v8 : Option Value) (v9 : Option Value) (v10 : Option Value) (x1 : Int32) (st : List Value) (σ : ma_H), ma_rn ro d 156 (21, [v0, v1, v2, v3, v4, v5, v6, v7, v8, v9, v10], .int x1 :: st, SH, σ) = if x1 = nI 0 then ma_rn ro d 156 (42, [v0, v1, v2, v3, v4, v5, v6, v7, v8, v9, v10], st, SH, σ) else ma_rn ro d 156 (24, [v0, v1, v2, v3, v4, v5, v6, v7, v8, v9, v10], st, SH, σ)) ∧
  (∀ (v0 : Option Value) (v1 : Option Value) (v2 : Option Value) (v3 : Option Value) (v4 : Option Value) (v6 : Option Value) (v7 : Option Value) (v8 : Option Value) (v9 : Option Value) (v10 : Option Value) (j1 : Int64) (st : List Value) (σ : ma_H), ma_rn ro d 156 (24, [v0, v1, v2, v3, v4, some (.long j1), v6, v7, v8, v9, v10], st, SH, σ) = ma_rn ro d 156 (26, [v0, v1, v2, v3, v4, some (.long j1), v6, v7, v8, v9, v10], .long j1 :: st, SH, σ)) ∧
  (∀ (v0 : Option Value) (v1 : Option Value) (v2 : Option Value) (v3 : Option Value) (v4 : Option Value) (v5 : Option Value) (v6 : Option Value) (v8 : Option Value) (v9 : Option Value) (v10 : Option Value) (j1 : Int64) (st : List Value) (σ : ma_H), ma_rn ro d 156 (26, [v0, v1, v2, v3, v4, v5, v6, some (.long j1), v8, v9, v10], st, SH, σ) = ma_rn ro d 156 (28, [v0, v1, v2, v3, v4, v5, v6, some (.long j1), v8, v9, v10], .long j1 :: st, SH, σ)) ∧
  (∀ (v0 : Option Value) (v1 : Option Value) (v2 : Option Value) (v3 : Option Value) (v4 : Option Value) (v5 : Option Value) (v6 : Option Value) (v7 : Option Value) (v8 : Option Value) (v9 : Option Value) (v10 : Option Value) (j1 : Int64) (j2 : Int64) (st : List Value) (σ : ma_H) (hy : ¬ j1 = 0), ma_rn ro d 156 (28, [v0, v1, v2, v3, v4, v5, v6, v7, v8, v9, v10], .long j1 :: .long j2 :: st, SH, σ) = ma_rn ro d 156 (29, [v0, v1, v2, v3, v4, v5, v6, v7, v8, v9, v10], .long (j2 - j2 / j1 * j1) :: st, SH, σ)) ∧
  (∀ (v0 : Option Value) (v1 : Option Value) (v2 : Option Value) (v3 : Option Value) (v4 : Option Value) (v5 : Option Value) (v6 : Option Value) (v7 : Option Value) (v8 : Option Value) (v9 : Option Value) (v10 : Option Value) (j1 : Int64) (st : List Value) (σ : ma_H) (hb : ma_bef [v0, v1, v2, v3, v4, v5, v6, v7, v8, v9, v10] 9 = false), ma_rn ro d 156 (29, [v0, v1, v2, v3, v4, v5, v6, v7, v8, v9, v10], .long j1 :: st, SH, σ) = ma_rn ro d 156 (31, [v0, v1, v2, v3, v4, v5, v6, v7, v8, some (.long j1), none], st, SH, σ)) ∧
  (∀ (v0 : Option Value) (v1 : Option Value) (v2 : Option Value) (v3 : Option Value) (v4 : Option Value) (v5 : Option Value) (v6 : Option Value) (v8 : Option Value) (v9 : Option Value) (v10 : Option Value) (j1 : Int64) (st : List Value) (σ : ma_H), ma_rn ro d 156 (31, [v0, v1, v2, v3, v4, v5, v6, some (.long j1), v8, v9, v10], st, SH, σ) = ma_rn ro d 156 (33, [v0, v1, v2, v3, v4, v5, v6, some (.long j1), v8, v9, v10], .long j1 :: st, SH, σ)) ∧
  (∀ (v0 : Option Value) (v1 : Option Value) (v2 : Option Value) (v3 : Option Value) (v5 : Option Value) (v6 : Option Value) (v7 : Option Value) (v8 : Option Value) (v9 : Option Value) (v10 : Option Value) (x9 : Int32) (j1 : Int64) (st : List Value) (σ : ma_H), ma_rn ro d 156 (33, [v0, v1, v2, v3, some (.int x9), v5, v6, v7, v8, v9, v10], .long j1 :: st, SH, σ) = ma_rn ro d 156 (35, [v0, v1, v2, v3, some (.int x9), some (.long j1), none, v7, v8, v9, v10], st, SH, σ)) ∧
  (∀ (v0 : Option Value) (v1 : Option Value) (v2 : Option Value) (v3 : Option Value) (v4 : Option Value) (v5 : Option Value) (v6 : Option Value) (v7 : Option Value) (v8 : Option Value) (v10 : Option Value) (j1 : Int64) (st : List Value) (σ : ma_H), ma_rn ro d 156 (35, [v0, v1, v2, v3, v4, v5, v6, v7, v8, some (.long j1), v10], st, SH, σ) = ma_rn ro d 156 (37, [v0, v1, v2, v3, v4, v5, v6, v7, v8, some (.long j1), v10], .long j1 :: st, SH, σ)) ∧
  (∀ (v0 : Option Value) (v1 : Option Value) (v2 : Option Value) (v3 : Option Value) (v4 : Option Value) (v5 : Option Value) (v6 : Option Value) (v7 : Option Value) (v8 : Option Value) (v9 : Option Value) (v10 : Option Value) (j1 : Int64) (st : List Value) (σ : ma_H) (hb : ma_bef [v0, v1, v2, v3, v4, v5, v6, v7, v8, v9, v10] 7 = false), ma_rn ro d 156 (37, [v0, v1, v2, v3, v4, v5, v6, v7, v8, v9, v10], .long j1 :: st, SH, σ) = ma_rn ro d 156 (39, [v0, v1, v2, v3, v4, v5, v6, some (.long j1), none, v9, v10], st, SH, σ)) ∧
  (∀ (v0 : Option Value) (v1 : Option Value) (v2 : Option Value) (v3 : Option Value) (v4 : Option Value) (v5 : Option Value) (v6 : Option Value) (v7 : Option Value) (v8 : Option Value) (v9 : Option Value) (v10 : Option Value) (st : List Value) (σ : ma_H), ma_rn ro d 156 (39, [v0, v1, v2, v3, v4, v5, v6, v7, v8, v9, v10], st, SH, σ) = ma_rn ro d 156 (17, [v0, v1, v2, v3, v4, v5, v6, v7, v8, v9, v10], st, SH, σ)) ∧
  (∀ (v0 : Option Value) (v1 : Option Value) (v2 : Option Value) (v3 : Option Value) (v5 : Option Value) (v6 : Option Value) (v7 : Option Value) (v8 : Option Value) (v9 : Option Value) (v10 : Option Value) (x1 : Int32) (st : List Value) (σ : ma_H), ma_rn ro d 156 (42, [v0, v1, v2, v3, some (.int x1), v5, v6, v7, v8, v9, v10], st, SH, σ) = ma_rn ro d 156 (44, [v0, v1, v2, v3, some (.int x1), v5, v6, v7, v8, v9, v10], .int x1 :: st, SH, σ)) ∧
  (∀ (v0 : Option Value) (v1 : Option Value) (v2 : Option Value) (v3 : Option Value) (v4 : Option Value) (v5 : Option Value) (v6 : Option Value) (v7 : Option Value) (v8 : Option Value) (v9 : Option Value) (v10 : Option Value) (x1 : Int32) (st : List Value) (σ : ma_H), ma_rn ro d 156 (44, [v0, v1, v2, v3, v4, v5, v6, v7, v8, v9, v10], .int x1 :: st, SH, σ) = if x1 = nI 0 then ma_rn ro d 156 (47, [v0, v1, v2, v3, v4, v5, v6, v7, v8, v9, v10], st, SH, σ) else ma_rn ro d 156 (51, [v0, v1, v2, v3, v4, v5, v6, v7, v8, v9, v10], st, SH, σ)) ∧
  (∀ (v1 : Option Value) (v2 : Option Value) (v3 : Option Value) (v4 : Option Value) (v5 : Option Value) (v6 : Option Value) (v7 : Option Value) (v8 : Option Value) (v9 : Option Value) (v10 : Option Value) (j1 : Int64) (st : List Value) (σ : ma_H), ma_rn ro d 156 (47, [some (.long j1), v1, v2, v3, v4, v5, v6, v7, v8, v9, v10], st, SH, σ) = ma_rn ro d 156 (48, [some (.long j1), v1, v2, v3, v4, v5, v6, v7, v8, v9, v10], .long j1 :: st, SH, σ)) ∧
  (∀ (v0 : Option Value) (v1 : Option Value) (v2 : Option Value) (v3 : Option Value) (v4 : Option Value) (v5 : Option Value) (v6 : Option Value) (v7 : Option Value) (v8 : Option Value) (v9 : Option Value) (v10 : Option Value) (st : List Value) (σ : ma_H), ma_rn ro d 156 (48, [v0, v1, v2, v3, v4, v5, v6, v7, v8, v9, v10], st, SH, σ) = ma_rn ro d 156 (52, [v0, v1, v2, v3, v4, v5, v6, v7, v8, v9, v10], st, SH, σ)) ∧
  (∀ (v0 : Option Value) (v1 : Option Value) (v3 : Option Value) (v4 : Option Value) (v5 : Option Value) (v6 : Option Value) (v7 : Option Value) (v8 : Option Value) (v9 : Option Value) (v10 : Option Value) (j1 : Int64) (st : List Value) (σ : ma_H), ma_rn ro d 156 (51, [v0, v1, some (.long j1), v3, v4, v5, v6, v7, v8, v9, v10], st, SH, σ) = ma_rn ro d 156 (52, [v0, v1, some (.long j1), v3, v4, v5, v6, v7, v8, v9, v10], .long j1 :: st, SH, σ)) ∧
  (∀ (v0 : Option Value) (v1 : Option Value) (v2 : Option Value) (v3 : Option Value) (v4 : Option Value) (v6 : Option Value) (v7 : Option Value) (v8 : Option Value) (v9 : Option Value) (v10 : Option Value) (j1 : Int64) (st : List Value) (σ : ma_H), ma_rn ro d 156 (52, [v0, v1, v2, v3, v4, some (.long j1), v6, v7, v8, v9, v10], st, SH, σ) = ma_rn ro d 156 (54, [v0, v1, v2, v3, v4, some (.long j1), v6, v7, v8, v9, v10], .long j1 :: st, SH, σ)) ∧
  (∀ (v0 : Option Value) (v1 : Option Value) (v2 : Option Value) (v3 : Option Value) (v4 : Option Value) (v5 : Option Value) (v6 : Option Value) (v7 : Option Value) (v8 : Option Value) (v9 : Option Value) (v10 : Option Value) (j1 : Int64) (j2 : Int64) (st : List Value) (σ : ma_H) (hy : ¬ j1 = 0), ma_rn ro d 156 (54, [v0, v1, v2, v3, v4, v5, v6, v7, v8, v9, v10], .long j1 :: .long j2 :: st, SH, σ) = ma_rn ro d 156 (55, [v0, v1, v2, v3, v4, v5, v6, v7, v8, v9, v10], .long (j2 / j1) :: st, SH, σ)) ∧
  (∀ (v0 : Option Value) (v1 : Option Value) (v2 : Option Value) (v3 : Option Value) (v4 : Option Value) (v5 : Option Value) (v6 : Option Value) (v7 : Option Value) (v8 : Option Value) (v9 : Option Value) (v10 : Option Value) (j1 : Int64) (σ : ma_H), ma_rn ro d 156 (55, [v0, v1, v2, v3, v4, v5, v6, v7, v8, v9, v10], [.long j1], SH, σ) = some (some (.long j1), SH, σ)) := ⟨fun v1 v2 v3 v4 v5 v6 v7 v8 v9 v10 j1 st σ => q_go e156_0 rfl rfl,
  fun v0 v1 v2 v3 v4 v5 v6 v7 v8 v9 v10 st σ => q_go e156_1 rfl rfl,
  fun v0 v1 v2 v3 v4 v5 v6 v7 v8 v9 v10 j1 j2 st σ => q_go e156_2 rfl rfl,
  fun v0 v1 v2 v3 v4 v5 v6 v7 v8 v9 v10 x1 st σ => (q_if e156_3 rfl).trans q_nlt,
  fun v1 v2 v3 v4 v5 v6 v7 v8 v9 v10 j1 st σ => q_go e156_6 rfl rfl,
  fun v0 v1 v2 v3 v4 v5 v6 v7 v8 v9 v10 j1 st σ => q_go e156_7 rfl rfl,
  fun v0 v1 v2 v3 v4 v5 v6 v7 v8 v9 v10 st σ => q_goto e156_8 rfl,
  fun v1 v2 v3 v4 v5 v6 v7 v8 v9 v10 j1 st σ => q_go e156_11 rfl rfl,
  fun v0 v1 v2 v3 v5 v6 v7 v8 v9 v10 x9 j1 st σ => q_go e156_12 rfl rfl,
  fun v0 v1 v3 v4 v5 v6 v7 v8 v9 v10 j1 st σ => q_go e156_14 rfl rfl,
  fun v0 v1 v2 v3 v4 v5 v6 v7 v8 v9 v10 j1 st σ hb => q_go e156_15 rfl (q_s2 hb rfl (Nat.le_of_ble_eq_true rfl)),
  fun v0 v1 v2 v3 v4 v5 v6 v7 v8 v9 v10 st σ => q_go e156_19 rfl rfl,
  fun v0 v1 v2 v3 v4 v5 v6 v7 v8 v9 v10 j1 j2 st σ => q_go e156_20 rfl rfl,
  fun v0 v1 v2 v3 v4 v5 v6 v7 v8 v9 v10 x1 st σ => (q_if e156_21 rfl).trans q_eq,
  fun v0 v1 v2 v3 v4 v6 v7 v8 v9 v10 j1 st σ => q_go e156_24 rfl rfl,
  fun v0 v1 v2 v3 v4 v5 v6 v8 v9 v10 j1 st σ => q_go e156_26 rfl rfl,
  fun v0 v1 v2 v3 v4 v5 v6 v7 v8 v9 v10 j1 j2 st σ hy => q_lrem e156_28 hy,
  fun v0 v1 v2 v3 v4 v5 v6 v7 v8 v9 v10 j1 st σ hb => q_go e156_29 rfl (q_s2 hb rfl (Nat.le_of_ble_eq_true rfl)),
  fun v0 v1 v2 v3 v4 v5 v6 v8 v9 v10 j1 st σ => q_go e156_31 rfl rfl,
  fun v0 v1 v2 v3 v5 v6 v7 v8 v9 v10 x9 j1 st σ => q_go e156_33 rfl rfl,
  fun v0 v1 v2 v3 v4 v5 v6 v7 v8 v10 j1 st σ => q_go e156_35 rfl rfl,
  fun v0 v1 v2 v3 v4 v5 v6 v7 v8 v9 v10 j1 st σ hb => q_go e156_37 rfl (q_s2 hb rfl (Nat.le_of_ble_eq_true rfl)),
  fun v0 v1 v2 v3 v4 v5 v6 v7 v8 v9 v10 st σ => q_goto e156_39 rfl,
  fun v0 v1 v2 v3 v5 v6 v7 v8 v9 v10 x1 st σ => q_go e156_42 rfl rfl,
  fun v0 v1 v2 v3 v4 v5 v6 v7 v8 v9 v10 x1 st σ => (q_if e156_44 rfl).trans q_ne,
  fun v1 v2 v3 v4 v5 v6 v7 v8 v9 v10 j1 st σ => q_go e156_47 rfl rfl,
  fun v0 v1 v2 v3 v4 v5 v6 v7 v8 v9 v10 st σ => q_goto e156_48 rfl,
  fun v0 v1 v3 v4 v5 v6 v7 v8 v9 v10 j1 st σ => q_go e156_51 rfl rfl,
  fun v0 v1 v2 v3 v4 v6 v7 v8 v9 v10 j1 st σ => q_go e156_52 rfl rfl,
  fun v0 v1 v2 v3 v4 v5 v6 v7 v8 v9 v10 j1 j2 st σ hy => q_ldiv e156_54 hy,
  fun v0 v1 v2 v3 v4 v5 v6 v7 v8 v9 v10 j1 σ => q_lret e156_55 r_156⟩
theorem E156 {ro : ma_RO} {d : Nat} (j1 : Int64) (j2 : Int64) (x3 : Int32) (sh : List ma_Sh) (σ : ma_H) : ma_ev ro d 156 [.long j1, .long j2, .int x3] sh σ = ma_rn ro d 156 (0, [some (.long j1), none, some (.long j2), none, some (.int x3), none, none, none, none, none, none], [], sh, σ) := q_ent x_156 rfl
theorem e157_0 : decode (ma_cd 157) 0 = .ok (.aload_n 0, 1) := (congrArg (fun b => decode b 0) cd_157).trans dX8_odds_0
theorem e157_1 : decode (ma_cd 157) 1 = .ok (.iload_n 1, 1) := (congrArg (fun b => decode b 1) cd_157).trans dX8_odds_1
theorem e157_2 : decode (ma_cd 157) 2 = .ok (.invokevirtual 129, 3) := (congrArg (fun b => decode b 2) cd_157).trans dX8_odds_2
theorem e157_5 : decode (ma_cd 157) 5 = .ok (.ifCond .eq 22, 3) := (congrArg (fun b => decode b 5) cd_157).trans dX8_odds_5
theorem e157_8 : decode (ma_cd 157) 8 = .ok (.iload_n 2, 1) := (congrArg (fun b => decode b 8) cd_157).trans dX8_odds_8
theorem e157_9 : decode (ma_cd 157) 9 = .ok (.iconst 0, 1) := (congrArg (fun b => decode b 9) cd_157).trans dX8_odds_9
theorem e157_10 : decode (ma_cd 157) 10 = .ok (.bipush 60, 2) := (congrArg (fun b => decode b 10) cd_157).trans dX8_odds_10
theorem e157_12 : decode (ma_cd 157) 12 = .ok (.invokestatic 35, 3) := (congrArg (fun b => decode b 12) cd_157).trans dX8_odds_12
theorem e157_15 : decode (ma_cd 157) 15 = .ok (.ifCond .eq 12, 3) := (congrArg (fun b => decode b 15) cd_157).trans dX8_odds_15
theorem e157_18 : decode (ma_cd 157) 18 = .ok (.iload_n 3, 1) := (congrArg (fun b => decode b 18) cd_157).trans dX8_odds_18
theorem e157_19 : decode (ma_cd 157) 19 = .ok (.iconst 0, 1) := (congrArg (fun b => decode b 19) cd_157).trans dX8_odds_19
theorem e157_20 : decode (ma_cd 157) 20 = .ok (.iconst 1, 1) := (congrArg (fun b => decode b 20) cd_157).trans dX8_odds_20
theorem e157_21 : decode (ma_cd 157) 21 = .ok (.invokestatic 35, 3) := (congrArg (fun b => decode b 21) cd_157).trans dX8_odds_21
theorem e157_24 : decode (ma_cd 157) 24 = .ok (.ifCond .ne 7, 3) := (congrArg (fun b => decode b 24) cd_157).trans dX8_odds_24
theorem e157_27 : decode (ma_cd 157) 27 = .ok (.ldc2_w 193, 3) := (congrArg (fun b => decode b 27) cd_157).trans dX8_odds_27
theorem e157_30 : decode (ma_cd 157) 30 = .ok (.lreturn, 1) := (congrArg (fun b => decode b 30) cd_157).trans dX8_odds_30
theorem e157_31 : decode (ma_cd 157) 31 = .ok (.lconst 0, 1) := (congrArg (fun b => decode b 31) cd_157).trans dX8_odds_31
theorem e157_32 : decode (ma_cd 157) 32 = .ok (.lstore 4, 2) := (congrArg (fun b => decode b 32) cd_157).trans dX8_odds_32
theorem e157_34 : decode (ma_cd 157) 34 = .ok (.iconst 0, 1) := (congrArg (fun b => decode b 34) cd_157).trans dX8_odds_34
theorem e157_35 : decode (ma_cd 157) 35 = .ok (.istore 6, 2) := (congrArg (fun b => decode b 35) cd_157).trans dX8_odds_35
theorem e157_37 : decode (ma_cd 157) 37 = .ok (.iload 6, 2) := (congrArg (fun b => decode b 37) cd_157).trans dX8_odds_37
theorem e157_39 : decode (ma_cd 157) 39 = .ok (.bipush 20, 2) := (congrArg (fun b => decode b 39) cd_157).trans dX8_odds_39
theorem e157_41 : decode (ma_cd 157) 41 = .ok (.if_icmp .gt 45, 3) := (congrArg (fun b => decode b 41) cd_157).trans dX8_odds_41
theorem e157_44 : decode (ma_cd 157) 44 = .ok (.aload_n 0, 1) := (congrArg (fun b => decode b 44) cd_157).trans dX8_odds_44
theorem e157_45 : decode (ma_cd 157) 45 = .ok (.invokevirtual 159, 3) := (congrArg (fun b => decode b 45) cd_157).trans dX8_odds_45
theorem e157_48 : decode (ma_cd 157) 48 = .ok (.aload_n 0, 1) := (congrArg (fun b => decode b 48) cd_157).trans dX8_odds_48
theorem e157_49 : decode (ma_cd 157) 49 = .ok (.getfield 9, 3) := (congrArg (fun b => decode b 49) cd_157).trans dX8_odds_49
theorem e157_52 : decode (ma_cd 157) 52 = .ok (.iconst 1, 1) := (congrArg (fun b => decode b 52) cd_157).trans dX8_odds_52
theorem e157_53 : decode (ma_cd 157) 53 = .ok (.iload 6, 2) := (congrArg (fun b => decode b 53) cd_157).trans dX8_odds_53
theorem e157_55 : decode (ma_cd 157) 55 = .ok (.iastore, 1) := (congrArg (fun b => decode b 55) cd_157).trans dX8_odds_55
theorem e157_56 : decode (ma_cd 157) 56 = .ok (.aload_n 0, 1) := (congrArg (fun b => decode b 56) cd_157).trans dX8_odds_56
theorem e157_57 : decode (ma_cd 157) 57 = .ok (.iload_n 1, 1) := (congrArg (fun b => decode b 57) cd_157).trans dX8_odds_57
theorem e157_58 : decode (ma_cd 157) 58 = .ok (.iload_n 2, 1) := (congrArg (fun b => decode b 58) cd_157).trans dX8_odds_58
theorem e157_59 : decode (ma_cd 157) 59 = .ok (.invokevirtual 174, 3) := (congrArg (fun b => decode b 59) cd_157).trans dX8_odds_59
theorem e157_62 : decode (ma_cd 157) 62 = .ok (.lload 4, 2) := (congrArg (fun b => decode b 62) cd_157).trans dX8_odds_62
theorem e157_64 : decode (ma_cd 157) 64 = .ok (.aload_n 0, 1) := (congrArg (fun b => decode b 64) cd_157).trans dX8_odds_64
theorem e157_65 : decode (ma_cd 157) 65 = .ok (.getfield 9, 3) := (congrArg (fun b => decode b 65) cd_157).trans dX8_odds_65
theorem e157_68 : decode (ma_cd 157) 68 = .ok (.iconst 3, 1) := (congrArg (fun b => decode b 68) cd_157).trans dX8_odds_68
theorem e157_69 : decode (ma_cd 157) 69 = .ok (.iload_n 1, 1) := (congrArg (fun b => decode b 69) cd_157).trans dX8_odds_69
theorem e157_70 : decode (ma_cd 157) 70 = .ok (.iadd, 1) := (congrArg (fun b => decode b 70) cd_157).trans dX8_odds_70
theorem e157_71 : decode (ma_cd 157) 71 = .ok (.iaload, 1) := (congrArg (fun b => decode b 71) cd_157).trans dX8_odds_71
theorem e157_72 : decode (ma_cd 157) 72 = .ok (.i2l, 1) := (congrArg (fun b => decode b 72) cd_157).trans dX8_odds_72
theorem e157_73 : decode (ma_cd 157) 73 = .ok (.ladd, 1) := (congrArg (fun b => decode b 73) cd_157).trans dX8_odds_73
theorem e157_74 : decode (ma_cd 157) 74 = .ok (.lstore 4, 2) := (congrArg (fun b => decode b 74) cd_157).trans dX8_odds_74
theorem e157_76 : decode (ma_cd 157) 76 = .ok (.aload_n 0, 1) := (congrArg (fun b => decode b 76) cd_157).trans dX8_odds_76
theorem e157_77 : decode (ma_cd 157) 77 = .ok (.invokevirtual 165, 3) := (congrArg (fun b => decode b 77) cd_157).trans dX8_odds_77
theorem e157_80 : decode (ma_cd 157) 80 = .ok (.iinc 6 1, 3) := (congrArg (fun b => decode b 80) cd_157).trans dX8_odds_80
theorem e157_83 : decode (ma_cd 157) 83 = .ok (.goto (-46), 3) := (congrArg (fun b => decode b 83) cd_157).trans dX8_odds_83
theorem e157_86 : decode (ma_cd 157) 86 = .ok (.lload 4, 2) := (congrArg (fun b => decode b 86) cd_157).trans dX8_odds_86
theorem e157_88 : decode (ma_cd 157) 88 = .ok (.ldc2_w 195, 3) := (congrArg (fun b => decode b 88) cd_157).trans dX8_odds_88
theorem e157_91 : decode (ma_cd 157) 91 = .ok (.iload_n 3, 1) := (congrArg (fun b => decode b 91) cd_157).trans dX8_odds_91
theorem e157_92 : decode (ma_cd 157) 92 = .ok (.invokestatic 197, 3) := (congrArg (fun b => decode b 92) cd_157).trans dX8_odds_92
theorem e157_95 : decode (ma_cd 157) 95 = .ok (.lreturn, 1) := (congrArg (fun b => decode b 95) cd_157).trans dX8_odds_95
theorem Sh157_37 {ro : ma_RO} {d : Nat} : (∀ (v0 : Option Value) (v1 : Option Value) (v2 : Option Value) (v3 : Option Value) (v4 : Option Value) (v5 : Option Value) (x1 : Int32) (st : List Value) (σ : ma_H), ma_rn ro d 157 (37, [v0, v1, v2, v3, v4, v5, some (.int x1)], st, SH, σ) = ma_rn ro d 157 (39, [v0, v1, v2, v3, v4, v5, some (.int x1)], .int x1 :: st, SH, σ)) := fun v0 v1 v2 v3 v4 v5 x1 st σ => q_go e157_37 rfl rfl
theorem S157 {ro : ma_RO} {d : Nat} : (∀ (v1 : Option Value) (v2 : Option Value) (v3 : Option Value) (v4 : Option Value) (v5 : Option Value) (v6 : Option Value) (a1 : Nat) (st : List Value) (σ : ma_H), ma_rn ro d 157 (0, [some (.ref a1), v1, v2, v3, v4, v5, v6], st, SH, σ) = ma_rn ro d 157 (1, [some (.ref a1), v1, v2, v3, v4, v5, v6], .ref a1 :: st, SH, σ)) ∧
  (∀ (v0 : Option Value) (v2 : Option Value) (v3 : Option Value) (v4 : Option Value) (v5 : Option Value) (v6 : Option Value) (x1 : Int32) (st : List Value) (σ : ma_H), ma_rn ro d 157 (1, [v0, some (.int x1), v2, v3, v4, v5, v6], st, SH, σ) = ma_rn ro d 157 (2, [v0, some (.int x1), v2, v3, v4, v5, v6], .int x1 :: st, SH, σ)) ∧
  (∀ (v0 : Option Value) (v1 : Option Value) (v2 : Option Value) (v3 : Option Value) (v4 : Option Value) (v5 : Option Value) (v6 : Option Value) (x1 : Int32) (a0 : Nat) (σ : ma_H) (hc : hk_cls a0 = 8), ma_rn ro (d + 1) 157 (2, [v0, v1, v2, v3, v4, v5, v6], .int x1 :: .ref a0 :: [], SH, σ) = (ma_ev ro d 103 [.ref a0, .int x1] SH σ).bind (fun q => ma_rn ro (d + 1) 157 (5, [v0, v1, v2, v3, v4, v5, v6], (q.1.toList ++ []), q.2.1, q.2.2))) ∧
  (∀ (v0 : Option Value) (v1 : Option Value) (v2 : Option Value) (v3 : Option Value) (v4 : Option Value) (v5 : Option Value) (v6 : Option Value) (x1 : Int32) (st : List Value) (σ : ma_H), ma_rn ro d 157 (5, [v0, v1, v2, v3, v4, v5, v6], .int x1 :: st, SH, σ) = if x1 = nI 0 then ma_rn ro d 157 (27, [v0, v1, v2, v3, v4, v5, v6], st, SH, σ) else ma_rn ro d 157 (8, [v0, v1, v2, v3, v4, v5, v6], st, SH, σ)) ∧
  (∀ (v0 : Option Value) (v1 : Option Value) (v3 : Option Value) (v4 : Option Value) (v5 : Option Value) (v6 : Option Value) (x1 : Int32) (st : List Value) (σ : ma_H), ma_rn ro d 157 (8, [v0, v1, some (.int x1), v3, v4, v5, v6], st, SH, σ) = ma_rn ro d 157 (9, [v0, v1, some (.int x1), v3, v4, v5, v6], .int x1 :: st, SH, σ)) ∧
  (∀ (v0 : Option Value) (v1 : Option Value) (v2 : Option Value) (v3 : Option Value) (v4 : Option Value) (v5 : Option Value) (v6 : Option Value) (st : List Value) (σ : ma_H), ma_rn ro d 157 (9, [v0, v1, v2, v3, v4, v5, v6], st, SH, σ) = ma_rn ro d 157 (10, [v0, v1, v2, v3, v4, v5, v6], .int (nI 0) :: st, SH, σ)) ∧
  (∀ (v0 : Option Value) (v1 : Option Value) (v2 : Option Value) (v3 : Option Value) (v4 : Option Value) (v5 : Option Value) (v6 : Option Value) (st : List Value) (σ : ma_H), ma_rn ro d 157 (10, [v0, v1, v2, v3, v4, v5, v6], st, SH, σ) = ma_rn ro d 157 (12, [v0, v1, v2, v3, v4, v5, v6], .int (nI 60) :: st, SH, σ)) ∧
  (∀ (v0 : Option Value) (v1 : Option Value) (v2 : Option Value) (v3 : Option Value) (v4 : Option Value) (v5 : Option Value) (v6 : Option Value) (x1 : Int32) (x2 : Int32) (x3 : Int32) (σ : ma_H), ma_rn ro (d + 1) 157 (12, [v0, v1, v2, v3, v4, v5, v6], .int x3 :: .int x2 :: .int x1 :: [], SH, σ) = (ma_ev ro d 102 [.int x1, .int x2, .int x3] SH σ).bind (fun q => ma_rn ro (d + 1) 157 (15, [v0, v1, v2, v3, v4, v5, v6], (q.1.toList ++ []), q.2.1, q.2.2))) ∧
  (∀ (v0 : Option Value) (v1 : Option Value) (v2 : Option Value) (v3 : Option Value) (v4 : Option Value) (v5 : Option Value) (v6 : Option Value) (x1 : Int32) (st : List Value) (σ : ma_H), ma_rn ro d 157 (15, [v0, v1, v2, v3, v4, v5, v6], .int x1 :: st, SH, σ) = if x1 = nI 0 then ma_rn ro d 157 (27, [v0, v1, v2, v3, v4, v5, v6], st, SH, σ) else ma_rn ro d 157 (18, [v0, v1, v2, v3, v4, v5, v6], st, SH, σ)) ∧
  (∀ (v0 : Option Value) (v1 : Option Value) (v2 : Option Value) (v4 : Option Value) (v5 : Option Value) (v6 : Option Value) (x1 : Int32) (st : List Value) (σ : ma_H), ma_rn ro d 157 (18, [v0, v1, v2, some (.int x1), v4, v5, v6], st, SH, σ) = ma_rn ro d 157 (19, [v0, v1, v2, some (.int x1), v4, v5, v6], .int x1 :: st, SH, σ)) ∧
  (∀ (v0 : Option Value) (v1 : Option Value) (v2 : Option Value) (v3 : Option Value) (v4 : Option Value) (v5 : Option Value) (v6 : Option Value) (st : List Value) (σ : ma_H), ma_rn ro d 157 (19, [v0, v1, v2, v3, v4, v5, v6], st, SH, σ) = ma_rn ro d 157 (20, [v0, v1, v2, v3, v4, v5, v6], .int (nI 0) :: st, SH, σ)) ∧
  (∀ (v0 : Option Value) (v1 : Option Value) (v2 : Option Value) (v3 : Option Value) (v4 : Option Value) (v5 : Option Value) (v6 : Option Value) (st : List Value) (σ : ma_H), ma_rn ro d 157 (20, [v0, v1, v2, v3, v4, v5, v6], st, SH, σ) = ma_rn ro d 157 (21, [v0, v1, v2, v3, v4, v5, v6], .int (nI 1) :: st, SH, σ)) ∧
  (∀ (v0 : Option Value) (v1 : Option Value) (v2 : Option Value) (v3 : Option Value) (v4 : Option Value) (v5 : Option Value) (v6 : Option Value) (x1 : Int32) (x2 : Int32) (x3 : Int32) (σ : ma_H), ma_rn ro (d + 1) 157 (21, [v0, v1, v2, v3, v4, v5, v6], .int x3 :: .int x2 :: .int x1 :: [], SH, σ) = (ma_ev ro d 102 [.int x1, .int x2, .int x3] SH σ).bind (fun q => ma_rn ro (d + 1) 157 (24, [v0, v1, v2, v3, v4, v5, v6], (q.1.toList ++ []), q.2.1, q.2.2))) ∧
  (∀ (v0 : Option Value) (v1 : Option Value) (v2 : Option Value) (v3 : Option Value) (v4 : Option Value) (v5 : Option Value) (v6 : Option Value) (x1 : Int32) (st : List Value) (σ : ma_H), ma_rn ro d 157 (24, [v0, v1, v2, v3, v4, v5, v6], .int x1 :: st, SH, σ) = if x1 = nI 0 then ma_rn ro d 157 (27, [v0, v1, v2, v3, v4, v5, v6], st, SH, σ) else ma_rn ro d 157 (31, [v0, v1, v2, v3, v4, v5, v6], st, SH, σ)) ∧
  (∀ (v0 : Option Value) (v1 : Option Value) (v2 : Option Value) (v3 : Option Value) (v4 : Option Value) (v5 : Option Value) (v6 : Option Value) (st : List Value) (σ : ma_H), ma_rn ro d 157 (27, [v0, v1, v2, v3, v4, v5, v6], st, SH, σ) = ma_rn ro d 157 (30, [v0, v1, v2, v3, v4, v5, v6], .long (-9223372036854775808) :: st, SH, σ)) ∧
  (∀ (v0 : Option Value) (v1 : Option Value) (v2 : Option Value) (v3 : Option Value) (v4 : Option Value) (v5 : Option Value) (v6 : Option Value) (j1 : Int64) (σ : ma_H), ma_rn ro d 157 (30, [v0, v1, v2, v3, v4, v5, v6], [.long j1], SH, σ) = some (some (.long j1), SH, σ)) ∧
  (∀ (v0 : Option Value) (v1 : Option Value) (v2 : Option Value) (v3 : Option Value) (v4 : Option Value) (v5 : Option Value) (v6 : Option Value) (st : List Value) (σ : ma_H), ma_rn ro d 157 (31, [v0, v1, v2, v3, v4, v5, v6], st, SH, σ) = ma_rn ro d 157 (32, [v0, v1, v2, v3, v4, v5, v6], .long 0 :: st, SH, σ)) ∧
  (∀ (v0 : Option Value) (v1 : Option Value) (v2 : Option Value) (v4 : Option Value) (v5 : Option Value) (v6 : Option Value) (x9 : Int32) (j1 : Int64) (st : List Value) (σ : ma_H), ma_rn ro d 157 (32, [v0, v1, v2, some (.int x9), v4, v5, v6], .long j1 :: st, SH, σ) = ma_rn ro d 157 (34, [v0, v1, v2, some (.int x9), some (.long j1), none, v6], st, SH, σ)) ∧
  (∀ (v0 : Option Value) (v1 : Option Value) (v2 : Option Value) (v3 : Option Value) (v4 : Option Value) (v5 : Option Value) (v6 : Option Value) (st : List Value) (σ : ma_H), ma_rn ro d 157 (34, [v0, v1, v2, v3, v4, v5, v6], st, SH, σ) = ma_rn ro d 157 (35, [v0, v1, v2, v3, v4, v5, v6], .int (nI 0) :: st, SH, σ)) ∧
  (∀ (v0 : Option Value) (v1 : Option Value) (v2 : Option Value) (v3 : Option Value) (v4 : Option Value) (v5 : Option Value) (v6 : Option Value) (x1 : Int32) (st : List Value) (σ : ma_H) (hb : ma_bef [v0, v1, v2, v3, v4, v5, v6] 6 = false), ma_rn ro d 157 (35, [v0, v1, v2, v3, v4, v5, v6], .int x1 :: st, SH, σ) = ma_rn ro d 157 (37, [v0, v1, v2, v3, v4, v5, some (.int x1)], st, SH, σ)) ∧
  (∀ (v0 : Option Value) (v1 : Option Value) (v2 : Option Value) (v3 : Option Value) (v4 : Option Value) (v5 : Option Value) (v6 : Option Value) (st : List Value) (σ : ma_H), ma_rn ro d 157 (39, [v0, v1, v2, v3, v4, v5, v6], st, SH, σ) = ma_rn ro d 157 (41, [v0, v1, v2, v3, v4, v5, v6], .int (nI 20) :: st, SH, σ)) ∧
  (∀ (v0 : Option Value) (v1 : Option Value) (v2 : Option Value) (v3 : Option Value) (v4 : Option Value) (v5 : Option Value) (v6 : Option Value) (x1 : Int32) (x2 : Int32) (st : List Value) (σ : ma_H), ma_rn ro d 157 (41, [v0, v1, v2, v3, v4, v5, v6], .int x1 :: .int x2 :: st, SH, σ) = if x1 < x2 then ma_rn ro d 157 (86, [v0, v1, v2, v3, v4, v5, v6], st, SH, σ) else ma_rn ro d 157 (44, [v0, v1, v2, v3, v4, v5, v6], st, SH, σ)) ∧
  (∀ (v1 : Option Value) (v2 : Option Value) (v3 : Option Value) (v4 : Option Value) (v5 : Option Value) (v6 : Option Value) (a1 : Nat) (st : List Value) (σ : ma_H), ma_rn ro d 157 (44, [some (.ref a1), v1, v2, v3, v4, v5, v6], st, SH, σ) = ma_rn ro d 157 (45, [some (.ref a1), v1, v2, v3, v4, v5, v6], .ref a1 :: st, SH, σ)) ∧
  (∀ (v0 : Option Value) (v1 : Option Value) (v2 : Option Value) (v3 : Option Value) (v4 : Option Value) (v5 : Option Value) (v6 : Option Value) (a0 : Nat) (σ : ma_H) (hc : hk_cls a0 = 8), ma_rn ro (d + 1) 157 (45, [v0, v1, v2, v3, v4, v5, v6], .ref a0 :: [], SH, σ) = (ma_ev ro d 105 [.ref a0] SH σ).bind (fun q => ma_rn ro (d + 1) 157 (48, [v0, v1, v2, v3, v4, v5, v6], (q.1.toList ++ []), q.2.1, q.2.2))) ∧
  (∀ (v1 : Option Value) (v2 : Option Value) (v3 : Option Value) (v4 : Option Value) (v5 : Option Value) (v6 : Option Value) (a1 : Nat) (st : List Value) (σ : ma_H), ma_rn ro d 157 (48, [some (.ref a1), v1, v2, v3, v4, v5, v6], st, SH, σ) = ma_rn ro d 157 (49, [some (.ref a1), v1, v2, v3, v4, v5, v6], .ref a1 :: st, SH, σ)) ∧
  (∀ (v0 : Option Value) (v1 : Option Value) (v2 : Option Value) (v3 : Option Value) (v4 : Option Value) (v5 : Option Value) (v6 : Option Value) (a1 : Nat) (st : List Value) (σ : ma_H) (hc : hk_cls a1 = 8), ma_rn ro d 157 (49, [v0, v1, v2, v3, v4, v5, v6], .ref a1 :: st, SH, σ) = ma_rn ro d 157 (52, [v0, v1, v2, v3, v4, v5, v6], .ref (91) :: st, SH, σ)) ∧
  (∀ (v0 : Option Value) (v1 : Option Value) (v2 : Option Value) (v3 : Option Value) (v4 : Option Value) (v5 : Option Value) (v6 : Option Value) (st : List Value) (σ : ma_H), ma_rn ro d 157 (52, [v0, v1, v2, v3, v4, v5, v6], st, SH, σ) = ma_rn ro d 157 (53, [v0, v1, v2, v3, v4, v5, v6], .int (nI 1) :: st, SH, σ)) ∧
  (∀ (v0 : Option Value) (v1 : Option Value) (v2 : Option Value) (v3 : Option Value) (v4 : Option Value) (v5 : Option Value) (x1 : Int32) (st : List Value) (σ : ma_H), ma_rn ro d 157 (53, [v0, v1, v2, v3, v4, v5, some (.int x1)], st, SH, σ) = ma_rn ro d 157 (55, [v0, v1, v2, v3, v4, v5, some (.int x1)], .int x1 :: st, SH, σ)) ∧
  (∀ (v0 : Option Value) (v1 : Option Value) (v2 : Option Value) (v3 : Option Value) (v4 : Option Value) (v5 : Option Value) (v6 : Option Value) (x1 : Int32) (k : Nat) (a3 : Nat) (st : List Value) (σ : ma_H) (hk : k < hk_len a3), ma_rn ro d 157 (55, [v0, v1, v2, v3, v4, v5, v6], .int x1 :: .int (nI k) :: .ref a3 :: st, SH, σ) = ma_rn ro d 157 (56, [v0, v1, v2, v3, v4, v5, v6], st, SH, (ma_up σ a3 k x1))) ∧
  (∀ (v1 : Option Value) (v2 : Option Value) (v3 : Option Value) (v4 : Option Value) (v5 : Option Value) (v6 : Option Value) (a1 : Nat) (st : List Value) (σ : ma_H), ma_rn ro d 157 (56, [some (.ref a1), v1, v2, v3, v4, v5, v6], st, SH, σ) = ma_rn ro d 157 (57, [some (.ref a1), v1, v2, v3, v4, v5, v6], .ref a1 :: st, SH, σ)) ∧
  (∀ (v0 : Option Value) (v2 : Option Value) (v3 : Option Value) (v4 : Option Value) (v5 : Option Value) (v6 : Option Value) (x1 : Int32) (st : List Value) (σ : ma_H), ma_rn ro d 157 (57, [v0, some (.int x1), v2, v3, v4, v5, v6], st, SH, σ) = ma_rn ro d 157 (58, [v0, some (.int x1), v2, v3, v4, v5, v6], .int x1 :: st, SH, σ)) ∧
  (∀ (v0 : Option Value) (v1 : Option Value) (v3 : Option Value) (v4 : Option Value) (v5 : Option Value) (v6 : Option Value) (x1 : Int32) (st : List Value) (σ : ma_H), ma_rn ro d 157 (58, [v0, v1, some (.int x1), v3, v4, v5, v6], st, SH, σ) = ma_rn ro d 157 (59, [v0, v1, some (.int x1), v3, v4, v5, v6], .int x1 :: st, SH, σ)) ∧
  (∀ (v0 : Option Value) (v1 : Option Value) (v2 : Option Value) (v3 : Option Value) (v4 : Option Value) (v5 : Option Value) (v6 : Option Value) (x1 : Int32) (x2 : Int32) (a0 : Nat) (σ : ma_H) (hc : hk_cls a0 = 8), ma_rn ro (d + 1) 157 (59, [v0, v1, v2, v3, v4, v5, v6], .int x2 :: .int x1 :: .ref a0 :: [], SH, σ) = (ma_ev ro d 141 [.ref a0, .int x1, .int x2] SH σ).bind (fun q => ma_rn ro (d + 1) 157 (62, [v0, v1, v2, v3, v4, v5, v6], (q.1.toList ++ []), q.2.1, q.2.2))) ∧
  (∀ (v0 : Option Value) (v1 : Option Value) (v2 : Option Value) (v3 : Option Value) (v5 : Option Value) (v6 : Option Value) (j1 : Int64) (st : List Value) (σ : ma_H), ma_rn ro d 157 (62, [v0, v1, v2, v3, some (.long j1), v5, v6], st, SH, σ) = ma_rn ro d 157 (64, [v0, v1, v2, v3, some (.long j1), v5, v6], .long j1 :: st, SH, σ)) ∧
  (∀ (v1 : Option Value) (v2 : Option Value) (v3 : Option Value) (v4 : Option Value) (v5 : Option Value) (v6 : Option Value) (a1 : Nat) (st : List Value) (σ : ma_H), ma_rn ro d 157 (64, [some (.ref a1), v1, v2, v3, v4, v5, v6], st, SH, σ) = ma_rn ro d 157 (65, [some (.ref a1), v1, v2, v3, v4, v5, v6], .ref a1 :: st, SH, σ)) ∧
  (∀ (v0 : Option Value) (v1 : Option Value) (v2 : Option Value) (v3 : Option Value) (v4 : Option Value) (v5 : Option Value) (v6 : Option Value) (a1 : Nat) (st : List Value) (σ : ma_H) (hc : hk_cls a1 = 8), ma_rn ro d 157 (65, [v0, v1, v2, v3, v4, v5, v6], .ref a1 :: st, SH, σ) = ma_rn ro d 157 (68, [v0, v1, v2, v3, v4, v5, v6], .ref (91) :: st, SH, σ)) ∧
  (∀ (v0 : Option Value) (v1 : Option Value) (v2 : Option Value) (v3 : Option Value) (v4 : Option Value) (v5 : Option Value) (v6 : Option Value) (st : List Value) (σ : ma_H), ma_rn ro d 157 (68, [v0, v1, v2, v3, v4, v5, v6], st, SH, σ) = ma_rn ro d 157 (69, [v0, v1, v2, v3, v4, v5, v6], .int (nI 3) :: st, SH, σ)) ∧
  (∀ (v0 : Option Value) (v2 : Option Value) (v3 : Option Value) (v4 : Option Value) (v5 : Option Value) (v6 : Option Value) (x1 : Int32) (st : List Value) (σ : ma_H), ma_rn ro d 157 (69, [v0, some (.int x1), v2, v3, v4, v5, v6], st, SH, σ) = ma_rn ro d 157 (70, [v0, some (.int x1), v2, v3, v4, v5, v6], .int x1 :: st, SH, σ)) ∧
  (∀ (v0 : Option Value) (v1 : Option Value) (v2 : Option Value) (v3 : Option Value) (v4 : Option Value) (v5 : Option Value) (v6 : Option Value) (x1 : Int32) (x2 : Int32) (st : List Value) (σ : ma_H), ma_rn ro d 157 (70, [v0, v1, v2, v3, v4, v5, v6], .int x1 :: .int x2 :: st, SH, σ) = ma_rn ro d 157 (71, [v0, v1, v2, v3, v4, v5, v6], .int (x2 + x1) :: st, SH, σ)) ∧
  (∀ (v0 : Option Value) (v1 : Option Value) (v2 : Option Value) (v3 : Option Value) (v4 : Option Value) (v5 : Option Value) (v6 : Option Value) (k : Nat) (a2 : Nat) (st : List Value) (σ : ma_H) (hk : k < hk_len a2), ma_rn ro d 157 (71, [v0, v1, v2, v3, v4, v5, v6], .int (nI k) :: .ref a2 :: st, SH, σ) = ma_rn ro d 157 (72, [v0, v1, v2, v3, v4, v5, v6], .int (σ a2 k) :: st, SH, σ)) ∧
  (∀ (v0 : Option Value) (v1 : Option Value) (v2 : Option Value) (v3 : Option Value) (v4 : Option Value) (v5 : Option Value) (v6 : Option Value) (x1 : Int32) (st : List Value) (σ : ma_H), ma_rn ro d 157 (72, [v0, v1, v2, v3, v4, v5, v6], .int x1 :: st, SH, σ) = ma_rn ro d 157 (73, [v0, v1, v2, v3, v4, v5, v6], .long x1.toInt64 :: st, SH, σ)) ∧
  (∀ (v0 : Option Value) (v1 : Option Value) (v2 : Option Value) (v3 : Option Value) (v4 : Option Value) (v5 : Option Value) (v6 : Option Value) (j1 : Int64) (j2 : Int64) (st : List Value) (σ : ma_H), ma_rn ro d 157 (73, [v0, v1, v2, v3, v4, v5, v6], .long j1 :: .long j2 :: st, SH, σ) = ma_rn ro d 157 (74, [v0, v1, v2, v3, v4, v5, v6], .long (j2 + j1) :: st, SH, σ)) ∧
  (∀ (v0 : Option Value) (v1 : Option Value) (v2 : Option Value) (v4 : Option Value) (v5 : Option Value) (v6 : Option Value) (x9 : Int32) (j1 : Int64) (st : List Value) (σ : ma_H), ma_rn ro d 157 (74, [v0, v1, v2, some (.int x9), v4, v5, v6], .long j1 :: st, SH, σ) = ma_rn ro d 157 (76, [v0, v1, v2, some (.int x9), some (.long j1), none, v6], st, SH, σ)) ∧
  (∀ (v1 : Option Value) (v2 : Option Value) (v3 : Option Value) (v4 : Option Value) (v5 : Option Value) (v6 : Option Value) (a1 : Nat) (st : List Value) (σ : ma_H), ma_rn ro d 157 (76, [some (.ref a1), v1, v2, v3, v4, v5, v6], st, SH, σ) = ma_rn ro d 157 (77, [some (.ref a1), v1, v2, v3, v4, v5, v6], .ref a1 :: st, SH, σ)) ∧
  (∀ (v0 : Option Value) (v1 : Option Value) (v2 : Option Value) (v3 : Option Value) (v4 : Option Value) (v5 : Option Value) (v6 : Option Value) (a0 : Nat) (σ : ma_H) (hc : hk_cls a0 = 8), ma_rn ro (d + 1) 157 (77, [v0, v1, v2, v3, v4, v5, v6], .ref a0 :: [], SH, σ) = (ma_ev ro d 106 [.ref a0] SH σ).bind (fun q => ma_rn ro (d + 1) 157 (80, [v0, v1, v2, v3, v4, v5, v6], (q.1.toList ++ []), q.2.1, q.2.2))) ∧
  (∀ (v0 : Option Value) (v1 : Option Value) (v2 : Option Value) (v3 : Option Value) (v4 : Option Value) (v5 : Option Value) (x1 : Int32) (st : List Value) (σ : ma_H) (hb : ma_bef [v0, v1, v2, v3, v4, v5, some (.int x1)] 6 = false), ma_rn ro d 157 (80, [v0, v1, v2, v3, v4, v5, some (.int x1)], st, SH, σ) = ma_rn ro d 157 (83, [v0, v1, v2, v3, v4, v5, some (.int (x1 + nI 1))], st, SH, σ)) ∧
  (∀ (v0 : Option Value) (v1 : Option Value) (v2 : Option Value) (v3 : Option Value) (v4 : Option Value) (v5 : Option Value) (v6 : Option Value) (st : List Value) (σ : ma_H), ma_rn ro d 157 (83, [v0, v1, v2, v3, v4, v5, v6], st, SH, σ) = ma_rn ro d 157 (37, [v0, v1, v2, v3, v4, v5, v6], st, SH, σ)) ∧
  (∀ (v0 : Option Value) (v1 : Option Value) (v2 : Option Value) (v3 : Option Value) (v5 : Option Value) (v6 : Option Value) (j1 : Int64) (st : List Value) (σ : ma_H), ma_rn ro d 157 (86, [v0, v1, v2, v3, some (.long j1), v5, v6], st, SH, σ) = ma_rn ro d 157 (88, [v0, v1, v2, v3, some (.long j1), v5, v6], .long j1 :: st, SH, σ)) ∧
  (∀ (v0 : Option Value) (v1 : Option Value) (v2 : Option Value) (v3 : Option Value) (v4 : Option Value) (v5 : Option Value) (v6 : Option Value) (st : List Value) (σ : ma_H), ma_rn ro d 157 (88, [v0, v1, v2, v3, v4, v5, v6], st, SH, σ) = ma_rn ro d 157 (91, [v0, v1, v2, v3, v4, v5, v6], .long (21) :: st, SH, σ)) ∧
  (∀ (v0 : Option Value) (v1 : Option Value) (v2 : Option Value) (v4 : Option Value) (v5 : Option Value) (v6 : Option Value) (x1 : Int32) (st : List Value) (σ : ma_H), ma_rn ro d 157 (91, [v0, v1, v2, some (.int x1), v4, v5, v6], st, SH, σ) = ma_rn ro d 157 (92, [v0, v1, v2, some (.int x1), v4, v5, v6], .int x1 :: st, SH, σ)) ∧
  (∀ (v0 : Option Value) (v1 : Option Value) (v2 : Option Value) (v3 : Option Value) (v4 : Option Value) (v5 : Option Value) (v6 : Option Value) (j1 : Int64) (j2 : Int64) (x3 : Int32) (σ : ma_H), ma_rn ro (d + 1) 157 (92, [v0, v1, v2, v3, v4, v5, v6], .int x3 :: .long j2 :: .long j1 :: [], SH, σ) = (ma_ev ro d 156 [.long j1, .long j2, .int x3] SH σ).bind (fun q => ma_rn ro (d + 1) 157 (95, [v0, v1, v2, v3, v4, v5, v6], (q.1.toList ++ []), q.2.1, q.2.2))) ∧
  (∀ (v0 : Option Value) (v1 : Option Value) (v2 : Option Value) (v3 : Option Value) (v4 : Option Value) (v5 : Option Value) (v6 : Option Value) (j1 : Int64) (σ : ma_H), ma_rn ro d 157 (95, [v0, v1, v2, v3, v4, v5, v6], [.long j1], SH, σ) = some (some (.long j1), SH, σ)) := ⟨fun v1 v2 v3 v4 v5 v6 a1 st σ => q_go e157_0 rfl rfl,
  fun v0 v2 v3 v4 v5 v6 x1 st σ => q_go e157_1 rfl rfl,
  fun v0 v1 v2 v3 v4 v5 v6 x1 a0 σ hc => q_invV (as := [.int x1]) (rest := []) e157_2 o_157 bn_8_129 c_8_129 m_103 (by decide) rfl rfl (Nat.le_of_ble_eq_true rfl) (Nat.le_of_ble_eq_true rfl) hc,
  fun v0 v1 v2 v3 v4 v5 v6 x1 st σ => (q_if e157_5 rfl).trans q_eq,
  fun v0 v1 v3 v4 v5 v6 x1 st σ => q_go e157_8 rfl rfl,
  fun v0 v1 v2 v3 v4 v5 v6 st σ => q_iconst e157_9 (by decide),
  fun v0 v1 v2 v3 v4 v5 v6 st σ => q_bipush e157_10 (by decide),
  fun v0 v1 v2 v3 v4 v5 v6 x1 x2 x3 σ => q_invS (as := [.int x1, .int x2, .int x3]) (rest := []) e157_12 o_157 bn_8_35 c_8_35 ⟨m_102.1, m_102.2.1, m_102.2.2.1⟩ rfl rfl (Nat.le_of_ble_eq_true rfl) (Nat.le_of_ble_eq_true rfl),
  fun v0 v1 v2 v3 v4 v5 v6 x1 st σ => (q_if e157_15 rfl).trans q_eq,
  fun v0 v1 v2 v4 v5 v6 x1 st σ => q_go e157_18 rfl rfl,
  fun v0 v1 v2 v3 v4 v5 v6 st σ => q_iconst e157_19 (by decide),
  fun v0 v1 v2 v3 v4 v5 v6 st σ => q_iconst e157_20 (by decide),
  fun v0 v1 v2 v3 v4 v5 v6 x1 x2 x3 σ => q_invS (as := [.int x1, .int x2, .int x3]) (rest := []) e157_21 o_157 bn_8_35 c_8_35 ⟨m_102.1, m_102.2.1, m_102.2.2.1⟩ rfl rfl (Nat.le_of_ble_eq_true rfl) (Nat.le_of_ble_eq_true rfl),
  fun v0 v1 v2 v3 v4 v5 v6 x1 st σ => (q_if e157_24 rfl).trans q_ne,
  fun v0 v1 v2 v3 v4 v5 v6 st σ => q_ldc2 e157_27 o_157 l_8_193,
  fun v0 v1 v2 v3 v4 v5 v6 j1 σ => q_lret e157_30 r_157,
  fun v0 v1 v2 v3 v4 v5 v6 st σ => q_go e157_31 rfl rfl,
  fun v0 v1 v2 v4 v5 v6 x9 j1 st σ => q_go e157_32 rfl rfl,
  fun v0 v1 v2 v3 v4 v5 v6 st σ => q_iconst e157_34 (by decide),
  fun v0 v1 v2 v3 v4 v5 v6 x1 st σ hb => q_go e157_35 rfl (q_s1 hb rfl (Nat.le_of_ble_eq_true rfl)),
  fun v0 v1 v2 v3 v4 v5 v6 st σ => q_bipush e157_39 (by decide),
  fun v0 v1 v2 v3 v4 v5 v6 x1 x2 st σ => (q_cmp e157_41 rfl).trans q_gt,
  fun v1 v2 v3 v4 v5 v6 a1 st σ => q_go e157_44 rfl rfl,
  fun v0 v1 v2 v3 v4 v5 v6 a0 σ hc => q_invV (as := []) (rest := []) e157_45 o_157 bn_8_159 c_8_159 m_105 (by decide) rfl rfl (Nat.le_of_ble_eq_true rfl) (Nat.le_of_ble_eq_true rfl) hc,
  fun v1 v2 v3 v4 v5 v6 a1 st σ => q_go e157_48 rfl rfl,
  fun v0 v1 v2 v3 v4 v5 v6 a1 st σ hc => q_getA e157_49 o_157 f_8_9 (by decide) hc,
  fun v0 v1 v2 v3 v4 v5 v6 st σ => q_iconst e157_52 (by decide),
  fun v0 v1 v2 v3 v4 v5 x1 st σ => q_go e157_53 rfl rfl,
  fun v0 v1 v2 v3 v4 v5 v6 x1 k a3 st σ hk => q_iast e157_55 hk,
  fun v1 v2 v3 v4 v5 v6 a1 st σ => q_go e157_56 rfl rfl,
  fun v0 v2 v3 v4 v5 v6 x1 st σ => q_go e157_57 rfl rfl,
  fun v0 v1 v3 v4 v5 v6 x1 st σ => q_go e157_58 rfl rfl,
  fun v0 v1 v2 v3 v4 v5 v6 x1 x2 a0 σ hc => q_invV (as := [.int x1, .int x2]) (rest := []) e157_59 o_157 bn_8_174 c_8_174 m_141 (by decide) rfl rfl (Nat.le_of_ble_eq_true rfl) (Nat.le_of_ble_eq_true rfl) hc,
  fun v0 v1 v2 v3 v5 v6 j1 st σ => q_go e157_62 rfl rfl,
  fun v1 v2 v3 v4 v5 v6 a1 st σ => q_go e157_64 rfl rfl,
  fun v0 v1 v2 v3 v4 v5 v6 a1 st σ hc => q_getA e157_65 o_157 f_8_9 (by decide) hc,
  fun v0 v1 v2 v3 v4 v5 v6 st σ => q_iconst e157_68 (by decide),
  fun v0 v2 v3 v4 v5 v6 x1 st σ => q_go e157_69 rfl rfl,
  fun v0 v1 v2 v3 v4 v5 v6 x1 x2 st σ => q_go e157_70 rfl rfl,
  fun v0 v1 v2 v3 v4 v5 v6 k a2 st σ hk => q_iald e157_71 hk,
  fun v0 v1 v2 v3 v4 v5 v6 x1 st σ => q_go e157_72 rfl rfl,
  fun v0 v1 v2 v3 v4 v5 v6 j1 j2 st σ => q_go e157_73 rfl rfl,
  fun v0 v1 v2 v4 v5 v6 x9 j1 st σ => q_go e157_74 rfl rfl,
  fun v1 v2 v3 v4 v5 v6 a1 st σ => q_go e157_76 rfl rfl,
  fun v0 v1 v2 v3 v4 v5 v6 a0 σ hc => q_invV (as := []) (rest := []) e157_77 o_157 bn_8_165 c_8_165 m_106 (by decide) rfl rfl (Nat.le_of_ble_eq_true rfl) (Nat.le_of_ble_eq_true rfl) hc,
  fun v0 v1 v2 v3 v4 v5 x1 st σ hb => q_iinc e157_80 rfl hb (by decide),
  fun v0 v1 v2 v3 v4 v5 v6 st σ => q_goto e157_83 rfl,
  fun v0 v1 v2 v3 v5 v6 j1 st σ => q_go e157_86 rfl rfl,
  fun v0 v1 v2 v3 v4 v5 v6 st σ => q_ldc2 e157_88 o_157 l_8_195,
  fun v0 v1 v2 v4 v5 v6 x1 st σ => q_go e157_91 rfl rfl,
  fun v0 v1 v2 v3 v4 v5 v6 j1 j2 x3 σ => q_invS (as := [.long j1, .long j2, .int x3]) (rest := []) e157_92 o_157 bn_8_197 c_8_197 ⟨m_156.1, m_156.2.1, m_156.2.2.1⟩ rfl rfl (Nat.le_of_ble_eq_true rfl) (Nat.le_of_ble_eq_true rfl),
  fun v0 v1 v2 v3 v4 v5 v6 j1 σ => q_lret e157_95 r_157⟩
theorem E157 {ro : ma_RO} {d : Nat} (a0 : Nat) (x1 : Int32) (x2 : Int32) (x3 : Int32) (sh : List ma_Sh) (σ : ma_H) : ma_ev ro d 157 [.ref a0, .int x1, .int x2, .int x3] sh σ = ma_rn ro d 157 (0, [some (.ref a0), some (.int x1), some (.int x2), some (.int x3), none, none, none], [], sh, σ) := q_ent x_157 rfl
theorem e158_0 : decode (ma_cd 158) 0 = .ok (.lconst 0, 1) := (congrArg (fun b => decode b 0) cd_158).trans dX8_mean_0
theorem e158_1 : decode (ma_cd 158) 1 = .ok (.lstore_n 2, 1) := (congrArg (fun b => decode b 1) cd_158).trans dX8_mean_1
theorem e158_2 : decode (ma_cd 158) 2 = .ok (.iconst 0, 1) := (congrArg (fun b => decode b 2) cd_158).trans dX8_mean_2
theorem e158_3 : decode (ma_cd 158) 3 = .ok (.istore 4, 2) := (congrArg (fun b => decode b 3) cd_158).trans dX8_mean_3
theorem e158_5 : decode (ma_cd 158) 5 = .ok (.iload 4, 2) := (congrArg (fun b => decode b 5) cd_158).trans dX8_mean_5
theorem e158_7 : decode (ma_cd 158) 7 = .ok (.aload_n 0, 1) := (congrArg (fun b => decode b 7) cd_158).trans dX8_mean_7
theorem e158_8 : decode (ma_cd 158) 8 = .ok (.getfield 9, 3) := (congrArg (fun b => decode b 8) cd_158).trans dX8_mean_8
theorem e158_11 : decode (ma_cd 158) 11 = .ok (.bipush 33, 2) := (congrArg (fun b => decode b 11) cd_158).trans dX8_mean_11
theorem e158_13 : decode (ma_cd 158) 13 = .ok (.iaload, 1) := (congrArg (fun b => decode b 13) cd_158).trans dX8_mean_13
theorem e158_14 : decode (ma_cd 158) 14 = .ok (.if_icmp .ge 23, 3) := (congrArg (fun b => decode b 14) cd_158).trans dX8_mean_14
theorem e158_17 : decode (ma_cd 158) 17 = .ok (.lload_n 2, 1) := (congrArg (fun b => decode b 17) cd_158).trans dX8_mean_17
theorem e158_18 : decode (ma_cd 158) 18 = .ok (.aload_n 0, 1) := (congrArg (fun b => decode b 18) cd_158).trans dX8_mean_18
theorem e158_19 : decode (ma_cd 158) 19 = .ok (.getfield 9, 3) := (congrArg (fun b => decode b 19) cd_158).trans dX8_mean_19
theorem e158_22 : decode (ma_cd 158) 22 = .ok (.bipush 9, 2) := (congrArg (fun b => decode b 22) cd_158).trans dX8_mean_22
theorem e158_24 : decode (ma_cd 158) 24 = .ok (.iload 4, 2) := (congrArg (fun b => decode b 24) cd_158).trans dX8_mean_24
theorem e158_26 : decode (ma_cd 158) 26 = .ok (.iadd, 1) := (congrArg (fun b => decode b 26) cd_158).trans dX8_mean_26
theorem e158_27 : decode (ma_cd 158) 27 = .ok (.iaload, 1) := (congrArg (fun b => decode b 27) cd_158).trans dX8_mean_27
theorem e158_28 : decode (ma_cd 158) 28 = .ok (.i2l, 1) := (congrArg (fun b => decode b 28) cd_158).trans dX8_mean_28
theorem e158_29 : decode (ma_cd 158) 29 = .ok (.ladd, 1) := (congrArg (fun b => decode b 29) cd_158).trans dX8_mean_29
theorem e158_30 : decode (ma_cd 158) 30 = .ok (.lstore_n 2, 1) := (congrArg (fun b => decode b 30) cd_158).trans dX8_mean_30
theorem e158_31 : decode (ma_cd 158) 31 = .ok (.iinc 4 1, 3) := (congrArg (fun b => decode b 31) cd_158).trans dX8_mean_31
theorem e158_34 : decode (ma_cd 158) 34 = .ok (.goto (-29), 3) := (congrArg (fun b => decode b 34) cd_158).trans dX8_mean_34
theorem e158_37 : decode (ma_cd 158) 37 = .ok (.iload_n 1, 1) := (congrArg (fun b => decode b 37) cd_158).trans dX8_mean_37
theorem e158_38 : decode (ma_cd 158) 38 = .ok (.iconst 0, 1) := (congrArg (fun b => decode b 38) cd_158).trans dX8_mean_38
theorem e158_39 : decode (ma_cd 158) 39 = .ok (.iconst 1, 1) := (congrArg (fun b => decode b 39) cd_158).trans dX8_mean_39
theorem e158_40 : decode (ma_cd 158) 40 = .ok (.invokestatic 35, 3) := (congrArg (fun b => decode b 40) cd_158).trans dX8_mean_40
theorem e158_43 : decode (ma_cd 158) 43 = .ok (.ifCond .eq 13, 3) := (congrArg (fun b => decode b 43) cd_158).trans dX8_mean_43
theorem e158_46 : decode (ma_cd 158) 46 = .ok (.aload_n 0, 1) := (congrArg (fun b => decode b 46) cd_158).trans dX8_mean_46
theorem e158_47 : decode (ma_cd 158) 47 = .ok (.getfield 9, 3) := (congrArg (fun b => decode b 47) cd_158).trans dX8_mean_47
theorem e158_50 : decode (ma_cd 158) 50 = .ok (.bipush 33, 2) := (congrArg (fun b => decode b 50) cd_158).trans dX8_mean_50
theorem e158_52 : decode (ma_cd 158) 52 = .ok (.iaload, 1) := (congrArg (fun b => decode b 52) cd_158).trans dX8_mean_52
theorem e158_53 : decode (ma_cd 158) 53 = .ok (.ifCond .ne 9, 3) := (congrArg (fun b => decode b 53) cd_158).trans dX8_mean_53
theorem e158_56 : decode (ma_cd 158) 56 = .ok (.ldc2_w 193, 3) := (congrArg (fun b => decode b 56) cd_158).trans dX8_mean_56
theorem e158_59 : decode (ma_cd 158) 59 = .ok (.goto 16, 3) := (congrArg (fun b => decode b 59) cd_158).trans dX8_mean_59
theorem e158_62 : decode (ma_cd 158) 62 = .ok (.lload_n 2, 1) := (congrArg (fun b => decode b 62) cd_158).trans dX8_mean_62
theorem e158_63 : decode (ma_cd 158) 63 = .ok (.aload_n 0, 1) := (congrArg (fun b => decode b 63) cd_158).trans dX8_mean_63
theorem e158_64 : decode (ma_cd 158) 64 = .ok (.getfield 9, 3) := (congrArg (fun b => decode b 64) cd_158).trans dX8_mean_64
theorem e158_67 : decode (ma_cd 158) 67 = .ok (.bipush 33, 2) := (congrArg (fun b => decode b 67) cd_158).trans dX8_mean_67
theorem e158_69 : decode (ma_cd 158) 69 = .ok (.iaload, 1) := (congrArg (fun b => decode b 69) cd_158).trans dX8_mean_69
theorem e158_70 : decode (ma_cd 158) 70 = .ok (.i2l, 1) := (congrArg (fun b => decode b 70) cd_158).trans dX8_mean_70
theorem e158_71 : decode (ma_cd 158) 71 = .ok (.iload_n 1, 1) := (congrArg (fun b => decode b 71) cd_158).trans dX8_mean_71
theorem e158_72 : decode (ma_cd 158) 72 = .ok (.invokestatic 197, 3) := (congrArg (fun b => decode b 72) cd_158).trans dX8_mean_72
theorem e158_75 : decode (ma_cd 158) 75 = .ok (.lreturn, 1) := (congrArg (fun b => decode b 75) cd_158).trans dX8_mean_75
theorem Sh158_5 {ro : ma_RO} {d : Nat} : (∀ (v0 : Option Value) (v1 : Option Value) (v2 : Option Value) (v3 : Option Value) (x1 : Int32) (st : List Value) (σ : ma_H), ma_rn ro d 158 (5, [v0, v1, v2, v3, some (.int x1)], st, SH, σ) = ma_rn ro d 158 (7, [v0, v1, v2, v3, some (.int x1)], .int x1 :: st, SH, σ)) := fun v0 v1 v2 v3 x1 st σ => q_go e158_5 rfl rfl
theorem S158 {ro : ma_RO} {d : Nat} : (∀ (v0 : Option Value) (v1 : Option Value) (v2 : Option Value) (v3 : Option Value) (v4 : Option Value) (st : List Value) (σ : ma_H), ma_rn ro d 158 (0, [v0, v1, v2, v3, v4], st, SH, σ) = ma_rn ro d 158 (1, [v0, v1, v2, v3, v4], .long 0 :: st, SH, σ)) ∧
  (∀ (v0 : Option Value) (v2 : Option Value) (v3 : Option Value) (v4 : Option Value) (x9 : Int32) (j1 : Int64) (st : List Value) (σ : ma_H), ma_rn ro d 158 (1, [v0, some (.int x9), v2, v3, v4], .long j1 :: st, SH, σ) = ma_rn ro d 158 (2, [v0, some (.int x9), some (.long j1), none, v4], st, SH, σ)) ∧
  (∀ (v0 : Option Value) (v1 : Option Value) (v2 : Option Value) (v3 : Option Value) (v4 : Option Value) (st : List Value) (σ : ma_H), ma_rn ro d 158 (2, [v0, v1, v2, v3, v4], st, SH, σ) = ma_rn ro d 158 (3, [v0, v1, v2, v3, v4], .int (nI 0) :: st, SH, σ)) ∧
  (∀ (v0 : Option Value) (v1 : Option Value) (v2 : Option Value) (v3 : Option Value) (v4 : Option Value) (x1 : Int32) (st : List Value) (σ : ma_H) (hb : ma_bef [v0, v1, v2, v3, v4] 4 = false), ma_rn ro d 158 (3, [v0, v1, v2, v3, v4], .int x1 :: st, SH, σ) = ma_rn ro d 158 (5, [v0, v1, v2, v3, some (.int x1)], st, SH, σ)) ∧
  (∀ (v1 : Option Value) (v2 : Option Value) (v3 : Option Value) (v4 : Option Value) (a1 : Nat) (st : List Value) (σ : ma_H), ma_rn ro d 158 (7, [some (.ref a1), v1, v2, v3, v4], st, SH, σ) = ma_rn ro d 158 (8, [some (.ref a1), v1, v2, v3, v4], .ref a1 :: st, SH, σ)) ∧
  (∀ (v0 : Option Value) (v1 : Option Value) (v2 : Option Value) (v3 : Option Value) (v4 : Option Value) (a1 : Nat) (st : List Value) (σ : ma_H) (hc : hk_cls a1 = 8), ma_rn ro d 158 (8, [v0, v1, v2, v3, v4], .ref a1 :: st, SH, σ) = ma_rn ro d 158 (11, [v0, v1, v2, v3, v4], .ref (91) :: st, SH, σ)) ∧
  (∀ (v0 : Option Value) (v1 : Option Value) (v2 : Option Value) (v3 : Option Value) (v4 : Option Value) (st : List Value) (σ : ma_H), ma_rn ro d 158 (11, [v0, v1, v2, v3, v4], st, SH, σ) = ma_rn ro d 158 (13, [v0, v1, v2, v3, v4], .int (nI 33) :: st, SH, σ)) ∧
  (∀ (v0 : Option Value) (v1 : Option Value) (v2 : Option Value) (v3 : Option Value) (v4 : Option Value) (k : Nat) (a2 : Nat) (st : List Value) (σ : ma_H) (hk : k < hk_len a2), ma_rn ro d 158 (13, [v0, v1, v2, v3, v4], .int (nI k) :: .ref a2 :: st, SH, σ) = ma_rn ro d 158 (14, [v0, v1, v2, v3, v4], .int (σ a2 k) :: st, SH, σ)) ∧
  (∀ (v0 : Option Value) (v1 : Option Value) (v2 : Option Value) (v3 : Option Value) (v4 : Option Value) (x1 : Int32) (x2 : Int32) (st : List Value) (σ : ma_H), ma_rn ro d 158 (14, [v0, v1, v2, v3, v4], .int x1 :: .int x2 :: st, SH, σ) = if x2 < x1 then ma_rn ro d 158 (17, [v0, v1, v2, v3, v4], st, SH, σ) else ma_rn ro d 158 (37, [v0, v1, v2, v3, v4], st, SH, σ)) ∧
  (∀ (v0 : Option Value) (v1 : Option Value) (v3 : Option Value) (v4 : Option Value) (j1 : Int64) (st : List Value) (σ : ma_H), ma_rn ro d 158 (17, [v0, v1, some (.long j1), v3, v4], st, SH, σ) = ma_rn ro d 158 (18, [v0, v1, some (.long j1), v3, v4], .long j1 :: st, SH, σ)) ∧
  (∀ (v1 : Option Value) (v2 : Option Value) (v3 : Option Value) (v4 : Option Value) (a1 : Nat) (st : List Value) (σ : ma_H), ma_rn ro d 158 (18, [some (.ref a1), v1, v2, v3, v4], st, SH, σ) = ma_rn ro d 158 (19, [some (.ref a1), v1, v2, v3, v4], .ref a1 :: st, SH, σ)) ∧
  (∀ (v0 : Option Value) (v1 : Option Value) (v2 : Option Value) (v3 : Option Value) (v4 : Option Value) (a1 : Nat) (st : List Value) (σ : ma_H) (hc : hk_cls a1 = 8), ma_rn ro d 158 (19, [v0, v1, v2, v3, v4], .ref a1 :: st, SH, σ) = ma_rn ro d 158 (22, [v0, v1, v2, v3, v4], .ref (91) :: st, SH, σ)) ∧
  (∀ (v0 : Option Value) (v1 : Option Value) (v2 : Option Value) (v3 : Option Value) (v4 : Option Value) (st : List Value) (σ : ma_H), ma_rn ro d 158 (22, [v0, v1, v2, v3, v4], st, SH, σ) = ma_rn ro d 158 (24, [v0, v1, v2, v3, v4], .int (nI 9) :: st, SH, σ)) ∧
  (∀ (v0 : Option Value) (v1 : Option Value) (v2 : Option Value) (v3 : Option Value) (x1 : Int32) (st : List Value) (σ : ma_H), ma_rn ro d 158 (24, [v0, v1, v2, v3, some (.int x1)], st, SH, σ) = ma_rn ro d 158 (26, [v0, v1, v2, v3, some (.int x1)], .int x1 :: st, SH, σ)) ∧
  (∀ (v0 : Option Value) (v1 : Option Value) (v2 : Option Value) (v3 : Option Value) (v4 : Option Value) (x1 : Int32) (x2 : Int32) (st : List Value) (σ : ma_H), ma_rn ro d 158 (26, [v0, v1, v2, v3, v4], .int x1 :: .int x2 :: st, SH, σ) = ma_rn ro d 158 (27, [v0, v1, v2, v3, v4], .int (x2 + x1) :: st, SH, σ)) ∧
  (∀ (v0 : Option Value) (v1 : Option Value) (v2 : Option Value) (v3 : Option Value) (v4 : Option Value) (k : Nat) (a2 : Nat) (st : List Value) (σ : ma_H) (hk : k < hk_len a2), ma_rn ro d 158 (27, [v0, v1, v2, v3, v4], .int (nI k) :: .ref a2 :: st, SH, σ) = ma_rn ro d 158 (28, [v0, v1, v2, v3, v4], .int (σ a2 k) :: st, SH, σ)) ∧
  (∀ (v0 : Option Value) (v1 : Option Value) (v2 : Option Value) (v3 : Option Value) (v4 : Option Value) (x1 : Int32) (st : List Value) (σ : ma_H), ma_rn ro d 158 (28, [v0, v1, v2, v3, v4], .int x1 :: st, SH, σ) = ma_rn ro d 158 (29, [v0, v1, v2, v3, v4], .long x1.toInt64 :: st, SH, σ)) ∧
  (∀ (v0 : Option Value) (v1 : Option Value) (v2 : Option Value) (v3 : Option Value) (v4 : Option Value) (j1 : Int64) (j2 : Int64) (st : List Value) (σ : ma_H), ma_rn ro d 158 (29, [v0, v1, v2, v3, v4], .long j1 :: .long j2 :: st, SH, σ) = ma_rn ro d 158 (30, [v0, v1, v2, v3, v4], .long (j2 + j1) :: st, SH, σ)) ∧
  (∀ (v0 : Option Value) (v2 : Option Value) (v3 : Option Value) (v4 : Option Value) (x9 : Int32) (j1 : Int64) (st : List Value) (σ : ma_H), ma_rn ro d 158 (30, [v0, some (.int x9), v2, v3, v4], .long j1 :: st, SH, σ) = ma_rn ro d 158 (31, [v0, some (.int x9), some (.long j1), none, v4], st, SH, σ)) ∧
  (∀ (v0 : Option Value) (v1 : Option Value) (v2 : Option Value) (v3 : Option Value) (x1 : Int32) (st : List Value) (σ : ma_H) (hb : ma_bef [v0, v1, v2, v3, some (.int x1)] 4 = false), ma_rn ro d 158 (31, [v0, v1, v2, v3, some (.int x1)], st, SH, σ) = ma_rn ro d 158 (34, [v0, v1, v2, v3, some (.int (x1 + nI 1))], st, SH, σ)) ∧
  (∀ (v0 : Option Value) (v1 : Option Value) (v2 : Option Value) (v3 : Option Value) (v4 : Option Value) (st : List Value) (σ : ma_H), ma_rn ro d 158 (34, [v0, v1, v2, v3, v4], st, SH, σ) = ma_rn ro d 158 (5, [v0, v1, v2, v3, v4], st, SH, σ)) ∧
  (∀ (v0 : Option Value) (v2 : Option Value) (v3 : Option Value) (v4 : Option Value) (x1 : Int32) (st : List Value) (σ : ma_H), ma_rn ro d 158 (37, [v0, some (.int x1), v2, v3, v4], st, SH, σ) = ma_rn ro d 158 (38, [v0, some (.int x1), v2, v3, v4], .int x1 :: st, SH, σ)) ∧
  (∀ (v0 : Option Value) (v1 : Option Value) (v2 : Option Value) (v3 : Option Value) (v4 : Option Value) (st : List Value) (σ : ma_H), ma_rn ro d 158 (38, [v0, v1, v2, v3, v4], st, SH, σ) = ma_rn ro d 158 (39, [v0, v1, v2, v3, v4], .int (nI 0) :: st, SH, σ)) ∧
  (∀ (v0 : Option Value) (v1 : Option Value) (v2 : Option Value) (v3 : Option Value) (v4 : Option Value) (st : List Value) (σ : ma_H), ma_rn ro d 158 (39, [v0, v1, v2, v3, v4], st, SH, σ) = ma_rn ro d 158 (40, [v0, v1, v2, v3, v4], .int (nI 1) :: st, SH, σ)) ∧
  (∀ (v0 : Option Value) (v1 : Option Value) (v2 : Option Value) (v3 : Option Value) (v4 : Option Value) (x1 : Int32) (x2 : Int32) (x3 : Int32) (σ : ma_H), ma_rn ro (d + 1) 158 (40, [v0, v1, v2, v3, v4], .int x3 :: .int x2 :: .int x1 :: [], SH, σ) = (ma_ev ro d 102 [.int x1, .int x2, .int x3] SH σ).bind (fun q => ma_rn ro (d + 1) 158 (43, [v0, v1, v2, v3, v4], (q.1.toList ++ []), q.2.1, q.2.2))) ∧
  (∀ (v0 : Option Value) (v1 : Option Value) (v2 : Option Value) (v3 : Option Value) (v4 : Option Value) (x1 : Int32) (st : List Value) (σ : ma_H), ma_rn ro d 158 (43, [v0, v1, v2, v3, v4], .int x1 :: st, SH, σ) = if x1 = nI 0 then ma_rn ro d 158 (56, [v0, v1, v2, v3, v4], st, SH, σ) else ma_rn ro d 158 (46, [v0, v1, v2, v3, v4], st, SH, σ)) ∧
  (∀ (v1 : Option Value) (v2 : Option Value) (v3 : Option Value) (v4 : Option Value) (a1 : Nat) (st : List Value) (σ : ma_H), ma_rn ro d 158 (46, [some (.ref a1), v1, v2, v3, v4], st, SH, σ) = ma_rn ro d 158 (47, [some (.ref a1), v1, v2, v3, v4], .ref a1 :: st, SH, σ)) ∧
  (∀ (v0 : Option Value) (v1 : Option Value) (v2 : Option Value) (v3 : Option Value) (v4 : Option Value) (a1 : Nat) (st : List Value) (σ : ma_H) (hc : hk_cls a1 = 8), ma_rn ro d 158 (47, [v0, v1, v2, v3, v4], .ref a1 :: st, SH, σ) = ma_rn ro d 158 (50, [v0, v1, v2, v3, v4], .ref (91) :: st, SH, σ)) ∧
  (∀ (v0 : Option Value) (v1 : Option Value) (v2 : Option Value) (v3 : Option Value) (v4 : Option Value) (st : List Value) (σ : ma_H), ma_rn ro d 158 (50, [v0, v1, v2, v3, v4], st, SH, σ) = ma_rn ro d 158 (52, [v0, v1, v2, v3, v4], .int (nI 33) :: st, SH, σ)) ∧
  (∀ (v0 : Option Value) (v1 : Option Value) (v2 : Option Value) (v3 : Option Value) (v4 : Option Value) (k : Nat) (a2 : Nat) (st : List Value) (σ : ma_H) (hk : k < hk_len a2), ma_rn ro d 158 (52, [v0, v1, v2, v3, v4], .int (nI k) :: .ref a2 :: st, SH, σ) = ma_rn ro d 158 (53, [v0, v1, v2, v3, v4], .int (σ a2 k) :: st, SH, σ)) ∧
  (∀ (v0 : Option Value) (v1 : Option Value) (v2 : Option Value) (v3 : Option Value) (v4 : Option Value) (x1 : Int32) (st : List Value) (σ : ma_H), ma_rn ro d 158 (53, [v0, v1, v2, v3, v4], .int x1 :: st, SH, σ) = if x1 = nI 0 then ma_rn ro d 158 (56, [v0, v1, v2, v3, v4], st, SH, σ) else ma_rn ro d 158 (62, [v0, v1, v2, v3, v4], st, SH, σ)) ∧
  (∀ (v0 : Option Value) (v1 : Option Value) (v2 : Option Value) (v3 : Option Value) (v4 : Option Value) (st : List Value) (σ : ma_H), ma_rn ro d 158 (56, [v0, v1, v2, v3, v4], st, SH, σ) = ma_rn ro d 158 (59, [v0, v1, v2, v3, v4], .long (-9223372036854775808) :: st, SH, σ)) ∧
  (∀ (v0 : Option Value) (v1 : Option Value) (v2 : Option Value) (v3 : Option Value) (v4 : Option Value) (st : List Value) (σ : ma_H), ma_rn ro d 158 (59, [v0, v1, v2, v3, v4], st, SH, σ) = ma_rn ro d 158 (75, [v0, v1, v2, v3, v4], st, SH, σ)) ∧
  (∀ (v0 : Option Value) (v1 : Option Value) (v3 : Option Value) (v4 : Option Value) (j1 : Int64) (st : List Value) (σ : ma_H), ma_rn ro d 158 (62, [v0, v1, some (.long j1), v3, v4], st, SH, σ) = ma_rn ro d 158 (63, [v0, v1, some (.long j1), v3, v4], .long j1 :: st, SH, σ)) ∧
  (∀ (v1 : Option Value) (v2 : Option Value) (v3 : Option Value) (v4 : Option Value) (a1 : Nat) (st : List Value) (σ : ma_H), ma_rn ro d 158 (63, [some (.ref a1), v1, v2, v3, v4], st, SH, σ) = ma_rn ro d 158 (64, [some (.ref a1), v1, v2, v3, v4], .ref a1 :: st, SH, σ)) ∧
  (∀ (v0 : Option Value) (v1 : Option Value) (v2 : Option Value) (v3 : Option Value) (v4 : Option Value) (a1 : Nat) (st : List Value) (σ : ma_H) (hc : hk_cls a1 = 8), ma_rn ro d 158 (64, [v0, v1, v2, v3, v4], .ref a1 :: st, SH, σ) = ma_rn ro d 158 (67, [v0, v1, v2, v3, v4], .ref (91) :: st, SH, σ)) ∧
  (∀ (v0 : Option Value) (v1 : Option Value) (v2 : Option Value) (v3 : Option Value) (v4 : Option Value) (st : List Value) (σ : ma_H), ma_rn ro d 158 (67, [v0, v1, v2, v3, v4], st, SH, σ) = ma_rn ro d 158 (69, [v0, v1, v2, v3, v4], .int (nI 33) :: st, SH, σ)) ∧
  (∀ (v0 : Option Value) (v1 : Option Value) (v2 : Option Value) (v3 : Option Value) (v4 : Option Value) (k : Nat) (a2 : Nat) (st : List Value) (σ : ma_H) (hk : k < hk_len a2), ma_rn ro d 158 (69, [v0, v1, v2, v3, v4], .int (nI k) :: .ref a2 :: st, SH, σ) = ma_rn ro d 158 (70, [v0, v1, v2, v3, v4], .int (σ a2 k) :: st, SH, σ)) ∧
  (∀ (v0 : Option Value) (v1 : Option Value) (v2 : Option Value) (v3 : Option Value) (v4 : Option Value) (x1 : Int32) (st : List Value) (σ : ma_H), ma_rn ro d 158 (70, [v0, v1, v2, v3, v4], .int x1 :: st, SH, σ) = ma_rn ro d 158 (71, [v0, v1, v2, v3, v4], .long x1.toInt64 :: st, SH, σ)) ∧
  (∀ (v0 : Option Value) (v2 : Option Value) (v3 : Option Value) (v4 : Option Value) (x1 : Int32) (st : List Value) (σ : ma_H), ma_rn ro d 158 (71, [v0, some (.int x1), v2, v3, v4], st, SH, σ) = ma_rn ro d 158 (72, [v0, some (.int x1), v2, v3, v4], .int x1 :: st, SH, σ)) ∧
  (∀ (v0 : Option Value) (v1 : Option Value) (v2 : Option Value) (v3 : Option Value) (v4 : Option Value) (j1 : Int64) (j2 : Int64) (x3 : Int32) (σ : ma_H), ma_rn ro (d + 1) 158 (72, [v0, v1, v2, v3, v4], .int x3 :: .long j2 :: .long j1 :: [], SH, σ) = (ma_ev ro d 156 [.long j1, .long j2, .int x3] SH σ).bind (fun q => ma_rn ro (d + 1) 158 (75, [v0, v1, v2, v3, v4], (q.1.toList ++ []), q.2.1, q.2.2))) ∧
  (∀ (v0 : Option Value) (v1 : Option Value) (v2 : Option Value) (v3 : Option Value) (v4 : Option Value) (j1 : Int64) (σ : ma_H), ma_rn ro d 158 (75, [v0, v1, v2, v3, v4], [.long j1], SH, σ) = some (some (.long j1), SH, σ)) := ⟨fun v0 v1 v2 v3 v4 st σ => q_go e158_0 rfl rfl,
  fun v0 v2 v3 v4 x9 j1 st σ => q_go e158_1 rfl rfl,
  fun v0 v1 v2 v3 v4 st σ => q_iconst e158_2 (by decide),
  fun v0 v1 v2 v3 v4 x1 st σ hb => q_go e158_3 rfl (q_s1 hb rfl (Nat.le_of_ble_eq_true rfl)),
  fun v1 v2 v3 v4 a1 st σ => q_go e158_7 rfl rfl,
  fun v0 v1 v2 v3 v4 a1 st σ hc => q_getA e158_8 o_158 f_8_9 (by decide) hc,
  fun v0 v1 v2 v3 v4 st σ => q_bipush e158_11 (by decide),
  fun v0 v1 v2 v3 v4 k a2 st σ hk => q_iald e158_13 hk,
  fun v0 v1 v2 v3 v4 x1 x2 st σ => (q_cmp e158_14 rfl).trans q_nlt,
  fun v0 v1 v3 v4 j1 st σ => q_go e158_17 rfl rfl,
  fun v1 v2 v3 v4 a1 st σ => q_go e158_18 rfl rfl,
  fun v0 v1 v2 v3 v4 a1 st σ hc => q_getA e158_19 o_158 f_8_9 (by decide) hc,
  fun v0 v1 v2 v3 v4 st σ => q_bipush e158_22 (by decide),
  fun v0 v1 v2 v3 x1 st σ => q_go e158_24 rfl rfl,
  fun v0 v1 v2 v3 v4 x1 x2 st σ => q_go e158_26 rfl rfl,
  fun v0 v1 v2 v3 v4 k a2 st σ hk => q_iald e158_27 hk,
  fun v0 v1 v2 v3 v4 x1 st σ => q_go e158_28 rfl rfl,
  fun v0 v1 v2 v3 v4 j1 j2 st σ => q_go e158_29 rfl rfl,
  fun v0 v2 v3 v4 x9 j1 st σ => q_go e158_30 rfl rfl,
  fun v0 v1 v2 v3 x1 st σ hb => q_iinc e158_31 rfl hb (by decide),
  fun v0 v1 v2 v3 v4 st σ => q_goto e158_34 rfl,
  fun v0 v2 v3 v4 x1 st σ => q_go e158_37 rfl rfl,
  fun v0 v1 v2 v3 v4 st σ => q_iconst e158_38 (by decide),
  fun v0 v1 v2 v3 v4 st σ => q_iconst e158_39 (by decide),
  fun v0 v1 v2 v3 v4 x1 x2 x3 σ => q_invS (as := [.int x1, .int x2, .int x3]) (rest := []) e158_40 o_158 bn_8_35 c_8_35 ⟨m_102.1, m_102.2.1, m_102.2.2.1⟩ rfl rfl (Nat.le_of_ble_eq_true rfl) (Nat.le_of_ble_eq_true rfl),
  fun v0 v1 v2 v3 v4 x1 st σ => (q_if e158_43 rfl).trans q_eq,
  fun v1 v2 v3 v4 a1 st σ => q_go e158_46 rfl rfl,
  fun v0 v1 v2 v3 v4 a1 st σ hc => q_getA e158_47 o_158 f_8_9 (by decide) hc,
  fun v0 v1 v2 v3 v4 st σ => q_bipush e158_50 (by decide),
  fun v0 v1 v2 v3 v4 k a2 st σ hk => q_iald e158_52 hk,
  fun v0 v1 v2 v3 v4 x1 st σ => (q_if e158_53 rfl).trans q_ne,
  fun v0 v1 v2 v3 v4 st σ => q_ldc2 e158_56 o_158 l_8_193,
  fun v0 v1 v2 v3 v4 st σ => q_goto e158_59 rfl,
  fun v0 v1 v3 v4 j1 st σ => q_go e158_62 rfl rfl,
  fun v1 v2 v3 v4 a1 st σ => q_go e158_63 rfl rfl,
  fun v0 v1 v2 v3 v4 a1 st σ hc => q_getA e158_64 o_158 f_8_9 (by decide) hc,
  fun v0 v1 v2 v3 v4 st σ => q_bipush e158_67 (by decide),
  fun v0 v1 v2 v3 v4 k a2 st σ hk => q_iald e158_69 hk,
  fun v0 v1 v2 v3 v4 x1 st σ => q_go e158_70 rfl rfl,
  fun v0 v2 v3 v4 x1 st σ => q_go e158_71 rfl rfl,
  fun v0 v1 v2 v3 v4 j1 j2 x3 σ => q_invS (as := [.long j1, .long j2, .int x3]) (rest := []) e158_72 o_158 bn_8_197 c_8_197 ⟨m_156.1, m_156.2.1, m_156.2.2.1⟩ rfl rfl (Nat.le_of_ble_eq_true rfl) (Nat.le_of_ble_eq_true rfl),
  fun v0 v1 v2 v3 v4 j1 σ => q_lret e158_75 r_158⟩
theorem E158 {ro : ma_RO} {d : Nat} (a0 : Nat) (x1 : Int32) (sh : List ma_Sh) (σ : ma_H) : ma_ev ro d 158 [.ref a0, .int x1] sh σ = ma_rn ro d 158 (0, [some (.ref a0), some (.int x1), none, none, none], [], sh, σ) := q_ent x_158 rfl
theorem e159_0 : decode (ma_cd 159) 0 = .ok (.iload_n 1, 1) := (congrArg (fun b => decode b 0) cd_159).trans dX8_plan_0
theorem e159_1 : decode (ma_cd 159) 1 = .ok (.iconst (-1), 1) := (congrArg (fun b => decode b 1) cd_159).trans dX8_plan_1
theorem e159_2 : decode (ma_cd 159) 2 = .ok (.if_icmp .ne 13, 3) := (congrArg (fun b => decode b 2) cd_159).trans dX8_plan_2
theorem e159_5 : decode (ma_cd 159) 5 = .ok (.aload_n 0, 1) := (congrArg (fun b => decode b 5) cd_159).trans dX8_plan_5
theorem e159_6 : decode (ma_cd 159) 6 = .ok (.getfield 9, 3) := (congrArg (fun b => decode b 6) cd_159).trans dX8_plan_6
theorem e159_9 : decode (ma_cd 159) 9 = .ok (.bipush 36, 2) := (congrArg (fun b => decode b 9) cd_159).trans dX8_plan_9
theorem e159_11 : decode (ma_cd 159) 11 = .ok (.iconst 0, 1) := (congrArg (fun b => decode b 11) cd_159).trans dX8_plan_11
theorem e159_12 : decode (ma_cd 159) 12 = .ok (.iastore, 1) := (congrArg (fun b => decode b 12) cd_159).trans dX8_plan_12
theorem e159_13 : decode (ma_cd 159) 13 = .ok (.iconst 0, 1) := (congrArg (fun b => decode b 13) cd_159).trans dX8_plan_13
theorem e159_14 : decode (ma_cd 159) 14 = .ok (.ireturn, 1) := (congrArg (fun b => decode b 14) cd_159).trans dX8_plan_14
theorem e159_15 : decode (ma_cd 159) 15 = .ok (.iload_n 1, 1) := (congrArg (fun b => decode b 15) cd_159).trans dX8_plan_15
theorem e159_16 : decode (ma_cd 159) 16 = .ok (.iconst 0, 1) := (congrArg (fun b => decode b 16) cd_159).trans dX8_plan_16
theorem e159_17 : decode (ma_cd 159) 17 = .ok (.iconst 3, 1) := (congrArg (fun b => decode b 17) cd_159).trans dX8_plan_17
theorem e159_18 : decode (ma_cd 159) 18 = .ok (.invokestatic 35, 3) := (congrArg (fun b => decode b 18) cd_159).trans dX8_plan_18
theorem e159_21 : decode (ma_cd 159) 21 = .ok (.ifCond .eq 20, 3) := (congrArg (fun b => decode b 21) cd_159).trans dX8_plan_21
theorem e159_24 : decode (ma_cd 159) 24 = .ok (.iload_n 1, 1) := (congrArg (fun b => decode b 24) cd_159).trans dX8_plan_24
theorem e159_25 : decode (ma_cd 159) 25 = .ok (.iconst 1, 1) := (congrArg (fun b => decode b 25) cd_159).trans dX8_plan_25
theorem e159_26 : decode (ma_cd 159) 26 = .ok (.iconst 2, 1) := (congrArg (fun b => decode b 26) cd_159).trans dX8_plan_26
theorem e159_27 : decode (ma_cd 159) 27 = .ok (.invokestatic 35, 3) := (congrArg (fun b => decode b 27) cd_159).trans dX8_plan_27
theorem e159_30 : decode (ma_cd 159) 30 = .ok (.ifCond .eq 13, 3) := (congrArg (fun b => decode b 30) cd_159).trans dX8_plan_30
theorem e159_33 : decode (ma_cd 159) 33 = .ok (.aload_n 0, 1) := (congrArg (fun b => decode b 33) cd_159).trans dX8_plan_33
theorem e159_34 : decode (ma_cd 159) 34 = .ok (.iload_n 2, 1) := (congrArg (fun b => decode b 34) cd_159).trans dX8_plan_34
theorem e159_35 : decode (ma_cd 159) 35 = .ok (.invokevirtual 129, 3) := (congrArg (fun b => decode b 35) cd_159).trans dX8_plan_35
theorem e159_38 : decode (ma_cd 159) 38 = .ok (.ifCond .ne 5, 3) := (congrArg (fun b => decode b 38) cd_159).trans dX8_plan_38
theorem e159_41 : decode (ma_cd 159) 41 = .ok (.iconst (-1), 1) := (congrArg (fun b => decode b 41) cd_159).trans dX8_plan_41
theorem e159_42 : decode (ma_cd 159) 42 = .ok (.ireturn, 1) := (congrArg (fun b => decode b 42) cd_159).trans dX8_plan_42
theorem e159_43 : decode (ma_cd 159) 43 = .ok (.iload_n 1, 1) := (congrArg (fun b => decode b 43) cd_159).trans dX8_plan_43
theorem e159_44 : decode (ma_cd 159) 44 = .ok (.iconst 3, 1) := (congrArg (fun b => decode b 44) cd_159).trans dX8_plan_44
theorem e159_45 : decode (ma_cd 159) 45 = .ok (.if_icmp .ne 16, 3) := (congrArg (fun b => decode b 45) cd_159).trans dX8_plan_45
theorem e159_48 : decode (ma_cd 159) 48 = .ok (.iload_n 2, 1) := (congrArg (fun b => decode b 48) cd_159).trans dX8_plan_48
theorem e159_49 : decode (ma_cd 159) 49 = .ok (.iconst 0, 1) := (congrArg (fun b => decode b 49) cd_159).trans dX8_plan_49
theorem e159_50 : decode (ma_cd 159) 50 = .ok (.bipush 20, 2) := (congrArg (fun b => decode b 50) cd_159).trans dX8_plan_50
theorem e159_52 : decode (ma_cd 159) 52 = .ok (.invokestatic 35, 3) := (congrArg (fun b => decode b 52) cd_159).trans dX8_plan_52
theorem e159_55 : decode (ma_cd 159) 55 = .ok (.ifCond .ne 6, 3) := (congrArg (fun b => decode b 55) cd_159).trans dX8_plan_55
theorem e159_58 : decode (ma_cd 159) 58 = .ok (.bipush (-2), 2) := (congrArg (fun b => decode b 58) cd_159).trans dX8_plan_58
theorem e159_60 : decode (ma_cd 159) 60 = .ok (.ireturn, 1) := (congrArg (fun b => decode b 60) cd_159).trans dX8_plan_60
theorem e159_61 : decode (ma_cd 159) 61 = .ok (.aload_n 0, 1) := (congrArg (fun b => decode b 61) cd_159).trans dX8_plan_61
theorem e159_62 : decode (ma_cd 159) 62 = .ok (.getfield 9, 3) := (congrArg (fun b => decode b 62) cd_159).trans dX8_plan_62
theorem e159_65 : decode (ma_cd 159) 65 = .ok (.bipush 36, 2) := (congrArg (fun b => decode b 65) cd_159).trans dX8_plan_65
theorem e159_67 : decode (ma_cd 159) 67 = .ok (.iaload, 1) := (congrArg (fun b => decode b 67) cd_159).trans dX8_plan_67
theorem e159_68 : decode (ma_cd 159) 68 = .ok (.bipush 8, 2) := (congrArg (fun b => decode b 68) cd_159).trans dX8_plan_68
theorem e159_70 : decode (ma_cd 159) 70 = .ok (.if_icmp .ne 6, 3) := (congrArg (fun b => decode b 70) cd_159).trans dX8_plan_70
theorem e159_73 : decode (ma_cd 159) 73 = .ok (.bipush (-4), 2) := (congrArg (fun b => decode b 73) cd_159).trans dX8_plan_73
theorem e159_75 : decode (ma_cd 159) 75 = .ok (.ireturn, 1) := (congrArg (fun b => decode b 75) cd_159).trans dX8_plan_75
theorem e159_76 : decode (ma_cd 159) 76 = .ok (.aload_n 0, 1) := (congrArg (fun b => decode b 76) cd_159).trans dX8_plan_76
theorem e159_77 : decode (ma_cd 159) 77 = .ok (.getfield 9, 3) := (congrArg (fun b => decode b 77) cd_159).trans dX8_plan_77
theorem e159_80 : decode (ma_cd 159) 80 = .ok (.bipush 91, 2) := (congrArg (fun b => decode b 80) cd_159).trans dX8_plan_80
theorem e159_82 : decode (ma_cd 159) 82 = .ok (.aload_n 0, 1) := (congrArg (fun b => decode b 82) cd_159).trans dX8_plan_82
theorem e159_83 : decode (ma_cd 159) 83 = .ok (.getfield 9, 3) := (congrArg (fun b => decode b 83) cd_159).trans dX8_plan_83
theorem e159_86 : decode (ma_cd 159) 86 = .ok (.bipush 36, 2) := (congrArg (fun b => decode b 86) cd_159).trans dX8_plan_86
theorem e159_88 : decode (ma_cd 159) 88 = .ok (.iaload, 1) := (congrArg (fun b => decode b 88) cd_159).trans dX8_plan_88
theorem e159_89 : decode (ma_cd 159) 89 = .ok (.iadd, 1) := (congrArg (fun b => decode b 89) cd_159).trans dX8_plan_89
theorem e159_90 : decode (ma_cd 159) 90 = .ok (.iload_n 1, 1) := (congrArg (fun b => decode b 90) cd_159).trans dX8_plan_90
theorem e159_91 : decode (ma_cd 159) 91 = .ok (.iastore, 1) := (congrArg (fun b => decode b 91) cd_159).trans dX8_plan_91
theorem e159_92 : decode (ma_cd 159) 92 = .ok (.aload_n 0, 1) := (congrArg (fun b => decode b 92) cd_159).trans dX8_plan_92
theorem e159_93 : decode (ma_cd 159) 93 = .ok (.getfield 9, 3) := (congrArg (fun b => decode b 93) cd_159).trans dX8_plan_93
theorem e159_96 : decode (ma_cd 159) 96 = .ok (.bipush 99, 2) := (congrArg (fun b => decode b 96) cd_159).trans dX8_plan_96
theorem e159_98 : decode (ma_cd 159) 98 = .ok (.aload_n 0, 1) := (congrArg (fun b => decode b 98) cd_159).trans dX8_plan_98
theorem e159_99 : decode (ma_cd 159) 99 = .ok (.getfield 9, 3) := (congrArg (fun b => decode b 99) cd_159).trans dX8_plan_99
theorem e159_102 : decode (ma_cd 159) 102 = .ok (.bipush 36, 2) := (congrArg (fun b => decode b 102) cd_159).trans dX8_plan_102
theorem e159_104 : decode (ma_cd 159) 104 = .ok (.iaload, 1) := (congrArg (fun b => decode b 104) cd_159).trans dX8_plan_104
theorem e159_105 : decode (ma_cd 159) 105 = .ok (.iadd, 1) := (congrArg (fun b => decode b 105) cd_159).trans dX8_plan_105
theorem e159_106 : decode (ma_cd 159) 106 = .ok (.iload_n 2, 1) := (congrArg (fun b => decode b 106) cd_159).trans dX8_plan_106
theorem e159_107 : decode (ma_cd 159) 107 = .ok (.iastore, 1) := (congrArg (fun b => decode b 107) cd_159).trans dX8_plan_107
theorem e159_108 : decode (ma_cd 159) 108 = .ok (.aload_n 0, 1) := (congrArg (fun b => decode b 108) cd_159).trans dX8_plan_108
theorem e159_109 : decode (ma_cd 159) 109 = .ok (.getfield 9, 3) := (congrArg (fun b => decode b 109) cd_159).trans dX8_plan_109
theorem e159_112 : decode (ma_cd 159) 112 = .ok (.bipush 36, 2) := (congrArg (fun b => decode b 112) cd_159).trans dX8_plan_112
theorem e159_114 : decode (ma_cd 159) 114 = .ok (.dup2, 1) := (congrArg (fun b => decode b 114) cd_159).trans dX8_plan_114
theorem e159_115 : decode (ma_cd 159) 115 = .ok (.iaload, 1) := (congrArg (fun b => decode b 115) cd_159).trans dX8_plan_115
theorem e159_116 : decode (ma_cd 159) 116 = .ok (.iconst 1, 1) := (congrArg (fun b => decode b 116) cd_159).trans dX8_plan_116
theorem e159_117 : decode (ma_cd 159) 117 = .ok (.iadd, 1) := (congrArg (fun b => decode b 117) cd_159).trans dX8_plan_117
theorem e159_118 : decode (ma_cd 159) 118 = .ok (.iastore, 1) := (congrArg (fun b => decode b 118) cd_159).trans dX8_plan_118
theorem e159_119 : decode (ma_cd 159) 119 = .ok (.aload_n 0, 1) := (congrArg (fun b => decode b 119) cd_159).trans dX8_plan_119
theorem e159_120 : decode (ma_cd 159) 120 = .ok (.getfield 9, 3) := (congrArg (fun b => decode b 120) cd_159).trans dX8_plan_120
theorem e159_123 : decode (ma_cd 159) 123 = .ok (.bipush 36, 2) := (congrArg (fun b => decode b 123) cd_159).trans dX8_plan_123
theorem e159_125 : decode (ma_cd 159) 125 = .ok (.iaload, 1) := (congrArg (fun b => decode b 125) cd_159).trans dX8_plan_125
theorem e159_126 : decode (ma_cd 159) 126 = .ok (.ireturn, 1) := (congrArg (fun b => decode b 126) cd_159).trans dX8_plan_126
theorem S159 {ro : ma_RO} {d : Nat} : (∀ (v0 : Option Value) (v2 : Option Value) (x1 : Int32) (st : List Value) (σ : ma_H), ma_rn ro d 159 (0, [v0, some (.int x1), v2], st, SH, σ) = ma_rn ro d 159 (1, [v0, some (.int x1), v2], .int x1 :: st, SH, σ)) ∧
  (∀ (v0 : Option Value) (v1 : Option Value) (v2 : Option Value) (st : List Value) (σ : ma_H), ma_rn ro d 159 (1, [v0, v1, v2], st, SH, σ) = ma_rn ro d 159 (2, [v0, v1, v2], .int ((-1)) :: st, SH, σ)) ∧
  (∀ (v0 : Option Value) (v1 : Option Value) (v2 : Option Value) (x1 : Int32) (x2 : Int32) (st : List Value) (σ : ma_H), ma_rn ro d 159 (2, [v0, v1, v2], .int x1 :: .int x2 :: st, SH, σ) = if x2 = x1 then ma_rn ro d 159 (5, [v0, v1, v2], st, SH, σ) else ma_rn ro d 159 (15, [v0, v1, v2], st, SH, σ)) ∧
  (∀ (v1 : Option Value) (v2 : Option Value) (a1 : Nat) (st : List Value) (σ : ma_H), ma_rn ro d 159 (5, [some (.ref a1), v1, v2], st, SH, σ) = ma_rn ro d 159 (6, [some (.ref a1), v1, v2], .ref a1 :: st, SH, σ)) ∧
  (∀ (v0 : Option Value) (v1 : Option Value) (v2 : Option Value) (a1 : Nat) (st : List Value) (σ : ma_H) (hc : hk_cls a1 = 8), ma_rn ro d 159 (6, [v0, v1, v2], .ref a1 :: st, SH, σ) = ma_rn ro d 159 (9, [v0, v1, v2], .ref (91) :: st, SH, σ)) ∧
  (∀ (v0 : Option Value) (v1 : Option Value) (v2 : Option Value) (st : List Value) (σ : ma_H), ma_rn ro d 159 (9, [v0, v1, v2], st, SH, σ) = ma_rn ro d 159 (11, [v0, v1, v2], .int (nI 36) :: st, SH, σ)) ∧
  (∀ (v0 : Option Value) (v1 : Option Value) (v2 : Option Value) (st : List Value) (σ : ma_H), ma_rn ro d 159 (11, [v0, v1, v2], st, SH, σ) = ma_rn ro d 159 (12, [v0, v1, v2], .int (nI 0) :: st, SH, σ)) ∧
  (∀ (v0 : Option Value) (v1 : Option Value) (v2 : Option Value) (x1 : Int32) (k : Nat) (a3 : Nat) (st : List Value) (σ : ma_H) (hk : k < hk_len a3), ma_rn ro d 159 (12, [v0, v1, v2], .int x1 :: .int (nI k) :: .ref a3 :: st, SH, σ) = ma_rn ro d 159 (13, [v0, v1, v2], st, SH, (ma_up σ a3 k x1))) ∧
  (∀ (v0 : Option Value) (v1 : Option Value) (v2 : Option Value) (st : List Value) (σ : ma_H), ma_rn ro d 159 (13, [v0, v1, v2], st, SH, σ) = ma_rn ro d 159 (14, [v0, v1, v2], .int (nI 0) :: st, SH, σ)) ∧
  (∀ (v0 : Option Value) (v1 : Option Value) (v2 : Option Value) (x1 : Int32) (σ : ma_H), ma_rn ro d 159 (14, [v0, v1, v2], [.int x1], SH, σ) = some (some (.int x1), SH, σ)) ∧
  (∀ (v0 : Option Value) (v2 : Option Value) (x1 : Int32) (st : List Value) (σ : ma_H), ma_rn ro d 159 (15, [v0, some (.int x1), v2], st, SH, σ) = ma_rn ro d 159 (16, [v0, some (.int x1), v2], .int x1 :: st, SH, σ)) ∧
  (∀ (v0 : Option Value) (v1 : Option Value) (v2 : Option Value) (st : List Value) (σ : ma_H), ma_rn ro d 159 (16, [v0, v1, v2], st, SH, σ) = ma_rn ro d 159 (17, [v0, v1, v2], .int (nI 0) :: st, SH, σ)) ∧
  (∀ (v0 : Option Value) (v1 : Option Value) (v2 : Option Value) (st : List Value) (σ : ma_H), ma_rn ro d 159 (17, [v0, v1, v2], st, SH, σ) = ma_rn ro d 159 (18, [v0, v1, v2], .int (nI 3) :: st, SH, σ)) ∧
  (∀ (v0 : Option Value) (v1 : Option Value) (v2 : Option Value) (x1 : Int32) (x2 : Int32) (x3 : Int32) (σ : ma_H), ma_rn ro (d + 1) 159 (18, [v0, v1, v2], .int x3 :: .int x2 :: .int x1 :: [], SH, σ) = (ma_ev ro d 102 [.int x1, .int x2, .int x3] SH σ).bind (fun q => ma_rn ro (d + 1) 159 (21, [v0, v1, v2], (q.1.toList ++ []), q.2.1, q.2.2))) ∧
  (∀ (v0 : Option Value) (v1 : Option Value) (v2 : Option Value) (x1 : Int32) (st : List Value) (σ : ma_H), ma_rn ro d 159 (21, [v0, v1, v2], .int x1 :: st, SH, σ) = if x1 = nI 0 then ma_rn ro d 159 (41, [v0, v1, v2], st, SH, σ) else ma_rn ro d 159 (24, [v0, v1, v2], st, SH, σ)) ∧
  (∀ (v0 : Option Value) (v2 : Option Value) (x1 : Int32) (st : List Value) (σ : ma_H), ma_rn ro d 159 (24, [v0, some (.int x1), v2], st, SH, σ) = ma_rn ro d 159 (25, [v0, some (.int x1), v2], .int x1 :: st, SH, σ)) ∧
  (∀ (v0 : Option Value) (v1 : Option Value) (v2 : Option Value) (st : List Value) (σ : ma_H), ma_rn ro d 159 (25, [v0, v1, v2], st, SH, σ) = ma_rn ro d 159 (26, [v0, v1, v2], .int (nI 1) :: st, SH, σ)) ∧
  (∀ (v0 : Option Value) (v1 : Option Value) (v2 : Option Value) (st : List Value) (σ : ma_H), ma_rn ro d 159 (26, [v0, v1, v2], st, SH, σ) = ma_rn ro d 159 (27, [v0, v1, v2], .int (nI 2) :: st, SH, σ)) ∧
  (∀ (v0 : Option Value) (v1 : Option Value) (v2 : Option Value) (x1 : Int32) (x2 : Int32) (x3 : Int32) (σ : ma_H), ma_rn ro (d + 1) 159 (27, [v0, v1, v2], .int x3 :: .int x2 :: .int x1 :: [], SH, σ) = (ma_ev ro d 102 [.int x1, .int x2, .int x3] SH σ).bind (fun q => ma_rn ro (d + 1) 159 (30, [v0, v1, v2], (q.1.toList ++ []), q.2.1, q.2.2))) ∧
  (∀ (v0 : Option Value) (v1 : Option Value) (v2 : Option Value) (x1 : Int32) (st : List Value) (σ : ma_H), ma_rn ro d 159 (30, [v0, v1, v2], .int x1 :: st, SH, σ) = if x1 = nI 0 then ma_rn ro d 159 (43, [v0, v1, v2], st, SH, σ) else ma_rn ro d 159 (33, [v0, v1, v2], st, SH, σ)) ∧
  (∀ (v1 : Option Value) (v2 : Option Value) (a1 : Nat) (st : List Value) (σ : ma_H), ma_rn ro d 159 (33, [some (.ref a1), v1, v2], st, SH, σ) = ma_rn ro d 159 (34, [some (.ref a1), v1, v2], .ref a1 :: st, SH, σ)) ∧
  (∀ (v0 : Option Value) (v1 : Option Value) (x1 : Int32) (st : List Value) (σ : ma_H), ma_rn ro d 159 (34, [v0, v1, some (.int x1)], st, SH, σ) = ma_rn ro d 159 (35, [v0, v1, some (.int x1)], .int x1 :: st, SH, σ)) ∧
  (∀ (v0 : Option Value) (v1 : Option Value) (v2 : Option Value) (x1 : Int32) (a0 : Nat) (σ : ma_H) (hc : hk_cls a0 = 8), ma_rn ro (d + 1) 159 (35, [v0, v1, v2], .int x1 :: .ref a0 :: [], SH, σ) = (ma_ev ro d 103 [.ref a0, .int x1] SH σ).bind (fun q => ma_rn ro (d + 1) 159 (38, [v0, v1, v2], (q.1.toList ++ []), q.2.1, q.2.2))) ∧
  (∀ (v0 : Option Value) (v1 : Option Value) (v2 : Option Value) (x1 : Int32) (st : List Value) (σ : ma_H), ma_rn ro d 159 (38, [v0, v1, v2], .int x1 :: st, SH, σ) = if x1 = nI 0 then ma_rn ro d 159 (41, [v0, v1, v2], st, SH, σ) else ma_rn ro d 159 (43, [v0, v1, v2], st, SH, σ)) ∧
  (∀ (v0 : Option Value) (v1 : Option Value) (v2 : Option Value) (st : List Value) (σ : ma_H), ma_rn ro d 159 (41, [v0, v1, v2], st, SH, σ) = ma_rn ro d 159 (42, [v0, v1, v2], .int ((-1)) :: st, SH, σ)) ∧
  (∀ (v0 : Option Value) (v1 : Option Value) (v2 : Option Value) (x1 : Int32) (σ : ma_H), ma_rn ro d 159 (42, [v0, v1, v2], [.int x1], SH, σ) = some (some (.int x1), SH, σ)) ∧
  (∀ (v0 : Option Value) (v2 : Option Value) (x1 : Int32) (st : List Value) (σ : ma_H), ma_rn ro d 159 (43, [v0, some (.int x1), v2], st, SH, σ) = ma_rn ro d 159 (44, [v0, some (.int x1), v2], .int x1 :: st, SH, σ)) ∧
  (∀ (v0 : Option Value) (v1 : Option Value) (v2 : Option Value) (st : List Value) (σ : ma_H), ma_rn ro d 159 (44, [v0, v1, v2], st, SH, σ) = ma_rn ro d 159 (45, [v0, v1, v2], .int (nI 3) :: st, SH, σ)) ∧
  (∀ (v0 : Option Value) (v1 : Option Value) (v2 : Option Value) (x1 : Int32) (x2 : Int32) (st : List Value) (σ : ma_H), ma_rn ro d 159 (45, [v0, v1, v2], .int x1 :: .int x2 :: st, SH, σ) = if x2 = x1 then ma_rn ro d 159 (48, [v0, v1, v2], st, SH, σ) else ma_rn ro d 159 (61, [v0, v1, v2], st, SH, σ)) ∧
  (∀ (v0 : Option Value) (v1 : Option Value) (x1 : Int32) (st : List Value) (σ : ma_H), ma_rn ro d 159 (48, [v0, v1, some (.int x1)], st, SH, σ) = ma_rn ro d 159 (49, [v0, v1, some (.int x1)], .int x1 :: st, SH, σ)) ∧
  (∀ (v0 : Option Value) (v1 : Option Value) (v2 : Option Value) (st : List Value) (σ : ma_H), ma_rn ro d 159 (49, [v0, v1, v2], st, SH, σ) = ma_rn ro d 159 (50, [v0, v1, v2], .int (nI 0) :: st, SH, σ)) ∧
  (∀ (v0 : Option Value) (v1 : Option Value) (v2 : Option Value) (st : List Value) (σ : ma_H), ma_rn ro d 159 (50, [v0, v1, v2], st, SH, σ) = ma_rn ro d 159 (52, [v0, v1, v2], .int (nI 20) :: st, SH, σ)) ∧
  (∀ (v0 : Option Value) (v1 : Option Value) (v2 : Option Value) (x1 : Int32) (x2 : Int32) (x3 : Int32) (σ : ma_H), ma_rn ro (d + 1) 159 (52, [v0, v1, v2], .int x3 :: .int x2 :: .int x1 :: [], SH, σ) = (ma_ev ro d 102 [.int x1, .int x2, .int x3] SH σ).bind (fun q => ma_rn ro (d + 1) 159 (55, [v0, v1, v2], (q.1.toList ++ []), q.2.1, q.2.2))) ∧
  (∀ (v0 : Option Value) (v1 : Option Value) (v2 : Option Value) (x1 : Int32) (st : List Value) (σ : ma_H), ma_rn ro d 159 (55, [v0, v1, v2], .int x1 :: st, SH, σ) = if x1 = nI 0 then ma_rn ro d 159 (58, [v0, v1, v2], st, SH, σ) else ma_rn ro d 159 (61, [v0, v1, v2], st, SH, σ)) ∧
  (∀ (v0 : Option Value) (v1 : Option Value) (v2 : Option Value) (st : List Value) (σ : ma_H), ma_rn ro d 159 (58, [v0, v1, v2], st, SH, σ) = ma_rn ro d 159 (60, [v0, v1, v2], .int ((-2)) :: st, SH, σ)) ∧
  (∀ (v0 : Option Value) (v1 : Option Value) (v2 : Option Value) (x1 : Int32) (σ : ma_H), ma_rn ro d 159 (60, [v0, v1, v2], [.int x1], SH, σ) = some (some (.int x1), SH, σ)) ∧
  (∀ (v1 : Option Value) (v2 : Option Value) (a1 : Nat) (st : List Value) (σ : ma_H), ma_rn ro d 159 (61, [some (.ref a1), v1, v2], st, SH, σ) = ma_rn ro d 159 (62, [some (.ref a1), v1, v2], .ref a1 :: st, SH, σ)) ∧
  (∀ (v0 : Option Value) (v1 : Option Value) (v2 : Option Value) (a1 : Nat) (st : List Value) (σ : ma_H) (hc : hk_cls a1 = 8), ma_rn ro d 159 (62, [v0, v1, v2], .ref a1 :: st, SH, σ) = ma_rn ro d 159 (65, [v0, v1, v2], .ref (91) :: st, SH, σ)) ∧
  (∀ (v0 : Option Value) (v1 : Option Value) (v2 : Option Value) (st : List Value) (σ : ma_H), ma_rn ro d 159 (65, [v0, v1, v2], st, SH, σ) = ma_rn ro d 159 (67, [v0, v1, v2], .int (nI 36) :: st, SH, σ)) ∧
  (∀ (v0 : Option Value) (v1 : Option Value) (v2 : Option Value) (k : Nat) (a2 : Nat) (st : List Value) (σ : ma_H) (hk : k < hk_len a2), ma_rn ro d 159 (67, [v0, v1, v2], .int (nI k) :: .ref a2 :: st, SH, σ) = ma_rn ro d 159 (68, [v0, v1, v2], .int (σ a2 k) :: st, SH, σ)) ∧
  (∀ (v0 : Option Value) (v1 : Option Value) (v2 : Option Value) (st : List Value) (σ : ma_H), ma_rn ro d 159 (68, [v0, v1, v2], st, SH, σ) = ma_rn ro d 159 (70, [v0, v1, v2], .int (nI 8) :: st, SH, σ)) ∧
  (∀ (v0 : Option Value) (v1 : Option Value) (v2 : Option Value) (x1 : Int32) (x2 : Int32) (st : List Value) (σ : ma_H), ma_rn ro d 159 (70, [v0, v1, v2], .int x1 :: .int x2 :: st, SH, σ) = if x2 = x1 then ma_rn ro d 159 (73, [v0, v1, v2], st, SH, σ) else ma_rn ro d 159 (76, [v0, v1, v2], st, SH, σ)) ∧
  (∀ (v0 : Option Value) (v1 : Option Value) (v2 : Option Value) (st : List Value) (σ : ma_H), ma_rn ro d 159 (73, [v0, v1, v2], st, SH, σ) = ma_rn ro d 159 (75, [v0, v1, v2], .int ((-4)) :: st, SH, σ)) ∧
  (∀ (v0 : Option Value) (v1 : Option Value) (v2 : Option Value) (x1 : Int32) (σ : ma_H), ma_rn ro d 159 (75, [v0, v1, v2], [.int x1], SH, σ) = some (some (.int x1), SH, σ)) ∧
  (∀ (v1 : Option Value) (v2 : Option Value) (a1 : Nat) (st : List Value) (σ : ma_H), ma_rn ro d 159 (76, [some (.ref a1), v1, v2], st, SH, σ) = ma_rn ro d 159 (77, [some (.ref a1), v1, v2], .ref a1 :: st, SH, σ)) ∧
  (∀ (v0 : Option Value) (v1 : Option Value) (v2 : Option Value) (a1 : Nat) (st : List Value) (σ : ma_H) (hc : hk_cls a1 = 8), ma_rn ro d 159 (77, [v0, v1, v2], .ref a1 :: st, SH, σ) = ma_rn ro d 159 (80, [v0, v1, v2], .ref (91) :: st, SH, σ)) ∧
  (∀ (v0 : Option Value) (v1 : Option Value) (v2 : Option Value) (st : List Value) (σ : ma_H), ma_rn ro d 159 (80, [v0, v1, v2], st, SH, σ) = ma_rn ro d 159 (82, [v0, v1, v2], .int (nI 91) :: st, SH, σ)) ∧
  (∀ (v1 : Option Value) (v2 : Option Value) (a1 : Nat) (st : List Value) (σ : ma_H), ma_rn ro d 159 (82, [some (.ref a1), v1, v2], st, SH, σ) = ma_rn ro d 159 (83, [some (.ref a1), v1, v2], .ref a1 :: st, SH, σ)) ∧
  (∀ (v0 : Option Value) (v1 : Option Value) (v2 : Option Value) (a1 : Nat) (st : List Value) (σ : ma_H) (hc : hk_cls a1 = 8), ma_rn ro d 159 (83, [v0, v1, v2], .ref a1 :: st, SH, σ) = ma_rn ro d 159 (86, [v0, v1, v2], .ref (91) :: st, SH, σ)) ∧
  (∀ (v0 : Option Value) (v1 : Option Value) (v2 : Option Value) (st : List Value) (σ : ma_H), ma_rn ro d 159 (86, [v0, v1, v2], st, SH, σ) = ma_rn ro d 159 (88, [v0, v1, v2], .int (nI 36) :: st, SH, σ)) ∧
  (∀ (v0 : Option Value) (v1 : Option Value) (v2 : Option Value) (k : Nat) (a2 : Nat) (st : List Value) (σ : ma_H) (hk : k < hk_len a2), ma_rn ro d 159 (88, [v0, v1, v2], .int (nI k) :: .ref a2 :: st, SH, σ) = ma_rn ro d 159 (89, [v0, v1, v2], .int (σ a2 k) :: st, SH, σ)) ∧
  (∀ (v0 : Option Value) (v1 : Option Value) (v2 : Option Value) (x1 : Int32) (x2 : Int32) (st : List Value) (σ : ma_H), ma_rn ro d 159 (89, [v0, v1, v2], .int x1 :: .int x2 :: st, SH, σ) = ma_rn ro d 159 (90, [v0, v1, v2], .int (x2 + x1) :: st, SH, σ)) ∧
  (∀ (v0 : Option Value) (v2 : Option Value) (x1 : Int32) (st : List Value) (σ : ma_H), ma_rn ro d 159 (90, [v0, some (.int x1), v2], st, SH, σ) = ma_rn ro d 159 (91, [v0, some (.int x1), v2], .int x1 :: st, SH, σ)) ∧
  (∀ (v0 : Option Value) (v1 : Option Value) (v2 : Option Value) (x1 : Int32) (k : Nat) (a3 : Nat) (st : List Value) (σ : ma_H) (hk : k < hk_len a3), ma_rn ro d 159 (91, [v0, v1, v2], .int x1 :: .int (nI k) :: .ref a3 :: st, SH, σ) = ma_rn ro d 159 (92, [v0, v1, v2], st, SH, (ma_up σ a3 k x1))) ∧
  (∀ (v1 : Option Value) (v2 : Option Value) (a1 : Nat) (st : List Value) (σ : ma_H), ma_rn ro d 159 (92, [some (.ref a1), v1, v2], st, SH, σ) = ma_rn ro d 159 (93, [some (.ref a1), v1, v2], .ref a1 :: st, SH, σ)) ∧
  (∀ (v0 : Option Value) (v1 : Option Value) (v2 : Option Value) (a1 : Nat) (st : List Value) (σ : ma_H) (hc : hk_cls a1 = 8), ma_rn ro d 159 (93, [v0, v1, v2], .ref a1 :: st, SH, σ) = ma_rn ro d 159 (96, [v0, v1, v2], .ref (91) :: st, SH, σ)) ∧
  (∀ (v0 : Option Value) (v1 : Option Value) (v2 : Option Value) (st : List Value) (σ : ma_H), ma_rn ro d 159 (96, [v0, v1, v2], st, SH, σ) = ma_rn ro d 159 (98, [v0, v1, v2], .int (nI 99) :: st, SH, σ)) ∧
  (∀ (v1 : Option Value) (v2 : Option Value) (a1 : Nat) (st : List Value) (σ : ma_H), ma_rn ro d 159 (98, [some (.ref a1), v1, v2], st, SH, σ) = ma_rn ro d 159 (99, [some (.ref a1), v1, v2], .ref a1 :: st, SH, σ)) ∧
  (∀ (v0 : Option Value) (v1 : Option Value) (v2 : Option Value) (a1 : Nat) (st : List Value) (σ : ma_H) (hc : hk_cls a1 = 8), ma_rn ro d 159 (99, [v0, v1, v2], .ref a1 :: st, SH, σ) = ma_rn ro d 159 (102, [v0, v1, v2], .ref (91) :: st, SH, σ)) ∧
  (∀ (v0 : Option Value) (v1 : Option Value) (v2 : Option Value) (st : List Value) (σ : ma_H), ma_rn ro d 159 (102, [v0, v1, v2], st, SH, σ) = ma_rn ro d 159 (104, [v0, v1, v2], .int (nI 36) :: st, SH, σ)) ∧
  (∀ (v0 : Option Value) (v1 : Option Value) (v2 : Option Value) (k : Nat) (a2 : Nat) (st : List Value) (σ : ma_H) (hk : k < hk_len a2), ma_rn ro d 159 (104, [v0, v1, v2], .int (nI k) :: .ref a2 :: st, SH, σ) = ma_rn ro d 159 (105, [v0, v1, v2], .int (σ a2 k) :: st, SH, σ)) ∧
  (∀ (v0 : Option Value) (v1 : Option Value) (v2 : Option Value) (x1 : Int32) (x2 : Int32) (st : List Value) (σ : ma_H), ma_rn ro d 159 (105, [v0, v1, v2], .int x1 :: .int x2 :: st, SH, σ) = ma_rn ro d 159 (106, [v0, v1, v2], .int (x2 + x1) :: st, SH, σ)) ∧
  (∀ (v0 : Option Value) (v1 : Option Value) (x1 : Int32) (st : List Value) (σ : ma_H), ma_rn ro d 159 (106, [v0, v1, some (.int x1)], st, SH, σ) = ma_rn ro d 159 (107, [v0, v1, some (.int x1)], .int x1 :: st, SH, σ)) ∧
  (∀ (v0 : Option Value) (v1 : Option Value) (v2 : Option Value) (x1 : Int32) (k : Nat) (a3 : Nat) (st : List Value) (σ : ma_H) (hk : k < hk_len a3), ma_rn ro d 159 (107, [v0, v1, v2], .int x1 :: .int (nI k) :: .ref a3 :: st, SH, σ) = ma_rn ro d 159 (108, [v0, v1, v2], st, SH, (ma_up σ a3 k x1))) ∧
  (∀ (v1 : Option Value) (v2 : Option Value) (a1 : Nat) (st : List Value) (σ : ma_H), ma_rn ro d 159 (108, [some (.ref a1), v1, v2], st, SH, σ) = ma_rn ro d 159 (109, [some (.ref a1), v1, v2], .ref a1 :: st, SH, σ)) ∧
  (∀ (v0 : Option Value) (v1 : Option Value) (v2 : Option Value) (a1 : Nat) (st : List Value) (σ : ma_H) (hc : hk_cls a1 = 8), ma_rn ro d 159 (109, [v0, v1, v2], .ref a1 :: st, SH, σ) = ma_rn ro d 159 (112, [v0, v1, v2], .ref (91) :: st, SH, σ)) ∧
  (∀ (v0 : Option Value) (v1 : Option Value) (v2 : Option Value) (st : List Value) (σ : ma_H), ma_rn ro d 159 (112, [v0, v1, v2], st, SH, σ) = ma_rn ro d 159 (114, [v0, v1, v2], .int (nI 36) :: st, SH, σ)) ∧
  (∀ (v0 : Option Value) (v1 : Option Value) (v2 : Option Value) (x1 : Int32) (a2 : Nat) (st : List Value) (σ : ma_H), ma_rn ro d 159 (114, [v0, v1, v2], .int x1 :: .ref a2 :: st, SH, σ) = ma_rn ro d 159 (115, [v0, v1, v2], .int x1 :: .ref a2 :: .int x1 :: .ref a2 :: st, SH, σ)) ∧
  (∀ (v0 : Option Value) (v1 : Option Value) (v2 : Option Value) (k : Nat) (a2 : Nat) (st : List Value) (σ : ma_H) (hk : k < hk_len a2), ma_rn ro d 159 (115, [v0, v1, v2], .int (nI k) :: .ref a2 :: st, SH, σ) = ma_rn ro d 159 (116, [v0, v1, v2], .int (σ a2 k) :: st, SH, σ)) ∧
  (∀ (v0 : Option Value) (v1 : Option Value) (v2 : Option Value) (st : List Value) (σ : ma_H), ma_rn ro d 159 (116, [v0, v1, v2], st, SH, σ) = ma_rn ro d 159 (117, [v0, v1, v2], .int (nI 1) :: st, SH, σ)) ∧
  (∀ (v0 : Option Value) (v1 : Option Value) (v2 : Option Value) (x1 : Int32) (x2 : Int32) (st : List Value) (σ : ma_H), ma_rn ro d 159 (117, [v0, v1, v2], .int x1 :: .int x2 :: st, SH, σ) = ma_rn ro d 159 (118, [v0, v1, v2], .int (x2 + x1) :: st, SH, σ)) ∧
  (∀ (v0 : Option Value) (v1 : Option Value) (v2 : Option Value) (x1 : Int32) (k : Nat) (a3 : Nat) (st : List Value) (σ : ma_H) (hk : k < hk_len a3), ma_rn ro d 159 (118, [v0, v1, v2], .int x1 :: .int (nI k) :: .ref a3 :: st, SH, σ) = ma_rn ro d 159 (119, [v0, v1, v2], st, SH, (ma_up σ a3 k x1))) ∧
  (∀ (v1 : Option Value) (v2 : Option Value) (a1 : Nat) (st : List Value) (σ : ma_H), ma_rn ro d 159 (119, [some (.ref a1), v1, v2], st, SH, σ) = ma_rn ro d 159 (120, [some (.ref a1), v1, v2], .ref a1 :: st, SH, σ)) ∧
  (∀ (v0 : Option Value) (v1 : Option Value) (v2 : Option Value) (a1 : Nat) (st : List Value) (σ : ma_H) (hc : hk_cls a1 = 8), ma_rn ro d 159 (120, [v0, v1, v2], .ref a1 :: st, SH, σ) = ma_rn ro d 159 (123, [v0, v1, v2], .ref (91) :: st, SH, σ)) ∧
  (∀ (v0 : Option Value) (v1 : Option Value) (v2 : Option Value) (st : List Value) (σ : ma_H), ma_rn ro d 159 (123, [v0, v1, v2], st, SH, σ) = ma_rn ro d 159 (125, [v0, v1, v2], .int (nI 36) :: st, SH, σ)) ∧
  (∀ (v0 : Option Value) (v1 : Option Value) (v2 : Option Value) (k : Nat) (a2 : Nat) (st : List Value) (σ : ma_H) (hk : k < hk_len a2), ma_rn ro d 159 (125, [v0, v1, v2], .int (nI k) :: .ref a2 :: st, SH, σ) = ma_rn ro d 159 (126, [v0, v1, v2], .int (σ a2 k) :: st, SH, σ)) ∧
  (∀ (v0 : Option Value) (v1 : Option Value) (v2 : Option Value) (x1 : Int32) (σ : ma_H), ma_rn ro d 159 (126, [v0, v1, v2], [.int x1], SH, σ) = some (some (.int x1), SH, σ)) := ⟨fun v0 v2 x1 st σ => q_go e159_0 rfl rfl,
  fun v0 v1 v2 st σ => q_iconst e159_1 (by decide),
  fun v0 v1 v2 x1 x2 st σ => (q_cmp e159_2 rfl).trans q_ne,
  fun v1 v2 a1 st σ => q_go e159_5 rfl rfl,
  fun v0 v1 v2 a1 st σ hc => q_getA e159_6 o_159 f_8_9 (by decide) hc,
  fun v0 v1 v2 st σ => q_bipush e159_9 (by decide),
  fun v0 v1 v2 st σ => q_iconst e159_11 (by decide),
  fun v0 v1 v2 x1 k a3 st σ hk => q_iast e159_12 hk,
  fun v0 v1 v2 st σ => q_iconst e159_13 (by decide),
  fun v0 v1 v2 x1 σ => q_iret e159_14 r_159,
  fun v0 v2 x1 st σ => q_go e159_15 rfl rfl,
  fun v0 v1 v2 st σ => q_iconst e159_16 (by decide),
  fun v0 v1 v2 st σ => q_iconst e159_17 (by decide),
  fun v0 v1 v2 x1 x2 x3 σ => q_invS (as := [.int x1, .int x2, .int x3]) (rest := []) e159_18 o_159 bn_8_35 c_8_35 ⟨m_102.1, m_102.2.1, m_102.2.2.1⟩ rfl rfl (Nat.le_of_ble_eq_true rfl) (Nat.le_of_ble_eq_true rfl),
  fun v0 v1 v2 x1 st σ => (q_if e159_21 rfl).trans q_eq,
  fun v0 v2 x1 st σ => q_go e159_24 rfl rfl,
  fun v0 v1 v2 st σ => q_iconst e159_25 (by decide),
  fun v0 v1 v2 st σ => q_iconst e159_26 (by decide),
  fun v0 v1 v2 x1 x2 x3 σ => q_invS (as := [.int x1, .int x2, .int x3]) (rest := []) e159_27 o_159 bn_8_35 c_8_35 ⟨m_102.1, m_102.2.1, m_102.2.2.1⟩ rfl rfl (Nat.le_of_ble_eq_true rfl) (Nat.le_of_ble_eq_true rfl),
  fun v0 v1 v2 x1 st σ => (q_if e159_30 rfl).trans q_eq,
  fun v1 v2 a1 st σ => q_go e159_33 rfl rfl,
  fun v0 v1 x1 st σ => q_go e159_34 rfl rfl,
  fun v0 v1 v2 x1 a0 σ hc => q_invV (as := [.int x1]) (rest := []) e159_35 o_159 bn_8_129 c_8_129 m_103 (by decide) rfl rfl (Nat.le_of_ble_eq_true rfl) (Nat.le_of_ble_eq_true rfl) hc,
  fun v0 v1 v2 x1 st σ => (q_if e159_38 rfl).trans q_ne,
  fun v0 v1 v2 st σ => q_iconst e159_41 (by decide),
  fun v0 v1 v2 x1 σ => q_iret e159_42 r_159,
  fun v0 v2 x1 st σ => q_go e159_43 rfl rfl,
  fun v0 v1 v2 st σ => q_iconst e159_44 (by decide),
  fun v0 v1 v2 x1 x2 st σ => (q_cmp e159_45 rfl).trans q_ne,
  fun v0 v1 x1 st σ => q_go e159_48 rfl rfl,
  fun v0 v1 v2 st σ => q_iconst e159_49 (by decide),
  fun v0 v1 v2 st σ => q_bipush e159_50 (by decide),
  fun v0 v1 v2 x1 x2 x3 σ => q_invS (as := [.int x1, .int x2, .int x3]) (rest := []) e159_52 o_159 bn_8_35 c_8_35 ⟨m_102.1, m_102.2.1, m_102.2.2.1⟩ rfl rfl (Nat.le_of_ble_eq_true rfl) (Nat.le_of_ble_eq_true rfl),
  fun v0 v1 v2 x1 st σ => (q_if e159_55 rfl).trans q_ne,
  fun v0 v1 v2 st σ => q_bipush e159_58 (by decide),
  fun v0 v1 v2 x1 σ => q_iret e159_60 r_159,
  fun v1 v2 a1 st σ => q_go e159_61 rfl rfl,
  fun v0 v1 v2 a1 st σ hc => q_getA e159_62 o_159 f_8_9 (by decide) hc,
  fun v0 v1 v2 st σ => q_bipush e159_65 (by decide),
  fun v0 v1 v2 k a2 st σ hk => q_iald e159_67 hk,
  fun v0 v1 v2 st σ => q_bipush e159_68 (by decide),
  fun v0 v1 v2 x1 x2 st σ => (q_cmp e159_70 rfl).trans q_ne,
  fun v0 v1 v2 st σ => q_bipush e159_73 (by decide),
  fun v0 v1 v2 x1 σ => q_iret e159_75 r_159,
  fun v1 v2 a1 st σ => q_go e159_76 rfl rfl,
  fun v0 v1 v2 a1 st σ hc => q_getA e159_77 o_159 f_8_9 (by decide) hc,
  fun v0 v1 v2 st σ => q_bipush e159_80 (by decide),
  fun v1 v2 a1 st σ => q_go e159_82 rfl rfl,
  fun v0 v1 v2 a1 st σ hc => q_getA e159_83 o_159 f_8_9 (by decide) hc,
  fun v0 v1 v2 st σ => q_bipush e159_86 (by decide),
  fun v0 v1 v2 k a2 st σ hk => q_iald e159_88 hk,
  fun v0 v1 v2 x1 x2 st σ => q_go e159_89 rfl rfl,
  fun v0 v2 x1 st σ => q_go e159_90 rfl rfl,
  fun v0 v1 v2 x1 k a3 st σ hk => q_iast e159_91 hk,
  fun v1 v2 a1 st σ => q_go e159_92 rfl rfl,
  fun v0 v1 v2 a1 st σ hc => q_getA e159_93 o_159 f_8_9 (by decide) hc,
  fun v0 v1 v2 st σ => q_bipush e159_96 (by decide),
  fun v1 v2 a1 st σ => q_go e159_98 rfl rfl,
  fun v0 v1 v2 a1 st σ hc => q_getA e159_99 o_159 f_8_9 (by decide) hc,
  fun v0 v1 v2 st σ => q_bipush e159_102 (by decide),
  fun v0 v1 v2 k a2 st σ hk => q_iald e159_104 hk,
  fun v0 v1 v2 x1 x2 st σ => q_go e159_105 rfl rfl,
  fun v0 v1 x1 st σ => q_go e159_106 rfl rfl,
  fun v0 v1 v2 x1 k a3 st σ hk => q_iast e159_107 hk,
  fun v1 v2 a1 st σ => q_go e159_108 rfl rfl,
  fun v0 v1 v2 a1 st σ hc => q_getA e159_109 o_159 f_8_9 (by decide) hc,
  fun v0 v1 v2 st σ => q_bipush e159_112 (by decide),
  fun v0 v1 v2 x1 a2 st σ => q_go e159_114 rfl rfl,
  fun v0 v1 v2 k a2 st σ hk => q_iald e159_115 hk,
  fun v0 v1 v2 st σ => q_iconst e159_116 (by decide),
  fun v0 v1 v2 x1 x2 st σ => q_go e159_117 rfl rfl,
  fun v0 v1 v2 x1 k a3 st σ hk => q_iast e159_118 hk,
  fun v1 v2 a1 st σ => q_go e159_119 rfl rfl,
  fun v0 v1 v2 a1 st σ hc => q_getA e159_120 o_159 f_8_9 (by decide) hc,
  fun v0 v1 v2 st σ => q_bipush e159_123 (by decide),
  fun v0 v1 v2 k a2 st σ hk => q_iald e159_125 hk,
  fun v0 v1 v2 x1 σ => q_iret e159_126 r_159⟩
theorem E159 {ro : ma_RO} {d : Nat} (a0 : Nat) (x1 : Int32) (x2 : Int32) (sh : List ma_Sh) (σ : ma_H) : ma_ev ro d 159 [.ref a0, .int x1, .int x2] sh σ = ma_rn ro d 159 (0, [some (.ref a0), some (.int x1), some (.int x2)], [], sh, σ) := q_ent x_159 rfl
theorem e160_0 : decode (ma_cd 160) 0 = .ok (.iload_n 1, 1) := (congrArg (fun b => decode b 0) cd_160).trans dX8_goesBy_0
theorem e160_1 : decode (ma_cd 160) 1 = .ok (.tableswitch 57 0 2 #[27, 34, 43], 27) := (congrArg (fun b => decode b 1) cd_160).trans dX8_goesBy_1
theorem e160_28 : decode (ma_cd 160) 28 = .ok (.aload_n 0, 1) := (congrArg (fun b => decode b 28) cd_160).trans dX8_goesBy_28
theorem e160_29 : decode (ma_cd 160) 29 = .ok (.invokevirtual 155, 3) := (congrArg (fun b => decode b 29) cd_160).trans dX8_goesBy_29
theorem e160_32 : decode (ma_cd 160) 32 = .ok (.goto 33, 3) := (congrArg (fun b => decode b 32) cd_160).trans dX8_goesBy_32
theorem e160_35 : decode (ma_cd 160) 35 = .ok (.aload_n 0, 1) := (congrArg (fun b => decode b 35) cd_160).trans dX8_goesBy_35
theorem e160_36 : decode (ma_cd 160) 36 = .ok (.iload_n 2, 1) := (congrArg (fun b => decode b 36) cd_160).trans dX8_goesBy_36
theorem e160_37 : decode (ma_cd 160) 37 = .ok (.invokevirtual 146, 3) := (congrArg (fun b => decode b 37) cd_160).trans dX8_goesBy_37
theorem e160_40 : decode (ma_cd 160) 40 = .ok (.pop, 1) := (congrArg (fun b => decode b 40) cd_160).trans dX8_goesBy_40
theorem e160_41 : decode (ma_cd 160) 41 = .ok (.goto 24, 3) := (congrArg (fun b => decode b 41) cd_160).trans dX8_goesBy_41
theorem e160_44 : decode (ma_cd 160) 44 = .ok (.aload_n 0, 1) := (congrArg (fun b => decode b 44) cd_160).trans dX8_goesBy_44
theorem e160_45 : decode (ma_cd 160) 45 = .ok (.getfield 9, 3) := (congrArg (fun b => decode b 45) cd_160).trans dX8_goesBy_45
theorem e160_48 : decode (ma_cd 160) 48 = .ok (.bipush 21, 2) := (congrArg (fun b => decode b 48) cd_160).trans dX8_goesBy_48
theorem e160_50 : decode (ma_cd 160) 50 = .ok (.iload_n 2, 1) := (congrArg (fun b => decode b 50) cd_160).trans dX8_goesBy_50
theorem e160_51 : decode (ma_cd 160) 51 = .ok (.iadd, 1) := (congrArg (fun b => decode b 51) cd_160).trans dX8_goesBy_51
theorem e160_52 : decode (ma_cd 160) 52 = .ok (.bipush 9, 2) := (congrArg (fun b => decode b 52) cd_160).trans dX8_goesBy_52
theorem e160_54 : decode (ma_cd 160) 54 = .ok (.iastore, 1) := (congrArg (fun b => decode b 54) cd_160).trans dX8_goesBy_54
theorem e160_55 : decode (ma_cd 160) 55 = .ok (.goto 10, 3) := (congrArg (fun b => decode b 55) cd_160).trans dX8_goesBy_55
theorem e160_58 : decode (ma_cd 160) 58 = .ok (.aload_n 0, 1) := (congrArg (fun b => decode b 58) cd_160).trans dX8_goesBy_58
theorem e160_59 : decode (ma_cd 160) 59 = .ok (.getfield 9, 3) := (congrArg (fun b => decode b 59) cd_160).trans dX8_goesBy_59
theorem e160_62 : decode (ma_cd 160) 62 = .ok (.iconst 1, 1) := (congrArg (fun b => decode b 62) cd_160).trans dX8_goesBy_62
theorem e160_63 : decode (ma_cd 160) 63 = .ok (.iload_n 2, 1) := (congrArg (fun b => decode b 63) cd_160).trans dX8_goesBy_63
theorem e160_64 : decode (ma_cd 160) 64 = .ok (.iastore, 1) := (congrArg (fun b => decode b 64) cd_160).trans dX8_goesBy_64
theorem e160_65 : decode (ma_cd 160) 65 = .ok (.return_, 1) := (congrArg (fun b => decode b 65) cd_160).trans dX8_goesBy_65
theorem S160 {ro : ma_RO} {d : Nat} : (∀ (v0 : Option Value) (v2 : Option Value) (x1 : Int32) (st : List Value) (σ : ma_H), ma_rn ro d 160 (0, [v0, some (.int x1), v2], st, SH, σ) = ma_rn ro d 160 (1, [v0, some (.int x1), v2], .int x1 :: st, SH, σ)) ∧
  (∀ (v0 : Option Value) (v1 : Option Value) (v2 : Option Value) (x1 : Int32) (st : List Value) (σ : ma_H), ma_rn ro d 160 (1, [v0, v1, v2], .int x1 :: st, SH, σ) = if x1 = nI 0 then ma_rn ro d 160 (28, [v0, v1, v2], st, SH, σ) else if x1 = nI 1 then ma_rn ro d 160 (35, [v0, v1, v2], st, SH, σ) else if x1 = nI 2 then ma_rn ro d 160 (44, [v0, v1, v2], st, SH, σ) else ma_rn ro d 160 (58, [v0, v1, v2], st, SH, σ)) ∧
  (∀ (v1 : Option Value) (v2 : Option Value) (a1 : Nat) (st : List Value) (σ : ma_H), ma_rn ro d 160 (28, [some (.ref a1), v1, v2], st, SH, σ) = ma_rn ro d 160 (29, [some (.ref a1), v1, v2], .ref a1 :: st, SH, σ)) ∧
  (∀ (v0 : Option Value) (v1 : Option Value) (v2 : Option Value) (a0 : Nat) (σ : ma_H) (hc : hk_cls a0 = 8), ma_rn ro (d + 1) 160 (29, [v0, v1, v2], .ref a0 :: [], SH, σ) = (ma_ev ro d 139 [.ref a0] SH σ).bind (fun q => ma_rn ro (d + 1) 160 (32, [v0, v1, v2], (q.1.toList ++ []), q.2.1, q.2.2))) ∧
  (∀ (v0 : Option Value) (v1 : Option Value) (v2 : Option Value) (st : List Value) (σ : ma_H), ma_rn ro d 160 (32, [v0, v1, v2], st, SH, σ) = ma_rn ro d 160 (65, [v0, v1, v2], st, SH, σ)) ∧
  (∀ (v1 : Option Value) (v2 : Option Value) (a1 : Nat) (st : List Value) (σ : ma_H), ma_rn ro d 160 (35, [some (.ref a1), v1, v2], st, SH, σ) = ma_rn ro d 160 (36, [some (.ref a1), v1, v2], .ref a1 :: st, SH, σ)) ∧
  (∀ (v0 : Option Value) (v1 : Option Value) (x1 : Int32) (st : List Value) (σ : ma_H), ma_rn ro d 160 (36, [v0, v1, some (.int x1)], st, SH, σ) = ma_rn ro d 160 (37, [v0, v1, some (.int x1)], .int x1 :: st, SH, σ)) ∧
  (∀ (v0 : Option Value) (v1 : Option Value) (v2 : Option Value) (x1 : Int32) (a0 : Nat) (σ : ma_H) (hc : hk_cls a0 = 8), ma_rn ro (d + 1) 160 (37, [v0, v1, v2], .int x1 :: .ref a0 :: [], SH, σ) = (ma_ev ro d 133 [.ref a0, .int x1] SH σ).bind (fun q => ma_rn ro (d + 1) 160 (40, [v0, v1, v2], (q.1.toList ++ []), q.2.1, q.2.2))) ∧
  (∀ (v0 : Option Value) (v1 : Option Value) (v2 : Option Value) (x1 : Int32) (st : List Value) (σ : ma_H), ma_rn ro d 160 (40, [v0, v1, v2], .int x1 :: st, SH, σ) = ma_rn ro d 160 (41, [v0, v1, v2], st, SH, σ)) ∧
  (∀ (v0 : Option Value) (v1 : Option Value) (v2 : Option Value) (st : List Value) (σ : ma_H), ma_rn ro d 160 (41, [v0, v1, v2], st, SH, σ) = ma_rn ro d 160 (65, [v0, v1, v2], st, SH, σ)) ∧
  (∀ (v1 : Option Value) (v2 : Option Value) (a1 : Nat) (st : List Value) (σ : ma_H), ma_rn ro d 160 (44, [some (.ref a1), v1, v2], st, SH, σ) = ma_rn ro d 160 (45, [some (.ref a1), v1, v2], .ref a1 :: st, SH, σ)) ∧
  (∀ (v0 : Option Value) (v1 : Option Value) (v2 : Option Value) (a1 : Nat) (st : List Value) (σ : ma_H) (hc : hk_cls a1 = 8), ma_rn ro d 160 (45, [v0, v1, v2], .ref a1 :: st, SH, σ) = ma_rn ro d 160 (48, [v0, v1, v2], .ref (91) :: st, SH, σ)) ∧
  (∀ (v0 : Option Value) (v1 : Option Value) (v2 : Option Value) (st : List Value) (σ : ma_H), ma_rn ro d 160 (48, [v0, v1, v2], st, SH, σ) = ma_rn ro d 160 (50, [v0, v1, v2], .int (nI 21) :: st, SH, σ)) ∧
  (∀ (v0 : Option Value) (v1 : Option Value) (x1 : Int32) (st : List Value) (σ : ma_H), ma_rn ro d 160 (50, [v0, v1, some (.int x1)], st, SH, σ) = ma_rn ro d 160 (51, [v0, v1, some (.int x1)], .int x1 :: st, SH, σ)) ∧
  (∀ (v0 : Option Value) (v1 : Option Value) (v2 : Option Value) (x1 : Int32) (x2 : Int32) (st : List Value) (σ : ma_H), ma_rn ro d 160 (51, [v0, v1, v2], .int x1 :: .int x2 :: st, SH, σ) = ma_rn ro d 160 (52, [v0, v1, v2], .int (x2 + x1) :: st, SH, σ)) ∧
  (∀ (v0 : Option Value) (v1 : Option Value) (v2 : Option Value) (st : List Value) (σ : ma_H), ma_rn ro d 160 (52, [v0, v1, v2], st, SH, σ) = ma_rn ro d 160 (54, [v0, v1, v2], .int (nI 9) :: st, SH, σ)) ∧
  (∀ (v0 : Option Value) (v1 : Option Value) (v2 : Option Value) (x1 : Int32) (k : Nat) (a3 : Nat) (st : List Value) (σ : ma_H) (hk : k < hk_len a3), ma_rn ro d 160 (54, [v0, v1, v2], .int x1 :: .int (nI k) :: .ref a3 :: st, SH, σ) = ma_rn ro d 160 (55, [v0, v1, v2], st, SH, (ma_up σ a3 k x1))) ∧
  (∀ (v0 : Option Value) (v1 : Option Value) (v2 : Option Value) (st : List Value) (σ : ma_H), ma_rn ro d 160 (55, [v0, v1, v2], st, SH, σ) = ma_rn ro d 160 (65, [v0, v1, v2], st, SH, σ)) ∧
  (∀ (v1 : Option Value) (v2 : Option Value) (a1 : Nat) (st : List Value) (σ : ma_H), ma_rn ro d 160 (58, [some (.ref a1), v1, v2], st, SH, σ) = ma_rn ro d 160 (59, [some (.ref a1), v1, v2], .ref a1 :: st, SH, σ)) ∧
  (∀ (v0 : Option Value) (v1 : Option Value) (v2 : Option Value) (a1 : Nat) (st : List Value) (σ : ma_H) (hc : hk_cls a1 = 8), ma_rn ro d 160 (59, [v0, v1, v2], .ref a1 :: st, SH, σ) = ma_rn ro d 160 (62, [v0, v1, v2], .ref (91) :: st, SH, σ)) ∧
  (∀ (v0 : Option Value) (v1 : Option Value) (v2 : Option Value) (st : List Value) (σ : ma_H), ma_rn ro d 160 (62, [v0, v1, v2], st, SH, σ) = ma_rn ro d 160 (63, [v0, v1, v2], .int (nI 1) :: st, SH, σ)) ∧
  (∀ (v0 : Option Value) (v1 : Option Value) (x1 : Int32) (st : List Value) (σ : ma_H), ma_rn ro d 160 (63, [v0, v1, some (.int x1)], st, SH, σ) = ma_rn ro d 160 (64, [v0, v1, some (.int x1)], .int x1 :: st, SH, σ)) ∧
  (∀ (v0 : Option Value) (v1 : Option Value) (v2 : Option Value) (x1 : Int32) (k : Nat) (a3 : Nat) (st : List Value) (σ : ma_H) (hk : k < hk_len a3), ma_rn ro d 160 (64, [v0, v1, v2], .int x1 :: .int (nI k) :: .ref a3 :: st, SH, σ) = ma_rn ro d 160 (65, [v0, v1, v2], st, SH, (ma_up σ a3 k x1))) ∧
  (∀ (v0 : Option Value) (v1 : Option Value) (v2 : Option Value) (σ : ma_H), ma_rn ro d 160 (65, [v0, v1, v2], [], SH, σ) = some (none, SH, σ)) := ⟨fun v0 v2 x1 st σ => q_go e160_0 rfl rfl,
  fun v0 v1 v2 x1 st σ => by
    by_cases h0 : x1 = nI 0
    · rw [if_pos h0]; exact q_tswIn e160_1 h0 (k := 0) (by decide) (by decide) (by decide) rfl rfl
    rw [if_neg h0]
    by_cases h1 : x1 = nI 1
    · rw [if_pos h1]; exact q_tswIn e160_1 h1 (k := 1) (by decide) (by decide) (by decide) rfl rfl
    rw [if_neg h1]
    by_cases h2 : x1 = nI 2
    · rw [if_pos h2]; exact q_tswIn e160_1 h2 (k := 2) (by decide) (by decide) (by decide) rfl rfl
    rw [if_neg h2]
    have g0 := q_nnI h0 (by decide)
    have g1 := q_nnI h1 (by decide)
    have g2 := q_nnI h2 (by decide)
    exact q_tswOut e160_1 (by omega) rfl,
  fun v1 v2 a1 st σ => q_go e160_28 rfl rfl,
  fun v0 v1 v2 a0 σ hc => q_invV (as := []) (rest := []) e160_29 o_160 bn_8_155 c_8_155 m_139 (by decide) rfl rfl (Nat.le_of_ble_eq_true rfl) (Nat.le_of_ble_eq_true rfl) hc,
  fun v0 v1 v2 st σ => q_goto e160_32 rfl,
  fun v1 v2 a1 st σ => q_go e160_35 rfl rfl,
  fun v0 v1 x1 st σ => q_go e160_36 rfl rfl,
  fun v0 v1 v2 x1 a0 σ hc => q_invV (as := [.int x1]) (rest := []) e160_37 o_160 bn_8_146 c_8_146 m_133 (by decide) rfl rfl (Nat.le_of_ble_eq_true rfl) (Nat.le_of_ble_eq_true rfl) hc,
  fun v0 v1 v2 x1 st σ => q_go e160_40 rfl rfl,
  fun v0 v1 v2 st σ => q_goto e160_41 rfl,
  fun v1 v2 a1 st σ => q_go e160_44 rfl rfl,
  fun v0 v1 v2 a1 st σ hc => q_getA e160_45 o_160 f_8_9 (by decide) hc,
  fun v0 v1 v2 st σ => q_bipush e160_48 (by decide),
  fun v0 v1 x1 st σ => q_go e160_50 rfl rfl,
  fun v0 v1 v2 x1 x2 st σ => q_go e160_51 rfl rfl,
  fun v0 v1 v2 st σ => q_bipush e160_52 (by decide),
  fun v0 v1 v2 x1 k a3 st σ hk => q_iast e160_54 hk,
  fun v0 v1 v2 st σ => q_goto e160_55 rfl,
  fun v1 v2 a1 st σ => q_go e160_58 rfl rfl,
  fun v0 v1 v2 a1 st σ hc => q_getA e160_59 o_160 f_8_9 (by decide) hc,
  fun v0 v1 v2 st σ => q_iconst e160_62 (by decide),
  fun v0 v1 x1 st σ => q_go e160_63 rfl rfl,
  fun v0 v1 v2 x1 k a3 st σ hk => q_iast e160_64 hk,
  fun v0 v1 v2 σ => q_vret e160_65 r_160⟩
theorem E160 {ro : ma_RO} {d : Nat} (a0 : Nat) (x1 : Int32) (x2 : Int32) (sh : List ma_Sh) (σ : ma_H) : ma_ev ro d 160 [.ref a0, .int x1, .int x2] sh σ = ma_rn ro d 160 (0, [some (.ref a0), some (.int x1), some (.int x2)], [], sh, σ) := q_ent x_160 rfl
theorem e161_0 : decode (ma_cd 161) 0 = .ok (.iload_n 1, 1) := (congrArg (fun b => decode b 0) cd_161).trans dX8_done_0
theorem e161_1 : decode (ma_cd 161) 1 = .ok (.iconst 0, 1) := (congrArg (fun b => decode b 1) cd_161).trans dX8_done_1
theorem e161_2 : decode (ma_cd 161) 2 = .ok (.iconst 1, 1) := (congrArg (fun b => decode b 2) cd_161).trans dX8_done_2
theorem e161_3 : decode (ma_cd 161) 3 = .ok (.invokestatic 35, 3) := (congrArg (fun b => decode b 3) cd_161).trans dX8_done_3
theorem e161_6 : decode (ma_cd 161) 6 = .ok (.ifCond .ne 5, 3) := (congrArg (fun b => decode b 6) cd_161).trans dX8_done_6
theorem e161_9 : decode (ma_cd 161) 9 = .ok (.iconst (-1), 1) := (congrArg (fun b => decode b 9) cd_161).trans dX8_done_9
theorem e161_10 : decode (ma_cd 161) 10 = .ok (.ireturn, 1) := (congrArg (fun b => decode b 10) cd_161).trans dX8_done_10
theorem e161_11 : decode (ma_cd 161) 11 = .ok (.aload_n 0, 1) := (congrArg (fun b => decode b 11) cd_161).trans dX8_done_11
theorem e161_12 : decode (ma_cd 161) 12 = .ok (.invokevirtual 159, 3) := (congrArg (fun b => decode b 12) cd_161).trans dX8_done_12
theorem e161_15 : decode (ma_cd 161) 15 = .ok (.iconst 0, 1) := (congrArg (fun b => decode b 15) cd_161).trans dX8_done_15
theorem e161_16 : decode (ma_cd 161) 16 = .ok (.istore_n 2, 1) := (congrArg (fun b => decode b 16) cd_161).trans dX8_done_16
theorem e161_17 : decode (ma_cd 161) 17 = .ok (.iload_n 2, 1) := (congrArg (fun b => decode b 17) cd_161).trans dX8_done_17
theorem e161_18 : decode (ma_cd 161) 18 = .ok (.aload_n 0, 1) := (congrArg (fun b => decode b 18) cd_161).trans dX8_done_18
theorem e161_19 : decode (ma_cd 161) 19 = .ok (.getfield 9, 3) := (congrArg (fun b => decode b 19) cd_161).trans dX8_done_19
theorem e161_22 : decode (ma_cd 161) 22 = .ok (.bipush 36, 2) := (congrArg (fun b => decode b 22) cd_161).trans dX8_done_22
theorem e161_24 : decode (ma_cd 161) 24 = .ok (.iaload, 1) := (congrArg (fun b => decode b 24) cd_161).trans dX8_done_24
theorem e161_25 : decode (ma_cd 161) 25 = .ok (.if_icmp .ge 31, 3) := (congrArg (fun b => decode b 25) cd_161).trans dX8_done_25
theorem e161_28 : decode (ma_cd 161) 28 = .ok (.aload_n 0, 1) := (congrArg (fun b => decode b 28) cd_161).trans dX8_done_28
theorem e161_29 : decode (ma_cd 161) 29 = .ok (.aload_n 0, 1) := (congrArg (fun b => decode b 29) cd_161).trans dX8_done_29
theorem e161_30 : decode (ma_cd 161) 30 = .ok (.getfield 9, 3) := (congrArg (fun b => decode b 30) cd_161).trans dX8_done_30
theorem e161_33 : decode (ma_cd 161) 33 = .ok (.bipush 91, 2) := (congrArg (fun b => decode b 33) cd_161).trans dX8_done_33
theorem e161_35 : decode (ma_cd 161) 35 = .ok (.iload_n 2, 1) := (congrArg (fun b => decode b 35) cd_161).trans dX8_done_35
theorem e161_36 : decode (ma_cd 161) 36 = .ok (.iadd, 1) := (congrArg (fun b => decode b 36) cd_161).trans dX8_done_36
theorem e161_37 : decode (ma_cd 161) 37 = .ok (.iaload, 1) := (congrArg (fun b => decode b 37) cd_161).trans dX8_done_37
theorem e161_38 : decode (ma_cd 161) 38 = .ok (.aload_n 0, 1) := (congrArg (fun b => decode b 38) cd_161).trans dX8_done_38
theorem e161_39 : decode (ma_cd 161) 39 = .ok (.getfield 9, 3) := (congrArg (fun b => decode b 39) cd_161).trans dX8_done_39
theorem e161_42 : decode (ma_cd 161) 42 = .ok (.bipush 99, 2) := (congrArg (fun b => decode b 42) cd_161).trans dX8_done_42
theorem e161_44 : decode (ma_cd 161) 44 = .ok (.iload_n 2, 1) := (congrArg (fun b => decode b 44) cd_161).trans dX8_done_44
theorem e161_45 : decode (ma_cd 161) 45 = .ok (.iadd, 1) := (congrArg (fun b => decode b 45) cd_161).trans dX8_done_45
theorem e161_46 : decode (ma_cd 161) 46 = .ok (.iaload, 1) := (congrArg (fun b => decode b 46) cd_161).trans dX8_done_46
theorem e161_47 : decode (ma_cd 161) 47 = .ok (.invokevirtual 201, 3) := (congrArg (fun b => decode b 47) cd_161).trans dX8_done_47
theorem e161_50 : decode (ma_cd 161) 50 = .ok (.iinc 2 1, 3) := (congrArg (fun b => decode b 50) cd_161).trans dX8_done_50
theorem e161_53 : decode (ma_cd 161) 53 = .ok (.goto (-36), 3) := (congrArg (fun b => decode b 53) cd_161).trans dX8_done_53
theorem e161_56 : decode (ma_cd 161) 56 = .ok (.iload_n 1, 1) := (congrArg (fun b => decode b 56) cd_161).trans dX8_done_56
theorem e161_57 : decode (ma_cd 161) 57 = .ok (.ifCond .ne 12, 3) := (congrArg (fun b => decode b 57) cd_161).trans dX8_done_57
theorem e161_60 : decode (ma_cd 161) 60 = .ok (.aload_n 0, 1) := (congrArg (fun b => decode b 60) cd_161).trans dX8_done_60
theorem e161_61 : decode (ma_cd 161) 61 = .ok (.getfield 9, 3) := (congrArg (fun b => decode b 61) cd_161).trans dX8_done_61
theorem e161_64 : decode (ma_cd 161) 64 = .ok (.iconst 2, 1) := (congrArg (fun b => decode b 64) cd_161).trans dX8_done_64
theorem e161_65 : decode (ma_cd 161) 65 = .ok (.iaload, 1) := (congrArg (fun b => decode b 65) cd_161).trans dX8_done_65
theorem e161_66 : decode (ma_cd 161) 66 = .ok (.goto 7, 3) := (congrArg (fun b => decode b 66) cd_161).trans dX8_done_66
theorem e161_69 : decode (ma_cd 161) 69 = .ok (.aload_n 0, 1) := (congrArg (fun b => decode b 69) cd_161).trans dX8_done_69
theorem e161_70 : decode (ma_cd 161) 70 = .ok (.invokevirtual 149, 3) := (congrArg (fun b => decode b 70) cd_161).trans dX8_done_70
theorem e161_73 : decode (ma_cd 161) 73 = .ok (.istore_n 2, 1) := (congrArg (fun b => decode b 73) cd_161).trans dX8_done_73
theorem e161_74 : decode (ma_cd 161) 74 = .ok (.aload_n 0, 1) := (congrArg (fun b => decode b 74) cd_161).trans dX8_done_74
theorem e161_75 : decode (ma_cd 161) 75 = .ok (.invokevirtual 165, 3) := (congrArg (fun b => decode b 75) cd_161).trans dX8_done_75
theorem e161_78 : decode (ma_cd 161) 78 = .ok (.iload_n 2, 1) := (congrArg (fun b => decode b 78) cd_161).trans dX8_done_78
theorem e161_79 : decode (ma_cd 161) 79 = .ok (.ireturn, 1) := (congrArg (fun b => decode b 79) cd_161).trans dX8_done_79
theorem Sh161_17 {ro : ma_RO} {d : Nat} : (∀ (v0 : Option Value) (v1 : Option Value) (x1 : Int32) (st : List Value) (σ : ma_H), ma_rn ro d 161 (17, [v0, v1, some (.int x1)], st, SH, σ) = ma_rn ro d 161 (18, [v0, v1, some (.int x1)], .int x1 :: st, SH, σ)) := fun v0 v1 x1 st σ => q_go e161_17 rfl rfl
theorem S161 {ro : ma_RO} {d : Nat} : (∀ (v0 : Option Value) (v2 : Option Value) (x1 : Int32) (st : List Value) (σ : ma_H), ma_rn ro d 161 (0, [v0, some (.int x1), v2], st, SH, σ) = ma_rn ro d 161 (1, [v0, some (.int x1), v2], .int x1 :: st, SH, σ)) ∧
  (∀ (v0 : Option Value) (v1 : Option Value) (v2 : Option Value) (st : List Value) (σ : ma_H), ma_rn ro d 161 (1, [v0, v1, v2], st, SH, σ) = ma_rn ro d 161 (2, [v0, v1, v2], .int (nI 0) :: st, SH, σ)) ∧
  (∀ (v0 : Option Value) (v1 : Option Value) (v2 : Option Value) (st : List Value) (σ : ma_H), ma_rn ro d 161 (2, [v0, v1, v2], st, SH, σ) = ma_rn ro d 161 (3, [v0, v1, v2], .int (nI 1) :: st, SH, σ)) ∧
  (∀ (v0 : Option Value) (v1 : Option Value) (v2 : Option Value) (x1 : Int32) (x2 : Int32) (x3 : Int32) (σ : ma_H), ma_rn ro (d + 1) 161 (3, [v0, v1, v2], .int x3 :: .int x2 :: .int x1 :: [], SH, σ) = (ma_ev ro d 102 [.int x1, .int x2, .int x3] SH σ).bind (fun q => ma_rn ro (d + 1) 161 (6, [v0, v1, v2], (q.1.toList ++ []), q.2.1, q.2.2))) ∧
  (∀ (v0 : Option Value) (v1 : Option Value) (v2 : Option Value) (x1 : Int32) (st : List Value) (σ : ma_H), ma_rn ro d 161 (6, [v0, v1, v2], .int x1 :: st, SH, σ) = if x1 = nI 0 then ma_rn ro d 161 (9, [v0, v1, v2], st, SH, σ) else ma_rn ro d 161 (11, [v0, v1, v2], st, SH, σ)) ∧
  (∀ (v0 : Option Value) (v1 : Option Value) (v2 : Option Value) (st : List Value) (σ : ma_H), ma_rn ro d 161 (9, [v0, v1, v2], st, SH, σ) = ma_rn ro d 161 (10, [v0, v1, v2], .int ((-1)) :: st, SH, σ)) ∧
  (∀ (v0 : Option Value) (v1 : Option Value) (v2 : Option Value) (x1 : Int32) (σ : ma_H), ma_rn ro d 161 (10, [v0, v1, v2], [.int x1], SH, σ) = some (some (.int x1), SH, σ)) ∧
  (∀ (v1 : Option Value) (v2 : Option Value) (a1 : Nat) (st : List Value) (σ : ma_H), ma_rn ro d 161 (11, [some (.ref a1), v1, v2], st, SH, σ) = ma_rn ro d 161 (12, [some (.ref a1), v1, v2], .ref a1 :: st, SH, σ)) ∧
  (∀ (v0 : Option Value) (v1 : Option Value) (v2 : Option Value) (a0 : Nat) (σ : ma_H) (hc : hk_cls a0 = 8), ma_rn ro (d + 1) 161 (12, [v0, v1, v2], .ref a0 :: [], SH, σ) = (ma_ev ro d 105 [.ref a0] SH σ).bind (fun q => ma_rn ro (d + 1) 161 (15, [v0, v1, v2], (q.1.toList ++ []), q.2.1, q.2.2))) ∧
  (∀ (v0 : Option Value) (v1 : Option Value) (v2 : Option Value) (st : List Value) (σ : ma_H), ma_rn ro d 161 (15, [v0, v1, v2], st, SH, σ) = ma_rn ro d 161 (16, [v0, v1, v2], .int (nI 0) :: st, SH, σ)) ∧
  (∀ (v0 : Option Value) (v2 : Option Value) (x9 : Int32) (x1 : Int32) (st : List Value) (σ : ma_H), ma_rn ro d 161 (16, [v0, some (.int x9), v2], .int x1 :: st, SH, σ) = ma_rn ro d 161 (17, [v0, some (.int x9), some (.int x1)], st, SH, σ)) ∧
  (∀ (v1 : Option Value) (v2 : Option Value) (a1 : Nat) (st : List Value) (σ : ma_H), ma_rn ro d 161 (18, [some (.ref a1), v1, v2], st, SH, σ) = ma_rn ro d 161 (19, [some (.ref a1), v1, v2], .ref a1 :: st, SH, σ)) ∧
  (∀ (v0 : Option Value) (v1 : Option Value) (v2 : Option Value) (a1 : Nat) (st : List Value) (σ : ma_H) (hc : hk_cls a1 = 8), ma_rn ro d 161 (19, [v0, v1, v2], .ref a1 :: st, SH, σ) = ma_rn ro d 161 (22, [v0, v1, v2], .ref (91) :: st, SH, σ)) ∧
  (∀ (v0 : Option Value) (v1 : Option Value) (v2 : Option Value) (st : List Value) (σ : ma_H), ma_rn ro d 161 (22, [v0, v1, v2], st, SH, σ) = ma_rn ro d 161 (24, [v0, v1, v2], .int (nI 36) :: st, SH, σ)) ∧
  (∀ (v0 : Option Value) (v1 : Option Value) (v2 : Option Value) (k : Nat) (a2 : Nat) (st : List Value) (σ : ma_H) (hk : k < hk_len a2), ma_rn ro d 161 (24, [v0, v1, v2], .int (nI k) :: .ref a2 :: st, SH, σ) = ma_rn ro d 161 (25, [v0, v1, v2], .int (σ a2 k) :: st, SH, σ)) ∧
  (∀ (v0 : Option Value) (v1 : Option Value) (v2 : Option Value) (x1 : Int32) (x2 : Int32) (st : List Value) (σ : ma_H), ma_rn ro d 161 (25, [v0, v1, v2], .int x1 :: .int x2 :: st, SH, σ) = if x2 < x1 then ma_rn ro d 161 (28, [v0, v1, v2], st, SH, σ) else ma_rn ro d 161 (56, [v0, v1, v2], st, SH, σ)) ∧
  (∀ (v1 : Option Value) (v2 : Option Value) (a1 : Nat) (st : List Value) (σ : ma_H), ma_rn ro d 161 (28, [some (.ref a1), v1, v2], st, SH, σ) = ma_rn ro d 161 (29, [some (.ref a1), v1, v2], .ref a1 :: st, SH, σ)) ∧
  (∀ (v1 : Option Value) (v2 : Option Value) (a1 : Nat) (st : List Value) (σ : ma_H), ma_rn ro d 161 (29, [some (.ref a1), v1, v2], st, SH, σ) = ma_rn ro d 161 (30, [some (.ref a1), v1, v2], .ref a1 :: st, SH, σ)) ∧
  (∀ (v0 : Option Value) (v1 : Option Value) (v2 : Option Value) (a1 : Nat) (st : List Value) (σ : ma_H) (hc : hk_cls a1 = 8), ma_rn ro d 161 (30, [v0, v1, v2], .ref a1 :: st, SH, σ) = ma_rn ro d 161 (33, [v0, v1, v2], .ref (91) :: st, SH, σ)) ∧
  (∀ (v0 : Option Value) (v1 : Option Value) (v2 : Option Value) (st : List Value) (σ : ma_H), ma_rn ro d 161 (33, [v0, v1, v2], st, SH, σ) = ma_rn ro d 161 (35, [v0, v1, v2], .int (nI 91) :: st, SH, σ)) ∧
  (∀ (v0 : Option Value) (v1 : Option Value) (x1 : Int32) (st : List Value) (σ : ma_H), ma_rn ro d 161 (35, [v0, v1, some (.int x1)], st, SH, σ) = ma_rn ro d 161 (36, [v0, v1, some (.int x1)], .int x1 :: st, SH, σ)) ∧
  (∀ (v0 : Option Value) (v1 : Option Value) (v2 : Option Value) (x1 : Int32) (x2 : Int32) (st : List Value) (σ : ma_H), ma_rn ro d 161 (36, [v0, v1, v2], .int x1 :: .int x2 :: st, SH, σ) = ma_rn ro d 161 (37, [v0, v1, v2], .int (x2 + x1) :: st, SH, σ)) ∧
  (∀ (v0 : Option Value) (v1 : Option Value) (v2 : Option Value) (k : Nat) (a2 : Nat) (st : List Value) (σ : ma_H) (hk : k < hk_len a2), ma_rn ro d 161 (37, [v0, v1, v2], .int (nI k) :: .ref a2 :: st, SH, σ) = ma_rn ro d 161 (38, [v0, v1, v2], .int (σ a2 k) :: st, SH, σ)) ∧
  (∀ (v1 : Option Value) (v2 : Option Value) (a1 : Nat) (st : List Value) (σ : ma_H), ma_rn ro d 161 (38, [some (.ref a1), v1, v2], st, SH, σ) = ma_rn ro d 161 (39, [some (.ref a1), v1, v2], .ref a1 :: st, SH, σ)) ∧
  (∀ (v0 : Option Value) (v1 : Option Value) (v2 : Option Value) (a1 : Nat) (st : List Value) (σ : ma_H) (hc : hk_cls a1 = 8), ma_rn ro d 161 (39, [v0, v1, v2], .ref a1 :: st, SH, σ) = ma_rn ro d 161 (42, [v0, v1, v2], .ref (91) :: st, SH, σ)) ∧
  (∀ (v0 : Option Value) (v1 : Option Value) (v2 : Option Value) (st : List Value) (σ : ma_H), ma_rn ro d 161 (42, [v0, v1, v2], st, SH, σ) = ma_rn ro d 161 (44, [v0, v1, v2], .int (nI 99) :: st, SH, σ)) ∧
  (∀ (v0 : Option Value) (v1 : Option Value) (x1 : Int32) (st : List Value) (σ : ma_H), ma_rn ro d 161 (44, [v0, v1, some (.int x1)], st, SH, σ) = ma_rn ro d 161 (45, [v0, v1, some (.int x1)], .int x1 :: st, SH, σ)) ∧
  (∀ (v0 : Option Value) (v1 : Option Value) (v2 : Option Value) (x1 : Int32) (x2 : Int32) (st : List Value) (σ : ma_H), ma_rn ro d 161 (45, [v0, v1, v2], .int x1 :: .int x2 :: st, SH, σ) = ma_rn ro d 161 (46, [v0, v1, v2], .int (x2 + x1) :: st, SH, σ)) ∧
  (∀ (v0 : Option Value) (v1 : Option Value) (v2 : Option Value) (k : Nat) (a2 : Nat) (st : List Value) (σ : ma_H) (hk : k < hk_len a2), ma_rn ro d 161 (46, [v0, v1, v2], .int (nI k) :: .ref a2 :: st, SH, σ) = ma_rn ro d 161 (47, [v0, v1, v2], .int (σ a2 k) :: st, SH, σ)) ∧
  (∀ (v0 : Option Value) (v1 : Option Value) (v2 : Option Value) (x1 : Int32) (x2 : Int32) (a0 : Nat) (σ : ma_H) (hc : hk_cls a0 = 8), ma_rn ro (d + 1) 161 (47, [v0, v1, v2], .int x2 :: .int x1 :: .ref a0 :: [], SH, σ) = (ma_ev ro d 160 [.ref a0, .int x1, .int x2] SH σ).bind (fun q => ma_rn ro (d + 1) 161 (50, [v0, v1, v2], (q.1.toList ++ []), q.2.1, q.2.2))) ∧
  (∀ (v0 : Option Value) (x1 : Int32) (x9 : Int32) (st : List Value) (σ : ma_H), ma_rn ro d 161 (50, [v0, some (.int x9), some (.int x1)], st, SH, σ) = ma_rn ro d 161 (53, [v0, some (.int x9), some (.int (x1 + nI 1))], st, SH, σ)) ∧
  (∀ (v0 : Option Value) (v1 : Option Value) (v2 : Option Value) (st : List Value) (σ : ma_H), ma_rn ro d 161 (53, [v0, v1, v2], st, SH, σ) = ma_rn ro d 161 (17, [v0, v1, v2], st, SH, σ)) ∧
  (∀ (v0 : Option Value) (v2 : Option Value) (x1 : Int32) (st : List Value) (σ : ma_H), ma_rn ro d 161 (56, [v0, some (.int x1), v2], st, SH, σ) = ma_rn ro d 161 (57, [v0, some (.int x1), v2], .int x1 :: st, SH, σ)) ∧
  (∀ (v0 : Option Value) (v1 : Option Value) (v2 : Option Value) (x1 : Int32) (st : List Value) (σ : ma_H), ma_rn ro d 161 (57, [v0, v1, v2], .int x1 :: st, SH, σ) = if x1 = nI 0 then ma_rn ro d 161 (60, [v0, v1, v2], st, SH, σ) else ma_rn ro d 161 (69, [v0, v1, v2], st, SH, σ)) ∧
  (∀ (v1 : Option Value) (v2 : Option Value) (a1 : Nat) (st : List Value) (σ : ma_H), ma_rn ro d 161 (60, [some (.ref a1), v1, v2], st, SH, σ) = ma_rn ro d 161 (61, [some (.ref a1), v1, v2], .ref a1 :: st, SH, σ)) ∧
  (∀ (v0 : Option Value) (v1 : Option Value) (v2 : Option Value) (a1 : Nat) (st : List Value) (σ : ma_H) (hc : hk_cls a1 = 8), ma_rn ro d 161 (61, [v0, v1, v2], .ref a1 :: st, SH, σ) = ma_rn ro d 161 (64, [v0, v1, v2], .ref (91) :: st, SH, σ)) ∧
  (∀ (v0 : Option Value) (v1 : Option Value) (v2 : Option Value) (st : List Value) (σ : ma_H), ma_rn ro d 161 (64, [v0, v1, v2], st, SH, σ) = ma_rn ro d 161 (65, [v0, v1, v2], .int (nI 2) :: st, SH, σ)) ∧
  (∀ (v0 : Option Value) (v1 : Option Value) (v2 : Option Value) (k : Nat) (a2 : Nat) (st : List Value) (σ : ma_H) (hk : k < hk_len a2), ma_rn ro d 161 (65, [v0, v1, v2], .int (nI k) :: .ref a2 :: st, SH, σ) = ma_rn ro d 161 (66, [v0, v1, v2], .int (σ a2 k) :: st, SH, σ)) ∧
  (∀ (v0 : Option Value) (v1 : Option Value) (v2 : Option Value) (st : List Value) (σ : ma_H), ma_rn ro d 161 (66, [v0, v1, v2], st, SH, σ) = ma_rn ro d 161 (73, [v0, v1, v2], st, SH, σ)) ∧
  (∀ (v1 : Option Value) (v2 : Option Value) (a1 : Nat) (st : List Value) (σ : ma_H), ma_rn ro d 161 (69, [some (.ref a1), v1, v2], st, SH, σ) = ma_rn ro d 161 (70, [some (.ref a1), v1, v2], .ref a1 :: st, SH, σ)) ∧
  (∀ (v0 : Option Value) (v1 : Option Value) (v2 : Option Value) (a0 : Nat) (σ : ma_H) (hc : hk_cls a0 = 8), ma_rn ro (d + 1) 161 (70, [v0, v1, v2], .ref a0 :: [], SH, σ) = (ma_ev ro d 136 [.ref a0] SH σ).bind (fun q => ma_rn ro (d + 1) 161 (73, [v0, v1, v2], (q.1.toList ++ []), q.2.1, q.2.2))) ∧
  (∀ (v0 : Option Value) (v2 : Option Value) (x9 : Int32) (x1 : Int32) (st : List Value) (σ : ma_H), ma_rn ro d 161 (73, [v0, some (.int x9), v2], .int x1 :: st, SH, σ) = ma_rn ro d 161 (74, [v0, some (.int x9), some (.int x1)], st, SH, σ)) ∧
  (∀ (v1 : Option Value) (v2 : Option Value) (a1 : Nat) (st : List Value) (σ : ma_H), ma_rn ro d 161 (74, [some (.ref a1), v1, v2], st, SH, σ) = ma_rn ro d 161 (75, [some (.ref a1), v1, v2], .ref a1 :: st, SH, σ)) ∧
  (∀ (v0 : Option Value) (v1 : Option Value) (v2 : Option Value) (a0 : Nat) (σ : ma_H) (hc : hk_cls a0 = 8), ma_rn ro (d + 1) 161 (75, [v0, v1, v2], .ref a0 :: [], SH, σ) = (ma_ev ro d 106 [.ref a0] SH σ).bind (fun q => ma_rn ro (d + 1) 161 (78, [v0, v1, v2], (q.1.toList ++ []), q.2.1, q.2.2))) ∧
  (∀ (v0 : Option Value) (v1 : Option Value) (x1 : Int32) (st : List Value) (σ : ma_H), ma_rn ro d 161 (78, [v0, v1, some (.int x1)], st, SH, σ) = ma_rn ro d 161 (79, [v0, v1, some (.int x1)], .int x1 :: st, SH, σ)) ∧
  (∀ (v0 : Option Value) (v1 : Option Value) (v2 : Option Value) (x1 : Int32) (σ : ma_H), ma_rn ro d 161 (79, [v0, v1, v2], [.int x1], SH, σ) = some (some (.int x1), SH, σ)) := ⟨fun v0 v2 x1 st σ => q_go e161_0 rfl rfl,
  fun v0 v1 v2 st σ => q_iconst e161_1 (by decide),
  fun v0 v1 v2 st σ => q_iconst e161_2 (by decide),
  fun v0 v1 v2 x1 x2 x3 σ => q_invS (as := [.int x1, .int x2, .int x3]) (rest := []) e161_3 o_161 bn_8_35 c_8_35 ⟨m_102.1, m_102.2.1, m_102.2.2.1⟩ rfl rfl (Nat.le_of_ble_eq_true rfl) (Nat.le_of_ble_eq_true rfl),
  fun v0 v1 v2 x1 st σ => (q_if e161_6 rfl).trans q_ne,
  fun v0 v1 v2 st σ => q_iconst e161_9 (by decide),
  fun v0 v1 v2 x1 σ => q_iret e161_10 r_161,
  fun v1 v2 a1 st σ => q_go e161_11 rfl rfl,
  fun v0 v1 v2 a0 σ hc => q_invV (as := []) (rest := []) e161_12 o_161 bn_8_159 c_8_159 m_105 (by decide) rfl rfl (Nat.le_of_ble_eq_true rfl) (Nat.le_of_ble_eq_true rfl) hc,
  fun v0 v1 v2 st σ => q_iconst e161_15 (by decide),
  fun v0 v2 x9 x1 st σ => q_go e161_16 rfl rfl,
  fun v1 v2 a1 st σ => q_go e161_18 rfl rfl,
  fun v0 v1 v2 a1 st σ hc => q_getA e161_19 o_161 f_8_9 (by decide) hc,
  fun v0 v1 v2 st σ => q_bipush e161_22 (by decide),
  fun v0 v1 v2 k a2 st σ hk => q_iald e161_24 hk,
  fun v0 v1 v2 x1 x2 st σ => (q_cmp e161_25 rfl).trans q_nlt,
  fun v1 v2 a1 st σ => q_go e161_28 rfl rfl,
  fun v1 v2 a1 st σ => q_go e161_29 rfl rfl,
  fun v0 v1 v2 a1 st σ hc => q_getA e161_30 o_161 f_8_9 (by decide) hc,
  fun v0 v1 v2 st σ => q_bipush e161_33 (by decide),
  fun v0 v1 x1 st σ => q_go e161_35 rfl rfl,
  fun v0 v1 v2 x1 x2 st σ => q_go e161_36 rfl rfl,
  fun v0 v1 v2 k a2 st σ hk => q_iald e161_37 hk,
  fun v1 v2 a1 st σ => q_go e161_38 rfl rfl,
  fun v0 v1 v2 a1 st σ hc => q_getA e161_39 o_161 f_8_9 (by decide) hc,
  fun v0 v1 v2 st σ => q_bipush e161_42 (by decide),
  fun v0 v1 x1 st σ => q_go e161_44 rfl rfl,
  fun v0 v1 v2 x1 x2 st σ => q_go e161_45 rfl rfl,
  fun v0 v1 v2 k a2 st σ hk => q_iald e161_46 hk,
  fun v0 v1 v2 x1 x2 a0 σ hc => q_invV (as := [.int x1, .int x2]) (rest := []) e161_47 o_161 bn_8_201 c_8_201 m_160 (by decide) rfl rfl (Nat.le_of_ble_eq_true rfl) (Nat.le_of_ble_eq_true rfl) hc,
  fun v0 x1 x9 st σ => q_iinc e161_50 rfl rfl (by decide),
  fun v0 v1 v2 st σ => q_goto e161_53 rfl,
  fun v0 v2 x1 st σ => q_go e161_56 rfl rfl,
  fun v0 v1 v2 x1 st σ => (q_if e161_57 rfl).trans q_ne,
  fun v1 v2 a1 st σ => q_go e161_60 rfl rfl,
  fun v0 v1 v2 a1 st σ hc => q_getA e161_61 o_161 f_8_9 (by decide) hc,
  fun v0 v1 v2 st σ => q_iconst e161_64 (by decide),
  fun v0 v1 v2 k a2 st σ hk => q_iald e161_65 hk,
  fun v0 v1 v2 st σ => q_goto e161_66 rfl,
  fun v1 v2 a1 st σ => q_go e161_69 rfl rfl,
  fun v0 v1 v2 a0 σ hc => q_invV (as := []) (rest := []) e161_70 o_161 bn_8_149 c_8_149 m_136 (by decide) rfl rfl (Nat.le_of_ble_eq_true rfl) (Nat.le_of_ble_eq_true rfl) hc,
  fun v0 v2 x9 x1 st σ => q_go e161_73 rfl rfl,
  fun v1 v2 a1 st σ => q_go e161_74 rfl rfl,
  fun v0 v1 v2 a0 σ hc => q_invV (as := []) (rest := []) e161_75 o_161 bn_8_165 c_8_165 m_106 (by decide) rfl rfl (Nat.le_of_ble_eq_true rfl) (Nat.le_of_ble_eq_true rfl) hc,
  fun v0 v1 x1 st σ => q_go e161_78 rfl rfl,
  fun v0 v1 v2 x1 σ => q_iret e161_79 r_161⟩
theorem E161 {ro : ma_RO} {d : Nat} (a0 : Nat) (x1 : Int32) (sh : List ma_Sh) (σ : ma_H) : ma_ev ro d 161 [.ref a0, .int x1] sh σ = ma_rn ro d 161 (0, [some (.ref a0), some (.int x1), none], [], sh, σ) := q_ent x_161 rfl
theorem e162_0 : decode (ma_cd 162) 0 = .ok (.iload_n 1, 1) := (congrArg (fun b => decode b 0) cd_162).trans dX8_book_0
theorem e162_1 : decode (ma_cd 162) 1 = .ok (.iconst (-1), 1) := (congrArg (fun b => decode b 1) cd_162).trans dX8_book_1
theorem e162_2 : decode (ma_cd 162) 2 = .ok (.if_icmp .ne 13, 3) := (congrArg (fun b => decode b 2) cd_162).trans dX8_book_2
theorem e162_5 : decode (ma_cd 162) 5 = .ok (.aload_n 0, 1) := (congrArg (fun b => decode b 5) cd_162).trans dX8_book_5
theorem e162_6 : decode (ma_cd 162) 6 = .ok (.getfield 9, 3) := (congrArg (fun b => decode b 6) cd_162).trans dX8_book_6
theorem e162_9 : decode (ma_cd 162) 9 = .ok (.bipush 37, 2) := (congrArg (fun b => decode b 9) cd_162).trans dX8_book_9
theorem e162_11 : decode (ma_cd 162) 11 = .ok (.iconst 0, 1) := (congrArg (fun b => decode b 11) cd_162).trans dX8_book_11
theorem e162_12 : decode (ma_cd 162) 12 = .ok (.iastore, 1) := (congrArg (fun b => decode b 12) cd_162).trans dX8_book_12
theorem e162_13 : decode (ma_cd 162) 13 = .ok (.iconst 0, 1) := (congrArg (fun b => decode b 13) cd_162).trans dX8_book_13
theorem e162_14 : decode (ma_cd 162) 14 = .ok (.ireturn, 1) := (congrArg (fun b => decode b 14) cd_162).trans dX8_book_14
theorem e162_15 : decode (ma_cd 162) 15 = .ok (.aload_n 0, 1) := (congrArg (fun b => decode b 15) cd_162).trans dX8_book_15
theorem e162_16 : decode (ma_cd 162) 16 = .ok (.iload_n 1, 1) := (congrArg (fun b => decode b 16) cd_162).trans dX8_book_16
theorem e162_17 : decode (ma_cd 162) 17 = .ok (.invokevirtual 129, 3) := (congrArg (fun b => decode b 17) cd_162).trans dX8_book_17
theorem e162_20 : decode (ma_cd 162) 20 = .ok (.ifCond .ne 5, 3) := (congrArg (fun b => decode b 20) cd_162).trans dX8_book_20
theorem e162_23 : decode (ma_cd 162) 23 = .ok (.iconst (-1), 1) := (congrArg (fun b => decode b 23) cd_162).trans dX8_book_23
theorem e162_24 : decode (ma_cd 162) 24 = .ok (.ireturn, 1) := (congrArg (fun b => decode b 24) cd_162).trans dX8_book_24
theorem e162_25 : decode (ma_cd 162) 25 = .ok (.iload_n 2, 1) := (congrArg (fun b => decode b 25) cd_162).trans dX8_book_25
theorem e162_26 : decode (ma_cd 162) 26 = .ok (.iconst 0, 1) := (congrArg (fun b => decode b 26) cd_162).trans dX8_book_26
theorem e162_27 : decode (ma_cd 162) 27 = .ok (.bipush 99, 2) := (congrArg (fun b => decode b 27) cd_162).trans dX8_book_27
theorem e162_29 : decode (ma_cd 162) 29 = .ok (.invokestatic 35, 3) := (congrArg (fun b => decode b 29) cd_162).trans dX8_book_29
theorem e162_32 : decode (ma_cd 162) 32 = .ok (.ifCond .ne 6, 3) := (congrArg (fun b => decode b 32) cd_162).trans dX8_book_32
theorem e162_35 : decode (ma_cd 162) 35 = .ok (.bipush (-2), 2) := (congrArg (fun b => decode b 35) cd_162).trans dX8_book_35
theorem e162_37 : decode (ma_cd 162) 37 = .ok (.ireturn, 1) := (congrArg (fun b => decode b 37) cd_162).trans dX8_book_37
theorem e162_38 : decode (ma_cd 162) 38 = .ok (.aload_n 0, 1) := (congrArg (fun b => decode b 38) cd_162).trans dX8_book_38
theorem e162_39 : decode (ma_cd 162) 39 = .ok (.getfield 9, 3) := (congrArg (fun b => decode b 39) cd_162).trans dX8_book_39
theorem e162_42 : decode (ma_cd 162) 42 = .ok (.bipush 37, 2) := (congrArg (fun b => decode b 42) cd_162).trans dX8_book_42
theorem e162_44 : decode (ma_cd 162) 44 = .ok (.iaload, 1) := (congrArg (fun b => decode b 44) cd_162).trans dX8_book_44
theorem e162_45 : decode (ma_cd 162) 45 = .ok (.bipush 8, 2) := (congrArg (fun b => decode b 45) cd_162).trans dX8_book_45
theorem e162_47 : decode (ma_cd 162) 47 = .ok (.if_icmp .ne 6, 3) := (congrArg (fun b => decode b 47) cd_162).trans dX8_book_47
theorem e162_50 : decode (ma_cd 162) 50 = .ok (.bipush (-4), 2) := (congrArg (fun b => decode b 50) cd_162).trans dX8_book_50
theorem e162_52 : decode (ma_cd 162) 52 = .ok (.ireturn, 1) := (congrArg (fun b => decode b 52) cd_162).trans dX8_book_52
theorem e162_53 : decode (ma_cd 162) 53 = .ok (.aload_n 0, 1) := (congrArg (fun b => decode b 53) cd_162).trans dX8_book_53
theorem e162_54 : decode (ma_cd 162) 54 = .ok (.getfield 9, 3) := (congrArg (fun b => decode b 54) cd_162).trans dX8_book_54
theorem e162_57 : decode (ma_cd 162) 57 = .ok (.bipush 107, 2) := (congrArg (fun b => decode b 57) cd_162).trans dX8_book_57
theorem e162_59 : decode (ma_cd 162) 59 = .ok (.aload_n 0, 1) := (congrArg (fun b => decode b 59) cd_162).trans dX8_book_59
theorem e162_60 : decode (ma_cd 162) 60 = .ok (.getfield 9, 3) := (congrArg (fun b => decode b 60) cd_162).trans dX8_book_60
theorem e162_63 : decode (ma_cd 162) 63 = .ok (.bipush 37, 2) := (congrArg (fun b => decode b 63) cd_162).trans dX8_book_63
theorem e162_65 : decode (ma_cd 162) 65 = .ok (.iaload, 1) := (congrArg (fun b => decode b 65) cd_162).trans dX8_book_65
theorem e162_66 : decode (ma_cd 162) 66 = .ok (.iadd, 1) := (congrArg (fun b => decode b 66) cd_162).trans dX8_book_66
theorem e162_67 : decode (ma_cd 162) 67 = .ok (.iload_n 1, 1) := (congrArg (fun b => decode b 67) cd_162).trans dX8_book_67
theorem e162_68 : decode (ma_cd 162) 68 = .ok (.iastore, 1) := (congrArg (fun b => decode b 68) cd_162).trans dX8_book_68
theorem e162_69 : decode (ma_cd 162) 69 = .ok (.aload_n 0, 1) := (congrArg (fun b => decode b 69) cd_162).trans dX8_book_69
theorem e162_70 : decode (ma_cd 162) 70 = .ok (.getfield 9, 3) := (congrArg (fun b => decode b 70) cd_162).trans dX8_book_70
theorem e162_73 : decode (ma_cd 162) 73 = .ok (.bipush 115, 2) := (congrArg (fun b => decode b 73) cd_162).trans dX8_book_73
theorem e162_75 : decode (ma_cd 162) 75 = .ok (.aload_n 0, 1) := (congrArg (fun b => decode b 75) cd_162).trans dX8_book_75
theorem e162_76 : decode (ma_cd 162) 76 = .ok (.getfield 9, 3) := (congrArg (fun b => decode b 76) cd_162).trans dX8_book_76
theorem e162_79 : decode (ma_cd 162) 79 = .ok (.bipush 37, 2) := (congrArg (fun b => decode b 79) cd_162).trans dX8_book_79
theorem e162_81 : decode (ma_cd 162) 81 = .ok (.iaload, 1) := (congrArg (fun b => decode b 81) cd_162).trans dX8_book_81
theorem e162_82 : decode (ma_cd 162) 82 = .ok (.iadd, 1) := (congrArg (fun b => decode b 82) cd_162).trans dX8_book_82
theorem e162_83 : decode (ma_cd 162) 83 = .ok (.iload_n 2, 1) := (congrArg (fun b => decode b 83) cd_162).trans dX8_book_83
theorem e162_84 : decode (ma_cd 162) 84 = .ok (.iastore, 1) := (congrArg (fun b => decode b 84) cd_162).trans dX8_book_84
theorem e162_85 : decode (ma_cd 162) 85 = .ok (.aload_n 0, 1) := (congrArg (fun b => decode b 85) cd_162).trans dX8_book_85
theorem e162_86 : decode (ma_cd 162) 86 = .ok (.getfield 9, 3) := (congrArg (fun b => decode b 86) cd_162).trans dX8_book_86
theorem e162_89 : decode (ma_cd 162) 89 = .ok (.bipush 37, 2) := (congrArg (fun b => decode b 89) cd_162).trans dX8_book_89
theorem e162_91 : decode (ma_cd 162) 91 = .ok (.dup2, 1) := (congrArg (fun b => decode b 91) cd_162).trans dX8_book_91
theorem e162_92 : decode (ma_cd 162) 92 = .ok (.iaload, 1) := (congrArg (fun b => decode b 92) cd_162).trans dX8_book_92
theorem e162_93 : decode (ma_cd 162) 93 = .ok (.iconst 1, 1) := (congrArg (fun b => decode b 93) cd_162).trans dX8_book_93
theorem e162_94 : decode (ma_cd 162) 94 = .ok (.iadd, 1) := (congrArg (fun b => decode b 94) cd_162).trans dX8_book_94
theorem e162_95 : decode (ma_cd 162) 95 = .ok (.iastore, 1) := (congrArg (fun b => decode b 95) cd_162).trans dX8_book_95
theorem e162_96 : decode (ma_cd 162) 96 = .ok (.aload_n 0, 1) := (congrArg (fun b => decode b 96) cd_162).trans dX8_book_96
theorem e162_97 : decode (ma_cd 162) 97 = .ok (.getfield 9, 3) := (congrArg (fun b => decode b 97) cd_162).trans dX8_book_97
theorem e162_100 : decode (ma_cd 162) 100 = .ok (.bipush 37, 2) := (congrArg (fun b => decode b 100) cd_162).trans dX8_book_100
theorem e162_102 : decode (ma_cd 162) 102 = .ok (.iaload, 1) := (congrArg (fun b => decode b 102) cd_162).trans dX8_book_102
theorem e162_103 : decode (ma_cd 162) 103 = .ok (.ireturn, 1) := (congrArg (fun b => decode b 103) cd_162).trans dX8_book_103
theorem S162 {ro : ma_RO} {d : Nat} : (∀ (v0 : Option Value) (v2 : Option Value) (x1 : Int32) (st : List Value) (σ : ma_H), ma_rn ro d 162 (0, [v0, some (.int x1), v2], st, SH, σ) = ma_rn ro d 162 (1, [v0, some (.int x1), v2], .int x1 :: st, SH, σ)) ∧
  (∀ (v0 : Option Value) (v1 : Option Value) (v2 : Option Value) (st : List Value) (σ : ma_H), ma_rn ro d 162 (1, [v0, v1, v2], st, SH, σ) = ma_rn ro d 162 (2, [v0, v1, v2], .int ((-1)) :: st, SH, σ)) ∧
  (∀ (v0 : Option Value) (v1 : Option Value) (v2 : Option Value) (x1 : Int32) (x2 : Int32) (st : List Value) (σ : ma_H), ma_rn ro d 162 (2, [v0, v1, v2], .int x1 :: .int x2 :: st, SH, σ) = if x2 = x1 then ma_rn ro d 162 (5, [v0, v1, v2], st, SH, σ) else ma_rn ro d 162 (15, [v0, v1, v2], st, SH, σ)) ∧
  (∀ (v1 : Option Value) (v2 : Option Value) (a1 : Nat) (st : List Value) (σ : ma_H), ma_rn ro d 162 (5, [some (.ref a1), v1, v2], st, SH, σ) = ma_rn ro d 162 (6, [some (.ref a1), v1, v2], .ref a1 :: st, SH, σ)) ∧
  (∀ (v0 : Option Value) (v1 : Option Value) (v2 : Option Value) (a1 : Nat) (st : List Value) (σ : ma_H) (hc : hk_cls a1 = 8), ma_rn ro d 162 (6, [v0, v1, v2], .ref a1 :: st, SH, σ) = ma_rn ro d 162 (9, [v0, v1, v2], .ref (91) :: st, SH, σ)) ∧
  (∀ (v0 : Option Value) (v1 : Option Value) (v2 : Option Value) (st : List Value) (σ : ma_H), ma_rn ro d 162 (9, [v0, v1, v2], st, SH, σ) = ma_rn ro d 162 (11, [v0, v1, v2], .int (nI 37) :: st, SH, σ)) ∧
  (∀ (v0 : Option Value) (v1 : Option Value) (v2 : Option Value) (st : List Value) (σ : ma_H), ma_rn ro d 162 (11, [v0, v1, v2], st, SH, σ) = ma_rn ro d 162 (12, [v0, v1, v2], .int (nI 0) :: st, SH, σ)) ∧
  (∀ (v0 : Option Value) (v1 : Option Value) (v2 : Option Value) (x1 : Int32) (k : Nat) (a3 : Nat) (st : List Value) (σ : ma_H) (hk : k < hk_len a3), ma_rn ro d 162 (12, [v0, v1, v2], .int x1 :: .int (nI k) :: .ref a3 :: st, SH, σ) = ma_rn ro d 162 (13, [v0, v1, v2], st, SH, (ma_up σ a3 k x1))) ∧
  (∀ (v0 : Option Value) (v1 : Option Value) (v2 : Option Value) (st : List Value) (σ : ma_H), ma_rn ro d 162 (13, [v0, v1, v2], st, SH, σ) = ma_rn ro d 162 (14, [v0, v1, v2], .int (nI 0) :: st, SH, σ)) ∧
  (∀ (v0 : Option Value) (v1 : Option Value) (v2 : Option Value) (x1 : Int32) (σ : ma_H), ma_rn ro d 162 (14, [v0, v1, v2], [.int x1], SH, σ) = some (some (.int x1), SH, σ)) ∧
  (∀ (v1 : Option Value) (v2 : Option Value) (a1 : Nat) (st : List Value) (σ : ma_H), ma_rn ro d 162 (15, [some (.ref a1), v1, v2], st, SH, σ) = ma_rn ro d 162 (16, [some (.ref a1), v1, v2], .ref a1 :: st, SH, σ)) ∧
  (∀ (v0 : Option Value) (v2 : Option Value) (x1 : Int32) (st : List Value) (σ : ma_H), ma_rn ro d 162 (16, [v0, some (.int x1), v2], st, SH, σ) = ma_rn ro d 162 (17, [v0, some (.int x1), v2], .int x1 :: st, SH, σ)) ∧
  (∀ (v0 : Option Value) (v1 : Option Value) (v2 : Option Value) (x1 : Int32) (a0 : Nat) (σ : ma_H) (hc : hk_cls a0 = 8), ma_rn ro (d + 1) 162 (17, [v0, v1, v2], .int x1 :: .ref a0 :: [], SH, σ) = (ma_ev ro d 103 [.ref a0, .int x1] SH σ).bind (fun q => ma_rn ro (d + 1) 162 (20, [v0, v1, v2], (q.1.toList ++ []), q.2.1, q.2.2))) ∧
  (∀ (v0 : Option Value) (v1 : Option Value) (v2 : Option Value) (x1 : Int32) (st : List Value) (σ : ma_H), ma_rn ro d 162 (20, [v0, v1, v2], .int x1 :: st, SH, σ) = if x1 = nI 0 then ma_rn ro d 162 (23, [v0, v1, v2], st, SH, σ) else ma_rn ro d 162 (25, [v0, v1, v2], st, SH, σ)) ∧
  (∀ (v0 : Option Value) (v1 : Option Value) (v2 : Option Value) (st : List Value) (σ : ma_H), ma_rn ro d 162 (23, [v0, v1, v2], st, SH, σ) = ma_rn ro d 162 (24, [v0, v1, v2], .int ((-1)) :: st, SH, σ)) ∧
  (∀ (v0 : Option Value) (v1 : Option Value) (v2 : Option Value) (x1 : Int32) (σ : ma_H), ma_rn ro d 162 (24, [v0, v1, v2], [.int x1], SH, σ) = some (some (.int x1), SH, σ)) ∧
  (∀ (v0 : Option Value) (v1 : Option Value) (x1 : Int32) (st : List Value) (σ : ma_H), ma_rn ro d 162 (25, [v0, v1, some (.int x1)], st, SH, σ) = ma_rn ro d 162 (26, [v0, v1, some (.int x1)], .int x1 :: st, SH, σ)) ∧
  (∀ (v0 : Option Value) (v1 : Option Value) (v2 : Option Value) (st : List Value) (σ : ma_H), ma_rn ro d 162 (26, [v0, v1, v2], st, SH, σ) = ma_rn ro d 162 (27, [v0, v1, v2], .int (nI 0) :: st, SH, σ)) ∧
  (∀ (v0 : Option Value) (v1 : Option Value) (v2 : Option Value) (st : List Value) (σ : ma_H), ma_rn ro d 162 (27, [v0, v1, v2], st, SH, σ) = ma_rn ro d 162 (29, [v0, v1, v2], .int (nI 99) :: st, SH, σ)) ∧
  (∀ (v0 : Option Value) (v1 : Option Value) (v2 : Option Value) (x1 : Int32) (x2 : Int32) (x3 : Int32) (σ : ma_H), ma_rn ro (d + 1) 162 (29, [v0, v1, v2], .int x3 :: .int x2 :: .int x1 :: [], SH, σ) = (ma_ev ro d 102 [.int x1, .int x2, .int x3] SH σ).bind (fun q => ma_rn ro (d + 1) 162 (32, [v0, v1, v2], (q.1.toList ++ []), q.2.1, q.2.2))) ∧
  (∀ (v0 : Option Value) (v1 : Option Value) (v2 : Option Value) (x1 : Int32) (st : List Value) (σ : ma_H), ma_rn ro d 162 (32, [v0, v1, v2], .int x1 :: st, SH, σ) = if x1 = nI 0 then ma_rn ro d 162 (35, [v0, v1, v2], st, SH, σ) else ma_rn ro d 162 (38, [v0, v1, v2], st, SH, σ)) ∧
  (∀ (v0 : Option Value) (v1 : Option Value) (v2 : Option Value) (st : List Value) (σ : ma_H), ma_rn ro d 162 (35, [v0, v1, v2], st, SH, σ) = ma_rn ro d 162 (37, [v0, v1, v2], .int ((-2)) :: st, SH, σ)) ∧
  (∀ (v0 : Option Value) (v1 : Option Value) (v2 : Option Value) (x1 : Int32) (σ : ma_H), ma_rn ro d 162 (37, [v0, v1, v2], [.int x1], SH, σ) = some (some (.int x1), SH, σ)) ∧
  (∀ (v1 : Option Value) (v2 : Option Value) (a1 : Nat) (st : List Value) (σ : ma_H), ma_rn ro d 162 (38, [some (.ref a1), v1, v2], st, SH, σ) = ma_rn ro d 162 (39, [some (.ref a1), v1, v2], .ref a1 :: st, SH, σ)) ∧
  (∀ (v0 : Option Value) (v1 : Option Value) (v2 : Option Value) (a1 : Nat) (st : List Value) (σ : ma_H) (hc : hk_cls a1 = 8), ma_rn ro d 162 (39, [v0, v1, v2], .ref a1 :: st, SH, σ) = ma_rn ro d 162 (42, [v0, v1, v2], .ref (91) :: st, SH, σ)) ∧
  (∀ (v0 : Option Value) (v1 : Option Value) (v2 : Option Value) (st : List Value) (σ : ma_H), ma_rn ro d 162 (42, [v0, v1, v2], st, SH, σ) = ma_rn ro d 162 (44, [v0, v1, v2], .int (nI 37) :: st, SH, σ)) ∧
  (∀ (v0 : Option Value) (v1 : Option Value) (v2 : Option Value) (k : Nat) (a2 : Nat) (st : List Value) (σ : ma_H) (hk : k < hk_len a2), ma_rn ro d 162 (44, [v0, v1, v2], .int (nI k) :: .ref a2 :: st, SH, σ) = ma_rn ro d 162 (45, [v0, v1, v2], .int (σ a2 k) :: st, SH, σ)) ∧
  (∀ (v0 : Option Value) (v1 : Option Value) (v2 : Option Value) (st : List Value) (σ : ma_H), ma_rn ro d 162 (45, [v0, v1, v2], st, SH, σ) = ma_rn ro d 162 (47, [v0, v1, v2], .int (nI 8) :: st, SH, σ)) ∧
  (∀ (v0 : Option Value) (v1 : Option Value) (v2 : Option Value) (x1 : Int32) (x2 : Int32) (st : List Value) (σ : ma_H), ma_rn ro d 162 (47, [v0, v1, v2], .int x1 :: .int x2 :: st, SH, σ) = if x2 = x1 then ma_rn ro d 162 (50, [v0, v1, v2], st, SH, σ) else ma_rn ro d 162 (53, [v0, v1, v2], st, SH, σ)) ∧
  (∀ (v0 : Option Value) (v1 : Option Value) (v2 : Option Value) (st : List Value) (σ : ma_H), ma_rn ro d 162 (50, [v0, v1, v2], st, SH, σ) = ma_rn ro d 162 (52, [v0, v1, v2], .int ((-4)) :: st, SH, σ)) ∧
  (∀ (v0 : Option Value) (v1 : Option Value) (v2 : Option Value) (x1 : Int32) (σ : ma_H), ma_rn ro d 162 (52, [v0, v1, v2], [.int x1], SH, σ) = some (some (.int x1), SH, σ)) ∧
  (∀ (v1 : Option Value) (v2 : Option Value) (a1 : Nat) (st : List Value) (σ : ma_H), ma_rn ro d 162 (53, [some (.ref a1), v1, v2], st, SH, σ) = ma_rn ro d 162 (54, [some (.ref a1), v1, v2], .ref a1 :: st, SH, σ)) ∧
  (∀ (v0 : Option Value) (v1 : Option Value) (v2 : Option Value) (a1 : Nat) (st : List Value) (σ : ma_H) (hc : hk_cls a1 = 8), ma_rn ro d 162 (54, [v0, v1, v2], .ref a1 :: st, SH, σ) = ma_rn ro d 162 (57, [v0, v1, v2], .ref (91) :: st, SH, σ)) ∧
  (∀ (v0 : Option Value) (v1 : Option Value) (v2 : Option Value) (st : List Value) (σ : ma_H), ma_rn ro d 162 (57, [v0, v1, v2], st, SH, σ) = ma_rn ro d 162 (59, [v0, v1, v2], .int (nI 107) :: st, SH, σ)) ∧
  (∀ (v1 : Option Value) (v2 : Option Value) (a1 : Nat) (st : List Value) (σ : ma_H), ma_rn ro d 162 (59, [some (.ref a1), v1, v2], st, SH, σ) = ma_rn ro d 162 (60, [some (.ref a1), v1, v2], .ref a1 :: st, SH, σ)) ∧
  (∀ (v0 : Option Value) (v1 : Option Value) (v2 : Option Value) (a1 : Nat) (st : List Value) (σ : ma_H) (hc : hk_cls a1 = 8), ma_rn ro d 162 (60, [v0, v1, v2], .ref a1 :: st, SH, σ) = ma_rn ro d 162 (63, [v0, v1, v2], .ref (91) :: st, SH, σ)) ∧
  (∀ (v0 : Option Value) (v1 : Option Value) (v2 : Option Value) (st : List Value) (σ : ma_H), ma_rn ro d 162 (63, [v0, v1, v2], st, SH, σ) = ma_rn ro d 162 (65, [v0, v1, v2], .int (nI 37) :: st, SH, σ)) ∧
  (∀ (v0 : Option Value) (v1 : Option Value) (v2 : Option Value) (k : Nat) (a2 : Nat) (st : List Value) (σ : ma_H) (hk : k < hk_len a2), ma_rn ro d 162 (65, [v0, v1, v2], .int (nI k) :: .ref a2 :: st, SH, σ) = ma_rn ro d 162 (66, [v0, v1, v2], .int (σ a2 k) :: st, SH, σ)) ∧
  (∀ (v0 : Option Value) (v1 : Option Value) (v2 : Option Value) (x1 : Int32) (x2 : Int32) (st : List Value) (σ : ma_H), ma_rn ro d 162 (66, [v0, v1, v2], .int x1 :: .int x2 :: st, SH, σ) = ma_rn ro d 162 (67, [v0, v1, v2], .int (x2 + x1) :: st, SH, σ)) ∧
  (∀ (v0 : Option Value) (v2 : Option Value) (x1 : Int32) (st : List Value) (σ : ma_H), ma_rn ro d 162 (67, [v0, some (.int x1), v2], st, SH, σ) = ma_rn ro d 162 (68, [v0, some (.int x1), v2], .int x1 :: st, SH, σ)) ∧
  (∀ (v0 : Option Value) (v1 : Option Value) (v2 : Option Value) (x1 : Int32) (k : Nat) (a3 : Nat) (st : List Value) (σ : ma_H) (hk : k < hk_len a3), ma_rn ro d 162 (68, [v0, v1, v2], .int x1 :: .int (nI k) :: .ref a3 :: st, SH, σ) = ma_rn ro d 162 (69, [v0, v1, v2], st, SH, (ma_up σ a3 k x1))) ∧
  (∀ (v1 : Option Value) (v2 : Option Value) (a1 : Nat) (st : List Value) (σ : ma_H), ma_rn ro d 162 (69, [some (.ref a1), v1, v2], st, SH, σ) = ma_rn ro d 162 (70, [some (.ref a1), v1, v2], .ref a1 :: st, SH, σ)) ∧
  (∀ (v0 : Option Value) (v1 : Option Value) (v2 : Option Value) (a1 : Nat) (st : List Value) (σ : ma_H) (hc : hk_cls a1 = 8), ma_rn ro d 162 (70, [v0, v1, v2], .ref a1 :: st, SH, σ) = ma_rn ro d 162 (73, [v0, v1, v2], .ref (91) :: st, SH, σ)) ∧
  (∀ (v0 : Option Value) (v1 : Option Value) (v2 : Option Value) (st : List Value) (σ : ma_H), ma_rn ro d 162 (73, [v0, v1, v2], st, SH, σ) = ma_rn ro d 162 (75, [v0, v1, v2], .int (nI 115) :: st, SH, σ)) ∧
  (∀ (v1 : Option Value) (v2 : Option Value) (a1 : Nat) (st : List Value) (σ : ma_H), ma_rn ro d 162 (75, [some (.ref a1), v1, v2], st, SH, σ) = ma_rn ro d 162 (76, [some (.ref a1), v1, v2], .ref a1 :: st, SH, σ)) ∧
  (∀ (v0 : Option Value) (v1 : Option Value) (v2 : Option Value) (a1 : Nat) (st : List Value) (σ : ma_H) (hc : hk_cls a1 = 8), ma_rn ro d 162 (76, [v0, v1, v2], .ref a1 :: st, SH, σ) = ma_rn ro d 162 (79, [v0, v1, v2], .ref (91) :: st, SH, σ)) ∧
  (∀ (v0 : Option Value) (v1 : Option Value) (v2 : Option Value) (st : List Value) (σ : ma_H), ma_rn ro d 162 (79, [v0, v1, v2], st, SH, σ) = ma_rn ro d 162 (81, [v0, v1, v2], .int (nI 37) :: st, SH, σ)) ∧
  (∀ (v0 : Option Value) (v1 : Option Value) (v2 : Option Value) (k : Nat) (a2 : Nat) (st : List Value) (σ : ma_H) (hk : k < hk_len a2), ma_rn ro d 162 (81, [v0, v1, v2], .int (nI k) :: .ref a2 :: st, SH, σ) = ma_rn ro d 162 (82, [v0, v1, v2], .int (σ a2 k) :: st, SH, σ)) ∧
  (∀ (v0 : Option Value) (v1 : Option Value) (v2 : Option Value) (x1 : Int32) (x2 : Int32) (st : List Value) (σ : ma_H), ma_rn ro d 162 (82, [v0, v1, v2], .int x1 :: .int x2 :: st, SH, σ) = ma_rn ro d 162 (83, [v0, v1, v2], .int (x2 + x1) :: st, SH, σ)) ∧
  (∀ (v0 : Option Value) (v1 : Option Value) (x1 : Int32) (st : List Value) (σ : ma_H), ma_rn ro d 162 (83, [v0, v1, some (.int x1)], st, SH, σ) = ma_rn ro d 162 (84, [v0, v1, some (.int x1)], .int x1 :: st, SH, σ)) ∧
  (∀ (v0 : Option Value) (v1 : Option Value) (v2 : Option Value) (x1 : Int32) (k : Nat) (a3 : Nat) (st : List Value) (σ : ma_H) (hk : k < hk_len a3), ma_rn ro d 162 (84, [v0, v1, v2], .int x1 :: .int (nI k) :: .ref a3 :: st, SH, σ) = ma_rn ro d 162 (85, [v0, v1, v2], st, SH, (ma_up σ a3 k x1))) ∧
  (∀ (v1 : Option Value) (v2 : Option Value) (a1 : Nat) (st : List Value) (σ : ma_H), ma_rn ro d 162 (85, [some (.ref a1), v1, v2], st, SH, σ) = ma_rn ro d 162 (86, [some (.ref a1), v1, v2], .ref a1 :: st, SH, σ)) ∧
  (∀ (v0 : Option Value) (v1 : Option Value) (v2 : Option Value) (a1 : Nat) (st : List Value) (σ : ma_H) (hc : hk_cls a1 = 8), ma_rn ro d 162 (86, [v0, v1, v2], .ref a1 :: st, SH, σ) = ma_rn ro d 162 (89, [v0, v1, v2], .ref (91) :: st, SH, σ)) ∧
  (∀ (v0 : Option Value) (v1 : Option Value) (v2 : Option Value) (st : List Value) (σ : ma_H), ma_rn ro d 162 (89, [v0, v1, v2], st, SH, σ) = ma_rn ro d 162 (91, [v0, v1, v2], .int (nI 37) :: st, SH, σ)) ∧
  (∀ (v0 : Option Value) (v1 : Option Value) (v2 : Option Value) (x1 : Int32) (a2 : Nat) (st : List Value) (σ : ma_H), ma_rn ro d 162 (91, [v0, v1, v2], .int x1 :: .ref a2 :: st, SH, σ) = ma_rn ro d 162 (92, [v0, v1, v2], .int x1 :: .ref a2 :: .int x1 :: .ref a2 :: st, SH, σ)) ∧
  (∀ (v0 : Option Value) (v1 : Option Value) (v2 : Option Value) (k : Nat) (a2 : Nat) (st : List Value) (σ : ma_H) (hk : k < hk_len a2), ma_rn ro d 162 (92, [v0, v1, v2], .int (nI k) :: .ref a2 :: st, SH, σ) = ma_rn ro d 162 (93, [v0, v1, v2], .int (σ a2 k) :: st, SH, σ)) ∧
  (∀ (v0 : Option Value) (v1 : Option Value) (v2 : Option Value) (st : List Value) (σ : ma_H), ma_rn ro d 162 (93, [v0, v1, v2], st, SH, σ) = ma_rn ro d 162 (94, [v0, v1, v2], .int (nI 1) :: st, SH, σ)) ∧
  (∀ (v0 : Option Value) (v1 : Option Value) (v2 : Option Value) (x1 : Int32) (x2 : Int32) (st : List Value) (σ : ma_H), ma_rn ro d 162 (94, [v0, v1, v2], .int x1 :: .int x2 :: st, SH, σ) = ma_rn ro d 162 (95, [v0, v1, v2], .int (x2 + x1) :: st, SH, σ)) ∧
  (∀ (v0 : Option Value) (v1 : Option Value) (v2 : Option Value) (x1 : Int32) (k : Nat) (a3 : Nat) (st : List Value) (σ : ma_H) (hk : k < hk_len a3), ma_rn ro d 162 (95, [v0, v1, v2], .int x1 :: .int (nI k) :: .ref a3 :: st, SH, σ) = ma_rn ro d 162 (96, [v0, v1, v2], st, SH, (ma_up σ a3 k x1))) ∧
  (∀ (v1 : Option Value) (v2 : Option Value) (a1 : Nat) (st : List Value) (σ : ma_H), ma_rn ro d 162 (96, [some (.ref a1), v1, v2], st, SH, σ) = ma_rn ro d 162 (97, [some (.ref a1), v1, v2], .ref a1 :: st, SH, σ)) ∧
  (∀ (v0 : Option Value) (v1 : Option Value) (v2 : Option Value) (a1 : Nat) (st : List Value) (σ : ma_H) (hc : hk_cls a1 = 8), ma_rn ro d 162 (97, [v0, v1, v2], .ref a1 :: st, SH, σ) = ma_rn ro d 162 (100, [v0, v1, v2], .ref (91) :: st, SH, σ)) ∧
  (∀ (v0 : Option Value) (v1 : Option Value) (v2 : Option Value) (st : List Value) (σ : ma_H), ma_rn ro d 162 (100, [v0, v1, v2], st, SH, σ) = ma_rn ro d 162 (102, [v0, v1, v2], .int (nI 37) :: st, SH, σ)) ∧
  (∀ (v0 : Option Value) (v1 : Option Value) (v2 : Option Value) (k : Nat) (a2 : Nat) (st : List Value) (σ : ma_H) (hk : k < hk_len a2), ma_rn ro d 162 (102, [v0, v1, v2], .int (nI k) :: .ref a2 :: st, SH, σ) = ma_rn ro d 162 (103, [v0, v1, v2], .int (σ a2 k) :: st, SH, σ)) ∧
  (∀ (v0 : Option Value) (v1 : Option Value) (v2 : Option Value) (x1 : Int32) (σ : ma_H), ma_rn ro d 162 (103, [v0, v1, v2], [.int x1], SH, σ) = some (some (.int x1), SH, σ)) := ⟨fun v0 v2 x1 st σ => q_go e162_0 rfl rfl,
  fun v0 v1 v2 st σ => q_iconst e162_1 (by decide),
  fun v0 v1 v2 x1 x2 st σ => (q_cmp e162_2 rfl).trans q_ne,
  fun v1 v2 a1 st σ => q_go e162_5 rfl rfl,
  fun v0 v1 v2 a1 st σ hc => q_getA e162_6 o_162 f_8_9 (by decide) hc,
  fun v0 v1 v2 st σ => q_bipush e162_9 (by decide),
  fun v0 v1 v2 st σ => q_iconst e162_11 (by decide),
  fun v0 v1 v2 x1 k a3 st σ hk => q_iast e162_12 hk,
  fun v0 v1 v2 st σ => q_iconst e162_13 (by decide),
  fun v0 v1 v2 x1 σ => q_iret e162_14 r_162,
  fun v1 v2 a1 st σ => q_go e162_15 rfl rfl,
  fun v0 v2 x1 st σ => q_go e162_16 rfl rfl,
  fun v0 v1 v2 x1 a0 σ hc => q_invV (as := [.int x1]) (rest := []) e162_17 o_162 bn_8_129 c_8_129 m_103 (by decide) rfl rfl (Nat.le_of_ble_eq_true rfl) (Nat.le_of_ble_eq_true rfl) hc,
  fun v0 v1 v2 x1 st σ => (q_if e162_20 rfl).trans q_ne,
  fun v0 v1 v2 st σ => q_iconst e162_23 (by decide),
  fun v0 v1 v2 x1 σ => q_iret e162_24 r_162,
  fun v0 v1 x1 st σ => q_go e162_25 rfl rfl,
  fun v0 v1 v2 st σ => q_iconst e162_26 (by decide),
  fun v0 v1 v2 st σ => q_bipush e162_27 (by decide),
  fun v0 v1 v2 x1 x2 x3 σ => q_invS (as := [.int x1, .int x2, .int x3]) (rest := []) e162_29 o_162 bn_8_35 c_8_35 ⟨m_102.1, m_102.2.1, m_102.2.2.1⟩ rfl rfl (Nat.le_of_ble_eq_true rfl) (Nat.le_of_ble_eq_true rfl),
  fun v0 v1 v2 x1 st σ => (q_if e162_32 rfl).trans q_ne,
  fun v0 v1 v2 st σ => q_bipush e162_35 (by decide),
  fun v0 v1 v2 x1 σ => q_iret e162_37 r_162,
  fun v1 v2 a1 st σ => q_go e162_38 rfl rfl,
  fun v0 v1 v2 a1 st σ hc => q_getA e162_39 o_162 f_8_9 (by decide) hc,
  fun v0 v1 v2 st σ => q_bipush e162_42 (by decide),
  fun v0 v1 v2 k a2 st σ hk => q_iald e162_44 hk,
  fun v0 v1 v2 st σ => q_bipush e162_45 (by decide),
  fun v0 v1 v2 x1 x2 st σ => (q_cmp e162_47 rfl).trans q_ne,
  fun v0 v1 v2 st σ => q_bipush e162_50 (by decide),
  fun v0 v1 v2 x1 σ => q_iret e162_52 r_162,
  fun v1 v2 a1 st σ => q_go e162_53 rfl rfl,
  fun v0 v1 v2 a1 st σ hc => q_getA e162_54 o_162 f_8_9 (by decide) hc,
  fun v0 v1 v2 st σ => q_bipush e162_57 (by decide),
  fun v1 v2 a1 st σ => q_go e162_59 rfl rfl,
  fun v0 v1 v2 a1 st σ hc => q_getA e162_60 o_162 f_8_9 (by decide) hc,
  fun v0 v1 v2 st σ => q_bipush e162_63 (by decide),
  fun v0 v1 v2 k a2 st σ hk => q_iald e162_65 hk,
  fun v0 v1 v2 x1 x2 st σ => q_go e162_66 rfl rfl,
  fun v0 v2 x1 st σ => q_go e162_67 rfl rfl,
  fun v0 v1 v2 x1 k a3 st σ hk => q_iast e162_68 hk,
  fun v1 v2 a1 st σ => q_go e162_69 rfl rfl,
  fun v0 v1 v2 a1 st σ hc => q_getA e162_70 o_162 f_8_9 (by decide) hc,
  fun v0 v1 v2 st σ => q_bipush e162_73 (by decide),
  fun v1 v2 a1 st σ => q_go e162_75 rfl rfl,
  fun v0 v1 v2 a1 st σ hc => q_getA e162_76 o_162 f_8_9 (by decide) hc,
  fun v0 v1 v2 st σ => q_bipush e162_79 (by decide),
  fun v0 v1 v2 k a2 st σ hk => q_iald e162_81 hk,
  fun v0 v1 v2 x1 x2 st σ => q_go e162_82 rfl rfl,
  fun v0 v1 x1 st σ => q_go e162_83 rfl rfl,
  fun v0 v1 v2 x1 k a3 st σ hk => q_iast e162_84 hk,
  fun v1 v2 a1 st σ => q_go e162_85 rfl rfl,
  fun v0 v1 v2 a1 st σ hc => q_getA e162_86 o_162 f_8_9 (by decide) hc,
  fun v0 v1 v2 st σ => q_bipush e162_89 (by decide),
  fun v0 v1 v2 x1 a2 st σ => q_go e162_91 rfl rfl,
  fun v0 v1 v2 k a2 st σ hk => q_iald e162_92 hk,
  fun v0 v1 v2 st σ => q_iconst e162_93 (by decide),
  fun v0 v1 v2 x1 x2 st σ => q_go e162_94 rfl rfl,
  fun v0 v1 v2 x1 k a3 st σ hk => q_iast e162_95 hk,
  fun v1 v2 a1 st σ => q_go e162_96 rfl rfl,
  fun v0 v1 v2 a1 st σ hc => q_getA e162_97 o_162 f_8_9 (by decide) hc,
  fun v0 v1 v2 st σ => q_bipush e162_100 (by decide),
  fun v0 v1 v2 k a2 st σ hk => q_iald e162_102 hk,
  fun v0 v1 v2 x1 σ => q_iret e162_103 r_162⟩
theorem E162 {ro : ma_RO} {d : Nat} (a0 : Nat) (x1 : Int32) (x2 : Int32) (sh : List ma_Sh) (σ : ma_H) : ma_ev ro d 162 [.ref a0, .int x1, .int x2] sh σ = ma_rn ro d 162 (0, [some (.ref a0), some (.int x1), some (.int x2)], [], sh, σ) := q_ent x_162 rfl
theorem e163_0 : decode (ma_cd 163) 0 = .ok (.iconst 0, 1) := (congrArg (fun b => decode b 0) cd_163).trans dX8_struck_0
theorem e163_1 : decode (ma_cd 163) 1 = .ok (.istore_n 1, 1) := (congrArg (fun b => decode b 1) cd_163).trans dX8_struck_1
theorem e163_2 : decode (ma_cd 163) 2 = .ok (.iload_n 1, 1) := (congrArg (fun b => decode b 2) cd_163).trans dX8_struck_2
theorem e163_3 : decode (ma_cd 163) 3 = .ok (.aload_n 0, 1) := (congrArg (fun b => decode b 3) cd_163).trans dX8_struck_3
theorem e163_4 : decode (ma_cd 163) 4 = .ok (.getfield 9, 3) := (congrArg (fun b => decode b 4) cd_163).trans dX8_struck_4
theorem e163_7 : decode (ma_cd 163) 7 = .ok (.bipush 37, 2) := (congrArg (fun b => decode b 7) cd_163).trans dX8_struck_7
theorem e163_9 : decode (ma_cd 163) 9 = .ok (.iaload, 1) := (congrArg (fun b => decode b 9) cd_163).trans dX8_struck_9
theorem e163_10 : decode (ma_cd 163) 10 = .ok (.if_icmp .ge 40, 3) := (congrArg (fun b => decode b 10) cd_163).trans dX8_struck_10
theorem e163_13 : decode (ma_cd 163) 13 = .ok (.aload_n 0, 1) := (congrArg (fun b => decode b 13) cd_163).trans dX8_struck_13
theorem e163_14 : decode (ma_cd 163) 14 = .ok (.getfield 9, 3) := (congrArg (fun b => decode b 14) cd_163).trans dX8_struck_14
theorem e163_17 : decode (ma_cd 163) 17 = .ok (.bipush 9, 2) := (congrArg (fun b => decode b 17) cd_163).trans dX8_struck_17
theorem e163_19 : decode (ma_cd 163) 19 = .ok (.aload_n 0, 1) := (congrArg (fun b => decode b 19) cd_163).trans dX8_struck_19
theorem e163_20 : decode (ma_cd 163) 20 = .ok (.getfield 9, 3) := (congrArg (fun b => decode b 20) cd_163).trans dX8_struck_20
theorem e163_23 : decode (ma_cd 163) 23 = .ok (.bipush 107, 2) := (congrArg (fun b => decode b 23) cd_163).trans dX8_struck_23
theorem e163_25 : decode (ma_cd 163) 25 = .ok (.iload_n 1, 1) := (congrArg (fun b => decode b 25) cd_163).trans dX8_struck_25
theorem e163_26 : decode (ma_cd 163) 26 = .ok (.iadd, 1) := (congrArg (fun b => decode b 26) cd_163).trans dX8_struck_26
theorem e163_27 : decode (ma_cd 163) 27 = .ok (.iaload, 1) := (congrArg (fun b => decode b 27) cd_163).trans dX8_struck_27
theorem e163_28 : decode (ma_cd 163) 28 = .ok (.iadd, 1) := (congrArg (fun b => decode b 28) cd_163).trans dX8_struck_28
theorem e163_29 : decode (ma_cd 163) 29 = .ok (.iaload, 1) := (congrArg (fun b => decode b 29) cd_163).trans dX8_struck_29
theorem e163_30 : decode (ma_cd 163) 30 = .ok (.aload_n 0, 1) := (congrArg (fun b => decode b 30) cd_163).trans dX8_struck_30
theorem e163_31 : decode (ma_cd 163) 31 = .ok (.getfield 9, 3) := (congrArg (fun b => decode b 31) cd_163).trans dX8_struck_31
theorem e163_34 : decode (ma_cd 163) 34 = .ok (.bipush 115, 2) := (congrArg (fun b => decode b 34) cd_163).trans dX8_struck_34
theorem e163_36 : decode (ma_cd 163) 36 = .ok (.iload_n 1, 1) := (congrArg (fun b => decode b 36) cd_163).trans dX8_struck_36
theorem e163_37 : decode (ma_cd 163) 37 = .ok (.iadd, 1) := (congrArg (fun b => decode b 37) cd_163).trans dX8_struck_37
theorem e163_38 : decode (ma_cd 163) 38 = .ok (.iaload, 1) := (congrArg (fun b => decode b 38) cd_163).trans dX8_struck_38
theorem e163_39 : decode (ma_cd 163) 39 = .ok (.if_icmp .eq 5, 3) := (congrArg (fun b => decode b 39) cd_163).trans dX8_struck_39
theorem e163_42 : decode (ma_cd 163) 42 = .ok (.iload_n 1, 1) := (congrArg (fun b => decode b 42) cd_163).trans dX8_struck_42
theorem e163_43 : decode (ma_cd 163) 43 = .ok (.ireturn, 1) := (congrArg (fun b => decode b 43) cd_163).trans dX8_struck_43
theorem e163_44 : decode (ma_cd 163) 44 = .ok (.iinc 1 1, 3) := (congrArg (fun b => decode b 44) cd_163).trans dX8_struck_44
theorem e163_47 : decode (ma_cd 163) 47 = .ok (.goto (-45), 3) := (congrArg (fun b => decode b 47) cd_163).trans dX8_struck_47
theorem e163_50 : decode (ma_cd 163) 50 = .ok (.bipush (-5), 2) := (congrArg (fun b => decode b 50) cd_163).trans dX8_struck_50
theorem e163_52 : decode (ma_cd 163) 52 = .ok (.ireturn, 1) := (congrArg (fun b => decode b 52) cd_163).trans dX8_struck_52
theorem Sh163_2 {ro : ma_RO} {d : Nat} : (∀ (v0 : Option Value) (x1 : Int32) (st : List Value) (σ : ma_H), ma_rn ro d 163 (2, [v0, some (.int x1)], st, SH, σ) = ma_rn ro d 163 (3, [v0, some (.int x1)], .int x1 :: st, SH, σ)) := fun v0 x1 st σ => q_go e163_2 rfl rfl
theorem S163 {ro : ma_RO} {d : Nat} : (∀ (v0 : Option Value) (v1 : Option Value) (st : List Value) (σ : ma_H), ma_rn ro d 163 (0, [v0, v1], st, SH, σ) = ma_rn ro d 163 (1, [v0, v1], .int (nI 0) :: st, SH, σ)) ∧
  (∀ (v1 : Option Value) (a9 : Nat) (x1 : Int32) (st : List Value) (σ : ma_H), ma_rn ro d 163 (1, [some (.ref a9), v1], .int x1 :: st, SH, σ) = ma_rn ro d 163 (2, [some (.ref a9), some (.int x1)], st, SH, σ)) ∧
  (∀ (v1 : Option Value) (a1 : Nat) (st : List Value) (σ : ma_H), ma_rn ro d 163 (3, [some (.ref a1), v1], st, SH, σ) = ma_rn ro d 163 (4, [some (.ref a1), v1], .ref a1 :: st, SH, σ)) ∧
  (∀ (v0 : Option Value) (v1 : Option Value) (a1 : Nat) (st : List Value) (σ : ma_H) (hc : hk_cls a1 = 8), ma_rn ro d 163 (4, [v0, v1], .ref a1 :: st, SH, σ) = ma_rn ro d 163 (7, [v0, v1], .ref (91) :: st, SH, σ)) ∧
  (∀ (v0 : Option Value) (v1 : Option Value) (st : List Value) (σ : ma_H), ma_rn ro d 163 (7, [v0, v1], st, SH, σ) = ma_rn ro d 163 (9, [v0, v1], .int (nI 37) :: st, SH, σ)) ∧
  (∀ (v0 : Option Value) (v1 : Option Value) (k : Nat) (a2 : Nat) (st : List Value) (σ : ma_H) (hk : k < hk_len a2), ma_rn ro d 163 (9, [v0, v1], .int (nI k) :: .ref a2 :: st, SH, σ) = ma_rn ro d 163 (10, [v0, v1], .int (σ a2 k) :: st, SH, σ)) ∧
  (∀ (v0 : Option Value) (v1 : Option Value) (x1 : Int32) (x2 : Int32) (st : List Value) (σ : ma_H), ma_rn ro d 163 (10, [v0, v1], .int x1 :: .int x2 :: st, SH, σ) = if x2 < x1 then ma_rn ro d 163 (13, [v0, v1], st, SH, σ) else ma_rn ro d 163 (50, [v0, v1], st, SH, σ)) ∧
  (∀ (v1 : Option Value) (a1 : Nat) (st : List Value) (σ : ma_H), ma_rn ro d 163 (13, [some (.ref a1), v1], st, SH, σ) = ma_rn ro d 163 (14, [some (.ref a1), v1], .ref a1 :: st, SH, σ)) ∧
  (∀ (v0 : Option Value) (v1 : Option Value) (a1 : Nat) (st : List Value) (σ : ma_H) (hc : hk_cls a1 = 8), ma_rn ro d 163 (14, [v0, v1], .ref a1 :: st, SH, σ) = ma_rn ro d 163 (17, [v0, v1], .ref (91) :: st, SH, σ)) ∧
  (∀ (v0 : Option Value) (v1 : Option Value) (st : List Value) (σ : ma_H), ma_rn ro d 163 (17, [v0, v1], st, SH, σ) = ma_rn ro d 163 (19, [v0, v1], .int (nI 9) :: st, SH, σ)) ∧
  (∀ (v1 : Option Value) (a1 : Nat) (st : List Value) (σ : ma_H), ma_rn ro d 163 (19, [some (.ref a1), v1], st, SH, σ) = ma_rn ro d 163 (20, [some (.ref a1), v1], .ref a1 :: st, SH, σ)) ∧
  (∀ (v0 : Option Value) (v1 : Option Value) (a1 : Nat) (st : List Value) (σ : ma_H) (hc : hk_cls a1 = 8), ma_rn ro d 163 (20, [v0, v1], .ref a1 :: st, SH, σ) = ma_rn ro d 163 (23, [v0, v1], .ref (91) :: st, SH, σ)) ∧
  (∀ (v0 : Option Value) (v1 : Option Value) (st : List Value) (σ : ma_H), ma_rn ro d 163 (23, [v0, v1], st, SH, σ) = ma_rn ro d 163 (25, [v0, v1], .int (nI 107) :: st, SH, σ)) ∧
  (∀ (v0 : Option Value) (x1 : Int32) (st : List Value) (σ : ma_H), ma_rn ro d 163 (25, [v0, some (.int x1)], st, SH, σ) = ma_rn ro d 163 (26, [v0, some (.int x1)], .int x1 :: st, SH, σ)) ∧
  (∀ (v0 : Option Value) (v1 : Option Value) (x1 : Int32) (x2 : Int32) (st : List Value) (σ : ma_H), ma_rn ro d 163 (26, [v0, v1], .int x1 :: .int x2 :: st, SH, σ) = ma_rn ro d 163 (27, [v0, v1], .int (x2 + x1) :: st, SH, σ)) ∧
  (∀ (v0 : Option Value) (v1 : Option Value) (k : Nat) (a2 : Nat) (st : List Value) (σ : ma_H) (hk : k < hk_len a2), ma_rn ro d 163 (27, [v0, v1], .int (nI k) :: .ref a2 :: st, SH, σ) = ma_rn ro d 163 (28, [v0, v1], .int (σ a2 k) :: st, SH, σ)) ∧
  (∀ (v0 : Option Value) (v1 : Option Value) (x1 : Int32) (x2 : Int32) (st : List Value) (σ : ma_H), ma_rn ro d 163 (28, [v0, v1], .int x1 :: .int x2 :: st, SH, σ) = ma_rn ro d 163 (29, [v0, v1], .int (x2 + x1) :: st, SH, σ)) ∧
  (∀ (v0 : Option Value) (v1 : Option Value) (k : Nat) (a2 : Nat) (st : List Value) (σ : ma_H) (hk : k < hk_len a2), ma_rn ro d 163 (29, [v0, v1], .int (nI k) :: .ref a2 :: st, SH, σ) = ma_rn ro d 163 (30, [v0, v1], .int (σ a2 k) :: st, SH, σ)) ∧
  (∀ (v1 : Option Value) (a1 : Nat) (st : List Value) (σ : ma_H), ma_rn ro d 163 (30, [some (.ref a1), v1], st, SH, σ) = ma_rn ro d 163 (31, [some (.ref a1), v1], .ref a1 :: st, SH, σ)) ∧
  (∀ (v0 : Option Value) (v1 : Option Value) (a1 : Nat) (st : List Value) (σ : ma_H) (hc : hk_cls a1 = 8), ma_rn ro d 163 (31, [v0, v1], .ref a1 :: st, SH, σ) = ma_rn ro d 163 (34, [v0, v1], .ref (91) :: st, SH, σ)) ∧
  (∀ (v0 : Option Value) (v1 : Option Value) (st : List Value) (σ : ma_H), ma_rn ro d 163 (34, [v0, v1], st, SH, σ) = ma_rn ro d 163 (36, [v0, v1], .int (nI 115) :: st, SH, σ)) ∧
  (∀ (v0 : Option Value) (x1 : Int32) (st : List Value) (σ : ma_H), ma_rn ro d 163 (36, [v0, some (.int x1)], st, SH, σ) = ma_rn ro d 163 (37, [v0, some (.int x1)], .int x1 :: st, SH, σ)) ∧
  (∀ (v0 : Option Value) (v1 : Option Value) (x1 : Int32) (x2 : Int32) (st : List Value) (σ : ma_H), ma_rn ro d 163 (37, [v0, v1], .int x1 :: .int x2 :: st, SH, σ) = ma_rn ro d 163 (38, [v0, v1], .int (x2 + x1) :: st, SH, σ)) ∧
  (∀ (v0 : Option Value) (v1 : Option Value) (k : Nat) (a2 : Nat) (st : List Value) (σ : ma_H) (hk : k < hk_len a2), ma_rn ro d 163 (38, [v0, v1], .int (nI k) :: .ref a2 :: st, SH, σ) = ma_rn ro d 163 (39, [v0, v1], .int (σ a2 k) :: st, SH, σ)) ∧
  (∀ (v0 : Option Value) (v1 : Option Value) (x1 : Int32) (x2 : Int32) (st : List Value) (σ : ma_H), ma_rn ro d 163 (39, [v0, v1], .int x1 :: .int x2 :: st, SH, σ) = if x2 = x1 then ma_rn ro d 163 (44, [v0, v1], st, SH, σ) else ma_rn ro d 163 (42, [v0, v1], st, SH, σ)) ∧
  (∀ (v0 : Option Value) (x1 : Int32) (st : List Value) (σ : ma_H), ma_rn ro d 163 (42, [v0, some (.int x1)], st, SH, σ) = ma_rn ro d 163 (43, [v0, some (.int x1)], .int x1 :: st, SH, σ)) ∧
  (∀ (v0 : Option Value) (v1 : Option Value) (x1 : Int32) (σ : ma_H), ma_rn ro d 163 (43, [v0, v1], [.int x1], SH, σ) = some (some (.int x1), SH, σ)) ∧
  (∀ (x1 : Int32) (a9 : Nat) (st : List Value) (σ : ma_H), ma_rn ro d 163 (44, [some (.ref a9), some (.int x1)], st, SH, σ) = ma_rn ro d 163 (47, [some (.ref a9), some (.int (x1 + nI 1))], st, SH, σ)) ∧
  (∀ (v0 : Option Value) (v1 : Option Value) (st : List Value) (σ : ma_H), ma_rn ro d 163 (47, [v0, v1], st, SH, σ) = ma_rn ro d 163 (2, [v0, v1], st, SH, σ)) ∧
  (∀ (v0 : Option Value) (v1 : Option Value) (st : List Value) (σ : ma_H), ma_rn ro d 163 (50, [v0, v1], st, SH, σ) = ma_rn ro d 163 (52, [v0, v1], .int ((-5)) :: st, SH, σ)) ∧
  (∀ (v0 : Option Value) (v1 : Option Value) (x1 : Int32) (σ : ma_H), ma_rn ro d 163 (52, [v0, v1], [.int x1], SH, σ) = some (some (.int x1), SH, σ)) := ⟨fun v0 v1 st σ => q_iconst e163_0 (by decide),
  fun v1 a9 x1 st σ => q_go e163_1 rfl rfl,
  fun v1 a1 st σ => q_go e163_3 rfl rfl,
  fun v0 v1 a1 st σ hc => q_getA e163_4 o_163 f_8_9 (by decide) hc,
  fun v0 v1 st σ => q_bipush e163_7 (by decide),
  fun v0 v1 k a2 st σ hk => q_iald e163_9 hk,
  fun v0 v1 x1 x2 st σ => (q_cmp e163_10 rfl).trans q_nlt,
  fun v1 a1 st σ => q_go e163_13 rfl rfl,
  fun v0 v1 a1 st σ hc => q_getA e163_14 o_163 f_8_9 (by decide) hc,
  fun v0 v1 st σ => q_bipush e163_17 (by decide),
  fun v1 a1 st σ => q_go e163_19 rfl rfl,
  fun v0 v1 a1 st σ hc => q_getA e163_20 o_163 f_8_9 (by decide) hc,
  fun v0 v1 st σ => q_bipush e163_23 (by decide),
  fun v0 x1 st σ => q_go e163_25 rfl rfl,
  fun v0 v1 x1 x2 st σ => q_go e163_26 rfl rfl,
  fun v0 v1 k a2 st σ hk => q_iald e163_27 hk,
  fun v0 v1 x1 x2 st σ => q_go e163_28 rfl rfl,
  fun v0 v1 k a2 st σ hk => q_iald e163_29 hk,
  fun v1 a1 st σ => q_go e163_30 rfl rfl,
  fun v0 v1 a1 st σ hc => q_getA e163_31 o_163 f_8_9 (by decide) hc,
  fun v0 v1 st σ => q_bipush e163_34 (by decide),
  fun v0 x1 st σ => q_go e163_36 rfl rfl,
  fun v0 v1 x1 x2 st σ => q_go e163_37 rfl rfl,
  fun v0 v1 k a2 st σ hk => q_iald e163_38 hk,
  fun v0 v1 x1 x2 st σ => (q_cmp e163_39 rfl).trans q_eq,
  fun v0 x1 st σ => q_go e163_42 rfl rfl,
  fun v0 v1 x1 σ => q_iret e163_43 r_163,
  fun x1 a9 st σ => q_iinc e163_44 rfl rfl (by decide),
  fun v0 v1 st σ => q_goto e163_47 rfl,
  fun v0 v1 st σ => q_bipush e163_50 (by decide),
  fun v0 v1 x1 σ => q_iret e163_52 r_163⟩
theorem E163 {ro : ma_RO} {d : Nat} (a0 : Nat) (sh : List ma_Sh) (σ : ma_H) : ma_ev ro d 163 [.ref a0] sh σ = ma_rn ro d 163 (0, [some (.ref a0), none], [], sh, σ) := q_ent x_163 rfl
theorem e164_0 : decode (ma_cd 164) 0 = .ok (.aload_n 0, 1) := (congrArg (fun b => decode b 0) cd_164).trans dX8_ranBody_0
theorem e164_1 : decode (ma_cd 164) 1 = .ok (.getfield 204, 3) := (congrArg (fun b => decode b 1) cd_164).trans dX8_ranBody_1
theorem e164_4 : decode (ma_cd 164) 4 = .ok (.bipush 20, 2) := (congrArg (fun b => decode b 4) cd_164).trans dX8_ranBody_4
theorem e164_6 : decode (ma_cd 164) 6 = .ok (.if_icmp .ge 13, 3) := (congrArg (fun b => decode b 6) cd_164).trans dX8_ranBody_6
theorem e164_9 : decode (ma_cd 164) 9 = .ok (.aload_n 0, 1) := (congrArg (fun b => decode b 9) cd_164).trans dX8_ranBody_9
theorem e164_10 : decode (ma_cd 164) 10 = .ok (.getfield 28, 3) := (congrArg (fun b => decode b 10) cd_164).trans dX8_ranBody_10
theorem e164_13 : decode (ma_cd 164) 13 = .ok (.aload_n 0, 1) := (congrArg (fun b => decode b 13) cd_164).trans dX8_ranBody_13
theorem e164_14 : decode (ma_cd 164) 14 = .ok (.getfield 204, 3) := (congrArg (fun b => decode b 14) cd_164).trans dX8_ranBody_14
theorem e164_17 : decode (ma_cd 164) 17 = .ok (.iload_n 1, 1) := (congrArg (fun b => decode b 17) cd_164).trans dX8_ranBody_17
theorem e164_18 : decode (ma_cd 164) 18 = .ok (.iastore, 1) := (congrArg (fun b => decode b 18) cd_164).trans dX8_ranBody_18
theorem e164_19 : decode (ma_cd 164) 19 = .ok (.aload_n 0, 1) := (congrArg (fun b => decode b 19) cd_164).trans dX8_ranBody_19
theorem e164_20 : decode (ma_cd 164) 20 = .ok (.dup, 1) := (congrArg (fun b => decode b 20) cd_164).trans dX8_ranBody_20
theorem e164_21 : decode (ma_cd 164) 21 = .ok (.getfield 204, 3) := (congrArg (fun b => decode b 21) cd_164).trans dX8_ranBody_21
theorem e164_24 : decode (ma_cd 164) 24 = .ok (.iconst 1, 1) := (congrArg (fun b => decode b 24) cd_164).trans dX8_ranBody_24
theorem e164_25 : decode (ma_cd 164) 25 = .ok (.iadd, 1) := (congrArg (fun b => decode b 25) cd_164).trans dX8_ranBody_25
theorem e164_26 : decode (ma_cd 164) 26 = .ok (.putfield 204, 3) := (congrArg (fun b => decode b 26) cd_164).trans dX8_ranBody_26
theorem e164_29 : decode (ma_cd 164) 29 = .ok (.return_, 1) := (congrArg (fun b => decode b 29) cd_164).trans dX8_ranBody_29
theorem S164 {ro : ma_RO} {d : Nat} : (∀ (v1 : Option Value) (a1 : Nat) (st : List Value) (σ : ma_H), ma_rn ro d 164 (0, [some (.ref a1), v1], st, SH, σ) = ma_rn ro d 164 (1, [some (.ref a1), v1], .ref a1 :: st, SH, σ)) ∧
  (∀ (v0 : Option Value) (v1 : Option Value) (a1 : Nat) (st : List Value) (σ : ma_H) (hc : hk_cls a1 = 8), ma_rn ro d 164 (1, [v0, v1], .ref a1 :: st, SH, σ) = ma_rn ro d 164 (4, [v0, v1], .int (σ a1 13) :: st, SH, σ)) ∧
  (∀ (v0 : Option Value) (v1 : Option Value) (st : List Value) (σ : ma_H), ma_rn ro d 164 (4, [v0, v1], st, SH, σ) = ma_rn ro d 164 (6, [v0, v1], .int (nI 20) :: st, SH, σ)) ∧
  (∀ (v0 : Option Value) (v1 : Option Value) (x1 : Int32) (x2 : Int32) (st : List Value) (σ : ma_H), ma_rn ro d 164 (6, [v0, v1], .int x1 :: .int x2 :: st, SH, σ) = if x2 < x1 then ma_rn ro d 164 (9, [v0, v1], st, SH, σ) else ma_rn ro d 164 (19, [v0, v1], st, SH, σ)) ∧
  (∀ (v1 : Option Value) (a1 : Nat) (st : List Value) (σ : ma_H), ma_rn ro d 164 (9, [some (.ref a1), v1], st, SH, σ) = ma_rn ro d 164 (10, [some (.ref a1), v1], .ref a1 :: st, SH, σ)) ∧
  (∀ (v0 : Option Value) (v1 : Option Value) (a1 : Nat) (st : List Value) (σ : ma_H) (hc : hk_cls a1 = 8), ma_rn ro d 164 (10, [v0, v1], .ref a1 :: st, SH, σ) = ma_rn ro d 164 (13, [v0, v1], .ref (96) :: st, SH, σ)) ∧
  (∀ (v1 : Option Value) (a1 : Nat) (st : List Value) (σ : ma_H), ma_rn ro d 164 (13, [some (.ref a1), v1], st, SH, σ) = ma_rn ro d 164 (14, [some (.ref a1), v1], .ref a1 :: st, SH, σ)) ∧
  (∀ (v0 : Option Value) (v1 : Option Value) (a1 : Nat) (st : List Value) (σ : ma_H) (hc : hk_cls a1 = 8), ma_rn ro d 164 (14, [v0, v1], .ref a1 :: st, SH, σ) = ma_rn ro d 164 (17, [v0, v1], .int (σ a1 13) :: st, SH, σ)) ∧
  (∀ (v0 : Option Value) (x1 : Int32) (st : List Value) (σ : ma_H), ma_rn ro d 164 (17, [v0, some (.int x1)], st, SH, σ) = ma_rn ro d 164 (18, [v0, some (.int x1)], .int x1 :: st, SH, σ)) ∧
  (∀ (v0 : Option Value) (v1 : Option Value) (x1 : Int32) (k : Nat) (a3 : Nat) (st : List Value) (σ : ma_H) (hk : k < hk_len a3), ma_rn ro d 164 (18, [v0, v1], .int x1 :: .int (nI k) :: .ref a3 :: st, SH, σ) = ma_rn ro d 164 (19, [v0, v1], st, SH, (ma_up σ a3 k x1))) ∧
  (∀ (v1 : Option Value) (a1 : Nat) (st : List Value) (σ : ma_H), ma_rn ro d 164 (19, [some (.ref a1), v1], st, SH, σ) = ma_rn ro d 164 (20, [some (.ref a1), v1], .ref a1 :: st, SH, σ)) ∧
  (∀ (v0 : Option Value) (v1 : Option Value) (a1 : Nat) (st : List Value) (σ : ma_H), ma_rn ro d 164 (20, [v0, v1], .ref a1 :: st, SH, σ) = ma_rn ro d 164 (21, [v0, v1], .ref a1 :: .ref a1 :: st, SH, σ)) ∧
  (∀ (v0 : Option Value) (v1 : Option Value) (a1 : Nat) (st : List Value) (σ : ma_H) (hc : hk_cls a1 = 8), ma_rn ro d 164 (21, [v0, v1], .ref a1 :: st, SH, σ) = ma_rn ro d 164 (24, [v0, v1], .int (σ a1 13) :: st, SH, σ)) ∧
  (∀ (v0 : Option Value) (v1 : Option Value) (st : List Value) (σ : ma_H), ma_rn ro d 164 (24, [v0, v1], st, SH, σ) = ma_rn ro d 164 (25, [v0, v1], .int (nI 1) :: st, SH, σ)) ∧
  (∀ (v0 : Option Value) (v1 : Option Value) (x1 : Int32) (x2 : Int32) (st : List Value) (σ : ma_H), ma_rn ro d 164 (25, [v0, v1], .int x1 :: .int x2 :: st, SH, σ) = ma_rn ro d 164 (26, [v0, v1], .int (x2 + x1) :: st, SH, σ)) ∧
  (∀ (v0 : Option Value) (v1 : Option Value) (x1 : Int32) (a2 : Nat) (st : List Value) (σ : ma_H) (hc : hk_cls a2 = 8), ma_rn ro d 164 (26, [v0, v1], .int x1 :: .ref a2 :: st, SH, σ) = ma_rn ro d 164 (29, [v0, v1], st, SH, (ma_up σ a2 13 x1))) ∧
  (∀ (v0 : Option Value) (v1 : Option Value) (σ : ma_H), ma_rn ro d 164 (29, [v0, v1], [], SH, σ) = some (none, SH, σ)) := ⟨fun v1 a1 st σ => q_go e164_0 rfl rfl,
  fun v0 v1 a1 st σ hc => q_getI e164_1 o_164 f_8_204 (by decide) hc,
  fun v0 v1 st σ => q_bipush e164_4 (by decide),
  fun v0 v1 x1 x2 st σ => (q_cmp e164_6 rfl).trans q_nlt,
  fun v1 a1 st σ => q_go e164_9 rfl rfl,
  fun v0 v1 a1 st σ hc => q_getA e164_10 o_164 f_8_28 (by decide) hc,
  fun v1 a1 st σ => q_go e164_13 rfl rfl,
  fun v0 v1 a1 st σ hc => q_getI e164_14 o_164 f_8_204 (by decide) hc,
  fun v0 x1 st σ => q_go e164_17 rfl rfl,
  fun v0 v1 x1 k a3 st σ hk => q_iast e164_18 hk,
  fun v1 a1 st σ => q_go e164_19 rfl rfl,
  fun v0 v1 a1 st σ => q_go e164_20 rfl rfl,
  fun v0 v1 a1 st σ hc => q_getI e164_21 o_164 f_8_204 (by decide) hc,
  fun v0 v1 st σ => q_iconst e164_24 (by decide),
  fun v0 v1 x1 x2 st σ => q_go e164_25 rfl rfl,
  fun v0 v1 x1 a2 st σ hc => q_putI e164_26 o_164 f_8_204 (by decide) rfl hc,
  fun v0 v1 σ => q_vret e164_29 r_164⟩
theorem E164 {ro : ma_RO} {d : Nat} (a0 : Nat) (x1 : Int32) (sh : List ma_Sh) (σ : ma_H) : ma_ev ro d 164 [.ref a0, .int x1] sh σ = ma_rn ro d 164 (0, [some (.ref a0), some (.int x1)], [], sh, σ) := q_ent x_164 rfl
theorem e165_0 : decode (ma_cd 165) 0 = .ok (.iload_n 1, 1) := (congrArg (fun b => decode b 0) cd_165).trans dX8_isUnder_0
theorem e165_1 : decode (ma_cd 165) 1 = .ok (.ifCond .eq 24, 3) := (congrArg (fun b => decode b 1) cd_165).trans dX8_isUnder_1
theorem e165_4 : decode (ma_cd 165) 4 = .ok (.iload_n 1, 1) := (congrArg (fun b => decode b 4) cd_165).trans dX8_isUnder_4
theorem e165_5 : decode (ma_cd 165) 5 = .ok (.iload_n 0, 1) := (congrArg (fun b => decode b 5) cd_165).trans dX8_isUnder_5
theorem e165_6 : decode (ma_cd 165) 6 = .ok (.if_icmp .eq 19, 3) := (congrArg (fun b => decode b 6) cd_165).trans dX8_isUnder_6
theorem e165_9 : decode (ma_cd 165) 9 = .ok (.iload_n 1, 1) := (congrArg (fun b => decode b 9) cd_165).trans dX8_isUnder_9
theorem e165_10 : decode (ma_cd 165) 10 = .ok (.ifCond .le 19, 3) := (congrArg (fun b => decode b 10) cd_165).trans dX8_isUnder_10
theorem e165_13 : decode (ma_cd 165) 13 = .ok (.iload_n 1, 1) := (congrArg (fun b => decode b 13) cd_165).trans dX8_isUnder_13
theorem e165_14 : decode (ma_cd 165) 14 = .ok (.iconst 4, 1) := (congrArg (fun b => decode b 14) cd_165).trans dX8_isUnder_14
theorem e165_15 : decode (ma_cd 165) 15 = .ok (.if_icmp .ge 14, 3) := (congrArg (fun b => decode b 15) cd_165).trans dX8_isUnder_15
theorem e165_18 : decode (ma_cd 165) 18 = .ok (.iload_n 0, 1) := (congrArg (fun b => decode b 18) cd_165).trans dX8_isUnder_18
theorem e165_19 : decode (ma_cd 165) 19 = .ok (.iload_n 1, 1) := (congrArg (fun b => decode b 19) cd_165).trans dX8_isUnder_19
theorem e165_20 : decode (ma_cd 165) 20 = .ok (.iconst 3, 1) := (congrArg (fun b => decode b 20) cd_165).trans dX8_isUnder_20
theorem e165_21 : decode (ma_cd 165) 21 = .ok (.iadd, 1) := (congrArg (fun b => decode b 21) cd_165).trans dX8_isUnder_21
theorem e165_22 : decode (ma_cd 165) 22 = .ok (.if_icmp .ne 7, 3) := (congrArg (fun b => decode b 22) cd_165).trans dX8_isUnder_22
theorem e165_25 : decode (ma_cd 165) 25 = .ok (.iconst 1, 1) := (congrArg (fun b => decode b 25) cd_165).trans dX8_isUnder_25
theorem e165_26 : decode (ma_cd 165) 26 = .ok (.goto 4, 3) := (congrArg (fun b => decode b 26) cd_165).trans dX8_isUnder_26
theorem e165_29 : decode (ma_cd 165) 29 = .ok (.iconst 0, 1) := (congrArg (fun b => decode b 29) cd_165).trans dX8_isUnder_29
theorem e165_30 : decode (ma_cd 165) 30 = .ok (.ireturn, 1) := (congrArg (fun b => decode b 30) cd_165).trans dX8_isUnder_30
theorem S165 {ro : ma_RO} {d : Nat} : (∀ (v0 : Option Value) (x1 : Int32) (st : List Value) (σ : ma_H), ma_rn ro d 165 (0, [v0, some (.int x1)], st, SH, σ) = ma_rn ro d 165 (1, [v0, some (.int x1)], .int x1 :: st, SH, σ)) ∧
  (∀ (v0 : Option Value) (v1 : Option Value) (x1 : Int32) (st : List Value) (σ : ma_H), ma_rn ro d 165 (1, [v0, v1], .int x1 :: st, SH, σ) = if x1 = nI 0 then ma_rn ro d 165 (25, [v0, v1], st, SH, σ) else ma_rn ro d 165 (4, [v0, v1], st, SH, σ)) ∧
  (∀ (v0 : Option Value) (x1 : Int32) (st : List Value) (σ : ma_H), ma_rn ro d 165 (4, [v0, some (.int x1)], st, SH, σ) = ma_rn ro d 165 (5, [v0, some (.int x1)], .int x1 :: st, SH, σ)) ∧
  (∀ (v1 : Option Value) (x1 : Int32) (st : List Value) (σ : ma_H), ma_rn ro d 165 (5, [some (.int x1), v1], st, SH, σ) = ma_rn ro d 165 (6, [some (.int x1), v1], .int x1 :: st, SH, σ)) ∧
  (∀ (v0 : Option Value) (v1 : Option Value) (x1 : Int32) (x2 : Int32) (st : List Value) (σ : ma_H), ma_rn ro d 165 (6, [v0, v1], .int x1 :: .int x2 :: st, SH, σ) = if x2 = x1 then ma_rn ro d 165 (25, [v0, v1], st, SH, σ) else ma_rn ro d 165 (9, [v0, v1], st, SH, σ)) ∧
  (∀ (v0 : Option Value) (x1 : Int32) (st : List Value) (σ : ma_H), ma_rn ro d 165 (9, [v0, some (.int x1)], st, SH, σ) = ma_rn ro d 165 (10, [v0, some (.int x1)], .int x1 :: st, SH, σ)) ∧
  (∀ (v0 : Option Value) (v1 : Option Value) (x1 : Int32) (st : List Value) (σ : ma_H), ma_rn ro d 165 (10, [v0, v1], .int x1 :: st, SH, σ) = if nI 0 < x1 then ma_rn ro d 165 (13, [v0, v1], st, SH, σ) else ma_rn ro d 165 (29, [v0, v1], st, SH, σ)) ∧
  (∀ (v0 : Option Value) (x1 : Int32) (st : List Value) (σ : ma_H), ma_rn ro d 165 (13, [v0, some (.int x1)], st, SH, σ) = ma_rn ro d 165 (14, [v0, some (.int x1)], .int x1 :: st, SH, σ)) ∧
  (∀ (v0 : Option Value) (v1 : Option Value) (st : List Value) (σ : ma_H), ma_rn ro d 165 (14, [v0, v1], st, SH, σ) = ma_rn ro d 165 (15, [v0, v1], .int (nI 4) :: st, SH, σ)) ∧
  (∀ (v0 : Option Value) (v1 : Option Value) (x1 : Int32) (x2 : Int32) (st : List Value) (σ : ma_H), ma_rn ro d 165 (15, [v0, v1], .int x1 :: .int x2 :: st, SH, σ) = if x2 < x1 then ma_rn ro d 165 (18, [v0, v1], st, SH, σ) else ma_rn ro d 165 (29, [v0, v1], st, SH, σ)) ∧
  (∀ (v1 : Option Value) (x1 : Int32) (st : List Value) (σ : ma_H), ma_rn ro d 165 (18, [some (.int x1), v1], st, SH, σ) = ma_rn ro d 165 (19, [some (.int x1), v1], .int x1 :: st, SH, σ)) ∧
  (∀ (v0 : Option Value) (x1 : Int32) (st : List Value) (σ : ma_H), ma_rn ro d 165 (19, [v0, some (.int x1)], st, SH, σ) = ma_rn ro d 165 (20, [v0, some (.int x1)], .int x1 :: st, SH, σ)) ∧
  (∀ (v0 : Option Value) (v1 : Option Value) (st : List Value) (σ : ma_H), ma_rn ro d 165 (20, [v0, v1], st, SH, σ) = ma_rn ro d 165 (21, [v0, v1], .int (nI 3) :: st, SH, σ)) ∧
  (∀ (v0 : Option Value) (v1 : Option Value) (x1 : Int32) (x2 : Int32) (st : List Value) (σ : ma_H), ma_rn ro d 165 (21, [v0, v1], .int x1 :: .int x2 :: st, SH, σ) = ma_rn ro d 165 (22, [v0, v1], .int (x2 + x1) :: st, SH, σ)) ∧
  (∀ (v0 : Option Value) (v1 : Option Value) (x1 : Int32) (x2 : Int32) (st : List Value) (σ : ma_H), ma_rn ro d 165 (22, [v0, v1], .int x1 :: .int x2 :: st, SH, σ) = if x2 = x1 then ma_rn ro d 165 (25, [v0, v1], st, SH, σ) else ma_rn ro d 165 (29, [v0, v1], st, SH, σ)) ∧
  (∀ (v0 : Option Value) (v1 : Option Value) (st : List Value) (σ : ma_H), ma_rn ro d 165 (25, [v0, v1], st, SH, σ) = ma_rn ro d 165 (26, [v0, v1], .int (nI 1) :: st, SH, σ)) ∧
  (∀ (v0 : Option Value) (v1 : Option Value) (st : List Value) (σ : ma_H), ma_rn ro d 165 (26, [v0, v1], st, SH, σ) = ma_rn ro d 165 (30, [v0, v1], st, SH, σ)) ∧
  (∀ (v0 : Option Value) (v1 : Option Value) (st : List Value) (σ : ma_H), ma_rn ro d 165 (29, [v0, v1], st, SH, σ) = ma_rn ro d 165 (30, [v0, v1], .int (nI 0) :: st, SH, σ)) ∧
  (∀ (v0 : Option Value) (v1 : Option Value) (x1 : Int32) (σ : ma_H) (hx : ma_fitI .boolean x1 = true), ma_rn ro d 165 (30, [v0, v1], [.int x1], SH, σ) = some (some (.int x1), SH, σ)) := ⟨fun v0 x1 st σ => q_go e165_0 rfl rfl,
  fun v0 v1 x1 st σ => (q_if e165_1 rfl).trans q_eq,
  fun v0 x1 st σ => q_go e165_4 rfl rfl,
  fun v1 x1 st σ => q_go e165_5 rfl rfl,
  fun v0 v1 x1 x2 st σ => (q_cmp e165_6 rfl).trans q_eq,
  fun v0 x1 st σ => q_go e165_9 rfl rfl,
  fun v0 v1 x1 st σ => (q_if e165_10 rfl).trans q_ngt,
  fun v0 x1 st σ => q_go e165_13 rfl rfl,
  fun v0 v1 st σ => q_iconst e165_14 (by decide),
  fun v0 v1 x1 x2 st σ => (q_cmp e165_15 rfl).trans q_nlt,
  fun v1 x1 st σ => q_go e165_18 rfl rfl,
  fun v0 x1 st σ => q_go e165_19 rfl rfl,
  fun v0 v1 st σ => q_iconst e165_20 (by decide),
  fun v0 v1 x1 x2 st σ => q_go e165_21 rfl rfl,
  fun v0 v1 x1 x2 st σ => (q_cmp e165_22 rfl).trans q_ne,
  fun v0 v1 st σ => q_iconst e165_25 (by decide),
  fun v0 v1 st σ => q_goto e165_26 rfl,
  fun v0 v1 st σ => q_iconst e165_29 (by decide),
  fun v0 v1 x1 σ hx => q_zret e165_30 r_165 hx⟩
theorem E165 {ro : ma_RO} {d : Nat} (x1 : Int32) (x2 : Int32) (sh : List ma_Sh) (σ : ma_H) : ma_ev ro d 165 [.int x1, .int x2] sh σ = ma_rn ro d 165 (0, [some (.int x1), some (.int x2)], [], sh, σ) := q_ent x_165 rfl
theorem e166_0 : decode (ma_cd 166) 0 = .ok (.aload_n 0, 1) := (congrArg (fun b => decode b 0) cd_166).trans dX8_plainClicks_0
theorem e166_1 : decode (ma_cd 166) 1 = .ok (.iconst 1, 1) := (congrArg (fun b => decode b 1) cd_166).trans dX8_plainClicks_1
theorem e166_2 : decode (ma_cd 166) 2 = .ok (.invokevirtual 207, 3) := (congrArg (fun b => decode b 2) cd_166).trans dX8_plainClicks_2
theorem e166_5 : decode (ma_cd 166) 5 = .ok (.iload_n 1, 1) := (congrArg (fun b => decode b 5) cd_166).trans dX8_plainClicks_5
theorem e166_6 : decode (ma_cd 166) 6 = .ok (.aload_n 0, 1) := (congrArg (fun b => decode b 6) cd_166).trans dX8_plainClicks_6
theorem e166_7 : decode (ma_cd 166) 7 = .ok (.getfield 210, 3) := (congrArg (fun b => decode b 7) cd_166).trans dX8_plainClicks_7
theorem e166_10 : decode (ma_cd 166) 10 = .ok (.iadd, 1) := (congrArg (fun b => decode b 10) cd_166).trans dX8_plainClicks_10
theorem e166_11 : decode (ma_cd 166) 11 = .ok (.ireturn, 1) := (congrArg (fun b => decode b 11) cd_166).trans dX8_plainClicks_11
theorem S166 {ro : ma_RO} {d : Nat} : (∀ (v1 : Option Value) (a1 : Nat) (st : List Value) (σ : ma_H), ma_rn ro d 166 (0, [some (.ref a1), v1], st, SH, σ) = ma_rn ro d 166 (1, [some (.ref a1), v1], .ref a1 :: st, SH, σ)) ∧
  (∀ (v0 : Option Value) (v1 : Option Value) (st : List Value) (σ : ma_H), ma_rn ro d 166 (1, [v0, v1], st, SH, σ) = ma_rn ro d 166 (2, [v0, v1], .int (nI 1) :: st, SH, σ)) ∧
  (∀ (v0 : Option Value) (v1 : Option Value) (x1 : Int32) (a0 : Nat) (σ : ma_H) (hc : hk_cls a0 = 8), ma_rn ro (d + 1) 166 (2, [v0, v1], .int x1 :: .ref a0 :: [], SH, σ) = (ma_ev ro d 164 [.ref a0, .int x1] SH σ).bind (fun q => ma_rn ro (d + 1) 166 (5, [v0, v1], (q.1.toList ++ []), q.2.1, q.2.2))) ∧
  (∀ (v0 : Option Value) (x1 : Int32) (st : List Value) (σ : ma_H), ma_rn ro d 166 (5, [v0, some (.int x1)], st, SH, σ) = ma_rn ro d 166 (6, [v0, some (.int x1)], .int x1 :: st, SH, σ)) ∧
  (∀ (v1 : Option Value) (a1 : Nat) (st : List Value) (σ : ma_H), ma_rn ro d 166 (6, [some (.ref a1), v1], st, SH, σ) = ma_rn ro d 166 (7, [some (.ref a1), v1], .ref a1 :: st, SH, σ)) ∧
  (∀ (v0 : Option Value) (v1 : Option Value) (a1 : Nat) (st : List Value) (σ : ma_H) (hc : hk_cls a1 = 8), ma_rn ro d 166 (7, [v0, v1], .ref a1 :: st, SH, σ) = ma_rn ro d 166 (10, [v0, v1], .int (σ a1 15) :: st, SH, σ)) ∧
  (∀ (v0 : Option Value) (v1 : Option Value) (x1 : Int32) (x2 : Int32) (st : List Value) (σ : ma_H), ma_rn ro d 166 (10, [v0, v1], .int x1 :: .int x2 :: st, SH, σ) = ma_rn ro d 166 (11, [v0, v1], .int (x2 + x1) :: st, SH, σ)) ∧
  (∀ (v0 : Option Value) (v1 : Option Value) (x1 : Int32) (σ : ma_H), ma_rn ro d 166 (11, [v0, v1], [.int x1], SH, σ) = some (some (.int x1), SH, σ)) := ⟨fun v1 a1 st σ => q_go e166_0 rfl rfl,
  fun v0 v1 st σ => q_iconst e166_1 (by decide),
  fun v0 v1 x1 a0 σ hc => q_invV (as := [.int x1]) (rest := []) e166_2 o_166 bn_8_207 c_8_207 m_164 (by decide) rfl rfl (Nat.le_of_ble_eq_true rfl) (Nat.le_of_ble_eq_true rfl) hc,
  fun v0 x1 st σ => q_go e166_5 rfl rfl,
  fun v1 a1 st σ => q_go e166_6 rfl rfl,
  fun v0 v1 a1 st σ hc => q_getI e166_7 o_166 f_8_210 (by decide) hc,
  fun v0 v1 x1 x2 st σ => q_go e166_10 rfl rfl,
  fun v0 v1 x1 σ => q_iret e166_11 r_166⟩
theorem E166 {ro : ma_RO} {d : Nat} (a0 : Nat) (x1 : Int32) (sh : List ma_Sh) (σ : ma_H) : ma_ev ro d 166 [.ref a0, .int x1] sh σ = ma_rn ro d 166 (0, [some (.ref a0), some (.int x1)], [], sh, σ) := q_ent x_166 rfl
theorem e167_0 : decode (ma_cd 167) 0 = .ok (.aload_n 0, 1) := (congrArg (fun b => decode b 0) cd_167).trans dX8_clicksActs_0
theorem e167_1 : decode (ma_cd 167) 1 = .ok (.getfield 213, 3) := (congrArg (fun b => decode b 1) cd_167).trans dX8_clicksActs_1
theorem e167_4 : decode (ma_cd 167) 4 = .ok (.iconst 1, 1) := (congrArg (fun b => decode b 4) cd_167).trans dX8_clicksActs_4
theorem e167_5 : decode (ma_cd 167) 5 = .ok (.invokestatic 216, 3) := (congrArg (fun b => decode b 5) cd_167).trans dX8_clicksActs_5
theorem e167_8 : decode (ma_cd 167) 8 = .ok (.ifCond .eq 17, 3) := (congrArg (fun b => decode b 8) cd_167).trans dX8_clicksActs_8
theorem e167_11 : decode (ma_cd 167) 11 = .ok (.aload_n 0, 1) := (congrArg (fun b => decode b 11) cd_167).trans dX8_clicksActs_11
theorem e167_12 : decode (ma_cd 167) 12 = .ok (.bipush 11, 2) := (congrArg (fun b => decode b 12) cd_167).trans dX8_clicksActs_12
theorem e167_14 : decode (ma_cd 167) 14 = .ok (.invokevirtual 207, 3) := (congrArg (fun b => decode b 14) cd_167).trans dX8_clicksActs_14
theorem e167_17 : decode (ma_cd 167) 17 = .ok (.aload_n 0, 1) := (congrArg (fun b => decode b 17) cd_167).trans dX8_clicksActs_17
theorem e167_18 : decode (ma_cd 167) 18 = .ok (.iload_n 1, 1) := (congrArg (fun b => decode b 18) cd_167).trans dX8_clicksActs_18
theorem e167_19 : decode (ma_cd 167) 19 = .ok (.iconst 3, 1) := (congrArg (fun b => decode b 19) cd_167).trans dX8_clicksActs_19
theorem e167_20 : decode (ma_cd 167) 20 = .ok (.imul, 1) := (congrArg (fun b => decode b 20) cd_167).trans dX8_clicksActs_20
theorem e167_21 : decode (ma_cd 167) 21 = .ok (.invokevirtual 219, 3) := (congrArg (fun b => decode b 21) cd_167).trans dX8_clicksActs_21
theorem e167_24 : decode (ma_cd 167) 24 = .ok (.ireturn, 1) := (congrArg (fun b => decode b 24) cd_167).trans dX8_clicksActs_24
theorem e167_25 : decode (ma_cd 167) 25 = .ok (.aload_n 0, 1) := (congrArg (fun b => decode b 25) cd_167).trans dX8_clicksActs_25
theorem e167_26 : decode (ma_cd 167) 26 = .ok (.getfield 213, 3) := (congrArg (fun b => decode b 26) cd_167).trans dX8_clicksActs_26
theorem e167_29 : decode (ma_cd 167) 29 = .ok (.iconst 5, 1) := (congrArg (fun b => decode b 29) cd_167).trans dX8_clicksActs_29
theorem e167_30 : decode (ma_cd 167) 30 = .ok (.if_icmp .ne 20, 3) := (congrArg (fun b => decode b 30) cd_167).trans dX8_clicksActs_30
theorem e167_33 : decode (ma_cd 167) 33 = .ok (.aload_n 0, 1) := (congrArg (fun b => decode b 33) cd_167).trans dX8_clicksActs_33
theorem e167_34 : decode (ma_cd 167) 34 = .ok (.bipush 51, 2) := (congrArg (fun b => decode b 34) cd_167).trans dX8_clicksActs_34
theorem e167_36 : decode (ma_cd 167) 36 = .ok (.invokevirtual 207, 3) := (congrArg (fun b => decode b 36) cd_167).trans dX8_clicksActs_36
theorem e167_39 : decode (ma_cd 167) 39 = .ok (.aload_n 0, 1) := (congrArg (fun b => decode b 39) cd_167).trans dX8_clicksActs_39
theorem e167_40 : decode (ma_cd 167) 40 = .ok (.iload_n 1, 1) := (congrArg (fun b => decode b 40) cd_167).trans dX8_clicksActs_40
theorem e167_41 : decode (ma_cd 167) 41 = .ok (.invokevirtual 219, 3) := (congrArg (fun b => decode b 41) cd_167).trans dX8_clicksActs_41
theorem e167_44 : decode (ma_cd 167) 44 = .ok (.aload_n 0, 1) := (congrArg (fun b => decode b 44) cd_167).trans dX8_clicksActs_44
theorem e167_45 : decode (ma_cd 167) 45 = .ok (.getfield 210, 3) := (congrArg (fun b => decode b 45) cd_167).trans dX8_clicksActs_45
theorem e167_48 : decode (ma_cd 167) 48 = .ok (.ixor, 1) := (congrArg (fun b => decode b 48) cd_167).trans dX8_clicksActs_48
theorem e167_49 : decode (ma_cd 167) 49 = .ok (.ireturn, 1) := (congrArg (fun b => decode b 49) cd_167).trans dX8_clicksActs_49
theorem e167_50 : decode (ma_cd 167) 50 = .ok (.aload_n 0, 1) := (congrArg (fun b => decode b 50) cd_167).trans dX8_clicksActs_50
theorem e167_51 : decode (ma_cd 167) 51 = .ok (.iload_n 1, 1) := (congrArg (fun b => decode b 51) cd_167).trans dX8_clicksActs_51
theorem e167_52 : decode (ma_cd 167) 52 = .ok (.invokevirtual 219, 3) := (congrArg (fun b => decode b 52) cd_167).trans dX8_clicksActs_52
theorem e167_55 : decode (ma_cd 167) 55 = .ok (.ireturn, 1) := (congrArg (fun b => decode b 55) cd_167).trans dX8_clicksActs_55
theorem S167 {ro : ma_RO} {d : Nat} : (∀ (v1 : Option Value) (a1 : Nat) (st : List Value) (σ : ma_H), ma_rn ro d 167 (0, [some (.ref a1), v1], st, SH, σ) = ma_rn ro d 167 (1, [some (.ref a1), v1], .ref a1 :: st, SH, σ)) ∧
  (∀ (v0 : Option Value) (v1 : Option Value) (a1 : Nat) (st : List Value) (σ : ma_H) (hc : hk_cls a1 = 8), ma_rn ro d 167 (1, [v0, v1], .ref a1 :: st, SH, σ) = ma_rn ro d 167 (4, [v0, v1], .int (σ a1 14) :: st, SH, σ)) ∧
  (∀ (v0 : Option Value) (v1 : Option Value) (st : List Value) (σ : ma_H), ma_rn ro d 167 (4, [v0, v1], st, SH, σ) = ma_rn ro d 167 (5, [v0, v1], .int (nI 1) :: st, SH, σ)) ∧
  (∀ (v0 : Option Value) (v1 : Option Value) (x1 : Int32) (x2 : Int32) (σ : ma_H), ma_rn ro (d + 1) 167 (5, [v0, v1], .int x2 :: .int x1 :: [], SH, σ) = (ma_ev ro d 165 [.int x1, .int x2] SH σ).bind (fun q => ma_rn ro (d + 1) 167 (8, [v0, v1], (q.1.toList ++ []), q.2.1, q.2.2))) ∧
  (∀ (v0 : Option Value) (v1 : Option Value) (x1 : Int32) (st : List Value) (σ : ma_H), ma_rn ro d 167 (8, [v0, v1], .int x1 :: st, SH, σ) = if x1 = nI 0 then ma_rn ro d 167 (25, [v0, v1], st, SH, σ) else ma_rn ro d 167 (11, [v0, v1], st, SH, σ)) ∧
  (∀ (v1 : Option Value) (a1 : Nat) (st : List Value) (σ : ma_H), ma_rn ro d 167 (11, [some (.ref a1), v1], st, SH, σ) = ma_rn ro d 167 (12, [some (.ref a1), v1], .ref a1 :: st, SH, σ)) ∧
  (∀ (v0 : Option Value) (v1 : Option Value) (st : List Value) (σ : ma_H), ma_rn ro d 167 (12, [v0, v1], st, SH, σ) = ma_rn ro d 167 (14, [v0, v1], .int (nI 11) :: st, SH, σ)) ∧
  (∀ (v0 : Option Value) (v1 : Option Value) (x1 : Int32) (a0 : Nat) (σ : ma_H) (hc : hk_cls a0 = 8), ma_rn ro (d + 1) 167 (14, [v0, v1], .int x1 :: .ref a0 :: [], SH, σ) = (ma_ev ro d 164 [.ref a0, .int x1] SH σ).bind (fun q => ma_rn ro (d + 1) 167 (17, [v0, v1], (q.1.toList ++ []), q.2.1, q.2.2))) ∧
  (∀ (v1 : Option Value) (a1 : Nat) (st : List Value) (σ : ma_H), ma_rn ro d 167 (17, [some (.ref a1), v1], st, SH, σ) = ma_rn ro d 167 (18, [some (.ref a1), v1], .ref a1 :: st, SH, σ)) ∧
  (∀ (v0 : Option Value) (x1 : Int32) (st : List Value) (σ : ma_H), ma_rn ro d 167 (18, [v0, some (.int x1)], st, SH, σ) = ma_rn ro d 167 (19, [v0, some (.int x1)], .int x1 :: st, SH, σ)) ∧
  (∀ (v0 : Option Value) (v1 : Option Value) (st : List Value) (σ : ma_H), ma_rn ro d 167 (19, [v0, v1], st, SH, σ) = ma_rn ro d 167 (20, [v0, v1], .int (nI 3) :: st, SH, σ)) ∧
  (∀ (v0 : Option Value) (v1 : Option Value) (x1 : Int32) (x2 : Int32) (st : List Value) (σ : ma_H), ma_rn ro d 167 (20, [v0, v1], .int x1 :: .int x2 :: st, SH, σ) = ma_rn ro d 167 (21, [v0, v1], .int (x2 * x1) :: st, SH, σ)) ∧
  (∀ (v0 : Option Value) (v1 : Option Value) (x1 : Int32) (a0 : Nat) (σ : ma_H) (hc : hk_cls a0 = 8), ma_rn ro (d + 1) 167 (21, [v0, v1], .int x1 :: .ref a0 :: [], SH, σ) = (ma_ev ro d 166 [.ref a0, .int x1] SH σ).bind (fun q => ma_rn ro (d + 1) 167 (24, [v0, v1], (q.1.toList ++ []), q.2.1, q.2.2))) ∧
  (∀ (v0 : Option Value) (v1 : Option Value) (x1 : Int32) (σ : ma_H), ma_rn ro d 167 (24, [v0, v1], [.int x1], SH, σ) = some (some (.int x1), SH, σ)) ∧
  (∀ (v1 : Option Value) (a1 : Nat) (st : List Value) (σ : ma_H), ma_rn ro d 167 (25, [some (.ref a1), v1], st, SH, σ) = ma_rn ro d 167 (26, [some (.ref a1), v1], .ref a1 :: st, SH, σ)) ∧
  (∀ (v0 : Option Value) (v1 : Option Value) (a1 : Nat) (st : List Value) (σ : ma_H) (hc : hk_cls a1 = 8), ma_rn ro d 167 (26, [v0, v1], .ref a1 :: st, SH, σ) = ma_rn ro d 167 (29, [v0, v1], .int (σ a1 14) :: st, SH, σ)) ∧
  (∀ (v0 : Option Value) (v1 : Option Value) (st : List Value) (σ : ma_H), ma_rn ro d 167 (29, [v0, v1], st, SH, σ) = ma_rn ro d 167 (30, [v0, v1], .int (nI 5) :: st, SH, σ)) ∧
  (∀ (v0 : Option Value) (v1 : Option Value) (x1 : Int32) (x2 : Int32) (st : List Value) (σ : ma_H), ma_rn ro d 167 (30, [v0, v1], .int x1 :: .int x2 :: st, SH, σ) = if x2 = x1 then ma_rn ro d 167 (33, [v0, v1], st, SH, σ) else ma_rn ro d 167 (50, [v0, v1], st, SH, σ)) ∧
  (∀ (v1 : Option Value) (a1 : Nat) (st : List Value) (σ : ma_H), ma_rn ro d 167 (33, [some (.ref a1), v1], st, SH, σ) = ma_rn ro d 167 (34, [some (.ref a1), v1], .ref a1 :: st, SH, σ)) ∧
  (∀ (v0 : Option Value) (v1 : Option Value) (st : List Value) (σ : ma_H), ma_rn ro d 167 (34, [v0, v1], st, SH, σ) = ma_rn ro d 167 (36, [v0, v1], .int (nI 51) :: st, SH, σ)) ∧
  (∀ (v0 : Option Value) (v1 : Option Value) (x1 : Int32) (a0 : Nat) (σ : ma_H) (hc : hk_cls a0 = 8), ma_rn ro (d + 1) 167 (36, [v0, v1], .int x1 :: .ref a0 :: [], SH, σ) = (ma_ev ro d 164 [.ref a0, .int x1] SH σ).bind (fun q => ma_rn ro (d + 1) 167 (39, [v0, v1], (q.1.toList ++ []), q.2.1, q.2.2))) ∧
  (∀ (v1 : Option Value) (a1 : Nat) (st : List Value) (σ : ma_H), ma_rn ro d 167 (39, [some (.ref a1), v1], st, SH, σ) = ma_rn ro d 167 (40, [some (.ref a1), v1], .ref a1 :: st, SH, σ)) ∧
  (∀ (v0 : Option Value) (x1 : Int32) (st : List Value) (σ : ma_H), ma_rn ro d 167 (40, [v0, some (.int x1)], st, SH, σ) = ma_rn ro d 167 (41, [v0, some (.int x1)], .int x1 :: st, SH, σ)) ∧
  (∀ (v0 : Option Value) (v1 : Option Value) (x1 : Int32) (a0 : Nat) (σ : ma_H) (hc : hk_cls a0 = 8), ma_rn ro (d + 1) 167 (41, [v0, v1], .int x1 :: .ref a0 :: [], SH, σ) = (ma_ev ro d 166 [.ref a0, .int x1] SH σ).bind (fun q => ma_rn ro (d + 1) 167 (44, [v0, v1], (q.1.toList ++ []), q.2.1, q.2.2))) ∧
  (∀ (v1 : Option Value) (a1 : Nat) (st : List Value) (σ : ma_H), ma_rn ro d 167 (44, [some (.ref a1), v1], st, SH, σ) = ma_rn ro d 167 (45, [some (.ref a1), v1], .ref a1 :: st, SH, σ)) ∧
  (∀ (v0 : Option Value) (v1 : Option Value) (a1 : Nat) (st : List Value) (σ : ma_H) (hc : hk_cls a1 = 8), ma_rn ro d 167 (45, [v0, v1], .ref a1 :: st, SH, σ) = ma_rn ro d 167 (48, [v0, v1], .int (σ a1 15) :: st, SH, σ)) ∧
  (∀ (v0 : Option Value) (v1 : Option Value) (x1 : Int32) (x2 : Int32) (st : List Value) (σ : ma_H), ma_rn ro d 167 (48, [v0, v1], .int x1 :: .int x2 :: st, SH, σ) = ma_rn ro d 167 (49, [v0, v1], .int (x2 ^^^ x1) :: st, SH, σ)) ∧
  (∀ (v0 : Option Value) (v1 : Option Value) (x1 : Int32) (σ : ma_H), ma_rn ro d 167 (49, [v0, v1], [.int x1], SH, σ) = some (some (.int x1), SH, σ)) ∧
  (∀ (v1 : Option Value) (a1 : Nat) (st : List Value) (σ : ma_H), ma_rn ro d 167 (50, [some (.ref a1), v1], st, SH, σ) = ma_rn ro d 167 (51, [some (.ref a1), v1], .ref a1 :: st, SH, σ)) ∧
  (∀ (v0 : Option Value) (x1 : Int32) (st : List Value) (σ : ma_H), ma_rn ro d 167 (51, [v0, some (.int x1)], st, SH, σ) = ma_rn ro d 167 (52, [v0, some (.int x1)], .int x1 :: st, SH, σ)) ∧
  (∀ (v0 : Option Value) (v1 : Option Value) (x1 : Int32) (a0 : Nat) (σ : ma_H) (hc : hk_cls a0 = 8), ma_rn ro (d + 1) 167 (52, [v0, v1], .int x1 :: .ref a0 :: [], SH, σ) = (ma_ev ro d 166 [.ref a0, .int x1] SH σ).bind (fun q => ma_rn ro (d + 1) 167 (55, [v0, v1], (q.1.toList ++ []), q.2.1, q.2.2))) ∧
  (∀ (v0 : Option Value) (v1 : Option Value) (x1 : Int32) (σ : ma_H), ma_rn ro d 167 (55, [v0, v1], [.int x1], SH, σ) = some (some (.int x1), SH, σ)) := ⟨fun v1 a1 st σ => q_go e167_0 rfl rfl,
  fun v0 v1 a1 st σ hc => q_getI e167_1 o_167 f_8_213 (by decide) hc,
  fun v0 v1 st σ => q_iconst e167_4 (by decide),
  fun v0 v1 x1 x2 σ => q_invS (as := [.int x1, .int x2]) (rest := []) e167_5 o_167 bn_8_216 c_8_216 ⟨m_165.1, m_165.2.1, m_165.2.2.1⟩ rfl rfl (Nat.le_of_ble_eq_true rfl) (Nat.le_of_ble_eq_true rfl),
  fun v0 v1 x1 st σ => (q_if e167_8 rfl).trans q_eq,
  fun v1 a1 st σ => q_go e167_11 rfl rfl,
  fun v0 v1 st σ => q_bipush e167_12 (by decide),
  fun v0 v1 x1 a0 σ hc => q_invV (as := [.int x1]) (rest := []) e167_14 o_167 bn_8_207 c_8_207 m_164 (by decide) rfl rfl (Nat.le_of_ble_eq_true rfl) (Nat.le_of_ble_eq_true rfl) hc,
  fun v1 a1 st σ => q_go e167_17 rfl rfl,
  fun v0 x1 st σ => q_go e167_18 rfl rfl,
  fun v0 v1 st σ => q_iconst e167_19 (by decide),
  fun v0 v1 x1 x2 st σ => q_go e167_20 rfl rfl,
  fun v0 v1 x1 a0 σ hc => q_invV (as := [.int x1]) (rest := []) e167_21 o_167 bn_8_219 c_8_219 m_166 (by decide) rfl rfl (Nat.le_of_ble_eq_true rfl) (Nat.le_of_ble_eq_true rfl) hc,
  fun v0 v1 x1 σ => q_iret e167_24 r_167,
  fun v1 a1 st σ => q_go e167_25 rfl rfl,
  fun v0 v1 a1 st σ hc => q_getI e167_26 o_167 f_8_213 (by decide) hc,
  fun v0 v1 st σ => q_iconst e167_29 (by decide),
  fun v0 v1 x1 x2 st σ => (q_cmp e167_30 rfl).trans q_ne,
  fun v1 a1 st σ => q_go e167_33 rfl rfl,
  fun v0 v1 st σ => q_bipush e167_34 (by decide),
  fun v0 v1 x1 a0 σ hc => q_invV (as := [.int x1]) (rest := []) e167_36 o_167 bn_8_207 c_8_207 m_164 (by decide) rfl rfl (Nat.le_of_ble_eq_true rfl) (Nat.le_of_ble_eq_true rfl) hc,
  fun v1 a1 st σ => q_go e167_39 rfl rfl,
  fun v0 x1 st σ => q_go e167_40 rfl rfl,
  fun v0 v1 x1 a0 σ hc => q_invV (as := [.int x1]) (rest := []) e167_41 o_167 bn_8_219 c_8_219 m_166 (by decide) rfl rfl (Nat.le_of_ble_eq_true rfl) (Nat.le_of_ble_eq_true rfl) hc,
  fun v1 a1 st σ => q_go e167_44 rfl rfl,
  fun v0 v1 a1 st σ hc => q_getI e167_45 o_167 f_8_210 (by decide) hc,
  fun v0 v1 x1 x2 st σ => q_go e167_48 rfl rfl,
  fun v0 v1 x1 σ => q_iret e167_49 r_167,
  fun v1 a1 st σ => q_go e167_50 rfl rfl,
  fun v0 x1 st σ => q_go e167_51 rfl rfl,
  fun v0 v1 x1 a0 σ hc => q_invV (as := [.int x1]) (rest := []) e167_52 o_167 bn_8_219 c_8_219 m_166 (by decide) rfl rfl (Nat.le_of_ble_eq_true rfl) (Nat.le_of_ble_eq_true rfl) hc,
  fun v0 v1 x1 σ => q_iret e167_55 r_167⟩
theorem E167 {ro : ma_RO} {d : Nat} (a0 : Nat) (x1 : Int32) (sh : List ma_Sh) (σ : ma_H) : ma_ev ro d 167 [.ref a0, .int x1] sh σ = ma_rn ro d 167 (0, [some (.ref a0), some (.int x1)], [], sh, σ) := q_ent x_167 rfl
theorem e168_0 : decode (ma_cd 168) 0 = .ok (.aload_n 0, 1) := (congrArg (fun b => decode b 0) cd_168).trans dX8_plainPulls_0
theorem e168_1 : decode (ma_cd 168) 1 = .ok (.iconst 2, 1) := (congrArg (fun b => decode b 1) cd_168).trans dX8_plainPulls_1
theorem e168_2 : decode (ma_cd 168) 2 = .ok (.invokevirtual 207, 3) := (congrArg (fun b => decode b 2) cd_168).trans dX8_plainPulls_2
theorem e168_5 : decode (ma_cd 168) 5 = .ok (.aload_n 0, 1) := (congrArg (fun b => decode b 5) cd_168).trans dX8_plainPulls_5
theorem e168_6 : decode (ma_cd 168) 6 = .ok (.iload_n 1, 1) := (congrArg (fun b => decode b 6) cd_168).trans dX8_plainPulls_6
theorem e168_7 : decode (ma_cd 168) 7 = .ok (.invokevirtual 222, 3) := (congrArg (fun b => decode b 7) cd_168).trans dX8_plainPulls_7
theorem e168_10 : decode (ma_cd 168) 10 = .ok (.aload_n 0, 1) := (congrArg (fun b => decode b 10) cd_168).trans dX8_plainPulls_10
theorem e168_11 : decode (ma_cd 168) 11 = .ok (.getfield 225, 3) := (congrArg (fun b => decode b 11) cd_168).trans dX8_plainPulls_11
theorem e168_14 : decode (ma_cd 168) 14 = .ok (.isub, 1) := (congrArg (fun b => decode b 14) cd_168).trans dX8_plainPulls_14
theorem e168_15 : decode (ma_cd 168) 15 = .ok (.ireturn, 1) := (congrArg (fun b => decode b 15) cd_168).trans dX8_plainPulls_15
theorem S168 {ro : ma_RO} {d : Nat} : (∀ (v1 : Option Value) (a1 : Nat) (st : List Value) (σ : ma_H), ma_rn ro d 168 (0, [some (.ref a1), v1], st, SH, σ) = ma_rn ro d 168 (1, [some (.ref a1), v1], .ref a1 :: st, SH, σ)) ∧
  (∀ (v0 : Option Value) (v1 : Option Value) (st : List Value) (σ : ma_H), ma_rn ro d 168 (1, [v0, v1], st, SH, σ) = ma_rn ro d 168 (2, [v0, v1], .int (nI 2) :: st, SH, σ)) ∧
  (∀ (v0 : Option Value) (v1 : Option Value) (x1 : Int32) (a0 : Nat) (σ : ma_H) (hc : hk_cls a0 = 8), ma_rn ro (d + 1) 168 (2, [v0, v1], .int x1 :: .ref a0 :: [], SH, σ) = (ma_ev ro d 164 [.ref a0, .int x1] SH σ).bind (fun q => ma_rn ro (d + 1) 168 (5, [v0, v1], (q.1.toList ++ []), q.2.1, q.2.2))) ∧
  (∀ (v1 : Option Value) (a1 : Nat) (st : List Value) (σ : ma_H), ma_rn ro d 168 (5, [some (.ref a1), v1], st, SH, σ) = ma_rn ro d 168 (6, [some (.ref a1), v1], .ref a1 :: st, SH, σ)) ∧
  (∀ (v0 : Option Value) (x1 : Int32) (st : List Value) (σ : ma_H), ma_rn ro d 168 (6, [v0, some (.int x1)], st, SH, σ) = ma_rn ro d 168 (7, [v0, some (.int x1)], .int x1 :: st, SH, σ)) ∧
  (∀ (v0 : Option Value) (v1 : Option Value) (x1 : Int32) (a0 : Nat) (σ : ma_H) (hc : hk_cls a0 = 8), ma_rn ro (d + 1) 168 (7, [v0, v1], .int x1 :: .ref a0 :: [], SH, σ) = (ma_ev ro d 167 [.ref a0, .int x1] SH σ).bind (fun q => ma_rn ro (d + 1) 168 (10, [v0, v1], (q.1.toList ++ []), q.2.1, q.2.2))) ∧
  (∀ (v1 : Option Value) (a1 : Nat) (st : List Value) (σ : ma_H), ma_rn ro d 168 (10, [some (.ref a1), v1], st, SH, σ) = ma_rn ro d 168 (11, [some (.ref a1), v1], .ref a1 :: st, SH, σ)) ∧
  (∀ (v0 : Option Value) (v1 : Option Value) (a1 : Nat) (st : List Value) (σ : ma_H) (hc : hk_cls a1 = 8), ma_rn ro d 168 (11, [v0, v1], .ref a1 :: st, SH, σ) = ma_rn ro d 168 (14, [v0, v1], .int (σ a1 16) :: st, SH, σ)) ∧
  (∀ (v0 : Option Value) (v1 : Option Value) (x1 : Int32) (x2 : Int32) (st : List Value) (σ : ma_H), ma_rn ro d 168 (14, [v0, v1], .int x1 :: .int x2 :: st, SH, σ) = ma_rn ro d 168 (15, [v0, v1], .int (x2 - x1) :: st, SH, σ)) ∧
  (∀ (v0 : Option Value) (v1 : Option Value) (x1 : Int32) (σ : ma_H), ma_rn ro d 168 (15, [v0, v1], [.int x1], SH, σ) = some (some (.int x1), SH, σ)) := ⟨fun v1 a1 st σ => q_go e168_0 rfl rfl,
  fun v0 v1 st σ => q_iconst e168_1 (by decide),
  fun v0 v1 x1 a0 σ hc => q_invV (as := [.int x1]) (rest := []) e168_2 o_168 bn_8_207 c_8_207 m_164 (by decide) rfl rfl (Nat.le_of_ble_eq_true rfl) (Nat.le_of_ble_eq_true rfl) hc,
  fun v1 a1 st σ => q_go e168_5 rfl rfl,
  fun v0 x1 st σ => q_go e168_6 rfl rfl,
  fun v0 v1 x1 a0 σ hc => q_invV (as := [.int x1]) (rest := []) e168_7 o_168 bn_8_222 c_8_222 m_167 (by decide) rfl rfl (Nat.le_of_ble_eq_true rfl) (Nat.le_of_ble_eq_true rfl) hc,
  fun v1 a1 st σ => q_go e168_10 rfl rfl,
  fun v0 v1 a1 st σ hc => q_getI e168_11 o_168 f_8_225 (by decide) hc,
  fun v0 v1 x1 x2 st σ => q_go e168_14 rfl rfl,
  fun v0 v1 x1 σ => q_iret e168_15 r_168⟩
theorem E168 {ro : ma_RO} {d : Nat} (a0 : Nat) (x1 : Int32) (sh : List ma_Sh) (σ : ma_H) : ma_ev ro d 168 [.ref a0, .int x1] sh σ = ma_rn ro d 168 (0, [some (.ref a0), some (.int x1)], [], sh, σ) := q_ent x_168 rfl
theorem e169_0 : decode (ma_cd 169) 0 = .ok (.aload_n 0, 1) := (congrArg (fun b => decode b 0) cd_169).trans dX8_pullsActs_0
theorem e169_1 : decode (ma_cd 169) 1 = .ok (.getfield 213, 3) := (congrArg (fun b => decode b 1) cd_169).trans dX8_pullsActs_1
theorem e169_4 : decode (ma_cd 169) 4 = .ok (.iconst 2, 1) := (congrArg (fun b => decode b 4) cd_169).trans dX8_pullsActs_4
theorem e169_5 : decode (ma_cd 169) 5 = .ok (.invokestatic 216, 3) := (congrArg (fun b => decode b 5) cd_169).trans dX8_pullsActs_5
theorem e169_8 : decode (ma_cd 169) 8 = .ok (.ifCond .eq 16, 3) := (congrArg (fun b => decode b 8) cd_169).trans dX8_pullsActs_8
theorem e169_11 : decode (ma_cd 169) 11 = .ok (.aload_n 0, 1) := (congrArg (fun b => decode b 11) cd_169).trans dX8_pullsActs_11
theorem e169_12 : decode (ma_cd 169) 12 = .ok (.bipush 21, 2) := (congrArg (fun b => decode b 12) cd_169).trans dX8_pullsActs_12
theorem e169_14 : decode (ma_cd 169) 14 = .ok (.invokevirtual 207, 3) := (congrArg (fun b => decode b 14) cd_169).trans dX8_pullsActs_14
theorem e169_17 : decode (ma_cd 169) 17 = .ok (.aload_n 0, 1) := (congrArg (fun b => decode b 17) cd_169).trans dX8_pullsActs_17
theorem e169_18 : decode (ma_cd 169) 18 = .ok (.iload_n 1, 1) := (congrArg (fun b => decode b 18) cd_169).trans dX8_pullsActs_18
theorem e169_19 : decode (ma_cd 169) 19 = .ok (.invokevirtual 228, 3) := (congrArg (fun b => decode b 19) cd_169).trans dX8_pullsActs_19
theorem e169_22 : decode (ma_cd 169) 22 = .ok (.ineg, 1) := (congrArg (fun b => decode b 22) cd_169).trans dX8_pullsActs_22
theorem e169_23 : decode (ma_cd 169) 23 = .ok (.ireturn, 1) := (congrArg (fun b => decode b 23) cd_169).trans dX8_pullsActs_23
theorem e169_24 : decode (ma_cd 169) 24 = .ok (.aload_n 0, 1) := (congrArg (fun b => decode b 24) cd_169).trans dX8_pullsActs_24
theorem e169_25 : decode (ma_cd 169) 25 = .ok (.getfield 213, 3) := (congrArg (fun b => decode b 25) cd_169).trans dX8_pullsActs_25
theorem e169_28 : decode (ma_cd 169) 28 = .ok (.bipush 6, 2) := (congrArg (fun b => decode b 28) cd_169).trans dX8_pullsActs_28
theorem e169_30 : decode (ma_cd 169) 30 = .ok (.if_icmp .ne 20, 3) := (congrArg (fun b => decode b 30) cd_169).trans dX8_pullsActs_30
theorem e169_33 : decode (ma_cd 169) 33 = .ok (.aload_n 0, 1) := (congrArg (fun b => decode b 33) cd_169).trans dX8_pullsActs_33
theorem e169_34 : decode (ma_cd 169) 34 = .ok (.bipush 61, 2) := (congrArg (fun b => decode b 34) cd_169).trans dX8_pullsActs_34
theorem e169_36 : decode (ma_cd 169) 36 = .ok (.invokevirtual 207, 3) := (congrArg (fun b => decode b 36) cd_169).trans dX8_pullsActs_36
theorem e169_39 : decode (ma_cd 169) 39 = .ok (.aload_n 0, 1) := (congrArg (fun b => decode b 39) cd_169).trans dX8_pullsActs_39
theorem e169_40 : decode (ma_cd 169) 40 = .ok (.iload_n 1, 1) := (congrArg (fun b => decode b 40) cd_169).trans dX8_pullsActs_40
theorem e169_41 : decode (ma_cd 169) 41 = .ok (.invokevirtual 228, 3) := (congrArg (fun b => decode b 41) cd_169).trans dX8_pullsActs_41
theorem e169_44 : decode (ma_cd 169) 44 = .ok (.aload_n 0, 1) := (congrArg (fun b => decode b 44) cd_169).trans dX8_pullsActs_44
theorem e169_45 : decode (ma_cd 169) 45 = .ok (.getfield 225, 3) := (congrArg (fun b => decode b 45) cd_169).trans dX8_pullsActs_45
theorem e169_48 : decode (ma_cd 169) 48 = .ok (.iadd, 1) := (congrArg (fun b => decode b 48) cd_169).trans dX8_pullsActs_48
theorem e169_49 : decode (ma_cd 169) 49 = .ok (.ireturn, 1) := (congrArg (fun b => decode b 49) cd_169).trans dX8_pullsActs_49
theorem e169_50 : decode (ma_cd 169) 50 = .ok (.aload_n 0, 1) := (congrArg (fun b => decode b 50) cd_169).trans dX8_pullsActs_50
theorem e169_51 : decode (ma_cd 169) 51 = .ok (.iload_n 1, 1) := (congrArg (fun b => decode b 51) cd_169).trans dX8_pullsActs_51
theorem e169_52 : decode (ma_cd 169) 52 = .ok (.invokevirtual 228, 3) := (congrArg (fun b => decode b 52) cd_169).trans dX8_pullsActs_52
theorem e169_55 : decode (ma_cd 169) 55 = .ok (.ireturn, 1) := (congrArg (fun b => decode b 55) cd_169).trans dX8_pullsActs_55
theorem S169 {ro : ma_RO} {d : Nat} : (∀ (v1 : Option Value) (a1 : Nat) (st : List Value) (σ : ma_H), ma_rn ro d 169 (0, [some (.ref a1), v1], st, SH, σ) = ma_rn ro d 169 (1, [some (.ref a1), v1], .ref a1 :: st, SH, σ)) ∧
  (∀ (v0 : Option Value) (v1 : Option Value) (a1 : Nat) (st : List Value) (σ : ma_H) (hc : hk_cls a1 = 8), ma_rn ro d 169 (1, [v0, v1], .ref a1 :: st, SH, σ) = ma_rn ro d 169 (4, [v0, v1], .int (σ a1 14) :: st, SH, σ)) ∧
  (∀ (v0 : Option Value) (v1 : Option Value) (st : List Value) (σ : ma_H), ma_rn ro d 169 (4, [v0, v1], st, SH, σ) = ma_rn ro d 169 (5, [v0, v1], .int (nI 2) :: st, SH, σ)) ∧
  (∀ (v0 : Option Value) (v1 : Option Value) (x1 : Int32) (x2 : Int32) (σ : ma_H), ma_rn ro (d + 1) 169 (5, [v0, v1], .int x2 :: .int x1 :: [], SH, σ) = (ma_ev ro d 165 [.int x1, .int x2] SH σ).bind (fun q => ma_rn ro (d + 1) 169 (8, [v0, v1], (q.1.toList ++ []), q.2.1, q.2.2))) ∧
  (∀ (v0 : Option Value) (v1 : Option Value) (x1 : Int32) (st : List Value) (σ : ma_H), ma_rn ro d 169 (8, [v0, v1], .int x1 :: st, SH, σ) = if x1 = nI 0 then ma_rn ro d 169 (24, [v0, v1], st, SH, σ) else ma_rn ro d 169 (11, [v0, v1], st, SH, σ)) ∧
  (∀ (v1 : Option Value) (a1 : Nat) (st : List Value) (σ : ma_H), ma_rn ro d 169 (11, [some (.ref a1), v1], st, SH, σ) = ma_rn ro d 169 (12, [some (.ref a1), v1], .ref a1 :: st, SH, σ)) ∧
  (∀ (v0 : Option Value) (v1 : Option Value) (st : List Value) (σ : ma_H), ma_rn ro d 169 (12, [v0, v1], st, SH, σ) = ma_rn ro d 169 (14, [v0, v1], .int (nI 21) :: st, SH, σ)) ∧
  (∀ (v0 : Option Value) (v1 : Option Value) (x1 : Int32) (a0 : Nat) (σ : ma_H) (hc : hk_cls a0 = 8), ma_rn ro (d + 1) 169 (14, [v0, v1], .int x1 :: .ref a0 :: [], SH, σ) = (ma_ev ro d 164 [.ref a0, .int x1] SH σ).bind (fun q => ma_rn ro (d + 1) 169 (17, [v0, v1], (q.1.toList ++ []), q.2.1, q.2.2))) ∧
  (∀ (v1 : Option Value) (a1 : Nat) (st : List Value) (σ : ma_H), ma_rn ro d 169 (17, [some (.ref a1), v1], st, SH, σ) = ma_rn ro d 169 (18, [some (.ref a1), v1], .ref a1 :: st, SH, σ)) ∧
  (∀ (v0 : Option Value) (x1 : Int32) (st : List Value) (σ : ma_H), ma_rn ro d 169 (18, [v0, some (.int x1)], st, SH, σ) = ma_rn ro d 169 (19, [v0, some (.int x1)], .int x1 :: st, SH, σ)) ∧
  (∀ (v0 : Option Value) (v1 : Option Value) (x1 : Int32) (a0 : Nat) (σ : ma_H) (hc : hk_cls a0 = 8), ma_rn ro (d + 1) 169 (19, [v0, v1], .int x1 :: .ref a0 :: [], SH, σ) = (ma_ev ro d 168 [.ref a0, .int x1] SH σ).bind (fun q => ma_rn ro (d + 1) 169 (22, [v0, v1], (q.1.toList ++ []), q.2.1, q.2.2))) ∧
  (∀ (v0 : Option Value) (v1 : Option Value) (x1 : Int32) (st : List Value) (σ : ma_H), ma_rn ro d 169 (22, [v0, v1], .int x1 :: st, SH, σ) = ma_rn ro d 169 (23, [v0, v1], .int (-x1) :: st, SH, σ)) ∧
  (∀ (v0 : Option Value) (v1 : Option Value) (x1 : Int32) (σ : ma_H), ma_rn ro d 169 (23, [v0, v1], [.int x1], SH, σ) = some (some (.int x1), SH, σ)) ∧
  (∀ (v1 : Option Value) (a1 : Nat) (st : List Value) (σ : ma_H), ma_rn ro d 169 (24, [some (.ref a1), v1], st, SH, σ) = ma_rn ro d 169 (25, [some (.ref a1), v1], .ref a1 :: st, SH, σ)) ∧
  (∀ (v0 : Option Value) (v1 : Option Value) (a1 : Nat) (st : List Value) (σ : ma_H) (hc : hk_cls a1 = 8), ma_rn ro d 169 (25, [v0, v1], .ref a1 :: st, SH, σ) = ma_rn ro d 169 (28, [v0, v1], .int (σ a1 14) :: st, SH, σ)) ∧
  (∀ (v0 : Option Value) (v1 : Option Value) (st : List Value) (σ : ma_H), ma_rn ro d 169 (28, [v0, v1], st, SH, σ) = ma_rn ro d 169 (30, [v0, v1], .int (nI 6) :: st, SH, σ)) ∧
  (∀ (v0 : Option Value) (v1 : Option Value) (x1 : Int32) (x2 : Int32) (st : List Value) (σ : ma_H), ma_rn ro d 169 (30, [v0, v1], .int x1 :: .int x2 :: st, SH, σ) = if x2 = x1 then ma_rn ro d 169 (33, [v0, v1], st, SH, σ) else ma_rn ro d 169 (50, [v0, v1], st, SH, σ)) ∧
  (∀ (v1 : Option Value) (a1 : Nat) (st : List Value) (σ : ma_H), ma_rn ro d 169 (33, [some (.ref a1), v1], st, SH, σ) = ma_rn ro d 169 (34, [some (.ref a1), v1], .ref a1 :: st, SH, σ)) ∧
  (∀ (v0 : Option Value) (v1 : Option Value) (st : List Value) (σ : ma_H), ma_rn ro d 169 (34, [v0, v1], st, SH, σ) = ma_rn ro d 169 (36, [v0, v1], .int (nI 61) :: st, SH, σ)) ∧
  (∀ (v0 : Option Value) (v1 : Option Value) (x1 : Int32) (a0 : Nat) (σ : ma_H) (hc : hk_cls a0 = 8), ma_rn ro (d + 1) 169 (36, [v0, v1], .int x1 :: .ref a0 :: [], SH, σ) = (ma_ev ro d 164 [.ref a0, .int x1] SH σ).bind (fun q => ma_rn ro (d + 1) 169 (39, [v0, v1], (q.1.toList ++ []), q.2.1, q.2.2))) ∧
  (∀ (v1 : Option Value) (a1 : Nat) (st : List Value) (σ : ma_H), ma_rn ro d 169 (39, [some (.ref a1), v1], st, SH, σ) = ma_rn ro d 169 (40, [some (.ref a1), v1], .ref a1 :: st, SH, σ)) ∧
  (∀ (v0 : Option Value) (x1 : Int32) (st : List Value) (σ : ma_H), ma_rn ro d 169 (40, [v0, some (.int x1)], st, SH, σ) = ma_rn ro d 169 (41, [v0, some (.int x1)], .int x1 :: st, SH, σ)) ∧
  (∀ (v0 : Option Value) (v1 : Option Value) (x1 : Int32) (a0 : Nat) (σ : ma_H) (hc : hk_cls a0 = 8), ma_rn ro (d + 1) 169 (41, [v0, v1], .int x1 :: .ref a0 :: [], SH, σ) = (ma_ev ro d 168 [.ref a0, .int x1] SH σ).bind (fun q => ma_rn ro (d + 1) 169 (44, [v0, v1], (q.1.toList ++ []), q.2.1, q.2.2))) ∧
  (∀ (v1 : Option Value) (a1 : Nat) (st : List Value) (σ : ma_H), ma_rn ro d 169 (44, [some (.ref a1), v1], st, SH, σ) = ma_rn ro d 169 (45, [some (.ref a1), v1], .ref a1 :: st, SH, σ)) ∧
  (∀ (v0 : Option Value) (v1 : Option Value) (a1 : Nat) (st : List Value) (σ : ma_H) (hc : hk_cls a1 = 8), ma_rn ro d 169 (45, [v0, v1], .ref a1 :: st, SH, σ) = ma_rn ro d 169 (48, [v0, v1], .int (σ a1 16) :: st, SH, σ)) ∧
  (∀ (v0 : Option Value) (v1 : Option Value) (x1 : Int32) (x2 : Int32) (st : List Value) (σ : ma_H), ma_rn ro d 169 (48, [v0, v1], .int x1 :: .int x2 :: st, SH, σ) = ma_rn ro d 169 (49, [v0, v1], .int (x2 + x1) :: st, SH, σ)) ∧
  (∀ (v0 : Option Value) (v1 : Option Value) (x1 : Int32) (σ : ma_H), ma_rn ro d 169 (49, [v0, v1], [.int x1], SH, σ) = some (some (.int x1), SH, σ)) ∧
  (∀ (v1 : Option Value) (a1 : Nat) (st : List Value) (σ : ma_H), ma_rn ro d 169 (50, [some (.ref a1), v1], st, SH, σ) = ma_rn ro d 169 (51, [some (.ref a1), v1], .ref a1 :: st, SH, σ)) ∧
  (∀ (v0 : Option Value) (x1 : Int32) (st : List Value) (σ : ma_H), ma_rn ro d 169 (51, [v0, some (.int x1)], st, SH, σ) = ma_rn ro d 169 (52, [v0, some (.int x1)], .int x1 :: st, SH, σ)) ∧
  (∀ (v0 : Option Value) (v1 : Option Value) (x1 : Int32) (a0 : Nat) (σ : ma_H) (hc : hk_cls a0 = 8), ma_rn ro (d + 1) 169 (52, [v0, v1], .int x1 :: .ref a0 :: [], SH, σ) = (ma_ev ro d 168 [.ref a0, .int x1] SH σ).bind (fun q => ma_rn ro (d + 1) 169 (55, [v0, v1], (q.1.toList ++ []), q.2.1, q.2.2))) ∧
  (∀ (v0 : Option Value) (v1 : Option Value) (x1 : Int32) (σ : ma_H), ma_rn ro d 169 (55, [v0, v1], [.int x1], SH, σ) = some (some (.int x1), SH, σ)) := ⟨fun v1 a1 st σ => q_go e169_0 rfl rfl,
  fun v0 v1 a1 st σ hc => q_getI e169_1 o_169 f_8_213 (by decide) hc,
  fun v0 v1 st σ => q_iconst e169_4 (by decide),
  fun v0 v1 x1 x2 σ => q_invS (as := [.int x1, .int x2]) (rest := []) e169_5 o_169 bn_8_216 c_8_216 ⟨m_165.1, m_165.2.1, m_165.2.2.1⟩ rfl rfl (Nat.le_of_ble_eq_true rfl) (Nat.le_of_ble_eq_true rfl),
  fun v0 v1 x1 st σ => (q_if e169_8 rfl).trans q_eq,
  fun v1 a1 st σ => q_go e169_11 rfl rfl,
  fun v0 v1 st σ => q_bipush e169_12 (by decide),
  fun v0 v1 x1 a0 σ hc => q_invV (as := [.int x1]) (rest := []) e169_14 o_169 bn_8_207 c_8_207 m_164 (by decide) rfl rfl (Nat.le_of_ble_eq_true rfl) (Nat.le_of_ble_eq_true rfl) hc,
  fun v1 a1 st σ => q_go e169_17 rfl rfl,
  fun v0 x1 st σ => q_go e169_18 rfl rfl,
  fun v0 v1 x1 a0 σ hc => q_invV (as := [.int x1]) (rest := []) e169_19 o_169 bn_8_228 c_8_228 m_168 (by decide) rfl rfl (Nat.le_of_ble_eq_true rfl) (Nat.le_of_ble_eq_true rfl) hc,
  fun v0 v1 x1 st σ => q_go e169_22 rfl rfl,
  fun v0 v1 x1 σ => q_iret e169_23 r_169,
  fun v1 a1 st σ => q_go e169_24 rfl rfl,
  fun v0 v1 a1 st σ hc => q_getI e169_25 o_169 f_8_213 (by decide) hc,
  fun v0 v1 st σ => q_bipush e169_28 (by decide),
  fun v0 v1 x1 x2 st σ => (q_cmp e169_30 rfl).trans q_ne,
  fun v1 a1 st σ => q_go e169_33 rfl rfl,
  fun v0 v1 st σ => q_bipush e169_34 (by decide),
  fun v0 v1 x1 a0 σ hc => q_invV (as := [.int x1]) (rest := []) e169_36 o_169 bn_8_207 c_8_207 m_164 (by decide) rfl rfl (Nat.le_of_ble_eq_true rfl) (Nat.le_of_ble_eq_true rfl) hc,
  fun v1 a1 st σ => q_go e169_39 rfl rfl,
  fun v0 x1 st σ => q_go e169_40 rfl rfl,
  fun v0 v1 x1 a0 σ hc => q_invV (as := [.int x1]) (rest := []) e169_41 o_169 bn_8_228 c_8_228 m_168 (by decide) rfl rfl (Nat.le_of_ble_eq_true rfl) (Nat.le_of_ble_eq_true rfl) hc,
  fun v1 a1 st σ => q_go e169_44 rfl rfl,
  fun v0 v1 a1 st σ hc => q_getI e169_45 o_169 f_8_225 (by decide) hc,
  fun v0 v1 x1 x2 st σ => q_go e169_48 rfl rfl,
  fun v0 v1 x1 σ => q_iret e169_49 r_169,
  fun v1 a1 st σ => q_go e169_50 rfl rfl,
  fun v0 x1 st σ => q_go e169_51 rfl rfl,
  fun v0 v1 x1 a0 σ hc => q_invV (as := [.int x1]) (rest := []) e169_52 o_169 bn_8_228 c_8_228 m_168 (by decide) rfl rfl (Nat.le_of_ble_eq_true rfl) (Nat.le_of_ble_eq_true rfl) hc,
  fun v0 v1 x1 σ => q_iret e169_55 r_169⟩
theorem E169 {ro : ma_RO} {d : Nat} (a0 : Nat) (x1 : Int32) (sh : List ma_Sh) (σ : ma_H) : ma_ev ro d 169 [.ref a0, .int x1] sh σ = ma_rn ro d 169 (0, [some (.ref a0), some (.int x1)], [], sh, σ) := q_ent x_169 rfl
theorem e170_0 : decode (ma_cd 170) 0 = .ok (.aload_n 0, 1) := (congrArg (fun b => decode b 0) cd_170).trans dX8_plainTelling_0
theorem e170_1 : decode (ma_cd 170) 1 = .ok (.iconst 3, 1) := (congrArg (fun b => decode b 1) cd_170).trans dX8_plainTelling_1
theorem e170_2 : decode (ma_cd 170) 2 = .ok (.invokevirtual 207, 3) := (congrArg (fun b => decode b 2) cd_170).trans dX8_plainTelling_2
theorem e170_5 : decode (ma_cd 170) 5 = .ok (.aload_n 0, 1) := (congrArg (fun b => decode b 5) cd_170).trans dX8_plainTelling_5
theorem e170_6 : decode (ma_cd 170) 6 = .ok (.iload_n 1, 1) := (congrArg (fun b => decode b 6) cd_170).trans dX8_plainTelling_6
theorem e170_7 : decode (ma_cd 170) 7 = .ok (.invokevirtual 231, 3) := (congrArg (fun b => decode b 7) cd_170).trans dX8_plainTelling_7
theorem e170_10 : decode (ma_cd 170) 10 = .ok (.iconst 2, 1) := (congrArg (fun b => decode b 10) cd_170).trans dX8_plainTelling_10
theorem e170_11 : decode (ma_cd 170) 11 = .ok (.imul, 1) := (congrArg (fun b => decode b 11) cd_170).trans dX8_plainTelling_11
theorem e170_12 : decode (ma_cd 170) 12 = .ok (.ireturn, 1) := (congrArg (fun b => decode b 12) cd_170).trans dX8_plainTelling_12
theorem S170 {ro : ma_RO} {d : Nat} : (∀ (v1 : Option Value) (a1 : Nat) (st : List Value) (σ : ma_H), ma_rn ro d 170 (0, [some (.ref a1), v1], st, SH, σ) = ma_rn ro d 170 (1, [some (.ref a1), v1], .ref a1 :: st, SH, σ)) ∧
  (∀ (v0 : Option Value) (v1 : Option Value) (st : List Value) (σ : ma_H), ma_rn ro d 170 (1, [v0, v1], st, SH, σ) = ma_rn ro d 170 (2, [v0, v1], .int (nI 3) :: st, SH, σ)) ∧
  (∀ (v0 : Option Value) (v1 : Option Value) (x1 : Int32) (a0 : Nat) (σ : ma_H) (hc : hk_cls a0 = 8), ma_rn ro (d + 1) 170 (2, [v0, v1], .int x1 :: .ref a0 :: [], SH, σ) = (ma_ev ro d 164 [.ref a0, .int x1] SH σ).bind (fun q => ma_rn ro (d + 1) 170 (5, [v0, v1], (q.1.toList ++ []), q.2.1, q.2.2))) ∧
  (∀ (v1 : Option Value) (a1 : Nat) (st : List Value) (σ : ma_H), ma_rn ro d 170 (5, [some (.ref a1), v1], st, SH, σ) = ma_rn ro d 170 (6, [some (.ref a1), v1], .ref a1 :: st, SH, σ)) ∧
  (∀ (v0 : Option Value) (x1 : Int32) (st : List Value) (σ : ma_H), ma_rn ro d 170 (6, [v0, some (.int x1)], st, SH, σ) = ma_rn ro d 170 (7, [v0, some (.int x1)], .int x1 :: st, SH, σ)) ∧
  (∀ (v0 : Option Value) (v1 : Option Value) (x1 : Int32) (a0 : Nat) (σ : ma_H) (hc : hk_cls a0 = 8), ma_rn ro (d + 1) 170 (7, [v0, v1], .int x1 :: .ref a0 :: [], SH, σ) = (ma_ev ro d 169 [.ref a0, .int x1] SH σ).bind (fun q => ma_rn ro (d + 1) 170 (10, [v0, v1], (q.1.toList ++ []), q.2.1, q.2.2))) ∧
  (∀ (v0 : Option Value) (v1 : Option Value) (st : List Value) (σ : ma_H), ma_rn ro d 170 (10, [v0, v1], st, SH, σ) = ma_rn ro d 170 (11, [v0, v1], .int (nI 2) :: st, SH, σ)) ∧
  (∀ (v0 : Option Value) (v1 : Option Value) (x1 : Int32) (x2 : Int32) (st : List Value) (σ : ma_H), ma_rn ro d 170 (11, [v0, v1], .int x1 :: .int x2 :: st, SH, σ) = ma_rn ro d 170 (12, [v0, v1], .int (x2 * x1) :: st, SH, σ)) ∧
  (∀ (v0 : Option Value) (v1 : Option Value) (x1 : Int32) (σ : ma_H), ma_rn ro d 170 (12, [v0, v1], [.int x1], SH, σ) = some (some (.int x1), SH, σ)) := ⟨fun v1 a1 st σ => q_go e170_0 rfl rfl,
  fun v0 v1 st σ => q_iconst e170_1 (by decide),
  fun v0 v1 x1 a0 σ hc => q_invV (as := [.int x1]) (rest := []) e170_2 o_170 bn_8_207 c_8_207 m_164 (by decide) rfl rfl (Nat.le_of_ble_eq_true rfl) (Nat.le_of_ble_eq_true rfl) hc,
  fun v1 a1 st σ => q_go e170_5 rfl rfl,
  fun v0 x1 st σ => q_go e170_6 rfl rfl,
  fun v0 v1 x1 a0 σ hc => q_invV (as := [.int x1]) (rest := []) e170_7 o_170 bn_8_231 c_8_231 m_169 (by decide) rfl rfl (Nat.le_of_ble_eq_true rfl) (Nat.le_of_ble_eq_true rfl) hc,
  fun v0 v1 st σ => q_iconst e170_10 (by decide),
  fun v0 v1 x1 x2 st σ => q_go e170_11 rfl rfl,
  fun v0 v1 x1 σ => q_iret e170_12 r_170⟩
theorem E170 {ro : ma_RO} {d : Nat} (a0 : Nat) (x1 : Int32) (sh : List ma_Sh) (σ : ma_H) : ma_ev ro d 170 [.ref a0, .int x1] sh σ = ma_rn ro d 170 (0, [some (.ref a0), some (.int x1)], [], sh, σ) := q_ent x_170 rfl
theorem e171_0 : decode (ma_cd 171) 0 = .ok (.aload_n 0, 1) := (congrArg (fun b => decode b 0) cd_171).trans dX8_looksActs_0
theorem e171_1 : decode (ma_cd 171) 1 = .ok (.getfield 213, 3) := (congrArg (fun b => decode b 1) cd_171).trans dX8_looksActs_1
theorem e171_4 : decode (ma_cd 171) 4 = .ok (.iconst 3, 1) := (congrArg (fun b => decode b 4) cd_171).trans dX8_looksActs_4
theorem e171_5 : decode (ma_cd 171) 5 = .ok (.invokestatic 216, 3) := (congrArg (fun b => decode b 5) cd_171).trans dX8_looksActs_5
theorem e171_8 : decode (ma_cd 171) 8 = .ok (.ifCond .eq 18, 3) := (congrArg (fun b => decode b 8) cd_171).trans dX8_looksActs_8
theorem e171_11 : decode (ma_cd 171) 11 = .ok (.aload_n 0, 1) := (congrArg (fun b => decode b 11) cd_171).trans dX8_looksActs_11
theorem e171_12 : decode (ma_cd 171) 12 = .ok (.bipush 31, 2) := (congrArg (fun b => decode b 12) cd_171).trans dX8_looksActs_12
theorem e171_14 : decode (ma_cd 171) 14 = .ok (.invokevirtual 207, 3) := (congrArg (fun b => decode b 14) cd_171).trans dX8_looksActs_14
theorem e171_17 : decode (ma_cd 171) 17 = .ok (.aload_n 0, 1) := (congrArg (fun b => decode b 17) cd_171).trans dX8_looksActs_17
theorem e171_18 : decode (ma_cd 171) 18 = .ok (.iload_n 1, 1) := (congrArg (fun b => decode b 18) cd_171).trans dX8_looksActs_18
theorem e171_19 : decode (ma_cd 171) 19 = .ok (.invokevirtual 234, 3) := (congrArg (fun b => decode b 19) cd_171).trans dX8_looksActs_19
theorem e171_22 : decode (ma_cd 171) 22 = .ok (.bipush 7, 2) := (congrArg (fun b => decode b 22) cd_171).trans dX8_looksActs_22
theorem e171_24 : decode (ma_cd 171) 24 = .ok (.ixor, 1) := (congrArg (fun b => decode b 24) cd_171).trans dX8_looksActs_24
theorem e171_25 : decode (ma_cd 171) 25 = .ok (.ireturn, 1) := (congrArg (fun b => decode b 25) cd_171).trans dX8_looksActs_25
theorem e171_26 : decode (ma_cd 171) 26 = .ok (.aload_n 0, 1) := (congrArg (fun b => decode b 26) cd_171).trans dX8_looksActs_26
theorem e171_27 : decode (ma_cd 171) 27 = .ok (.getfield 213, 3) := (congrArg (fun b => decode b 27) cd_171).trans dX8_looksActs_27
theorem e171_30 : decode (ma_cd 171) 30 = .ok (.iconst 4, 1) := (congrArg (fun b => decode b 30) cd_171).trans dX8_looksActs_30
theorem e171_31 : decode (ma_cd 171) 31 = .ok (.if_icmp .ne 25, 3) := (congrArg (fun b => decode b 31) cd_171).trans dX8_looksActs_31
theorem e171_34 : decode (ma_cd 171) 34 = .ok (.aload_n 0, 1) := (congrArg (fun b => decode b 34) cd_171).trans dX8_looksActs_34
theorem e171_35 : decode (ma_cd 171) 35 = .ok (.bipush 41, 2) := (congrArg (fun b => decode b 35) cd_171).trans dX8_looksActs_35
theorem e171_37 : decode (ma_cd 171) 37 = .ok (.invokevirtual 207, 3) := (congrArg (fun b => decode b 37) cd_171).trans dX8_looksActs_37
theorem e171_40 : decode (ma_cd 171) 40 = .ok (.aload_n 0, 1) := (congrArg (fun b => decode b 40) cd_171).trans dX8_looksActs_40
theorem e171_41 : decode (ma_cd 171) 41 = .ok (.iload_n 1, 1) := (congrArg (fun b => decode b 41) cd_171).trans dX8_looksActs_41
theorem e171_42 : decode (ma_cd 171) 42 = .ok (.iconst 1, 1) := (congrArg (fun b => decode b 42) cd_171).trans dX8_looksActs_42
theorem e171_43 : decode (ma_cd 171) 43 = .ok (.isub, 1) := (congrArg (fun b => decode b 43) cd_171).trans dX8_looksActs_43
theorem e171_44 : decode (ma_cd 171) 44 = .ok (.invokevirtual 234, 3) := (congrArg (fun b => decode b 44) cd_171).trans dX8_looksActs_44
theorem e171_47 : decode (ma_cd 171) 47 = .ok (.istore_n 2, 1) := (congrArg (fun b => decode b 47) cd_171).trans dX8_looksActs_47
theorem e171_48 : decode (ma_cd 171) 48 = .ok (.iload_n 2, 1) := (congrArg (fun b => decode b 48) cd_171).trans dX8_looksActs_48
theorem e171_49 : decode (ma_cd 171) 49 = .ok (.aload_n 0, 1) := (congrArg (fun b => decode b 49) cd_171).trans dX8_looksActs_49
theorem e171_50 : decode (ma_cd 171) 50 = .ok (.iconst 2, 1) := (congrArg (fun b => decode b 50) cd_171).trans dX8_looksActs_50
theorem e171_51 : decode (ma_cd 171) 51 = .ok (.invokevirtual 222, 3) := (congrArg (fun b => decode b 51) cd_171).trans dX8_looksActs_51
theorem e171_54 : decode (ma_cd 171) 54 = .ok (.iadd, 1) := (congrArg (fun b => decode b 54) cd_171).trans dX8_looksActs_54
theorem e171_55 : decode (ma_cd 171) 55 = .ok (.ireturn, 1) := (congrArg (fun b => decode b 55) cd_171).trans dX8_looksActs_55
theorem e171_56 : decode (ma_cd 171) 56 = .ok (.aload_n 0, 1) := (congrArg (fun b => decode b 56) cd_171).trans dX8_looksActs_56
theorem e171_57 : decode (ma_cd 171) 57 = .ok (.iload_n 1, 1) := (congrArg (fun b => decode b 57) cd_171).trans dX8_looksActs_57
theorem e171_58 : decode (ma_cd 171) 58 = .ok (.invokevirtual 234, 3) := (congrArg (fun b => decode b 58) cd_171).trans dX8_looksActs_58
theorem e171_61 : decode (ma_cd 171) 61 = .ok (.ireturn, 1) := (congrArg (fun b => decode b 61) cd_171).trans dX8_looksActs_61
theorem S171 {ro : ma_RO} {d : Nat} : (∀ (v1 : Option Value) (v2 : Option Value) (a1 : Nat) (st : List Value) (σ : ma_H), ma_rn ro d 171 (0, [some (.ref a1), v1, v2], st, SH, σ) = ma_rn ro d 171 (1, [some (.ref a1), v1, v2], .ref a1 :: st, SH, σ)) ∧
  (∀ (v0 : Option Value) (v1 : Option Value) (v2 : Option Value) (a1 : Nat) (st : List Value) (σ : ma_H) (hc : hk_cls a1 = 8), ma_rn ro d 171 (1, [v0, v1, v2], .ref a1 :: st, SH, σ) = ma_rn ro d 171 (4, [v0, v1, v2], .int (σ a1 14) :: st, SH, σ)) ∧
  (∀ (v0 : Option Value) (v1 : Option Value) (v2 : Option Value) (st : List Value) (σ : ma_H), ma_rn ro d 171 (4, [v0, v1, v2], st, SH, σ) = ma_rn ro d 171 (5, [v0, v1, v2], .int (nI 3) :: st, SH, σ)) ∧
  (∀ (v0 : Option Value) (v1 : Option Value) (v2 : Option Value) (x1 : Int32) (x2 : Int32) (σ : ma_H), ma_rn ro (d + 1) 171 (5, [v0, v1, v2], .int x2 :: .int x1 :: [], SH, σ) = (ma_ev ro d 165 [.int x1, .int x2] SH σ).bind (fun q => ma_rn ro (d + 1) 171 (8, [v0, v1, v2], (q.1.toList ++ []), q.2.1, q.2.2))) ∧
  (∀ (v0 : Option Value) (v1 : Option Value) (v2 : Option Value) (x1 : Int32) (st : List Value) (σ : ma_H), ma_rn ro d 171 (8, [v0, v1, v2], .int x1 :: st, SH, σ) = if x1 = nI 0 then ma_rn ro d 171 (26, [v0, v1, v2], st, SH, σ) else ma_rn ro d 171 (11, [v0, v1, v2], st, SH, σ)) ∧
  (∀ (v1 : Option Value) (v2 : Option Value) (a1 : Nat) (st : List Value) (σ : ma_H), ma_rn ro d 171 (11, [some (.ref a1), v1, v2], st, SH, σ) = ma_rn ro d 171 (12, [some (.ref a1), v1, v2], .ref a1 :: st, SH, σ)) ∧
  (∀ (v0 : Option Value) (v1 : Option Value) (v2 : Option Value) (st : List Value) (σ : ma_H), ma_rn ro d 171 (12, [v0, v1, v2], st, SH, σ) = ma_rn ro d 171 (14, [v0, v1, v2], .int (nI 31) :: st, SH, σ)) ∧
  (∀ (v0 : Option Value) (v1 : Option Value) (v2 : Option Value) (x1 : Int32) (a0 : Nat) (σ : ma_H) (hc : hk_cls a0 = 8), ma_rn ro (d + 1) 171 (14, [v0, v1, v2], .int x1 :: .ref a0 :: [], SH, σ) = (ma_ev ro d 164 [.ref a0, .int x1] SH σ).bind (fun q => ma_rn ro (d + 1) 171 (17, [v0, v1, v2], (q.1.toList ++ []), q.2.1, q.2.2))) ∧
  (∀ (v1 : Option Value) (v2 : Option Value) (a1 : Nat) (st : List Value) (σ : ma_H), ma_rn ro d 171 (17, [some (.ref a1), v1, v2], st, SH, σ) = ma_rn ro d 171 (18, [some (.ref a1), v1, v2], .ref a1 :: st, SH, σ)) ∧
  (∀ (v0 : Option Value) (v2 : Option Value) (x1 : Int32) (st : List Value) (σ : ma_H), ma_rn ro d 171 (18, [v0, some (.int x1), v2], st, SH, σ) = ma_rn ro d 171 (19, [v0, some (.int x1), v2], .int x1 :: st, SH, σ)) ∧
  (∀ (v0 : Option Value) (v1 : Option Value) (v2 : Option Value) (x1 : Int32) (a0 : Nat) (σ : ma_H) (hc : hk_cls a0 = 8), ma_rn ro (d + 1) 171 (19, [v0, v1, v2], .int x1 :: .ref a0 :: [], SH, σ) = (ma_ev ro d 170 [.ref a0, .int x1] SH σ).bind (fun q => ma_rn ro (d + 1) 171 (22, [v0, v1, v2], (q.1.toList ++ []), q.2.1, q.2.2))) ∧
  (∀ (v0 : Option Value) (v1 : Option Value) (v2 : Option Value) (st : List Value) (σ : ma_H), ma_rn ro d 171 (22, [v0, v1, v2], st, SH, σ) = ma_rn ro d 171 (24, [v0, v1, v2], .int (nI 7) :: st, SH, σ)) ∧
  (∀ (v0 : Option Value) (v1 : Option Value) (v2 : Option Value) (x1 : Int32) (x2 : Int32) (st : List Value) (σ : ma_H), ma_rn ro d 171 (24, [v0, v1, v2], .int x1 :: .int x2 :: st, SH, σ) = ma_rn ro d 171 (25, [v0, v1, v2], .int (x2 ^^^ x1) :: st, SH, σ)) ∧
  (∀ (v0 : Option Value) (v1 : Option Value) (v2 : Option Value) (x1 : Int32) (σ : ma_H), ma_rn ro d 171 (25, [v0, v1, v2], [.int x1], SH, σ) = some (some (.int x1), SH, σ)) ∧
  (∀ (v1 : Option Value) (v2 : Option Value) (a1 : Nat) (st : List Value) (σ : ma_H), ma_rn ro d 171 (26, [some (.ref a1), v1, v2], st, SH, σ) = ma_rn ro d 171 (27, [some (.ref a1), v1, v2], .ref a1 :: st, SH, σ)) ∧
  (∀ (v0 : Option Value) (v1 : Option Value) (v2 : Option Value) (a1 : Nat) (st : List Value) (σ : ma_H) (hc : hk_cls a1 = 8), ma_rn ro d 171 (27, [v0, v1, v2], .ref a1 :: st, SH, σ) = ma_rn ro d 171 (30, [v0, v1, v2], .int (σ a1 14) :: st, SH, σ)) ∧
  (∀ (v0 : Option Value) (v1 : Option Value) (v2 : Option Value) (st : List Value) (σ : ma_H), ma_rn ro d 171 (30, [v0, v1, v2], st, SH, σ) = ma_rn ro d 171 (31, [v0, v1, v2], .int (nI 4) :: st, SH, σ)) ∧
  (∀ (v0 : Option Value) (v1 : Option Value) (v2 : Option Value) (x1 : Int32) (x2 : Int32) (st : List Value) (σ : ma_H), ma_rn ro d 171 (31, [v0, v1, v2], .int x1 :: .int x2 :: st, SH, σ) = if x2 = x1 then ma_rn ro d 171 (34, [v0, v1, v2], st, SH, σ) else ma_rn ro d 171 (56, [v0, v1, v2], st, SH, σ)) ∧
  (∀ (v1 : Option Value) (v2 : Option Value) (a1 : Nat) (st : List Value) (σ : ma_H), ma_rn ro d 171 (34, [some (.ref a1), v1, v2], st, SH, σ) = ma_rn ro d 171 (35, [some (.ref a1), v1, v2], .ref a1 :: st, SH, σ)) ∧
  (∀ (v0 : Option Value) (v1 : Option Value) (v2 : Option Value) (st : List Value) (σ : ma_H), ma_rn ro d 171 (35, [v0, v1, v2], st, SH, σ) = ma_rn ro d 171 (37, [v0, v1, v2], .int (nI 41) :: st, SH, σ)) ∧
  (∀ (v0 : Option Value) (v1 : Option Value) (v2 : Option Value) (x1 : Int32) (a0 : Nat) (σ : ma_H) (hc : hk_cls a0 = 8), ma_rn ro (d + 1) 171 (37, [v0, v1, v2], .int x1 :: .ref a0 :: [], SH, σ) = (ma_ev ro d 164 [.ref a0, .int x1] SH σ).bind (fun q => ma_rn ro (d + 1) 171 (40, [v0, v1, v2], (q.1.toList ++ []), q.2.1, q.2.2))) ∧
  (∀ (v1 : Option Value) (v2 : Option Value) (a1 : Nat) (st : List Value) (σ : ma_H), ma_rn ro d 171 (40, [some (.ref a1), v1, v2], st, SH, σ) = ma_rn ro d 171 (41, [some (.ref a1), v1, v2], .ref a1 :: st, SH, σ)) ∧
  (∀ (v0 : Option Value) (v2 : Option Value) (x1 : Int32) (st : List Value) (σ : ma_H), ma_rn ro d 171 (41, [v0, some (.int x1), v2], st, SH, σ) = ma_rn ro d 171 (42, [v0, some (.int x1), v2], .int x1 :: st, SH, σ)) ∧
  (∀ (v0 : Option Value) (v1 : Option Value) (v2 : Option Value) (st : List Value) (σ : ma_H), ma_rn ro d 171 (42, [v0, v1, v2], st, SH, σ) = ma_rn ro d 171 (43, [v0, v1, v2], .int (nI 1) :: st, SH, σ)) ∧
  (∀ (v0 : Option Value) (v1 : Option Value) (v2 : Option Value) (x1 : Int32) (x2 : Int32) (st : List Value) (σ : ma_H), ma_rn ro d 171 (43, [v0, v1, v2], .int x1 :: .int x2 :: st, SH, σ) = ma_rn ro d 171 (44, [v0, v1, v2], .int (x2 - x1) :: st, SH, σ)) ∧
  (∀ (v0 : Option Value) (v1 : Option Value) (v2 : Option Value) (x1 : Int32) (a0 : Nat) (σ : ma_H) (hc : hk_cls a0 = 8), ma_rn ro (d + 1) 171 (44, [v0, v1, v2], .int x1 :: .ref a0 :: [], SH, σ) = (ma_ev ro d 170 [.ref a0, .int x1] SH σ).bind (fun q => ma_rn ro (d + 1) 171 (47, [v0, v1, v2], (q.1.toList ++ []), q.2.1, q.2.2))) ∧
  (∀ (v0 : Option Value) (v2 : Option Value) (x9 : Int32) (x1 : Int32) (st : List Value) (σ : ma_H), ma_rn ro d 171 (47, [v0, some (.int x9), v2], .int x1 :: st, SH, σ) = ma_rn ro d 171 (48, [v0, some (.int x9), some (.int x1)], st, SH, σ)) ∧
  (∀ (v0 : Option Value) (v1 : Option Value) (x1 : Int32) (st : List Value) (σ : ma_H), ma_rn ro d 171 (48, [v0, v1, some (.int x1)], st, SH, σ) = ma_rn ro d 171 (49, [v0, v1, some (.int x1)], .int x1 :: st, SH, σ)) ∧
  (∀ (v1 : Option Value) (v2 : Option Value) (a1 : Nat) (st : List Value) (σ : ma_H), ma_rn ro d 171 (49, [some (.ref a1), v1, v2], st, SH, σ) = ma_rn ro d 171 (50, [some (.ref a1), v1, v2], .ref a1 :: st, SH, σ)) ∧
  (∀ (v0 : Option Value) (v1 : Option Value) (v2 : Option Value) (st : List Value) (σ : ma_H), ma_rn ro d 171 (50, [v0, v1, v2], st, SH, σ) = ma_rn ro d 171 (51, [v0, v1, v2], .int (nI 2) :: st, SH, σ)) ∧
  (∀ (v0 : Option Value) (v1 : Option Value) (v2 : Option Value) (x20 : Int32) (x1 : Int32) (a0 : Nat) (σ : ma_H) (hc : hk_cls a0 = 8), ma_rn ro (d + 1) 171 (51, [v0, v1, v2], .int x1 :: .ref a0 :: .int x20 :: [], SH, σ) = (ma_ev ro d 167 [.ref a0, .int x1] SH σ).bind (fun q => ma_rn ro (d + 1) 171 (54, [v0, v1, v2], (q.1.toList ++ (.int x20 :: [])), q.2.1, q.2.2))) ∧
  (∀ (v0 : Option Value) (v1 : Option Value) (v2 : Option Value) (x1 : Int32) (x2 : Int32) (st : List Value) (σ : ma_H), ma_rn ro d 171 (54, [v0, v1, v2], .int x1 :: .int x2 :: st, SH, σ) = ma_rn ro d 171 (55, [v0, v1, v2], .int (x2 + x1) :: st, SH, σ)) ∧
  (∀ (v0 : Option Value) (v1 : Option Value) (v2 : Option Value) (x1 : Int32) (σ : ma_H), ma_rn ro d 171 (55, [v0, v1, v2], [.int x1], SH, σ) = some (some (.int x1), SH, σ)) ∧
  (∀ (v1 : Option Value) (v2 : Option Value) (a1 : Nat) (st : List Value) (σ : ma_H), ma_rn ro d 171 (56, [some (.ref a1), v1, v2], st, SH, σ) = ma_rn ro d 171 (57, [some (.ref a1), v1, v2], .ref a1 :: st, SH, σ)) ∧
  (∀ (v0 : Option Value) (v2 : Option Value) (x1 : Int32) (st : List Value) (σ : ma_H), ma_rn ro d 171 (57, [v0, some (.int x1), v2], st, SH, σ) = ma_rn ro d 171 (58, [v0, some (.int x1), v2], .int x1 :: st, SH, σ)) ∧
  (∀ (v0 : Option Value) (v1 : Option Value) (v2 : Option Value) (x1 : Int32) (a0 : Nat) (σ : ma_H) (hc : hk_cls a0 = 8), ma_rn ro (d + 1) 171 (58, [v0, v1, v2], .int x1 :: .ref a0 :: [], SH, σ) = (ma_ev ro d 170 [.ref a0, .int x1] SH σ).bind (fun q => ma_rn ro (d + 1) 171 (61, [v0, v1, v2], (q.1.toList ++ []), q.2.1, q.2.2))) ∧
  (∀ (v0 : Option Value) (v1 : Option Value) (v2 : Option Value) (x1 : Int32) (σ : ma_H), ma_rn ro d 171 (61, [v0, v1, v2], [.int x1], SH, σ) = some (some (.int x1), SH, σ)) := ⟨fun v1 v2 a1 st σ => q_go e171_0 rfl rfl,
  fun v0 v1 v2 a1 st σ hc => q_getI e171_1 o_171 f_8_213 (by decide) hc,
  fun v0 v1 v2 st σ => q_iconst e171_4 (by decide),
  fun v0 v1 v2 x1 x2 σ => q_invS (as := [.int x1, .int x2]) (rest := []) e171_5 o_171 bn_8_216 c_8_216 ⟨m_165.1, m_165.2.1, m_165.2.2.1⟩ rfl rfl (Nat.le_of_ble_eq_true rfl) (Nat.le_of_ble_eq_true rfl),
  fun v0 v1 v2 x1 st σ => (q_if e171_8 rfl).trans q_eq,
  fun v1 v2 a1 st σ => q_go e171_11 rfl rfl,
  fun v0 v1 v2 st σ => q_bipush e171_12 (by decide),
  fun v0 v1 v2 x1 a0 σ hc => q_invV (as := [.int x1]) (rest := []) e171_14 o_171 bn_8_207 c_8_207 m_164 (by decide) rfl rfl (Nat.le_of_ble_eq_true rfl) (Nat.le_of_ble_eq_true rfl) hc,
  fun v1 v2 a1 st σ => q_go e171_17 rfl rfl,
  fun v0 v2 x1 st σ => q_go e171_18 rfl rfl,
  fun v0 v1 v2 x1 a0 σ hc => q_invV (as := [.int x1]) (rest := []) e171_19 o_171 bn_8_234 c_8_234 m_170 (by decide) rfl rfl (Nat.le_of_ble_eq_true rfl) (Nat.le_of_ble_eq_true rfl) hc,
  fun v0 v1 v2 st σ => q_bipush e171_22 (by decide),
  fun v0 v1 v2 x1 x2 st σ => q_go e171_24 rfl rfl,
  fun v0 v1 v2 x1 σ => q_iret e171_25 r_171,
  fun v1 v2 a1 st σ => q_go e171_26 rfl rfl,
  fun v0 v1 v2 a1 st σ hc => q_getI e171_27 o_171 f_8_213 (by decide) hc,
  fun v0 v1 v2 st σ => q_iconst e171_30 (by decide),
  fun v0 v1 v2 x1 x2 st σ => (q_cmp e171_31 rfl).trans q_ne,
  fun v1 v2 a1 st σ => q_go e171_34 rfl rfl,
  fun v0 v1 v2 st σ => q_bipush e171_35 (by decide),
  fun v0 v1 v2 x1 a0 σ hc => q_invV (as := [.int x1]) (rest := []) e171_37 o_171 bn_8_207 c_8_207 m_164 (by decide) rfl rfl (Nat.le_of_ble_eq_true rfl) (Nat.le_of_ble_eq_true rfl) hc,
  fun v1 v2 a1 st σ => q_go e171_40 rfl rfl,
  fun v0 v2 x1 st σ => q_go e171_41 rfl rfl,
  fun v0 v1 v2 st σ => q_iconst e171_42 (by decide),
  fun v0 v1 v2 x1 x2 st σ => q_go e171_43 rfl rfl,
  fun v0 v1 v2 x1 a0 σ hc => q_invV (as := [.int x1]) (rest := []) e171_44 o_171 bn_8_234 c_8_234 m_170 (by decide) rfl rfl (Nat.le_of_ble_eq_true rfl) (Nat.le_of_ble_eq_true rfl) hc,
  fun v0 v2 x9 x1 st σ => q_go e171_47 rfl rfl,
  fun v0 v1 x1 st σ => q_go e171_48 rfl rfl,
  fun v1 v2 a1 st σ => q_go e171_49 rfl rfl,
  fun v0 v1 v2 st σ => q_iconst e171_50 (by decide),
  fun v0 v1 v2 x20 x1 a0 σ hc => q_invV (as := [.int x1]) (rest := .int x20 :: []) e171_51 o_171 bn_8_222 c_8_222 m_167 (by decide) rfl rfl (Nat.le_of_ble_eq_true rfl) (Nat.le_of_ble_eq_true rfl) hc,
  fun v0 v1 v2 x1 x2 st σ => q_go e171_54 rfl rfl,
  fun v0 v1 v2 x1 σ => q_iret e171_55 r_171,
  fun v1 v2 a1 st σ => q_go e171_56 rfl rfl,
  fun v0 v2 x1 st σ => q_go e171_57 rfl rfl,
  fun v0 v1 v2 x1 a0 σ hc => q_invV (as := [.int x1]) (rest := []) e171_58 o_171 bn_8_234 c_8_234 m_170 (by decide) rfl rfl (Nat.le_of_ble_eq_true rfl) (Nat.le_of_ble_eq_true rfl) hc,
  fun v0 v1 v2 x1 σ => q_iret e171_61 r_171⟩
theorem E171 {ro : ma_RO} {d : Nat} (a0 : Nat) (x1 : Int32) (sh : List ma_Sh) (σ : ma_H) : ma_ev ro d 171 [.ref a0, .int x1] sh σ = ma_rn ro d 171 (0, [some (.ref a0), some (.int x1), none], [], sh, σ) := q_ent x_171 rfl
theorem e172_0 : decode (ma_cd 172) 0 = .ok (.aload_n 0, 1) := (congrArg (fun b => decode b 0) cd_172).trans dX8_act_0
theorem e172_1 : decode (ma_cd 172) 1 = .ok (.iconst 0, 1) := (congrArg (fun b => decode b 1) cd_172).trans dX8_act_1
theorem e172_2 : decode (ma_cd 172) 2 = .ok (.putfield 204, 3) := (congrArg (fun b => decode b 2) cd_172).trans dX8_act_2
theorem e172_5 : decode (ma_cd 172) 5 = .ok (.aload_n 0, 1) := (congrArg (fun b => decode b 5) cd_172).trans dX8_act_5
theorem e172_6 : decode (ma_cd 172) 6 = .ok (.iload_n 1, 1) := (congrArg (fun b => decode b 6) cd_172).trans dX8_act_6
theorem e172_7 : decode (ma_cd 172) 7 = .ok (.invokevirtual 129, 3) := (congrArg (fun b => decode b 7) cd_172).trans dX8_act_7
theorem e172_10 : decode (ma_cd 172) 10 = .ok (.ifCond .eq 12, 3) := (congrArg (fun b => decode b 10) cd_172).trans dX8_act_10
theorem e172_13 : decode (ma_cd 172) 13 = .ok (.iload_n 2, 1) := (congrArg (fun b => decode b 13) cd_172).trans dX8_act_13
theorem e172_14 : decode (ma_cd 172) 14 = .ok (.iconst 0, 1) := (congrArg (fun b => decode b 14) cd_172).trans dX8_act_14
theorem e172_15 : decode (ma_cd 172) 15 = .ok (.iconst 2, 1) := (congrArg (fun b => decode b 15) cd_172).trans dX8_act_15
theorem e172_16 : decode (ma_cd 172) 16 = .ok (.invokestatic 35, 3) := (congrArg (fun b => decode b 16) cd_172).trans dX8_act_16
theorem e172_19 : decode (ma_cd 172) 19 = .ok (.ifCond .ne 5, 3) := (congrArg (fun b => decode b 19) cd_172).trans dX8_act_19
theorem e172_22 : decode (ma_cd 172) 22 = .ok (.iconst 0, 1) := (congrArg (fun b => decode b 22) cd_172).trans dX8_act_22
theorem e172_23 : decode (ma_cd 172) 23 = .ok (.ireturn, 1) := (congrArg (fun b => decode b 23) cd_172).trans dX8_act_23
theorem e172_24 : decode (ma_cd 172) 24 = .ok (.aload_n 0, 1) := (congrArg (fun b => decode b 24) cd_172).trans dX8_act_24
theorem e172_25 : decode (ma_cd 172) 25 = .ok (.aload_n 0, 1) := (congrArg (fun b => decode b 25) cd_172).trans dX8_act_25
theorem e172_26 : decode (ma_cd 172) 26 = .ok (.getfield 9, 3) := (congrArg (fun b => decode b 26) cd_172).trans dX8_act_26
theorem e172_29 : decode (ma_cd 172) 29 = .ok (.bipush 40, 2) := (congrArg (fun b => decode b 29) cd_172).trans dX8_act_29
theorem e172_31 : decode (ma_cd 172) 31 = .ok (.iload_n 1, 1) := (congrArg (fun b => decode b 31) cd_172).trans dX8_act_31
theorem e172_32 : decode (ma_cd 172) 32 = .ok (.iadd, 1) := (congrArg (fun b => decode b 32) cd_172).trans dX8_act_32
theorem e172_33 : decode (ma_cd 172) 33 = .ok (.iaload, 1) := (congrArg (fun b => decode b 33) cd_172).trans dX8_act_33
theorem e172_34 : decode (ma_cd 172) 34 = .ok (.putfield 213, 3) := (congrArg (fun b => decode b 34) cd_172).trans dX8_act_34
theorem e172_37 : decode (ma_cd 172) 37 = .ok (.aload_n 0, 1) := (congrArg (fun b => decode b 37) cd_172).trans dX8_act_37
theorem e172_38 : decode (ma_cd 172) 38 = .ok (.iload_n 1, 1) := (congrArg (fun b => decode b 38) cd_172).trans dX8_act_38
theorem e172_39 : decode (ma_cd 172) 39 = .ok (.putfield 210, 3) := (congrArg (fun b => decode b 39) cd_172).trans dX8_act_39
theorem e172_42 : decode (ma_cd 172) 42 = .ok (.aload_n 0, 1) := (congrArg (fun b => decode b 42) cd_172).trans dX8_act_42
theorem e172_43 : decode (ma_cd 172) 43 = .ok (.aload_n 0, 1) := (congrArg (fun b => decode b 43) cd_172).trans dX8_act_43
theorem e172_44 : decode (ma_cd 172) 44 = .ok (.getfield 9, 3) := (congrArg (fun b => decode b 44) cd_172).trans dX8_act_44
theorem e172_47 : decode (ma_cd 172) 47 = .ok (.bipush 46, 2) := (congrArg (fun b => decode b 47) cd_172).trans dX8_act_47
theorem e172_49 : decode (ma_cd 172) 49 = .ok (.iload_n 1, 1) := (congrArg (fun b => decode b 49) cd_172).trans dX8_act_49
theorem e172_50 : decode (ma_cd 172) 50 = .ok (.iadd, 1) := (congrArg (fun b => decode b 50) cd_172).trans dX8_act_50
theorem e172_51 : decode (ma_cd 172) 51 = .ok (.iaload, 1) := (congrArg (fun b => decode b 51) cd_172).trans dX8_act_51
theorem e172_52 : decode (ma_cd 172) 52 = .ok (.putfield 225, 3) := (congrArg (fun b => decode b 52) cd_172).trans dX8_act_52
theorem e172_55 : decode (ma_cd 172) 55 = .ok (.iload_n 2, 1) := (congrArg (fun b => decode b 55) cd_172).trans dX8_act_55
theorem e172_56 : decode (ma_cd 172) 56 = .ok (.ifCond .ne 11, 3) := (congrArg (fun b => decode b 56) cd_172).trans dX8_act_56
theorem e172_59 : decode (ma_cd 172) 59 = .ok (.aload_n 0, 1) := (congrArg (fun b => decode b 59) cd_172).trans dX8_act_59
theorem e172_60 : decode (ma_cd 172) 60 = .ok (.iload_n 3, 1) := (congrArg (fun b => decode b 60) cd_172).trans dX8_act_60
theorem e172_61 : decode (ma_cd 172) 61 = .ok (.invokevirtual 222, 3) := (congrArg (fun b => decode b 61) cd_172).trans dX8_act_61
theorem e172_64 : decode (ma_cd 172) 64 = .ok (.goto 21, 3) := (congrArg (fun b => decode b 64) cd_172).trans dX8_act_64
theorem e172_67 : decode (ma_cd 172) 67 = .ok (.iload_n 2, 1) := (congrArg (fun b => decode b 67) cd_172).trans dX8_act_67
theorem e172_68 : decode (ma_cd 172) 68 = .ok (.iconst 1, 1) := (congrArg (fun b => decode b 68) cd_172).trans dX8_act_68
theorem e172_69 : decode (ma_cd 172) 69 = .ok (.if_icmp .ne 11, 3) := (congrArg (fun b => decode b 69) cd_172).trans dX8_act_69
theorem e172_72 : decode (ma_cd 172) 72 = .ok (.aload_n 0, 1) := (congrArg (fun b => decode b 72) cd_172).trans dX8_act_72
theorem e172_73 : decode (ma_cd 172) 73 = .ok (.iload_n 3, 1) := (congrArg (fun b => decode b 73) cd_172).trans dX8_act_73
theorem e172_74 : decode (ma_cd 172) 74 = .ok (.invokevirtual 231, 3) := (congrArg (fun b => decode b 74) cd_172).trans dX8_act_74
theorem e172_77 : decode (ma_cd 172) 77 = .ok (.goto 8, 3) := (congrArg (fun b => decode b 77) cd_172).trans dX8_act_77
theorem e172_80 : decode (ma_cd 172) 80 = .ok (.aload_n 0, 1) := (congrArg (fun b => decode b 80) cd_172).trans dX8_act_80
theorem e172_81 : decode (ma_cd 172) 81 = .ok (.iload_n 3, 1) := (congrArg (fun b => decode b 81) cd_172).trans dX8_act_81
theorem e172_82 : decode (ma_cd 172) 82 = .ok (.invokevirtual 237, 3) := (congrArg (fun b => decode b 82) cd_172).trans dX8_act_82
theorem e172_85 : decode (ma_cd 172) 85 = .ok (.ireturn, 1) := (congrArg (fun b => decode b 85) cd_172).trans dX8_act_85
theorem S172 {ro : ma_RO} {d : Nat} : (∀ (v1 : Option Value) (v2 : Option Value) (v3 : Option Value) (a1 : Nat) (st : List Value) (σ : ma_H), ma_rn ro d 172 (0, [some (.ref a1), v1, v2, v3], st, SH, σ) = ma_rn ro d 172 (1, [some (.ref a1), v1, v2, v3], .ref a1 :: st, SH, σ)) ∧
  (∀ (v0 : Option Value) (v1 : Option Value) (v2 : Option Value) (v3 : Option Value) (st : List Value) (σ : ma_H), ma_rn ro d 172 (1, [v0, v1, v2, v3], st, SH, σ) = ma_rn ro d 172 (2, [v0, v1, v2, v3], .int (nI 0) :: st, SH, σ)) ∧
  (∀ (v0 : Option Value) (v1 : Option Value) (v2 : Option Value) (v3 : Option Value) (x1 : Int32) (a2 : Nat) (st : List Value) (σ : ma_H) (hc : hk_cls a2 = 8), ma_rn ro d 172 (2, [v0, v1, v2, v3], .int x1 :: .ref a2 :: st, SH, σ) = ma_rn ro d 172 (5, [v0, v1, v2, v3], st, SH, (ma_up σ a2 13 x1))) ∧
  (∀ (v1 : Option Value) (v2 : Option Value) (v3 : Option Value) (a1 : Nat) (st : List Value) (σ : ma_H), ma_rn ro d 172 (5, [some (.ref a1), v1, v2, v3], st, SH, σ) = ma_rn ro d 172 (6, [some (.ref a1), v1, v2, v3], .ref a1 :: st, SH, σ)) ∧
  (∀ (v0 : Option Value) (v2 : Option Value) (v3 : Option Value) (x1 : Int32) (st : List Value) (σ : ma_H), ma_rn ro d 172 (6, [v0, some (.int x1), v2, v3], st, SH, σ) = ma_rn ro d 172 (7, [v0, some (.int x1), v2, v3], .int x1 :: st, SH, σ)) ∧
  (∀ (v0 : Option Value) (v1 : Option Value) (v2 : Option Value) (v3 : Option Value) (x1 : Int32) (a0 : Nat) (σ : ma_H) (hc : hk_cls a0 = 8), ma_rn ro (d + 1) 172 (7, [v0, v1, v2, v3], .int x1 :: .ref a0 :: [], SH, σ) = (ma_ev ro d 103 [.ref a0, .int x1] SH σ).bind (fun q => ma_rn ro (d + 1) 172 (10, [v0, v1, v2, v3], (q.1.toList ++ []), q.2.1, q.2.2))) ∧
  (∀ (v0 : Option Value) (v1 : Option Value) (v2 : Option Value) (v3 : Option Value) (x1 : Int32) (st : List Value) (σ : ma_H), ma_rn ro d 172 (10, [v0, v1, v2, v3], .int x1 :: st, SH, σ) = if x1 = nI 0 then ma_rn ro d 172 (22, [v0, v1, v2, v3], st, SH, σ) else ma_rn ro d 172 (13, [v0, v1, v2, v3], st, SH, σ)) ∧
  (∀ (v0 : Option Value) (v1 : Option Value) (v3 : Option Value) (x1 : Int32) (st : List Value) (σ : ma_H), ma_rn ro d 172 (13, [v0, v1, some (.int x1), v3], st, SH, σ) = ma_rn ro d 172 (14, [v0, v1, some (.int x1), v3], .int x1 :: st, SH, σ)) ∧
  (∀ (v0 : Option Value) (v1 : Option Value) (v2 : Option Value) (v3 : Option Value) (st : List Value) (σ : ma_H), ma_rn ro d 172 (14, [v0, v1, v2, v3], st, SH, σ) = ma_rn ro d 172 (15, [v0, v1, v2, v3], .int (nI 0) :: st, SH, σ)) ∧
  (∀ (v0 : Option Value) (v1 : Option Value) (v2 : Option Value) (v3 : Option Value) (st : List Value) (σ : ma_H), ma_rn ro d 172 (15, [v0, v1, v2, v3], st, SH, σ) = ma_rn ro d 172 (16, [v0, v1, v2, v3], .int (nI 2) :: st, SH, σ)) ∧
  (∀ (v0 : Option Value) (v1 : Option Value) (v2 : Option Value) (v3 : Option Value) (x1 : Int32) (x2 : Int32) (x3 : Int32) (σ : ma_H), ma_rn ro (d + 1) 172 (16, [v0, v1, v2, v3], .int x3 :: .int x2 :: .int x1 :: [], SH, σ) = (ma_ev ro d 102 [.int x1, .int x2, .int x3] SH σ).bind (fun q => ma_rn ro (d + 1) 172 (19, [v0, v1, v2, v3], (q.1.toList ++ []), q.2.1, q.2.2))) ∧
  (∀ (v0 : Option Value) (v1 : Option Value) (v2 : Option Value) (v3 : Option Value) (x1 : Int32) (st : List Value) (σ : ma_H), ma_rn ro d 172 (19, [v0, v1, v2, v3], .int x1 :: st, SH, σ) = if x1 = nI 0 then ma_rn ro d 172 (22, [v0, v1, v2, v3], st, SH, σ) else ma_rn ro d 172 (24, [v0, v1, v2, v3], st, SH, σ)) ∧
  (∀ (v0 : Option Value) (v1 : Option Value) (v2 : Option Value) (v3 : Option Value) (st : List Value) (σ : ma_H), ma_rn ro d 172 (22, [v0, v1, v2, v3], st, SH, σ) = ma_rn ro d 172 (23, [v0, v1, v2, v3], .int (nI 0) :: st, SH, σ)) ∧
  (∀ (v0 : Option Value) (v1 : Option Value) (v2 : Option Value) (v3 : Option Value) (x1 : Int32) (σ : ma_H), ma_rn ro d 172 (23, [v0, v1, v2, v3], [.int x1], SH, σ) = some (some (.int x1), SH, σ)) ∧
  (∀ (v1 : Option Value) (v2 : Option Value) (v3 : Option Value) (a1 : Nat) (st : List Value) (σ : ma_H), ma_rn ro d 172 (24, [some (.ref a1), v1, v2, v3], st, SH, σ) = ma_rn ro d 172 (25, [some (.ref a1), v1, v2, v3], .ref a1 :: st, SH, σ)) ∧
  (∀ (v1 : Option Value) (v2 : Option Value) (v3 : Option Value) (a1 : Nat) (st : List Value) (σ : ma_H), ma_rn ro d 172 (25, [some (.ref a1), v1, v2, v3], st, SH, σ) = ma_rn ro d 172 (26, [some (.ref a1), v1, v2, v3], .ref a1 :: st, SH, σ)) ∧
  (∀ (v0 : Option Value) (v1 : Option Value) (v2 : Option Value) (v3 : Option Value) (a1 : Nat) (st : List Value) (σ : ma_H) (hc : hk_cls a1 = 8), ma_rn ro d 172 (26, [v0, v1, v2, v3], .ref a1 :: st, SH, σ) = ma_rn ro d 172 (29, [v0, v1, v2, v3], .ref (91) :: st, SH, σ)) ∧
  (∀ (v0 : Option Value) (v1 : Option Value) (v2 : Option Value) (v3 : Option Value) (st : List Value) (σ : ma_H), ma_rn ro d 172 (29, [v0, v1, v2, v3], st, SH, σ) = ma_rn ro d 172 (31, [v0, v1, v2, v3], .int (nI 40) :: st, SH, σ)) ∧
  (∀ (v0 : Option Value) (v2 : Option Value) (v3 : Option Value) (x1 : Int32) (st : List Value) (σ : ma_H), ma_rn ro d 172 (31, [v0, some (.int x1), v2, v3], st, SH, σ) = ma_rn ro d 172 (32, [v0, some (.int x1), v2, v3], .int x1 :: st, SH, σ)) ∧
  (∀ (v0 : Option Value) (v1 : Option Value) (v2 : Option Value) (v3 : Option Value) (x1 : Int32) (x2 : Int32) (st : List Value) (σ : ma_H), ma_rn ro d 172 (32, [v0, v1, v2, v3], .int x1 :: .int x2 :: st, SH, σ) = ma_rn ro d 172 (33, [v0, v1, v2, v3], .int (x2 + x1) :: st, SH, σ)) ∧
  (∀ (v0 : Option Value) (v1 : Option Value) (v2 : Option Value) (v3 : Option Value) (k : Nat) (a2 : Nat) (st : List Value) (σ : ma_H) (hk : k < hk_len a2), ma_rn ro d 172 (33, [v0, v1, v2, v3], .int (nI k) :: .ref a2 :: st, SH, σ) = ma_rn ro d 172 (34, [v0, v1, v2, v3], .int (σ a2 k) :: st, SH, σ)) ∧
  (∀ (v0 : Option Value) (v1 : Option Value) (v2 : Option Value) (v3 : Option Value) (x1 : Int32) (a2 : Nat) (st : List Value) (σ : ma_H) (hc : hk_cls a2 = 8), ma_rn ro d 172 (34, [v0, v1, v2, v3], .int x1 :: .ref a2 :: st, SH, σ) = ma_rn ro d 172 (37, [v0, v1, v2, v3], st, SH, (ma_up σ a2 14 x1))) ∧
  (∀ (v1 : Option Value) (v2 : Option Value) (v3 : Option Value) (a1 : Nat) (st : List Value) (σ : ma_H), ma_rn ro d 172 (37, [some (.ref a1), v1, v2, v3], st, SH, σ) = ma_rn ro d 172 (38, [some (.ref a1), v1, v2, v3], .ref a1 :: st, SH, σ)) ∧
  (∀ (v0 : Option Value) (v2 : Option Value) (v3 : Option Value) (x1 : Int32) (st : List Value) (σ : ma_H), ma_rn ro d 172 (38, [v0, some (.int x1), v2, v3], st, SH, σ) = ma_rn ro d 172 (39, [v0, some (.int x1), v2, v3], .int x1 :: st, SH, σ)) ∧
  (∀ (v0 : Option Value) (v1 : Option Value) (v2 : Option Value) (v3 : Option Value) (x1 : Int32) (a2 : Nat) (st : List Value) (σ : ma_H) (hc : hk_cls a2 = 8), ma_rn ro d 172 (39, [v0, v1, v2, v3], .int x1 :: .ref a2 :: st, SH, σ) = ma_rn ro d 172 (42, [v0, v1, v2, v3], st, SH, (ma_up σ a2 15 x1))) ∧
  (∀ (v1 : Option Value) (v2 : Option Value) (v3 : Option Value) (a1 : Nat) (st : List Value) (σ : ma_H), ma_rn ro d 172 (42, [some (.ref a1), v1, v2, v3], st, SH, σ) = ma_rn ro d 172 (43, [some (.ref a1), v1, v2, v3], .ref a1 :: st, SH, σ)) ∧
  (∀ (v1 : Option Value) (v2 : Option Value) (v3 : Option Value) (a1 : Nat) (st : List Value) (σ : ma_H), ma_rn ro d 172 (43, [some (.ref a1), v1, v2, v3], st, SH, σ) = ma_rn ro d 172 (44, [some (.ref a1), v1, v2, v3], .ref a1 :: st, SH, σ)) ∧
  (∀ (v0 : Option Value) (v1 : Option Value) (v2 : Option Value) (v3 : Option Value) (a1 : Nat) (st : List Value) (σ : ma_H) (hc : hk_cls a1 = 8), ma_rn ro d 172 (44, [v0, v1, v2, v3], .ref a1 :: st, SH, σ) = ma_rn ro d 172 (47, [v0, v1, v2, v3], .ref (91) :: st, SH, σ)) ∧
  (∀ (v0 : Option Value) (v1 : Option Value) (v2 : Option Value) (v3 : Option Value) (st : List Value) (σ : ma_H), ma_rn ro d 172 (47, [v0, v1, v2, v3], st, SH, σ) = ma_rn ro d 172 (49, [v0, v1, v2, v3], .int (nI 46) :: st, SH, σ)) ∧
  (∀ (v0 : Option Value) (v2 : Option Value) (v3 : Option Value) (x1 : Int32) (st : List Value) (σ : ma_H), ma_rn ro d 172 (49, [v0, some (.int x1), v2, v3], st, SH, σ) = ma_rn ro d 172 (50, [v0, some (.int x1), v2, v3], .int x1 :: st, SH, σ)) ∧
  (∀ (v0 : Option Value) (v1 : Option Value) (v2 : Option Value) (v3 : Option Value) (x1 : Int32) (x2 : Int32) (st : List Value) (σ : ma_H), ma_rn ro d 172 (50, [v0, v1, v2, v3], .int x1 :: .int x2 :: st, SH, σ) = ma_rn ro d 172 (51, [v0, v1, v2, v3], .int (x2 + x1) :: st, SH, σ)) ∧
  (∀ (v0 : Option Value) (v1 : Option Value) (v2 : Option Value) (v3 : Option Value) (k : Nat) (a2 : Nat) (st : List Value) (σ : ma_H) (hk : k < hk_len a2), ma_rn ro d 172 (51, [v0, v1, v2, v3], .int (nI k) :: .ref a2 :: st, SH, σ) = ma_rn ro d 172 (52, [v0, v1, v2, v3], .int (σ a2 k) :: st, SH, σ)) ∧
  (∀ (v0 : Option Value) (v1 : Option Value) (v2 : Option Value) (v3 : Option Value) (x1 : Int32) (a2 : Nat) (st : List Value) (σ : ma_H) (hc : hk_cls a2 = 8), ma_rn ro d 172 (52, [v0, v1, v2, v3], .int x1 :: .ref a2 :: st, SH, σ) = ma_rn ro d 172 (55, [v0, v1, v2, v3], st, SH, (ma_up σ a2 16 x1))) ∧
  (∀ (v0 : Option Value) (v1 : Option Value) (v3 : Option Value) (x1 : Int32) (st : List Value) (σ : ma_H), ma_rn ro d 172 (55, [v0, v1, some (.int x1), v3], st, SH, σ) = ma_rn ro d 172 (56, [v0, v1, some (.int x1), v3], .int x1 :: st, SH, σ)) ∧
  (∀ (v0 : Option Value) (v1 : Option Value) (v2 : Option Value) (v3 : Option Value) (x1 : Int32) (st : List Value) (σ : ma_H), ma_rn ro d 172 (56, [v0, v1, v2, v3], .int x1 :: st, SH, σ) = if x1 = nI 0 then ma_rn ro d 172 (59, [v0, v1, v2, v3], st, SH, σ) else ma_rn ro d 172 (67, [v0, v1, v2, v3], st, SH, σ)) ∧
  (∀ (v1 : Option Value) (v2 : Option Value) (v3 : Option Value) (a1 : Nat) (st : List Value) (σ : ma_H), ma_rn ro d 172 (59, [some (.ref a1), v1, v2, v3], st, SH, σ) = ma_rn ro d 172 (60, [some (.ref a1), v1, v2, v3], .ref a1 :: st, SH, σ)) ∧
  (∀ (v0 : Option Value) (v1 : Option Value) (v2 : Option Value) (x1 : Int32) (st : List Value) (σ : ma_H), ma_rn ro d 172 (60, [v0, v1, v2, some (.int x1)], st, SH, σ) = ma_rn ro d 172 (61, [v0, v1, v2, some (.int x1)], .int x1 :: st, SH, σ)) ∧
  (∀ (v0 : Option Value) (v1 : Option Value) (v2 : Option Value) (v3 : Option Value) (x1 : Int32) (a0 : Nat) (σ : ma_H) (hc : hk_cls a0 = 8), ma_rn ro (d + 1) 172 (61, [v0, v1, v2, v3], .int x1 :: .ref a0 :: [], SH, σ) = (ma_ev ro d 167 [.ref a0, .int x1] SH σ).bind (fun q => ma_rn ro (d + 1) 172 (64, [v0, v1, v2, v3], (q.1.toList ++ []), q.2.1, q.2.2))) ∧
  (∀ (v0 : Option Value) (v1 : Option Value) (v2 : Option Value) (v3 : Option Value) (st : List Value) (σ : ma_H), ma_rn ro d 172 (64, [v0, v1, v2, v3], st, SH, σ) = ma_rn ro d 172 (85, [v0, v1, v2, v3], st, SH, σ)) ∧
  (∀ (v0 : Option Value) (v1 : Option Value) (v3 : Option Value) (x1 : Int32) (st : List Value) (σ : ma_H), ma_rn ro d 172 (67, [v0, v1, some (.int x1), v3], st, SH, σ) = ma_rn ro d 172 (68, [v0, v1, some (.int x1), v3], .int x1 :: st, SH, σ)) ∧
  (∀ (v0 : Option Value) (v1 : Option Value) (v2 : Option Value) (v3 : Option Value) (st : List Value) (σ : ma_H), ma_rn ro d 172 (68, [v0, v1, v2, v3], st, SH, σ) = ma_rn ro d 172 (69, [v0, v1, v2, v3], .int (nI 1) :: st, SH, σ)) ∧
  (∀ (v0 : Option Value) (v1 : Option Value) (v2 : Option Value) (v3 : Option Value) (x1 : Int32) (x2 : Int32) (st : List Value) (σ : ma_H), ma_rn ro d 172 (69, [v0, v1, v2, v3], .int x1 :: .int x2 :: st, SH, σ) = if x2 = x1 then ma_rn ro d 172 (72, [v0, v1, v2, v3], st, SH, σ) else ma_rn ro d 172 (80, [v0, v1, v2, v3], st, SH, σ)) ∧
  (∀ (v1 : Option Value) (v2 : Option Value) (v3 : Option Value) (a1 : Nat) (st : List Value) (σ : ma_H), ma_rn ro d 172 (72, [some (.ref a1), v1, v2, v3], st, SH, σ) = ma_rn ro d 172 (73, [some (.ref a1), v1, v2, v3], .ref a1 :: st, SH, σ)) ∧
  (∀ (v0 : Option Value) (v1 : Option Value) (v2 : Option Value) (x1 : Int32) (st : List Value) (σ : ma_H), ma_rn ro d 172 (73, [v0, v1, v2, some (.int x1)], st, SH, σ) = ma_rn ro d 172 (74, [v0, v1, v2, some (.int x1)], .int x1 :: st, SH, σ)) ∧
  (∀ (v0 : Option Value) (v1 : Option Value) (v2 : Option Value) (v3 : Option Value) (x1 : Int32) (a0 : Nat) (σ : ma_H) (hc : hk_cls a0 = 8), ma_rn ro (d + 1) 172 (74, [v0, v1, v2, v3], .int x1 :: .ref a0 :: [], SH, σ) = (ma_ev ro d 169 [.ref a0, .int x1] SH σ).bind (fun q => ma_rn ro (d + 1) 172 (77, [v0, v1, v2, v3], (q.1.toList ++ []), q.2.1, q.2.2))) ∧
  (∀ (v0 : Option Value) (v1 : Option Value) (v2 : Option Value) (v3 : Option Value) (st : List Value) (σ : ma_H), ma_rn ro d 172 (77, [v0, v1, v2, v3], st, SH, σ) = ma_rn ro d 172 (85, [v0, v1, v2, v3], st, SH, σ)) ∧
  (∀ (v1 : Option Value) (v2 : Option Value) (v3 : Option Value) (a1 : Nat) (st : List Value) (σ : ma_H), ma_rn ro d 172 (80, [some (.ref a1), v1, v2, v3], st, SH, σ) = ma_rn ro d 172 (81, [some (.ref a1), v1, v2, v3], .ref a1 :: st, SH, σ)) ∧
  (∀ (v0 : Option Value) (v1 : Option Value) (v2 : Option Value) (x1 : Int32) (st : List Value) (σ : ma_H), ma_rn ro d 172 (81, [v0, v1, v2, some (.int x1)], st, SH, σ) = ma_rn ro d 172 (82, [v0, v1, v2, some (.int x1)], .int x1 :: st, SH, σ)) ∧
  (∀ (v0 : Option Value) (v1 : Option Value) (v2 : Option Value) (v3 : Option Value) (x1 : Int32) (a0 : Nat) (σ : ma_H) (hc : hk_cls a0 = 8), ma_rn ro (d + 1) 172 (82, [v0, v1, v2, v3], .int x1 :: .ref a0 :: [], SH, σ) = (ma_ev ro d 171 [.ref a0, .int x1] SH σ).bind (fun q => ma_rn ro (d + 1) 172 (85, [v0, v1, v2, v3], (q.1.toList ++ []), q.2.1, q.2.2))) ∧
  (∀ (v0 : Option Value) (v1 : Option Value) (v2 : Option Value) (v3 : Option Value) (x1 : Int32) (σ : ma_H), ma_rn ro d 172 (85, [v0, v1, v2, v3], [.int x1], SH, σ) = some (some (.int x1), SH, σ)) := ⟨fun v1 v2 v3 a1 st σ => q_go e172_0 rfl rfl,
  fun v0 v1 v2 v3 st σ => q_iconst e172_1 (by decide),
  fun v0 v1 v2 v3 x1 a2 st σ hc => q_putI e172_2 o_172 f_8_204 (by decide) rfl hc,
  fun v1 v2 v3 a1 st σ => q_go e172_5 rfl rfl,
  fun v0 v2 v3 x1 st σ => q_go e172_6 rfl rfl,
  fun v0 v1 v2 v3 x1 a0 σ hc => q_invV (as := [.int x1]) (rest := []) e172_7 o_172 bn_8_129 c_8_129 m_103 (by decide) rfl rfl (Nat.le_of_ble_eq_true rfl) (Nat.le_of_ble_eq_true rfl) hc,
  fun v0 v1 v2 v3 x1 st σ => (q_if e172_10 rfl).trans q_eq,
  fun v0 v1 v3 x1 st σ => q_go e172_13 rfl rfl,
  fun v0 v1 v2 v3 st σ => q_iconst e172_14 (by decide),
  fun v0 v1 v2 v3 st σ => q_iconst e172_15 (by decide),
  fun v0 v1 v2 v3 x1 x2 x3 σ => q_invS (as := [.int x1, .int x2, .int x3]) (rest := []) e172_16 o_172 bn_8_35 c_8_35 ⟨m_102.1, m_102.2.1, m_102.2.2.1⟩ rfl rfl (Nat.le_of_ble_eq_true rfl) (Nat.le_of_ble_eq_true rfl),
  fun v0 v1 v2 v3 x1 st σ => (q_if e172_19 rfl).trans q_ne,
  fun v0 v1 v2 v3 st σ => q_iconst e172_22 (by decide),
  fun v0 v1 v2 v3 x1 σ => q_iret e172_23 r_172,
  fun v1 v2 v3 a1 st σ => q_go e172_24 rfl rfl,
  fun v1 v2 v3 a1 st σ => q_go e172_25 rfl rfl,
  fun v0 v1 v2 v3 a1 st σ hc => q_getA e172_26 o_172 f_8_9 (by decide) hc,
  fun v0 v1 v2 v3 st σ => q_bipush e172_29 (by decide),
  fun v0 v2 v3 x1 st σ => q_go e172_31 rfl rfl,
  fun v0 v1 v2 v3 x1 x2 st σ => q_go e172_32 rfl rfl,
  fun v0 v1 v2 v3 k a2 st σ hk => q_iald e172_33 hk,
  fun v0 v1 v2 v3 x1 a2 st σ hc => q_putI e172_34 o_172 f_8_213 (by decide) rfl hc,
  fun v1 v2 v3 a1 st σ => q_go e172_37 rfl rfl,
  fun v0 v2 v3 x1 st σ => q_go e172_38 rfl rfl,
  fun v0 v1 v2 v3 x1 a2 st σ hc => q_putI e172_39 o_172 f_8_210 (by decide) rfl hc,
  fun v1 v2 v3 a1 st σ => q_go e172_42 rfl rfl,
  fun v1 v2 v3 a1 st σ => q_go e172_43 rfl rfl,
  fun v0 v1 v2 v3 a1 st σ hc => q_getA e172_44 o_172 f_8_9 (by decide) hc,
  fun v0 v1 v2 v3 st σ => q_bipush e172_47 (by decide),
  fun v0 v2 v3 x1 st σ => q_go e172_49 rfl rfl,
  fun v0 v1 v2 v3 x1 x2 st σ => q_go e172_50 rfl rfl,
  fun v0 v1 v2 v3 k a2 st σ hk => q_iald e172_51 hk,
  fun v0 v1 v2 v3 x1 a2 st σ hc => q_putI e172_52 o_172 f_8_225 (by decide) rfl hc,
  fun v0 v1 v3 x1 st σ => q_go e172_55 rfl rfl,
  fun v0 v1 v2 v3 x1 st σ => (q_if e172_56 rfl).trans q_ne,
  fun v1 v2 v3 a1 st σ => q_go e172_59 rfl rfl,
  fun v0 v1 v2 x1 st σ => q_go e172_60 rfl rfl,
  fun v0 v1 v2 v3 x1 a0 σ hc => q_invV (as := [.int x1]) (rest := []) e172_61 o_172 bn_8_222 c_8_222 m_167 (by decide) rfl rfl (Nat.le_of_ble_eq_true rfl) (Nat.le_of_ble_eq_true rfl) hc,
  fun v0 v1 v2 v3 st σ => q_goto e172_64 rfl,
  fun v0 v1 v3 x1 st σ => q_go e172_67 rfl rfl,
  fun v0 v1 v2 v3 st σ => q_iconst e172_68 (by decide),
  fun v0 v1 v2 v3 x1 x2 st σ => (q_cmp e172_69 rfl).trans q_ne,
  fun v1 v2 v3 a1 st σ => q_go e172_72 rfl rfl,
  fun v0 v1 v2 x1 st σ => q_go e172_73 rfl rfl,
  fun v0 v1 v2 v3 x1 a0 σ hc => q_invV (as := [.int x1]) (rest := []) e172_74 o_172 bn_8_231 c_8_231 m_169 (by decide) rfl rfl (Nat.le_of_ble_eq_true rfl) (Nat.le_of_ble_eq_true rfl) hc,
  fun v0 v1 v2 v3 st σ => q_goto e172_77 rfl,
  fun v1 v2 v3 a1 st σ => q_go e172_80 rfl rfl,
  fun v0 v1 v2 x1 st σ => q_go e172_81 rfl rfl,
  fun v0 v1 v2 v3 x1 a0 σ hc => q_invV (as := [.int x1]) (rest := []) e172_82 o_172 bn_8_237 c_8_237 m_171 (by decide) rfl rfl (Nat.le_of_ble_eq_true rfl) (Nat.le_of_ble_eq_true rfl) hc,
  fun v0 v1 v2 v3 x1 σ => q_iret e172_85 r_172⟩
theorem E172 {ro : ma_RO} {d : Nat} (a0 : Nat) (x1 : Int32) (x2 : Int32) (x3 : Int32) (sh : List ma_Sh) (σ : ma_H) : ma_ev ro d 172 [.ref a0, .int x1, .int x2, .int x3] sh σ = ma_rn ro d 172 (0, [some (.ref a0), some (.int x1), some (.int x2), some (.int x3)], [], sh, σ) := q_ent x_172 rfl
theorem e173_0 : decode (ma_cd 173) 0 = .ok (.iload_n 1, 1) := (congrArg (fun b => decode b 0) cd_173).trans dX8_trace_0
theorem e173_1 : decode (ma_cd 173) 1 = .ok (.iconst 0, 1) := (congrArg (fun b => decode b 1) cd_173).trans dX8_trace_1
theorem e173_2 : decode (ma_cd 173) 2 = .ok (.aload_n 0, 1) := (congrArg (fun b => decode b 2) cd_173).trans dX8_trace_2
theorem e173_3 : decode (ma_cd 173) 3 = .ok (.getfield 204, 3) := (congrArg (fun b => decode b 3) cd_173).trans dX8_trace_3
theorem e173_6 : decode (ma_cd 173) 6 = .ok (.bipush 20, 2) := (congrArg (fun b => decode b 6) cd_173).trans dX8_trace_6
theorem e173_8 : decode (ma_cd 173) 8 = .ok (.if_icmp .ge 10, 3) := (congrArg (fun b => decode b 8) cd_173).trans dX8_trace_8
theorem e173_11 : decode (ma_cd 173) 11 = .ok (.aload_n 0, 1) := (congrArg (fun b => decode b 11) cd_173).trans dX8_trace_11
theorem e173_12 : decode (ma_cd 173) 12 = .ok (.getfield 204, 3) := (congrArg (fun b => decode b 12) cd_173).trans dX8_trace_12
theorem e173_15 : decode (ma_cd 173) 15 = .ok (.goto 5, 3) := (congrArg (fun b => decode b 15) cd_173).trans dX8_trace_15
theorem e173_18 : decode (ma_cd 173) 18 = .ok (.bipush 20, 2) := (congrArg (fun b => decode b 18) cd_173).trans dX8_trace_18
theorem e173_20 : decode (ma_cd 173) 20 = .ok (.iconst 1, 1) := (congrArg (fun b => decode b 20) cd_173).trans dX8_trace_20
theorem e173_21 : decode (ma_cd 173) 21 = .ok (.isub, 1) := (congrArg (fun b => decode b 21) cd_173).trans dX8_trace_21
theorem e173_22 : decode (ma_cd 173) 22 = .ok (.invokestatic 35, 3) := (congrArg (fun b => decode b 22) cd_173).trans dX8_trace_22
theorem e173_25 : decode (ma_cd 173) 25 = .ok (.ifCond .eq 12, 3) := (congrArg (fun b => decode b 25) cd_173).trans dX8_trace_25
theorem e173_28 : decode (ma_cd 173) 28 = .ok (.aload_n 0, 1) := (congrArg (fun b => decode b 28) cd_173).trans dX8_trace_28
theorem e173_29 : decode (ma_cd 173) 29 = .ok (.getfield 28, 3) := (congrArg (fun b => decode b 29) cd_173).trans dX8_trace_29
theorem e173_32 : decode (ma_cd 173) 32 = .ok (.iload_n 1, 1) := (congrArg (fun b => decode b 32) cd_173).trans dX8_trace_32
theorem e173_33 : decode (ma_cd 173) 33 = .ok (.iaload, 1) := (congrArg (fun b => decode b 33) cd_173).trans dX8_trace_33
theorem e173_34 : decode (ma_cd 173) 34 = .ok (.goto 4, 3) := (congrArg (fun b => decode b 34) cd_173).trans dX8_trace_34
theorem e173_37 : decode (ma_cd 173) 37 = .ok (.iconst (-1), 1) := (congrArg (fun b => decode b 37) cd_173).trans dX8_trace_37
theorem e173_38 : decode (ma_cd 173) 38 = .ok (.ireturn, 1) := (congrArg (fun b => decode b 38) cd_173).trans dX8_trace_38
theorem S173 {ro : ma_RO} {d : Nat} : (∀ (v0 : Option Value) (x1 : Int32) (st : List Value) (σ : ma_H), ma_rn ro d 173 (0, [v0, some (.int x1)], st, SH, σ) = ma_rn ro d 173 (1, [v0, some (.int x1)], .int x1 :: st, SH, σ)) ∧
  (∀ (v0 : Option Value) (v1 : Option Value) (st : List Value) (σ : ma_H), ma_rn ro d 173 (1, [v0, v1], st, SH, σ) = ma_rn ro d 173 (2, [v0, v1], .int (nI 0) :: st, SH, σ)) ∧
  (∀ (v1 : Option Value) (a1 : Nat) (st : List Value) (σ : ma_H), ma_rn ro d 173 (2, [some (.ref a1), v1], st, SH, σ) = ma_rn ro d 173 (3, [some (.ref a1), v1], .ref a1 :: st, SH, σ)) ∧
  (∀ (v0 : Option Value) (v1 : Option Value) (a1 : Nat) (st : List Value) (σ : ma_H) (hc : hk_cls a1 = 8), ma_rn ro d 173 (3, [v0, v1], .ref a1 :: st, SH, σ) = ma_rn ro d 173 (6, [v0, v1], .int (σ a1 13) :: st, SH, σ)) ∧
  (∀ (v0 : Option Value) (v1 : Option Value) (st : List Value) (σ : ma_H), ma_rn ro d 173 (6, [v0, v1], st, SH, σ) = ma_rn ro d 173 (8, [v0, v1], .int (nI 20) :: st, SH, σ)) ∧
  (∀ (v0 : Option Value) (v1 : Option Value) (x1 : Int32) (x2 : Int32) (st : List Value) (σ : ma_H), ma_rn ro d 173 (8, [v0, v1], .int x1 :: .int x2 :: st, SH, σ) = if x2 < x1 then ma_rn ro d 173 (11, [v0, v1], st, SH, σ) else ma_rn ro d 173 (18, [v0, v1], st, SH, σ)) ∧
  (∀ (v1 : Option Value) (a1 : Nat) (st : List Value) (σ : ma_H), ma_rn ro d 173 (11, [some (.ref a1), v1], st, SH, σ) = ma_rn ro d 173 (12, [some (.ref a1), v1], .ref a1 :: st, SH, σ)) ∧
  (∀ (v0 : Option Value) (v1 : Option Value) (a1 : Nat) (st : List Value) (σ : ma_H) (hc : hk_cls a1 = 8), ma_rn ro d 173 (12, [v0, v1], .ref a1 :: st, SH, σ) = ma_rn ro d 173 (15, [v0, v1], .int (σ a1 13) :: st, SH, σ)) ∧
  (∀ (v0 : Option Value) (v1 : Option Value) (st : List Value) (σ : ma_H), ma_rn ro d 173 (15, [v0, v1], st, SH, σ) = ma_rn ro d 173 (20, [v0, v1], st, SH, σ)) ∧
  (∀ (v0 : Option Value) (v1 : Option Value) (st : List Value) (σ : ma_H), ma_rn ro d 173 (18, [v0, v1], st, SH, σ) = ma_rn ro d 173 (20, [v0, v1], .int (nI 20) :: st, SH, σ)) ∧
  (∀ (v0 : Option Value) (v1 : Option Value) (st : List Value) (σ : ma_H), ma_rn ro d 173 (20, [v0, v1], st, SH, σ) = ma_rn ro d 173 (21, [v0, v1], .int (nI 1) :: st, SH, σ)) ∧
  (∀ (v0 : Option Value) (v1 : Option Value) (x1 : Int32) (x2 : Int32) (st : List Value) (σ : ma_H), ma_rn ro d 173 (21, [v0, v1], .int x1 :: .int x2 :: st, SH, σ) = ma_rn ro d 173 (22, [v0, v1], .int (x2 - x1) :: st, SH, σ)) ∧
  (∀ (v0 : Option Value) (v1 : Option Value) (x1 : Int32) (x2 : Int32) (x3 : Int32) (σ : ma_H), ma_rn ro (d + 1) 173 (22, [v0, v1], .int x3 :: .int x2 :: .int x1 :: [], SH, σ) = (ma_ev ro d 102 [.int x1, .int x2, .int x3] SH σ).bind (fun q => ma_rn ro (d + 1) 173 (25, [v0, v1], (q.1.toList ++ []), q.2.1, q.2.2))) ∧
  (∀ (v0 : Option Value) (v1 : Option Value) (x1 : Int32) (st : List Value) (σ : ma_H), ma_rn ro d 173 (25, [v0, v1], .int x1 :: st, SH, σ) = if x1 = nI 0 then ma_rn ro d 173 (37, [v0, v1], st, SH, σ) else ma_rn ro d 173 (28, [v0, v1], st, SH, σ)) ∧
  (∀ (v1 : Option Value) (a1 : Nat) (st : List Value) (σ : ma_H), ma_rn ro d 173 (28, [some (.ref a1), v1], st, SH, σ) = ma_rn ro d 173 (29, [some (.ref a1), v1], .ref a1 :: st, SH, σ)) ∧
  (∀ (v0 : Option Value) (v1 : Option Value) (a1 : Nat) (st : List Value) (σ : ma_H) (hc : hk_cls a1 = 8), ma_rn ro d 173 (29, [v0, v1], .ref a1 :: st, SH, σ) = ma_rn ro d 173 (32, [v0, v1], .ref (96) :: st, SH, σ)) ∧
  (∀ (v0 : Option Value) (x1 : Int32) (st : List Value) (σ : ma_H), ma_rn ro d 173 (32, [v0, some (.int x1)], st, SH, σ) = ma_rn ro d 173 (33, [v0, some (.int x1)], .int x1 :: st, SH, σ)) ∧
  (∀ (v0 : Option Value) (v1 : Option Value) (k : Nat) (a2 : Nat) (st : List Value) (σ : ma_H) (hk : k < hk_len a2), ma_rn ro d 173 (33, [v0, v1], .int (nI k) :: .ref a2 :: st, SH, σ) = ma_rn ro d 173 (34, [v0, v1], .int (σ a2 k) :: st, SH, σ)) ∧
  (∀ (v0 : Option Value) (v1 : Option Value) (st : List Value) (σ : ma_H), ma_rn ro d 173 (34, [v0, v1], st, SH, σ) = ma_rn ro d 173 (38, [v0, v1], st, SH, σ)) ∧
  (∀ (v0 : Option Value) (v1 : Option Value) (st : List Value) (σ : ma_H), ma_rn ro d 173 (37, [v0, v1], st, SH, σ) = ma_rn ro d 173 (38, [v0, v1], .int ((-1)) :: st, SH, σ)) ∧
  (∀ (v0 : Option Value) (v1 : Option Value) (x1 : Int32) (σ : ma_H), ma_rn ro d 173 (38, [v0, v1], [.int x1], SH, σ) = some (some (.int x1), SH, σ)) := ⟨fun v0 x1 st σ => q_go e173_0 rfl rfl,
  fun v0 v1 st σ => q_iconst e173_1 (by decide),
  fun v1 a1 st σ => q_go e173_2 rfl rfl,
  fun v0 v1 a1 st σ hc => q_getI e173_3 o_173 f_8_204 (by decide) hc,
  fun v0 v1 st σ => q_bipush e173_6 (by decide),
  fun v0 v1 x1 x2 st σ => (q_cmp e173_8 rfl).trans q_nlt,
  fun v1 a1 st σ => q_go e173_11 rfl rfl,
  fun v0 v1 a1 st σ hc => q_getI e173_12 o_173 f_8_204 (by decide) hc,
  fun v0 v1 st σ => q_goto e173_15 rfl,
  fun v0 v1 st σ => q_bipush e173_18 (by decide),
  fun v0 v1 st σ => q_iconst e173_20 (by decide),
  fun v0 v1 x1 x2 st σ => q_go e173_21 rfl rfl,
  fun v0 v1 x1 x2 x3 σ => q_invS (as := [.int x1, .int x2, .int x3]) (rest := []) e173_22 o_173 bn_8_35 c_8_35 ⟨m_102.1, m_102.2.1, m_102.2.2.1⟩ rfl rfl (Nat.le_of_ble_eq_true rfl) (Nat.le_of_ble_eq_true rfl),
  fun v0 v1 x1 st σ => (q_if e173_25 rfl).trans q_eq,
  fun v1 a1 st σ => q_go e173_28 rfl rfl,
  fun v0 v1 a1 st σ hc => q_getA e173_29 o_173 f_8_28 (by decide) hc,
  fun v0 x1 st σ => q_go e173_32 rfl rfl,
  fun v0 v1 k a2 st σ hk => q_iald e173_33 hk,
  fun v0 v1 st σ => q_goto e173_34 rfl,
  fun v0 v1 st σ => q_iconst e173_37 (by decide),
  fun v0 v1 x1 σ => q_iret e173_38 r_173⟩
theorem E173 {ro : ma_RO} {d : Nat} (a0 : Nat) (x1 : Int32) (sh : List ma_Sh) (σ : ma_H) : ma_ev ro d 173 [.ref a0, .int x1] sh σ = ma_rn ro d 173 (0, [some (.ref a0), some (.int x1)], [], sh, σ) := q_ent x_173 rfl
theorem e174_0 : decode (ma_cd 174) 0 = .ok (.aload_n 0, 1) := (congrArg (fun b => decode b 0) cd_174).trans dX8_as_0
theorem e174_1 : decode (ma_cd 174) 1 = .ok (.iload_n 1, 1) := (congrArg (fun b => decode b 1) cd_174).trans dX8_as_1
theorem e174_2 : decode (ma_cd 174) 2 = .ok (.invokevirtual 129, 3) := (congrArg (fun b => decode b 2) cd_174).trans dX8_as_2
theorem e174_5 : decode (ma_cd 174) 5 = .ok (.ifCond .eq 13, 3) := (congrArg (fun b => decode b 5) cd_174).trans dX8_as_5
theorem e174_8 : decode (ma_cd 174) 8 = .ok (.iload_n 2, 1) := (congrArg (fun b => decode b 8) cd_174).trans dX8_as_8
theorem e174_9 : decode (ma_cd 174) 9 = .ok (.iconst 0, 1) := (congrArg (fun b => decode b 9) cd_174).trans dX8_as_9
theorem e174_10 : decode (ma_cd 174) 10 = .ok (.bipush 6, 2) := (congrArg (fun b => decode b 10) cd_174).trans dX8_as_10
theorem e174_12 : decode (ma_cd 174) 12 = .ok (.invokestatic 35, 3) := (congrArg (fun b => decode b 12) cd_174).trans dX8_as_12
theorem e174_15 : decode (ma_cd 174) 15 = .ok (.ifCond .ne 5, 3) := (congrArg (fun b => decode b 15) cd_174).trans dX8_as_15
theorem e174_18 : decode (ma_cd 174) 18 = .ok (.iconst (-1), 1) := (congrArg (fun b => decode b 18) cd_174).trans dX8_as_18
theorem e174_19 : decode (ma_cd 174) 19 = .ok (.ireturn, 1) := (congrArg (fun b => decode b 19) cd_174).trans dX8_as_19
theorem e174_20 : decode (ma_cd 174) 20 = .ok (.aload_n 0, 1) := (congrArg (fun b => decode b 20) cd_174).trans dX8_as_20
theorem e174_21 : decode (ma_cd 174) 21 = .ok (.getfield 9, 3) := (congrArg (fun b => decode b 21) cd_174).trans dX8_as_21
theorem e174_24 : decode (ma_cd 174) 24 = .ok (.bipush 40, 2) := (congrArg (fun b => decode b 24) cd_174).trans dX8_as_24
theorem e174_26 : decode (ma_cd 174) 26 = .ok (.iload_n 1, 1) := (congrArg (fun b => decode b 26) cd_174).trans dX8_as_26
theorem e174_27 : decode (ma_cd 174) 27 = .ok (.iadd, 1) := (congrArg (fun b => decode b 27) cd_174).trans dX8_as_27
theorem e174_28 : decode (ma_cd 174) 28 = .ok (.iaload, 1) := (congrArg (fun b => decode b 28) cd_174).trans dX8_as_28
theorem e174_29 : decode (ma_cd 174) 29 = .ok (.iload_n 2, 1) := (congrArg (fun b => decode b 29) cd_174).trans dX8_as_29
theorem e174_30 : decode (ma_cd 174) 30 = .ok (.invokestatic 216, 3) := (congrArg (fun b => decode b 30) cd_174).trans dX8_as_30
theorem e174_33 : decode (ma_cd 174) 33 = .ok (.ifCond .eq 15, 3) := (congrArg (fun b => decode b 33) cd_174).trans dX8_as_33
theorem e174_36 : decode (ma_cd 174) 36 = .ok (.aload_n 0, 1) := (congrArg (fun b => decode b 36) cd_174).trans dX8_as_36
theorem e174_37 : decode (ma_cd 174) 37 = .ok (.getfield 9, 3) := (congrArg (fun b => decode b 37) cd_174).trans dX8_as_37
theorem e174_40 : decode (ma_cd 174) 40 = .ok (.bipush 46, 2) := (congrArg (fun b => decode b 40) cd_174).trans dX8_as_40
theorem e174_42 : decode (ma_cd 174) 42 = .ok (.iload_n 1, 1) := (congrArg (fun b => decode b 42) cd_174).trans dX8_as_42
theorem e174_43 : decode (ma_cd 174) 43 = .ok (.iadd, 1) := (congrArg (fun b => decode b 43) cd_174).trans dX8_as_43
theorem e174_44 : decode (ma_cd 174) 44 = .ok (.iaload, 1) := (congrArg (fun b => decode b 44) cd_174).trans dX8_as_44
theorem e174_45 : decode (ma_cd 174) 45 = .ok (.goto 5, 3) := (congrArg (fun b => decode b 45) cd_174).trans dX8_as_45
theorem e174_48 : decode (ma_cd 174) 48 = .ok (.bipush (-6), 2) := (congrArg (fun b => decode b 48) cd_174).trans dX8_as_48
theorem e174_50 : decode (ma_cd 174) 50 = .ok (.ireturn, 1) := (congrArg (fun b => decode b 50) cd_174).trans dX8_as_50
theorem S174 {ro : ma_RO} {d : Nat} : (∀ (v1 : Option Value) (v2 : Option Value) (a1 : Nat) (st : List Value) (σ : ma_H), ma_rn ro d 174 (0, [some (.ref a1), v1, v2], st, SH, σ) = ma_rn ro d 174 (1, [some (.ref a1), v1, v2], .ref a1 :: st, SH, σ)) ∧
  (∀ (v0 : Option Value) (v2 : Option Value) (x1 : Int32) (st : List Value) (σ : ma_H), ma_rn ro d 174 (1, [v0, some (.int x1), v2], st, SH, σ) = ma_rn ro d 174 (2, [v0, some (.int x1), v2], .int x1 :: st, SH, σ)) ∧
  (∀ (v0 : Option Value) (v1 : Option Value) (v2 : Option Value) (x1 : Int32) (a0 : Nat) (σ : ma_H) (hc : hk_cls a0 = 8), ma_rn ro (d + 1) 174 (2, [v0, v1, v2], .int x1 :: .ref a0 :: [], SH, σ) = (ma_ev ro d 103 [.ref a0, .int x1] SH σ).bind (fun q => ma_rn ro (d + 1) 174 (5, [v0, v1, v2], (q.1.toList ++ []), q.2.1, q.2.2))) ∧
  (∀ (v0 : Option Value) (v1 : Option Value) (v2 : Option Value) (x1 : Int32) (st : List Value) (σ : ma_H), ma_rn ro d 174 (5, [v0, v1, v2], .int x1 :: st, SH, σ) = if x1 = nI 0 then ma_rn ro d 174 (18, [v0, v1, v2], st, SH, σ) else ma_rn ro d 174 (8, [v0, v1, v2], st, SH, σ)) ∧
  (∀ (v0 : Option Value) (v1 : Option Value) (x1 : Int32) (st : List Value) (σ : ma_H), ma_rn ro d 174 (8, [v0, v1, some (.int x1)], st, SH, σ) = ma_rn ro d 174 (9, [v0, v1, some (.int x1)], .int x1 :: st, SH, σ)) ∧
  (∀ (v0 : Option Value) (v1 : Option Value) (v2 : Option Value) (st : List Value) (σ : ma_H), ma_rn ro d 174 (9, [v0, v1, v2], st, SH, σ) = ma_rn ro d 174 (10, [v0, v1, v2], .int (nI 0) :: st, SH, σ)) ∧
  (∀ (v0 : Option Value) (v1 : Option Value) (v2 : Option Value) (st : List Value) (σ : ma_H), ma_rn ro d 174 (10, [v0, v1, v2], st, SH, σ) = ma_rn ro d 174 (12, [v0, v1, v2], .int (nI 6) :: st, SH, σ)) ∧
  (∀ (v0 : Option Value) (v1 : Option Value) (v2 : Option Value) (x1 : Int32) (x2 : Int32) (x3 : Int32) (σ : ma_H), ma_rn ro (d + 1) 174 (12, [v0, v1, v2], .int x3 :: .int x2 :: .int x1 :: [], SH, σ) = (ma_ev ro d 102 [.int x1, .int x2, .int x3] SH σ).bind (fun q => ma_rn ro (d + 1) 174 (15, [v0, v1, v2], (q.1.toList ++ []), q.2.1, q.2.2))) ∧
  (∀ (v0 : Option Value) (v1 : Option Value) (v2 : Option Value) (x1 : Int32) (st : List Value) (σ : ma_H), ma_rn ro d 174 (15, [v0, v1, v2], .int x1 :: st, SH, σ) = if x1 = nI 0 then ma_rn ro d 174 (18, [v0, v1, v2], st, SH, σ) else ma_rn ro d 174 (20, [v0, v1, v2], st, SH, σ)) ∧
  (∀ (v0 : Option Value) (v1 : Option Value) (v2 : Option Value) (st : List Value) (σ : ma_H), ma_rn ro d 174 (18, [v0, v1, v2], st, SH, σ) = ma_rn ro d 174 (19, [v0, v1, v2], .int ((-1)) :: st, SH, σ)) ∧
  (∀ (v0 : Option Value) (v1 : Option Value) (v2 : Option Value) (x1 : Int32) (σ : ma_H), ma_rn ro d 174 (19, [v0, v1, v2], [.int x1], SH, σ) = some (some (.int x1), SH, σ)) ∧
  (∀ (v1 : Option Value) (v2 : Option Value) (a1 : Nat) (st : List Value) (σ : ma_H), ma_rn ro d 174 (20, [some (.ref a1), v1, v2], st, SH, σ) = ma_rn ro d 174 (21, [some (.ref a1), v1, v2], .ref a1 :: st, SH, σ)) ∧
  (∀ (v0 : Option Value) (v1 : Option Value) (v2 : Option Value) (a1 : Nat) (st : List Value) (σ : ma_H) (hc : hk_cls a1 = 8), ma_rn ro d 174 (21, [v0, v1, v2], .ref a1 :: st, SH, σ) = ma_rn ro d 174 (24, [v0, v1, v2], .ref (91) :: st, SH, σ)) ∧
  (∀ (v0 : Option Value) (v1 : Option Value) (v2 : Option Value) (st : List Value) (σ : ma_H), ma_rn ro d 174 (24, [v0, v1, v2], st, SH, σ) = ma_rn ro d 174 (26, [v0, v1, v2], .int (nI 40) :: st, SH, σ)) ∧
  (∀ (v0 : Option Value) (v2 : Option Value) (x1 : Int32) (st : List Value) (σ : ma_H), ma_rn ro d 174 (26, [v0, some (.int x1), v2], st, SH, σ) = ma_rn ro d 174 (27, [v0, some (.int x1), v2], .int x1 :: st, SH, σ)) ∧
  (∀ (v0 : Option Value) (v1 : Option Value) (v2 : Option Value) (x1 : Int32) (x2 : Int32) (st : List Value) (σ : ma_H), ma_rn ro d 174 (27, [v0, v1, v2], .int x1 :: .int x2 :: st, SH, σ) = ma_rn ro d 174 (28, [v0, v1, v2], .int (x2 + x1) :: st, SH, σ)) ∧
  (∀ (v0 : Option Value) (v1 : Option Value) (v2 : Option Value) (k : Nat) (a2 : Nat) (st : List Value) (σ : ma_H) (hk : k < hk_len a2), ma_rn ro d 174 (28, [v0, v1, v2], .int (nI k) :: .ref a2 :: st, SH, σ) = ma_rn ro d 174 (29, [v0, v1, v2], .int (σ a2 k) :: st, SH, σ)) ∧
  (∀ (v0 : Option Value) (v1 : Option Value) (x1 : Int32) (st : List Value) (σ : ma_H), ma_rn ro d 174 (29, [v0, v1, some (.int x1)], st, SH, σ) = ma_rn ro d 174 (30, [v0, v1, some (.int x1)], .int x1 :: st, SH, σ)) ∧
  (∀ (v0 : Option Value) (v1 : Option Value) (v2 : Option Value) (x1 : Int32) (x2 : Int32) (σ : ma_H), ma_rn ro (d + 1) 174 (30, [v0, v1, v2], .int x2 :: .int x1 :: [], SH, σ) = (ma_ev ro d 165 [.int x1, .int x2] SH σ).bind (fun q => ma_rn ro (d + 1) 174 (33, [v0, v1, v2], (q.1.toList ++ []), q.2.1, q.2.2))) ∧
  (∀ (v0 : Option Value) (v1 : Option Value) (v2 : Option Value) (x1 : Int32) (st : List Value) (σ : ma_H), ma_rn ro d 174 (33, [v0, v1, v2], .int x1 :: st, SH, σ) = if x1 = nI 0 then ma_rn ro d 174 (48, [v0, v1, v2], st, SH, σ) else ma_rn ro d 174 (36, [v0, v1, v2], st, SH, σ)) ∧
  (∀ (v1 : Option Value) (v2 : Option Value) (a1 : Nat) (st : List Value) (σ : ma_H), ma_rn ro d 174 (36, [some (.ref a1), v1, v2], st, SH, σ) = ma_rn ro d 174 (37, [some (.ref a1), v1, v2], .ref a1 :: st, SH, σ)) ∧
  (∀ (v0 : Option Value) (v1 : Option Value) (v2 : Option Value) (a1 : Nat) (st : List Value) (σ : ma_H) (hc : hk_cls a1 = 8), ma_rn ro d 174 (37, [v0, v1, v2], .ref a1 :: st, SH, σ) = ma_rn ro d 174 (40, [v0, v1, v2], .ref (91) :: st, SH, σ)) ∧
  (∀ (v0 : Option Value) (v1 : Option Value) (v2 : Option Value) (st : List Value) (σ : ma_H), ma_rn ro d 174 (40, [v0, v1, v2], st, SH, σ) = ma_rn ro d 174 (42, [v0, v1, v2], .int (nI 46) :: st, SH, σ)) ∧
  (∀ (v0 : Option Value) (v2 : Option Value) (x1 : Int32) (st : List Value) (σ : ma_H), ma_rn ro d 174 (42, [v0, some (.int x1), v2], st, SH, σ) = ma_rn ro d 174 (43, [v0, some (.int x1), v2], .int x1 :: st, SH, σ)) ∧
  (∀ (v0 : Option Value) (v1 : Option Value) (v2 : Option Value) (x1 : Int32) (x2 : Int32) (st : List Value) (σ : ma_H), ma_rn ro d 174 (43, [v0, v1, v2], .int x1 :: .int x2 :: st, SH, σ) = ma_rn ro d 174 (44, [v0, v1, v2], .int (x2 + x1) :: st, SH, σ)) ∧
  (∀ (v0 : Option Value) (v1 : Option Value) (v2 : Option Value) (k : Nat) (a2 : Nat) (st : List Value) (σ : ma_H) (hk : k < hk_len a2), ma_rn ro d 174 (44, [v0, v1, v2], .int (nI k) :: .ref a2 :: st, SH, σ) = ma_rn ro d 174 (45, [v0, v1, v2], .int (σ a2 k) :: st, SH, σ)) ∧
  (∀ (v0 : Option Value) (v1 : Option Value) (v2 : Option Value) (st : List Value) (σ : ma_H), ma_rn ro d 174 (45, [v0, v1, v2], st, SH, σ) = ma_rn ro d 174 (50, [v0, v1, v2], st, SH, σ)) ∧
  (∀ (v0 : Option Value) (v1 : Option Value) (v2 : Option Value) (st : List Value) (σ : ma_H), ma_rn ro d 174 (48, [v0, v1, v2], st, SH, σ) = ma_rn ro d 174 (50, [v0, v1, v2], .int ((-6)) :: st, SH, σ)) ∧
  (∀ (v0 : Option Value) (v1 : Option Value) (v2 : Option Value) (x1 : Int32) (σ : ma_H), ma_rn ro d 174 (50, [v0, v1, v2], [.int x1], SH, σ) = some (some (.int x1), SH, σ)) := ⟨fun v1 v2 a1 st σ => q_go e174_0 rfl rfl,
  fun v0 v2 x1 st σ => q_go e174_1 rfl rfl,
  fun v0 v1 v2 x1 a0 σ hc => q_invV (as := [.int x1]) (rest := []) e174_2 o_174 bn_8_129 c_8_129 m_103 (by decide) rfl rfl (Nat.le_of_ble_eq_true rfl) (Nat.le_of_ble_eq_true rfl) hc,
  fun v0 v1 v2 x1 st σ => (q_if e174_5 rfl).trans q_eq,
  fun v0 v1 x1 st σ => q_go e174_8 rfl rfl,
  fun v0 v1 v2 st σ => q_iconst e174_9 (by decide),
  fun v0 v1 v2 st σ => q_bipush e174_10 (by decide),
  fun v0 v1 v2 x1 x2 x3 σ => q_invS (as := [.int x1, .int x2, .int x3]) (rest := []) e174_12 o_174 bn_8_35 c_8_35 ⟨m_102.1, m_102.2.1, m_102.2.2.1⟩ rfl rfl (Nat.le_of_ble_eq_true rfl) (Nat.le_of_ble_eq_true rfl),
  fun v0 v1 v2 x1 st σ => (q_if e174_15 rfl).trans q_ne,
  fun v0 v1 v2 st σ => q_iconst e174_18 (by decide),
  fun v0 v1 v2 x1 σ => q_iret e174_19 r_174,
  fun v1 v2 a1 st σ => q_go e174_20 rfl rfl,
  fun v0 v1 v2 a1 st σ hc => q_getA e174_21 o_174 f_8_9 (by decide) hc,
  fun v0 v1 v2 st σ => q_bipush e174_24 (by decide),
  fun v0 v2 x1 st σ => q_go e174_26 rfl rfl,
  fun v0 v1 v2 x1 x2 st σ => q_go e174_27 rfl rfl,
  fun v0 v1 v2 k a2 st σ hk => q_iald e174_28 hk,
  fun v0 v1 x1 st σ => q_go e174_29 rfl rfl,
  fun v0 v1 v2 x1 x2 σ => q_invS (as := [.int x1, .int x2]) (rest := []) e174_30 o_174 bn_8_216 c_8_216 ⟨m_165.1, m_165.2.1, m_165.2.2.1⟩ rfl rfl (Nat.le_of_ble_eq_true rfl) (Nat.le_of_ble_eq_true rfl),
  fun v0 v1 v2 x1 st σ => (q_if e174_33 rfl).trans q_eq,
  fun v1 v2 a1 st σ => q_go e174_36 rfl rfl,
  fun v0 v1 v2 a1 st σ hc => q_getA e174_37 o_174 f_8_9 (by decide) hc,
  fun v0 v1 v2 st σ => q_bipush e174_40 (by decide),
  fun v0 v2 x1 st σ => q_go e174_42 rfl rfl,
  fun v0 v1 v2 x1 x2 st σ => q_go e174_43 rfl rfl,
  fun v0 v1 v2 k a2 st σ hk => q_iald e174_44 hk,
  fun v0 v1 v2 st σ => q_goto e174_45 rfl,
  fun v0 v1 v2 st σ => q_bipush e174_48 (by decide),
  fun v0 v1 v2 x1 σ => q_iret e174_50 r_174⟩
theorem E174 {ro : ma_RO} {d : Nat} (a0 : Nat) (x1 : Int32) (x2 : Int32) (sh : List ma_Sh) (σ : ma_H) : ma_ev ro d 174 [.ref a0, .int x1, .int x2] sh σ = ma_rn ro d 174 (0, [some (.ref a0), some (.int x1), some (.int x2)], [], sh, σ) := q_ent x_174 rfl
theorem e175_0 : decode (ma_cd 175) 0 = .ok (.iconst 0, 1) := (congrArg (fun b => decode b 0) cd_175).trans dX8_image_0
theorem e175_1 : decode (ma_cd 175) 1 = .ok (.istore_n 1, 1) := (congrArg (fun b => decode b 1) cd_175).trans dX8_image_1
theorem e175_2 : decode (ma_cd 175) 2 = .ok (.iload_n 1, 1) := (congrArg (fun b => decode b 2) cd_175).trans dX8_image_2
theorem e175_3 : decode (ma_cd 175) 3 = .ok (.sipush 933, 3) := (congrArg (fun b => decode b 3) cd_175).trans dX8_image_3
theorem e175_6 : decode (ma_cd 175) 6 = .ok (.if_icmp .ge 21, 3) := (congrArg (fun b => decode b 6) cd_175).trans dX8_image_6
theorem e175_9 : decode (ma_cd 175) 9 = .ok (.aload_n 0, 1) := (congrArg (fun b => decode b 9) cd_175).trans dX8_image_9
theorem e175_10 : decode (ma_cd 175) 10 = .ok (.getfield 15, 3) := (congrArg (fun b => decode b 10) cd_175).trans dX8_image_10
theorem e175_13 : decode (ma_cd 175) 13 = .ok (.iload_n 1, 1) := (congrArg (fun b => decode b 13) cd_175).trans dX8_image_13
theorem e175_14 : decode (ma_cd 175) 14 = .ok (.aload_n 0, 1) := (congrArg (fun b => decode b 14) cd_175).trans dX8_image_14
theorem e175_15 : decode (ma_cd 175) 15 = .ok (.getfield 9, 3) := (congrArg (fun b => decode b 15) cd_175).trans dX8_image_15
theorem e175_18 : decode (ma_cd 175) 18 = .ok (.iload_n 1, 1) := (congrArg (fun b => decode b 18) cd_175).trans dX8_image_18
theorem e175_19 : decode (ma_cd 175) 19 = .ok (.iaload, 1) := (congrArg (fun b => decode b 19) cd_175).trans dX8_image_19
theorem e175_20 : decode (ma_cd 175) 20 = .ok (.iastore, 1) := (congrArg (fun b => decode b 20) cd_175).trans dX8_image_20
theorem e175_21 : decode (ma_cd 175) 21 = .ok (.iinc 1 1, 3) := (congrArg (fun b => decode b 21) cd_175).trans dX8_image_21
theorem e175_24 : decode (ma_cd 175) 24 = .ok (.goto (-22), 3) := (congrArg (fun b => decode b 24) cd_175).trans dX8_image_24
theorem e175_27 : decode (ma_cd 175) 27 = .ok (.aload_n 0, 1) := (congrArg (fun b => decode b 27) cd_175).trans dX8_image_27
theorem e175_28 : decode (ma_cd 175) 28 = .ok (.iconst 1, 1) := (congrArg (fun b => decode b 28) cd_175).trans dX8_image_28
theorem e175_29 : decode (ma_cd 175) 29 = .ok (.putfield 240, 3) := (congrArg (fun b => decode b 29) cd_175).trans dX8_image_29
theorem e175_32 : decode (ma_cd 175) 32 = .ok (.aload_n 0, 1) := (congrArg (fun b => decode b 32) cd_175).trans dX8_image_32
theorem e175_33 : decode (ma_cd 175) 33 = .ok (.getfield 9, 3) := (congrArg (fun b => decode b 33) cd_175).trans dX8_image_33
theorem e175_36 : decode (ma_cd 175) 36 = .ok (.bipush 33, 2) := (congrArg (fun b => decode b 36) cd_175).trans dX8_image_36
theorem e175_38 : decode (ma_cd 175) 38 = .ok (.iaload, 1) := (congrArg (fun b => decode b 38) cd_175).trans dX8_image_38
theorem e175_39 : decode (ma_cd 175) 39 = .ok (.ireturn, 1) := (congrArg (fun b => decode b 39) cd_175).trans dX8_image_39
theorem Sh175_2 {ro : ma_RO} {d : Nat} : (∀ (v0 : Option Value) (x1 : Int32) (st : List Value) (σ : ma_H), ma_rn ro d 175 (2, [v0, some (.int x1)], st, SH, σ) = ma_rn ro d 175 (3, [v0, some (.int x1)], .int x1 :: st, SH, σ)) := fun v0 x1 st σ => q_go e175_2 rfl rfl
theorem S175 {ro : ma_RO} {d : Nat} : (∀ (v0 : Option Value) (v1 : Option Value) (st : List Value) (σ : ma_H), ma_rn ro d 175 (0, [v0, v1], st, SH, σ) = ma_rn ro d 175 (1, [v0, v1], .int (nI 0) :: st, SH, σ)) ∧
  (∀ (v1 : Option Value) (a9 : Nat) (x1 : Int32) (st : List Value) (σ : ma_H), ma_rn ro d 175 (1, [some (.ref a9), v1], .int x1 :: st, SH, σ) = ma_rn ro d 175 (2, [some (.ref a9), some (.int x1)], st, SH, σ)) ∧
  (∀ (v0 : Option Value) (v1 : Option Value) (st : List Value) (σ : ma_H), ma_rn ro d 175 (3, [v0, v1], st, SH, σ) = ma_rn ro d 175 (6, [v0, v1], .int (nI 933) :: st, SH, σ)) ∧
  (∀ (v0 : Option Value) (v1 : Option Value) (x1 : Int32) (x2 : Int32) (st : List Value) (σ : ma_H), ma_rn ro d 175 (6, [v0, v1], .int x1 :: .int x2 :: st, SH, σ) = if x2 < x1 then ma_rn ro d 175 (9, [v0, v1], st, SH, σ) else ma_rn ro d 175 (27, [v0, v1], st, SH, σ)) ∧
  (∀ (v1 : Option Value) (a1 : Nat) (st : List Value) (σ : ma_H), ma_rn ro d 175 (9, [some (.ref a1), v1], st, SH, σ) = ma_rn ro d 175 (10, [some (.ref a1), v1], .ref a1 :: st, SH, σ)) ∧
  (∀ (v0 : Option Value) (v1 : Option Value) (a1 : Nat) (st : List Value) (σ : ma_H) (hc : hk_cls a1 = 8), ma_rn ro d 175 (10, [v0, v1], .ref a1 :: st, SH, σ) = ma_rn ro d 175 (13, [v0, v1], .ref (92) :: st, SH, σ)) ∧
  (∀ (v0 : Option Value) (x1 : Int32) (st : List Value) (σ : ma_H), ma_rn ro d 175 (13, [v0, some (.int x1)], st, SH, σ) = ma_rn ro d 175 (14, [v0, some (.int x1)], .int x1 :: st, SH, σ)) ∧
  (∀ (v1 : Option Value) (a1 : Nat) (st : List Value) (σ : ma_H), ma_rn ro d 175 (14, [some (.ref a1), v1], st, SH, σ) = ma_rn ro d 175 (15, [some (.ref a1), v1], .ref a1 :: st, SH, σ)) ∧
  (∀ (v0 : Option Value) (v1 : Option Value) (a1 : Nat) (st : List Value) (σ : ma_H) (hc : hk_cls a1 = 8), ma_rn ro d 175 (15, [v0, v1], .ref a1 :: st, SH, σ) = ma_rn ro d 175 (18, [v0, v1], .ref (91) :: st, SH, σ)) ∧
  (∀ (v0 : Option Value) (x1 : Int32) (st : List Value) (σ : ma_H), ma_rn ro d 175 (18, [v0, some (.int x1)], st, SH, σ) = ma_rn ro d 175 (19, [v0, some (.int x1)], .int x1 :: st, SH, σ)) ∧
  (∀ (v0 : Option Value) (v1 : Option Value) (k : Nat) (a2 : Nat) (st : List Value) (σ : ma_H) (hk : k < hk_len a2), ma_rn ro d 175 (19, [v0, v1], .int (nI k) :: .ref a2 :: st, SH, σ) = ma_rn ro d 175 (20, [v0, v1], .int (σ a2 k) :: st, SH, σ)) ∧
  (∀ (v0 : Option Value) (v1 : Option Value) (x1 : Int32) (k : Nat) (a3 : Nat) (st : List Value) (σ : ma_H) (hk : k < hk_len a3), ma_rn ro d 175 (20, [v0, v1], .int x1 :: .int (nI k) :: .ref a3 :: st, SH, σ) = ma_rn ro d 175 (21, [v0, v1], st, SH, (ma_up σ a3 k x1))) ∧
  (∀ (x1 : Int32) (a9 : Nat) (st : List Value) (σ : ma_H), ma_rn ro d 175 (21, [some (.ref a9), some (.int x1)], st, SH, σ) = ma_rn ro d 175 (24, [some (.ref a9), some (.int (x1 + nI 1))], st, SH, σ)) ∧
  (∀ (v0 : Option Value) (v1 : Option Value) (st : List Value) (σ : ma_H), ma_rn ro d 175 (24, [v0, v1], st, SH, σ) = ma_rn ro d 175 (2, [v0, v1], st, SH, σ)) ∧
  (∀ (v1 : Option Value) (a1 : Nat) (st : List Value) (σ : ma_H), ma_rn ro d 175 (27, [some (.ref a1), v1], st, SH, σ) = ma_rn ro d 175 (28, [some (.ref a1), v1], .ref a1 :: st, SH, σ)) ∧
  (∀ (v0 : Option Value) (v1 : Option Value) (st : List Value) (σ : ma_H), ma_rn ro d 175 (28, [v0, v1], st, SH, σ) = ma_rn ro d 175 (29, [v0, v1], .int (nI 1) :: st, SH, σ)) ∧
  (∀ (v0 : Option Value) (v1 : Option Value) (x1 : Int32) (a2 : Nat) (st : List Value) (σ : ma_H) (hx : ma_fitI .boolean x1 = true) (hc : hk_cls a2 = 8), ma_rn ro d 175 (29, [v0, v1], .int x1 :: .ref a2 :: st, SH, σ) = ma_rn ro d 175 (32, [v0, v1], st, SH, (ma_up σ a2 4 x1))) ∧
  (∀ (v1 : Option Value) (a1 : Nat) (st : List Value) (σ : ma_H), ma_rn ro d 175 (32, [some (.ref a1), v1], st, SH, σ) = ma_rn ro d 175 (33, [some (.ref a1), v1], .ref a1 :: st, SH, σ)) ∧
  (∀ (v0 : Option Value) (v1 : Option Value) (a1 : Nat) (st : List Value) (σ : ma_H) (hc : hk_cls a1 = 8), ma_rn ro d 175 (33, [v0, v1], .ref a1 :: st, SH, σ) = ma_rn ro d 175 (36, [v0, v1], .ref (91) :: st, SH, σ)) ∧
  (∀ (v0 : Option Value) (v1 : Option Value) (st : List Value) (σ : ma_H), ma_rn ro d 175 (36, [v0, v1], st, SH, σ) = ma_rn ro d 175 (38, [v0, v1], .int (nI 33) :: st, SH, σ)) ∧
  (∀ (v0 : Option Value) (v1 : Option Value) (k : Nat) (a2 : Nat) (st : List Value) (σ : ma_H) (hk : k < hk_len a2), ma_rn ro d 175 (38, [v0, v1], .int (nI k) :: .ref a2 :: st, SH, σ) = ma_rn ro d 175 (39, [v0, v1], .int (σ a2 k) :: st, SH, σ)) ∧
  (∀ (v0 : Option Value) (v1 : Option Value) (x1 : Int32) (σ : ma_H), ma_rn ro d 175 (39, [v0, v1], [.int x1], SH, σ) = some (some (.int x1), SH, σ)) := ⟨fun v0 v1 st σ => q_iconst e175_0 (by decide),
  fun v1 a9 x1 st σ => q_go e175_1 rfl rfl,
  fun v0 v1 st σ => q_sipush e175_3 (by decide),
  fun v0 v1 x1 x2 st σ => (q_cmp e175_6 rfl).trans q_nlt,
  fun v1 a1 st σ => q_go e175_9 rfl rfl,
  fun v0 v1 a1 st σ hc => q_getA e175_10 o_175 f_8_15 (by decide) hc,
  fun v0 x1 st σ => q_go e175_13 rfl rfl,
  fun v1 a1 st σ => q_go e175_14 rfl rfl,
  fun v0 v1 a1 st σ hc => q_getA e175_15 o_175 f_8_9 (by decide) hc,
  fun v0 x1 st σ => q_go e175_18 rfl rfl,
  fun v0 v1 k a2 st σ hk => q_iald e175_19 hk,
  fun v0 v1 x1 k a3 st σ hk => q_iast e175_20 hk,
  fun x1 a9 st σ => q_iinc e175_21 rfl rfl (by decide),
  fun v0 v1 st σ => q_goto e175_24 rfl,
  fun v1 a1 st σ => q_go e175_27 rfl rfl,
  fun v0 v1 st σ => q_iconst e175_28 (by decide),
  fun v0 v1 x1 a2 st σ hx hc => q_putI e175_29 o_175 f_8_240 (by decide) hx hc,
  fun v1 a1 st σ => q_go e175_32 rfl rfl,
  fun v0 v1 a1 st σ hc => q_getA e175_33 o_175 f_8_9 (by decide) hc,
  fun v0 v1 st σ => q_bipush e175_36 (by decide),
  fun v0 v1 k a2 st σ hk => q_iald e175_38 hk,
  fun v0 v1 x1 σ => q_iret e175_39 r_175⟩
theorem E175 {ro : ma_RO} {d : Nat} (a0 : Nat) (sh : List ma_Sh) (σ : ma_H) : ma_ev ro d 175 [.ref a0] sh σ = ma_rn ro d 175 (0, [some (.ref a0), none], [], sh, σ) := q_ent x_175 rfl
theorem e176_0 : decode (ma_cd 176) 0 = .ok (.aload_n 0, 1) := (congrArg (fun b => decode b 0) cd_176).trans dX8_undo_0
theorem e176_1 : decode (ma_cd 176) 1 = .ok (.getfield 240, 3) := (congrArg (fun b => decode b 1) cd_176).trans dX8_undo_1
theorem e176_4 : decode (ma_cd 176) 4 = .ok (.ifCond .ne 6, 3) := (congrArg (fun b => decode b 4) cd_176).trans dX8_undo_4
theorem e176_7 : decode (ma_cd 176) 7 = .ok (.bipush (-3), 2) := (congrArg (fun b => decode b 7) cd_176).trans dX8_undo_7
theorem e176_9 : decode (ma_cd 176) 9 = .ok (.ireturn, 1) := (congrArg (fun b => decode b 9) cd_176).trans dX8_undo_9
theorem e176_10 : decode (ma_cd 176) 10 = .ok (.iconst 0, 1) := (congrArg (fun b => decode b 10) cd_176).trans dX8_undo_10
theorem e176_11 : decode (ma_cd 176) 11 = .ok (.istore_n 1, 1) := (congrArg (fun b => decode b 11) cd_176).trans dX8_undo_11
theorem e176_12 : decode (ma_cd 176) 12 = .ok (.iload_n 1, 1) := (congrArg (fun b => decode b 12) cd_176).trans dX8_undo_12
theorem e176_13 : decode (ma_cd 176) 13 = .ok (.sipush 933, 3) := (congrArg (fun b => decode b 13) cd_176).trans dX8_undo_13
theorem e176_16 : decode (ma_cd 176) 16 = .ok (.if_icmp .ge 21, 3) := (congrArg (fun b => decode b 16) cd_176).trans dX8_undo_16
theorem e176_19 : decode (ma_cd 176) 19 = .ok (.aload_n 0, 1) := (congrArg (fun b => decode b 19) cd_176).trans dX8_undo_19
theorem e176_20 : decode (ma_cd 176) 20 = .ok (.getfield 9, 3) := (congrArg (fun b => decode b 20) cd_176).trans dX8_undo_20
theorem e176_23 : decode (ma_cd 176) 23 = .ok (.iload_n 1, 1) := (congrArg (fun b => decode b 23) cd_176).trans dX8_undo_23
theorem e176_24 : decode (ma_cd 176) 24 = .ok (.aload_n 0, 1) := (congrArg (fun b => decode b 24) cd_176).trans dX8_undo_24
theorem e176_25 : decode (ma_cd 176) 25 = .ok (.getfield 15, 3) := (congrArg (fun b => decode b 25) cd_176).trans dX8_undo_25
theorem e176_28 : decode (ma_cd 176) 28 = .ok (.iload_n 1, 1) := (congrArg (fun b => decode b 28) cd_176).trans dX8_undo_28
theorem e176_29 : decode (ma_cd 176) 29 = .ok (.iaload, 1) := (congrArg (fun b => decode b 29) cd_176).trans dX8_undo_29
theorem e176_30 : decode (ma_cd 176) 30 = .ok (.iastore, 1) := (congrArg (fun b => decode b 30) cd_176).trans dX8_undo_30
theorem e176_31 : decode (ma_cd 176) 31 = .ok (.iinc 1 1, 3) := (congrArg (fun b => decode b 31) cd_176).trans dX8_undo_31
theorem e176_34 : decode (ma_cd 176) 34 = .ok (.goto (-22), 3) := (congrArg (fun b => decode b 34) cd_176).trans dX8_undo_34
theorem e176_37 : decode (ma_cd 176) 37 = .ok (.aload_n 0, 1) := (congrArg (fun b => decode b 37) cd_176).trans dX8_undo_37
theorem e176_38 : decode (ma_cd 176) 38 = .ok (.getfield 9, 3) := (congrArg (fun b => decode b 38) cd_176).trans dX8_undo_38
theorem e176_41 : decode (ma_cd 176) 41 = .ok (.bipush 33, 2) := (congrArg (fun b => decode b 41) cd_176).trans dX8_undo_41
theorem e176_43 : decode (ma_cd 176) 43 = .ok (.iaload, 1) := (congrArg (fun b => decode b 43) cd_176).trans dX8_undo_43
theorem e176_44 : decode (ma_cd 176) 44 = .ok (.ireturn, 1) := (congrArg (fun b => decode b 44) cd_176).trans dX8_undo_44
theorem Sh176_12 {ro : ma_RO} {d : Nat} : (∀ (v0 : Option Value) (x1 : Int32) (st : List Value) (σ : ma_H), ma_rn ro d 176 (12, [v0, some (.int x1)], st, SH, σ) = ma_rn ro d 176 (13, [v0, some (.int x1)], .int x1 :: st, SH, σ)) := fun v0 x1 st σ => q_go e176_12 rfl rfl
theorem S176 {ro : ma_RO} {d : Nat} : (∀ (v1 : Option Value) (a1 : Nat) (st : List Value) (σ : ma_H), ma_rn ro d 176 (0, [some (.ref a1), v1], st, SH, σ) = ma_rn ro d 176 (1, [some (.ref a1), v1], .ref a1 :: st, SH, σ)) ∧
  (∀ (v0 : Option Value) (v1 : Option Value) (a1 : Nat) (st : List Value) (σ : ma_H) (hc : hk_cls a1 = 8), ma_rn ro d 176 (1, [v0, v1], .ref a1 :: st, SH, σ) = ma_rn ro d 176 (4, [v0, v1], .int (σ a1 4) :: st, SH, σ)) ∧
  (∀ (v0 : Option Value) (v1 : Option Value) (x1 : Int32) (st : List Value) (σ : ma_H), ma_rn ro d 176 (4, [v0, v1], .int x1 :: st, SH, σ) = if x1 = nI 0 then ma_rn ro d 176 (7, [v0, v1], st, SH, σ) else ma_rn ro d 176 (10, [v0, v1], st, SH, σ)) ∧
  (∀ (v0 : Option Value) (v1 : Option Value) (st : List Value) (σ : ma_H), ma_rn ro d 176 (7, [v0, v1], st, SH, σ) = ma_rn ro d 176 (9, [v0, v1], .int ((-3)) :: st, SH, σ)) ∧
  (∀ (v0 : Option Value) (v1 : Option Value) (x1 : Int32) (σ : ma_H), ma_rn ro d 176 (9, [v0, v1], [.int x1], SH, σ) = some (some (.int x1), SH, σ)) ∧
  (∀ (v0 : Option Value) (v1 : Option Value) (st : List Value) (σ : ma_H), ma_rn ro d 176 (10, [v0, v1], st, SH, σ) = ma_rn ro d 176 (11, [v0, v1], .int (nI 0) :: st, SH, σ)) ∧
  (∀ (v1 : Option Value) (a9 : Nat) (x1 : Int32) (st : List Value) (σ : ma_H), ma_rn ro d 176 (11, [some (.ref a9), v1], .int x1 :: st, SH, σ) = ma_rn ro d 176 (12, [some (.ref a9), some (.int x1)], st, SH, σ)) ∧
  (∀ (v0 : Option Value) (v1 : Option Value) (st : List Value) (σ : ma_H), ma_rn ro d 176 (13, [v0, v1], st, SH, σ) = ma_rn ro d 176 (16, [v0, v1], .int (nI 933) :: st, SH, σ)) ∧
  (∀ (v0 : Option Value) (v1 : Option Value) (x1 : Int32) (x2 : Int32) (st : List Value) (σ : ma_H), ma_rn ro d 176 (16, [v0, v1], .int x1 :: .int x2 :: st, SH, σ) = if x2 < x1 then ma_rn ro d 176 (19, [v0, v1], st, SH, σ) else ma_rn ro d 176 (37, [v0, v1], st, SH, σ)) ∧
  (∀ (v1 : Option Value) (a1 : Nat) (st : List Value) (σ : ma_H), ma_rn ro d 176 (19, [some (.ref a1), v1], st, SH, σ) = ma_rn ro d 176 (20, [some (.ref a1), v1], .ref a1 :: st, SH, σ)) ∧
  (∀ (v0 : Option Value) (v1 : Option Value) (a1 : Nat) (st : List Value) (σ : ma_H) (hc : hk_cls a1 = 8), ma_rn ro d 176 (20, [v0, v1], .ref a1 :: st, SH, σ) = ma_rn ro d 176 (23, [v0, v1], .ref (91) :: st, SH, σ)) ∧
  (∀ (v0 : Option Value) (x1 : Int32) (st : List Value) (σ : ma_H), ma_rn ro d 176 (23, [v0, some (.int x1)], st, SH, σ) = ma_rn ro d 176 (24, [v0, some (.int x1)], .int x1 :: st, SH, σ)) ∧
  (∀ (v1 : Option Value) (a1 : Nat) (st : List Value) (σ : ma_H), ma_rn ro d 176 (24, [some (.ref a1), v1], st, SH, σ) = ma_rn ro d 176 (25, [some (.ref a1), v1], .ref a1 :: st, SH, σ)) ∧
  (∀ (v0 : Option Value) (v1 : Option Value) (a1 : Nat) (st : List Value) (σ : ma_H) (hc : hk_cls a1 = 8), ma_rn ro d 176 (25, [v0, v1], .ref a1 :: st, SH, σ) = ma_rn ro d 176 (28, [v0, v1], .ref (92) :: st, SH, σ)) ∧
  (∀ (v0 : Option Value) (x1 : Int32) (st : List Value) (σ : ma_H), ma_rn ro d 176 (28, [v0, some (.int x1)], st, SH, σ) = ma_rn ro d 176 (29, [v0, some (.int x1)], .int x1 :: st, SH, σ)) ∧
  (∀ (v0 : Option Value) (v1 : Option Value) (k : Nat) (a2 : Nat) (st : List Value) (σ : ma_H) (hk : k < hk_len a2), ma_rn ro d 176 (29, [v0, v1], .int (nI k) :: .ref a2 :: st, SH, σ) = ma_rn ro d 176 (30, [v0, v1], .int (σ a2 k) :: st, SH, σ)) ∧
  (∀ (v0 : Option Value) (v1 : Option Value) (x1 : Int32) (k : Nat) (a3 : Nat) (st : List Value) (σ : ma_H) (hk : k < hk_len a3), ma_rn ro d 176 (30, [v0, v1], .int x1 :: .int (nI k) :: .ref a3 :: st, SH, σ) = ma_rn ro d 176 (31, [v0, v1], st, SH, (ma_up σ a3 k x1))) ∧
  (∀ (x1 : Int32) (a9 : Nat) (st : List Value) (σ : ma_H), ma_rn ro d 176 (31, [some (.ref a9), some (.int x1)], st, SH, σ) = ma_rn ro d 176 (34, [some (.ref a9), some (.int (x1 + nI 1))], st, SH, σ)) ∧
  (∀ (v0 : Option Value) (v1 : Option Value) (st : List Value) (σ : ma_H), ma_rn ro d 176 (34, [v0, v1], st, SH, σ) = ma_rn ro d 176 (12, [v0, v1], st, SH, σ)) ∧
  (∀ (v1 : Option Value) (a1 : Nat) (st : List Value) (σ : ma_H), ma_rn ro d 176 (37, [some (.ref a1), v1], st, SH, σ) = ma_rn ro d 176 (38, [some (.ref a1), v1], .ref a1 :: st, SH, σ)) ∧
  (∀ (v0 : Option Value) (v1 : Option Value) (a1 : Nat) (st : List Value) (σ : ma_H) (hc : hk_cls a1 = 8), ma_rn ro d 176 (38, [v0, v1], .ref a1 :: st, SH, σ) = ma_rn ro d 176 (41, [v0, v1], .ref (91) :: st, SH, σ)) ∧
  (∀ (v0 : Option Value) (v1 : Option Value) (st : List Value) (σ : ma_H), ma_rn ro d 176 (41, [v0, v1], st, SH, σ) = ma_rn ro d 176 (43, [v0, v1], .int (nI 33) :: st, SH, σ)) ∧
  (∀ (v0 : Option Value) (v1 : Option Value) (k : Nat) (a2 : Nat) (st : List Value) (σ : ma_H) (hk : k < hk_len a2), ma_rn ro d 176 (43, [v0, v1], .int (nI k) :: .ref a2 :: st, SH, σ) = ma_rn ro d 176 (44, [v0, v1], .int (σ a2 k) :: st, SH, σ)) ∧
  (∀ (v0 : Option Value) (v1 : Option Value) (x1 : Int32) (σ : ma_H), ma_rn ro d 176 (44, [v0, v1], [.int x1], SH, σ) = some (some (.int x1), SH, σ)) := ⟨fun v1 a1 st σ => q_go e176_0 rfl rfl,
  fun v0 v1 a1 st σ hc => q_getI e176_1 o_176 f_8_240 (by decide) hc,
  fun v0 v1 x1 st σ => (q_if e176_4 rfl).trans q_ne,
  fun v0 v1 st σ => q_bipush e176_7 (by decide),
  fun v0 v1 x1 σ => q_iret e176_9 r_176,
  fun v0 v1 st σ => q_iconst e176_10 (by decide),
  fun v1 a9 x1 st σ => q_go e176_11 rfl rfl,
  fun v0 v1 st σ => q_sipush e176_13 (by decide),
  fun v0 v1 x1 x2 st σ => (q_cmp e176_16 rfl).trans q_nlt,
  fun v1 a1 st σ => q_go e176_19 rfl rfl,
  fun v0 v1 a1 st σ hc => q_getA e176_20 o_176 f_8_9 (by decide) hc,
  fun v0 x1 st σ => q_go e176_23 rfl rfl,
  fun v1 a1 st σ => q_go e176_24 rfl rfl,
  fun v0 v1 a1 st σ hc => q_getA e176_25 o_176 f_8_15 (by decide) hc,
  fun v0 x1 st σ => q_go e176_28 rfl rfl,
  fun v0 v1 k a2 st σ hk => q_iald e176_29 hk,
  fun v0 v1 x1 k a3 st σ hk => q_iast e176_30 hk,
  fun x1 a9 st σ => q_iinc e176_31 rfl rfl (by decide),
  fun v0 v1 st σ => q_goto e176_34 rfl,
  fun v1 a1 st σ => q_go e176_37 rfl rfl,
  fun v0 v1 a1 st σ hc => q_getA e176_38 o_176 f_8_9 (by decide) hc,
  fun v0 v1 st σ => q_bipush e176_41 (by decide),
  fun v0 v1 k a2 st σ hk => q_iald e176_43 hk,
  fun v0 v1 x1 σ => q_iret e176_44 r_176⟩
theorem E176 {ro : ma_RO} {d : Nat} (a0 : Nat) (sh : List ma_Sh) (σ : ma_H) : ma_ev ro d 176 [.ref a0] sh σ = ma_rn ro d 176 (0, [some (.ref a0), none], [], sh, σ) := q_ent x_176 rfl
theorem e177_0 : decode (ma_cd 177) 0 = .ok (.iload_n 1, 1) := (congrArg (fun b => decode b 0) cd_177).trans dX8_count_0
theorem e177_1 : decode (ma_cd 177) 1 = .ok (.bipush 6, 2) := (congrArg (fun b => decode b 1) cd_177).trans dX8_count_1
theorem e177_3 : decode (ma_cd 177) 3 = .ok (.if_icmp .ne 10, 3) := (congrArg (fun b => decode b 3) cd_177).trans dX8_count_3
theorem e177_6 : decode (ma_cd 177) 6 = .ok (.aload_n 0, 1) := (congrArg (fun b => decode b 6) cd_177).trans dX8_count_6
theorem e177_7 : decode (ma_cd 177) 7 = .ok (.getfield 204, 3) := (congrArg (fun b => decode b 7) cd_177).trans dX8_count_7
theorem e177_10 : decode (ma_cd 177) 10 = .ok (.goto 25, 3) := (congrArg (fun b => decode b 10) cd_177).trans dX8_count_10
theorem e177_13 : decode (ma_cd 177) 13 = .ok (.iload_n 1, 1) := (congrArg (fun b => decode b 13) cd_177).trans dX8_count_13
theorem e177_14 : decode (ma_cd 177) 14 = .ok (.iconst 0, 1) := (congrArg (fun b => decode b 14) cd_177).trans dX8_count_14
theorem e177_15 : decode (ma_cd 177) 15 = .ok (.iconst 5, 1) := (congrArg (fun b => decode b 15) cd_177).trans dX8_count_15
theorem e177_16 : decode (ma_cd 177) 16 = .ok (.invokestatic 35, 3) := (congrArg (fun b => decode b 16) cd_177).trans dX8_count_16
theorem e177_19 : decode (ma_cd 177) 19 = .ok (.ifCond .eq 15, 3) := (congrArg (fun b => decode b 19) cd_177).trans dX8_count_19
theorem e177_22 : decode (ma_cd 177) 22 = .ok (.aload_n 0, 1) := (congrArg (fun b => decode b 22) cd_177).trans dX8_count_22
theorem e177_23 : decode (ma_cd 177) 23 = .ok (.getfield 9, 3) := (congrArg (fun b => decode b 23) cd_177).trans dX8_count_23
theorem e177_26 : decode (ma_cd 177) 26 = .ok (.bipush 33, 2) := (congrArg (fun b => decode b 26) cd_177).trans dX8_count_26
theorem e177_28 : decode (ma_cd 177) 28 = .ok (.iload_n 1, 1) := (congrArg (fun b => decode b 28) cd_177).trans dX8_count_28
theorem e177_29 : decode (ma_cd 177) 29 = .ok (.iadd, 1) := (congrArg (fun b => decode b 29) cd_177).trans dX8_count_29
theorem e177_30 : decode (ma_cd 177) 30 = .ok (.iaload, 1) := (congrArg (fun b => decode b 30) cd_177).trans dX8_count_30
theorem e177_31 : decode (ma_cd 177) 31 = .ok (.goto 4, 3) := (congrArg (fun b => decode b 31) cd_177).trans dX8_count_31
theorem e177_34 : decode (ma_cd 177) 34 = .ok (.iconst (-1), 1) := (congrArg (fun b => decode b 34) cd_177).trans dX8_count_34
theorem e177_35 : decode (ma_cd 177) 35 = .ok (.ireturn, 1) := (congrArg (fun b => decode b 35) cd_177).trans dX8_count_35
theorem S177 {ro : ma_RO} {d : Nat} : (∀ (v0 : Option Value) (x1 : Int32) (st : List Value) (σ : ma_H), ma_rn ro d 177 (0, [v0, some (.int x1)], st, SH, σ) = ma_rn ro d 177 (1, [v0, some (.int x1)], .int x1 :: st, SH, σ)) ∧
  (∀ (v0 : Option Value) (v1 : Option Value) (st : List Value) (σ : ma_H), ma_rn ro d 177 (1, [v0, v1], st, SH, σ) = ma_rn ro d 177 (3, [v0, v1], .int (nI 6) :: st, SH, σ)) ∧
  (∀ (v0 : Option Value) (v1 : Option Value) (x1 : Int32) (x2 : Int32) (st : List Value) (σ : ma_H), ma_rn ro d 177 (3, [v0, v1], .int x1 :: .int x2 :: st, SH, σ) = if x2 = x1 then ma_rn ro d 177 (6, [v0, v1], st, SH, σ) else ma_rn ro d 177 (13, [v0, v1], st, SH, σ)) ∧
  (∀ (v1 : Option Value) (a1 : Nat) (st : List Value) (σ : ma_H), ma_rn ro d 177 (6, [some (.ref a1), v1], st, SH, σ) = ma_rn ro d 177 (7, [some (.ref a1), v1], .ref a1 :: st, SH, σ)) ∧
  (∀ (v0 : Option Value) (v1 : Option Value) (a1 : Nat) (st : List Value) (σ : ma_H) (hc : hk_cls a1 = 8), ma_rn ro d 177 (7, [v0, v1], .ref a1 :: st, SH, σ) = ma_rn ro d 177 (10, [v0, v1], .int (σ a1 13) :: st, SH, σ)) ∧
  (∀ (v0 : Option Value) (v1 : Option Value) (st : List Value) (σ : ma_H), ma_rn ro d 177 (10, [v0, v1], st, SH, σ) = ma_rn ro d 177 (35, [v0, v1], st, SH, σ)) ∧
  (∀ (v0 : Option Value) (x1 : Int32) (st : List Value) (σ : ma_H), ma_rn ro d 177 (13, [v0, some (.int x1)], st, SH, σ) = ma_rn ro d 177 (14, [v0, some (.int x1)], .int x1 :: st, SH, σ)) ∧
  (∀ (v0 : Option Value) (v1 : Option Value) (st : List Value) (σ : ma_H), ma_rn ro d 177 (14, [v0, v1], st, SH, σ) = ma_rn ro d 177 (15, [v0, v1], .int (nI 0) :: st, SH, σ)) ∧
  (∀ (v0 : Option Value) (v1 : Option Value) (st : List Value) (σ : ma_H), ma_rn ro d 177 (15, [v0, v1], st, SH, σ) = ma_rn ro d 177 (16, [v0, v1], .int (nI 5) :: st, SH, σ)) ∧
  (∀ (v0 : Option Value) (v1 : Option Value) (x1 : Int32) (x2 : Int32) (x3 : Int32) (σ : ma_H), ma_rn ro (d + 1) 177 (16, [v0, v1], .int x3 :: .int x2 :: .int x1 :: [], SH, σ) = (ma_ev ro d 102 [.int x1, .int x2, .int x3] SH σ).bind (fun q => ma_rn ro (d + 1) 177 (19, [v0, v1], (q.1.toList ++ []), q.2.1, q.2.2))) ∧
  (∀ (v0 : Option Value) (v1 : Option Value) (x1 : Int32) (st : List Value) (σ : ma_H), ma_rn ro d 177 (19, [v0, v1], .int x1 :: st, SH, σ) = if x1 = nI 0 then ma_rn ro d 177 (34, [v0, v1], st, SH, σ) else ma_rn ro d 177 (22, [v0, v1], st, SH, σ)) ∧
  (∀ (v1 : Option Value) (a1 : Nat) (st : List Value) (σ : ma_H), ma_rn ro d 177 (22, [some (.ref a1), v1], st, SH, σ) = ma_rn ro d 177 (23, [some (.ref a1), v1], .ref a1 :: st, SH, σ)) ∧
  (∀ (v0 : Option Value) (v1 : Option Value) (a1 : Nat) (st : List Value) (σ : ma_H) (hc : hk_cls a1 = 8), ma_rn ro d 177 (23, [v0, v1], .ref a1 :: st, SH, σ) = ma_rn ro d 177 (26, [v0, v1], .ref (91) :: st, SH, σ)) ∧
  (∀ (v0 : Option Value) (v1 : Option Value) (st : List Value) (σ : ma_H), ma_rn ro d 177 (26, [v0, v1], st, SH, σ) = ma_rn ro d 177 (28, [v0, v1], .int (nI 33) :: st, SH, σ)) ∧
  (∀ (v0 : Option Value) (x1 : Int32) (st : List Value) (σ : ma_H), ma_rn ro d 177 (28, [v0, some (.int x1)], st, SH, σ) = ma_rn ro d 177 (29, [v0, some (.int x1)], .int x1 :: st, SH, σ)) ∧
  (∀ (v0 : Option Value) (v1 : Option Value) (x1 : Int32) (x2 : Int32) (st : List Value) (σ : ma_H), ma_rn ro d 177 (29, [v0, v1], .int x1 :: .int x2 :: st, SH, σ) = ma_rn ro d 177 (30, [v0, v1], .int (x2 + x1) :: st, SH, σ)) ∧
  (∀ (v0 : Option Value) (v1 : Option Value) (k : Nat) (a2 : Nat) (st : List Value) (σ : ma_H) (hk : k < hk_len a2), ma_rn ro d 177 (30, [v0, v1], .int (nI k) :: .ref a2 :: st, SH, σ) = ma_rn ro d 177 (31, [v0, v1], .int (σ a2 k) :: st, SH, σ)) ∧
  (∀ (v0 : Option Value) (v1 : Option Value) (st : List Value) (σ : ma_H), ma_rn ro d 177 (31, [v0, v1], st, SH, σ) = ma_rn ro d 177 (35, [v0, v1], st, SH, σ)) ∧
  (∀ (v0 : Option Value) (v1 : Option Value) (st : List Value) (σ : ma_H), ma_rn ro d 177 (34, [v0, v1], st, SH, σ) = ma_rn ro d 177 (35, [v0, v1], .int ((-1)) :: st, SH, σ)) ∧
  (∀ (v0 : Option Value) (v1 : Option Value) (x1 : Int32) (σ : ma_H), ma_rn ro d 177 (35, [v0, v1], [.int x1], SH, σ) = some (some (.int x1), SH, σ)) := ⟨fun v0 x1 st σ => q_go e177_0 rfl rfl,
  fun v0 v1 st σ => q_bipush e177_1 (by decide),
  fun v0 v1 x1 x2 st σ => (q_cmp e177_3 rfl).trans q_ne,
  fun v1 a1 st σ => q_go e177_6 rfl rfl,
  fun v0 v1 a1 st σ hc => q_getI e177_7 o_177 f_8_204 (by decide) hc,
  fun v0 v1 st σ => q_goto e177_10 rfl,
  fun v0 x1 st σ => q_go e177_13 rfl rfl,
  fun v0 v1 st σ => q_iconst e177_14 (by decide),
  fun v0 v1 st σ => q_iconst e177_15 (by decide),
  fun v0 v1 x1 x2 x3 σ => q_invS (as := [.int x1, .int x2, .int x3]) (rest := []) e177_16 o_177 bn_8_35 c_8_35 ⟨m_102.1, m_102.2.1, m_102.2.2.1⟩ rfl rfl (Nat.le_of_ble_eq_true rfl) (Nat.le_of_ble_eq_true rfl),
  fun v0 v1 x1 st σ => (q_if e177_19 rfl).trans q_eq,
  fun v1 a1 st σ => q_go e177_22 rfl rfl,
  fun v0 v1 a1 st σ hc => q_getA e177_23 o_177 f_8_9 (by decide) hc,
  fun v0 v1 st σ => q_bipush e177_26 (by decide),
  fun v0 x1 st σ => q_go e177_28 rfl rfl,
  fun v0 v1 x1 x2 st σ => q_go e177_29 rfl rfl,
  fun v0 v1 k a2 st σ hk => q_iald e177_30 hk,
  fun v0 v1 st σ => q_goto e177_31 rfl,
  fun v0 v1 st σ => q_iconst e177_34 (by decide),
  fun v0 v1 x1 σ => q_iret e177_35 r_177⟩
theorem E177 {ro : ma_RO} {d : Nat} (a0 : Nat) (x1 : Int32) (sh : List ma_Sh) (σ : ma_H) : ma_ev ro d 177 [.ref a0, .int x1] sh σ = ma_rn ro d 177 (0, [some (.ref a0), some (.int x1)], [], sh, σ) := q_ent x_177 rfl

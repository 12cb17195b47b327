/-! The equations of the instructions. -/
theorem e1_0 : decode (ma_cd 1) 0 = .ok (.aload_n 0, 1) := (congrArg (fun b => decode b 0) cd_1).trans dX0_begin_0
theorem e1_1 : decode (ma_cd 1) 1 = .ok (.getfield 15, 3) := (congrArg (fun b => decode b 1) cd_1).trans dX0_begin_1
theorem e1_4 : decode (ma_cd 1) 4 = .ok (.ifCond .lt 25, 3) := (congrArg (fun b => decode b 4) cd_1).trans dX0_begin_4
theorem e1_7 : decode (ma_cd 1) 7 = .ok (.aload_n 0, 1) := (congrArg (fun b => decode b 7) cd_1).trans dX0_begin_7
theorem e1_8 : decode (ma_cd 1) 8 = .ok (.getfield 15, 3) := (congrArg (fun b => decode b 8) cd_1).trans dX0_begin_8
theorem e1_11 : decode (ma_cd 1) 11 = .ok (.aload_n 0, 1) := (congrArg (fun b => decode b 11) cd_1).trans dX0_begin_11
theorem e1_12 : decode (ma_cd 1) 12 = .ok (.getfield 9, 3) := (congrArg (fun b => decode b 12) cd_1).trans dX0_begin_12
theorem e1_15 : decode (ma_cd 1) 15 = .ok (.arraylength, 1) := (congrArg (fun b => decode b 15) cd_1).trans dX0_begin_15
theorem e1_16 : decode (ma_cd 1) 16 = .ok (.if_icmp .ge 13, 3) := (congrArg (fun b => decode b 16) cd_1).trans dX0_begin_16
theorem e1_19 : decode (ma_cd 1) 19 = .ok (.aload_n 0, 1) := (congrArg (fun b => decode b 19) cd_1).trans dX0_begin_19
theorem e1_20 : decode (ma_cd 1) 20 = .ok (.getfield 9, 3) := (congrArg (fun b => decode b 20) cd_1).trans dX0_begin_20
theorem e1_23 : decode (ma_cd 1) 23 = .ok (.aload_n 0, 1) := (congrArg (fun b => decode b 23) cd_1).trans dX0_begin_23
theorem e1_24 : decode (ma_cd 1) 24 = .ok (.getfield 15, 3) := (congrArg (fun b => decode b 24) cd_1).trans dX0_begin_24
theorem e1_27 : decode (ma_cd 1) 27 = .ok (.iload_n 1, 1) := (congrArg (fun b => decode b 27) cd_1).trans dX0_begin_27
theorem e1_28 : decode (ma_cd 1) 28 = .ok (.iastore, 1) := (congrArg (fun b => decode b 28) cd_1).trans dX0_begin_28
theorem e1_29 : decode (ma_cd 1) 29 = .ok (.aload_n 0, 1) := (congrArg (fun b => decode b 29) cd_1).trans dX0_begin_29
theorem e1_30 : decode (ma_cd 1) 30 = .ok (.dup, 1) := (congrArg (fun b => decode b 30) cd_1).trans dX0_begin_30
theorem e1_31 : decode (ma_cd 1) 31 = .ok (.getfield 15, 3) := (congrArg (fun b => decode b 31) cd_1).trans dX0_begin_31
theorem e1_34 : decode (ma_cd 1) 34 = .ok (.iconst 1, 1) := (congrArg (fun b => decode b 34) cd_1).trans dX0_begin_34
theorem e1_35 : decode (ma_cd 1) 35 = .ok (.iadd, 1) := (congrArg (fun b => decode b 35) cd_1).trans dX0_begin_35
theorem e1_36 : decode (ma_cd 1) 36 = .ok (.putfield 15, 3) := (congrArg (fun b => decode b 36) cd_1).trans dX0_begin_36
theorem e1_39 : decode (ma_cd 1) 39 = .ok (.return_, 1) := (congrArg (fun b => decode b 39) cd_1).trans dX0_begin_39
theorem S1 {ro : ma_RO} {d : Nat} : (∀ (v1 : Option Value) (a1 : Nat) (st : List Value) (σ : ma_H), ma_rn ro d 1 (0, [some (.ref a1), v1], st, SH, σ) = ma_rn ro d 1 (1, [some (.ref a1), v1], .ref a1 :: st, SH, σ)) ∧
  (∀ (v0 : Option Value) (v1 : Option Value) (a1 : Nat) (st : List Value) (σ : ma_H) (hc : hk_cls a1 = 0), ma_rn ro d 1 (1, [v0, v1], .ref a1 :: st, SH, σ) = ma_rn ro d 1 (4, [v0, v1], .int (σ a1 1) :: st, SH, σ)) ∧
  (∀ (v0 : Option Value) (v1 : Option Value) (x1 : Int32) (st : List Value) (σ : ma_H), ma_rn ro d 1 (4, [v0, v1], .int x1 :: st, SH, σ) = if x1 < nI 0 then ma_rn ro d 1 (29, [v0, v1], st, SH, σ) else ma_rn ro d 1 (7, [v0, v1], st, SH, σ)) ∧
  (∀ (v1 : Option Value) (a1 : Nat) (st : List Value) (σ : ma_H), ma_rn ro d 1 (7, [some (.ref a1), v1], st, SH, σ) = ma_rn ro d 1 (8, [some (.ref a1), v1], .ref a1 :: st, SH, σ)) ∧
  (∀ (v0 : Option Value) (v1 : Option Value) (a1 : Nat) (st : List Value) (σ : ma_H) (hc : hk_cls a1 = 0), ma_rn ro d 1 (8, [v0, v1], .ref a1 :: st, SH, σ) = ma_rn ro d 1 (11, [v0, v1], .int (σ a1 1) :: st, SH, σ)) ∧
  (∀ (v1 : Option Value) (a1 : Nat) (st : List Value) (σ : ma_H), ma_rn ro d 1 (11, [some (.ref a1), v1], st, SH, σ) = ma_rn ro d 1 (12, [some (.ref a1), v1], .ref a1 :: st, SH, σ)) ∧
  (∀ (v0 : Option Value) (v1 : Option Value) (a1 : Nat) (st : List Value) (σ : ma_H) (hc : hk_cls a1 = 0), ma_rn ro d 1 (12, [v0, v1], .ref a1 :: st, SH, σ) = ma_rn ro d 1 (15, [v0, v1], .ref (a1 + 1) :: st, SH, σ)) ∧
  (∀ (v0 : Option Value) (v1 : Option Value) (a1 : Nat) (st : List Value) (σ : ma_H) (hn : 0 < hk_alen a1), ma_rn ro d 1 (15, [v0, v1], .ref a1 :: st, SH, σ) = ma_rn ro d 1 (16, [v0, v1], .int (nI (hk_alen a1)) :: st, SH, σ)) ∧
  (∀ (v0 : Option Value) (v1 : Option Value) (x1 : Int32) (x2 : Int32) (st : List Value) (σ : ma_H), ma_rn ro d 1 (16, [v0, v1], .int x1 :: .int x2 :: st, SH, σ) = if x2 < x1 then ma_rn ro d 1 (19, [v0, v1], st, SH, σ) else ma_rn ro d 1 (29, [v0, v1], st, SH, σ)) ∧
  (∀ (v1 : Option Value) (a1 : Nat) (st : List Value) (σ : ma_H), ma_rn ro d 1 (19, [some (.ref a1), v1], st, SH, σ) = ma_rn ro d 1 (20, [some (.ref a1), v1], .ref a1 :: st, SH, σ)) ∧
  (∀ (v0 : Option Value) (v1 : Option Value) (a1 : Nat) (st : List Value) (σ : ma_H) (hc : hk_cls a1 = 0), ma_rn ro d 1 (20, [v0, v1], .ref a1 :: st, SH, σ) = ma_rn ro d 1 (23, [v0, v1], .ref (a1 + 1) :: st, SH, σ)) ∧
  (∀ (v1 : Option Value) (a1 : Nat) (st : List Value) (σ : ma_H), ma_rn ro d 1 (23, [some (.ref a1), v1], st, SH, σ) = ma_rn ro d 1 (24, [some (.ref a1), v1], .ref a1 :: st, SH, σ)) ∧
  (∀ (v0 : Option Value) (v1 : Option Value) (a1 : Nat) (st : List Value) (σ : ma_H) (hc : hk_cls a1 = 0), ma_rn ro d 1 (24, [v0, v1], .ref a1 :: st, SH, σ) = ma_rn ro d 1 (27, [v0, v1], .int (σ a1 1) :: st, SH, σ)) ∧
  (∀ (v0 : Option Value) (x1 : Int32) (st : List Value) (σ : ma_H), ma_rn ro d 1 (27, [v0, some (.int x1)], st, SH, σ) = ma_rn ro d 1 (28, [v0, some (.int x1)], .int x1 :: st, SH, σ)) ∧
  (∀ (v0 : Option Value) (v1 : Option Value) (x1 : Int32) (k : Nat) (a3 : Nat) (st : List Value) (σ : ma_H) (hk : k < hk_len a3), ma_rn ro d 1 (28, [v0, v1], .int x1 :: .int (nI k) :: .ref a3 :: st, SH, σ) = ma_rn ro d 1 (29, [v0, v1], st, SH, (ma_up σ a3 k x1))) ∧
  (∀ (v1 : Option Value) (a1 : Nat) (st : List Value) (σ : ma_H), ma_rn ro d 1 (29, [some (.ref a1), v1], st, SH, σ) = ma_rn ro d 1 (30, [some (.ref a1), v1], .ref a1 :: st, SH, σ)) ∧
  (∀ (v0 : Option Value) (v1 : Option Value) (a1 : Nat) (st : List Value) (σ : ma_H), ma_rn ro d 1 (30, [v0, v1], .ref a1 :: st, SH, σ) = ma_rn ro d 1 (31, [v0, v1], .ref a1 :: .ref a1 :: st, SH, σ)) ∧
  (∀ (v0 : Option Value) (v1 : Option Value) (a1 : Nat) (st : List Value) (σ : ma_H) (hc : hk_cls a1 = 0), ma_rn ro d 1 (31, [v0, v1], .ref a1 :: st, SH, σ) = ma_rn ro d 1 (34, [v0, v1], .int (σ a1 1) :: st, SH, σ)) ∧
  (∀ (v0 : Option Value) (v1 : Option Value) (st : List Value) (σ : ma_H), ma_rn ro d 1 (34, [v0, v1], st, SH, σ) = ma_rn ro d 1 (35, [v0, v1], .int (nI 1) :: st, SH, σ)) ∧
  (∀ (v0 : Option Value) (v1 : Option Value) (x1 : Int32) (x2 : Int32) (st : List Value) (σ : ma_H), ma_rn ro d 1 (35, [v0, v1], .int x1 :: .int x2 :: st, SH, σ) = ma_rn ro d 1 (36, [v0, v1], .int (x2 + x1) :: st, SH, σ)) ∧
  (∀ (v0 : Option Value) (v1 : Option Value) (x1 : Int32) (a2 : Nat) (st : List Value) (σ : ma_H) (hc : hk_cls a2 = 0), ma_rn ro d 1 (36, [v0, v1], .int x1 :: .ref a2 :: st, SH, σ) = ma_rn ro d 1 (39, [v0, v1], st, SH, (ma_up σ a2 1 x1))) ∧
  (∀ (v0 : Option Value) (v1 : Option Value) (σ : ma_H), ma_rn ro d 1 (39, [v0, v1], [], SH, σ) = some (none, SH, σ)) := ⟨fun v1 a1 st σ => q_go e1_0 rfl rfl,
  fun v0 v1 a1 st σ hc => q_getI e1_1 o_1 f_0_15 (by decide) hc,
  fun v0 v1 x1 st σ => (q_if e1_4 rfl).trans q_lt,
  fun v1 a1 st σ => q_go e1_7 rfl rfl,
  fun v0 v1 a1 st σ hc => q_getI e1_8 o_1 f_0_15 (by decide) hc,
  fun v1 a1 st σ => q_go e1_11 rfl rfl,
  fun v0 v1 a1 st σ hc => q_getA e1_12 o_1 f_0_9 (by decide) hc,
  fun v0 v1 a1 st σ hn => q_alen e1_15 rfl hn,
  fun v0 v1 x1 x2 st σ => (q_cmp e1_16 rfl).trans q_nlt,
  fun v1 a1 st σ => q_go e1_19 rfl rfl,
  fun v0 v1 a1 st σ hc => q_getA e1_20 o_1 f_0_9 (by decide) hc,
  fun v1 a1 st σ => q_go e1_23 rfl rfl,
  fun v0 v1 a1 st σ hc => q_getI e1_24 o_1 f_0_15 (by decide) hc,
  fun v0 x1 st σ => q_go e1_27 rfl rfl,
  fun v0 v1 x1 k a3 st σ hk => q_iast e1_28 hk,
  fun v1 a1 st σ => q_go e1_29 rfl rfl,
  fun v0 v1 a1 st σ => q_go e1_30 rfl rfl,
  fun v0 v1 a1 st σ hc => q_getI e1_31 o_1 f_0_15 (by decide) hc,
  fun v0 v1 st σ => q_iconst e1_34 (by decide),
  fun v0 v1 x1 x2 st σ => q_go e1_35 rfl rfl,
  fun v0 v1 x1 a2 st σ hc => q_putI e1_36 o_1 f_0_15 (by decide) rfl hc,
  fun v0 v1 σ => q_vret e1_39 r_1⟩
theorem E1 {ro : ma_RO} {d : Nat} (a0 : Nat) (x1 : Int32) (sh : List ma_Sh) (σ : ma_H) : ma_ev ro d 1 [.ref a0, .int x1] sh σ = ma_rn ro d 1 (0, [some (.ref a0), some (.int x1)], [], sh, σ) := q_ent x_1 rfl
theorem e2_0 : decode (ma_cd 2) 0 = .ok (.iload_n 1, 1) := (congrArg (fun b => decode b 0) cd_2).trans dX0_bodyAt_0
theorem e2_1 : decode (ma_cd 2) 1 = .ok (.ifCond .lt 29, 3) := (congrArg (fun b => decode b 1) cd_2).trans dX0_bodyAt_1
theorem e2_4 : decode (ma_cd 2) 4 = .ok (.iload_n 1, 1) := (congrArg (fun b => decode b 4) cd_2).trans dX0_bodyAt_4
theorem e2_5 : decode (ma_cd 2) 5 = .ok (.aload_n 0, 1) := (congrArg (fun b => decode b 5) cd_2).trans dX0_bodyAt_5
theorem e2_6 : decode (ma_cd 2) 6 = .ok (.getfield 15, 3) := (congrArg (fun b => decode b 6) cd_2).trans dX0_bodyAt_6
theorem e2_9 : decode (ma_cd 2) 9 = .ok (.if_icmp .ge 21, 3) := (congrArg (fun b => decode b 9) cd_2).trans dX0_bodyAt_9
theorem e2_12 : decode (ma_cd 2) 12 = .ok (.iload_n 1, 1) := (congrArg (fun b => decode b 12) cd_2).trans dX0_bodyAt_12
theorem e2_13 : decode (ma_cd 2) 13 = .ok (.aload_n 0, 1) := (congrArg (fun b => decode b 13) cd_2).trans dX0_bodyAt_13
theorem e2_14 : decode (ma_cd 2) 14 = .ok (.getfield 9, 3) := (congrArg (fun b => decode b 14) cd_2).trans dX0_bodyAt_14
theorem e2_17 : decode (ma_cd 2) 17 = .ok (.arraylength, 1) := (congrArg (fun b => decode b 17) cd_2).trans dX0_bodyAt_17
theorem e2_18 : decode (ma_cd 2) 18 = .ok (.if_icmp .ge 12, 3) := (congrArg (fun b => decode b 18) cd_2).trans dX0_bodyAt_18
theorem e2_21 : decode (ma_cd 2) 21 = .ok (.aload_n 0, 1) := (congrArg (fun b => decode b 21) cd_2).trans dX0_bodyAt_21
theorem e2_22 : decode (ma_cd 2) 22 = .ok (.getfield 9, 3) := (congrArg (fun b => decode b 22) cd_2).trans dX0_bodyAt_22
theorem e2_25 : decode (ma_cd 2) 25 = .ok (.iload_n 1, 1) := (congrArg (fun b => decode b 25) cd_2).trans dX0_bodyAt_25
theorem e2_26 : decode (ma_cd 2) 26 = .ok (.iaload, 1) := (congrArg (fun b => decode b 26) cd_2).trans dX0_bodyAt_26
theorem e2_27 : decode (ma_cd 2) 27 = .ok (.goto 4, 3) := (congrArg (fun b => decode b 27) cd_2).trans dX0_bodyAt_27
theorem e2_30 : decode (ma_cd 2) 30 = .ok (.iconst (-1), 1) := (congrArg (fun b => decode b 30) cd_2).trans dX0_bodyAt_30
theorem e2_31 : decode (ma_cd 2) 31 = .ok (.ireturn, 1) := (congrArg (fun b => decode b 31) cd_2).trans dX0_bodyAt_31
theorem S2 {ro : ma_RO} {d : Nat} : (∀ (v0 : Option Value) (x1 : Int32) (st : List Value) (σ : ma_H), ma_rn ro d 2 (0, [v0, some (.int x1)], st, SH, σ) = ma_rn ro d 2 (1, [v0, some (.int x1)], .int x1 :: st, SH, σ)) ∧
  (∀ (v0 : Option Value) (v1 : Option Value) (x1 : Int32) (st : List Value) (σ : ma_H), ma_rn ro d 2 (1, [v0, v1], .int x1 :: st, SH, σ) = if x1 < nI 0 then ma_rn ro d 2 (30, [v0, v1], st, SH, σ) else ma_rn ro d 2 (4, [v0, v1], st, SH, σ)) ∧
  (∀ (v0 : Option Value) (x1 : Int32) (st : List Value) (σ : ma_H), ma_rn ro d 2 (4, [v0, some (.int x1)], st, SH, σ) = ma_rn ro d 2 (5, [v0, some (.int x1)], .int x1 :: st, SH, σ)) ∧
  (∀ (v1 : Option Value) (a1 : Nat) (st : List Value) (σ : ma_H), ma_rn ro d 2 (5, [some (.ref a1), v1], st, SH, σ) = ma_rn ro d 2 (6, [some (.ref a1), v1], .ref a1 :: st, SH, σ)) ∧
  (∀ (v0 : Option Value) (v1 : Option Value) (a1 : Nat) (st : List Value) (σ : ma_H) (hc : hk_cls a1 = 0), ma_rn ro d 2 (6, [v0, v1], .ref a1 :: st, SH, σ) = ma_rn ro d 2 (9, [v0, v1], .int (σ a1 1) :: st, SH, σ)) ∧
  (∀ (v0 : Option Value) (v1 : Option Value) (x1 : Int32) (x2 : Int32) (st : List Value) (σ : ma_H), ma_rn ro d 2 (9, [v0, v1], .int x1 :: .int x2 :: st, SH, σ) = if x2 < x1 then ma_rn ro d 2 (12, [v0, v1], st, SH, σ) else ma_rn ro d 2 (30, [v0, v1], st, SH, σ)) ∧
  (∀ (v0 : Option Value) (x1 : Int32) (st : List Value) (σ : ma_H), ma_rn ro d 2 (12, [v0, some (.int x1)], st, SH, σ) = ma_rn ro d 2 (13, [v0, some (.int x1)], .int x1 :: st, SH, σ)) ∧
  (∀ (v1 : Option Value) (a1 : Nat) (st : List Value) (σ : ma_H), ma_rn ro d 2 (13, [some (.ref a1), v1], st, SH, σ) = ma_rn ro d 2 (14, [some (.ref a1), v1], .ref a1 :: st, SH, σ)) ∧
  (∀ (v0 : Option Value) (v1 : Option Value) (a1 : Nat) (st : List Value) (σ : ma_H) (hc : hk_cls a1 = 0), ma_rn ro d 2 (14, [v0, v1], .ref a1 :: st, SH, σ) = ma_rn ro d 2 (17, [v0, v1], .ref (a1 + 1) :: st, SH, σ)) ∧
  (∀ (v0 : Option Value) (v1 : Option Value) (a1 : Nat) (st : List Value) (σ : ma_H) (hn : 0 < hk_alen a1), ma_rn ro d 2 (17, [v0, v1], .ref a1 :: st, SH, σ) = ma_rn ro d 2 (18, [v0, v1], .int (nI (hk_alen a1)) :: st, SH, σ)) ∧
  (∀ (v0 : Option Value) (v1 : Option Value) (x1 : Int32) (x2 : Int32) (st : List Value) (σ : ma_H), ma_rn ro d 2 (18, [v0, v1], .int x1 :: .int x2 :: st, SH, σ) = if x2 < x1 then ma_rn ro d 2 (21, [v0, v1], st, SH, σ) else ma_rn ro d 2 (30, [v0, v1], st, SH, σ)) ∧
  (∀ (v1 : Option Value) (a1 : Nat) (st : List Value) (σ : ma_H), ma_rn ro d 2 (21, [some (.ref a1), v1], st, SH, σ) = ma_rn ro d 2 (22, [some (.ref a1), v1], .ref a1 :: st, SH, σ)) ∧
  (∀ (v0 : Option Value) (v1 : Option Value) (a1 : Nat) (st : List Value) (σ : ma_H) (hc : hk_cls a1 = 0), ma_rn ro d 2 (22, [v0, v1], .ref a1 :: st, SH, σ) = ma_rn ro d 2 (25, [v0, v1], .ref (a1 + 1) :: st, SH, σ)) ∧
  (∀ (v0 : Option Value) (x1 : Int32) (st : List Value) (σ : ma_H), ma_rn ro d 2 (25, [v0, some (.int x1)], st, SH, σ) = ma_rn ro d 2 (26, [v0, some (.int x1)], .int x1 :: st, SH, σ)) ∧
  (∀ (v0 : Option Value) (v1 : Option Value) (k : Nat) (a2 : Nat) (st : List Value) (σ : ma_H) (hk : k < hk_len a2), ma_rn ro d 2 (26, [v0, v1], .int (nI k) :: .ref a2 :: st, SH, σ) = ma_rn ro d 2 (27, [v0, v1], .int (σ a2 k) :: st, SH, σ)) ∧
  (∀ (v0 : Option Value) (v1 : Option Value) (st : List Value) (σ : ma_H), ma_rn ro d 2 (27, [v0, v1], st, SH, σ) = ma_rn ro d 2 (31, [v0, v1], st, SH, σ)) ∧
  (∀ (v0 : Option Value) (v1 : Option Value) (st : List Value) (σ : ma_H), ma_rn ro d 2 (30, [v0, v1], st, SH, σ) = ma_rn ro d 2 (31, [v0, v1], .int ((-1)) :: st, SH, σ)) ∧
  (∀ (v0 : Option Value) (v1 : Option Value) (x1 : Int32) (σ : ma_H), ma_rn ro d 2 (31, [v0, v1], [.int x1], SH, σ) = some (some (.int x1), SH, σ)) := ⟨fun v0 x1 st σ => q_go e2_0 rfl rfl,
  fun v0 v1 x1 st σ => (q_if e2_1 rfl).trans q_lt,
  fun v0 x1 st σ => q_go e2_4 rfl rfl,
  fun v1 a1 st σ => q_go e2_5 rfl rfl,
  fun v0 v1 a1 st σ hc => q_getI e2_6 o_2 f_0_15 (by decide) hc,
  fun v0 v1 x1 x2 st σ => (q_cmp e2_9 rfl).trans q_nlt,
  fun v0 x1 st σ => q_go e2_12 rfl rfl,
  fun v1 a1 st σ => q_go e2_13 rfl rfl,
  fun v0 v1 a1 st σ hc => q_getA e2_14 o_2 f_0_9 (by decide) hc,
  fun v0 v1 a1 st σ hn => q_alen e2_17 rfl hn,
  fun v0 v1 x1 x2 st σ => (q_cmp e2_18 rfl).trans q_nlt,
  fun v1 a1 st σ => q_go e2_21 rfl rfl,
  fun v0 v1 a1 st σ hc => q_getA e2_22 o_2 f_0_9 (by decide) hc,
  fun v0 x1 st σ => q_go e2_25 rfl rfl,
  fun v0 v1 k a2 st σ hk => q_iald e2_26 hk,
  fun v0 v1 st σ => q_goto e2_27 rfl,
  fun v0 v1 st σ => q_iconst e2_30 (by decide),
  fun v0 v1 x1 σ => q_iret e2_31 r_2⟩
theorem E2 {ro : ma_RO} {d : Nat} (a0 : Nat) (x1 : Int32) (sh : List ma_Sh) (σ : ma_H) : ma_ev ro d 2 [.ref a0, .int x1] sh σ = ma_rn ro d 2 (0, [some (.ref a0), some (.int x1)], [], sh, σ) := q_ent x_2 rfl
theorem e3_0 : decode (ma_cd 3) 0 = .ok (.iload 4, 2) := (congrArg (fun b => decode b 0) cd_3).trans dX0_clicks_0
theorem e3_2 : decode (ma_cd 3) 2 = .ok (.bipush 40, 2) := (congrArg (fun b => decode b 2) cd_3).trans dX0_clicks_2
theorem e3_4 : decode (ma_cd 3) 4 = .ok (.if_icmp .le 5, 3) := (congrArg (fun b => decode b 4) cd_3).trans dX0_clicks_4
theorem e3_7 : decode (ma_cd 3) 7 = .ok (.iconst 0, 1) := (congrArg (fun b => decode b 7) cd_3).trans dX0_clicks_7
theorem e3_8 : decode (ma_cd 3) 8 = .ok (.ireturn, 1) := (congrArg (fun b => decode b 8) cd_3).trans dX0_clicks_8
theorem e3_9 : decode (ma_cd 3) 9 = .ok (.iload_n 2, 1) := (congrArg (fun b => decode b 9) cd_3).trans dX0_clicks_9
theorem e3_10 : decode (ma_cd 3) 10 = .ok (.lookupswitch 95 #[(0, 34), (1, 46), (5, 69)], 34) := (congrArg (fun b => decode b 10) cd_3).trans dX0_clicks_10
theorem e3_44 : decode (ma_cd 3) 44 = .ok (.aload_n 0, 1) := (congrArg (fun b => decode b 44) cd_3).trans dX0_clicks_44
theorem e3_45 : decode (ma_cd 3) 45 = .ok (.iconst 1, 1) := (congrArg (fun b => decode b 45) cd_3).trans dX0_clicks_45
theorem e3_46 : decode (ma_cd 3) 46 = .ok (.invokevirtual 19, 3) := (congrArg (fun b => decode b 46) cd_3).trans dX0_clicks_46
theorem e3_49 : decode (ma_cd 3) 49 = .ok (.iload_n 3, 1) := (congrArg (fun b => decode b 49) cd_3).trans dX0_clicks_49
theorem e3_50 : decode (ma_cd 3) 50 = .ok (.aload_n 1, 1) := (congrArg (fun b => decode b 50) cd_3).trans dX0_clicks_50
theorem e3_51 : decode (ma_cd 3) 51 = .ok (.getfield 23, 3) := (congrArg (fun b => decode b 51) cd_3).trans dX0_clicks_51
theorem e3_54 : decode (ma_cd 3) 54 = .ok (.iadd, 1) := (congrArg (fun b => decode b 54) cd_3).trans dX0_clicks_54
theorem e3_55 : decode (ma_cd 3) 55 = .ok (.ireturn, 1) := (congrArg (fun b => decode b 55) cd_3).trans dX0_clicks_55
theorem e3_56 : decode (ma_cd 3) 56 = .ok (.aload_n 0, 1) := (congrArg (fun b => decode b 56) cd_3).trans dX0_clicks_56
theorem e3_57 : decode (ma_cd 3) 57 = .ok (.bipush 11, 2) := (congrArg (fun b => decode b 57) cd_3).trans dX0_clicks_57
theorem e3_59 : decode (ma_cd 3) 59 = .ok (.invokevirtual 19, 3) := (congrArg (fun b => decode b 59) cd_3).trans dX0_clicks_59
theorem e3_62 : decode (ma_cd 3) 62 = .ok (.aload_n 0, 1) := (congrArg (fun b => decode b 62) cd_3).trans dX0_clicks_62
theorem e3_63 : decode (ma_cd 3) 63 = .ok (.aload_n 1, 1) := (congrArg (fun b => decode b 63) cd_3).trans dX0_clicks_63
theorem e3_64 : decode (ma_cd 3) 64 = .ok (.iload_n 2, 1) := (congrArg (fun b => decode b 64) cd_3).trans dX0_clicks_64
theorem e3_65 : decode (ma_cd 3) 65 = .ok (.invokestatic 28, 3) := (congrArg (fun b => decode b 65) cd_3).trans dX0_clicks_65
theorem e3_68 : decode (ma_cd 3) 68 = .ok (.iload_n 3, 1) := (congrArg (fun b => decode b 68) cd_3).trans dX0_clicks_68
theorem e3_69 : decode (ma_cd 3) 69 = .ok (.iconst 3, 1) := (congrArg (fun b => decode b 69) cd_3).trans dX0_clicks_69
theorem e3_70 : decode (ma_cd 3) 70 = .ok (.imul, 1) := (congrArg (fun b => decode b 70) cd_3).trans dX0_clicks_70
theorem e3_71 : decode (ma_cd 3) 71 = .ok (.iload 4, 2) := (congrArg (fun b => decode b 71) cd_3).trans dX0_clicks_71
theorem e3_73 : decode (ma_cd 3) 73 = .ok (.iconst 1, 1) := (congrArg (fun b => decode b 73) cd_3).trans dX0_clicks_73
theorem e3_74 : decode (ma_cd 3) 74 = .ok (.iadd, 1) := (congrArg (fun b => decode b 74) cd_3).trans dX0_clicks_74
theorem e3_75 : decode (ma_cd 3) 75 = .ok (.invokevirtual 32, 3) := (congrArg (fun b => decode b 75) cd_3).trans dX0_clicks_75
theorem e3_78 : decode (ma_cd 3) 78 = .ok (.ireturn, 1) := (congrArg (fun b => decode b 78) cd_3).trans dX0_clicks_78
theorem e3_79 : decode (ma_cd 3) 79 = .ok (.aload_n 0, 1) := (congrArg (fun b => decode b 79) cd_3).trans dX0_clicks_79
theorem e3_80 : decode (ma_cd 3) 80 = .ok (.bipush 51, 2) := (congrArg (fun b => decode b 80) cd_3).trans dX0_clicks_80
theorem e3_82 : decode (ma_cd 3) 82 = .ok (.invokevirtual 19, 3) := (congrArg (fun b => decode b 82) cd_3).trans dX0_clicks_82
theorem e3_85 : decode (ma_cd 3) 85 = .ok (.aload_n 0, 1) := (congrArg (fun b => decode b 85) cd_3).trans dX0_clicks_85
theorem e3_86 : decode (ma_cd 3) 86 = .ok (.aload_n 1, 1) := (congrArg (fun b => decode b 86) cd_3).trans dX0_clicks_86
theorem e3_87 : decode (ma_cd 3) 87 = .ok (.iload_n 2, 1) := (congrArg (fun b => decode b 87) cd_3).trans dX0_clicks_87
theorem e3_88 : decode (ma_cd 3) 88 = .ok (.invokestatic 28, 3) := (congrArg (fun b => decode b 88) cd_3).trans dX0_clicks_88
theorem e3_91 : decode (ma_cd 3) 91 = .ok (.iload_n 3, 1) := (congrArg (fun b => decode b 91) cd_3).trans dX0_clicks_91
theorem e3_92 : decode (ma_cd 3) 92 = .ok (.iload 4, 2) := (congrArg (fun b => decode b 92) cd_3).trans dX0_clicks_92
theorem e3_94 : decode (ma_cd 3) 94 = .ok (.iconst 1, 1) := (congrArg (fun b => decode b 94) cd_3).trans dX0_clicks_94
theorem e3_95 : decode (ma_cd 3) 95 = .ok (.iadd, 1) := (congrArg (fun b => decode b 95) cd_3).trans dX0_clicks_95
theorem e3_96 : decode (ma_cd 3) 96 = .ok (.invokevirtual 32, 3) := (congrArg (fun b => decode b 96) cd_3).trans dX0_clicks_96
theorem e3_99 : decode (ma_cd 3) 99 = .ok (.aload_n 1, 1) := (congrArg (fun b => decode b 99) cd_3).trans dX0_clicks_99
theorem e3_100 : decode (ma_cd 3) 100 = .ok (.getfield 23, 3) := (congrArg (fun b => decode b 100) cd_3).trans dX0_clicks_100
theorem e3_103 : decode (ma_cd 3) 103 = .ok (.ixor, 1) := (congrArg (fun b => decode b 103) cd_3).trans dX0_clicks_103
theorem e3_104 : decode (ma_cd 3) 104 = .ok (.ireturn, 1) := (congrArg (fun b => decode b 104) cd_3).trans dX0_clicks_104
theorem e3_105 : decode (ma_cd 3) 105 = .ok (.aload_n 0, 1) := (congrArg (fun b => decode b 105) cd_3).trans dX0_clicks_105
theorem e3_106 : decode (ma_cd 3) 106 = .ok (.aload_n 1, 1) := (congrArg (fun b => decode b 106) cd_3).trans dX0_clicks_106
theorem e3_107 : decode (ma_cd 3) 107 = .ok (.iload_n 2, 1) := (congrArg (fun b => decode b 107) cd_3).trans dX0_clicks_107
theorem e3_108 : decode (ma_cd 3) 108 = .ok (.invokestatic 28, 3) := (congrArg (fun b => decode b 108) cd_3).trans dX0_clicks_108
theorem e3_111 : decode (ma_cd 3) 111 = .ok (.iload_n 3, 1) := (congrArg (fun b => decode b 111) cd_3).trans dX0_clicks_111
theorem e3_112 : decode (ma_cd 3) 112 = .ok (.iload 4, 2) := (congrArg (fun b => decode b 112) cd_3).trans dX0_clicks_112
theorem e3_114 : decode (ma_cd 3) 114 = .ok (.iconst 1, 1) := (congrArg (fun b => decode b 114) cd_3).trans dX0_clicks_114
theorem e3_115 : decode (ma_cd 3) 115 = .ok (.iadd, 1) := (congrArg (fun b => decode b 115) cd_3).trans dX0_clicks_115
theorem e3_116 : decode (ma_cd 3) 116 = .ok (.invokevirtual 32, 3) := (congrArg (fun b => decode b 116) cd_3).trans dX0_clicks_116
theorem e3_119 : decode (ma_cd 3) 119 = .ok (.ireturn, 1) := (congrArg (fun b => decode b 119) cd_3).trans dX0_clicks_119
theorem S3 {ro : ma_RO} {d : Nat} : (∀ (v0 : Option Value) (v1 : Option Value) (v2 : Option Value) (v3 : Option Value) (x1 : Int32) (st : List Value) (σ : ma_H), ma_rn ro d 3 (0, [v0, v1, v2, v3, some (.int x1)], st, SH, σ) = ma_rn ro d 3 (2, [v0, v1, v2, v3, some (.int x1)], .int x1 :: st, SH, σ)) ∧
  (∀ (v0 : Option Value) (v1 : Option Value) (v2 : Option Value) (v3 : Option Value) (v4 : Option Value) (st : List Value) (σ : ma_H), ma_rn ro d 3 (2, [v0, v1, v2, v3, v4], st, SH, σ) = ma_rn ro d 3 (4, [v0, v1, v2, v3, v4], .int (nI 40) :: st, SH, σ)) ∧
  (∀ (v0 : Option Value) (v1 : Option Value) (v2 : Option Value) (v3 : Option Value) (v4 : Option Value) (x1 : Int32) (x2 : Int32) (st : List Value) (σ : ma_H), ma_rn ro d 3 (4, [v0, v1, v2, v3, v4], .int x1 :: .int x2 :: st, SH, σ) = if x1 < x2 then ma_rn ro d 3 (7, [v0, v1, v2, v3, v4], st, SH, σ) else ma_rn ro d 3 (9, [v0, v1, v2, v3, v4], st, SH, σ)) ∧
  (∀ (v0 : Option Value) (v1 : Option Value) (v2 : Option Value) (v3 : Option Value) (v4 : Option Value) (st : List Value) (σ : ma_H), ma_rn ro d 3 (7, [v0, v1, v2, v3, v4], st, SH, σ) = ma_rn ro d 3 (8, [v0, v1, v2, v3, v4], .int (nI 0) :: st, SH, σ)) ∧
  (∀ (v0 : Option Value) (v1 : Option Value) (v2 : Option Value) (v3 : Option Value) (v4 : Option Value) (x1 : Int32) (σ : ma_H), ma_rn ro d 3 (8, [v0, v1, v2, v3, v4], [.int x1], SH, σ) = some (some (.int x1), SH, σ)) ∧
  (∀ (v0 : Option Value) (v1 : Option Value) (v3 : Option Value) (v4 : Option Value) (x1 : Int32) (st : List Value) (σ : ma_H), ma_rn ro d 3 (9, [v0, v1, some (.int x1), v3, v4], st, SH, σ) = ma_rn ro d 3 (10, [v0, v1, some (.int x1), v3, v4], .int x1 :: st, SH, σ)) ∧
  (∀ (v0 : Option Value) (v1 : Option Value) (v2 : Option Value) (v3 : Option Value) (v4 : Option Value) (x1 : Int32) (st : List Value) (σ : ma_H), ma_rn ro d 3 (10, [v0, v1, v2, v3, v4], .int x1 :: st, SH, σ) = if x1 = nI 0 then ma_rn ro d 3 (44, [v0, v1, v2, v3, v4], st, SH, σ) else if x1 = nI 1 then ma_rn ro d 3 (56, [v0, v1, v2, v3, v4], st, SH, σ) else if x1 = nI 5 then ma_rn ro d 3 (79, [v0, v1, v2, v3, v4], st, SH, σ) else ma_rn ro d 3 (105, [v0, v1, v2, v3, v4], st, SH, σ)) ∧
  (∀ (v1 : Option Value) (v2 : Option Value) (v3 : Option Value) (v4 : Option Value) (a1 : Nat) (st : List Value) (σ : ma_H), ma_rn ro d 3 (44, [some (.ref a1), v1, v2, v3, v4], st, SH, σ) = ma_rn ro d 3 (45, [some (.ref a1), v1, v2, v3, v4], .ref a1 :: st, SH, σ)) ∧
  (∀ (v0 : Option Value) (v1 : Option Value) (v2 : Option Value) (v3 : Option Value) (v4 : Option Value) (st : List Value) (σ : ma_H), ma_rn ro d 3 (45, [v0, v1, v2, v3, v4], st, SH, σ) = ma_rn ro d 3 (46, [v0, v1, v2, v3, v4], .int (nI 1) :: st, SH, σ)) ∧
  (∀ (v0 : Option Value) (v1 : Option Value) (v2 : Option Value) (v3 : Option Value) (v4 : Option Value) (x1 : Int32) (a0 : Nat) (σ : ma_H) (hc : hk_cls a0 = 0), ma_rn ro (d + 1) 3 (46, [v0, v1, v2, v3, v4], .int x1 :: .ref a0 :: [], SH, σ) = (ma_ev ro d 1 [.ref a0, .int x1] SH σ).bind (fun q => ma_rn ro (d + 1) 3 (49, [v0, v1, v2, v3, v4], (q.1.toList ++ []), q.2.1, q.2.2))) ∧
  (∀ (v0 : Option Value) (v1 : Option Value) (v2 : Option Value) (v4 : Option Value) (x1 : Int32) (st : List Value) (σ : ma_H), ma_rn ro d 3 (49, [v0, v1, v2, some (.int x1), v4], st, SH, σ) = ma_rn ro d 3 (50, [v0, v1, v2, some (.int x1), v4], .int x1 :: st, SH, σ)) ∧
  (∀ (v0 : Option Value) (v2 : Option Value) (v3 : Option Value) (v4 : Option Value) (a1 : Nat) (st : List Value) (σ : ma_H), ma_rn ro d 3 (50, [v0, some (.ref a1), v2, v3, v4], st, SH, σ) = ma_rn ro d 3 (51, [v0, some (.ref a1), v2, v3, v4], .ref a1 :: st, SH, σ)) ∧
  (∀ (v0 : Option Value) (v1 : Option Value) (v2 : Option Value) (v3 : Option Value) (v4 : Option Value) (a1 : Nat) (st : List Value) (σ : ma_H) (hc : hk_cls a1 = 1), ma_rn ro d 3 (51, [v0, v1, v2, v3, v4], .ref a1 :: st, SH, σ) = ma_rn ro d 3 (54, [v0, v1, v2, v3, v4], .int (σ a1 0) :: st, SH, σ)) ∧
  (∀ (v0 : Option Value) (v1 : Option Value) (v2 : Option Value) (v3 : Option Value) (v4 : Option Value) (x1 : Int32) (x2 : Int32) (st : List Value) (σ : ma_H), ma_rn ro d 3 (54, [v0, v1, v2, v3, v4], .int x1 :: .int x2 :: st, SH, σ) = ma_rn ro d 3 (55, [v0, v1, v2, v3, v4], .int (x2 + x1) :: st, SH, σ)) ∧
  (∀ (v0 : Option Value) (v1 : Option Value) (v2 : Option Value) (v3 : Option Value) (v4 : Option Value) (x1 : Int32) (σ : ma_H), ma_rn ro d 3 (55, [v0, v1, v2, v3, v4], [.int x1], SH, σ) = some (some (.int x1), SH, σ)) ∧
  (∀ (v1 : Option Value) (v2 : Option Value) (v3 : Option Value) (v4 : Option Value) (a1 : Nat) (st : List Value) (σ : ma_H), ma_rn ro d 3 (56, [some (.ref a1), v1, v2, v3, v4], st, SH, σ) = ma_rn ro d 3 (57, [some (.ref a1), v1, v2, v3, v4], .ref a1 :: st, SH, σ)) ∧
  (∀ (v0 : Option Value) (v1 : Option Value) (v2 : Option Value) (v3 : Option Value) (v4 : Option Value) (st : List Value) (σ : ma_H), ma_rn ro d 3 (57, [v0, v1, v2, v3, v4], st, SH, σ) = ma_rn ro d 3 (59, [v0, v1, v2, v3, v4], .int (nI 11) :: st, SH, σ)) ∧
  (∀ (v0 : Option Value) (v1 : Option Value) (v2 : Option Value) (v3 : Option Value) (v4 : Option Value) (x1 : Int32) (a0 : Nat) (σ : ma_H) (hc : hk_cls a0 = 0), ma_rn ro (d + 1) 3 (59, [v0, v1, v2, v3, v4], .int x1 :: .ref a0 :: [], SH, σ) = (ma_ev ro d 1 [.ref a0, .int x1] SH σ).bind (fun q => ma_rn ro (d + 1) 3 (62, [v0, v1, v2, v3, v4], (q.1.toList ++ []), q.2.1, q.2.2))) ∧
  (∀ (v1 : Option Value) (v2 : Option Value) (v3 : Option Value) (v4 : Option Value) (a1 : Nat) (st : List Value) (σ : ma_H), ma_rn ro d 3 (62, [some (.ref a1), v1, v2, v3, v4], st, SH, σ) = ma_rn ro d 3 (63, [some (.ref a1), v1, v2, v3, v4], .ref a1 :: st, SH, σ)) ∧
  (∀ (v0 : Option Value) (v2 : Option Value) (v3 : Option Value) (v4 : Option Value) (a1 : Nat) (st : List Value) (σ : ma_H), ma_rn ro d 3 (63, [v0, some (.ref a1), v2, v3, v4], st, SH, σ) = ma_rn ro d 3 (64, [v0, some (.ref a1), v2, v3, v4], .ref a1 :: st, SH, σ)) ∧
  (∀ (v0 : Option Value) (v1 : Option Value) (v3 : Option Value) (v4 : Option Value) (x1 : Int32) (st : List Value) (σ : ma_H), ma_rn ro d 3 (64, [v0, v1, some (.int x1), v3, v4], st, SH, σ) = ma_rn ro d 3 (65, [v0, v1, some (.int x1), v3, v4], .int x1 :: st, SH, σ)) ∧
  (∀ (v0 : Option Value) (v1 : Option Value) (v2 : Option Value) (v3 : Option Value) (v4 : Option Value) (a20 : Nat) (a21 : Nat) (x1 : Int32) (σ : ma_H), ma_rn ro (d + 1) 3 (65, [v0, v1, v2, v3, v4], .int x1 :: .ref a20 :: .ref a21 :: [], SH, σ) = (ma_ev ro d 89 [.int x1] SH σ).bind (fun q => ma_rn ro (d + 1) 3 (68, [v0, v1, v2, v3, v4], (q.1.toList ++ (.ref a20 :: .ref a21 :: [])), q.2.1, q.2.2))) ∧
  (∀ (v0 : Option Value) (v1 : Option Value) (v2 : Option Value) (v4 : Option Value) (x1 : Int32) (st : List Value) (σ : ma_H), ma_rn ro d 3 (68, [v0, v1, v2, some (.int x1), v4], st, SH, σ) = ma_rn ro d 3 (69, [v0, v1, v2, some (.int x1), v4], .int x1 :: st, SH, σ)) ∧
  (∀ (v0 : Option Value) (v1 : Option Value) (v2 : Option Value) (v3 : Option Value) (v4 : Option Value) (st : List Value) (σ : ma_H), ma_rn ro d 3 (69, [v0, v1, v2, v3, v4], st, SH, σ) = ma_rn ro d 3 (70, [v0, v1, v2, v3, v4], .int (nI 3) :: st, SH, σ)) ∧
  (∀ (v0 : Option Value) (v1 : Option Value) (v2 : Option Value) (v3 : Option Value) (v4 : Option Value) (x1 : Int32) (x2 : Int32) (st : List Value) (σ : ma_H), ma_rn ro d 3 (70, [v0, v1, v2, v3, v4], .int x1 :: .int x2 :: st, SH, σ) = ma_rn ro d 3 (71, [v0, v1, v2, v3, v4], .int (x2 * x1) :: st, SH, σ)) ∧
  (∀ (v0 : Option Value) (v1 : Option Value) (v2 : Option Value) (v3 : Option Value) (x1 : Int32) (st : List Value) (σ : ma_H), ma_rn ro d 3 (71, [v0, v1, v2, v3, some (.int x1)], st, SH, σ) = ma_rn ro d 3 (73, [v0, v1, v2, v3, some (.int x1)], .int x1 :: st, SH, σ)) ∧
  (∀ (v0 : Option Value) (v1 : Option Value) (v2 : Option Value) (v3 : Option Value) (v4 : Option Value) (st : List Value) (σ : ma_H), ma_rn ro d 3 (73, [v0, v1, v2, v3, v4], st, SH, σ) = ma_rn ro d 3 (74, [v0, v1, v2, v3, v4], .int (nI 1) :: st, SH, σ)) ∧
  (∀ (v0 : Option Value) (v1 : Option Value) (v2 : Option Value) (v3 : Option Value) (v4 : Option Value) (x1 : Int32) (x2 : Int32) (st : List Value) (σ : ma_H), ma_rn ro d 3 (74, [v0, v1, v2, v3, v4], .int x1 :: .int x2 :: st, SH, σ) = ma_rn ro d 3 (75, [v0, v1, v2, v3, v4], .int (x2 + x1) :: st, SH, σ)) ∧
  (∀ (v0 : Option Value) (v1 : Option Value) (v2 : Option Value) (v3 : Option Value) (v4 : Option Value) (a1 : Nat) (x2 : Int32) (x3 : Int32) (x4 : Int32) (a0 : Nat) (σ : ma_H) (hc : hk_cls a0 = 0), ma_rn ro (d + 1) 3 (75, [v0, v1, v2, v3, v4], .int x4 :: .int x3 :: .int x2 :: .ref a1 :: .ref a0 :: [], SH, σ) = (ma_ev ro d 3 [.ref a0, .ref a1, .int x2, .int x3, .int x4] SH σ).bind (fun q => ma_rn ro (d + 1) 3 (78, [v0, v1, v2, v3, v4], (q.1.toList ++ []), q.2.1, q.2.2))) ∧
  (∀ (v0 : Option Value) (v1 : Option Value) (v2 : Option Value) (v3 : Option Value) (v4 : Option Value) (x1 : Int32) (σ : ma_H), ma_rn ro d 3 (78, [v0, v1, v2, v3, v4], [.int x1], SH, σ) = some (some (.int x1), SH, σ)) ∧
  (∀ (v1 : Option Value) (v2 : Option Value) (v3 : Option Value) (v4 : Option Value) (a1 : Nat) (st : List Value) (σ : ma_H), ma_rn ro d 3 (79, [some (.ref a1), v1, v2, v3, v4], st, SH, σ) = ma_rn ro d 3 (80, [some (.ref a1), v1, v2, v3, v4], .ref a1 :: st, SH, σ)) ∧
  (∀ (v0 : Option Value) (v1 : Option Value) (v2 : Option Value) (v3 : Option Value) (v4 : Option Value) (st : List Value) (σ : ma_H), ma_rn ro d 3 (80, [v0, v1, v2, v3, v4], st, SH, σ) = ma_rn ro d 3 (82, [v0, v1, v2, v3, v4], .int (nI 51) :: st, SH, σ)) ∧
  (∀ (v0 : Option Value) (v1 : Option Value) (v2 : Option Value) (v3 : Option Value) (v4 : Option Value) (x1 : Int32) (a0 : Nat) (σ : ma_H) (hc : hk_cls a0 = 0), ma_rn ro (d + 1) 3 (82, [v0, v1, v2, v3, v4], .int x1 :: .ref a0 :: [], SH, σ) = (ma_ev ro d 1 [.ref a0, .int x1] SH σ).bind (fun q => ma_rn ro (d + 1) 3 (85, [v0, v1, v2, v3, v4], (q.1.toList ++ []), q.2.1, q.2.2))) ∧
  (∀ (v1 : Option Value) (v2 : Option Value) (v3 : Option Value) (v4 : Option Value) (a1 : Nat) (st : List Value) (σ : ma_H), ma_rn ro d 3 (85, [some (.ref a1), v1, v2, v3, v4], st, SH, σ) = ma_rn ro d 3 (86, [some (.ref a1), v1, v2, v3, v4], .ref a1 :: st, SH, σ)) ∧
  (∀ (v0 : Option Value) (v2 : Option Value) (v3 : Option Value) (v4 : Option Value) (a1 : Nat) (st : List Value) (σ : ma_H), ma_rn ro d 3 (86, [v0, some (.ref a1), v2, v3, v4], st, SH, σ) = ma_rn ro d 3 (87, [v0, some (.ref a1), v2, v3, v4], .ref a1 :: st, SH, σ)) ∧
  (∀ (v0 : Option Value) (v1 : Option Value) (v3 : Option Value) (v4 : Option Value) (x1 : Int32) (st : List Value) (σ : ma_H), ma_rn ro d 3 (87, [v0, v1, some (.int x1), v3, v4], st, SH, σ) = ma_rn ro d 3 (88, [v0, v1, some (.int x1), v3, v4], .int x1 :: st, SH, σ)) ∧
  (∀ (v0 : Option Value) (v1 : Option Value) (v2 : Option Value) (v3 : Option Value) (v4 : Option Value) (a20 : Nat) (a21 : Nat) (x1 : Int32) (σ : ma_H), ma_rn ro (d + 1) 3 (88, [v0, v1, v2, v3, v4], .int x1 :: .ref a20 :: .ref a21 :: [], SH, σ) = (ma_ev ro d 89 [.int x1] SH σ).bind (fun q => ma_rn ro (d + 1) 3 (91, [v0, v1, v2, v3, v4], (q.1.toList ++ (.ref a20 :: .ref a21 :: [])), q.2.1, q.2.2))) ∧
  (∀ (v0 : Option Value) (v1 : Option Value) (v2 : Option Value) (v4 : Option Value) (x1 : Int32) (st : List Value) (σ : ma_H), ma_rn ro d 3 (91, [v0, v1, v2, some (.int x1), v4], st, SH, σ) = ma_rn ro d 3 (92, [v0, v1, v2, some (.int x1), v4], .int x1 :: st, SH, σ)) ∧
  (∀ (v0 : Option Value) (v1 : Option Value) (v2 : Option Value) (v3 : Option Value) (x1 : Int32) (st : List Value) (σ : ma_H), ma_rn ro d 3 (92, [v0, v1, v2, v3, some (.int x1)], st, SH, σ) = ma_rn ro d 3 (94, [v0, v1, v2, v3, some (.int x1)], .int x1 :: st, SH, σ)) ∧
  (∀ (v0 : Option Value) (v1 : Option Value) (v2 : Option Value) (v3 : Option Value) (v4 : Option Value) (st : List Value) (σ : ma_H), ma_rn ro d 3 (94, [v0, v1, v2, v3, v4], st, SH, σ) = ma_rn ro d 3 (95, [v0, v1, v2, v3, v4], .int (nI 1) :: st, SH, σ)) ∧
  (∀ (v0 : Option Value) (v1 : Option Value) (v2 : Option Value) (v3 : Option Value) (v4 : Option Value) (x1 : Int32) (x2 : Int32) (st : List Value) (σ : ma_H), ma_rn ro d 3 (95, [v0, v1, v2, v3, v4], .int x1 :: .int x2 :: st, SH, σ) = ma_rn ro d 3 (96, [v0, v1, v2, v3, v4], .int (x2 + x1) :: st, SH, σ)) ∧
  (∀ (v0 : Option Value) (v1 : Option Value) (v2 : Option Value) (v3 : Option Value) (v4 : Option Value) (a1 : Nat) (x2 : Int32) (x3 : Int32) (x4 : Int32) (a0 : Nat) (σ : ma_H) (hc : hk_cls a0 = 0), ma_rn ro (d + 1) 3 (96, [v0, v1, v2, v3, v4], .int x4 :: .int x3 :: .int x2 :: .ref a1 :: .ref a0 :: [], SH, σ) = (ma_ev ro d 3 [.ref a0, .ref a1, .int x2, .int x3, .int x4] SH σ).bind (fun q => ma_rn ro (d + 1) 3 (99, [v0, v1, v2, v3, v4], (q.1.toList ++ []), q.2.1, q.2.2))) ∧
  (∀ (v0 : Option Value) (v2 : Option Value) (v3 : Option Value) (v4 : Option Value) (a1 : Nat) (st : List Value) (σ : ma_H), ma_rn ro d 3 (99, [v0, some (.ref a1), v2, v3, v4], st, SH, σ) = ma_rn ro d 3 (100, [v0, some (.ref a1), v2, v3, v4], .ref a1 :: st, SH, σ)) ∧
  (∀ (v0 : Option Value) (v1 : Option Value) (v2 : Option Value) (v3 : Option Value) (v4 : Option Value) (a1 : Nat) (st : List Value) (σ : ma_H) (hc : hk_cls a1 = 1), ma_rn ro d 3 (100, [v0, v1, v2, v3, v4], .ref a1 :: st, SH, σ) = ma_rn ro d 3 (103, [v0, v1, v2, v3, v4], .int (σ a1 0) :: st, SH, σ)) ∧
  (∀ (v0 : Option Value) (v1 : Option Value) (v2 : Option Value) (v3 : Option Value) (v4 : Option Value) (x1 : Int32) (x2 : Int32) (st : List Value) (σ : ma_H), ma_rn ro d 3 (103, [v0, v1, v2, v3, v4], .int x1 :: .int x2 :: st, SH, σ) = ma_rn ro d 3 (104, [v0, v1, v2, v3, v4], .int (x2 ^^^ x1) :: st, SH, σ)) ∧
  (∀ (v0 : Option Value) (v1 : Option Value) (v2 : Option Value) (v3 : Option Value) (v4 : Option Value) (x1 : Int32) (σ : ma_H), ma_rn ro d 3 (104, [v0, v1, v2, v3, v4], [.int x1], SH, σ) = some (some (.int x1), SH, σ)) ∧
  (∀ (v1 : Option Value) (v2 : Option Value) (v3 : Option Value) (v4 : Option Value) (a1 : Nat) (st : List Value) (σ : ma_H), ma_rn ro d 3 (105, [some (.ref a1), v1, v2, v3, v4], st, SH, σ) = ma_rn ro d 3 (106, [some (.ref a1), v1, v2, v3, v4], .ref a1 :: st, SH, σ)) ∧
  (∀ (v0 : Option Value) (v2 : Option Value) (v3 : Option Value) (v4 : Option Value) (a1 : Nat) (st : List Value) (σ : ma_H), ma_rn ro d 3 (106, [v0, some (.ref a1), v2, v3, v4], st, SH, σ) = ma_rn ro d 3 (107, [v0, some (.ref a1), v2, v3, v4], .ref a1 :: st, SH, σ)) ∧
  (∀ (v0 : Option Value) (v1 : Option Value) (v3 : Option Value) (v4 : Option Value) (x1 : Int32) (st : List Value) (σ : ma_H), ma_rn ro d 3 (107, [v0, v1, some (.int x1), v3, v4], st, SH, σ) = ma_rn ro d 3 (108, [v0, v1, some (.int x1), v3, v4], .int x1 :: st, SH, σ)) ∧
  (∀ (v0 : Option Value) (v1 : Option Value) (v2 : Option Value) (v3 : Option Value) (v4 : Option Value) (a20 : Nat) (a21 : Nat) (x1 : Int32) (σ : ma_H), ma_rn ro (d + 1) 3 (108, [v0, v1, v2, v3, v4], .int x1 :: .ref a20 :: .ref a21 :: [], SH, σ) = (ma_ev ro d 89 [.int x1] SH σ).bind (fun q => ma_rn ro (d + 1) 3 (111, [v0, v1, v2, v3, v4], (q.1.toList ++ (.ref a20 :: .ref a21 :: [])), q.2.1, q.2.2))) ∧
  (∀ (v0 : Option Value) (v1 : Option Value) (v2 : Option Value) (v4 : Option Value) (x1 : Int32) (st : List Value) (σ : ma_H), ma_rn ro d 3 (111, [v0, v1, v2, some (.int x1), v4], st, SH, σ) = ma_rn ro d 3 (112, [v0, v1, v2, some (.int x1), v4], .int x1 :: st, SH, σ)) ∧
  (∀ (v0 : Option Value) (v1 : Option Value) (v2 : Option Value) (v3 : Option Value) (x1 : Int32) (st : List Value) (σ : ma_H), ma_rn ro d 3 (112, [v0, v1, v2, v3, some (.int x1)], st, SH, σ) = ma_rn ro d 3 (114, [v0, v1, v2, v3, some (.int x1)], .int x1 :: st, SH, σ)) ∧
  (∀ (v0 : Option Value) (v1 : Option Value) (v2 : Option Value) (v3 : Option Value) (v4 : Option Value) (st : List Value) (σ : ma_H), ma_rn ro d 3 (114, [v0, v1, v2, v3, v4], st, SH, σ) = ma_rn ro d 3 (115, [v0, v1, v2, v3, v4], .int (nI 1) :: st, SH, σ)) ∧
  (∀ (v0 : Option Value) (v1 : Option Value) (v2 : Option Value) (v3 : Option Value) (v4 : Option Value) (x1 : Int32) (x2 : Int32) (st : List Value) (σ : ma_H), ma_rn ro d 3 (115, [v0, v1, v2, v3, v4], .int x1 :: .int x2 :: st, SH, σ) = ma_rn ro d 3 (116, [v0, v1, v2, v3, v4], .int (x2 + x1) :: st, SH, σ)) ∧
  (∀ (v0 : Option Value) (v1 : Option Value) (v2 : Option Value) (v3 : Option Value) (v4 : Option Value) (a1 : Nat) (x2 : Int32) (x3 : Int32) (x4 : Int32) (a0 : Nat) (σ : ma_H) (hc : hk_cls a0 = 0), ma_rn ro (d + 1) 3 (116, [v0, v1, v2, v3, v4], .int x4 :: .int x3 :: .int x2 :: .ref a1 :: .ref a0 :: [], SH, σ) = (ma_ev ro d 3 [.ref a0, .ref a1, .int x2, .int x3, .int x4] SH σ).bind (fun q => ma_rn ro (d + 1) 3 (119, [v0, v1, v2, v3, v4], (q.1.toList ++ []), q.2.1, q.2.2))) ∧
  (∀ (v0 : Option Value) (v1 : Option Value) (v2 : Option Value) (v3 : Option Value) (v4 : Option Value) (x1 : Int32) (σ : ma_H), ma_rn ro d 3 (119, [v0, v1, v2, v3, v4], [.int x1], SH, σ) = some (some (.int x1), SH, σ)) := ⟨fun v0 v1 v2 v3 x1 st σ => q_go e3_0 rfl rfl,
  fun v0 v1 v2 v3 v4 st σ => q_bipush e3_2 (by decide),
  fun v0 v1 v2 v3 v4 x1 x2 st σ => (q_cmp e3_4 rfl).trans q_ngt,
  fun v0 v1 v2 v3 v4 st σ => q_iconst e3_7 (by decide),
  fun v0 v1 v2 v3 v4 x1 σ => q_iret e3_8 r_3,
  fun v0 v1 v3 v4 x1 st σ => q_go e3_9 rfl rfl,
  fun v0 v1 v2 v3 v4 x1 st σ => by
    by_cases h0 : x1 = nI 0
    · rw [if_pos h0, h0]; exact q_lsw e3_10 (by decide) (by decide)
    rw [if_neg h0]
    by_cases h1 : x1 = nI 1
    · rw [if_pos h1, h1]; exact q_lsw e3_10 (by decide) (by decide)
    rw [if_neg h1]
    by_cases h2 : x1 = nI 5
    · rw [if_pos h2, h2]; exact q_lsw e3_10 (by decide) (by decide)
    rw [if_neg h2]
    refine q_lsw e3_10 (by decide) ?_
    show ma_tgt _ (Op.lookupswitch.offset [(0, 34), (1, 46), (5, 69)] _ _) = _
    rw [lv_osw h0 (by decide), lv_osw h1 (by decide), lv_osw h2 (by decide)]
    rfl,
  fun v1 v2 v3 v4 a1 st σ => q_go e3_44 rfl rfl,
  fun v0 v1 v2 v3 v4 st σ => q_iconst e3_45 (by decide),
  fun v0 v1 v2 v3 v4 x1 a0 σ hc => q_invV (as := [.int x1]) (rest := []) e3_46 o_3 bn_0_19 c_0_19 m_1 (by decide) rfl rfl (Nat.le_of_ble_eq_true rfl) (Nat.le_of_ble_eq_true rfl) hc,
  fun v0 v1 v2 v4 x1 st σ => q_go e3_49 rfl rfl,
  fun v0 v2 v3 v4 a1 st σ => q_go e3_50 rfl rfl,
  fun v0 v1 v2 v3 v4 a1 st σ hc => q_getI e3_51 o_3 f_0_23 (by decide) hc,
  fun v0 v1 v2 v3 v4 x1 x2 st σ => q_go e3_54 rfl rfl,
  fun v0 v1 v2 v3 v4 x1 σ => q_iret e3_55 r_3,
  fun v1 v2 v3 v4 a1 st σ => q_go e3_56 rfl rfl,
  fun v0 v1 v2 v3 v4 st σ => q_bipush e3_57 (by decide),
  fun v0 v1 v2 v3 v4 x1 a0 σ hc => q_invV (as := [.int x1]) (rest := []) e3_59 o_3 bn_0_19 c_0_19 m_1 (by decide) rfl rfl (Nat.le_of_ble_eq_true rfl) (Nat.le_of_ble_eq_true rfl) hc,
  fun v1 v2 v3 v4 a1 st σ => q_go e3_62 rfl rfl,
  fun v0 v2 v3 v4 a1 st σ => q_go e3_63 rfl rfl,
  fun v0 v1 v3 v4 x1 st σ => q_go e3_64 rfl rfl,
  fun v0 v1 v2 v3 v4 a20 a21 x1 σ => q_invS (as := [.int x1]) (rest := .ref a20 :: .ref a21 :: []) e3_65 o_3 bn_0_28 c_0_28 ⟨m_89.1, m_89.2.1, m_89.2.2.1⟩ rfl rfl (Nat.le_of_ble_eq_true rfl) (Nat.le_of_ble_eq_true rfl),
  fun v0 v1 v2 v4 x1 st σ => q_go e3_68 rfl rfl,
  fun v0 v1 v2 v3 v4 st σ => q_iconst e3_69 (by decide),
  fun v0 v1 v2 v3 v4 x1 x2 st σ => q_go e3_70 rfl rfl,
  fun v0 v1 v2 v3 x1 st σ => q_go e3_71 rfl rfl,
  fun v0 v1 v2 v3 v4 st σ => q_iconst e3_73 (by decide),
  fun v0 v1 v2 v3 v4 x1 x2 st σ => q_go e3_74 rfl rfl,
  fun v0 v1 v2 v3 v4 a1 x2 x3 x4 a0 σ hc => q_invV (as := [.ref a1, .int x2, .int x3, .int x4]) (rest := []) e3_75 o_3 bn_0_32 c_0_32 m_3 (by decide) rfl rfl (Nat.le_of_ble_eq_true rfl) (Nat.le_of_ble_eq_true rfl) hc,
  fun v0 v1 v2 v3 v4 x1 σ => q_iret e3_78 r_3,
  fun v1 v2 v3 v4 a1 st σ => q_go e3_79 rfl rfl,
  fun v0 v1 v2 v3 v4 st σ => q_bipush e3_80 (by decide),
  fun v0 v1 v2 v3 v4 x1 a0 σ hc => q_invV (as := [.int x1]) (rest := []) e3_82 o_3 bn_0_19 c_0_19 m_1 (by decide) rfl rfl (Nat.le_of_ble_eq_true rfl) (Nat.le_of_ble_eq_true rfl) hc,
  fun v1 v2 v3 v4 a1 st σ => q_go e3_85 rfl rfl,
  fun v0 v2 v3 v4 a1 st σ => q_go e3_86 rfl rfl,
  fun v0 v1 v3 v4 x1 st σ => q_go e3_87 rfl rfl,
  fun v0 v1 v2 v3 v4 a20 a21 x1 σ => q_invS (as := [.int x1]) (rest := .ref a20 :: .ref a21 :: []) e3_88 o_3 bn_0_28 c_0_28 ⟨m_89.1, m_89.2.1, m_89.2.2.1⟩ rfl rfl (Nat.le_of_ble_eq_true rfl) (Nat.le_of_ble_eq_true rfl),
  fun v0 v1 v2 v4 x1 st σ => q_go e3_91 rfl rfl,
  fun v0 v1 v2 v3 x1 st σ => q_go e3_92 rfl rfl,
  fun v0 v1 v2 v3 v4 st σ => q_iconst e3_94 (by decide),
  fun v0 v1 v2 v3 v4 x1 x2 st σ => q_go e3_95 rfl rfl,
  fun v0 v1 v2 v3 v4 a1 x2 x3 x4 a0 σ hc => q_invV (as := [.ref a1, .int x2, .int x3, .int x4]) (rest := []) e3_96 o_3 bn_0_32 c_0_32 m_3 (by decide) rfl rfl (Nat.le_of_ble_eq_true rfl) (Nat.le_of_ble_eq_true rfl) hc,
  fun v0 v2 v3 v4 a1 st σ => q_go e3_99 rfl rfl,
  fun v0 v1 v2 v3 v4 a1 st σ hc => q_getI e3_100 o_3 f_0_23 (by decide) hc,
  fun v0 v1 v2 v3 v4 x1 x2 st σ => q_go e3_103 rfl rfl,
  fun v0 v1 v2 v3 v4 x1 σ => q_iret e3_104 r_3,
  fun v1 v2 v3 v4 a1 st σ => q_go e3_105 rfl rfl,
  fun v0 v2 v3 v4 a1 st σ => q_go e3_106 rfl rfl,
  fun v0 v1 v3 v4 x1 st σ => q_go e3_107 rfl rfl,
  fun v0 v1 v2 v3 v4 a20 a21 x1 σ => q_invS (as := [.int x1]) (rest := .ref a20 :: .ref a21 :: []) e3_108 o_3 bn_0_28 c_0_28 ⟨m_89.1, m_89.2.1, m_89.2.2.1⟩ rfl rfl (Nat.le_of_ble_eq_true rfl) (Nat.le_of_ble_eq_true rfl),
  fun v0 v1 v2 v4 x1 st σ => q_go e3_111 rfl rfl,
  fun v0 v1 v2 v3 x1 st σ => q_go e3_112 rfl rfl,
  fun v0 v1 v2 v3 v4 st σ => q_iconst e3_114 (by decide),
  fun v0 v1 v2 v3 v4 x1 x2 st σ => q_go e3_115 rfl rfl,
  fun v0 v1 v2 v3 v4 a1 x2 x3 x4 a0 σ hc => q_invV (as := [.ref a1, .int x2, .int x3, .int x4]) (rest := []) e3_116 o_3 bn_0_32 c_0_32 m_3 (by decide) rfl rfl (Nat.le_of_ble_eq_true rfl) (Nat.le_of_ble_eq_true rfl) hc,
  fun v0 v1 v2 v3 v4 x1 σ => q_iret e3_119 r_3⟩
theorem E3 {ro : ma_RO} {d : Nat} (a0 : Nat) (a1 : Nat) (x2 : Int32) (x3 : Int32) (x4 : Int32) (sh : List ma_Sh) (σ : ma_H) : ma_ev ro d 3 [.ref a0, .ref a1, .int x2, .int x3, .int x4] sh σ = ma_rn ro d 3 (0, [some (.ref a0), some (.ref a1), some (.int x2), some (.int x3), some (.int x4)], [], sh, σ) := q_ent x_3 rfl
theorem e4_0 : decode (ma_cd 4) 0 = .ok (.iload 4, 2) := (congrArg (fun b => decode b 0) cd_4).trans dX0_pulls_0
theorem e4_2 : decode (ma_cd 4) 2 = .ok (.bipush 40, 2) := (congrArg (fun b => decode b 2) cd_4).trans dX0_pulls_2
theorem e4_4 : decode (ma_cd 4) 4 = .ok (.if_icmp .le 5, 3) := (congrArg (fun b => decode b 4) cd_4).trans dX0_pulls_4
theorem e4_7 : decode (ma_cd 4) 7 = .ok (.iconst 0, 1) := (congrArg (fun b => decode b 7) cd_4).trans dX0_pulls_7
theorem e4_8 : decode (ma_cd 4) 8 = .ok (.ireturn, 1) := (congrArg (fun b => decode b 8) cd_4).trans dX0_pulls_8
theorem e4_9 : decode (ma_cd 4) 9 = .ok (.iload_n 2, 1) := (congrArg (fun b => decode b 9) cd_4).trans dX0_pulls_9
theorem e4_10 : decode (ma_cd 4) 10 = .ok (.lookupswitch 107 #[(0, 34), (2, 59), (6, 81)], 34) := (congrArg (fun b => decode b 10) cd_4).trans dX0_pulls_10
theorem e4_44 : decode (ma_cd 4) 44 = .ok (.aload_n 0, 1) := (congrArg (fun b => decode b 44) cd_4).trans dX0_pulls_44
theorem e4_45 : decode (ma_cd 4) 45 = .ok (.iconst 2, 1) := (congrArg (fun b => decode b 45) cd_4).trans dX0_pulls_45
theorem e4_46 : decode (ma_cd 4) 46 = .ok (.invokevirtual 19, 3) := (congrArg (fun b => decode b 46) cd_4).trans dX0_pulls_46
theorem e4_49 : decode (ma_cd 4) 49 = .ok (.aload_n 0, 1) := (congrArg (fun b => decode b 49) cd_4).trans dX0_pulls_49
theorem e4_50 : decode (ma_cd 4) 50 = .ok (.aload_n 1, 1) := (congrArg (fun b => decode b 50) cd_4).trans dX0_pulls_50
theorem e4_51 : decode (ma_cd 4) 51 = .ok (.aload_n 1, 1) := (congrArg (fun b => decode b 51) cd_4).trans dX0_pulls_51
theorem e4_52 : decode (ma_cd 4) 52 = .ok (.getfield 36, 3) := (congrArg (fun b => decode b 52) cd_4).trans dX0_pulls_52
theorem e4_55 : decode (ma_cd 4) 55 = .ok (.iload_n 3, 1) := (congrArg (fun b => decode b 55) cd_4).trans dX0_pulls_55
theorem e4_56 : decode (ma_cd 4) 56 = .ok (.iload 4, 2) := (congrArg (fun b => decode b 56) cd_4).trans dX0_pulls_56
theorem e4_58 : decode (ma_cd 4) 58 = .ok (.iconst 1, 1) := (congrArg (fun b => decode b 58) cd_4).trans dX0_pulls_58
theorem e4_59 : decode (ma_cd 4) 59 = .ok (.iadd, 1) := (congrArg (fun b => decode b 59) cd_4).trans dX0_pulls_59
theorem e4_60 : decode (ma_cd 4) 60 = .ok (.invokevirtual 32, 3) := (congrArg (fun b => decode b 60) cd_4).trans dX0_pulls_60
theorem e4_63 : decode (ma_cd 4) 63 = .ok (.aload_n 1, 1) := (congrArg (fun b => decode b 63) cd_4).trans dX0_pulls_63
theorem e4_64 : decode (ma_cd 4) 64 = .ok (.getfield 39, 3) := (congrArg (fun b => decode b 64) cd_4).trans dX0_pulls_64
theorem e4_67 : decode (ma_cd 4) 67 = .ok (.isub, 1) := (congrArg (fun b => decode b 67) cd_4).trans dX0_pulls_67
theorem e4_68 : decode (ma_cd 4) 68 = .ok (.ireturn, 1) := (congrArg (fun b => decode b 68) cd_4).trans dX0_pulls_68
theorem e4_69 : decode (ma_cd 4) 69 = .ok (.aload_n 0, 1) := (congrArg (fun b => decode b 69) cd_4).trans dX0_pulls_69
theorem e4_70 : decode (ma_cd 4) 70 = .ok (.bipush 21, 2) := (congrArg (fun b => decode b 70) cd_4).trans dX0_pulls_70
theorem e4_72 : decode (ma_cd 4) 72 = .ok (.invokevirtual 19, 3) := (congrArg (fun b => decode b 72) cd_4).trans dX0_pulls_72
theorem e4_75 : decode (ma_cd 4) 75 = .ok (.aload_n 0, 1) := (congrArg (fun b => decode b 75) cd_4).trans dX0_pulls_75
theorem e4_76 : decode (ma_cd 4) 76 = .ok (.aload_n 1, 1) := (congrArg (fun b => decode b 76) cd_4).trans dX0_pulls_76
theorem e4_77 : decode (ma_cd 4) 77 = .ok (.iload_n 2, 1) := (congrArg (fun b => decode b 77) cd_4).trans dX0_pulls_77
theorem e4_78 : decode (ma_cd 4) 78 = .ok (.invokestatic 28, 3) := (congrArg (fun b => decode b 78) cd_4).trans dX0_pulls_78
theorem e4_81 : decode (ma_cd 4) 81 = .ok (.iload_n 3, 1) := (congrArg (fun b => decode b 81) cd_4).trans dX0_pulls_81
theorem e4_82 : decode (ma_cd 4) 82 = .ok (.iload 4, 2) := (congrArg (fun b => decode b 82) cd_4).trans dX0_pulls_82
theorem e4_84 : decode (ma_cd 4) 84 = .ok (.iconst 1, 1) := (congrArg (fun b => decode b 84) cd_4).trans dX0_pulls_84
theorem e4_85 : decode (ma_cd 4) 85 = .ok (.iadd, 1) := (congrArg (fun b => decode b 85) cd_4).trans dX0_pulls_85
theorem e4_86 : decode (ma_cd 4) 86 = .ok (.invokevirtual 42, 3) := (congrArg (fun b => decode b 86) cd_4).trans dX0_pulls_86
theorem e4_89 : decode (ma_cd 4) 89 = .ok (.ineg, 1) := (congrArg (fun b => decode b 89) cd_4).trans dX0_pulls_89
theorem e4_90 : decode (ma_cd 4) 90 = .ok (.ireturn, 1) := (congrArg (fun b => decode b 90) cd_4).trans dX0_pulls_90
theorem e4_91 : decode (ma_cd 4) 91 = .ok (.aload_n 0, 1) := (congrArg (fun b => decode b 91) cd_4).trans dX0_pulls_91
theorem e4_92 : decode (ma_cd 4) 92 = .ok (.bipush 61, 2) := (congrArg (fun b => decode b 92) cd_4).trans dX0_pulls_92
theorem e4_94 : decode (ma_cd 4) 94 = .ok (.invokevirtual 19, 3) := (congrArg (fun b => decode b 94) cd_4).trans dX0_pulls_94
theorem e4_97 : decode (ma_cd 4) 97 = .ok (.aload_n 0, 1) := (congrArg (fun b => decode b 97) cd_4).trans dX0_pulls_97
theorem e4_98 : decode (ma_cd 4) 98 = .ok (.aload_n 1, 1) := (congrArg (fun b => decode b 98) cd_4).trans dX0_pulls_98
theorem e4_99 : decode (ma_cd 4) 99 = .ok (.iload_n 2, 1) := (congrArg (fun b => decode b 99) cd_4).trans dX0_pulls_99
theorem e4_100 : decode (ma_cd 4) 100 = .ok (.invokestatic 28, 3) := (congrArg (fun b => decode b 100) cd_4).trans dX0_pulls_100
theorem e4_103 : decode (ma_cd 4) 103 = .ok (.iload_n 3, 1) := (congrArg (fun b => decode b 103) cd_4).trans dX0_pulls_103
theorem e4_104 : decode (ma_cd 4) 104 = .ok (.iload 4, 2) := (congrArg (fun b => decode b 104) cd_4).trans dX0_pulls_104
theorem e4_106 : decode (ma_cd 4) 106 = .ok (.iconst 1, 1) := (congrArg (fun b => decode b 106) cd_4).trans dX0_pulls_106
theorem e4_107 : decode (ma_cd 4) 107 = .ok (.iadd, 1) := (congrArg (fun b => decode b 107) cd_4).trans dX0_pulls_107
theorem e4_108 : decode (ma_cd 4) 108 = .ok (.invokevirtual 42, 3) := (congrArg (fun b => decode b 108) cd_4).trans dX0_pulls_108
theorem e4_111 : decode (ma_cd 4) 111 = .ok (.aload_n 1, 1) := (congrArg (fun b => decode b 111) cd_4).trans dX0_pulls_111
theorem e4_112 : decode (ma_cd 4) 112 = .ok (.getfield 39, 3) := (congrArg (fun b => decode b 112) cd_4).trans dX0_pulls_112
theorem e4_115 : decode (ma_cd 4) 115 = .ok (.iadd, 1) := (congrArg (fun b => decode b 115) cd_4).trans dX0_pulls_115
theorem e4_116 : decode (ma_cd 4) 116 = .ok (.ireturn, 1) := (congrArg (fun b => decode b 116) cd_4).trans dX0_pulls_116
theorem e4_117 : decode (ma_cd 4) 117 = .ok (.aload_n 0, 1) := (congrArg (fun b => decode b 117) cd_4).trans dX0_pulls_117
theorem e4_118 : decode (ma_cd 4) 118 = .ok (.aload_n 1, 1) := (congrArg (fun b => decode b 118) cd_4).trans dX0_pulls_118
theorem e4_119 : decode (ma_cd 4) 119 = .ok (.iload_n 2, 1) := (congrArg (fun b => decode b 119) cd_4).trans dX0_pulls_119
theorem e4_120 : decode (ma_cd 4) 120 = .ok (.invokestatic 28, 3) := (congrArg (fun b => decode b 120) cd_4).trans dX0_pulls_120
theorem e4_123 : decode (ma_cd 4) 123 = .ok (.iload_n 3, 1) := (congrArg (fun b => decode b 123) cd_4).trans dX0_pulls_123
theorem e4_124 : decode (ma_cd 4) 124 = .ok (.iload 4, 2) := (congrArg (fun b => decode b 124) cd_4).trans dX0_pulls_124
theorem e4_126 : decode (ma_cd 4) 126 = .ok (.iconst 1, 1) := (congrArg (fun b => decode b 126) cd_4).trans dX0_pulls_126
theorem e4_127 : decode (ma_cd 4) 127 = .ok (.iadd, 1) := (congrArg (fun b => decode b 127) cd_4).trans dX0_pulls_127
theorem e4_128 : decode (ma_cd 4) 128 = .ok (.invokevirtual 42, 3) := (congrArg (fun b => decode b 128) cd_4).trans dX0_pulls_128
theorem e4_131 : decode (ma_cd 4) 131 = .ok (.ireturn, 1) := (congrArg (fun b => decode b 131) cd_4).trans dX0_pulls_131
theorem S4 {ro : ma_RO} {d : Nat} : (∀ (v0 : Option Value) (v1 : Option Value) (v2 : Option Value) (v3 : Option Value) (x1 : Int32) (st : List Value) (σ : ma_H), ma_rn ro d 4 (0, [v0, v1, v2, v3, some (.int x1)], st, SH, σ) = ma_rn ro d 4 (2, [v0, v1, v2, v3, some (.int x1)], .int x1 :: st, SH, σ)) ∧
  (∀ (v0 : Option Value) (v1 : Option Value) (v2 : Option Value) (v3 : Option Value) (v4 : Option Value) (st : List Value) (σ : ma_H), ma_rn ro d 4 (2, [v0, v1, v2, v3, v4], st, SH, σ) = ma_rn ro d 4 (4, [v0, v1, v2, v3, v4], .int (nI 40) :: st, SH, σ)) ∧
  (∀ (v0 : Option Value) (v1 : Option Value) (v2 : Option Value) (v3 : Option Value) (v4 : Option Value) (x1 : Int32) (x2 : Int32) (st : List Value) (σ : ma_H), ma_rn ro d 4 (4, [v0, v1, v2, v3, v4], .int x1 :: .int x2 :: st, SH, σ) = if x1 < x2 then ma_rn ro d 4 (7, [v0, v1, v2, v3, v4], st, SH, σ) else ma_rn ro d 4 (9, [v0, v1, v2, v3, v4], st, SH, σ)) ∧
  (∀ (v0 : Option Value) (v1 : Option Value) (v2 : Option Value) (v3 : Option Value) (v4 : Option Value) (st : List Value) (σ : ma_H), ma_rn ro d 4 (7, [v0, v1, v2, v3, v4], st, SH, σ) = ma_rn ro d 4 (8, [v0, v1, v2, v3, v4], .int (nI 0) :: st, SH, σ)) ∧
  (∀ (v0 : Option Value) (v1 : Option Value) (v2 : Option Value) (v3 : Option Value) (v4 : Option Value) (x1 : Int32) (σ : ma_H), ma_rn ro d 4 (8, [v0, v1, v2, v3, v4], [.int x1], SH, σ) = some (some (.int x1), SH, σ)) ∧
  (∀ (v0 : Option Value) (v1 : Option Value) (v3 : Option Value) (v4 : Option Value) (x1 : Int32) (st : List Value) (σ : ma_H), ma_rn ro d 4 (9, [v0, v1, some (.int x1), v3, v4], st, SH, σ) = ma_rn ro d 4 (10, [v0, v1, some (.int x1), v3, v4], .int x1 :: st, SH, σ)) ∧
  (∀ (v0 : Option Value) (v1 : Option Value) (v2 : Option Value) (v3 : Option Value) (v4 : Option Value) (x1 : Int32) (st : List Value) (σ : ma_H), ma_rn ro d 4 (10, [v0, v1, v2, v3, v4], .int x1 :: st, SH, σ) = if x1 = nI 0 then ma_rn ro d 4 (44, [v0, v1, v2, v3, v4], st, SH, σ) else if x1 = nI 2 then ma_rn ro d 4 (69, [v0, v1, v2, v3, v4], st, SH, σ) else if x1 = nI 6 then ma_rn ro d 4 (91, [v0, v1, v2, v3, v4], st, SH, σ) else ma_rn ro d 4 (117, [v0, v1, v2, v3, v4], st, SH, σ)) ∧
  (∀ (v1 : Option Value) (v2 : Option Value) (v3 : Option Value) (v4 : Option Value) (a1 : Nat) (st : List Value) (σ : ma_H), ma_rn ro d 4 (44, [some (.ref a1), v1, v2, v3, v4], st, SH, σ) = ma_rn ro d 4 (45, [some (.ref a1), v1, v2, v3, v4], .ref a1 :: st, SH, σ)) ∧
  (∀ (v0 : Option Value) (v1 : Option Value) (v2 : Option Value) (v3 : Option Value) (v4 : Option Value) (st : List Value) (σ : ma_H), ma_rn ro d 4 (45, [v0, v1, v2, v3, v4], st, SH, σ) = ma_rn ro d 4 (46, [v0, v1, v2, v3, v4], .int (nI 2) :: st, SH, σ)) ∧
  (∀ (v0 : Option Value) (v1 : Option Value) (v2 : Option Value) (v3 : Option Value) (v4 : Option Value) (x1 : Int32) (a0 : Nat) (σ : ma_H) (hc : hk_cls a0 = 0), ma_rn ro (d + 1) 4 (46, [v0, v1, v2, v3, v4], .int x1 :: .ref a0 :: [], SH, σ) = (ma_ev ro d 1 [.ref a0, .int x1] SH σ).bind (fun q => ma_rn ro (d + 1) 4 (49, [v0, v1, v2, v3, v4], (q.1.toList ++ []), q.2.1, q.2.2))) ∧
  (∀ (v1 : Option Value) (v2 : Option Value) (v3 : Option Value) (v4 : Option Value) (a1 : Nat) (st : List Value) (σ : ma_H), ma_rn ro d 4 (49, [some (.ref a1), v1, v2, v3, v4], st, SH, σ) = ma_rn ro d 4 (50, [some (.ref a1), v1, v2, v3, v4], .ref a1 :: st, SH, σ)) ∧
  (∀ (v0 : Option Value) (v2 : Option Value) (v3 : Option Value) (v4 : Option Value) (a1 : Nat) (st : List Value) (σ : ma_H), ma_rn ro d 4 (50, [v0, some (.ref a1), v2, v3, v4], st, SH, σ) = ma_rn ro d 4 (51, [v0, some (.ref a1), v2, v3, v4], .ref a1 :: st, SH, σ)) ∧
  (∀ (v0 : Option Value) (v2 : Option Value) (v3 : Option Value) (v4 : Option Value) (a1 : Nat) (st : List Value) (σ : ma_H), ma_rn ro d 4 (51, [v0, some (.ref a1), v2, v3, v4], st, SH, σ) = ma_rn ro d 4 (52, [v0, some (.ref a1), v2, v3, v4], .ref a1 :: st, SH, σ)) ∧
  (∀ (v0 : Option Value) (v1 : Option Value) (v2 : Option Value) (v3 : Option Value) (v4 : Option Value) (a1 : Nat) (st : List Value) (σ : ma_H) (hc : hk_cls a1 = 1), ma_rn ro d 4 (52, [v0, v1, v2, v3, v4], .ref a1 :: st, SH, σ) = ma_rn ro d 4 (55, [v0, v1, v2, v3, v4], .int (σ a1 1) :: st, SH, σ)) ∧
  (∀ (v0 : Option Value) (v1 : Option Value) (v2 : Option Value) (v4 : Option Value) (x1 : Int32) (st : List Value) (σ : ma_H), ma_rn ro d 4 (55, [v0, v1, v2, some (.int x1), v4], st, SH, σ) = ma_rn ro d 4 (56, [v0, v1, v2, some (.int x1), v4], .int x1 :: st, SH, σ)) ∧
  (∀ (v0 : Option Value) (v1 : Option Value) (v2 : Option Value) (v3 : Option Value) (x1 : Int32) (st : List Value) (σ : ma_H), ma_rn ro d 4 (56, [v0, v1, v2, v3, some (.int x1)], st, SH, σ) = ma_rn ro d 4 (58, [v0, v1, v2, v3, some (.int x1)], .int x1 :: st, SH, σ)) ∧
  (∀ (v0 : Option Value) (v1 : Option Value) (v2 : Option Value) (v3 : Option Value) (v4 : Option Value) (st : List Value) (σ : ma_H), ma_rn ro d 4 (58, [v0, v1, v2, v3, v4], st, SH, σ) = ma_rn ro d 4 (59, [v0, v1, v2, v3, v4], .int (nI 1) :: st, SH, σ)) ∧
  (∀ (v0 : Option Value) (v1 : Option Value) (v2 : Option Value) (v3 : Option Value) (v4 : Option Value) (x1 : Int32) (x2 : Int32) (st : List Value) (σ : ma_H), ma_rn ro d 4 (59, [v0, v1, v2, v3, v4], .int x1 :: .int x2 :: st, SH, σ) = ma_rn ro d 4 (60, [v0, v1, v2, v3, v4], .int (x2 + x1) :: st, SH, σ)) ∧
  (∀ (v0 : Option Value) (v1 : Option Value) (v2 : Option Value) (v3 : Option Value) (v4 : Option Value) (a1 : Nat) (x2 : Int32) (x3 : Int32) (x4 : Int32) (a0 : Nat) (σ : ma_H) (hc : hk_cls a0 = 0), ma_rn ro (d + 1) 4 (60, [v0, v1, v2, v3, v4], .int x4 :: .int x3 :: .int x2 :: .ref a1 :: .ref a0 :: [], SH, σ) = (ma_ev ro d 3 [.ref a0, .ref a1, .int x2, .int x3, .int x4] SH σ).bind (fun q => ma_rn ro (d + 1) 4 (63, [v0, v1, v2, v3, v4], (q.1.toList ++ []), q.2.1, q.2.2))) ∧
  (∀ (v0 : Option Value) (v2 : Option Value) (v3 : Option Value) (v4 : Option Value) (a1 : Nat) (st : List Value) (σ : ma_H), ma_rn ro d 4 (63, [v0, some (.ref a1), v2, v3, v4], st, SH, σ) = ma_rn ro d 4 (64, [v0, some (.ref a1), v2, v3, v4], .ref a1 :: st, SH, σ)) ∧
  (∀ (v0 : Option Value) (v1 : Option Value) (v2 : Option Value) (v3 : Option Value) (v4 : Option Value) (a1 : Nat) (st : List Value) (σ : ma_H) (hc : hk_cls a1 = 1), ma_rn ro d 4 (64, [v0, v1, v2, v3, v4], .ref a1 :: st, SH, σ) = ma_rn ro d 4 (67, [v0, v1, v2, v3, v4], .int (σ a1 2) :: st, SH, σ)) ∧
  (∀ (v0 : Option Value) (v1 : Option Value) (v2 : Option Value) (v3 : Option Value) (v4 : Option Value) (x1 : Int32) (x2 : Int32) (st : List Value) (σ : ma_H), ma_rn ro d 4 (67, [v0, v1, v2, v3, v4], .int x1 :: .int x2 :: st, SH, σ) = ma_rn ro d 4 (68, [v0, v1, v2, v3, v4], .int (x2 - x1) :: st, SH, σ)) ∧
  (∀ (v0 : Option Value) (v1 : Option Value) (v2 : Option Value) (v3 : Option Value) (v4 : Option Value) (x1 : Int32) (σ : ma_H), ma_rn ro d 4 (68, [v0, v1, v2, v3, v4], [.int x1], SH, σ) = some (some (.int x1), SH, σ)) ∧
  (∀ (v1 : Option Value) (v2 : Option Value) (v3 : Option Value) (v4 : Option Value) (a1 : Nat) (st : List Value) (σ : ma_H), ma_rn ro d 4 (69, [some (.ref a1), v1, v2, v3, v4], st, SH, σ) = ma_rn ro d 4 (70, [some (.ref a1), v1, v2, v3, v4], .ref a1 :: st, SH, σ)) ∧
  (∀ (v0 : Option Value) (v1 : Option Value) (v2 : Option Value) (v3 : Option Value) (v4 : Option Value) (st : List Value) (σ : ma_H), ma_rn ro d 4 (70, [v0, v1, v2, v3, v4], st, SH, σ) = ma_rn ro d 4 (72, [v0, v1, v2, v3, v4], .int (nI 21) :: st, SH, σ)) ∧
  (∀ (v0 : Option Value) (v1 : Option Value) (v2 : Option Value) (v3 : Option Value) (v4 : Option Value) (x1 : Int32) (a0 : Nat) (σ : ma_H) (hc : hk_cls a0 = 0), ma_rn ro (d + 1) 4 (72, [v0, v1, v2, v3, v4], .int x1 :: .ref a0 :: [], SH, σ) = (ma_ev ro d 1 [.ref a0, .int x1] SH σ).bind (fun q => ma_rn ro (d + 1) 4 (75, [v0, v1, v2, v3, v4], (q.1.toList ++ []), q.2.1, q.2.2))) ∧
  (∀ (v1 : Option Value) (v2 : Option Value) (v3 : Option Value) (v4 : Option Value) (a1 : Nat) (st : List Value) (σ : ma_H), ma_rn ro d 4 (75, [some (.ref a1), v1, v2, v3, v4], st, SH, σ) = ma_rn ro d 4 (76, [some (.ref a1), v1, v2, v3, v4], .ref a1 :: st, SH, σ)) ∧
  (∀ (v0 : Option Value) (v2 : Option Value) (v3 : Option Value) (v4 : Option Value) (a1 : Nat) (st : List Value) (σ : ma_H), ma_rn ro d 4 (76, [v0, some (.ref a1), v2, v3, v4], st, SH, σ) = ma_rn ro d 4 (77, [v0, some (.ref a1), v2, v3, v4], .ref a1 :: st, SH, σ)) ∧
  (∀ (v0 : Option Value) (v1 : Option Value) (v3 : Option Value) (v4 : Option Value) (x1 : Int32) (st : List Value) (σ : ma_H), ma_rn ro d 4 (77, [v0, v1, some (.int x1), v3, v4], st, SH, σ) = ma_rn ro d 4 (78, [v0, v1, some (.int x1), v3, v4], .int x1 :: st, SH, σ)) ∧
  (∀ (v0 : Option Value) (v1 : Option Value) (v2 : Option Value) (v3 : Option Value) (v4 : Option Value) (a20 : Nat) (a21 : Nat) (x1 : Int32) (σ : ma_H), ma_rn ro (d + 1) 4 (78, [v0, v1, v2, v3, v4], .int x1 :: .ref a20 :: .ref a21 :: [], SH, σ) = (ma_ev ro d 89 [.int x1] SH σ).bind (fun q => ma_rn ro (d + 1) 4 (81, [v0, v1, v2, v3, v4], (q.1.toList ++ (.ref a20 :: .ref a21 :: [])), q.2.1, q.2.2))) ∧
  (∀ (v0 : Option Value) (v1 : Option Value) (v2 : Option Value) (v4 : Option Value) (x1 : Int32) (st : List Value) (σ : ma_H), ma_rn ro d 4 (81, [v0, v1, v2, some (.int x1), v4], st, SH, σ) = ma_rn ro d 4 (82, [v0, v1, v2, some (.int x1), v4], .int x1 :: st, SH, σ)) ∧
  (∀ (v0 : Option Value) (v1 : Option Value) (v2 : Option Value) (v3 : Option Value) (x1 : Int32) (st : List Value) (σ : ma_H), ma_rn ro d 4 (82, [v0, v1, v2, v3, some (.int x1)], st, SH, σ) = ma_rn ro d 4 (84, [v0, v1, v2, v3, some (.int x1)], .int x1 :: st, SH, σ)) ∧
  (∀ (v0 : Option Value) (v1 : Option Value) (v2 : Option Value) (v3 : Option Value) (v4 : Option Value) (st : List Value) (σ : ma_H), ma_rn ro d 4 (84, [v0, v1, v2, v3, v4], st, SH, σ) = ma_rn ro d 4 (85, [v0, v1, v2, v3, v4], .int (nI 1) :: st, SH, σ)) ∧
  (∀ (v0 : Option Value) (v1 : Option Value) (v2 : Option Value) (v3 : Option Value) (v4 : Option Value) (x1 : Int32) (x2 : Int32) (st : List Value) (σ : ma_H), ma_rn ro d 4 (85, [v0, v1, v2, v3, v4], .int x1 :: .int x2 :: st, SH, σ) = ma_rn ro d 4 (86, [v0, v1, v2, v3, v4], .int (x2 + x1) :: st, SH, σ)) ∧
  (∀ (v0 : Option Value) (v1 : Option Value) (v2 : Option Value) (v3 : Option Value) (v4 : Option Value) (a1 : Nat) (x2 : Int32) (x3 : Int32) (x4 : Int32) (a0 : Nat) (σ : ma_H) (hc : hk_cls a0 = 0), ma_rn ro (d + 1) 4 (86, [v0, v1, v2, v3, v4], .int x4 :: .int x3 :: .int x2 :: .ref a1 :: .ref a0 :: [], SH, σ) = (ma_ev ro d 4 [.ref a0, .ref a1, .int x2, .int x3, .int x4] SH σ).bind (fun q => ma_rn ro (d + 1) 4 (89, [v0, v1, v2, v3, v4], (q.1.toList ++ []), q.2.1, q.2.2))) ∧
  (∀ (v0 : Option Value) (v1 : Option Value) (v2 : Option Value) (v3 : Option Value) (v4 : Option Value) (x1 : Int32) (st : List Value) (σ : ma_H), ma_rn ro d 4 (89, [v0, v1, v2, v3, v4], .int x1 :: st, SH, σ) = ma_rn ro d 4 (90, [v0, v1, v2, v3, v4], .int (-x1) :: st, SH, σ)) ∧
  (∀ (v0 : Option Value) (v1 : Option Value) (v2 : Option Value) (v3 : Option Value) (v4 : Option Value) (x1 : Int32) (σ : ma_H), ma_rn ro d 4 (90, [v0, v1, v2, v3, v4], [.int x1], SH, σ) = some (some (.int x1), SH, σ)) ∧
  (∀ (v1 : Option Value) (v2 : Option Value) (v3 : Option Value) (v4 : Option Value) (a1 : Nat) (st : List Value) (σ : ma_H), ma_rn ro d 4 (91, [some (.ref a1), v1, v2, v3, v4], st, SH, σ) = ma_rn ro d 4 (92, [some (.ref a1), v1, v2, v3, v4], .ref a1 :: st, SH, σ)) ∧
  (∀ (v0 : Option Value) (v1 : Option Value) (v2 : Option Value) (v3 : Option Value) (v4 : Option Value) (st : List Value) (σ : ma_H), ma_rn ro d 4 (92, [v0, v1, v2, v3, v4], st, SH, σ) = ma_rn ro d 4 (94, [v0, v1, v2, v3, v4], .int (nI 61) :: st, SH, σ)) ∧
  (∀ (v0 : Option Value) (v1 : Option Value) (v2 : Option Value) (v3 : Option Value) (v4 : Option Value) (x1 : Int32) (a0 : Nat) (σ : ma_H) (hc : hk_cls a0 = 0), ma_rn ro (d + 1) 4 (94, [v0, v1, v2, v3, v4], .int x1 :: .ref a0 :: [], SH, σ) = (ma_ev ro d 1 [.ref a0, .int x1] SH σ).bind (fun q => ma_rn ro (d + 1) 4 (97, [v0, v1, v2, v3, v4], (q.1.toList ++ []), q.2.1, q.2.2))) ∧
  (∀ (v1 : Option Value) (v2 : Option Value) (v3 : Option Value) (v4 : Option Value) (a1 : Nat) (st : List Value) (σ : ma_H), ma_rn ro d 4 (97, [some (.ref a1), v1, v2, v3, v4], st, SH, σ) = ma_rn ro d 4 (98, [some (.ref a1), v1, v2, v3, v4], .ref a1 :: st, SH, σ)) ∧
  (∀ (v0 : Option Value) (v2 : Option Value) (v3 : Option Value) (v4 : Option Value) (a1 : Nat) (st : List Value) (σ : ma_H), ma_rn ro d 4 (98, [v0, some (.ref a1), v2, v3, v4], st, SH, σ) = ma_rn ro d 4 (99, [v0, some (.ref a1), v2, v3, v4], .ref a1 :: st, SH, σ)) ∧
  (∀ (v0 : Option Value) (v1 : Option Value) (v3 : Option Value) (v4 : Option Value) (x1 : Int32) (st : List Value) (σ : ma_H), ma_rn ro d 4 (99, [v0, v1, some (.int x1), v3, v4], st, SH, σ) = ma_rn ro d 4 (100, [v0, v1, some (.int x1), v3, v4], .int x1 :: st, SH, σ)) ∧
  (∀ (v0 : Option Value) (v1 : Option Value) (v2 : Option Value) (v3 : Option Value) (v4 : Option Value) (a20 : Nat) (a21 : Nat) (x1 : Int32) (σ : ma_H), ma_rn ro (d + 1) 4 (100, [v0, v1, v2, v3, v4], .int x1 :: .ref a20 :: .ref a21 :: [], SH, σ) = (ma_ev ro d 89 [.int x1] SH σ).bind (fun q => ma_rn ro (d + 1) 4 (103, [v0, v1, v2, v3, v4], (q.1.toList ++ (.ref a20 :: .ref a21 :: [])), q.2.1, q.2.2))) ∧
  (∀ (v0 : Option Value) (v1 : Option Value) (v2 : Option Value) (v4 : Option Value) (x1 : Int32) (st : List Value) (σ : ma_H), ma_rn ro d 4 (103, [v0, v1, v2, some (.int x1), v4], st, SH, σ) = ma_rn ro d 4 (104, [v0, v1, v2, some (.int x1), v4], .int x1 :: st, SH, σ)) ∧
  (∀ (v0 : Option Value) (v1 : Option Value) (v2 : Option Value) (v3 : Option Value) (x1 : Int32) (st : List Value) (σ : ma_H), ma_rn ro d 4 (104, [v0, v1, v2, v3, some (.int x1)], st, SH, σ) = ma_rn ro d 4 (106, [v0, v1, v2, v3, some (.int x1)], .int x1 :: st, SH, σ)) ∧
  (∀ (v0 : Option Value) (v1 : Option Value) (v2 : Option Value) (v3 : Option Value) (v4 : Option Value) (st : List Value) (σ : ma_H), ma_rn ro d 4 (106, [v0, v1, v2, v3, v4], st, SH, σ) = ma_rn ro d 4 (107, [v0, v1, v2, v3, v4], .int (nI 1) :: st, SH, σ)) ∧
  (∀ (v0 : Option Value) (v1 : Option Value) (v2 : Option Value) (v3 : Option Value) (v4 : Option Value) (x1 : Int32) (x2 : Int32) (st : List Value) (σ : ma_H), ma_rn ro d 4 (107, [v0, v1, v2, v3, v4], .int x1 :: .int x2 :: st, SH, σ) = ma_rn ro d 4 (108, [v0, v1, v2, v3, v4], .int (x2 + x1) :: st, SH, σ)) ∧
  (∀ (v0 : Option Value) (v1 : Option Value) (v2 : Option Value) (v3 : Option Value) (v4 : Option Value) (a1 : Nat) (x2 : Int32) (x3 : Int32) (x4 : Int32) (a0 : Nat) (σ : ma_H) (hc : hk_cls a0 = 0), ma_rn ro (d + 1) 4 (108, [v0, v1, v2, v3, v4], .int x4 :: .int x3 :: .int x2 :: .ref a1 :: .ref a0 :: [], SH, σ) = (ma_ev ro d 4 [.ref a0, .ref a1, .int x2, .int x3, .int x4] SH σ).bind (fun q => ma_rn ro (d + 1) 4 (111, [v0, v1, v2, v3, v4], (q.1.toList ++ []), q.2.1, q.2.2))) ∧
  (∀ (v0 : Option Value) (v2 : Option Value) (v3 : Option Value) (v4 : Option Value) (a1 : Nat) (st : List Value) (σ : ma_H), ma_rn ro d 4 (111, [v0, some (.ref a1), v2, v3, v4], st, SH, σ) = ma_rn ro d 4 (112, [v0, some (.ref a1), v2, v3, v4], .ref a1 :: st, SH, σ)) ∧
  (∀ (v0 : Option Value) (v1 : Option Value) (v2 : Option Value) (v3 : Option Value) (v4 : Option Value) (a1 : Nat) (st : List Value) (σ : ma_H) (hc : hk_cls a1 = 1), ma_rn ro d 4 (112, [v0, v1, v2, v3, v4], .ref a1 :: st, SH, σ) = ma_rn ro d 4 (115, [v0, v1, v2, v3, v4], .int (σ a1 2) :: st, SH, σ)) ∧
  (∀ (v0 : Option Value) (v1 : Option Value) (v2 : Option Value) (v3 : Option Value) (v4 : Option Value) (x1 : Int32) (x2 : Int32) (st : List Value) (σ : ma_H), ma_rn ro d 4 (115, [v0, v1, v2, v3, v4], .int x1 :: .int x2 :: st, SH, σ) = ma_rn ro d 4 (116, [v0, v1, v2, v3, v4], .int (x2 + x1) :: st, SH, σ)) ∧
  (∀ (v0 : Option Value) (v1 : Option Value) (v2 : Option Value) (v3 : Option Value) (v4 : Option Value) (x1 : Int32) (σ : ma_H), ma_rn ro d 4 (116, [v0, v1, v2, v3, v4], [.int x1], SH, σ) = some (some (.int x1), SH, σ)) ∧
  (∀ (v1 : Option Value) (v2 : Option Value) (v3 : Option Value) (v4 : Option Value) (a1 : Nat) (st : List Value) (σ : ma_H), ma_rn ro d 4 (117, [some (.ref a1), v1, v2, v3, v4], st, SH, σ) = ma_rn ro d 4 (118, [some (.ref a1), v1, v2, v3, v4], .ref a1 :: st, SH, σ)) ∧
  (∀ (v0 : Option Value) (v2 : Option Value) (v3 : Option Value) (v4 : Option Value) (a1 : Nat) (st : List Value) (σ : ma_H), ma_rn ro d 4 (118, [v0, some (.ref a1), v2, v3, v4], st, SH, σ) = ma_rn ro d 4 (119, [v0, some (.ref a1), v2, v3, v4], .ref a1 :: st, SH, σ)) ∧
  (∀ (v0 : Option Value) (v1 : Option Value) (v3 : Option Value) (v4 : Option Value) (x1 : Int32) (st : List Value) (σ : ma_H), ma_rn ro d 4 (119, [v0, v1, some (.int x1), v3, v4], st, SH, σ) = ma_rn ro d 4 (120, [v0, v1, some (.int x1), v3, v4], .int x1 :: st, SH, σ)) ∧
  (∀ (v0 : Option Value) (v1 : Option Value) (v2 : Option Value) (v3 : Option Value) (v4 : Option Value) (a20 : Nat) (a21 : Nat) (x1 : Int32) (σ : ma_H), ma_rn ro (d + 1) 4 (120, [v0, v1, v2, v3, v4], .int x1 :: .ref a20 :: .ref a21 :: [], SH, σ) = (ma_ev ro d 89 [.int x1] SH σ).bind (fun q => ma_rn ro (d + 1) 4 (123, [v0, v1, v2, v3, v4], (q.1.toList ++ (.ref a20 :: .ref a21 :: [])), q.2.1, q.2.2))) ∧
  (∀ (v0 : Option Value) (v1 : Option Value) (v2 : Option Value) (v4 : Option Value) (x1 : Int32) (st : List Value) (σ : ma_H), ma_rn ro d 4 (123, [v0, v1, v2, some (.int x1), v4], st, SH, σ) = ma_rn ro d 4 (124, [v0, v1, v2, some (.int x1), v4], .int x1 :: st, SH, σ)) ∧
  (∀ (v0 : Option Value) (v1 : Option Value) (v2 : Option Value) (v3 : Option Value) (x1 : Int32) (st : List Value) (σ : ma_H), ma_rn ro d 4 (124, [v0, v1, v2, v3, some (.int x1)], st, SH, σ) = ma_rn ro d 4 (126, [v0, v1, v2, v3, some (.int x1)], .int x1 :: st, SH, σ)) ∧
  (∀ (v0 : Option Value) (v1 : Option Value) (v2 : Option Value) (v3 : Option Value) (v4 : Option Value) (st : List Value) (σ : ma_H), ma_rn ro d 4 (126, [v0, v1, v2, v3, v4], st, SH, σ) = ma_rn ro d 4 (127, [v0, v1, v2, v3, v4], .int (nI 1) :: st, SH, σ)) ∧
  (∀ (v0 : Option Value) (v1 : Option Value) (v2 : Option Value) (v3 : Option Value) (v4 : Option Value) (x1 : Int32) (x2 : Int32) (st : List Value) (σ : ma_H), ma_rn ro d 4 (127, [v0, v1, v2, v3, v4], .int x1 :: .int x2 :: st, SH, σ) = ma_rn ro d 4 (128, [v0, v1, v2, v3, v4], .int (x2 + x1) :: st, SH, σ)) ∧
  (∀ (v0 : Option Value) (v1 : Option Value) (v2 : Option Value) (v3 : Option Value) (v4 : Option Value) (a1 : Nat) (x2 : Int32) (x3 : Int32) (x4 : Int32) (a0 : Nat) (σ : ma_H) (hc : hk_cls a0 = 0), ma_rn ro (d + 1) 4 (128, [v0, v1, v2, v3, v4], .int x4 :: .int x3 :: .int x2 :: .ref a1 :: .ref a0 :: [], SH, σ) = (ma_ev ro d 4 [.ref a0, .ref a1, .int x2, .int x3, .int x4] SH σ).bind (fun q => ma_rn ro (d + 1) 4 (131, [v0, v1, v2, v3, v4], (q.1.toList ++ []), q.2.1, q.2.2))) ∧
  (∀ (v0 : Option Value) (v1 : Option Value) (v2 : Option Value) (v3 : Option Value) (v4 : Option Value) (x1 : Int32) (σ : ma_H), ma_rn ro d 4 (131, [v0, v1, v2, v3, v4], [.int x1], SH, σ) = some (some (.int x1), SH, σ)) := ⟨fun v0 v1 v2 v3 x1 st σ => q_go e4_0 rfl rfl,
  fun v0 v1 v2 v3 v4 st σ => q_bipush e4_2 (by decide),
  fun v0 v1 v2 v3 v4 x1 x2 st σ => (q_cmp e4_4 rfl).trans q_ngt,
  fun v0 v1 v2 v3 v4 st σ => q_iconst e4_7 (by decide),
  fun v0 v1 v2 v3 v4 x1 σ => q_iret e4_8 r_4,
  fun v0 v1 v3 v4 x1 st σ => q_go e4_9 rfl rfl,
  fun v0 v1 v2 v3 v4 x1 st σ => by
    by_cases h0 : x1 = nI 0
    · rw [if_pos h0, h0]; exact q_lsw e4_10 (by decide) (by decide)
    rw [if_neg h0]
    by_cases h1 : x1 = nI 2
    · rw [if_pos h1, h1]; exact q_lsw e4_10 (by decide) (by decide)
    rw [if_neg h1]
    by_cases h2 : x1 = nI 6
    · rw [if_pos h2, h2]; exact q_lsw e4_10 (by decide) (by decide)
    rw [if_neg h2]
    refine q_lsw e4_10 (by decide) ?_
    show ma_tgt _ (Op.lookupswitch.offset [(0, 34), (2, 59), (6, 81)] _ _) = _
    rw [lv_osw h0 (by decide), lv_osw h1 (by decide), lv_osw h2 (by decide)]
    rfl,
  fun v1 v2 v3 v4 a1 st σ => q_go e4_44 rfl rfl,
  fun v0 v1 v2 v3 v4 st σ => q_iconst e4_45 (by decide),
  fun v0 v1 v2 v3 v4 x1 a0 σ hc => q_invV (as := [.int x1]) (rest := []) e4_46 o_4 bn_0_19 c_0_19 m_1 (by decide) rfl rfl (Nat.le_of_ble_eq_true rfl) (Nat.le_of_ble_eq_true rfl) hc,
  fun v1 v2 v3 v4 a1 st σ => q_go e4_49 rfl rfl,
  fun v0 v2 v3 v4 a1 st σ => q_go e4_50 rfl rfl,
  fun v0 v2 v3 v4 a1 st σ => q_go e4_51 rfl rfl,
  fun v0 v1 v2 v3 v4 a1 st σ hc => q_getI e4_52 o_4 f_0_36 (by decide) hc,
  fun v0 v1 v2 v4 x1 st σ => q_go e4_55 rfl rfl,
  fun v0 v1 v2 v3 x1 st σ => q_go e4_56 rfl rfl,
  fun v0 v1 v2 v3 v4 st σ => q_iconst e4_58 (by decide),
  fun v0 v1 v2 v3 v4 x1 x2 st σ => q_go e4_59 rfl rfl,
  fun v0 v1 v2 v3 v4 a1 x2 x3 x4 a0 σ hc => q_invV (as := [.ref a1, .int x2, .int x3, .int x4]) (rest := []) e4_60 o_4 bn_0_32 c_0_32 m_3 (by decide) rfl rfl (Nat.le_of_ble_eq_true rfl) (Nat.le_of_ble_eq_true rfl) hc,
  fun v0 v2 v3 v4 a1 st σ => q_go e4_63 rfl rfl,
  fun v0 v1 v2 v3 v4 a1 st σ hc => q_getI e4_64 o_4 f_0_39 (by decide) hc,
  fun v0 v1 v2 v3 v4 x1 x2 st σ => q_go e4_67 rfl rfl,
  fun v0 v1 v2 v3 v4 x1 σ => q_iret e4_68 r_4,
  fun v1 v2 v3 v4 a1 st σ => q_go e4_69 rfl rfl,
  fun v0 v1 v2 v3 v4 st σ => q_bipush e4_70 (by decide),
  fun v0 v1 v2 v3 v4 x1 a0 σ hc => q_invV (as := [.int x1]) (rest := []) e4_72 o_4 bn_0_19 c_0_19 m_1 (by decide) rfl rfl (Nat.le_of_ble_eq_true rfl) (Nat.le_of_ble_eq_true rfl) hc,
  fun v1 v2 v3 v4 a1 st σ => q_go e4_75 rfl rfl,
  fun v0 v2 v3 v4 a1 st σ => q_go e4_76 rfl rfl,
  fun v0 v1 v3 v4 x1 st σ => q_go e4_77 rfl rfl,
  fun v0 v1 v2 v3 v4 a20 a21 x1 σ => q_invS (as := [.int x1]) (rest := .ref a20 :: .ref a21 :: []) e4_78 o_4 bn_0_28 c_0_28 ⟨m_89.1, m_89.2.1, m_89.2.2.1⟩ rfl rfl (Nat.le_of_ble_eq_true rfl) (Nat.le_of_ble_eq_true rfl),
  fun v0 v1 v2 v4 x1 st σ => q_go e4_81 rfl rfl,
  fun v0 v1 v2 v3 x1 st σ => q_go e4_82 rfl rfl,
  fun v0 v1 v2 v3 v4 st σ => q_iconst e4_84 (by decide),
  fun v0 v1 v2 v3 v4 x1 x2 st σ => q_go e4_85 rfl rfl,
  fun v0 v1 v2 v3 v4 a1 x2 x3 x4 a0 σ hc => q_invV (as := [.ref a1, .int x2, .int x3, .int x4]) (rest := []) e4_86 o_4 bn_0_42 c_0_42 m_4 (by decide) rfl rfl (Nat.le_of_ble_eq_true rfl) (Nat.le_of_ble_eq_true rfl) hc,
  fun v0 v1 v2 v3 v4 x1 st σ => q_go e4_89 rfl rfl,
  fun v0 v1 v2 v3 v4 x1 σ => q_iret e4_90 r_4,
  fun v1 v2 v3 v4 a1 st σ => q_go e4_91 rfl rfl,
  fun v0 v1 v2 v3 v4 st σ => q_bipush e4_92 (by decide),
  fun v0 v1 v2 v3 v4 x1 a0 σ hc => q_invV (as := [.int x1]) (rest := []) e4_94 o_4 bn_0_19 c_0_19 m_1 (by decide) rfl rfl (Nat.le_of_ble_eq_true rfl) (Nat.le_of_ble_eq_true rfl) hc,
  fun v1 v2 v3 v4 a1 st σ => q_go e4_97 rfl rfl,
  fun v0 v2 v3 v4 a1 st σ => q_go e4_98 rfl rfl,
  fun v0 v1 v3 v4 x1 st σ => q_go e4_99 rfl rfl,
  fun v0 v1 v2 v3 v4 a20 a21 x1 σ => q_invS (as := [.int x1]) (rest := .ref a20 :: .ref a21 :: []) e4_100 o_4 bn_0_28 c_0_28 ⟨m_89.1, m_89.2.1, m_89.2.2.1⟩ rfl rfl (Nat.le_of_ble_eq_true rfl) (Nat.le_of_ble_eq_true rfl),
  fun v0 v1 v2 v4 x1 st σ => q_go e4_103 rfl rfl,
  fun v0 v1 v2 v3 x1 st σ => q_go e4_104 rfl rfl,
  fun v0 v1 v2 v3 v4 st σ => q_iconst e4_106 (by decide),
  fun v0 v1 v2 v3 v4 x1 x2 st σ => q_go e4_107 rfl rfl,
  fun v0 v1 v2 v3 v4 a1 x2 x3 x4 a0 σ hc => q_invV (as := [.ref a1, .int x2, .int x3, .int x4]) (rest := []) e4_108 o_4 bn_0_42 c_0_42 m_4 (by decide) rfl rfl (Nat.le_of_ble_eq_true rfl) (Nat.le_of_ble_eq_true rfl) hc,
  fun v0 v2 v3 v4 a1 st σ => q_go e4_111 rfl rfl,
  fun v0 v1 v2 v3 v4 a1 st σ hc => q_getI e4_112 o_4 f_0_39 (by decide) hc,
  fun v0 v1 v2 v3 v4 x1 x2 st σ => q_go e4_115 rfl rfl,
  fun v0 v1 v2 v3 v4 x1 σ => q_iret e4_116 r_4,
  fun v1 v2 v3 v4 a1 st σ => q_go e4_117 rfl rfl,
  fun v0 v2 v3 v4 a1 st σ => q_go e4_118 rfl rfl,
  fun v0 v1 v3 v4 x1 st σ => q_go e4_119 rfl rfl,
  fun v0 v1 v2 v3 v4 a20 a21 x1 σ => q_invS (as := [.int x1]) (rest := .ref a20 :: .ref a21 :: []) e4_120 o_4 bn_0_28 c_0_28 ⟨m_89.1, m_89.2.1, m_89.2.2.1⟩ rfl rfl (Nat.le_of_ble_eq_true rfl) (Nat.le_of_ble_eq_true rfl),
  fun v0 v1 v2 v4 x1 st σ => q_go e4_123 rfl rfl,
  fun v0 v1 v2 v3 x1 st σ => q_go e4_124 rfl rfl,
  fun v0 v1 v2 v3 v4 st σ => q_iconst e4_126 (by decide),
  fun v0 v1 v2 v3 v4 x1 x2 st σ => q_go e4_127 rfl rfl,
  fun v0 v1 v2 v3 v4 a1 x2 x3 x4 a0 σ hc => q_invV (as := [.ref a1, .int x2, .int x3, .int x4]) (rest := []) e4_128 o_4 bn_0_42 c_0_42 m_4 (by decide) rfl rfl (Nat.le_of_ble_eq_true rfl) (Nat.le_of_ble_eq_true rfl) hc,
  fun v0 v1 v2 v3 v4 x1 σ => q_iret e4_131 r_4⟩
theorem E4 {ro : ma_RO} {d : Nat} (a0 : Nat) (a1 : Nat) (x2 : Int32) (x3 : Int32) (x4 : Int32) (sh : List ma_Sh) (σ : ma_H) : ma_ev ro d 4 [.ref a0, .ref a1, .int x2, .int x3, .int x4] sh σ = ma_rn ro d 4 (0, [some (.ref a0), some (.ref a1), some (.int x2), some (.int x3), some (.int x4)], [], sh, σ) := q_ent x_4 rfl
theorem e5_0 : decode (ma_cd 5) 0 = .ok (.iload 4, 2) := (congrArg (fun b => decode b 0) cd_5).trans dX0_looks_0
theorem e5_2 : decode (ma_cd 5) 2 = .ok (.bipush 40, 2) := (congrArg (fun b => decode b 2) cd_5).trans dX0_looks_2
theorem e5_4 : decode (ma_cd 5) 4 = .ok (.if_icmp .le 5, 3) := (congrArg (fun b => decode b 4) cd_5).trans dX0_looks_4
theorem e5_7 : decode (ma_cd 5) 7 = .ok (.iconst 0, 1) := (congrArg (fun b => decode b 7) cd_5).trans dX0_looks_7
theorem e5_8 : decode (ma_cd 5) 8 = .ok (.ireturn, 1) := (congrArg (fun b => decode b 8) cd_5).trans dX0_looks_8
theorem e5_9 : decode (ma_cd 5) 9 = .ok (.iload_n 2, 1) := (congrArg (fun b => decode b 9) cd_5).trans dX0_looks_9
theorem e5_10 : decode (ma_cd 5) 10 = .ok (.tableswitch 122 0 4 #[34, 122, 122, 56, 80], 34) := (congrArg (fun b => decode b 10) cd_5).trans dX0_looks_10
theorem e5_44 : decode (ma_cd 5) 44 = .ok (.aload_n 0, 1) := (congrArg (fun b => decode b 44) cd_5).trans dX0_looks_44
theorem e5_45 : decode (ma_cd 5) 45 = .ok (.iconst 3, 1) := (congrArg (fun b => decode b 45) cd_5).trans dX0_looks_45
theorem e5_46 : decode (ma_cd 5) 46 = .ok (.invokevirtual 19, 3) := (congrArg (fun b => decode b 46) cd_5).trans dX0_looks_46
theorem e5_49 : decode (ma_cd 5) 49 = .ok (.aload_n 0, 1) := (congrArg (fun b => decode b 49) cd_5).trans dX0_looks_49
theorem e5_50 : decode (ma_cd 5) 50 = .ok (.aload_n 1, 1) := (congrArg (fun b => decode b 50) cd_5).trans dX0_looks_50
theorem e5_51 : decode (ma_cd 5) 51 = .ok (.aload_n 1, 1) := (congrArg (fun b => decode b 51) cd_5).trans dX0_looks_51
theorem e5_52 : decode (ma_cd 5) 52 = .ok (.getfield 36, 3) := (congrArg (fun b => decode b 52) cd_5).trans dX0_looks_52
theorem e5_55 : decode (ma_cd 5) 55 = .ok (.iload_n 3, 1) := (congrArg (fun b => decode b 55) cd_5).trans dX0_looks_55
theorem e5_56 : decode (ma_cd 5) 56 = .ok (.iload 4, 2) := (congrArg (fun b => decode b 56) cd_5).trans dX0_looks_56
theorem e5_58 : decode (ma_cd 5) 58 = .ok (.iconst 1, 1) := (congrArg (fun b => decode b 58) cd_5).trans dX0_looks_58
theorem e5_59 : decode (ma_cd 5) 59 = .ok (.iadd, 1) := (congrArg (fun b => decode b 59) cd_5).trans dX0_looks_59
theorem e5_60 : decode (ma_cd 5) 60 = .ok (.invokevirtual 42, 3) := (congrArg (fun b => decode b 60) cd_5).trans dX0_looks_60
theorem e5_63 : decode (ma_cd 5) 63 = .ok (.iconst 2, 1) := (congrArg (fun b => decode b 63) cd_5).trans dX0_looks_63
theorem e5_64 : decode (ma_cd 5) 64 = .ok (.imul, 1) := (congrArg (fun b => decode b 64) cd_5).trans dX0_looks_64
theorem e5_65 : decode (ma_cd 5) 65 = .ok (.ireturn, 1) := (congrArg (fun b => decode b 65) cd_5).trans dX0_looks_65
theorem e5_66 : decode (ma_cd 5) 66 = .ok (.aload_n 0, 1) := (congrArg (fun b => decode b 66) cd_5).trans dX0_looks_66
theorem e5_67 : decode (ma_cd 5) 67 = .ok (.bipush 31, 2) := (congrArg (fun b => decode b 67) cd_5).trans dX0_looks_67
theorem e5_69 : decode (ma_cd 5) 69 = .ok (.invokevirtual 19, 3) := (congrArg (fun b => decode b 69) cd_5).trans dX0_looks_69
theorem e5_72 : decode (ma_cd 5) 72 = .ok (.aload_n 0, 1) := (congrArg (fun b => decode b 72) cd_5).trans dX0_looks_72
theorem e5_73 : decode (ma_cd 5) 73 = .ok (.aload_n 1, 1) := (congrArg (fun b => decode b 73) cd_5).trans dX0_looks_73
theorem e5_74 : decode (ma_cd 5) 74 = .ok (.iload_n 2, 1) := (congrArg (fun b => decode b 74) cd_5).trans dX0_looks_74
theorem e5_75 : decode (ma_cd 5) 75 = .ok (.invokestatic 28, 3) := (congrArg (fun b => decode b 75) cd_5).trans dX0_looks_75
theorem e5_78 : decode (ma_cd 5) 78 = .ok (.iload_n 3, 1) := (congrArg (fun b => decode b 78) cd_5).trans dX0_looks_78
theorem e5_79 : decode (ma_cd 5) 79 = .ok (.iload 4, 2) := (congrArg (fun b => decode b 79) cd_5).trans dX0_looks_79
theorem e5_81 : decode (ma_cd 5) 81 = .ok (.iconst 1, 1) := (congrArg (fun b => decode b 81) cd_5).trans dX0_looks_81
theorem e5_82 : decode (ma_cd 5) 82 = .ok (.iadd, 1) := (congrArg (fun b => decode b 82) cd_5).trans dX0_looks_82
theorem e5_83 : decode (ma_cd 5) 83 = .ok (.invokevirtual 45, 3) := (congrArg (fun b => decode b 83) cd_5).trans dX0_looks_83
theorem e5_86 : decode (ma_cd 5) 86 = .ok (.bipush 7, 2) := (congrArg (fun b => decode b 86) cd_5).trans dX0_looks_86
theorem e5_88 : decode (ma_cd 5) 88 = .ok (.ixor, 1) := (congrArg (fun b => decode b 88) cd_5).trans dX0_looks_88
theorem e5_89 : decode (ma_cd 5) 89 = .ok (.ireturn, 1) := (congrArg (fun b => decode b 89) cd_5).trans dX0_looks_89
theorem e5_90 : decode (ma_cd 5) 90 = .ok (.aload_n 0, 1) := (congrArg (fun b => decode b 90) cd_5).trans dX0_looks_90
theorem e5_91 : decode (ma_cd 5) 91 = .ok (.bipush 41, 2) := (congrArg (fun b => decode b 91) cd_5).trans dX0_looks_91
theorem e5_93 : decode (ma_cd 5) 93 = .ok (.invokevirtual 19, 3) := (congrArg (fun b => decode b 93) cd_5).trans dX0_looks_93
theorem e5_96 : decode (ma_cd 5) 96 = .ok (.aload_n 0, 1) := (congrArg (fun b => decode b 96) cd_5).trans dX0_looks_96
theorem e5_97 : decode (ma_cd 5) 97 = .ok (.aload_n 1, 1) := (congrArg (fun b => decode b 97) cd_5).trans dX0_looks_97
theorem e5_98 : decode (ma_cd 5) 98 = .ok (.iload_n 2, 1) := (congrArg (fun b => decode b 98) cd_5).trans dX0_looks_98
theorem e5_99 : decode (ma_cd 5) 99 = .ok (.invokestatic 28, 3) := (congrArg (fun b => decode b 99) cd_5).trans dX0_looks_99
theorem e5_102 : decode (ma_cd 5) 102 = .ok (.iload_n 3, 1) := (congrArg (fun b => decode b 102) cd_5).trans dX0_looks_102
theorem e5_103 : decode (ma_cd 5) 103 = .ok (.iconst 1, 1) := (congrArg (fun b => decode b 103) cd_5).trans dX0_looks_103
theorem e5_104 : decode (ma_cd 5) 104 = .ok (.isub, 1) := (congrArg (fun b => decode b 104) cd_5).trans dX0_looks_104
theorem e5_105 : decode (ma_cd 5) 105 = .ok (.iload 4, 2) := (congrArg (fun b => decode b 105) cd_5).trans dX0_looks_105
theorem e5_107 : decode (ma_cd 5) 107 = .ok (.iconst 1, 1) := (congrArg (fun b => decode b 107) cd_5).trans dX0_looks_107
theorem e5_108 : decode (ma_cd 5) 108 = .ok (.iadd, 1) := (congrArg (fun b => decode b 108) cd_5).trans dX0_looks_108
theorem e5_109 : decode (ma_cd 5) 109 = .ok (.invokevirtual 45, 3) := (congrArg (fun b => decode b 109) cd_5).trans dX0_looks_109
theorem e5_112 : decode (ma_cd 5) 112 = .ok (.istore 5, 2) := (congrArg (fun b => decode b 112) cd_5).trans dX0_looks_112
theorem e5_114 : decode (ma_cd 5) 114 = .ok (.iload 5, 2) := (congrArg (fun b => decode b 114) cd_5).trans dX0_looks_114
theorem e5_116 : decode (ma_cd 5) 116 = .ok (.aload_n 0, 1) := (congrArg (fun b => decode b 116) cd_5).trans dX0_looks_116
theorem e5_117 : decode (ma_cd 5) 117 = .ok (.aload_n 1, 1) := (congrArg (fun b => decode b 117) cd_5).trans dX0_looks_117
theorem e5_118 : decode (ma_cd 5) 118 = .ok (.aload_n 1, 1) := (congrArg (fun b => decode b 118) cd_5).trans dX0_looks_118
theorem e5_119 : decode (ma_cd 5) 119 = .ok (.getfield 36, 3) := (congrArg (fun b => decode b 119) cd_5).trans dX0_looks_119
theorem e5_122 : decode (ma_cd 5) 122 = .ok (.iconst 2, 1) := (congrArg (fun b => decode b 122) cd_5).trans dX0_looks_122
theorem e5_123 : decode (ma_cd 5) 123 = .ok (.iload 4, 2) := (congrArg (fun b => decode b 123) cd_5).trans dX0_looks_123
theorem e5_125 : decode (ma_cd 5) 125 = .ok (.iconst 1, 1) := (congrArg (fun b => decode b 125) cd_5).trans dX0_looks_125
theorem e5_126 : decode (ma_cd 5) 126 = .ok (.iadd, 1) := (congrArg (fun b => decode b 126) cd_5).trans dX0_looks_126
theorem e5_127 : decode (ma_cd 5) 127 = .ok (.invokevirtual 32, 3) := (congrArg (fun b => decode b 127) cd_5).trans dX0_looks_127
theorem e5_130 : decode (ma_cd 5) 130 = .ok (.iadd, 1) := (congrArg (fun b => decode b 130) cd_5).trans dX0_looks_130
theorem e5_131 : decode (ma_cd 5) 131 = .ok (.ireturn, 1) := (congrArg (fun b => decode b 131) cd_5).trans dX0_looks_131
theorem e5_132 : decode (ma_cd 5) 132 = .ok (.aload_n 0, 1) := (congrArg (fun b => decode b 132) cd_5).trans dX0_looks_132
theorem e5_133 : decode (ma_cd 5) 133 = .ok (.aload_n 1, 1) := (congrArg (fun b => decode b 133) cd_5).trans dX0_looks_133
theorem e5_134 : decode (ma_cd 5) 134 = .ok (.iload_n 2, 1) := (congrArg (fun b => decode b 134) cd_5).trans dX0_looks_134
theorem e5_135 : decode (ma_cd 5) 135 = .ok (.invokestatic 28, 3) := (congrArg (fun b => decode b 135) cd_5).trans dX0_looks_135
theorem e5_138 : decode (ma_cd 5) 138 = .ok (.iload_n 3, 1) := (congrArg (fun b => decode b 138) cd_5).trans dX0_looks_138
theorem e5_139 : decode (ma_cd 5) 139 = .ok (.iload 4, 2) := (congrArg (fun b => decode b 139) cd_5).trans dX0_looks_139
theorem e5_141 : decode (ma_cd 5) 141 = .ok (.iconst 1, 1) := (congrArg (fun b => decode b 141) cd_5).trans dX0_looks_141
theorem e5_142 : decode (ma_cd 5) 142 = .ok (.iadd, 1) := (congrArg (fun b => decode b 142) cd_5).trans dX0_looks_142
theorem e5_143 : decode (ma_cd 5) 143 = .ok (.invokevirtual 45, 3) := (congrArg (fun b => decode b 143) cd_5).trans dX0_looks_143
theorem e5_146 : decode (ma_cd 5) 146 = .ok (.ireturn, 1) := (congrArg (fun b => decode b 146) cd_5).trans dX0_looks_146
theorem S5 {ro : ma_RO} {d : Nat} : (∀ (v0 : Option Value) (v1 : Option Value) (v2 : Option Value) (v3 : Option Value) (v5 : Option Value) (x1 : Int32) (st : List Value) (σ : ma_H), ma_rn ro d 5 (0, [v0, v1, v2, v3, some (.int x1), v5], st, SH, σ) = ma_rn ro d 5 (2, [v0, v1, v2, v3, some (.int x1), v5], .int x1 :: st, SH, σ)) ∧
  (∀ (v0 : Option Value) (v1 : Option Value) (v2 : Option Value) (v3 : Option Value) (v4 : Option Value) (v5 : Option Value) (st : List Value) (σ : ma_H), ma_rn ro d 5 (2, [v0, v1, v2, v3, v4, v5], st, SH, σ) = ma_rn ro d 5 (4, [v0, v1, v2, v3, v4, v5], .int (nI 40) :: st, SH, σ)) ∧
  (∀ (v0 : Option Value) (v1 : Option Value) (v2 : Option Value) (v3 : Option Value) (v4 : Option Value) (v5 : Option Value) (x1 : Int32) (x2 : Int32) (st : List Value) (σ : ma_H), ma_rn ro d 5 (4, [v0, v1, v2, v3, v4, v5], .int x1 :: .int x2 :: st, SH, σ) = if x1 < x2 then ma_rn ro d 5 (7, [v0, v1, v2, v3, v4, v5], st, SH, σ) else ma_rn ro d 5 (9, [v0, v1, v2, v3, v4, v5], st, SH, σ)) ∧
  (∀ (v0 : Option Value) (v1 : Option Value) (v2 : Option Value) (v3 : Option Value) (v4 : Option Value) (v5 : Option Value) (st : List Value) (σ : ma_H), ma_rn ro d 5 (7, [v0, v1, v2, v3, v4, v5], st, SH, σ) = ma_rn ro d 5 (8, [v0, v1, v2, v3, v4, v5], .int (nI 0) :: st, SH, σ)) ∧
  (∀ (v0 : Option Value) (v1 : Option Value) (v2 : Option Value) (v3 : Option Value) (v4 : Option Value) (v5 : Option Value) (x1 : Int32) (σ : ma_H), ma_rn ro d 5 (8, [v0, v1, v2, v3, v4, v5], [.int x1], SH, σ) = some (some (.int x1), SH, σ)) ∧
  (∀ (v0 : Option Value) (v1 : Option Value) (v3 : Option Value) (v4 : Option Value) (v5 : Option Value) (x1 : Int32) (st : List Value) (σ : ma_H), ma_rn ro d 5 (9, [v0, v1, some (.int x1), v3, v4, v5], st, SH, σ) = ma_rn ro d 5 (10, [v0, v1, some (.int x1), v3, v4, v5], .int x1 :: st, SH, σ)) ∧
  (∀ (v0 : Option Value) (v1 : Option Value) (v2 : Option Value) (v3 : Option Value) (v4 : Option Value) (v5 : Option Value) (x1 : Int32) (st : List Value) (σ : ma_H), ma_rn ro d 5 (10, [v0, v1, v2, v3, v4, v5], .int x1 :: st, SH, σ) = if x1 = nI 0 then ma_rn ro d 5 (44, [v0, v1, v2, v3, v4, v5], st, SH, σ) else if x1 = nI 1 then ma_rn ro d 5 (132, [v0, v1, v2, v3, v4, v5], st, SH, σ) else if x1 = nI 2 then ma_rn ro d 5 (132, [v0, v1, v2, v3, v4, v5], st, SH, σ) else if x1 = nI 3 then ma_rn ro d 5 (66, [v0, v1, v2, v3, v4, v5], st, SH, σ) else if x1 = nI 4 then ma_rn ro d 5 (90, [v0, v1, v2, v3, v4, v5], st, SH, σ) else ma_rn ro d 5 (132, [v0, v1, v2, v3, v4, v5], st, SH, σ)) ∧
  (∀ (v1 : Option Value) (v2 : Option Value) (v3 : Option Value) (v4 : Option Value) (v5 : Option Value) (a1 : Nat) (st : List Value) (σ : ma_H), ma_rn ro d 5 (44, [some (.ref a1), v1, v2, v3, v4, v5], st, SH, σ) = ma_rn ro d 5 (45, [some (.ref a1), v1, v2, v3, v4, v5], .ref a1 :: st, SH, σ)) ∧
  (∀ (v0 : Option Value) (v1 : Option Value) (v2 : Option Value) (v3 : Option Value) (v4 : Option Value) (v5 : Option Value) (st : List Value) (σ : ma_H), ma_rn ro d 5 (45, [v0, v1, v2, v3, v4, v5], st, SH, σ) = ma_rn ro d 5 (46, [v0, v1, v2, v3, v4, v5], .int (nI 3) :: st, SH, σ)) ∧
  (∀ (v0 : Option Value) (v1 : Option Value) (v2 : Option Value) (v3 : Option Value) (v4 : Option Value) (v5 : Option Value) (x1 : Int32) (a0 : Nat) (σ : ma_H) (hc : hk_cls a0 = 0), ma_rn ro (d + 1) 5 (46, [v0, v1, v2, v3, v4, v5], .int x1 :: .ref a0 :: [], SH, σ) = (ma_ev ro d 1 [.ref a0, .int x1] SH σ).bind (fun q => ma_rn ro (d + 1) 5 (49, [v0, v1, v2, v3, v4, v5], (q.1.toList ++ []), q.2.1, q.2.2))) ∧
  (∀ (v1 : Option Value) (v2 : Option Value) (v3 : Option Value) (v4 : Option Value) (v5 : Option Value) (a1 : Nat) (st : List Value) (σ : ma_H), ma_rn ro d 5 (49, [some (.ref a1), v1, v2, v3, v4, v5], st, SH, σ) = ma_rn ro d 5 (50, [some (.ref a1), v1, v2, v3, v4, v5], .ref a1 :: st, SH, σ)) ∧
  (∀ (v0 : Option Value) (v2 : Option Value) (v3 : Option Value) (v4 : Option Value) (v5 : Option Value) (a1 : Nat) (st : List Value) (σ : ma_H), ma_rn ro d 5 (50, [v0, some (.ref a1), v2, v3, v4, v5], st, SH, σ) = ma_rn ro d 5 (51, [v0, some (.ref a1), v2, v3, v4, v5], .ref a1 :: st, SH, σ)) ∧
  (∀ (v0 : Option Value) (v2 : Option Value) (v3 : Option Value) (v4 : Option Value) (v5 : Option Value) (a1 : Nat) (st : List Value) (σ : ma_H), ma_rn ro d 5 (51, [v0, some (.ref a1), v2, v3, v4, v5], st, SH, σ) = ma_rn ro d 5 (52, [v0, some (.ref a1), v2, v3, v4, v5], .ref a1 :: st, SH, σ)) ∧
  (∀ (v0 : Option Value) (v1 : Option Value) (v2 : Option Value) (v3 : Option Value) (v4 : Option Value) (v5 : Option Value) (a1 : Nat) (st : List Value) (σ : ma_H) (hc : hk_cls a1 = 1), ma_rn ro d 5 (52, [v0, v1, v2, v3, v4, v5], .ref a1 :: st, SH, σ) = ma_rn ro d 5 (55, [v0, v1, v2, v3, v4, v5], .int (σ a1 1) :: st, SH, σ)) ∧
  (∀ (v0 : Option Value) (v1 : Option Value) (v2 : Option Value) (v4 : Option Value) (v5 : Option Value) (x1 : Int32) (st : List Value) (σ : ma_H), ma_rn ro d 5 (55, [v0, v1, v2, some (.int x1), v4, v5], st, SH, σ) = ma_rn ro d 5 (56, [v0, v1, v2, some (.int x1), v4, v5], .int x1 :: st, SH, σ)) ∧
  (∀ (v0 : Option Value) (v1 : Option Value) (v2 : Option Value) (v3 : Option Value) (v5 : Option Value) (x1 : Int32) (st : List Value) (σ : ma_H), ma_rn ro d 5 (56, [v0, v1, v2, v3, some (.int x1), v5], st, SH, σ) = ma_rn ro d 5 (58, [v0, v1, v2, v3, some (.int x1), v5], .int x1 :: st, SH, σ)) ∧
  (∀ (v0 : Option Value) (v1 : Option Value) (v2 : Option Value) (v3 : Option Value) (v4 : Option Value) (v5 : Option Value) (st : List Value) (σ : ma_H), ma_rn ro d 5 (58, [v0, v1, v2, v3, v4, v5], st, SH, σ) = ma_rn ro d 5 (59, [v0, v1, v2, v3, v4, v5], .int (nI 1) :: st, SH, σ)) ∧
  (∀ (v0 : Option Value) (v1 : Option Value) (v2 : Option Value) (v3 : Option Value) (v4 : Option Value) (v5 : Option Value) (x1 : Int32) (x2 : Int32) (st : List Value) (σ : ma_H), ma_rn ro d 5 (59, [v0, v1, v2, v3, v4, v5], .int x1 :: .int x2 :: st, SH, σ) = ma_rn ro d 5 (60, [v0, v1, v2, v3, v4, v5], .int (x2 + x1) :: st, SH, σ)) ∧
  (∀ (v0 : Option Value) (v1 : Option Value) (v2 : Option Value) (v3 : Option Value) (v4 : Option Value) (v5 : Option Value) (a1 : Nat) (x2 : Int32) (x3 : Int32) (x4 : Int32) (a0 : Nat) (σ : ma_H) (hc : hk_cls a0 = 0), ma_rn ro (d + 1) 5 (60, [v0, v1, v2, v3, v4, v5], .int x4 :: .int x3 :: .int x2 :: .ref a1 :: .ref a0 :: [], SH, σ) = (ma_ev ro d 4 [.ref a0, .ref a1, .int x2, .int x3, .int x4] SH σ).bind (fun q => ma_rn ro (d + 1) 5 (63, [v0, v1, v2, v3, v4, v5], (q.1.toList ++ []), q.2.1, q.2.2))) ∧
  (∀ (v0 : Option Value) (v1 : Option Value) (v2 : Option Value) (v3 : Option Value) (v4 : Option Value) (v5 : Option Value) (st : List Value) (σ : ma_H), ma_rn ro d 5 (63, [v0, v1, v2, v3, v4, v5], st, SH, σ) = ma_rn ro d 5 (64, [v0, v1, v2, v3, v4, v5], .int (nI 2) :: st, SH, σ)) ∧
  (∀ (v0 : Option Value) (v1 : Option Value) (v2 : Option Value) (v3 : Option Value) (v4 : Option Value) (v5 : Option Value) (x1 : Int32) (x2 : Int32) (st : List Value) (σ : ma_H), ma_rn ro d 5 (64, [v0, v1, v2, v3, v4, v5], .int x1 :: .int x2 :: st, SH, σ) = ma_rn ro d 5 (65, [v0, v1, v2, v3, v4, v5], .int (x2 * x1) :: st, SH, σ)) ∧
  (∀ (v0 : Option Value) (v1 : Option Value) (v2 : Option Value) (v3 : Option Value) (v4 : Option Value) (v5 : Option Value) (x1 : Int32) (σ : ma_H), ma_rn ro d 5 (65, [v0, v1, v2, v3, v4, v5], [.int x1], SH, σ) = some (some (.int x1), SH, σ)) ∧
  (∀ (v1 : Option Value) (v2 : Option Value) (v3 : Option Value) (v4 : Option Value) (v5 : Option Value) (a1 : Nat) (st : List Value) (σ : ma_H), ma_rn ro d 5 (66, [some (.ref a1), v1, v2, v3, v4, v5], st, SH, σ) = ma_rn ro d 5 (67, [some (.ref a1), v1, v2, v3, v4, v5], .ref a1 :: st, SH, σ)) ∧
  (∀ (v0 : Option Value) (v1 : Option Value) (v2 : Option Value) (v3 : Option Value) (v4 : Option Value) (v5 : Option Value) (st : List Value) (σ : ma_H), ma_rn ro d 5 (67, [v0, v1, v2, v3, v4, v5], st, SH, σ) = ma_rn ro d 5 (69, [v0, v1, v2, v3, v4, v5], .int (nI 31) :: st, SH, σ)) ∧
  (∀ (v0 : Option Value) (v1 : Option Value) (v2 : Option Value) (v3 : Option Value) (v4 : Option Value) (v5 : Option Value) (x1 : Int32) (a0 : Nat) (σ : ma_H) (hc : hk_cls a0 = 0), ma_rn ro (d + 1) 5 (69, [v0, v1, v2, v3, v4, v5], .int x1 :: .ref a0 :: [], SH, σ) = (ma_ev ro d 1 [.ref a0, .int x1] SH σ).bind (fun q => ma_rn ro (d + 1) 5 (72, [v0, v1, v2, v3, v4, v5], (q.1.toList ++ []), q.2.1, q.2.2))) ∧
  (∀ (v1 : Option Value) (v2 : Option Value) (v3 : Option Value) (v4 : Option Value) (v5 : Option Value) (a1 : Nat) (st : List Value) (σ : ma_H), ma_rn ro d 5 (72, [some (.ref a1), v1, v2, v3, v4, v5], st, SH, σ) = ma_rn ro d 5 (73, [some (.ref a1), v1, v2, v3, v4, v5], .ref a1 :: st, SH, σ)) ∧
  (∀ (v0 : Option Value) (v2 : Option Value) (v3 : Option Value) (v4 : Option Value) (v5 : Option Value) (a1 : Nat) (st : List Value) (σ : ma_H), ma_rn ro d 5 (73, [v0, some (.ref a1), v2, v3, v4, v5], st, SH, σ) = ma_rn ro d 5 (74, [v0, some (.ref a1), v2, v3, v4, v5], .ref a1 :: st, SH, σ)) ∧
  (∀ (v0 : Option Value) (v1 : Option Value) (v3 : Option Value) (v4 : Option Value) (v5 : Option Value) (x1 : Int32) (st : List Value) (σ : ma_H), ma_rn ro d 5 (74, [v0, v1, some (.int x1), v3, v4, v5], st, SH, σ) = ma_rn ro d 5 (75, [v0, v1, some (.int x1), v3, v4, v5], .int x1 :: st, SH, σ)) ∧
  (∀ (v0 : Option Value) (v1 : Option Value) (v2 : Option Value) (v3 : Option Value) (v4 : Option Value) (v5 : Option Value) (a20 : Nat) (a21 : Nat) (x1 : Int32) (σ : ma_H), ma_rn ro (d + 1) 5 (75, [v0, v1, v2, v3, v4, v5], .int x1 :: .ref a20 :: .ref a21 :: [], SH, σ) = (ma_ev ro d 89 [.int x1] SH σ).bind (fun q => ma_rn ro (d + 1) 5 (78, [v0, v1, v2, v3, v4, v5], (q.1.toList ++ (.ref a20 :: .ref a21 :: [])), q.2.1, q.2.2))) ∧
  (∀ (v0 : Option Value) (v1 : Option Value) (v2 : Option Value) (v4 : Option Value) (v5 : Option Value) (x1 : Int32) (st : List Value) (σ : ma_H), ma_rn ro d 5 (78, [v0, v1, v2, some (.int x1), v4, v5], st, SH, σ) = ma_rn ro d 5 (79, [v0, v1, v2, some (.int x1), v4, v5], .int x1 :: st, SH, σ)) ∧
  (∀ (v0 : Option Value) (v1 : Option Value) (v2 : Option Value) (v3 : Option Value) (v5 : Option Value) (x1 : Int32) (st : List Value) (σ : ma_H), ma_rn ro d 5 (79, [v0, v1, v2, v3, some (.int x1), v5], st, SH, σ) = ma_rn ro d 5 (81, [v0, v1, v2, v3, some (.int x1), v5], .int x1 :: st, SH, σ)) ∧
  (∀ (v0 : Option Value) (v1 : Option Value) (v2 : Option Value) (v3 : Option Value) (v4 : Option Value) (v5 : Option Value) (st : List Value) (σ : ma_H), ma_rn ro d 5 (81, [v0, v1, v2, v3, v4, v5], st, SH, σ) = ma_rn ro d 5 (82, [v0, v1, v2, v3, v4, v5], .int (nI 1) :: st, SH, σ)) ∧
  (∀ (v0 : Option Value) (v1 : Option Value) (v2 : Option Value) (v3 : Option Value) (v4 : Option Value) (v5 : Option Value) (x1 : Int32) (x2 : Int32) (st : List Value) (σ : ma_H), ma_rn ro d 5 (82, [v0, v1, v2, v3, v4, v5], .int x1 :: .int x2 :: st, SH, σ) = ma_rn ro d 5 (83, [v0, v1, v2, v3, v4, v5], .int (x2 + x1) :: st, SH, σ)) ∧
  (∀ (v0 : Option Value) (v1 : Option Value) (v2 : Option Value) (v3 : Option Value) (v4 : Option Value) (v5 : Option Value) (a1 : Nat) (x2 : Int32) (x3 : Int32) (x4 : Int32) (a0 : Nat) (σ : ma_H) (hc : hk_cls a0 = 0), ma_rn ro (d + 1) 5 (83, [v0, v1, v2, v3, v4, v5], .int x4 :: .int x3 :: .int x2 :: .ref a1 :: .ref a0 :: [], SH, σ) = (ma_ev ro d 5 [.ref a0, .ref a1, .int x2, .int x3, .int x4] SH σ).bind (fun q => ma_rn ro (d + 1) 5 (86, [v0, v1, v2, v3, v4, v5], (q.1.toList ++ []), q.2.1, q.2.2))) ∧
  (∀ (v0 : Option Value) (v1 : Option Value) (v2 : Option Value) (v3 : Option Value) (v4 : Option Value) (v5 : Option Value) (st : List Value) (σ : ma_H), ma_rn ro d 5 (86, [v0, v1, v2, v3, v4, v5], st, SH, σ) = ma_rn ro d 5 (88, [v0, v1, v2, v3, v4, v5], .int (nI 7) :: st, SH, σ)) ∧
  (∀ (v0 : Option Value) (v1 : Option Value) (v2 : Option Value) (v3 : Option Value) (v4 : Option Value) (v5 : Option Value) (x1 : Int32) (x2 : Int32) (st : List Value) (σ : ma_H), ma_rn ro d 5 (88, [v0, v1, v2, v3, v4, v5], .int x1 :: .int x2 :: st, SH, σ) = ma_rn ro d 5 (89, [v0, v1, v2, v3, v4, v5], .int (x2 ^^^ x1) :: st, SH, σ)) ∧
  (∀ (v0 : Option Value) (v1 : Option Value) (v2 : Option Value) (v3 : Option Value) (v4 : Option Value) (v5 : Option Value) (x1 : Int32) (σ : ma_H), ma_rn ro d 5 (89, [v0, v1, v2, v3, v4, v5], [.int x1], SH, σ) = some (some (.int x1), SH, σ)) ∧
  (∀ (v1 : Option Value) (v2 : Option Value) (v3 : Option Value) (v4 : Option Value) (v5 : Option Value) (a1 : Nat) (st : List Value) (σ : ma_H), ma_rn ro d 5 (90, [some (.ref a1), v1, v2, v3, v4, v5], st, SH, σ) = ma_rn ro d 5 (91, [some (.ref a1), v1, v2, v3, v4, v5], .ref a1 :: st, SH, σ)) ∧
  (∀ (v0 : Option Value) (v1 : Option Value) (v2 : Option Value) (v3 : Option Value) (v4 : Option Value) (v5 : Option Value) (st : List Value) (σ : ma_H), ma_rn ro d 5 (91, [v0, v1, v2, v3, v4, v5], st, SH, σ) = ma_rn ro d 5 (93, [v0, v1, v2, v3, v4, v5], .int (nI 41) :: st, SH, σ)) ∧
  (∀ (v0 : Option Value) (v1 : Option Value) (v2 : Option Value) (v3 : Option Value) (v4 : Option Value) (v5 : Option Value) (x1 : Int32) (a0 : Nat) (σ : ma_H) (hc : hk_cls a0 = 0), ma_rn ro (d + 1) 5 (93, [v0, v1, v2, v3, v4, v5], .int x1 :: .ref a0 :: [], SH, σ) = (ma_ev ro d 1 [.ref a0, .int x1] SH σ).bind (fun q => ma_rn ro (d + 1) 5 (96, [v0, v1, v2, v3, v4, v5], (q.1.toList ++ []), q.2.1, q.2.2))) ∧
  (∀ (v1 : Option Value) (v2 : Option Value) (v3 : Option Value) (v4 : Option Value) (v5 : Option Value) (a1 : Nat) (st : List Value) (σ : ma_H), ma_rn ro d 5 (96, [some (.ref a1), v1, v2, v3, v4, v5], st, SH, σ) = ma_rn ro d 5 (97, [some (.ref a1), v1, v2, v3, v4, v5], .ref a1 :: st, SH, σ)) ∧
  (∀ (v0 : Option Value) (v2 : Option Value) (v3 : Option Value) (v4 : Option Value) (v5 : Option Value) (a1 : Nat) (st : List Value) (σ : ma_H), ma_rn ro d 5 (97, [v0, some (.ref a1), v2, v3, v4, v5], st, SH, σ) = ma_rn ro d 5 (98, [v0, some (.ref a1), v2, v3, v4, v5], .ref a1 :: st, SH, σ)) ∧
  (∀ (v0 : Option Value) (v1 : Option Value) (v3 : Option Value) (v4 : Option Value) (v5 : Option Value) (x1 : Int32) (st : List Value) (σ : ma_H), ma_rn ro d 5 (98, [v0, v1, some (.int x1), v3, v4, v5], st, SH, σ) = ma_rn ro d 5 (99, [v0, v1, some (.int x1), v3, v4, v5], .int x1 :: st, SH, σ)) ∧
  (∀ (v0 : Option Value) (v1 : Option Value) (v2 : Option Value) (v3 : Option Value) (v4 : Option Value) (v5 : Option Value) (a20 : Nat) (a21 : Nat) (x1 : Int32) (σ : ma_H), ma_rn ro (d + 1) 5 (99, [v0, v1, v2, v3, v4, v5], .int x1 :: .ref a20 :: .ref a21 :: [], SH, σ) = (ma_ev ro d 89 [.int x1] SH σ).bind (fun q => ma_rn ro (d + 1) 5 (102, [v0, v1, v2, v3, v4, v5], (q.1.toList ++ (.ref a20 :: .ref a21 :: [])), q.2.1, q.2.2))) ∧
  (∀ (v0 : Option Value) (v1 : Option Value) (v2 : Option Value) (v4 : Option Value) (v5 : Option Value) (x1 : Int32) (st : List Value) (σ : ma_H), ma_rn ro d 5 (102, [v0, v1, v2, some (.int x1), v4, v5], st, SH, σ) = ma_rn ro d 5 (103, [v0, v1, v2, some (.int x1), v4, v5], .int x1 :: st, SH, σ)) ∧
  (∀ (v0 : Option Value) (v1 : Option Value) (v2 : Option Value) (v3 : Option Value) (v4 : Option Value) (v5 : Option Value) (st : List Value) (σ : ma_H), ma_rn ro d 5 (103, [v0, v1, v2, v3, v4, v5], st, SH, σ) = ma_rn ro d 5 (104, [v0, v1, v2, v3, v4, v5], .int (nI 1) :: st, SH, σ)) ∧
  (∀ (v0 : Option Value) (v1 : Option Value) (v2 : Option Value) (v3 : Option Value) (v4 : Option Value) (v5 : Option Value) (x1 : Int32) (x2 : Int32) (st : List Value) (σ : ma_H), ma_rn ro d 5 (104, [v0, v1, v2, v3, v4, v5], .int x1 :: .int x2 :: st, SH, σ) = ma_rn ro d 5 (105, [v0, v1, v2, v3, v4, v5], .int (x2 - x1) :: st, SH, σ)) ∧
  (∀ (v0 : Option Value) (v1 : Option Value) (v2 : Option Value) (v3 : Option Value) (v5 : Option Value) (x1 : Int32) (st : List Value) (σ : ma_H), ma_rn ro d 5 (105, [v0, v1, v2, v3, some (.int x1), v5], st, SH, σ) = ma_rn ro d 5 (107, [v0, v1, v2, v3, some (.int x1), v5], .int x1 :: st, SH, σ)) ∧
  (∀ (v0 : Option Value) (v1 : Option Value) (v2 : Option Value) (v3 : Option Value) (v4 : Option Value) (v5 : Option Value) (st : List Value) (σ : ma_H), ma_rn ro d 5 (107, [v0, v1, v2, v3, v4, v5], st, SH, σ) = ma_rn ro d 5 (108, [v0, v1, v2, v3, v4, v5], .int (nI 1) :: st, SH, σ)) ∧
  (∀ (v0 : Option Value) (v1 : Option Value) (v2 : Option Value) (v3 : Option Value) (v4 : Option Value) (v5 : Option Value) (x1 : Int32) (x2 : Int32) (st : List Value) (σ : ma_H), ma_rn ro d 5 (108, [v0, v1, v2, v3, v4, v5], .int x1 :: .int x2 :: st, SH, σ) = ma_rn ro d 5 (109, [v0, v1, v2, v3, v4, v5], .int (x2 + x1) :: st, SH, σ)) ∧
  (∀ (v0 : Option Value) (v1 : Option Value) (v2 : Option Value) (v3 : Option Value) (v4 : Option Value) (v5 : Option Value) (a1 : Nat) (x2 : Int32) (x3 : Int32) (x4 : Int32) (a0 : Nat) (σ : ma_H) (hc : hk_cls a0 = 0), ma_rn ro (d + 1) 5 (109, [v0, v1, v2, v3, v4, v5], .int x4 :: .int x3 :: .int x2 :: .ref a1 :: .ref a0 :: [], SH, σ) = (ma_ev ro d 5 [.ref a0, .ref a1, .int x2, .int x3, .int x4] SH σ).bind (fun q => ma_rn ro (d + 1) 5 (112, [v0, v1, v2, v3, v4, v5], (q.1.toList ++ []), q.2.1, q.2.2))) ∧
  (∀ (v0 : Option Value) (v1 : Option Value) (v2 : Option Value) (v3 : Option Value) (v5 : Option Value) (x9 : Int32) (x1 : Int32) (st : List Value) (σ : ma_H), ma_rn ro d 5 (112, [v0, v1, v2, v3, some (.int x9), v5], .int x1 :: st, SH, σ) = ma_rn ro d 5 (114, [v0, v1, v2, v3, some (.int x9), some (.int x1)], st, SH, σ)) ∧
  (∀ (v0 : Option Value) (v1 : Option Value) (v2 : Option Value) (v3 : Option Value) (v4 : Option Value) (x1 : Int32) (st : List Value) (σ : ma_H), ma_rn ro d 5 (114, [v0, v1, v2, v3, v4, some (.int x1)], st, SH, σ) = ma_rn ro d 5 (116, [v0, v1, v2, v3, v4, some (.int x1)], .int x1 :: st, SH, σ)) ∧
  (∀ (v1 : Option Value) (v2 : Option Value) (v3 : Option Value) (v4 : Option Value) (v5 : Option Value) (a1 : Nat) (st : List Value) (σ : ma_H), ma_rn ro d 5 (116, [some (.ref a1), v1, v2, v3, v4, v5], st, SH, σ) = ma_rn ro d 5 (117, [some (.ref a1), v1, v2, v3, v4, v5], .ref a1 :: st, SH, σ)) ∧
  (∀ (v0 : Option Value) (v2 : Option Value) (v3 : Option Value) (v4 : Option Value) (v5 : Option Value) (a1 : Nat) (st : List Value) (σ : ma_H), ma_rn ro d 5 (117, [v0, some (.ref a1), v2, v3, v4, v5], st, SH, σ) = ma_rn ro d 5 (118, [v0, some (.ref a1), v2, v3, v4, v5], .ref a1 :: st, SH, σ)) ∧
  (∀ (v0 : Option Value) (v2 : Option Value) (v3 : Option Value) (v4 : Option Value) (v5 : Option Value) (a1 : Nat) (st : List Value) (σ : ma_H), ma_rn ro d 5 (118, [v0, some (.ref a1), v2, v3, v4, v5], st, SH, σ) = ma_rn ro d 5 (119, [v0, some (.ref a1), v2, v3, v4, v5], .ref a1 :: st, SH, σ)) ∧
  (∀ (v0 : Option Value) (v1 : Option Value) (v2 : Option Value) (v3 : Option Value) (v4 : Option Value) (v5 : Option Value) (a1 : Nat) (st : List Value) (σ : ma_H) (hc : hk_cls a1 = 1), ma_rn ro d 5 (119, [v0, v1, v2, v3, v4, v5], .ref a1 :: st, SH, σ) = ma_rn ro d 5 (122, [v0, v1, v2, v3, v4, v5], .int (σ a1 1) :: st, SH, σ)) ∧
  (∀ (v0 : Option Value) (v1 : Option Value) (v2 : Option Value) (v3 : Option Value) (v4 : Option Value) (v5 : Option Value) (st : List Value) (σ : ma_H), ma_rn ro d 5 (122, [v0, v1, v2, v3, v4, v5], st, SH, σ) = ma_rn ro d 5 (123, [v0, v1, v2, v3, v4, v5], .int (nI 2) :: st, SH, σ)) ∧
  (∀ (v0 : Option Value) (v1 : Option Value) (v2 : Option Value) (v3 : Option Value) (v5 : Option Value) (x1 : Int32) (st : List Value) (σ : ma_H), ma_rn ro d 5 (123, [v0, v1, v2, v3, some (.int x1), v5], st, SH, σ) = ma_rn ro d 5 (125, [v0, v1, v2, v3, some (.int x1), v5], .int x1 :: st, SH, σ)) ∧
  (∀ (v0 : Option Value) (v1 : Option Value) (v2 : Option Value) (v3 : Option Value) (v4 : Option Value) (v5 : Option Value) (st : List Value) (σ : ma_H), ma_rn ro d 5 (125, [v0, v1, v2, v3, v4, v5], st, SH, σ) = ma_rn ro d 5 (126, [v0, v1, v2, v3, v4, v5], .int (nI 1) :: st, SH, σ)) ∧
  (∀ (v0 : Option Value) (v1 : Option Value) (v2 : Option Value) (v3 : Option Value) (v4 : Option Value) (v5 : Option Value) (x1 : Int32) (x2 : Int32) (st : List Value) (σ : ma_H), ma_rn ro d 5 (126, [v0, v1, v2, v3, v4, v5], .int x1 :: .int x2 :: st, SH, σ) = ma_rn ro d 5 (127, [v0, v1, v2, v3, v4, v5], .int (x2 + x1) :: st, SH, σ)) ∧
  (∀ (v0 : Option Value) (v1 : Option Value) (v2 : Option Value) (v3 : Option Value) (v4 : Option Value) (v5 : Option Value) (x20 : Int32) (a1 : Nat) (x2 : Int32) (x3 : Int32) (x4 : Int32) (a0 : Nat) (σ : ma_H) (hc : hk_cls a0 = 0), ma_rn ro (d + 1) 5 (127, [v0, v1, v2, v3, v4, v5], .int x4 :: .int x3 :: .int x2 :: .ref a1 :: .ref a0 :: .int x20 :: [], SH, σ) = (ma_ev ro d 3 [.ref a0, .ref a1, .int x2, .int x3, .int x4] SH σ).bind (fun q => ma_rn ro (d + 1) 5 (130, [v0, v1, v2, v3, v4, v5], (q.1.toList ++ (.int x20 :: [])), q.2.1, q.2.2))) ∧
  (∀ (v0 : Option Value) (v1 : Option Value) (v2 : Option Value) (v3 : Option Value) (v4 : Option Value) (v5 : Option Value) (x1 : Int32) (x2 : Int32) (st : List Value) (σ : ma_H), ma_rn ro d 5 (130, [v0, v1, v2, v3, v4, v5], .int x1 :: .int x2 :: st, SH, σ) = ma_rn ro d 5 (131, [v0, v1, v2, v3, v4, v5], .int (x2 + x1) :: st, SH, σ)) ∧
  (∀ (v0 : Option Value) (v1 : Option Value) (v2 : Option Value) (v3 : Option Value) (v4 : Option Value) (v5 : Option Value) (x1 : Int32) (σ : ma_H), ma_rn ro d 5 (131, [v0, v1, v2, v3, v4, v5], [.int x1], SH, σ) = some (some (.int x1), SH, σ)) ∧
  (∀ (v1 : Option Value) (v2 : Option Value) (v3 : Option Value) (v4 : Option Value) (v5 : Option Value) (a1 : Nat) (st : List Value) (σ : ma_H), ma_rn ro d 5 (132, [some (.ref a1), v1, v2, v3, v4, v5], st, SH, σ) = ma_rn ro d 5 (133, [some (.ref a1), v1, v2, v3, v4, v5], .ref a1 :: st, SH, σ)) ∧
  (∀ (v0 : Option Value) (v2 : Option Value) (v3 : Option Value) (v4 : Option Value) (v5 : Option Value) (a1 : Nat) (st : List Value) (σ : ma_H), ma_rn ro d 5 (133, [v0, some (.ref a1), v2, v3, v4, v5], st, SH, σ) = ma_rn ro d 5 (134, [v0, some (.ref a1), v2, v3, v4, v5], .ref a1 :: st, SH, σ)) ∧
  (∀ (v0 : Option Value) (v1 : Option Value) (v3 : Option Value) (v4 : Option Value) (v5 : Option Value) (x1 : Int32) (st : List Value) (σ : ma_H), ma_rn ro d 5 (134, [v0, v1, some (.int x1), v3, v4, v5], st, SH, σ) = ma_rn ro d 5 (135, [v0, v1, some (.int x1), v3, v4, v5], .int x1 :: st, SH, σ)) ∧
  (∀ (v0 : Option Value) (v1 : Option Value) (v2 : Option Value) (v3 : Option Value) (v4 : Option Value) (v5 : Option Value) (a20 : Nat) (a21 : Nat) (x1 : Int32) (σ : ma_H), ma_rn ro (d + 1) 5 (135, [v0, v1, v2, v3, v4, v5], .int x1 :: .ref a20 :: .ref a21 :: [], SH, σ) = (ma_ev ro d 89 [.int x1] SH σ).bind (fun q => ma_rn ro (d + 1) 5 (138, [v0, v1, v2, v3, v4, v5], (q.1.toList ++ (.ref a20 :: .ref a21 :: [])), q.2.1, q.2.2))) ∧
  (∀ (v0 : Option Value) (v1 : Option Value) (v2 : Option Value) (v4 : Option Value) (v5 : Option Value) (x1 : Int32) (st : List Value) (σ : ma_H), ma_rn ro d 5 (138, [v0, v1, v2, some (.int x1), v4, v5], st, SH, σ) = ma_rn ro d 5 (139, [v0, v1, v2, some (.int x1), v4, v5], .int x1 :: st, SH, σ)) ∧
  (∀ (v0 : Option Value) (v1 : Option Value) (v2 : Option Value) (v3 : Option Value) (v5 : Option Value) (x1 : Int32) (st : List Value) (σ : ma_H), ma_rn ro d 5 (139, [v0, v1, v2, v3, some (.int x1), v5], st, SH, σ) = ma_rn ro d 5 (141, [v0, v1, v2, v3, some (.int x1), v5], .int x1 :: st, SH, σ)) ∧
  (∀ (v0 : Option Value) (v1 : Option Value) (v2 : Option Value) (v3 : Option Value) (v4 : Option Value) (v5 : Option Value) (st : List Value) (σ : ma_H), ma_rn ro d 5 (141, [v0, v1, v2, v3, v4, v5], st, SH, σ) = ma_rn ro d 5 (142, [v0, v1, v2, v3, v4, v5], .int (nI 1) :: st, SH, σ)) ∧
  (∀ (v0 : Option Value) (v1 : Option Value) (v2 : Option Value) (v3 : Option Value) (v4 : Option Value) (v5 : Option Value) (x1 : Int32) (x2 : Int32) (st : List Value) (σ : ma_H), ma_rn ro d 5 (142, [v0, v1, v2, v3, v4, v5], .int x1 :: .int x2 :: st, SH, σ) = ma_rn ro d 5 (143, [v0, v1, v2, v3, v4, v5], .int (x2 + x1) :: st, SH, σ)) ∧
  (∀ (v0 : Option Value) (v1 : Option Value) (v2 : Option Value) (v3 : Option Value) (v4 : Option Value) (v5 : Option Value) (a1 : Nat) (x2 : Int32) (x3 : Int32) (x4 : Int32) (a0 : Nat) (σ : ma_H) (hc : hk_cls a0 = 0), ma_rn ro (d + 1) 5 (143, [v0, v1, v2, v3, v4, v5], .int x4 :: .int x3 :: .int x2 :: .ref a1 :: .ref a0 :: [], SH, σ) = (ma_ev ro d 5 [.ref a0, .ref a1, .int x2, .int x3, .int x4] SH σ).bind (fun q => ma_rn ro (d + 1) 5 (146, [v0, v1, v2, v3, v4, v5], (q.1.toList ++ []), q.2.1, q.2.2))) ∧
  (∀ (v0 : Option Value) (v1 : Option Value) (v2 : Option Value) (v3 : Option Value) (v4 : Option Value) (v5 : Option Value) (x1 : Int32) (σ : ma_H), ma_rn ro d 5 (146, [v0, v1, v2, v3, v4, v5], [.int x1], SH, σ) = some (some (.int x1), SH, σ)) := ⟨fun v0 v1 v2 v3 v5 x1 st σ => q_go e5_0 rfl rfl,
  fun v0 v1 v2 v3 v4 v5 st σ => q_bipush e5_2 (by decide),
  fun v0 v1 v2 v3 v4 v5 x1 x2 st σ => (q_cmp e5_4 rfl).trans q_ngt,
  fun v0 v1 v2 v3 v4 v5 st σ => q_iconst e5_7 (by decide),
  fun v0 v1 v2 v3 v4 v5 x1 σ => q_iret e5_8 r_5,
  fun v0 v1 v3 v4 v5 x1 st σ => q_go e5_9 rfl rfl,
  fun v0 v1 v2 v3 v4 v5 x1 st σ => by
    by_cases h0 : x1 = nI 0
    · rw [if_pos h0]; exact q_tswIn e5_10 h0 (k := 0) (by decide) (by decide) (by decide) rfl rfl
    rw [if_neg h0]
    by_cases h1 : x1 = nI 1
    · rw [if_pos h1]; exact q_tswIn e5_10 h1 (k := 1) (by decide) (by decide) (by decide) rfl rfl
    rw [if_neg h1]
    by_cases h2 : x1 = nI 2
    · rw [if_pos h2]; exact q_tswIn e5_10 h2 (k := 2) (by decide) (by decide) (by decide) rfl rfl
    rw [if_neg h2]
    by_cases h3 : x1 = nI 3
    · rw [if_pos h3]; exact q_tswIn e5_10 h3 (k := 3) (by decide) (by decide) (by decide) rfl rfl
    rw [if_neg h3]
    by_cases h4 : x1 = nI 4
    · rw [if_pos h4]; exact q_tswIn e5_10 h4 (k := 4) (by decide) (by decide) (by decide) rfl rfl
    rw [if_neg h4]
    have g0 := q_nnI h0 (by decide)
    have g1 := q_nnI h1 (by decide)
    have g2 := q_nnI h2 (by decide)
    have g3 := q_nnI h3 (by decide)
    have g4 := q_nnI h4 (by decide)
    exact q_tswOut e5_10 (by omega) rfl,
  fun v1 v2 v3 v4 v5 a1 st σ => q_go e5_44 rfl rfl,
  fun v0 v1 v2 v3 v4 v5 st σ => q_iconst e5_45 (by decide),
  fun v0 v1 v2 v3 v4 v5 x1 a0 σ hc => q_invV (as := [.int x1]) (rest := []) e5_46 o_5 bn_0_19 c_0_19 m_1 (by decide) rfl rfl (Nat.le_of_ble_eq_true rfl) (Nat.le_of_ble_eq_true rfl) hc,
  fun v1 v2 v3 v4 v5 a1 st σ => q_go e5_49 rfl rfl,
  fun v0 v2 v3 v4 v5 a1 st σ => q_go e5_50 rfl rfl,
  fun v0 v2 v3 v4 v5 a1 st σ => q_go e5_51 rfl rfl,
  fun v0 v1 v2 v3 v4 v5 a1 st σ hc => q_getI e5_52 o_5 f_0_36 (by decide) hc,
  fun v0 v1 v2 v4 v5 x1 st σ => q_go e5_55 rfl rfl,
  fun v0 v1 v2 v3 v5 x1 st σ => q_go e5_56 rfl rfl,
  fun v0 v1 v2 v3 v4 v5 st σ => q_iconst e5_58 (by decide),
  fun v0 v1 v2 v3 v4 v5 x1 x2 st σ => q_go e5_59 rfl rfl,
  fun v0 v1 v2 v3 v4 v5 a1 x2 x3 x4 a0 σ hc => q_invV (as := [.ref a1, .int x2, .int x3, .int x4]) (rest := []) e5_60 o_5 bn_0_42 c_0_42 m_4 (by decide) rfl rfl (Nat.le_of_ble_eq_true rfl) (Nat.le_of_ble_eq_true rfl) hc,
  fun v0 v1 v2 v3 v4 v5 st σ => q_iconst e5_63 (by decide),
  fun v0 v1 v2 v3 v4 v5 x1 x2 st σ => q_go e5_64 rfl rfl,
  fun v0 v1 v2 v3 v4 v5 x1 σ => q_iret e5_65 r_5,
  fun v1 v2 v3 v4 v5 a1 st σ => q_go e5_66 rfl rfl,
  fun v0 v1 v2 v3 v4 v5 st σ => q_bipush e5_67 (by decide),
  fun v0 v1 v2 v3 v4 v5 x1 a0 σ hc => q_invV (as := [.int x1]) (rest := []) e5_69 o_5 bn_0_19 c_0_19 m_1 (by decide) rfl rfl (Nat.le_of_ble_eq_true rfl) (Nat.le_of_ble_eq_true rfl) hc,
  fun v1 v2 v3 v4 v5 a1 st σ => q_go e5_72 rfl rfl,
  fun v0 v2 v3 v4 v5 a1 st σ => q_go e5_73 rfl rfl,
  fun v0 v1 v3 v4 v5 x1 st σ => q_go e5_74 rfl rfl,
  fun v0 v1 v2 v3 v4 v5 a20 a21 x1 σ => q_invS (as := [.int x1]) (rest := .ref a20 :: .ref a21 :: []) e5_75 o_5 bn_0_28 c_0_28 ⟨m_89.1, m_89.2.1, m_89.2.2.1⟩ rfl rfl (Nat.le_of_ble_eq_true rfl) (Nat.le_of_ble_eq_true rfl),
  fun v0 v1 v2 v4 v5 x1 st σ => q_go e5_78 rfl rfl,
  fun v0 v1 v2 v3 v5 x1 st σ => q_go e5_79 rfl rfl,
  fun v0 v1 v2 v3 v4 v5 st σ => q_iconst e5_81 (by decide),
  fun v0 v1 v2 v3 v4 v5 x1 x2 st σ => q_go e5_82 rfl rfl,
  fun v0 v1 v2 v3 v4 v5 a1 x2 x3 x4 a0 σ hc => q_invV (as := [.ref a1, .int x2, .int x3, .int x4]) (rest := []) e5_83 o_5 bn_0_45 c_0_45 m_5 (by decide) rfl rfl (Nat.le_of_ble_eq_true rfl) (Nat.le_of_ble_eq_true rfl) hc,
  fun v0 v1 v2 v3 v4 v5 st σ => q_bipush e5_86 (by decide),
  fun v0 v1 v2 v3 v4 v5 x1 x2 st σ => q_go e5_88 rfl rfl,
  fun v0 v1 v2 v3 v4 v5 x1 σ => q_iret e5_89 r_5,
  fun v1 v2 v3 v4 v5 a1 st σ => q_go e5_90 rfl rfl,
  fun v0 v1 v2 v3 v4 v5 st σ => q_bipush e5_91 (by decide),
  fun v0 v1 v2 v3 v4 v5 x1 a0 σ hc => q_invV (as := [.int x1]) (rest := []) e5_93 o_5 bn_0_19 c_0_19 m_1 (by decide) rfl rfl (Nat.le_of_ble_eq_true rfl) (Nat.le_of_ble_eq_true rfl) hc,
  fun v1 v2 v3 v4 v5 a1 st σ => q_go e5_96 rfl rfl,
  fun v0 v2 v3 v4 v5 a1 st σ => q_go e5_97 rfl rfl,
  fun v0 v1 v3 v4 v5 x1 st σ => q_go e5_98 rfl rfl,
  fun v0 v1 v2 v3 v4 v5 a20 a21 x1 σ => q_invS (as := [.int x1]) (rest := .ref a20 :: .ref a21 :: []) e5_99 o_5 bn_0_28 c_0_28 ⟨m_89.1, m_89.2.1, m_89.2.2.1⟩ rfl rfl (Nat.le_of_ble_eq_true rfl) (Nat.le_of_ble_eq_true rfl),
  fun v0 v1 v2 v4 v5 x1 st σ => q_go e5_102 rfl rfl,
  fun v0 v1 v2 v3 v4 v5 st σ => q_iconst e5_103 (by decide),
  fun v0 v1 v2 v3 v4 v5 x1 x2 st σ => q_go e5_104 rfl rfl,
  fun v0 v1 v2 v3 v5 x1 st σ => q_go e5_105 rfl rfl,
  fun v0 v1 v2 v3 v4 v5 st σ => q_iconst e5_107 (by decide),
  fun v0 v1 v2 v3 v4 v5 x1 x2 st σ => q_go e5_108 rfl rfl,
  fun v0 v1 v2 v3 v4 v5 a1 x2 x3 x4 a0 σ hc => q_invV (as := [.ref a1, .int x2, .int x3, .int x4]) (rest := []) e5_109 o_5 bn_0_45 c_0_45 m_5 (by decide) rfl rfl (Nat.le_of_ble_eq_true rfl) (Nat.le_of_ble_eq_true rfl) hc,
  fun v0 v1 v2 v3 v5 x9 x1 st σ => q_go e5_112 rfl rfl,
  fun v0 v1 v2 v3 v4 x1 st σ => q_go e5_114 rfl rfl,
  fun v1 v2 v3 v4 v5 a1 st σ => q_go e5_116 rfl rfl,
  fun v0 v2 v3 v4 v5 a1 st σ => q_go e5_117 rfl rfl,
  fun v0 v2 v3 v4 v5 a1 st σ => q_go e5_118 rfl rfl,
  fun v0 v1 v2 v3 v4 v5 a1 st σ hc => q_getI e5_119 o_5 f_0_36 (by decide) hc,
  fun v0 v1 v2 v3 v4 v5 st σ => q_iconst e5_122 (by decide),
  fun v0 v1 v2 v3 v5 x1 st σ => q_go e5_123 rfl rfl,
  fun v0 v1 v2 v3 v4 v5 st σ => q_iconst e5_125 (by decide),
  fun v0 v1 v2 v3 v4 v5 x1 x2 st σ => q_go e5_126 rfl rfl,
  fun v0 v1 v2 v3 v4 v5 x20 a1 x2 x3 x4 a0 σ hc => q_invV (as := [.ref a1, .int x2, .int x3, .int x4]) (rest := .int x20 :: []) e5_127 o_5 bn_0_32 c_0_32 m_3 (by decide) rfl rfl (Nat.le_of_ble_eq_true rfl) (Nat.le_of_ble_eq_true rfl) hc,
  fun v0 v1 v2 v3 v4 v5 x1 x2 st σ => q_go e5_130 rfl rfl,
  fun v0 v1 v2 v3 v4 v5 x1 σ => q_iret e5_131 r_5,
  fun v1 v2 v3 v4 v5 a1 st σ => q_go e5_132 rfl rfl,
  fun v0 v2 v3 v4 v5 a1 st σ => q_go e5_133 rfl rfl,
  fun v0 v1 v3 v4 v5 x1 st σ => q_go e5_134 rfl rfl,
  fun v0 v1 v2 v3 v4 v5 a20 a21 x1 σ => q_invS (as := [.int x1]) (rest := .ref a20 :: .ref a21 :: []) e5_135 o_5 bn_0_28 c_0_28 ⟨m_89.1, m_89.2.1, m_89.2.2.1⟩ rfl rfl (Nat.le_of_ble_eq_true rfl) (Nat.le_of_ble_eq_true rfl),
  fun v0 v1 v2 v4 v5 x1 st σ => q_go e5_138 rfl rfl,
  fun v0 v1 v2 v3 v5 x1 st σ => q_go e5_139 rfl rfl,
  fun v0 v1 v2 v3 v4 v5 st σ => q_iconst e5_141 (by decide),
  fun v0 v1 v2 v3 v4 v5 x1 x2 st σ => q_go e5_142 rfl rfl,
  fun v0 v1 v2 v3 v4 v5 a1 x2 x3 x4 a0 σ hc => q_invV (as := [.ref a1, .int x2, .int x3, .int x4]) (rest := []) e5_143 o_5 bn_0_45 c_0_45 m_5 (by decide) rfl rfl (Nat.le_of_ble_eq_true rfl) (Nat.le_of_ble_eq_true rfl) hc,
  fun v0 v1 v2 v3 v4 v5 x1 σ => q_iret e5_146 r_5⟩
theorem E5 {ro : ma_RO} {d : Nat} (a0 : Nat) (a1 : Nat) (x2 : Int32) (x3 : Int32) (x4 : Int32) (sh : List ma_Sh) (σ : ma_H) : ma_ev ro d 5 [.ref a0, .ref a1, .int x2, .int x3, .int x4] sh σ = ma_rn ro d 5 (0, [some (.ref a0), some (.ref a1), some (.int x2), some (.int x3), some (.int x4), none], [], sh, σ) := q_ent x_5 rfl
theorem e7_0 : decode (ma_cd 7) 0 = .ok (.aload_n 0, 1) := (congrArg (fun b => decode b 0) cd_7).trans dX1_start_0
theorem e7_1 : decode (ma_cd 7) 1 = .ok (.iload_n 1, 1) := (congrArg (fun b => decode b 1) cd_7).trans dX1_start_1
theorem e7_2 : decode (ma_cd 7) 2 = .ok (.putfield 19, 3) := (congrArg (fun b => decode b 2) cd_7).trans dX1_start_2
theorem e7_5 : decode (ma_cd 7) 5 = .ok (.aload_n 0, 1) := (congrArg (fun b => decode b 5) cd_7).trans dX1_start_5
theorem e7_6 : decode (ma_cd 7) 6 = .ok (.iload_n 2, 1) := (congrArg (fun b => decode b 6) cd_7).trans dX1_start_6
theorem e7_7 : decode (ma_cd 7) 7 = .ok (.putfield 22, 3) := (congrArg (fun b => decode b 7) cd_7).trans dX1_start_7
theorem e7_10 : decode (ma_cd 7) 10 = .ok (.aload_n 0, 1) := (congrArg (fun b => decode b 10) cd_7).trans dX1_start_10
theorem e7_11 : decode (ma_cd 7) 11 = .ok (.iconst 0, 1) := (congrArg (fun b => decode b 11) cd_7).trans dX1_start_11
theorem e7_12 : decode (ma_cd 7) 12 = .ok (.putfield 25, 3) := (congrArg (fun b => decode b 12) cd_7).trans dX1_start_12
theorem e7_15 : decode (ma_cd 7) 15 = .ok (.aload_n 0, 1) := (congrArg (fun b => decode b 15) cd_7).trans dX1_start_15
theorem e7_16 : decode (ma_cd 7) 16 = .ok (.bipush 50, 2) := (congrArg (fun b => decode b 16) cd_7).trans dX1_start_16
theorem e7_18 : decode (ma_cd 7) 18 = .ok (.putfield 29, 3) := (congrArg (fun b => decode b 18) cd_7).trans dX1_start_18
theorem e7_21 : decode (ma_cd 7) 21 = .ok (.aload_n 0, 1) := (congrArg (fun b => decode b 21) cd_7).trans dX1_start_21
theorem e7_22 : decode (ma_cd 7) 22 = .ok (.iconst 0, 1) := (congrArg (fun b => decode b 22) cd_7).trans dX1_start_22
theorem e7_23 : decode (ma_cd 7) 23 = .ok (.putfield 32, 3) := (congrArg (fun b => decode b 23) cd_7).trans dX1_start_23
theorem e7_26 : decode (ma_cd 7) 26 = .ok (.aload_n 0, 1) := (congrArg (fun b => decode b 26) cd_7).trans dX1_start_26
theorem e7_27 : decode (ma_cd 7) 27 = .ok (.iconst 0, 1) := (congrArg (fun b => decode b 27) cd_7).trans dX1_start_27
theorem e7_28 : decode (ma_cd 7) 28 = .ok (.putfield 35, 3) := (congrArg (fun b => decode b 28) cd_7).trans dX1_start_28
theorem e7_31 : decode (ma_cd 7) 31 = .ok (.aload_n 0, 1) := (congrArg (fun b => decode b 31) cd_7).trans dX1_start_31
theorem e7_32 : decode (ma_cd 7) 32 = .ok (.iconst 0, 1) := (congrArg (fun b => decode b 32) cd_7).trans dX1_start_32
theorem e7_33 : decode (ma_cd 7) 33 = .ok (.putfield 38, 3) := (congrArg (fun b => decode b 33) cd_7).trans dX1_start_33
theorem e7_36 : decode (ma_cd 7) 36 = .ok (.iconst 0, 1) := (congrArg (fun b => decode b 36) cd_7).trans dX1_start_36
theorem e7_37 : decode (ma_cd 7) 37 = .ok (.istore_n 3, 1) := (congrArg (fun b => decode b 37) cd_7).trans dX1_start_37
theorem e7_38 : decode (ma_cd 7) 38 = .ok (.iload_n 3, 1) := (congrArg (fun b => decode b 38) cd_7).trans dX1_start_38
theorem e7_39 : decode (ma_cd 7) 39 = .ok (.aload_n 0, 1) := (congrArg (fun b => decode b 39) cd_7).trans dX1_start_39
theorem e7_40 : decode (ma_cd 7) 40 = .ok (.getfield 15, 3) := (congrArg (fun b => decode b 40) cd_7).trans dX1_start_40
theorem e7_43 : decode (ma_cd 7) 43 = .ok (.arraylength, 1) := (congrArg (fun b => decode b 43) cd_7).trans dX1_start_43
theorem e7_44 : decode (ma_cd 7) 44 = .ok (.if_icmp .ge 16, 3) := (congrArg (fun b => decode b 44) cd_7).trans dX1_start_44
theorem e7_47 : decode (ma_cd 7) 47 = .ok (.aload_n 0, 1) := (congrArg (fun b => decode b 47) cd_7).trans dX1_start_47
theorem e7_48 : decode (ma_cd 7) 48 = .ok (.getfield 15, 3) := (congrArg (fun b => decode b 48) cd_7).trans dX1_start_48
theorem e7_51 : decode (ma_cd 7) 51 = .ok (.iload_n 3, 1) := (congrArg (fun b => decode b 51) cd_7).trans dX1_start_51
theorem e7_52 : decode (ma_cd 7) 52 = .ok (.iconst 0, 1) := (congrArg (fun b => decode b 52) cd_7).trans dX1_start_52
theorem e7_53 : decode (ma_cd 7) 53 = .ok (.iastore, 1) := (congrArg (fun b => decode b 53) cd_7).trans dX1_start_53
theorem e7_54 : decode (ma_cd 7) 54 = .ok (.iinc 3 1, 3) := (congrArg (fun b => decode b 54) cd_7).trans dX1_start_54
theorem e7_57 : decode (ma_cd 7) 57 = .ok (.goto (-19), 3) := (congrArg (fun b => decode b 57) cd_7).trans dX1_start_57
theorem e7_60 : decode (ma_cd 7) 60 = .ok (.return_, 1) := (congrArg (fun b => decode b 60) cd_7).trans dX1_start_60
theorem Sh7_38 {ro : ma_RO} {d : Nat} : (∀ (v0 : Option Value) (v1 : Option Value) (v2 : Option Value) (x1 : Int32) (st : List Value) (σ : ma_H), ma_rn ro d 7 (38, [v0, v1, v2, some (.int x1)], st, SH, σ) = ma_rn ro d 7 (39, [v0, v1, v2, some (.int x1)], .int x1 :: st, SH, σ)) := fun v0 v1 v2 x1 st σ => q_go e7_38 rfl rfl
theorem S7 {ro : ma_RO} {d : Nat} : (∀ (v1 : Option Value) (v2 : Option Value) (v3 : Option Value) (a1 : Nat) (st : List Value) (σ : ma_H), ma_rn ro d 7 (0, [some (.ref a1), v1, v2, v3], st, SH, σ) = ma_rn ro d 7 (1, [some (.ref a1), v1, v2, v3], .ref a1 :: st, SH, σ)) ∧
  (∀ (v0 : Option Value) (v2 : Option Value) (v3 : Option Value) (x1 : Int32) (st : List Value) (σ : ma_H), ma_rn ro d 7 (1, [v0, some (.int x1), v2, v3], st, SH, σ) = ma_rn ro d 7 (2, [v0, some (.int x1), v2, v3], .int x1 :: st, SH, σ)) ∧
  (∀ (v0 : Option Value) (v1 : Option Value) (v2 : Option Value) (v3 : Option Value) (x1 : Int32) (a2 : Nat) (st : List Value) (σ : ma_H) (hc : hk_cls a2 = 1), ma_rn ro d 7 (2, [v0, v1, v2, v3], .int x1 :: .ref a2 :: st, SH, σ) = ma_rn ro d 7 (5, [v0, v1, v2, v3], st, SH, (ma_up σ a2 1 x1))) ∧
  (∀ (v1 : Option Value) (v2 : Option Value) (v3 : Option Value) (a1 : Nat) (st : List Value) (σ : ma_H), ma_rn ro d 7 (5, [some (.ref a1), v1, v2, v3], st, SH, σ) = ma_rn ro d 7 (6, [some (.ref a1), v1, v2, v3], .ref a1 :: st, SH, σ)) ∧
  (∀ (v0 : Option Value) (v1 : Option Value) (v3 : Option Value) (x1 : Int32) (st : List Value) (σ : ma_H), ma_rn ro d 7 (6, [v0, v1, some (.int x1), v3], st, SH, σ) = ma_rn ro d 7 (7, [v0, v1, some (.int x1), v3], .int x1 :: st, SH, σ)) ∧
  (∀ (v0 : Option Value) (v1 : Option Value) (v2 : Option Value) (v3 : Option Value) (x1 : Int32) (a2 : Nat) (st : List Value) (σ : ma_H) (hc : hk_cls a2 = 1), ma_rn ro d 7 (7, [v0, v1, v2, v3], .int x1 :: .ref a2 :: st, SH, σ) = ma_rn ro d 7 (10, [v0, v1, v2, v3], st, SH, (ma_up σ a2 2 x1))) ∧
  (∀ (v1 : Option Value) (v2 : Option Value) (v3 : Option Value) (a1 : Nat) (st : List Value) (σ : ma_H), ma_rn ro d 7 (10, [some (.ref a1), v1, v2, v3], st, SH, σ) = ma_rn ro d 7 (11, [some (.ref a1), v1, v2, v3], .ref a1 :: st, SH, σ)) ∧
  (∀ (v0 : Option Value) (v1 : Option Value) (v2 : Option Value) (v3 : Option Value) (st : List Value) (σ : ma_H), ma_rn ro d 7 (11, [v0, v1, v2, v3], st, SH, σ) = ma_rn ro d 7 (12, [v0, v1, v2, v3], .int (nI 0) :: st, SH, σ)) ∧
  (∀ (v0 : Option Value) (v1 : Option Value) (v2 : Option Value) (v3 : Option Value) (x1 : Int32) (a2 : Nat) (st : List Value) (σ : ma_H) (hx : ma_fitI .boolean x1 = true) (hc : hk_cls a2 = 1), ma_rn ro d 7 (12, [v0, v1, v2, v3], .int x1 :: .ref a2 :: st, SH, σ) = ma_rn ro d 7 (15, [v0, v1, v2, v3], st, SH, (ma_up σ a2 3 x1))) ∧
  (∀ (v1 : Option Value) (v2 : Option Value) (v3 : Option Value) (a1 : Nat) (st : List Value) (σ : ma_H), ma_rn ro d 7 (15, [some (.ref a1), v1, v2, v3], st, SH, σ) = ma_rn ro d 7 (16, [some (.ref a1), v1, v2, v3], .ref a1 :: st, SH, σ)) ∧
  (∀ (v0 : Option Value) (v1 : Option Value) (v2 : Option Value) (v3 : Option Value) (st : List Value) (σ : ma_H), ma_rn ro d 7 (16, [v0, v1, v2, v3], st, SH, σ) = ma_rn ro d 7 (18, [v0, v1, v2, v3], .int (nI 50) :: st, SH, σ)) ∧
  (∀ (v0 : Option Value) (v1 : Option Value) (v2 : Option Value) (v3 : Option Value) (x1 : Int32) (a2 : Nat) (st : List Value) (σ : ma_H) (hc : hk_cls a2 = 1), ma_rn ro d 7 (18, [v0, v1, v2, v3], .int x1 :: .ref a2 :: st, SH, σ) = ma_rn ro d 7 (21, [v0, v1, v2, v3], st, SH, (ma_up σ a2 4 x1))) ∧
  (∀ (v1 : Option Value) (v2 : Option Value) (v3 : Option Value) (a1 : Nat) (st : List Value) (σ : ma_H), ma_rn ro d 7 (21, [some (.ref a1), v1, v2, v3], st, SH, σ) = ma_rn ro d 7 (22, [some (.ref a1), v1, v2, v3], .ref a1 :: st, SH, σ)) ∧
  (∀ (v0 : Option Value) (v1 : Option Value) (v2 : Option Value) (v3 : Option Value) (st : List Value) (σ : ma_H), ma_rn ro d 7 (22, [v0, v1, v2, v3], st, SH, σ) = ma_rn ro d 7 (23, [v0, v1, v2, v3], .int (nI 0) :: st, SH, σ)) ∧
  (∀ (v0 : Option Value) (v1 : Option Value) (v2 : Option Value) (v3 : Option Value) (x1 : Int32) (a2 : Nat) (st : List Value) (σ : ma_H) (hc : hk_cls a2 = 1), ma_rn ro d 7 (23, [v0, v1, v2, v3], .int x1 :: .ref a2 :: st, SH, σ) = ma_rn ro d 7 (26, [v0, v1, v2, v3], st, SH, (ma_up σ a2 5 x1))) ∧
  (∀ (v1 : Option Value) (v2 : Option Value) (v3 : Option Value) (a1 : Nat) (st : List Value) (σ : ma_H), ma_rn ro d 7 (26, [some (.ref a1), v1, v2, v3], st, SH, σ) = ma_rn ro d 7 (27, [some (.ref a1), v1, v2, v3], .ref a1 :: st, SH, σ)) ∧
  (∀ (v0 : Option Value) (v1 : Option Value) (v2 : Option Value) (v3 : Option Value) (st : List Value) (σ : ma_H), ma_rn ro d 7 (27, [v0, v1, v2, v3], st, SH, σ) = ma_rn ro d 7 (28, [v0, v1, v2, v3], .int (nI 0) :: st, SH, σ)) ∧
  (∀ (v0 : Option Value) (v1 : Option Value) (v2 : Option Value) (v3 : Option Value) (x1 : Int32) (a2 : Nat) (st : List Value) (σ : ma_H) (hc : hk_cls a2 = 1), ma_rn ro d 7 (28, [v0, v1, v2, v3], .int x1 :: .ref a2 :: st, SH, σ) = ma_rn ro d 7 (31, [v0, v1, v2, v3], st, SH, (ma_up σ a2 6 x1))) ∧
  (∀ (v1 : Option Value) (v2 : Option Value) (v3 : Option Value) (a1 : Nat) (st : List Value) (σ : ma_H), ma_rn ro d 7 (31, [some (.ref a1), v1, v2, v3], st, SH, σ) = ma_rn ro d 7 (32, [some (.ref a1), v1, v2, v3], .ref a1 :: st, SH, σ)) ∧
  (∀ (v0 : Option Value) (v1 : Option Value) (v2 : Option Value) (v3 : Option Value) (st : List Value) (σ : ma_H), ma_rn ro d 7 (32, [v0, v1, v2, v3], st, SH, σ) = ma_rn ro d 7 (33, [v0, v1, v2, v3], .int (nI 0) :: st, SH, σ)) ∧
  (∀ (v0 : Option Value) (v1 : Option Value) (v2 : Option Value) (v3 : Option Value) (x1 : Int32) (a2 : Nat) (st : List Value) (σ : ma_H) (hc : hk_cls a2 = 1), ma_rn ro d 7 (33, [v0, v1, v2, v3], .int x1 :: .ref a2 :: st, SH, σ) = ma_rn ro d 7 (36, [v0, v1, v2, v3], st, SH, (ma_up σ a2 7 x1))) ∧
  (∀ (v0 : Option Value) (v1 : Option Value) (v2 : Option Value) (v3 : Option Value) (st : List Value) (σ : ma_H), ma_rn ro d 7 (36, [v0, v1, v2, v3], st, SH, σ) = ma_rn ro d 7 (37, [v0, v1, v2, v3], .int (nI 0) :: st, SH, σ)) ∧
  (∀ (v0 : Option Value) (v1 : Option Value) (v3 : Option Value) (x9 : Int32) (x1 : Int32) (st : List Value) (σ : ma_H), ma_rn ro d 7 (37, [v0, v1, some (.int x9), v3], .int x1 :: st, SH, σ) = ma_rn ro d 7 (38, [v0, v1, some (.int x9), some (.int x1)], st, SH, σ)) ∧
  (∀ (v1 : Option Value) (v2 : Option Value) (v3 : Option Value) (a1 : Nat) (st : List Value) (σ : ma_H), ma_rn ro d 7 (39, [some (.ref a1), v1, v2, v3], st, SH, σ) = ma_rn ro d 7 (40, [some (.ref a1), v1, v2, v3], .ref a1 :: st, SH, σ)) ∧
  (∀ (v0 : Option Value) (v1 : Option Value) (v2 : Option Value) (v3 : Option Value) (a1 : Nat) (st : List Value) (σ : ma_H) (hc : hk_cls a1 = 1), ma_rn ro d 7 (40, [v0, v1, v2, v3], .ref a1 :: st, SH, σ) = ma_rn ro d 7 (43, [v0, v1, v2, v3], .ref (a1 + 1) :: st, SH, σ)) ∧
  (∀ (v0 : Option Value) (v1 : Option Value) (v2 : Option Value) (v3 : Option Value) (a1 : Nat) (st : List Value) (σ : ma_H) (hn : 0 < hk_alen a1), ma_rn ro d 7 (43, [v0, v1, v2, v3], .ref a1 :: st, SH, σ) = ma_rn ro d 7 (44, [v0, v1, v2, v3], .int (nI (hk_alen a1)) :: st, SH, σ)) ∧
  (∀ (v0 : Option Value) (v1 : Option Value) (v2 : Option Value) (v3 : Option Value) (x1 : Int32) (x2 : Int32) (st : List Value) (σ : ma_H), ma_rn ro d 7 (44, [v0, v1, v2, v3], .int x1 :: .int x2 :: st, SH, σ) = if x2 < x1 then ma_rn ro d 7 (47, [v0, v1, v2, v3], st, SH, σ) else ma_rn ro d 7 (60, [v0, v1, v2, v3], st, SH, σ)) ∧
  (∀ (v1 : Option Value) (v2 : Option Value) (v3 : Option Value) (a1 : Nat) (st : List Value) (σ : ma_H), ma_rn ro d 7 (47, [some (.ref a1), v1, v2, v3], st, SH, σ) = ma_rn ro d 7 (48, [some (.ref a1), v1, v2, v3], .ref a1 :: st, SH, σ)) ∧
  (∀ (v0 : Option Value) (v1 : Option Value) (v2 : Option Value) (v3 : Option Value) (a1 : Nat) (st : List Value) (σ : ma_H) (hc : hk_cls a1 = 1), ma_rn ro d 7 (48, [v0, v1, v2, v3], .ref a1 :: st, SH, σ) = ma_rn ro d 7 (51, [v0, v1, v2, v3], .ref (a1 + 1) :: st, SH, σ)) ∧
  (∀ (v0 : Option Value) (v1 : Option Value) (v2 : Option Value) (x1 : Int32) (st : List Value) (σ : ma_H), ma_rn ro d 7 (51, [v0, v1, v2, some (.int x1)], st, SH, σ) = ma_rn ro d 7 (52, [v0, v1, v2, some (.int x1)], .int x1 :: st, SH, σ)) ∧
  (∀ (v0 : Option Value) (v1 : Option Value) (v2 : Option Value) (v3 : Option Value) (st : List Value) (σ : ma_H), ma_rn ro d 7 (52, [v0, v1, v2, v3], st, SH, σ) = ma_rn ro d 7 (53, [v0, v1, v2, v3], .int (nI 0) :: st, SH, σ)) ∧
  (∀ (v0 : Option Value) (v1 : Option Value) (v2 : Option Value) (v3 : Option Value) (x1 : Int32) (k : Nat) (a3 : Nat) (st : List Value) (σ : ma_H) (hk : k < hk_len a3), ma_rn ro d 7 (53, [v0, v1, v2, v3], .int x1 :: .int (nI k) :: .ref a3 :: st, SH, σ) = ma_rn ro d 7 (54, [v0, v1, v2, v3], st, SH, (ma_up σ a3 k x1))) ∧
  (∀ (v0 : Option Value) (v1 : Option Value) (x1 : Int32) (x9 : Int32) (st : List Value) (σ : ma_H), ma_rn ro d 7 (54, [v0, v1, some (.int x9), some (.int x1)], st, SH, σ) = ma_rn ro d 7 (57, [v0, v1, some (.int x9), some (.int (x1 + nI 1))], st, SH, σ)) ∧
  (∀ (v0 : Option Value) (v1 : Option Value) (v2 : Option Value) (v3 : Option Value) (st : List Value) (σ : ma_H), ma_rn ro d 7 (57, [v0, v1, v2, v3], st, SH, σ) = ma_rn ro d 7 (38, [v0, v1, v2, v3], st, SH, σ)) ∧
  (∀ (v0 : Option Value) (v1 : Option Value) (v2 : Option Value) (v3 : Option Value) (σ : ma_H), ma_rn ro d 7 (60, [v0, v1, v2, v3], [], SH, σ) = some (none, SH, σ)) := ⟨fun v1 v2 v3 a1 st σ => q_go e7_0 rfl rfl,
  fun v0 v2 v3 x1 st σ => q_go e7_1 rfl rfl,
  fun v0 v1 v2 v3 x1 a2 st σ hc => q_putI e7_2 o_7 f_1_19 (by decide) rfl hc,
  fun v1 v2 v3 a1 st σ => q_go e7_5 rfl rfl,
  fun v0 v1 v3 x1 st σ => q_go e7_6 rfl rfl,
  fun v0 v1 v2 v3 x1 a2 st σ hc => q_putI e7_7 o_7 f_1_22 (by decide) rfl hc,
  fun v1 v2 v3 a1 st σ => q_go e7_10 rfl rfl,
  fun v0 v1 v2 v3 st σ => q_iconst e7_11 (by decide),
  fun v0 v1 v2 v3 x1 a2 st σ hx hc => q_putI e7_12 o_7 f_1_25 (by decide) hx hc,
  fun v1 v2 v3 a1 st σ => q_go e7_15 rfl rfl,
  fun v0 v1 v2 v3 st σ => q_bipush e7_16 (by decide),
  fun v0 v1 v2 v3 x1 a2 st σ hc => q_putI e7_18 o_7 f_1_29 (by decide) rfl hc,
  fun v1 v2 v3 a1 st σ => q_go e7_21 rfl rfl,
  fun v0 v1 v2 v3 st σ => q_iconst e7_22 (by decide),
  fun v0 v1 v2 v3 x1 a2 st σ hc => q_putI e7_23 o_7 f_1_32 (by decide) rfl hc,
  fun v1 v2 v3 a1 st σ => q_go e7_26 rfl rfl,
  fun v0 v1 v2 v3 st σ => q_iconst e7_27 (by decide),
  fun v0 v1 v2 v3 x1 a2 st σ hc => q_putI e7_28 o_7 f_1_35 (by decide) rfl hc,
  fun v1 v2 v3 a1 st σ => q_go e7_31 rfl rfl,
  fun v0 v1 v2 v3 st σ => q_iconst e7_32 (by decide),
  fun v0 v1 v2 v3 x1 a2 st σ hc => q_putI e7_33 o_7 f_1_38 (by decide) rfl hc,
  fun v0 v1 v2 v3 st σ => q_iconst e7_36 (by decide),
  fun v0 v1 v3 x9 x1 st σ => q_go e7_37 rfl rfl,
  fun v1 v2 v3 a1 st σ => q_go e7_39 rfl rfl,
  fun v0 v1 v2 v3 a1 st σ hc => q_getA e7_40 o_7 f_1_15 (by decide) hc,
  fun v0 v1 v2 v3 a1 st σ hn => q_alen e7_43 rfl hn,
  fun v0 v1 v2 v3 x1 x2 st σ => (q_cmp e7_44 rfl).trans q_nlt,
  fun v1 v2 v3 a1 st σ => q_go e7_47 rfl rfl,
  fun v0 v1 v2 v3 a1 st σ hc => q_getA e7_48 o_7 f_1_15 (by decide) hc,
  fun v0 v1 v2 x1 st σ => q_go e7_51 rfl rfl,
  fun v0 v1 v2 v3 st σ => q_iconst e7_52 (by decide),
  fun v0 v1 v2 v3 x1 k a3 st σ hk => q_iast e7_53 hk,
  fun v0 v1 x1 x9 st σ => q_iinc e7_54 rfl rfl (by decide),
  fun v0 v1 v2 v3 st σ => q_goto e7_57 rfl,
  fun v0 v1 v2 v3 σ => q_vret e7_60 r_7⟩
theorem E7 {ro : ma_RO} {d : Nat} (a0 : Nat) (x1 : Int32) (x2 : Int32) (sh : List ma_Sh) (σ : ma_H) : ma_ev ro d 7 [.ref a0, .int x1, .int x2] sh σ = ma_rn ro d 7 (0, [some (.ref a0), some (.int x1), some (.int x2), none], [], sh, σ) := q_ent x_7 rfl
theorem e8_0 : decode (ma_cd 8) 0 = .ok (.aload_n 0, 1) := (congrArg (fun b => decode b 0) cd_8).trans dX1_copyFrom_0
theorem e8_1 : decode (ma_cd 8) 1 = .ok (.aload_n 1, 1) := (congrArg (fun b => decode b 1) cd_8).trans dX1_copyFrom_1
theorem e8_2 : decode (ma_cd 8) 2 = .ok (.getfield 9, 3) := (congrArg (fun b => decode b 2) cd_8).trans dX1_copyFrom_2
theorem e8_5 : decode (ma_cd 8) 5 = .ok (.putfield 9, 3) := (congrArg (fun b => decode b 5) cd_8).trans dX1_copyFrom_5
theorem e8_8 : decode (ma_cd 8) 8 = .ok (.aload_n 0, 1) := (congrArg (fun b => decode b 8) cd_8).trans dX1_copyFrom_8
theorem e8_9 : decode (ma_cd 8) 9 = .ok (.aload_n 1, 1) := (congrArg (fun b => decode b 9) cd_8).trans dX1_copyFrom_9
theorem e8_10 : decode (ma_cd 8) 10 = .ok (.getfield 19, 3) := (congrArg (fun b => decode b 10) cd_8).trans dX1_copyFrom_10
theorem e8_13 : decode (ma_cd 8) 13 = .ok (.putfield 19, 3) := (congrArg (fun b => decode b 13) cd_8).trans dX1_copyFrom_13
theorem e8_16 : decode (ma_cd 8) 16 = .ok (.aload_n 0, 1) := (congrArg (fun b => decode b 16) cd_8).trans dX1_copyFrom_16
theorem e8_17 : decode (ma_cd 8) 17 = .ok (.aload_n 1, 1) := (congrArg (fun b => decode b 17) cd_8).trans dX1_copyFrom_17
theorem e8_18 : decode (ma_cd 8) 18 = .ok (.getfield 22, 3) := (congrArg (fun b => decode b 18) cd_8).trans dX1_copyFrom_18
theorem e8_21 : decode (ma_cd 8) 21 = .ok (.putfield 22, 3) := (congrArg (fun b => decode b 21) cd_8).trans dX1_copyFrom_21
theorem e8_24 : decode (ma_cd 8) 24 = .ok (.aload_n 0, 1) := (congrArg (fun b => decode b 24) cd_8).trans dX1_copyFrom_24
theorem e8_25 : decode (ma_cd 8) 25 = .ok (.aload_n 1, 1) := (congrArg (fun b => decode b 25) cd_8).trans dX1_copyFrom_25
theorem e8_26 : decode (ma_cd 8) 26 = .ok (.getfield 25, 3) := (congrArg (fun b => decode b 26) cd_8).trans dX1_copyFrom_26
theorem e8_29 : decode (ma_cd 8) 29 = .ok (.putfield 25, 3) := (congrArg (fun b => decode b 29) cd_8).trans dX1_copyFrom_29
theorem e8_32 : decode (ma_cd 8) 32 = .ok (.aload_n 0, 1) := (congrArg (fun b => decode b 32) cd_8).trans dX1_copyFrom_32
theorem e8_33 : decode (ma_cd 8) 33 = .ok (.aload_n 1, 1) := (congrArg (fun b => decode b 33) cd_8).trans dX1_copyFrom_33
theorem e8_34 : decode (ma_cd 8) 34 = .ok (.getfield 29, 3) := (congrArg (fun b => decode b 34) cd_8).trans dX1_copyFrom_34
theorem e8_37 : decode (ma_cd 8) 37 = .ok (.putfield 29, 3) := (congrArg (fun b => decode b 37) cd_8).trans dX1_copyFrom_37
theorem e8_40 : decode (ma_cd 8) 40 = .ok (.aload_n 0, 1) := (congrArg (fun b => decode b 40) cd_8).trans dX1_copyFrom_40
theorem e8_41 : decode (ma_cd 8) 41 = .ok (.aload_n 1, 1) := (congrArg (fun b => decode b 41) cd_8).trans dX1_copyFrom_41
theorem e8_42 : decode (ma_cd 8) 42 = .ok (.getfield 32, 3) := (congrArg (fun b => decode b 42) cd_8).trans dX1_copyFrom_42
theorem e8_45 : decode (ma_cd 8) 45 = .ok (.putfield 32, 3) := (congrArg (fun b => decode b 45) cd_8).trans dX1_copyFrom_45
theorem e8_48 : decode (ma_cd 8) 48 = .ok (.aload_n 0, 1) := (congrArg (fun b => decode b 48) cd_8).trans dX1_copyFrom_48
theorem e8_49 : decode (ma_cd 8) 49 = .ok (.aload_n 1, 1) := (congrArg (fun b => decode b 49) cd_8).trans dX1_copyFrom_49
theorem e8_50 : decode (ma_cd 8) 50 = .ok (.getfield 35, 3) := (congrArg (fun b => decode b 50) cd_8).trans dX1_copyFrom_50
theorem e8_53 : decode (ma_cd 8) 53 = .ok (.putfield 35, 3) := (congrArg (fun b => decode b 53) cd_8).trans dX1_copyFrom_53
theorem e8_56 : decode (ma_cd 8) 56 = .ok (.aload_n 0, 1) := (congrArg (fun b => decode b 56) cd_8).trans dX1_copyFrom_56
theorem e8_57 : decode (ma_cd 8) 57 = .ok (.aload_n 1, 1) := (congrArg (fun b => decode b 57) cd_8).trans dX1_copyFrom_57
theorem e8_58 : decode (ma_cd 8) 58 = .ok (.getfield 38, 3) := (congrArg (fun b => decode b 58) cd_8).trans dX1_copyFrom_58
theorem e8_61 : decode (ma_cd 8) 61 = .ok (.putfield 38, 3) := (congrArg (fun b => decode b 61) cd_8).trans dX1_copyFrom_61
theorem e8_64 : decode (ma_cd 8) 64 = .ok (.aload_n 1, 1) := (congrArg (fun b => decode b 64) cd_8).trans dX1_copyFrom_64
theorem e8_65 : decode (ma_cd 8) 65 = .ok (.getfield 15, 3) := (congrArg (fun b => decode b 65) cd_8).trans dX1_copyFrom_65
theorem e8_68 : decode (ma_cd 8) 68 = .ok (.aload_n 0, 1) := (congrArg (fun b => decode b 68) cd_8).trans dX1_copyFrom_68
theorem e8_69 : decode (ma_cd 8) 69 = .ok (.getfield 15, 3) := (congrArg (fun b => decode b 69) cd_8).trans dX1_copyFrom_69
theorem e8_72 : decode (ma_cd 8) 72 = .ok (.invokestatic 41, 3) := (congrArg (fun b => decode b 72) cd_8).trans dX1_copyFrom_72
theorem e8_75 : decode (ma_cd 8) 75 = .ok (.return_, 1) := (congrArg (fun b => decode b 75) cd_8).trans dX1_copyFrom_75
theorem S8 {ro : ma_RO} {d : Nat} : (∀ (v1 : Option Value) (a1 : Nat) (st : List Value) (σ : ma_H), ma_rn ro d 8 (0, [some (.ref a1), v1], st, SH, σ) = ma_rn ro d 8 (1, [some (.ref a1), v1], .ref a1 :: st, SH, σ)) ∧
  (∀ (v0 : Option Value) (a1 : Nat) (st : List Value) (σ : ma_H), ma_rn ro d 8 (1, [v0, some (.ref a1)], st, SH, σ) = ma_rn ro d 8 (2, [v0, some (.ref a1)], .ref a1 :: st, SH, σ)) ∧
  (∀ (v0 : Option Value) (v1 : Option Value) (a1 : Nat) (st : List Value) (σ : ma_H) (hc : hk_cls a1 = 1), ma_rn ro d 8 (2, [v0, v1], .ref a1 :: st, SH, σ) = ma_rn ro d 8 (5, [v0, v1], .int (σ a1 0) :: st, SH, σ)) ∧
  (∀ (v0 : Option Value) (v1 : Option Value) (x1 : Int32) (a2 : Nat) (st : List Value) (σ : ma_H) (hc : hk_cls a2 = 1), ma_rn ro d 8 (5, [v0, v1], .int x1 :: .ref a2 :: st, SH, σ) = ma_rn ro d 8 (8, [v0, v1], st, SH, (ma_up σ a2 0 x1))) ∧
  (∀ (v1 : Option Value) (a1 : Nat) (st : List Value) (σ : ma_H), ma_rn ro d 8 (8, [some (.ref a1), v1], st, SH, σ) = ma_rn ro d 8 (9, [some (.ref a1), v1], .ref a1 :: st, SH, σ)) ∧
  (∀ (v0 : Option Value) (a1 : Nat) (st : List Value) (σ : ma_H), ma_rn ro d 8 (9, [v0, some (.ref a1)], st, SH, σ) = ma_rn ro d 8 (10, [v0, some (.ref a1)], .ref a1 :: st, SH, σ)) ∧
  (∀ (v0 : Option Value) (v1 : Option Value) (a1 : Nat) (st : List Value) (σ : ma_H) (hc : hk_cls a1 = 1), ma_rn ro d 8 (10, [v0, v1], .ref a1 :: st, SH, σ) = ma_rn ro d 8 (13, [v0, v1], .int (σ a1 1) :: st, SH, σ)) ∧
  (∀ (v0 : Option Value) (v1 : Option Value) (x1 : Int32) (a2 : Nat) (st : List Value) (σ : ma_H) (hc : hk_cls a2 = 1), ma_rn ro d 8 (13, [v0, v1], .int x1 :: .ref a2 :: st, SH, σ) = ma_rn ro d 8 (16, [v0, v1], st, SH, (ma_up σ a2 1 x1))) ∧
  (∀ (v1 : Option Value) (a1 : Nat) (st : List Value) (σ : ma_H), ma_rn ro d 8 (16, [some (.ref a1), v1], st, SH, σ) = ma_rn ro d 8 (17, [some (.ref a1), v1], .ref a1 :: st, SH, σ)) ∧
  (∀ (v0 : Option Value) (a1 : Nat) (st : List Value) (σ : ma_H), ma_rn ro d 8 (17, [v0, some (.ref a1)], st, SH, σ) = ma_rn ro d 8 (18, [v0, some (.ref a1)], .ref a1 :: st, SH, σ)) ∧
  (∀ (v0 : Option Value) (v1 : Option Value) (a1 : Nat) (st : List Value) (σ : ma_H) (hc : hk_cls a1 = 1), ma_rn ro d 8 (18, [v0, v1], .ref a1 :: st, SH, σ) = ma_rn ro d 8 (21, [v0, v1], .int (σ a1 2) :: st, SH, σ)) ∧
  (∀ (v0 : Option Value) (v1 : Option Value) (x1 : Int32) (a2 : Nat) (st : List Value) (σ : ma_H) (hc : hk_cls a2 = 1), ma_rn ro d 8 (21, [v0, v1], .int x1 :: .ref a2 :: st, SH, σ) = ma_rn ro d 8 (24, [v0, v1], st, SH, (ma_up σ a2 2 x1))) ∧
  (∀ (v1 : Option Value) (a1 : Nat) (st : List Value) (σ : ma_H), ma_rn ro d 8 (24, [some (.ref a1), v1], st, SH, σ) = ma_rn ro d 8 (25, [some (.ref a1), v1], .ref a1 :: st, SH, σ)) ∧
  (∀ (v0 : Option Value) (a1 : Nat) (st : List Value) (σ : ma_H), ma_rn ro d 8 (25, [v0, some (.ref a1)], st, SH, σ) = ma_rn ro d 8 (26, [v0, some (.ref a1)], .ref a1 :: st, SH, σ)) ∧
  (∀ (v0 : Option Value) (v1 : Option Value) (a1 : Nat) (st : List Value) (σ : ma_H) (hc : hk_cls a1 = 1), ma_rn ro d 8 (26, [v0, v1], .ref a1 :: st, SH, σ) = ma_rn ro d 8 (29, [v0, v1], .int (σ a1 3) :: st, SH, σ)) ∧
  (∀ (v0 : Option Value) (v1 : Option Value) (x1 : Int32) (a2 : Nat) (st : List Value) (σ : ma_H) (hx : ma_fitI .boolean x1 = true) (hc : hk_cls a2 = 1), ma_rn ro d 8 (29, [v0, v1], .int x1 :: .ref a2 :: st, SH, σ) = ma_rn ro d 8 (32, [v0, v1], st, SH, (ma_up σ a2 3 x1))) ∧
  (∀ (v1 : Option Value) (a1 : Nat) (st : List Value) (σ : ma_H), ma_rn ro d 8 (32, [some (.ref a1), v1], st, SH, σ) = ma_rn ro d 8 (33, [some (.ref a1), v1], .ref a1 :: st, SH, σ)) ∧
  (∀ (v0 : Option Value) (a1 : Nat) (st : List Value) (σ : ma_H), ma_rn ro d 8 (33, [v0, some (.ref a1)], st, SH, σ) = ma_rn ro d 8 (34, [v0, some (.ref a1)], .ref a1 :: st, SH, σ)) ∧
  (∀ (v0 : Option Value) (v1 : Option Value) (a1 : Nat) (st : List Value) (σ : ma_H) (hc : hk_cls a1 = 1), ma_rn ro d 8 (34, [v0, v1], .ref a1 :: st, SH, σ) = ma_rn ro d 8 (37, [v0, v1], .int (σ a1 4) :: st, SH, σ)) ∧
  (∀ (v0 : Option Value) (v1 : Option Value) (x1 : Int32) (a2 : Nat) (st : List Value) (σ : ma_H) (hc : hk_cls a2 = 1), ma_rn ro d 8 (37, [v0, v1], .int x1 :: .ref a2 :: st, SH, σ) = ma_rn ro d 8 (40, [v0, v1], st, SH, (ma_up σ a2 4 x1))) ∧
  (∀ (v1 : Option Value) (a1 : Nat) (st : List Value) (σ : ma_H), ma_rn ro d 8 (40, [some (.ref a1), v1], st, SH, σ) = ma_rn ro d 8 (41, [some (.ref a1), v1], .ref a1 :: st, SH, σ)) ∧
  (∀ (v0 : Option Value) (a1 : Nat) (st : List Value) (σ : ma_H), ma_rn ro d 8 (41, [v0, some (.ref a1)], st, SH, σ) = ma_rn ro d 8 (42, [v0, some (.ref a1)], .ref a1 :: st, SH, σ)) ∧
  (∀ (v0 : Option Value) (v1 : Option Value) (a1 : Nat) (st : List Value) (σ : ma_H) (hc : hk_cls a1 = 1), ma_rn ro d 8 (42, [v0, v1], .ref a1 :: st, SH, σ) = ma_rn ro d 8 (45, [v0, v1], .int (σ a1 5) :: st, SH, σ)) ∧
  (∀ (v0 : Option Value) (v1 : Option Value) (x1 : Int32) (a2 : Nat) (st : List Value) (σ : ma_H) (hc : hk_cls a2 = 1), ma_rn ro d 8 (45, [v0, v1], .int x1 :: .ref a2 :: st, SH, σ) = ma_rn ro d 8 (48, [v0, v1], st, SH, (ma_up σ a2 5 x1))) ∧
  (∀ (v1 : Option Value) (a1 : Nat) (st : List Value) (σ : ma_H), ma_rn ro d 8 (48, [some (.ref a1), v1], st, SH, σ) = ma_rn ro d 8 (49, [some (.ref a1), v1], .ref a1 :: st, SH, σ)) ∧
  (∀ (v0 : Option Value) (a1 : Nat) (st : List Value) (σ : ma_H), ma_rn ro d 8 (49, [v0, some (.ref a1)], st, SH, σ) = ma_rn ro d 8 (50, [v0, some (.ref a1)], .ref a1 :: st, SH, σ)) ∧
  (∀ (v0 : Option Value) (v1 : Option Value) (a1 : Nat) (st : List Value) (σ : ma_H) (hc : hk_cls a1 = 1), ma_rn ro d 8 (50, [v0, v1], .ref a1 :: st, SH, σ) = ma_rn ro d 8 (53, [v0, v1], .int (σ a1 6) :: st, SH, σ)) ∧
  (∀ (v0 : Option Value) (v1 : Option Value) (x1 : Int32) (a2 : Nat) (st : List Value) (σ : ma_H) (hc : hk_cls a2 = 1), ma_rn ro d 8 (53, [v0, v1], .int x1 :: .ref a2 :: st, SH, σ) = ma_rn ro d 8 (56, [v0, v1], st, SH, (ma_up σ a2 6 x1))) ∧
  (∀ (v1 : Option Value) (a1 : Nat) (st : List Value) (σ : ma_H), ma_rn ro d 8 (56, [some (.ref a1), v1], st, SH, σ) = ma_rn ro d 8 (57, [some (.ref a1), v1], .ref a1 :: st, SH, σ)) ∧
  (∀ (v0 : Option Value) (a1 : Nat) (st : List Value) (σ : ma_H), ma_rn ro d 8 (57, [v0, some (.ref a1)], st, SH, σ) = ma_rn ro d 8 (58, [v0, some (.ref a1)], .ref a1 :: st, SH, σ)) ∧
  (∀ (v0 : Option Value) (v1 : Option Value) (a1 : Nat) (st : List Value) (σ : ma_H) (hc : hk_cls a1 = 1), ma_rn ro d 8 (58, [v0, v1], .ref a1 :: st, SH, σ) = ma_rn ro d 8 (61, [v0, v1], .int (σ a1 7) :: st, SH, σ)) ∧
  (∀ (v0 : Option Value) (v1 : Option Value) (x1 : Int32) (a2 : Nat) (st : List Value) (σ : ma_H) (hc : hk_cls a2 = 1), ma_rn ro d 8 (61, [v0, v1], .int x1 :: .ref a2 :: st, SH, σ) = ma_rn ro d 8 (64, [v0, v1], st, SH, (ma_up σ a2 7 x1))) ∧
  (∀ (v0 : Option Value) (a1 : Nat) (st : List Value) (σ : ma_H), ma_rn ro d 8 (64, [v0, some (.ref a1)], st, SH, σ) = ma_rn ro d 8 (65, [v0, some (.ref a1)], .ref a1 :: st, SH, σ)) ∧
  (∀ (v0 : Option Value) (v1 : Option Value) (a1 : Nat) (st : List Value) (σ : ma_H) (hc : hk_cls a1 = 1), ma_rn ro d 8 (65, [v0, v1], .ref a1 :: st, SH, σ) = ma_rn ro d 8 (68, [v0, v1], .ref (a1 + 1) :: st, SH, σ)) ∧
  (∀ (v1 : Option Value) (a1 : Nat) (st : List Value) (σ : ma_H), ma_rn ro d 8 (68, [some (.ref a1), v1], st, SH, σ) = ma_rn ro d 8 (69, [some (.ref a1), v1], .ref a1 :: st, SH, σ)) ∧
  (∀ (v0 : Option Value) (v1 : Option Value) (a1 : Nat) (st : List Value) (σ : ma_H) (hc : hk_cls a1 = 1), ma_rn ro d 8 (69, [v0, v1], .ref a1 :: st, SH, σ) = ma_rn ro d 8 (72, [v0, v1], .ref (a1 + 1) :: st, SH, σ)) ∧
  (∀ (v0 : Option Value) (v1 : Option Value) (a1 : Nat) (a2 : Nat) (σ : ma_H), ma_rn ro (d + 1) 8 (72, [v0, v1], .ref a2 :: .ref a1 :: [], SH, σ) = (ma_ev ro d 91 [.ref a1, .ref a2] SH σ).bind (fun q => ma_rn ro (d + 1) 8 (75, [v0, v1], (q.1.toList ++ []), q.2.1, q.2.2))) ∧
  (∀ (v0 : Option Value) (v1 : Option Value) (σ : ma_H), ma_rn ro d 8 (75, [v0, v1], [], SH, σ) = some (none, SH, σ)) := ⟨fun v1 a1 st σ => q_go e8_0 rfl rfl,
  fun v0 a1 st σ => q_go e8_1 rfl rfl,
  fun v0 v1 a1 st σ hc => q_getI e8_2 o_8 f_1_9 (by decide) hc,
  fun v0 v1 x1 a2 st σ hc => q_putI e8_5 o_8 f_1_9 (by decide) rfl hc,
  fun v1 a1 st σ => q_go e8_8 rfl rfl,
  fun v0 a1 st σ => q_go e8_9 rfl rfl,
  fun v0 v1 a1 st σ hc => q_getI e8_10 o_8 f_1_19 (by decide) hc,
  fun v0 v1 x1 a2 st σ hc => q_putI e8_13 o_8 f_1_19 (by decide) rfl hc,
  fun v1 a1 st σ => q_go e8_16 rfl rfl,
  fun v0 a1 st σ => q_go e8_17 rfl rfl,
  fun v0 v1 a1 st σ hc => q_getI e8_18 o_8 f_1_22 (by decide) hc,
  fun v0 v1 x1 a2 st σ hc => q_putI e8_21 o_8 f_1_22 (by decide) rfl hc,
  fun v1 a1 st σ => q_go e8_24 rfl rfl,
  fun v0 a1 st σ => q_go e8_25 rfl rfl,
  fun v0 v1 a1 st σ hc => q_getI e8_26 o_8 f_1_25 (by decide) hc,
  fun v0 v1 x1 a2 st σ hx hc => q_putI e8_29 o_8 f_1_25 (by decide) hx hc,
  fun v1 a1 st σ => q_go e8_32 rfl rfl,
  fun v0 a1 st σ => q_go e8_33 rfl rfl,
  fun v0 v1 a1 st σ hc => q_getI e8_34 o_8 f_1_29 (by decide) hc,
  fun v0 v1 x1 a2 st σ hc => q_putI e8_37 o_8 f_1_29 (by decide) rfl hc,
  fun v1 a1 st σ => q_go e8_40 rfl rfl,
  fun v0 a1 st σ => q_go e8_41 rfl rfl,
  fun v0 v1 a1 st σ hc => q_getI e8_42 o_8 f_1_32 (by decide) hc,
  fun v0 v1 x1 a2 st σ hc => q_putI e8_45 o_8 f_1_32 (by decide) rfl hc,
  fun v1 a1 st σ => q_go e8_48 rfl rfl,
  fun v0 a1 st σ => q_go e8_49 rfl rfl,
  fun v0 v1 a1 st σ hc => q_getI e8_50 o_8 f_1_35 (by decide) hc,
  fun v0 v1 x1 a2 st σ hc => q_putI e8_53 o_8 f_1_35 (by decide) rfl hc,
  fun v1 a1 st σ => q_go e8_56 rfl rfl,
  fun v0 a1 st σ => q_go e8_57 rfl rfl,
  fun v0 v1 a1 st σ hc => q_getI e8_58 o_8 f_1_38 (by decide) hc,
  fun v0 v1 x1 a2 st σ hc => q_putI e8_61 o_8 f_1_38 (by decide) rfl hc,
  fun v0 a1 st σ => q_go e8_64 rfl rfl,
  fun v0 v1 a1 st σ hc => q_getA e8_65 o_8 f_1_15 (by decide) hc,
  fun v1 a1 st σ => q_go e8_68 rfl rfl,
  fun v0 v1 a1 st σ hc => q_getA e8_69 o_8 f_1_15 (by decide) hc,
  fun v0 v1 a1 a2 σ => q_invS (as := [.ref a1, .ref a2]) (rest := []) e8_72 o_8 bn_1_41 c_1_41 ⟨m_91.1, m_91.2.1, m_91.2.2.1⟩ rfl rfl (Nat.le_of_ble_eq_true rfl) (Nat.le_of_ble_eq_true rfl),
  fun v0 v1 σ => q_vret e8_75 r_8⟩
theorem E8 {ro : ma_RO} {d : Nat} (a0 : Nat) (a1 : Nat) (sh : List ma_Sh) (σ : ma_H) : ma_ev ro d 8 [.ref a0, .ref a1] sh σ = ma_rn ro d 8 (0, [some (.ref a0), some (.ref a1)], [], sh, σ) := q_ent x_8 rfl
theorem e9_0 : decode (ma_cd 9) 0 = .ok (.iload_n 1, 1) := (congrArg (fun b => decode b 0) cd_9).trans dX1_rowAt_0
theorem e9_1 : decode (ma_cd 9) 1 = .ok (.ifCond .lt 21, 3) := (congrArg (fun b => decode b 1) cd_9).trans dX1_rowAt_1
theorem e9_4 : decode (ma_cd 9) 4 = .ok (.iload_n 1, 1) := (congrArg (fun b => decode b 4) cd_9).trans dX1_rowAt_4
theorem e9_5 : decode (ma_cd 9) 5 = .ok (.aload_n 0, 1) := (congrArg (fun b => decode b 5) cd_9).trans dX1_rowAt_5
theorem e9_6 : decode (ma_cd 9) 6 = .ok (.getfield 15, 3) := (congrArg (fun b => decode b 6) cd_9).trans dX1_rowAt_6
theorem e9_9 : decode (ma_cd 9) 9 = .ok (.arraylength, 1) := (congrArg (fun b => decode b 9) cd_9).trans dX1_rowAt_9
theorem e9_10 : decode (ma_cd 9) 10 = .ok (.if_icmp .ge 12, 3) := (congrArg (fun b => decode b 10) cd_9).trans dX1_rowAt_10
theorem e9_13 : decode (ma_cd 9) 13 = .ok (.aload_n 0, 1) := (congrArg (fun b => decode b 13) cd_9).trans dX1_rowAt_13
theorem e9_14 : decode (ma_cd 9) 14 = .ok (.getfield 15, 3) := (congrArg (fun b => decode b 14) cd_9).trans dX1_rowAt_14
theorem e9_17 : decode (ma_cd 9) 17 = .ok (.iload_n 1, 1) := (congrArg (fun b => decode b 17) cd_9).trans dX1_rowAt_17
theorem e9_18 : decode (ma_cd 9) 18 = .ok (.iaload, 1) := (congrArg (fun b => decode b 18) cd_9).trans dX1_rowAt_18
theorem e9_19 : decode (ma_cd 9) 19 = .ok (.goto 4, 3) := (congrArg (fun b => decode b 19) cd_9).trans dX1_rowAt_19
theorem e9_22 : decode (ma_cd 9) 22 = .ok (.iconst 0, 1) := (congrArg (fun b => decode b 22) cd_9).trans dX1_rowAt_22
theorem e9_23 : decode (ma_cd 9) 23 = .ok (.ireturn, 1) := (congrArg (fun b => decode b 23) cd_9).trans dX1_rowAt_23
theorem S9 {ro : ma_RO} {d : Nat} : (∀ (v0 : Option Value) (x1 : Int32) (st : List Value) (σ : ma_H), ma_rn ro d 9 (0, [v0, some (.int x1)], st, SH, σ) = ma_rn ro d 9 (1, [v0, some (.int x1)], .int x1 :: st, SH, σ)) ∧
  (∀ (v0 : Option Value) (v1 : Option Value) (x1 : Int32) (st : List Value) (σ : ma_H), ma_rn ro d 9 (1, [v0, v1], .int x1 :: st, SH, σ) = if x1 < nI 0 then ma_rn ro d 9 (22, [v0, v1], st, SH, σ) else ma_rn ro d 9 (4, [v0, v1], st, SH, σ)) ∧
  (∀ (v0 : Option Value) (x1 : Int32) (st : List Value) (σ : ma_H), ma_rn ro d 9 (4, [v0, some (.int x1)], st, SH, σ) = ma_rn ro d 9 (5, [v0, some (.int x1)], .int x1 :: st, SH, σ)) ∧
  (∀ (v1 : Option Value) (a1 : Nat) (st : List Value) (σ : ma_H), ma_rn ro d 9 (5, [some (.ref a1), v1], st, SH, σ) = ma_rn ro d 9 (6, [some (.ref a1), v1], .ref a1 :: st, SH, σ)) ∧
  (∀ (v0 : Option Value) (v1 : Option Value) (a1 : Nat) (st : List Value) (σ : ma_H) (hc : hk_cls a1 = 1), ma_rn ro d 9 (6, [v0, v1], .ref a1 :: st, SH, σ) = ma_rn ro d 9 (9, [v0, v1], .ref (a1 + 1) :: st, SH, σ)) ∧
  (∀ (v0 : Option Value) (v1 : Option Value) (a1 : Nat) (st : List Value) (σ : ma_H) (hn : 0 < hk_alen a1), ma_rn ro d 9 (9, [v0, v1], .ref a1 :: st, SH, σ) = ma_rn ro d 9 (10, [v0, v1], .int (nI (hk_alen a1)) :: st, SH, σ)) ∧
  (∀ (v0 : Option Value) (v1 : Option Value) (x1 : Int32) (x2 : Int32) (st : List Value) (σ : ma_H), ma_rn ro d 9 (10, [v0, v1], .int x1 :: .int x2 :: st, SH, σ) = if x2 < x1 then ma_rn ro d 9 (13, [v0, v1], st, SH, σ) else ma_rn ro d 9 (22, [v0, v1], st, SH, σ)) ∧
  (∀ (v1 : Option Value) (a1 : Nat) (st : List Value) (σ : ma_H), ma_rn ro d 9 (13, [some (.ref a1), v1], st, SH, σ) = ma_rn ro d 9 (14, [some (.ref a1), v1], .ref a1 :: st, SH, σ)) ∧
  (∀ (v0 : Option Value) (v1 : Option Value) (a1 : Nat) (st : List Value) (σ : ma_H) (hc : hk_cls a1 = 1), ma_rn ro d 9 (14, [v0, v1], .ref a1 :: st, SH, σ) = ma_rn ro d 9 (17, [v0, v1], .ref (a1 + 1) :: st, SH, σ)) ∧
  (∀ (v0 : Option Value) (x1 : Int32) (st : List Value) (σ : ma_H), ma_rn ro d 9 (17, [v0, some (.int x1)], st, SH, σ) = ma_rn ro d 9 (18, [v0, some (.int x1)], .int x1 :: st, SH, σ)) ∧
  (∀ (v0 : Option Value) (v1 : Option Value) (k : Nat) (a2 : Nat) (st : List Value) (σ : ma_H) (hk : k < hk_len a2), ma_rn ro d 9 (18, [v0, v1], .int (nI k) :: .ref a2 :: st, SH, σ) = ma_rn ro d 9 (19, [v0, v1], .int (σ a2 k) :: st, SH, σ)) ∧
  (∀ (v0 : Option Value) (v1 : Option Value) (st : List Value) (σ : ma_H), ma_rn ro d 9 (19, [v0, v1], st, SH, σ) = ma_rn ro d 9 (23, [v0, v1], st, SH, σ)) ∧
  (∀ (v0 : Option Value) (v1 : Option Value) (st : List Value) (σ : ma_H), ma_rn ro d 9 (22, [v0, v1], st, SH, σ) = ma_rn ro d 9 (23, [v0, v1], .int (nI 0) :: st, SH, σ)) ∧
  (∀ (v0 : Option Value) (v1 : Option Value) (x1 : Int32) (σ : ma_H), ma_rn ro d 9 (23, [v0, v1], [.int x1], SH, σ) = some (some (.int x1), SH, σ)) := ⟨fun v0 x1 st σ => q_go e9_0 rfl rfl,
  fun v0 v1 x1 st σ => (q_if e9_1 rfl).trans q_lt,
  fun v0 x1 st σ => q_go e9_4 rfl rfl,
  fun v1 a1 st σ => q_go e9_5 rfl rfl,
  fun v0 v1 a1 st σ hc => q_getA e9_6 o_9 f_1_15 (by decide) hc,
  fun v0 v1 a1 st σ hn => q_alen e9_9 rfl hn,
  fun v0 v1 x1 x2 st σ => (q_cmp e9_10 rfl).trans q_nlt,
  fun v1 a1 st σ => q_go e9_13 rfl rfl,
  fun v0 v1 a1 st σ hc => q_getA e9_14 o_9 f_1_15 (by decide) hc,
  fun v0 x1 st σ => q_go e9_17 rfl rfl,
  fun v0 v1 k a2 st σ hk => q_iald e9_18 hk,
  fun v0 v1 st σ => q_goto e9_19 rfl,
  fun v0 v1 st σ => q_iconst e9_22 (by decide),
  fun v0 v1 x1 σ => q_iret e9_23 r_9⟩
theorem E9 {ro : ma_RO} {d : Nat} (a0 : Nat) (x1 : Int32) (sh : List ma_Sh) (σ : ma_H) : ma_ev ro d 9 [.ref a0, .int x1] sh σ = ma_rn ro d 9 (0, [some (.ref a0), some (.int x1)], [], sh, σ) := q_ent x_9 rfl
theorem e10_0 : decode (ma_cd 10) 0 = .ok (.iload_n 1, 1) := (congrArg (fun b => decode b 0) cd_10).trans dX1_setRow_0
theorem e10_1 : decode (ma_cd 10) 1 = .ok (.ifCond .lt 19, 3) := (congrArg (fun b => decode b 1) cd_10).trans dX1_setRow_1
theorem e10_4 : decode (ma_cd 10) 4 = .ok (.iload_n 1, 1) := (congrArg (fun b => decode b 4) cd_10).trans dX1_setRow_4
theorem e10_5 : decode (ma_cd 10) 5 = .ok (.aload_n 0, 1) := (congrArg (fun b => decode b 5) cd_10).trans dX1_setRow_5
theorem e10_6 : decode (ma_cd 10) 6 = .ok (.getfield 15, 3) := (congrArg (fun b => decode b 6) cd_10).trans dX1_setRow_6
theorem e10_9 : decode (ma_cd 10) 9 = .ok (.arraylength, 1) := (congrArg (fun b => decode b 9) cd_10).trans dX1_setRow_9
theorem e10_10 : decode (ma_cd 10) 10 = .ok (.if_icmp .ge 10, 3) := (congrArg (fun b => decode b 10) cd_10).trans dX1_setRow_10
theorem e10_13 : decode (ma_cd 10) 13 = .ok (.aload_n 0, 1) := (congrArg (fun b => decode b 13) cd_10).trans dX1_setRow_13
theorem e10_14 : decode (ma_cd 10) 14 = .ok (.getfield 15, 3) := (congrArg (fun b => decode b 14) cd_10).trans dX1_setRow_14
theorem e10_17 : decode (ma_cd 10) 17 = .ok (.iload_n 1, 1) := (congrArg (fun b => decode b 17) cd_10).trans dX1_setRow_17
theorem e10_18 : decode (ma_cd 10) 18 = .ok (.iload_n 2, 1) := (congrArg (fun b => decode b 18) cd_10).trans dX1_setRow_18
theorem e10_19 : decode (ma_cd 10) 19 = .ok (.iastore, 1) := (congrArg (fun b => decode b 19) cd_10).trans dX1_setRow_19
theorem e10_20 : decode (ma_cd 10) 20 = .ok (.return_, 1) := (congrArg (fun b => decode b 20) cd_10).trans dX1_setRow_20
theorem S10 {ro : ma_RO} {d : Nat} : (∀ (v0 : Option Value) (v2 : Option Value) (x1 : Int32) (st : List Value) (σ : ma_H), ma_rn ro d 10 (0, [v0, some (.int x1), v2], st, SH, σ) = ma_rn ro d 10 (1, [v0, some (.int x1), v2], .int x1 :: st, SH, σ)) ∧
  (∀ (v0 : Option Value) (v1 : Option Value) (v2 : Option Value) (x1 : Int32) (st : List Value) (σ : ma_H), ma_rn ro d 10 (1, [v0, v1, v2], .int x1 :: st, SH, σ) = if x1 < nI 0 then ma_rn ro d 10 (20, [v0, v1, v2], st, SH, σ) else ma_rn ro d 10 (4, [v0, v1, v2], st, SH, σ)) ∧
  (∀ (v0 : Option Value) (v2 : Option Value) (x1 : Int32) (st : List Value) (σ : ma_H), ma_rn ro d 10 (4, [v0, some (.int x1), v2], st, SH, σ) = ma_rn ro d 10 (5, [v0, some (.int x1), v2], .int x1 :: st, SH, σ)) ∧
  (∀ (v1 : Option Value) (v2 : Option Value) (a1 : Nat) (st : List Value) (σ : ma_H), ma_rn ro d 10 (5, [some (.ref a1), v1, v2], st, SH, σ) = ma_rn ro d 10 (6, [some (.ref a1), v1, v2], .ref a1 :: st, SH, σ)) ∧
  (∀ (v0 : Option Value) (v1 : Option Value) (v2 : Option Value) (a1 : Nat) (st : List Value) (σ : ma_H) (hc : hk_cls a1 = 1), ma_rn ro d 10 (6, [v0, v1, v2], .ref a1 :: st, SH, σ) = ma_rn ro d 10 (9, [v0, v1, v2], .ref (a1 + 1) :: st, SH, σ)) ∧
  (∀ (v0 : Option Value) (v1 : Option Value) (v2 : Option Value) (a1 : Nat) (st : List Value) (σ : ma_H) (hn : 0 < hk_alen a1), ma_rn ro d 10 (9, [v0, v1, v2], .ref a1 :: st, SH, σ) = ma_rn ro d 10 (10, [v0, v1, v2], .int (nI (hk_alen a1)) :: st, SH, σ)) ∧
  (∀ (v0 : Option Value) (v1 : Option Value) (v2 : Option Value) (x1 : Int32) (x2 : Int32) (st : List Value) (σ : ma_H), ma_rn ro d 10 (10, [v0, v1, v2], .int x1 :: .int x2 :: st, SH, σ) = if x2 < x1 then ma_rn ro d 10 (13, [v0, v1, v2], st, SH, σ) else ma_rn ro d 10 (20, [v0, v1, v2], st, SH, σ)) ∧
  (∀ (v1 : Option Value) (v2 : Option Value) (a1 : Nat) (st : List Value) (σ : ma_H), ma_rn ro d 10 (13, [some (.ref a1), v1, v2], st, SH, σ) = ma_rn ro d 10 (14, [some (.ref a1), v1, v2], .ref a1 :: st, SH, σ)) ∧
  (∀ (v0 : Option Value) (v1 : Option Value) (v2 : Option Value) (a1 : Nat) (st : List Value) (σ : ma_H) (hc : hk_cls a1 = 1), ma_rn ro d 10 (14, [v0, v1, v2], .ref a1 :: st, SH, σ) = ma_rn ro d 10 (17, [v0, v1, v2], .ref (a1 + 1) :: st, SH, σ)) ∧
  (∀ (v0 : Option Value) (v2 : Option Value) (x1 : Int32) (st : List Value) (σ : ma_H), ma_rn ro d 10 (17, [v0, some (.int x1), v2], st, SH, σ) = ma_rn ro d 10 (18, [v0, some (.int x1), v2], .int x1 :: st, SH, σ)) ∧
  (∀ (v0 : Option Value) (v1 : Option Value) (x1 : Int32) (st : List Value) (σ : ma_H), ma_rn ro d 10 (18, [v0, v1, some (.int x1)], st, SH, σ) = ma_rn ro d 10 (19, [v0, v1, some (.int x1)], .int x1 :: st, SH, σ)) ∧
  (∀ (v0 : Option Value) (v1 : Option Value) (v2 : Option Value) (x1 : Int32) (k : Nat) (a3 : Nat) (st : List Value) (σ : ma_H) (hk : k < hk_len a3), ma_rn ro d 10 (19, [v0, v1, v2], .int x1 :: .int (nI k) :: .ref a3 :: st, SH, σ) = ma_rn ro d 10 (20, [v0, v1, v2], st, SH, (ma_up σ a3 k x1))) ∧
  (∀ (v0 : Option Value) (v1 : Option Value) (v2 : Option Value) (σ : ma_H), ma_rn ro d 10 (20, [v0, v1, v2], [], SH, σ) = some (none, SH, σ)) := ⟨fun v0 v2 x1 st σ => q_go e10_0 rfl rfl,
  fun v0 v1 v2 x1 st σ => (q_if e10_1 rfl).trans q_lt,
  fun v0 v2 x1 st σ => q_go e10_4 rfl rfl,
  fun v1 v2 a1 st σ => q_go e10_5 rfl rfl,
  fun v0 v1 v2 a1 st σ hc => q_getA e10_6 o_10 f_1_15 (by decide) hc,
  fun v0 v1 v2 a1 st σ hn => q_alen e10_9 rfl hn,
  fun v0 v1 v2 x1 x2 st σ => (q_cmp e10_10 rfl).trans q_nlt,
  fun v1 v2 a1 st σ => q_go e10_13 rfl rfl,
  fun v0 v1 v2 a1 st σ hc => q_getA e10_14 o_10 f_1_15 (by decide) hc,
  fun v0 v2 x1 st σ => q_go e10_17 rfl rfl,
  fun v0 v1 x1 st σ => q_go e10_18 rfl rfl,
  fun v0 v1 v2 x1 k a3 st σ hk => q_iast e10_19 hk,
  fun v0 v1 v2 σ => q_vret e10_20 r_10⟩
theorem E10 {ro : ma_RO} {d : Nat} (a0 : Nat) (x1 : Int32) (x2 : Int32) (sh : List ma_Sh) (σ : ma_H) : ma_ev ro d 10 [.ref a0, .int x1, .int x2] sh σ = ma_rn ro d 10 (0, [some (.ref a0), some (.int x1), some (.int x2)], [], sh, σ) := q_ent x_10 rfl
theorem e11_0 : decode (ma_cd 11) 0 = .ok (.aload_n 1, 1) := (congrArg (fun b => decode b 0) cd_11).trans dX1_care_0
theorem e11_1 : decode (ma_cd 11) 1 = .ok (.aload_n 0, 1) := (congrArg (fun b => decode b 1) cd_11).trans dX1_care_1
theorem e11_2 : decode (ma_cd 11) 2 = .ok (.iload_n 2, 1) := (congrArg (fun b => decode b 2) cd_11).trans dX1_care_2
theorem e11_3 : decode (ma_cd 11) 3 = .ok (.invokevirtual 45, 3) := (congrArg (fun b => decode b 3) cd_11).trans dX1_care_3
theorem e11_6 : decode (ma_cd 11) 6 = .ok (.istore_n 3, 1) := (congrArg (fun b => decode b 6) cd_11).trans dX1_care_6
theorem e11_7 : decode (ma_cd 11) 7 = .ok (.aload_n 0, 1) := (congrArg (fun b => decode b 7) cd_11).trans dX1_care_7
theorem e11_8 : decode (ma_cd 11) 8 = .ok (.getfield 19, 3) := (congrArg (fun b => decode b 8) cd_11).trans dX1_care_8
theorem e11_11 : decode (ma_cd 11) 11 = .ok (.tableswitch 105 1 6 #[37, 44, 48, 58, 78, 87], 37) := (congrArg (fun b => decode b 11) cd_11).trans dX1_care_11
theorem e11_48 : decode (ma_cd 11) 48 = .ok (.iload_n 3, 1) := (congrArg (fun b => decode b 48) cd_11).trans dX1_care_48
theorem e11_49 : decode (ma_cd 11) 49 = .ok (.aload_n 0, 1) := (congrArg (fun b => decode b 49) cd_11).trans dX1_care_49
theorem e11_50 : decode (ma_cd 11) 50 = .ok (.getfield 22, 3) := (congrArg (fun b => decode b 50) cd_11).trans dX1_care_50
theorem e11_53 : decode (ma_cd 11) 53 = .ok (.iadd, 1) := (congrArg (fun b => decode b 53) cd_11).trans dX1_care_53
theorem e11_54 : decode (ma_cd 11) 54 = .ok (.ireturn, 1) := (congrArg (fun b => decode b 54) cd_11).trans dX1_care_54
theorem e11_55 : decode (ma_cd 11) 55 = .ok (.iload_n 3, 1) := (congrArg (fun b => decode b 55) cd_11).trans dX1_care_55
theorem e11_56 : decode (ma_cd 11) 56 = .ok (.iconst 2, 1) := (congrArg (fun b => decode b 56) cd_11).trans dX1_care_56
theorem e11_57 : decode (ma_cd 11) 57 = .ok (.idiv, 1) := (congrArg (fun b => decode b 57) cd_11).trans dX1_care_57
theorem e11_58 : decode (ma_cd 11) 58 = .ok (.ireturn, 1) := (congrArg (fun b => decode b 58) cd_11).trans dX1_care_58
theorem e11_59 : decode (ma_cd 11) 59 = .ok (.iload_n 3, 1) := (congrArg (fun b => decode b 59) cd_11).trans dX1_care_59
theorem e11_60 : decode (ma_cd 11) 60 = .ok (.aload_n 0, 1) := (congrArg (fun b => decode b 60) cd_11).trans dX1_care_60
theorem e11_61 : decode (ma_cd 11) 61 = .ok (.getfield 32, 3) := (congrArg (fun b => decode b 61) cd_11).trans dX1_care_61
theorem e11_64 : decode (ma_cd 11) 64 = .ok (.bipush 10, 2) := (congrArg (fun b => decode b 64) cd_11).trans dX1_care_64
theorem e11_66 : decode (ma_cd 11) 66 = .ok (.idiv, 1) := (congrArg (fun b => decode b 66) cd_11).trans dX1_care_66
theorem e11_67 : decode (ma_cd 11) 67 = .ok (.isub, 1) := (congrArg (fun b => decode b 67) cd_11).trans dX1_care_67
theorem e11_68 : decode (ma_cd 11) 68 = .ok (.ireturn, 1) := (congrArg (fun b => decode b 68) cd_11).trans dX1_care_68
theorem e11_69 : decode (ma_cd 11) 69 = .ok (.iload_n 2, 1) := (congrArg (fun b => decode b 69) cd_11).trans dX1_care_69
theorem e11_70 : decode (ma_cd 11) 70 = .ok (.bipush 7, 2) := (congrArg (fun b => decode b 70) cd_11).trans dX1_care_70
theorem e11_72 : decode (ma_cd 11) 72 = .ok (.irem, 1) := (congrArg (fun b => decode b 72) cd_11).trans dX1_care_72
theorem e11_73 : decode (ma_cd 11) 73 = .ok (.bipush 6, 2) := (congrArg (fun b => decode b 73) cd_11).trans dX1_care_73
theorem e11_75 : decode (ma_cd 11) 75 = .ok (.if_icmp .ne 7, 3) := (congrArg (fun b => decode b 75) cd_11).trans dX1_care_75
theorem e11_78 : decode (ma_cd 11) 78 = .ok (.iconst 0, 1) := (congrArg (fun b => decode b 78) cd_11).trans dX1_care_78
theorem e11_79 : decode (ma_cd 11) 79 = .ok (.goto 9, 3) := (congrArg (fun b => decode b 79) cd_11).trans dX1_care_79
theorem e11_82 : decode (ma_cd 11) 82 = .ok (.iload_n 3, 1) := (congrArg (fun b => decode b 82) cd_11).trans dX1_care_82
theorem e11_83 : decode (ma_cd 11) 83 = .ok (.aload_n 0, 1) := (congrArg (fun b => decode b 83) cd_11).trans dX1_care_83
theorem e11_84 : decode (ma_cd 11) 84 = .ok (.getfield 22, 3) := (congrArg (fun b => decode b 84) cd_11).trans dX1_care_84
theorem e11_87 : decode (ma_cd 11) 87 = .ok (.iadd, 1) := (congrArg (fun b => decode b 87) cd_11).trans dX1_care_87
theorem e11_88 : decode (ma_cd 11) 88 = .ok (.ireturn, 1) := (congrArg (fun b => decode b 88) cd_11).trans dX1_care_88
theorem e11_89 : decode (ma_cd 11) 89 = .ok (.iload_n 3, 1) := (congrArg (fun b => decode b 89) cd_11).trans dX1_care_89
theorem e11_90 : decode (ma_cd 11) 90 = .ok (.iconst 2, 1) := (congrArg (fun b => decode b 90) cd_11).trans dX1_care_90
theorem e11_91 : decode (ma_cd 11) 91 = .ok (.idiv, 1) := (congrArg (fun b => decode b 91) cd_11).trans dX1_care_91
theorem e11_92 : decode (ma_cd 11) 92 = .ok (.aload_n 0, 1) := (congrArg (fun b => decode b 92) cd_11).trans dX1_care_92
theorem e11_93 : decode (ma_cd 11) 93 = .ok (.getfield 35, 3) := (congrArg (fun b => decode b 93) cd_11).trans dX1_care_93
theorem e11_96 : decode (ma_cd 11) 96 = .ok (.iadd, 1) := (congrArg (fun b => decode b 96) cd_11).trans dX1_care_96
theorem e11_97 : decode (ma_cd 11) 97 = .ok (.ireturn, 1) := (congrArg (fun b => decode b 97) cd_11).trans dX1_care_97
theorem e11_98 : decode (ma_cd 11) 98 = .ok (.iload_n 3, 1) := (congrArg (fun b => decode b 98) cd_11).trans dX1_care_98
theorem e11_99 : decode (ma_cd 11) 99 = .ok (.aload_n 0, 1) := (congrArg (fun b => decode b 99) cd_11).trans dX1_care_99
theorem e11_100 : decode (ma_cd 11) 100 = .ok (.getfield 32, 3) := (congrArg (fun b => decode b 100) cd_11).trans dX1_care_100
theorem e11_103 : decode (ma_cd 11) 103 = .ok (.bipush 10, 2) := (congrArg (fun b => decode b 103) cd_11).trans dX1_care_103
theorem e11_105 : decode (ma_cd 11) 105 = .ok (.idiv, 1) := (congrArg (fun b => decode b 105) cd_11).trans dX1_care_105
theorem e11_106 : decode (ma_cd 11) 106 = .ok (.isub, 1) := (congrArg (fun b => decode b 106) cd_11).trans dX1_care_106
theorem e11_107 : decode (ma_cd 11) 107 = .ok (.aload_n 0, 1) := (congrArg (fun b => decode b 107) cd_11).trans dX1_care_107
theorem e11_108 : decode (ma_cd 11) 108 = .ok (.iload_n 2, 1) := (congrArg (fun b => decode b 108) cd_11).trans dX1_care_108
theorem e11_109 : decode (ma_cd 11) 109 = .ok (.iconst 4, 1) := (congrArg (fun b => decode b 109) cd_11).trans dX1_care_109
theorem e11_110 : decode (ma_cd 11) 110 = .ok (.irem, 1) := (congrArg (fun b => decode b 110) cd_11).trans dX1_care_110
theorem e11_111 : decode (ma_cd 11) 111 = .ok (.invokevirtual 51, 3) := (congrArg (fun b => decode b 111) cd_11).trans dX1_care_111
theorem e11_114 : decode (ma_cd 11) 114 = .ok (.iadd, 1) := (congrArg (fun b => decode b 114) cd_11).trans dX1_care_114
theorem e11_115 : decode (ma_cd 11) 115 = .ok (.ireturn, 1) := (congrArg (fun b => decode b 115) cd_11).trans dX1_care_115
theorem e11_116 : decode (ma_cd 11) 116 = .ok (.iload_n 3, 1) := (congrArg (fun b => decode b 116) cd_11).trans dX1_care_116
theorem e11_117 : decode (ma_cd 11) 117 = .ok (.ireturn, 1) := (congrArg (fun b => decode b 117) cd_11).trans dX1_care_117
theorem S11 {ro : ma_RO} {d : Nat} : (∀ (v0 : Option Value) (v2 : Option Value) (v3 : Option Value) (a1 : Nat) (st : List Value) (σ : ma_H), ma_rn ro d 11 (0, [v0, some (.ref a1), v2, v3], st, SH, σ) = ma_rn ro d 11 (1, [v0, some (.ref a1), v2, v3], .ref a1 :: st, SH, σ)) ∧
  (∀ (v1 : Option Value) (v2 : Option Value) (v3 : Option Value) (a1 : Nat) (st : List Value) (σ : ma_H), ma_rn ro d 11 (1, [some (.ref a1), v1, v2, v3], st, SH, σ) = ma_rn ro d 11 (2, [some (.ref a1), v1, v2, v3], .ref a1 :: st, SH, σ)) ∧
  (∀ (v0 : Option Value) (v1 : Option Value) (v3 : Option Value) (x1 : Int32) (st : List Value) (σ : ma_H), ma_rn ro d 11 (2, [v0, v1, some (.int x1), v3], st, SH, σ) = ma_rn ro d 11 (3, [v0, v1, some (.int x1), v3], .int x1 :: st, SH, σ)) ∧
  (∀ (v0 : Option Value) (v1 : Option Value) (v2 : Option Value) (v3 : Option Value) (a1 : Nat) (x2 : Int32) (a0 : Nat) (σ : ma_H) (hc : hk_cls a0 = 2), ma_rn ro (d + 1) 11 (3, [v0, v1, v2, v3], .int x2 :: .ref a1 :: .ref a0 :: [], SH, σ) = (ma_ev ro d 22 [.ref a0, .ref a1, .int x2] SH σ).bind (fun q => ma_rn ro (d + 1) 11 (6, [v0, v1, v2, v3], (q.1.toList ++ []), q.2.1, q.2.2))) ∧
  (∀ (v0 : Option Value) (v1 : Option Value) (v3 : Option Value) (x9 : Int32) (x1 : Int32) (st : List Value) (σ : ma_H), ma_rn ro d 11 (6, [v0, v1, some (.int x9), v3], .int x1 :: st, SH, σ) = ma_rn ro d 11 (7, [v0, v1, some (.int x9), some (.int x1)], st, SH, σ)) ∧
  (∀ (v1 : Option Value) (v2 : Option Value) (v3 : Option Value) (a1 : Nat) (st : List Value) (σ : ma_H), ma_rn ro d 11 (7, [some (.ref a1), v1, v2, v3], st, SH, σ) = ma_rn ro d 11 (8, [some (.ref a1), v1, v2, v3], .ref a1 :: st, SH, σ)) ∧
  (∀ (v0 : Option Value) (v1 : Option Value) (v2 : Option Value) (v3 : Option Value) (a1 : Nat) (st : List Value) (σ : ma_H) (hc : hk_cls a1 = 1), ma_rn ro d 11 (8, [v0, v1, v2, v3], .ref a1 :: st, SH, σ) = ma_rn ro d 11 (11, [v0, v1, v2, v3], .int (σ a1 1) :: st, SH, σ)) ∧
  (∀ (v0 : Option Value) (v1 : Option Value) (v2 : Option Value) (v3 : Option Value) (x1 : Int32) (st : List Value) (σ : ma_H), ma_rn ro d 11 (11, [v0, v1, v2, v3], .int x1 :: st, SH, σ) = if x1 = nI 1 then ma_rn ro d 11 (48, [v0, v1, v2, v3], st, SH, σ) else if x1 = nI 2 then ma_rn ro d 11 (55, [v0, v1, v2, v3], st, SH, σ) else if x1 = nI 3 then ma_rn ro d 11 (59, [v0, v1, v2, v3], st, SH, σ) else if x1 = nI 4 then ma_rn ro d 11 (69, [v0, v1, v2, v3], st, SH, σ) else if x1 = nI 5 then ma_rn ro d 11 (89, [v0, v1, v2, v3], st, SH, σ) else if x1 = nI 6 then ma_rn ro d 11 (98, [v0, v1, v2, v3], st, SH, σ) else ma_rn ro d 11 (116, [v0, v1, v2, v3], st, SH, σ)) ∧
  (∀ (v0 : Option Value) (v1 : Option Value) (v2 : Option Value) (x1 : Int32) (st : List Value) (σ : ma_H), ma_rn ro d 11 (48, [v0, v1, v2, some (.int x1)], st, SH, σ) = ma_rn ro d 11 (49, [v0, v1, v2, some (.int x1)], .int x1 :: st, SH, σ)) ∧
  (∀ (v1 : Option Value) (v2 : Option Value) (v3 : Option Value) (a1 : Nat) (st : List Value) (σ : ma_H), ma_rn ro d 11 (49, [some (.ref a1), v1, v2, v3], st, SH, σ) = ma_rn ro d 11 (50, [some (.ref a1), v1, v2, v3], .ref a1 :: st, SH, σ)) ∧
  (∀ (v0 : Option Value) (v1 : Option Value) (v2 : Option Value) (v3 : Option Value) (a1 : Nat) (st : List Value) (σ : ma_H) (hc : hk_cls a1 = 1), ma_rn ro d 11 (50, [v0, v1, v2, v3], .ref a1 :: st, SH, σ) = ma_rn ro d 11 (53, [v0, v1, v2, v3], .int (σ a1 2) :: st, SH, σ)) ∧
  (∀ (v0 : Option Value) (v1 : Option Value) (v2 : Option Value) (v3 : Option Value) (x1 : Int32) (x2 : Int32) (st : List Value) (σ : ma_H), ma_rn ro d 11 (53, [v0, v1, v2, v3], .int x1 :: .int x2 :: st, SH, σ) = ma_rn ro d 11 (54, [v0, v1, v2, v3], .int (x2 + x1) :: st, SH, σ)) ∧
  (∀ (v0 : Option Value) (v1 : Option Value) (v2 : Option Value) (v3 : Option Value) (x1 : Int32) (σ : ma_H), ma_rn ro d 11 (54, [v0, v1, v2, v3], [.int x1], SH, σ) = some (some (.int x1), SH, σ)) ∧
  (∀ (v0 : Option Value) (v1 : Option Value) (v2 : Option Value) (x1 : Int32) (st : List Value) (σ : ma_H), ma_rn ro d 11 (55, [v0, v1, v2, some (.int x1)], st, SH, σ) = ma_rn ro d 11 (56, [v0, v1, v2, some (.int x1)], .int x1 :: st, SH, σ)) ∧
  (∀ (v0 : Option Value) (v1 : Option Value) (v2 : Option Value) (v3 : Option Value) (st : List Value) (σ : ma_H), ma_rn ro d 11 (56, [v0, v1, v2, v3], st, SH, σ) = ma_rn ro d 11 (57, [v0, v1, v2, v3], .int (nI 2) :: st, SH, σ)) ∧
  (∀ (v0 : Option Value) (v1 : Option Value) (v2 : Option Value) (v3 : Option Value) (x1 : Int32) (x2 : Int32) (st : List Value) (σ : ma_H) (hy : ¬ x1 = 0), ma_rn ro d 11 (57, [v0, v1, v2, v3], .int x1 :: .int x2 :: st, SH, σ) = ma_rn ro d 11 (58, [v0, v1, v2, v3], .int (x2 / x1) :: st, SH, σ)) ∧
  (∀ (v0 : Option Value) (v1 : Option Value) (v2 : Option Value) (v3 : Option Value) (x1 : Int32) (σ : ma_H), ma_rn ro d 11 (58, [v0, v1, v2, v3], [.int x1], SH, σ) = some (some (.int x1), SH, σ)) ∧
  (∀ (v0 : Option Value) (v1 : Option Value) (v2 : Option Value) (x1 : Int32) (st : List Value) (σ : ma_H), ma_rn ro d 11 (59, [v0, v1, v2, some (.int x1)], st, SH, σ) = ma_rn ro d 11 (60, [v0, v1, v2, some (.int x1)], .int x1 :: st, SH, σ)) ∧
  (∀ (v1 : Option Value) (v2 : Option Value) (v3 : Option Value) (a1 : Nat) (st : List Value) (σ : ma_H), ma_rn ro d 11 (60, [some (.ref a1), v1, v2, v3], st, SH, σ) = ma_rn ro d 11 (61, [some (.ref a1), v1, v2, v3], .ref a1 :: st, SH, σ)) ∧
  (∀ (v0 : Option Value) (v1 : Option Value) (v2 : Option Value) (v3 : Option Value) (a1 : Nat) (st : List Value) (σ : ma_H) (hc : hk_cls a1 = 1), ma_rn ro d 11 (61, [v0, v1, v2, v3], .ref a1 :: st, SH, σ) = ma_rn ro d 11 (64, [v0, v1, v2, v3], .int (σ a1 5) :: st, SH, σ)) ∧
  (∀ (v0 : Option Value) (v1 : Option Value) (v2 : Option Value) (v3 : Option Value) (st : List Value) (σ : ma_H), ma_rn ro d 11 (64, [v0, v1, v2, v3], st, SH, σ) = ma_rn ro d 11 (66, [v0, v1, v2, v3], .int (nI 10) :: st, SH, σ)) ∧
  (∀ (v0 : Option Value) (v1 : Option Value) (v2 : Option Value) (v3 : Option Value) (x1 : Int32) (x2 : Int32) (st : List Value) (σ : ma_H) (hy : ¬ x1 = 0), ma_rn ro d 11 (66, [v0, v1, v2, v3], .int x1 :: .int x2 :: st, SH, σ) = ma_rn ro d 11 (67, [v0, v1, v2, v3], .int (x2 / x1) :: st, SH, σ)) ∧
  (∀ (v0 : Option Value) (v1 : Option Value) (v2 : Option Value) (v3 : Option Value) (x1 : Int32) (x2 : Int32) (st : List Value) (σ : ma_H), ma_rn ro d 11 (67, [v0, v1, v2, v3], .int x1 :: .int x2 :: st, SH, σ) = ma_rn ro d 11 (68, [v0, v1, v2, v3], .int (x2 - x1) :: st, SH, σ)) ∧
  (∀ (v0 : Option Value) (v1 : Option Value) (v2 : Option Value) (v3 : Option Value) (x1 : Int32) (σ : ma_H), ma_rn ro d 11 (68, [v0, v1, v2, v3], [.int x1], SH, σ) = some (some (.int x1), SH, σ)) ∧
  (∀ (v0 : Option Value) (v1 : Option Value) (v3 : Option Value) (x1 : Int32) (st : List Value) (σ : ma_H), ma_rn ro d 11 (69, [v0, v1, some (.int x1), v3], st, SH, σ) = ma_rn ro d 11 (70, [v0, v1, some (.int x1), v3], .int x1 :: st, SH, σ)) ∧
  (∀ (v0 : Option Value) (v1 : Option Value) (v2 : Option Value) (v3 : Option Value) (st : List Value) (σ : ma_H), ma_rn ro d 11 (70, [v0, v1, v2, v3], st, SH, σ) = ma_rn ro d 11 (72, [v0, v1, v2, v3], .int (nI 7) :: st, SH, σ)) ∧
  (∀ (v0 : Option Value) (v1 : Option Value) (v2 : Option Value) (v3 : Option Value) (x1 : Int32) (x2 : Int32) (st : List Value) (σ : ma_H) (hy : ¬ x1 = 0), ma_rn ro d 11 (72, [v0, v1, v2, v3], .int x1 :: .int x2 :: st, SH, σ) = ma_rn ro d 11 (73, [v0, v1, v2, v3], .int (x2 - x2 / x1 * x1) :: st, SH, σ)) ∧
  (∀ (v0 : Option Value) (v1 : Option Value) (v2 : Option Value) (v3 : Option Value) (st : List Value) (σ : ma_H), ma_rn ro d 11 (73, [v0, v1, v2, v3], st, SH, σ) = ma_rn ro d 11 (75, [v0, v1, v2, v3], .int (nI 6) :: st, SH, σ)) ∧
  (∀ (v0 : Option Value) (v1 : Option Value) (v2 : Option Value) (v3 : Option Value) (x1 : Int32) (x2 : Int32) (st : List Value) (σ : ma_H), ma_rn ro d 11 (75, [v0, v1, v2, v3], .int x1 :: .int x2 :: st, SH, σ) = if x2 = x1 then ma_rn ro d 11 (78, [v0, v1, v2, v3], st, SH, σ) else ma_rn ro d 11 (82, [v0, v1, v2, v3], st, SH, σ)) ∧
  (∀ (v0 : Option Value) (v1 : Option Value) (v2 : Option Value) (v3 : Option Value) (st : List Value) (σ : ma_H), ma_rn ro d 11 (78, [v0, v1, v2, v3], st, SH, σ) = ma_rn ro d 11 (79, [v0, v1, v2, v3], .int (nI 0) :: st, SH, σ)) ∧
  (∀ (v0 : Option Value) (v1 : Option Value) (v2 : Option Value) (v3 : Option Value) (st : List Value) (σ : ma_H), ma_rn ro d 11 (79, [v0, v1, v2, v3], st, SH, σ) = ma_rn ro d 11 (88, [v0, v1, v2, v3], st, SH, σ)) ∧
  (∀ (v0 : Option Value) (v1 : Option Value) (v2 : Option Value) (x1 : Int32) (st : List Value) (σ : ma_H), ma_rn ro d 11 (82, [v0, v1, v2, some (.int x1)], st, SH, σ) = ma_rn ro d 11 (83, [v0, v1, v2, some (.int x1)], .int x1 :: st, SH, σ)) ∧
  (∀ (v1 : Option Value) (v2 : Option Value) (v3 : Option Value) (a1 : Nat) (st : List Value) (σ : ma_H), ma_rn ro d 11 (83, [some (.ref a1), v1, v2, v3], st, SH, σ) = ma_rn ro d 11 (84, [some (.ref a1), v1, v2, v3], .ref a1 :: st, SH, σ)) ∧
  (∀ (v0 : Option Value) (v1 : Option Value) (v2 : Option Value) (v3 : Option Value) (a1 : Nat) (st : List Value) (σ : ma_H) (hc : hk_cls a1 = 1), ma_rn ro d 11 (84, [v0, v1, v2, v3], .ref a1 :: st, SH, σ) = ma_rn ro d 11 (87, [v0, v1, v2, v3], .int (σ a1 2) :: st, SH, σ)) ∧
  (∀ (v0 : Option Value) (v1 : Option Value) (v2 : Option Value) (v3 : Option Value) (x1 : Int32) (x2 : Int32) (st : List Value) (σ : ma_H), ma_rn ro d 11 (87, [v0, v1, v2, v3], .int x1 :: .int x2 :: st, SH, σ) = ma_rn ro d 11 (88, [v0, v1, v2, v3], .int (x2 + x1) :: st, SH, σ)) ∧
  (∀ (v0 : Option Value) (v1 : Option Value) (v2 : Option Value) (v3 : Option Value) (x1 : Int32) (σ : ma_H), ma_rn ro d 11 (88, [v0, v1, v2, v3], [.int x1], SH, σ) = some (some (.int x1), SH, σ)) ∧
  (∀ (v0 : Option Value) (v1 : Option Value) (v2 : Option Value) (x1 : Int32) (st : List Value) (σ : ma_H), ma_rn ro d 11 (89, [v0, v1, v2, some (.int x1)], st, SH, σ) = ma_rn ro d 11 (90, [v0, v1, v2, some (.int x1)], .int x1 :: st, SH, σ)) ∧
  (∀ (v0 : Option Value) (v1 : Option Value) (v2 : Option Value) (v3 : Option Value) (st : List Value) (σ : ma_H), ma_rn ro d 11 (90, [v0, v1, v2, v3], st, SH, σ) = ma_rn ro d 11 (91, [v0, v1, v2, v3], .int (nI 2) :: st, SH, σ)) ∧
  (∀ (v0 : Option Value) (v1 : Option Value) (v2 : Option Value) (v3 : Option Value) (x1 : Int32) (x2 : Int32) (st : List Value) (σ : ma_H) (hy : ¬ x1 = 0), ma_rn ro d 11 (91, [v0, v1, v2, v3], .int x1 :: .int x2 :: st, SH, σ) = ma_rn ro d 11 (92, [v0, v1, v2, v3], .int (x2 / x1) :: st, SH, σ)) ∧
  (∀ (v1 : Option Value) (v2 : Option Value) (v3 : Option Value) (a1 : Nat) (st : List Value) (σ : ma_H), ma_rn ro d 11 (92, [some (.ref a1), v1, v2, v3], st, SH, σ) = ma_rn ro d 11 (93, [some (.ref a1), v1, v2, v3], .ref a1 :: st, SH, σ)) ∧
  (∀ (v0 : Option Value) (v1 : Option Value) (v2 : Option Value) (v3 : Option Value) (a1 : Nat) (st : List Value) (σ : ma_H) (hc : hk_cls a1 = 1), ma_rn ro d 11 (93, [v0, v1, v2, v3], .ref a1 :: st, SH, σ) = ma_rn ro d 11 (96, [v0, v1, v2, v3], .int (σ a1 6) :: st, SH, σ)) ∧
  (∀ (v0 : Option Value) (v1 : Option Value) (v2 : Option Value) (v3 : Option Value) (x1 : Int32) (x2 : Int32) (st : List Value) (σ : ma_H), ma_rn ro d 11 (96, [v0, v1, v2, v3], .int x1 :: .int x2 :: st, SH, σ) = ma_rn ro d 11 (97, [v0, v1, v2, v3], .int (x2 + x1) :: st, SH, σ)) ∧
  (∀ (v0 : Option Value) (v1 : Option Value) (v2 : Option Value) (v3 : Option Value) (x1 : Int32) (σ : ma_H), ma_rn ro d 11 (97, [v0, v1, v2, v3], [.int x1], SH, σ) = some (some (.int x1), SH, σ)) ∧
  (∀ (v0 : Option Value) (v1 : Option Value) (v2 : Option Value) (x1 : Int32) (st : List Value) (σ : ma_H), ma_rn ro d 11 (98, [v0, v1, v2, some (.int x1)], st, SH, σ) = ma_rn ro d 11 (99, [v0, v1, v2, some (.int x1)], .int x1 :: st, SH, σ)) ∧
  (∀ (v1 : Option Value) (v2 : Option Value) (v3 : Option Value) (a1 : Nat) (st : List Value) (σ : ma_H), ma_rn ro d 11 (99, [some (.ref a1), v1, v2, v3], st, SH, σ) = ma_rn ro d 11 (100, [some (.ref a1), v1, v2, v3], .ref a1 :: st, SH, σ)) ∧
  (∀ (v0 : Option Value) (v1 : Option Value) (v2 : Option Value) (v3 : Option Value) (a1 : Nat) (st : List Value) (σ : ma_H) (hc : hk_cls a1 = 1), ma_rn ro d 11 (100, [v0, v1, v2, v3], .ref a1 :: st, SH, σ) = ma_rn ro d 11 (103, [v0, v1, v2, v3], .int (σ a1 5) :: st, SH, σ)) ∧
  (∀ (v0 : Option Value) (v1 : Option Value) (v2 : Option Value) (v3 : Option Value) (st : List Value) (σ : ma_H), ma_rn ro d 11 (103, [v0, v1, v2, v3], st, SH, σ) = ma_rn ro d 11 (105, [v0, v1, v2, v3], .int (nI 10) :: st, SH, σ)) ∧
  (∀ (v0 : Option Value) (v1 : Option Value) (v2 : Option Value) (v3 : Option Value) (x1 : Int32) (x2 : Int32) (st : List Value) (σ : ma_H) (hy : ¬ x1 = 0), ma_rn ro d 11 (105, [v0, v1, v2, v3], .int x1 :: .int x2 :: st, SH, σ) = ma_rn ro d 11 (106, [v0, v1, v2, v3], .int (x2 / x1) :: st, SH, σ)) ∧
  (∀ (v0 : Option Value) (v1 : Option Value) (v2 : Option Value) (v3 : Option Value) (x1 : Int32) (x2 : Int32) (st : List Value) (σ : ma_H), ma_rn ro d 11 (106, [v0, v1, v2, v3], .int x1 :: .int x2 :: st, SH, σ) = ma_rn ro d 11 (107, [v0, v1, v2, v3], .int (x2 - x1) :: st, SH, σ)) ∧
  (∀ (v1 : Option Value) (v2 : Option Value) (v3 : Option Value) (a1 : Nat) (st : List Value) (σ : ma_H), ma_rn ro d 11 (107, [some (.ref a1), v1, v2, v3], st, SH, σ) = ma_rn ro d 11 (108, [some (.ref a1), v1, v2, v3], .ref a1 :: st, SH, σ)) ∧
  (∀ (v0 : Option Value) (v1 : Option Value) (v3 : Option Value) (x1 : Int32) (st : List Value) (σ : ma_H), ma_rn ro d 11 (108, [v0, v1, some (.int x1), v3], st, SH, σ) = ma_rn ro d 11 (109, [v0, v1, some (.int x1), v3], .int x1 :: st, SH, σ)) ∧
  (∀ (v0 : Option Value) (v1 : Option Value) (v2 : Option Value) (v3 : Option Value) (st : List Value) (σ : ma_H), ma_rn ro d 11 (109, [v0, v1, v2, v3], st, SH, σ) = ma_rn ro d 11 (110, [v0, v1, v2, v3], .int (nI 4) :: st, SH, σ)) ∧
  (∀ (v0 : Option Value) (v1 : Option Value) (v2 : Option Value) (v3 : Option Value) (x1 : Int32) (x2 : Int32) (st : List Value) (σ : ma_H) (hy : ¬ x1 = 0), ma_rn ro d 11 (110, [v0, v1, v2, v3], .int x1 :: .int x2 :: st, SH, σ) = ma_rn ro d 11 (111, [v0, v1, v2, v3], .int (x2 - x2 / x1 * x1) :: st, SH, σ)) ∧
  (∀ (v0 : Option Value) (v1 : Option Value) (v2 : Option Value) (v3 : Option Value) (x20 : Int32) (x1 : Int32) (a0 : Nat) (σ : ma_H) (hc : hk_cls a0 = 1), ma_rn ro (d + 1) 11 (111, [v0, v1, v2, v3], .int x1 :: .ref a0 :: .int x20 :: [], SH, σ) = (ma_ev ro d 9 [.ref a0, .int x1] SH σ).bind (fun q => ma_rn ro (d + 1) 11 (114, [v0, v1, v2, v3], (q.1.toList ++ (.int x20 :: [])), q.2.1, q.2.2))) ∧
  (∀ (v0 : Option Value) (v1 : Option Value) (v2 : Option Value) (v3 : Option Value) (x1 : Int32) (x2 : Int32) (st : List Value) (σ : ma_H), ma_rn ro d 11 (114, [v0, v1, v2, v3], .int x1 :: .int x2 :: st, SH, σ) = ma_rn ro d 11 (115, [v0, v1, v2, v3], .int (x2 + x1) :: st, SH, σ)) ∧
  (∀ (v0 : Option Value) (v1 : Option Value) (v2 : Option Value) (v3 : Option Value) (x1 : Int32) (σ : ma_H), ma_rn ro d 11 (115, [v0, v1, v2, v3], [.int x1], SH, σ) = some (some (.int x1), SH, σ)) ∧
  (∀ (v0 : Option Value) (v1 : Option Value) (v2 : Option Value) (x1 : Int32) (st : List Value) (σ : ma_H), ma_rn ro d 11 (116, [v0, v1, v2, some (.int x1)], st, SH, σ) = ma_rn ro d 11 (117, [v0, v1, v2, some (.int x1)], .int x1 :: st, SH, σ)) ∧
  (∀ (v0 : Option Value) (v1 : Option Value) (v2 : Option Value) (v3 : Option Value) (x1 : Int32) (σ : ma_H), ma_rn ro d 11 (117, [v0, v1, v2, v3], [.int x1], SH, σ) = some (some (.int x1), SH, σ)) := ⟨fun v0 v2 v3 a1 st σ => q_go e11_0 rfl rfl,
  fun v1 v2 v3 a1 st σ => q_go e11_1 rfl rfl,
  fun v0 v1 v3 x1 st σ => q_go e11_2 rfl rfl,
  fun v0 v1 v2 v3 a1 x2 a0 σ hc => q_invV (as := [.ref a1, .int x2]) (rest := []) e11_3 o_11 bn_1_45 c_1_45 m_22 (by decide) rfl rfl (Nat.le_of_ble_eq_true rfl) (Nat.le_of_ble_eq_true rfl) hc,
  fun v0 v1 v3 x9 x1 st σ => q_go e11_6 rfl rfl,
  fun v1 v2 v3 a1 st σ => q_go e11_7 rfl rfl,
  fun v0 v1 v2 v3 a1 st σ hc => q_getI e11_8 o_11 f_1_19 (by decide) hc,
  fun v0 v1 v2 v3 x1 st σ => by
    by_cases h0 : x1 = nI 1
    · rw [if_pos h0]; exact q_tswIn e11_11 h0 (k := 1) (by decide) (by decide) (by decide) rfl rfl
    rw [if_neg h0]
    by_cases h1 : x1 = nI 2
    · rw [if_pos h1]; exact q_tswIn e11_11 h1 (k := 2) (by decide) (by decide) (by decide) rfl rfl
    rw [if_neg h1]
    by_cases h2 : x1 = nI 3
    · rw [if_pos h2]; exact q_tswIn e11_11 h2 (k := 3) (by decide) (by decide) (by decide) rfl rfl
    rw [if_neg h2]
    by_cases h3 : x1 = nI 4
    · rw [if_pos h3]; exact q_tswIn e11_11 h3 (k := 4) (by decide) (by decide) (by decide) rfl rfl
    rw [if_neg h3]
    by_cases h4 : x1 = nI 5
    · rw [if_pos h4]; exact q_tswIn e11_11 h4 (k := 5) (by decide) (by decide) (by decide) rfl rfl
    rw [if_neg h4]
    by_cases h5 : x1 = nI 6
    · rw [if_pos h5]; exact q_tswIn e11_11 h5 (k := 6) (by decide) (by decide) (by decide) rfl rfl
    rw [if_neg h5]
    have g0 := q_nnI h0 (by decide)
    have g1 := q_nnI h1 (by decide)
    have g2 := q_nnI h2 (by decide)
    have g3 := q_nnI h3 (by decide)
    have g4 := q_nnI h4 (by decide)
    have g5 := q_nnI h5 (by decide)
    exact q_tswOut e11_11 (by omega) rfl,
  fun v0 v1 v2 x1 st σ => q_go e11_48 rfl rfl,
  fun v1 v2 v3 a1 st σ => q_go e11_49 rfl rfl,
  fun v0 v1 v2 v3 a1 st σ hc => q_getI e11_50 o_11 f_1_22 (by decide) hc,
  fun v0 v1 v2 v3 x1 x2 st σ => q_go e11_53 rfl rfl,
  fun v0 v1 v2 v3 x1 σ => q_iret e11_54 r_11,
  fun v0 v1 v2 x1 st σ => q_go e11_55 rfl rfl,
  fun v0 v1 v2 v3 st σ => q_iconst e11_56 (by decide),
  fun v0 v1 v2 v3 x1 x2 st σ hy => q_idiv e11_57 hy,
  fun v0 v1 v2 v3 x1 σ => q_iret e11_58 r_11,
  fun v0 v1 v2 x1 st σ => q_go e11_59 rfl rfl,
  fun v1 v2 v3 a1 st σ => q_go e11_60 rfl rfl,
  fun v0 v1 v2 v3 a1 st σ hc => q_getI e11_61 o_11 f_1_32 (by decide) hc,
  fun v0 v1 v2 v3 st σ => q_bipush e11_64 (by decide),
  fun v0 v1 v2 v3 x1 x2 st σ hy => q_idiv e11_66 hy,
  fun v0 v1 v2 v3 x1 x2 st σ => q_go e11_67 rfl rfl,
  fun v0 v1 v2 v3 x1 σ => q_iret e11_68 r_11,
  fun v0 v1 v3 x1 st σ => q_go e11_69 rfl rfl,
  fun v0 v1 v2 v3 st σ => q_bipush e11_70 (by decide),
  fun v0 v1 v2 v3 x1 x2 st σ hy => q_irem e11_72 hy,
  fun v0 v1 v2 v3 st σ => q_bipush e11_73 (by decide),
  fun v0 v1 v2 v3 x1 x2 st σ => (q_cmp e11_75 rfl).trans q_ne,
  fun v0 v1 v2 v3 st σ => q_iconst e11_78 (by decide),
  fun v0 v1 v2 v3 st σ => q_goto e11_79 rfl,
  fun v0 v1 v2 x1 st σ => q_go e11_82 rfl rfl,
  fun v1 v2 v3 a1 st σ => q_go e11_83 rfl rfl,
  fun v0 v1 v2 v3 a1 st σ hc => q_getI e11_84 o_11 f_1_22 (by decide) hc,
  fun v0 v1 v2 v3 x1 x2 st σ => q_go e11_87 rfl rfl,
  fun v0 v1 v2 v3 x1 σ => q_iret e11_88 r_11,
  fun v0 v1 v2 x1 st σ => q_go e11_89 rfl rfl,
  fun v0 v1 v2 v3 st σ => q_iconst e11_90 (by decide),
  fun v0 v1 v2 v3 x1 x2 st σ hy => q_idiv e11_91 hy,
  fun v1 v2 v3 a1 st σ => q_go e11_92 rfl rfl,
  fun v0 v1 v2 v3 a1 st σ hc => q_getI e11_93 o_11 f_1_35 (by decide) hc,
  fun v0 v1 v2 v3 x1 x2 st σ => q_go e11_96 rfl rfl,
  fun v0 v1 v2 v3 x1 σ => q_iret e11_97 r_11,
  fun v0 v1 v2 x1 st σ => q_go e11_98 rfl rfl,
  fun v1 v2 v3 a1 st σ => q_go e11_99 rfl rfl,
  fun v0 v1 v2 v3 a1 st σ hc => q_getI e11_100 o_11 f_1_32 (by decide) hc,
  fun v0 v1 v2 v3 st σ => q_bipush e11_103 (by decide),
  fun v0 v1 v2 v3 x1 x2 st σ hy => q_idiv e11_105 hy,
  fun v0 v1 v2 v3 x1 x2 st σ => q_go e11_106 rfl rfl,
  fun v1 v2 v3 a1 st σ => q_go e11_107 rfl rfl,
  fun v0 v1 v3 x1 st σ => q_go e11_108 rfl rfl,
  fun v0 v1 v2 v3 st σ => q_iconst e11_109 (by decide),
  fun v0 v1 v2 v3 x1 x2 st σ hy => q_irem e11_110 hy,
  fun v0 v1 v2 v3 x20 x1 a0 σ hc => q_invV (as := [.int x1]) (rest := .int x20 :: []) e11_111 o_11 bn_1_51 c_1_51 m_9 (by decide) rfl rfl (Nat.le_of_ble_eq_true rfl) (Nat.le_of_ble_eq_true rfl) hc,
  fun v0 v1 v2 v3 x1 x2 st σ => q_go e11_114 rfl rfl,
  fun v0 v1 v2 v3 x1 σ => q_iret e11_115 r_11,
  fun v0 v1 v2 x1 st σ => q_go e11_116 rfl rfl,
  fun v0 v1 v2 v3 x1 σ => q_iret e11_117 r_11⟩
theorem E11 {ro : ma_RO} {d : Nat} (a0 : Nat) (a1 : Nat) (x2 : Int32) (sh : List ma_Sh) (σ : ma_H) : ma_ev ro d 11 [.ref a0, .ref a1, .int x2] sh σ = ma_rn ro d 11 (0, [some (.ref a0), some (.ref a1), some (.int x2), none], [], sh, σ) := q_ent x_11 rfl
theorem e12_0 : decode (ma_cd 12) 0 = .ok (.aload_n 0, 1) := (congrArg (fun b => decode b 0) cd_12).trans dX1_goMorning_0
theorem e12_1 : decode (ma_cd 12) 1 = .ok (.iload_n 1, 1) := (congrArg (fun b => decode b 1) cd_12).trans dX1_goMorning_1
theorem e12_2 : decode (ma_cd 12) 2 = .ok (.iload_n 2, 1) := (congrArg (fun b => decode b 2) cd_12).trans dX1_goMorning_2
theorem e12_3 : decode (ma_cd 12) 3 = .ok (.if_icmp .ge 7, 3) := (congrArg (fun b => decode b 3) cd_12).trans dX1_goMorning_3
theorem e12_6 : decode (ma_cd 12) 6 = .ok (.iconst 1, 1) := (congrArg (fun b => decode b 6) cd_12).trans dX1_goMorning_6
theorem e12_7 : decode (ma_cd 12) 7 = .ok (.goto 4, 3) := (congrArg (fun b => decode b 7) cd_12).trans dX1_goMorning_7
theorem e12_10 : decode (ma_cd 12) 10 = .ok (.iconst 0, 1) := (congrArg (fun b => decode b 10) cd_12).trans dX1_goMorning_10
theorem e12_11 : decode (ma_cd 12) 11 = .ok (.putfield 25, 3) := (congrArg (fun b => decode b 11) cd_12).trans dX1_goMorning_11
theorem e12_14 : decode (ma_cd 12) 14 = .ok (.aload_n 0, 1) := (congrArg (fun b => decode b 14) cd_12).trans dX1_goMorning_14
theorem e12_15 : decode (ma_cd 12) 15 = .ok (.getfield 25, 3) := (congrArg (fun b => decode b 15) cd_12).trans dX1_goMorning_15
theorem e12_18 : decode (ma_cd 12) 18 = .ok (.ifCond .eq 22, 3) := (congrArg (fun b => decode b 18) cd_12).trans dX1_goMorning_18
theorem e12_21 : decode (ma_cd 12) 21 = .ok (.aload_n 0, 1) := (congrArg (fun b => decode b 21) cd_12).trans dX1_goMorning_21
theorem e12_22 : decode (ma_cd 12) 22 = .ok (.bipush 25, 2) := (congrArg (fun b => decode b 22) cd_12).trans dX1_goMorning_22
theorem e12_24 : decode (ma_cd 12) 24 = .ok (.aload_n 0, 1) := (congrArg (fun b => decode b 24) cd_12).trans dX1_goMorning_24
theorem e12_25 : decode (ma_cd 12) 25 = .ok (.getfield 32, 3) := (congrArg (fun b => decode b 25) cd_12).trans dX1_goMorning_25
theorem e12_28 : decode (ma_cd 12) 28 = .ok (.isub, 1) := (congrArg (fun b => decode b 28) cd_12).trans dX1_goMorning_28
theorem e12_29 : decode (ma_cd 12) 29 = .ok (.bipush 99, 2) := (congrArg (fun b => decode b 29) cd_12).trans dX1_goMorning_29
theorem e12_31 : decode (ma_cd 12) 31 = .ok (.invokestatic 55, 3) := (congrArg (fun b => decode b 31) cd_12).trans dX1_goMorning_31
theorem e12_34 : decode (ma_cd 12) 34 = .ok (.putfield 29, 3) := (congrArg (fun b => decode b 34) cd_12).trans dX1_goMorning_34
theorem e12_37 : decode (ma_cd 12) 37 = .ok (.goto 42, 3) := (congrArg (fun b => decode b 37) cd_12).trans dX1_goMorning_37
theorem e12_40 : decode (ma_cd 12) 40 = .ok (.aload_n 0, 1) := (congrArg (fun b => decode b 40) cd_12).trans dX1_goMorning_40
theorem e12_41 : decode (ma_cd 12) 41 = .ok (.bipush 50, 2) := (congrArg (fun b => decode b 41) cd_12).trans dX1_goMorning_41
theorem e12_43 : decode (ma_cd 12) 43 = .ok (.iconst 2, 1) := (congrArg (fun b => decode b 43) cd_12).trans dX1_goMorning_43
theorem e12_44 : decode (ma_cd 12) 44 = .ok (.aload_n 0, 1) := (congrArg (fun b => decode b 44) cd_12).trans dX1_goMorning_44
theorem e12_45 : decode (ma_cd 12) 45 = .ok (.getfield 32, 3) := (congrArg (fun b => decode b 45) cd_12).trans dX1_goMorning_45
theorem e12_48 : decode (ma_cd 12) 48 = .ok (.imul, 1) := (congrArg (fun b => decode b 48) cd_12).trans dX1_goMorning_48
theorem e12_49 : decode (ma_cd 12) 49 = .ok (.isub, 1) := (congrArg (fun b => decode b 49) cd_12).trans dX1_goMorning_49
theorem e12_50 : decode (ma_cd 12) 50 = .ok (.iconst 4, 1) := (congrArg (fun b => decode b 50) cd_12).trans dX1_goMorning_50
theorem e12_51 : decode (ma_cd 12) 51 = .ok (.aload_n 0, 1) := (congrArg (fun b => decode b 51) cd_12).trans dX1_goMorning_51
theorem e12_52 : decode (ma_cd 12) 52 = .ok (.getfield 35, 3) := (congrArg (fun b => decode b 52) cd_12).trans dX1_goMorning_52
theorem e12_55 : decode (ma_cd 12) 55 = .ok (.imul, 1) := (congrArg (fun b => decode b 55) cd_12).trans dX1_goMorning_55
theorem e12_56 : decode (ma_cd 12) 56 = .ok (.iadd, 1) := (congrArg (fun b => decode b 56) cd_12).trans dX1_goMorning_56
theorem e12_57 : decode (ma_cd 12) 57 = .ok (.bipush 99, 2) := (congrArg (fun b => decode b 57) cd_12).trans dX1_goMorning_57
theorem e12_59 : decode (ma_cd 12) 59 = .ok (.invokestatic 55, 3) := (congrArg (fun b => decode b 59) cd_12).trans dX1_goMorning_59
theorem e12_62 : decode (ma_cd 12) 62 = .ok (.putfield 29, 3) := (congrArg (fun b => decode b 62) cd_12).trans dX1_goMorning_62
theorem e12_65 : decode (ma_cd 12) 65 = .ok (.aload_n 0, 1) := (congrArg (fun b => decode b 65) cd_12).trans dX1_goMorning_65
theorem e12_66 : decode (ma_cd 12) 66 = .ok (.iconst 0, 1) := (congrArg (fun b => decode b 66) cd_12).trans dX1_goMorning_66
theorem e12_67 : decode (ma_cd 12) 67 = .ok (.aload_n 0, 1) := (congrArg (fun b => decode b 67) cd_12).trans dX1_goMorning_67
theorem e12_68 : decode (ma_cd 12) 68 = .ok (.getfield 35, 3) := (congrArg (fun b => decode b 68) cd_12).trans dX1_goMorning_68
theorem e12_71 : decode (ma_cd 12) 71 = .ok (.iconst 1, 1) := (congrArg (fun b => decode b 71) cd_12).trans dX1_goMorning_71
theorem e12_72 : decode (ma_cd 12) 72 = .ok (.isub, 1) := (congrArg (fun b => decode b 72) cd_12).trans dX1_goMorning_72
theorem e12_73 : decode (ma_cd 12) 73 = .ok (.invokestatic 59, 3) := (congrArg (fun b => decode b 73) cd_12).trans dX1_goMorning_73
theorem e12_76 : decode (ma_cd 12) 76 = .ok (.putfield 35, 3) := (congrArg (fun b => decode b 76) cd_12).trans dX1_goMorning_76
theorem e12_79 : decode (ma_cd 12) 79 = .ok (.aload_n 0, 1) := (congrArg (fun b => decode b 79) cd_12).trans dX1_goMorning_79
theorem e12_80 : decode (ma_cd 12) 80 = .ok (.bipush 99, 2) := (congrArg (fun b => decode b 80) cd_12).trans dX1_goMorning_80
theorem e12_82 : decode (ma_cd 12) 82 = .ok (.aload_n 0, 1) := (congrArg (fun b => decode b 82) cd_12).trans dX1_goMorning_82
theorem e12_83 : decode (ma_cd 12) 83 = .ok (.getfield 32, 3) := (congrArg (fun b => decode b 83) cd_12).trans dX1_goMorning_83
theorem e12_86 : decode (ma_cd 12) 86 = .ok (.iconst 1, 1) := (congrArg (fun b => decode b 86) cd_12).trans dX1_goMorning_86
theorem e12_87 : decode (ma_cd 12) 87 = .ok (.iadd, 1) := (congrArg (fun b => decode b 87) cd_12).trans dX1_goMorning_87
theorem e12_88 : decode (ma_cd 12) 88 = .ok (.invokestatic 64, 3) := (congrArg (fun b => decode b 88) cd_12).trans dX1_goMorning_88
theorem e12_91 : decode (ma_cd 12) 91 = .ok (.putfield 32, 3) := (congrArg (fun b => decode b 91) cd_12).trans dX1_goMorning_91
theorem e12_94 : decode (ma_cd 12) 94 = .ok (.aload_n 0, 1) := (congrArg (fun b => decode b 94) cd_12).trans dX1_goMorning_94
theorem e12_95 : decode (ma_cd 12) 95 = .ok (.iconst 0, 1) := (congrArg (fun b => decode b 95) cd_12).trans dX1_goMorning_95
theorem e12_96 : decode (ma_cd 12) 96 = .ok (.putfield 38, 3) := (congrArg (fun b => decode b 96) cd_12).trans dX1_goMorning_96
theorem e12_99 : decode (ma_cd 12) 99 = .ok (.return_, 1) := (congrArg (fun b => decode b 99) cd_12).trans dX1_goMorning_99
theorem S12 {ro : ma_RO} {d : Nat} : (∀ (v1 : Option Value) (v2 : Option Value) (a1 : Nat) (st : List Value) (σ : ma_H), ma_rn ro d 12 (0, [some (.ref a1), v1, v2], st, SH, σ) = ma_rn ro d 12 (1, [some (.ref a1), v1, v2], .ref a1 :: st, SH, σ)) ∧
  (∀ (v0 : Option Value) (v2 : Option Value) (x1 : Int32) (st : List Value) (σ : ma_H), ma_rn ro d 12 (1, [v0, some (.int x1), v2], st, SH, σ) = ma_rn ro d 12 (2, [v0, some (.int x1), v2], .int x1 :: st, SH, σ)) ∧
  (∀ (v0 : Option Value) (v1 : Option Value) (x1 : Int32) (st : List Value) (σ : ma_H), ma_rn ro d 12 (2, [v0, v1, some (.int x1)], st, SH, σ) = ma_rn ro d 12 (3, [v0, v1, some (.int x1)], .int x1 :: st, SH, σ)) ∧
  (∀ (v0 : Option Value) (v1 : Option Value) (v2 : Option Value) (x1 : Int32) (x2 : Int32) (st : List Value) (σ : ma_H), ma_rn ro d 12 (3, [v0, v1, v2], .int x1 :: .int x2 :: st, SH, σ) = if x2 < x1 then ma_rn ro d 12 (6, [v0, v1, v2], st, SH, σ) else ma_rn ro d 12 (10, [v0, v1, v2], st, SH, σ)) ∧
  (∀ (v0 : Option Value) (v1 : Option Value) (v2 : Option Value) (st : List Value) (σ : ma_H), ma_rn ro d 12 (6, [v0, v1, v2], st, SH, σ) = ma_rn ro d 12 (7, [v0, v1, v2], .int (nI 1) :: st, SH, σ)) ∧
  (∀ (v0 : Option Value) (v1 : Option Value) (v2 : Option Value) (st : List Value) (σ : ma_H), ma_rn ro d 12 (7, [v0, v1, v2], st, SH, σ) = ma_rn ro d 12 (11, [v0, v1, v2], st, SH, σ)) ∧
  (∀ (v0 : Option Value) (v1 : Option Value) (v2 : Option Value) (st : List Value) (σ : ma_H), ma_rn ro d 12 (10, [v0, v1, v2], st, SH, σ) = ma_rn ro d 12 (11, [v0, v1, v2], .int (nI 0) :: st, SH, σ)) ∧
  (∀ (v0 : Option Value) (v1 : Option Value) (v2 : Option Value) (x1 : Int32) (a2 : Nat) (st : List Value) (σ : ma_H) (hx : ma_fitI .boolean x1 = true) (hc : hk_cls a2 = 1), ma_rn ro d 12 (11, [v0, v1, v2], .int x1 :: .ref a2 :: st, SH, σ) = ma_rn ro d 12 (14, [v0, v1, v2], st, SH, (ma_up σ a2 3 x1))) ∧
  (∀ (v1 : Option Value) (v2 : Option Value) (a1 : Nat) (st : List Value) (σ : ma_H), ma_rn ro d 12 (14, [some (.ref a1), v1, v2], st, SH, σ) = ma_rn ro d 12 (15, [some (.ref a1), v1, v2], .ref a1 :: st, SH, σ)) ∧
  (∀ (v0 : Option Value) (v1 : Option Value) (v2 : Option Value) (a1 : Nat) (st : List Value) (σ : ma_H) (hc : hk_cls a1 = 1), ma_rn ro d 12 (15, [v0, v1, v2], .ref a1 :: st, SH, σ) = ma_rn ro d 12 (18, [v0, v1, v2], .int (σ a1 3) :: st, SH, σ)) ∧
  (∀ (v0 : Option Value) (v1 : Option Value) (v2 : Option Value) (x1 : Int32) (st : List Value) (σ : ma_H), ma_rn ro d 12 (18, [v0, v1, v2], .int x1 :: st, SH, σ) = if x1 = nI 0 then ma_rn ro d 12 (40, [v0, v1, v2], st, SH, σ) else ma_rn ro d 12 (21, [v0, v1, v2], st, SH, σ)) ∧
  (∀ (v1 : Option Value) (v2 : Option Value) (a1 : Nat) (st : List Value) (σ : ma_H), ma_rn ro d 12 (21, [some (.ref a1), v1, v2], st, SH, σ) = ma_rn ro d 12 (22, [some (.ref a1), v1, v2], .ref a1 :: st, SH, σ)) ∧
  (∀ (v0 : Option Value) (v1 : Option Value) (v2 : Option Value) (st : List Value) (σ : ma_H), ma_rn ro d 12 (22, [v0, v1, v2], st, SH, σ) = ma_rn ro d 12 (24, [v0, v1, v2], .int (nI 25) :: st, SH, σ)) ∧
  (∀ (v1 : Option Value) (v2 : Option Value) (a1 : Nat) (st : List Value) (σ : ma_H), ma_rn ro d 12 (24, [some (.ref a1), v1, v2], st, SH, σ) = ma_rn ro d 12 (25, [some (.ref a1), v1, v2], .ref a1 :: st, SH, σ)) ∧
  (∀ (v0 : Option Value) (v1 : Option Value) (v2 : Option Value) (a1 : Nat) (st : List Value) (σ : ma_H) (hc : hk_cls a1 = 1), ma_rn ro d 12 (25, [v0, v1, v2], .ref a1 :: st, SH, σ) = ma_rn ro d 12 (28, [v0, v1, v2], .int (σ a1 5) :: st, SH, σ)) ∧
  (∀ (v0 : Option Value) (v1 : Option Value) (v2 : Option Value) (x1 : Int32) (x2 : Int32) (st : List Value) (σ : ma_H), ma_rn ro d 12 (28, [v0, v1, v2], .int x1 :: .int x2 :: st, SH, σ) = ma_rn ro d 12 (29, [v0, v1, v2], .int (x2 - x1) :: st, SH, σ)) ∧
  (∀ (v0 : Option Value) (v1 : Option Value) (v2 : Option Value) (st : List Value) (σ : ma_H), ma_rn ro d 12 (29, [v0, v1, v2], st, SH, σ) = ma_rn ro d 12 (31, [v0, v1, v2], .int (nI 99) :: st, SH, σ)) ∧
  (∀ (v0 : Option Value) (v1 : Option Value) (v2 : Option Value) (a20 : Nat) (x1 : Int32) (x2 : Int32) (σ : ma_H), ma_rn ro (d + 1) 12 (31, [v0, v1, v2], .int x2 :: .int x1 :: .ref a20 :: [], SH, σ) = (ma_ev ro d 90 [.int x1, .int x2] SH σ).bind (fun q => ma_rn ro (d + 1) 12 (34, [v0, v1, v2], (q.1.toList ++ (.ref a20 :: [])), q.2.1, q.2.2))) ∧
  (∀ (v0 : Option Value) (v1 : Option Value) (v2 : Option Value) (x1 : Int32) (a2 : Nat) (st : List Value) (σ : ma_H) (hc : hk_cls a2 = 1), ma_rn ro d 12 (34, [v0, v1, v2], .int x1 :: .ref a2 :: st, SH, σ) = ma_rn ro d 12 (37, [v0, v1, v2], st, SH, (ma_up σ a2 4 x1))) ∧
  (∀ (v0 : Option Value) (v1 : Option Value) (v2 : Option Value) (st : List Value) (σ : ma_H), ma_rn ro d 12 (37, [v0, v1, v2], st, SH, σ) = ma_rn ro d 12 (79, [v0, v1, v2], st, SH, σ)) ∧
  (∀ (v1 : Option Value) (v2 : Option Value) (a1 : Nat) (st : List Value) (σ : ma_H), ma_rn ro d 12 (40, [some (.ref a1), v1, v2], st, SH, σ) = ma_rn ro d 12 (41, [some (.ref a1), v1, v2], .ref a1 :: st, SH, σ)) ∧
  (∀ (v0 : Option Value) (v1 : Option Value) (v2 : Option Value) (st : List Value) (σ : ma_H), ma_rn ro d 12 (41, [v0, v1, v2], st, SH, σ) = ma_rn ro d 12 (43, [v0, v1, v2], .int (nI 50) :: st, SH, σ)) ∧
  (∀ (v0 : Option Value) (v1 : Option Value) (v2 : Option Value) (st : List Value) (σ : ma_H), ma_rn ro d 12 (43, [v0, v1, v2], st, SH, σ) = ma_rn ro d 12 (44, [v0, v1, v2], .int (nI 2) :: st, SH, σ)) ∧
  (∀ (v1 : Option Value) (v2 : Option Value) (a1 : Nat) (st : List Value) (σ : ma_H), ma_rn ro d 12 (44, [some (.ref a1), v1, v2], st, SH, σ) = ma_rn ro d 12 (45, [some (.ref a1), v1, v2], .ref a1 :: st, SH, σ)) ∧
  (∀ (v0 : Option Value) (v1 : Option Value) (v2 : Option Value) (a1 : Nat) (st : List Value) (σ : ma_H) (hc : hk_cls a1 = 1), ma_rn ro d 12 (45, [v0, v1, v2], .ref a1 :: st, SH, σ) = ma_rn ro d 12 (48, [v0, v1, v2], .int (σ a1 5) :: st, SH, σ)) ∧
  (∀ (v0 : Option Value) (v1 : Option Value) (v2 : Option Value) (x1 : Int32) (x2 : Int32) (st : List Value) (σ : ma_H), ma_rn ro d 12 (48, [v0, v1, v2], .int x1 :: .int x2 :: st, SH, σ) = ma_rn ro d 12 (49, [v0, v1, v2], .int (x2 * x1) :: st, SH, σ)) ∧
  (∀ (v0 : Option Value) (v1 : Option Value) (v2 : Option Value) (x1 : Int32) (x2 : Int32) (st : List Value) (σ : ma_H), ma_rn ro d 12 (49, [v0, v1, v2], .int x1 :: .int x2 :: st, SH, σ) = ma_rn ro d 12 (50, [v0, v1, v2], .int (x2 - x1) :: st, SH, σ)) ∧
  (∀ (v0 : Option Value) (v1 : Option Value) (v2 : Option Value) (st : List Value) (σ : ma_H), ma_rn ro d 12 (50, [v0, v1, v2], st, SH, σ) = ma_rn ro d 12 (51, [v0, v1, v2], .int (nI 4) :: st, SH, σ)) ∧
  (∀ (v1 : Option Value) (v2 : Option Value) (a1 : Nat) (st : List Value) (σ : ma_H), ma_rn ro d 12 (51, [some (.ref a1), v1, v2], st, SH, σ) = ma_rn ro d 12 (52, [some (.ref a1), v1, v2], .ref a1 :: st, SH, σ)) ∧
  (∀ (v0 : Option Value) (v1 : Option Value) (v2 : Option Value) (a1 : Nat) (st : List Value) (σ : ma_H) (hc : hk_cls a1 = 1), ma_rn ro d 12 (52, [v0, v1, v2], .ref a1 :: st, SH, σ) = ma_rn ro d 12 (55, [v0, v1, v2], .int (σ a1 6) :: st, SH, σ)) ∧
  (∀ (v0 : Option Value) (v1 : Option Value) (v2 : Option Value) (x1 : Int32) (x2 : Int32) (st : List Value) (σ : ma_H), ma_rn ro d 12 (55, [v0, v1, v2], .int x1 :: .int x2 :: st, SH, σ) = ma_rn ro d 12 (56, [v0, v1, v2], .int (x2 * x1) :: st, SH, σ)) ∧
  (∀ (v0 : Option Value) (v1 : Option Value) (v2 : Option Value) (x1 : Int32) (x2 : Int32) (st : List Value) (σ : ma_H), ma_rn ro d 12 (56, [v0, v1, v2], .int x1 :: .int x2 :: st, SH, σ) = ma_rn ro d 12 (57, [v0, v1, v2], .int (x2 + x1) :: st, SH, σ)) ∧
  (∀ (v0 : Option Value) (v1 : Option Value) (v2 : Option Value) (st : List Value) (σ : ma_H), ma_rn ro d 12 (57, [v0, v1, v2], st, SH, σ) = ma_rn ro d 12 (59, [v0, v1, v2], .int (nI 99) :: st, SH, σ)) ∧
  (∀ (v0 : Option Value) (v1 : Option Value) (v2 : Option Value) (a20 : Nat) (x1 : Int32) (x2 : Int32) (σ : ma_H), ma_rn ro (d + 1) 12 (59, [v0, v1, v2], .int x2 :: .int x1 :: .ref a20 :: [], SH, σ) = (ma_ev ro d 90 [.int x1, .int x2] SH σ).bind (fun q => ma_rn ro (d + 1) 12 (62, [v0, v1, v2], (q.1.toList ++ (.ref a20 :: [])), q.2.1, q.2.2))) ∧
  (∀ (v0 : Option Value) (v1 : Option Value) (v2 : Option Value) (x1 : Int32) (a2 : Nat) (st : List Value) (σ : ma_H) (hc : hk_cls a2 = 1), ma_rn ro d 12 (62, [v0, v1, v2], .int x1 :: .ref a2 :: st, SH, σ) = ma_rn ro d 12 (65, [v0, v1, v2], st, SH, (ma_up σ a2 4 x1))) ∧
  (∀ (v1 : Option Value) (v2 : Option Value) (a1 : Nat) (st : List Value) (σ : ma_H), ma_rn ro d 12 (65, [some (.ref a1), v1, v2], st, SH, σ) = ma_rn ro d 12 (66, [some (.ref a1), v1, v2], .ref a1 :: st, SH, σ)) ∧
  (∀ (v0 : Option Value) (v1 : Option Value) (v2 : Option Value) (st : List Value) (σ : ma_H), ma_rn ro d 12 (66, [v0, v1, v2], st, SH, σ) = ma_rn ro d 12 (67, [v0, v1, v2], .int (nI 0) :: st, SH, σ)) ∧
  (∀ (v1 : Option Value) (v2 : Option Value) (a1 : Nat) (st : List Value) (σ : ma_H), ma_rn ro d 12 (67, [some (.ref a1), v1, v2], st, SH, σ) = ma_rn ro d 12 (68, [some (.ref a1), v1, v2], .ref a1 :: st, SH, σ)) ∧
  (∀ (v0 : Option Value) (v1 : Option Value) (v2 : Option Value) (a1 : Nat) (st : List Value) (σ : ma_H) (hc : hk_cls a1 = 1), ma_rn ro d 12 (68, [v0, v1, v2], .ref a1 :: st, SH, σ) = ma_rn ro d 12 (71, [v0, v1, v2], .int (σ a1 6) :: st, SH, σ)) ∧
  (∀ (v0 : Option Value) (v1 : Option Value) (v2 : Option Value) (st : List Value) (σ : ma_H), ma_rn ro d 12 (71, [v0, v1, v2], st, SH, σ) = ma_rn ro d 12 (72, [v0, v1, v2], .int (nI 1) :: st, SH, σ)) ∧
  (∀ (v0 : Option Value) (v1 : Option Value) (v2 : Option Value) (x1 : Int32) (x2 : Int32) (st : List Value) (σ : ma_H), ma_rn ro d 12 (72, [v0, v1, v2], .int x1 :: .int x2 :: st, SH, σ) = ma_rn ro d 12 (73, [v0, v1, v2], .int (x2 - x1) :: st, SH, σ)) ∧
  (∀ (v0 : Option Value) (v1 : Option Value) (v2 : Option Value) (x1 : Int32) (x2 : Int32) (a20 : Nat) (σ : ma_H), ma_rn ro d 12 (73, [v0, v1, v2], .int x1 :: .int x2 :: .ref a20 :: [], SH, σ) = ma_rn ro d 12 (76, [v0, v1, v2], .int (if x2 < x1 then x1 else x2) :: .ref a20 :: [], SH, σ)) ∧
  (∀ (v0 : Option Value) (v1 : Option Value) (v2 : Option Value) (x1 : Int32) (a2 : Nat) (st : List Value) (σ : ma_H) (hc : hk_cls a2 = 1), ma_rn ro d 12 (76, [v0, v1, v2], .int x1 :: .ref a2 :: st, SH, σ) = ma_rn ro d 12 (79, [v0, v1, v2], st, SH, (ma_up σ a2 6 x1))) ∧
  (∀ (v1 : Option Value) (v2 : Option Value) (a1 : Nat) (st : List Value) (σ : ma_H), ma_rn ro d 12 (79, [some (.ref a1), v1, v2], st, SH, σ) = ma_rn ro d 12 (80, [some (.ref a1), v1, v2], .ref a1 :: st, SH, σ)) ∧
  (∀ (v0 : Option Value) (v1 : Option Value) (v2 : Option Value) (st : List Value) (σ : ma_H), ma_rn ro d 12 (80, [v0, v1, v2], st, SH, σ) = ma_rn ro d 12 (82, [v0, v1, v2], .int (nI 99) :: st, SH, σ)) ∧
  (∀ (v1 : Option Value) (v2 : Option Value) (a1 : Nat) (st : List Value) (σ : ma_H), ma_rn ro d 12 (82, [some (.ref a1), v1, v2], st, SH, σ) = ma_rn ro d 12 (83, [some (.ref a1), v1, v2], .ref a1 :: st, SH, σ)) ∧
  (∀ (v0 : Option Value) (v1 : Option Value) (v2 : Option Value) (a1 : Nat) (st : List Value) (σ : ma_H) (hc : hk_cls a1 = 1), ma_rn ro d 12 (83, [v0, v1, v2], .ref a1 :: st, SH, σ) = ma_rn ro d 12 (86, [v0, v1, v2], .int (σ a1 5) :: st, SH, σ)) ∧
  (∀ (v0 : Option Value) (v1 : Option Value) (v2 : Option Value) (st : List Value) (σ : ma_H), ma_rn ro d 12 (86, [v0, v1, v2], st, SH, σ) = ma_rn ro d 12 (87, [v0, v1, v2], .int (nI 1) :: st, SH, σ)) ∧
  (∀ (v0 : Option Value) (v1 : Option Value) (v2 : Option Value) (x1 : Int32) (x2 : Int32) (st : List Value) (σ : ma_H), ma_rn ro d 12 (87, [v0, v1, v2], .int x1 :: .int x2 :: st, SH, σ) = ma_rn ro d 12 (88, [v0, v1, v2], .int (x2 + x1) :: st, SH, σ)) ∧
  (∀ (v0 : Option Value) (v1 : Option Value) (v2 : Option Value) (x1 : Int32) (x2 : Int32) (a20 : Nat) (σ : ma_H), ma_rn ro d 12 (88, [v0, v1, v2], .int x1 :: .int x2 :: .ref a20 :: [], SH, σ) = ma_rn ro d 12 (91, [v0, v1, v2], .int (if x1 < x2 then x1 else x2) :: .ref a20 :: [], SH, σ)) ∧
  (∀ (v0 : Option Value) (v1 : Option Value) (v2 : Option Value) (x1 : Int32) (a2 : Nat) (st : List Value) (σ : ma_H) (hc : hk_cls a2 = 1), ma_rn ro d 12 (91, [v0, v1, v2], .int x1 :: .ref a2 :: st, SH, σ) = ma_rn ro d 12 (94, [v0, v1, v2], st, SH, (ma_up σ a2 5 x1))) ∧
  (∀ (v1 : Option Value) (v2 : Option Value) (a1 : Nat) (st : List Value) (σ : ma_H), ma_rn ro d 12 (94, [some (.ref a1), v1, v2], st, SH, σ) = ma_rn ro d 12 (95, [some (.ref a1), v1, v2], .ref a1 :: st, SH, σ)) ∧
  (∀ (v0 : Option Value) (v1 : Option Value) (v2 : Option Value) (st : List Value) (σ : ma_H), ma_rn ro d 12 (95, [v0, v1, v2], st, SH, σ) = ma_rn ro d 12 (96, [v0, v1, v2], .int (nI 0) :: st, SH, σ)) ∧
  (∀ (v0 : Option Value) (v1 : Option Value) (v2 : Option Value) (x1 : Int32) (a2 : Nat) (st : List Value) (σ : ma_H) (hc : hk_cls a2 = 1), ma_rn ro d 12 (96, [v0, v1, v2], .int x1 :: .ref a2 :: st, SH, σ) = ma_rn ro d 12 (99, [v0, v1, v2], st, SH, (ma_up σ a2 7 x1))) ∧
  (∀ (v0 : Option Value) (v1 : Option Value) (v2 : Option Value) (σ : ma_H), ma_rn ro d 12 (99, [v0, v1, v2], [], SH, σ) = some (none, SH, σ)) := ⟨fun v1 v2 a1 st σ => q_go e12_0 rfl rfl,
  fun v0 v2 x1 st σ => q_go e12_1 rfl rfl,
  fun v0 v1 x1 st σ => q_go e12_2 rfl rfl,
  fun v0 v1 v2 x1 x2 st σ => (q_cmp e12_3 rfl).trans q_nlt,
  fun v0 v1 v2 st σ => q_iconst e12_6 (by decide),
  fun v0 v1 v2 st σ => q_goto e12_7 rfl,
  fun v0 v1 v2 st σ => q_iconst e12_10 (by decide),
  fun v0 v1 v2 x1 a2 st σ hx hc => q_putI e12_11 o_12 f_1_25 (by decide) hx hc,
  fun v1 v2 a1 st σ => q_go e12_14 rfl rfl,
  fun v0 v1 v2 a1 st σ hc => q_getI e12_15 o_12 f_1_25 (by decide) hc,
  fun v0 v1 v2 x1 st σ => (q_if e12_18 rfl).trans q_eq,
  fun v1 v2 a1 st σ => q_go e12_21 rfl rfl,
  fun v0 v1 v2 st σ => q_bipush e12_22 (by decide),
  fun v1 v2 a1 st σ => q_go e12_24 rfl rfl,
  fun v0 v1 v2 a1 st σ hc => q_getI e12_25 o_12 f_1_32 (by decide) hc,
  fun v0 v1 v2 x1 x2 st σ => q_go e12_28 rfl rfl,
  fun v0 v1 v2 st σ => q_bipush e12_29 (by decide),
  fun v0 v1 v2 a20 x1 x2 σ => q_invS (as := [.int x1, .int x2]) (rest := .ref a20 :: []) e12_31 o_12 bn_1_55 c_1_55 ⟨m_90.1, m_90.2.1, m_90.2.2.1⟩ rfl rfl (Nat.le_of_ble_eq_true rfl) (Nat.le_of_ble_eq_true rfl),
  fun v0 v1 v2 x1 a2 st σ hc => q_putI e12_34 o_12 f_1_29 (by decide) rfl hc,
  fun v0 v1 v2 st σ => q_goto e12_37 rfl,
  fun v1 v2 a1 st σ => q_go e12_40 rfl rfl,
  fun v0 v1 v2 st σ => q_bipush e12_41 (by decide),
  fun v0 v1 v2 st σ => q_iconst e12_43 (by decide),
  fun v1 v2 a1 st σ => q_go e12_44 rfl rfl,
  fun v0 v1 v2 a1 st σ hc => q_getI e12_45 o_12 f_1_32 (by decide) hc,
  fun v0 v1 v2 x1 x2 st σ => q_go e12_48 rfl rfl,
  fun v0 v1 v2 x1 x2 st σ => q_go e12_49 rfl rfl,
  fun v0 v1 v2 st σ => q_iconst e12_50 (by decide),
  fun v1 v2 a1 st σ => q_go e12_51 rfl rfl,
  fun v0 v1 v2 a1 st σ hc => q_getI e12_52 o_12 f_1_35 (by decide) hc,
  fun v0 v1 v2 x1 x2 st σ => q_go e12_55 rfl rfl,
  fun v0 v1 v2 x1 x2 st σ => q_go e12_56 rfl rfl,
  fun v0 v1 v2 st σ => q_bipush e12_57 (by decide),
  fun v0 v1 v2 a20 x1 x2 σ => q_invS (as := [.int x1, .int x2]) (rest := .ref a20 :: []) e12_59 o_12 bn_1_55 c_1_55 ⟨m_90.1, m_90.2.1, m_90.2.2.1⟩ rfl rfl (Nat.le_of_ble_eq_true rfl) (Nat.le_of_ble_eq_true rfl),
  fun v0 v1 v2 x1 a2 st σ hc => q_putI e12_62 o_12 f_1_29 (by decide) rfl hc,
  fun v1 v2 a1 st σ => q_go e12_65 rfl rfl,
  fun v0 v1 v2 st σ => q_iconst e12_66 (by decide),
  fun v1 v2 a1 st σ => q_go e12_67 rfl rfl,
  fun v0 v1 v2 a1 st σ hc => q_getI e12_68 o_12 f_1_35 (by decide) hc,
  fun v0 v1 v2 st σ => q_iconst e12_71 (by decide),
  fun v0 v1 v2 x1 x2 st σ => q_go e12_72 rfl rfl,
  fun v0 v1 v2 x1 x2 a20 σ => q_bt e12_73 o_12 b_1_59 (by decide) (Nat.le_of_ble_eq_true rfl),
  fun v0 v1 v2 x1 a2 st σ hc => q_putI e12_76 o_12 f_1_35 (by decide) rfl hc,
  fun v1 v2 a1 st σ => q_go e12_79 rfl rfl,
  fun v0 v1 v2 st σ => q_bipush e12_80 (by decide),
  fun v1 v2 a1 st σ => q_go e12_82 rfl rfl,
  fun v0 v1 v2 a1 st σ hc => q_getI e12_83 o_12 f_1_32 (by decide) hc,
  fun v0 v1 v2 st σ => q_iconst e12_86 (by decide),
  fun v0 v1 v2 x1 x2 st σ => q_go e12_87 rfl rfl,
  fun v0 v1 v2 x1 x2 a20 σ => q_bt e12_88 o_12 b_1_64 (by decide) (Nat.le_of_ble_eq_true rfl),
  fun v0 v1 v2 x1 a2 st σ hc => q_putI e12_91 o_12 f_1_32 (by decide) rfl hc,
  fun v1 v2 a1 st σ => q_go e12_94 rfl rfl,
  fun v0 v1 v2 st σ => q_iconst e12_95 (by decide),
  fun v0 v1 v2 x1 a2 st σ hc => q_putI e12_96 o_12 f_1_38 (by decide) rfl hc,
  fun v0 v1 v2 σ => q_vret e12_99 r_12⟩
theorem E12 {ro : ma_RO} {d : Nat} (a0 : Nat) (x1 : Int32) (x2 : Int32) (sh : List ma_Sh) (σ : ma_H) : ma_ev ro d 12 [.ref a0, .int x1, .int x2] sh σ = ma_rn ro d 12 (0, [some (.ref a0), some (.int x1), some (.int x2)], [], sh, σ) := q_ent x_12 rfl
theorem e13_0 : decode (ma_cd 13) 0 = .ok (.aload_n 0, 1) := (congrArg (fun b => decode b 0) cd_13).trans dX1_beLookedAfter_0
theorem e13_1 : decode (ma_cd 13) 1 = .ok (.iconst 0, 1) := (congrArg (fun b => decode b 1) cd_13).trans dX1_beLookedAfter_1
theorem e13_2 : decode (ma_cd 13) 2 = .ok (.putfield 25, 3) := (congrArg (fun b => decode b 2) cd_13).trans dX1_beLookedAfter_2
theorem e13_5 : decode (ma_cd 13) 5 = .ok (.aload_n 0, 1) := (congrArg (fun b => decode b 5) cd_13).trans dX1_beLookedAfter_5
theorem e13_6 : decode (ma_cd 13) 6 = .ok (.bipush 90, 2) := (congrArg (fun b => decode b 6) cd_13).trans dX1_beLookedAfter_6
theorem e13_8 : decode (ma_cd 13) 8 = .ok (.bipush 10, 2) := (congrArg (fun b => decode b 8) cd_13).trans dX1_beLookedAfter_8
theorem e13_10 : decode (ma_cd 13) 10 = .ok (.aload_n 0, 1) := (congrArg (fun b => decode b 10) cd_13).trans dX1_beLookedAfter_10
theorem e13_11 : decode (ma_cd 13) 11 = .ok (.getfield 38, 3) := (congrArg (fun b => decode b 11) cd_13).trans dX1_beLookedAfter_11
theorem e13_14 : decode (ma_cd 13) 14 = .ok (.imul, 1) := (congrArg (fun b => decode b 14) cd_13).trans dX1_beLookedAfter_14
theorem e13_15 : decode (ma_cd 13) 15 = .ok (.isub, 1) := (congrArg (fun b => decode b 15) cd_13).trans dX1_beLookedAfter_15
theorem e13_16 : decode (ma_cd 13) 16 = .ok (.bipush 99, 2) := (congrArg (fun b => decode b 16) cd_13).trans dX1_beLookedAfter_16
theorem e13_18 : decode (ma_cd 13) 18 = .ok (.invokestatic 55, 3) := (congrArg (fun b => decode b 18) cd_13).trans dX1_beLookedAfter_18
theorem e13_21 : decode (ma_cd 13) 21 = .ok (.putfield 29, 3) := (congrArg (fun b => decode b 21) cd_13).trans dX1_beLookedAfter_21
theorem e13_24 : decode (ma_cd 13) 24 = .ok (.aload_n 0, 1) := (congrArg (fun b => decode b 24) cd_13).trans dX1_beLookedAfter_24
theorem e13_25 : decode (ma_cd 13) 25 = .ok (.bipush 9, 2) := (congrArg (fun b => decode b 25) cd_13).trans dX1_beLookedAfter_25
theorem e13_27 : decode (ma_cd 13) 27 = .ok (.aload_n 0, 1) := (congrArg (fun b => decode b 27) cd_13).trans dX1_beLookedAfter_27
theorem e13_28 : decode (ma_cd 13) 28 = .ok (.getfield 38, 3) := (congrArg (fun b => decode b 28) cd_13).trans dX1_beLookedAfter_28
theorem e13_31 : decode (ma_cd 13) 31 = .ok (.iconst 1, 1) := (congrArg (fun b => decode b 31) cd_13).trans dX1_beLookedAfter_31
theorem e13_32 : decode (ma_cd 13) 32 = .ok (.iadd, 1) := (congrArg (fun b => decode b 32) cd_13).trans dX1_beLookedAfter_32
theorem e13_33 : decode (ma_cd 13) 33 = .ok (.invokestatic 64, 3) := (congrArg (fun b => decode b 33) cd_13).trans dX1_beLookedAfter_33
theorem e13_36 : decode (ma_cd 13) 36 = .ok (.putfield 38, 3) := (congrArg (fun b => decode b 36) cd_13).trans dX1_beLookedAfter_36
theorem e13_39 : decode (ma_cd 13) 39 = .ok (.aload_n 0, 1) := (congrArg (fun b => decode b 39) cd_13).trans dX1_beLookedAfter_39
theorem e13_40 : decode (ma_cd 13) 40 = .ok (.bipush 99, 2) := (congrArg (fun b => decode b 40) cd_13).trans dX1_beLookedAfter_40
theorem e13_42 : decode (ma_cd 13) 42 = .ok (.aload_n 0, 1) := (congrArg (fun b => decode b 42) cd_13).trans dX1_beLookedAfter_42
theorem e13_43 : decode (ma_cd 13) 43 = .ok (.getfield 32, 3) := (congrArg (fun b => decode b 43) cd_13).trans dX1_beLookedAfter_43
theorem e13_46 : decode (ma_cd 13) 46 = .ok (.iconst 2, 1) := (congrArg (fun b => decode b 46) cd_13).trans dX1_beLookedAfter_46
theorem e13_47 : decode (ma_cd 13) 47 = .ok (.iadd, 1) := (congrArg (fun b => decode b 47) cd_13).trans dX1_beLookedAfter_47
theorem e13_48 : decode (ma_cd 13) 48 = .ok (.invokestatic 64, 3) := (congrArg (fun b => decode b 48) cd_13).trans dX1_beLookedAfter_48
theorem e13_51 : decode (ma_cd 13) 51 = .ok (.putfield 32, 3) := (congrArg (fun b => decode b 51) cd_13).trans dX1_beLookedAfter_51
theorem e13_54 : decode (ma_cd 13) 54 = .ok (.return_, 1) := (congrArg (fun b => decode b 54) cd_13).trans dX1_beLookedAfter_54
theorem S13 {ro : ma_RO} {d : Nat} : (∀ (a1 : Nat) (st : List Value) (σ : ma_H), ma_rn ro d 13 (0, [some (.ref a1)], st, SH, σ) = ma_rn ro d 13 (1, [some (.ref a1)], .ref a1 :: st, SH, σ)) ∧
  (∀ (v0 : Option Value) (st : List Value) (σ : ma_H), ma_rn ro d 13 (1, [v0], st, SH, σ) = ma_rn ro d 13 (2, [v0], .int (nI 0) :: st, SH, σ)) ∧
  (∀ (v0 : Option Value) (x1 : Int32) (a2 : Nat) (st : List Value) (σ : ma_H) (hx : ma_fitI .boolean x1 = true) (hc : hk_cls a2 = 1), ma_rn ro d 13 (2, [v0], .int x1 :: .ref a2 :: st, SH, σ) = ma_rn ro d 13 (5, [v0], st, SH, (ma_up σ a2 3 x1))) ∧
  (∀ (a1 : Nat) (st : List Value) (σ : ma_H), ma_rn ro d 13 (5, [some (.ref a1)], st, SH, σ) = ma_rn ro d 13 (6, [some (.ref a1)], .ref a1 :: st, SH, σ)) ∧
  (∀ (v0 : Option Value) (st : List Value) (σ : ma_H), ma_rn ro d 13 (6, [v0], st, SH, σ) = ma_rn ro d 13 (8, [v0], .int (nI 90) :: st, SH, σ)) ∧
  (∀ (v0 : Option Value) (st : List Value) (σ : ma_H), ma_rn ro d 13 (8, [v0], st, SH, σ) = ma_rn ro d 13 (10, [v0], .int (nI 10) :: st, SH, σ)) ∧
  (∀ (a1 : Nat) (st : List Value) (σ : ma_H), ma_rn ro d 13 (10, [some (.ref a1)], st, SH, σ) = ma_rn ro d 13 (11, [some (.ref a1)], .ref a1 :: st, SH, σ)) ∧
  (∀ (v0 : Option Value) (a1 : Nat) (st : List Value) (σ : ma_H) (hc : hk_cls a1 = 1), ma_rn ro d 13 (11, [v0], .ref a1 :: st, SH, σ) = ma_rn ro d 13 (14, [v0], .int (σ a1 7) :: st, SH, σ)) ∧
  (∀ (v0 : Option Value) (x1 : Int32) (x2 : Int32) (st : List Value) (σ : ma_H), ma_rn ro d 13 (14, [v0], .int x1 :: .int x2 :: st, SH, σ) = ma_rn ro d 13 (15, [v0], .int (x2 * x1) :: st, SH, σ)) ∧
  (∀ (v0 : Option Value) (x1 : Int32) (x2 : Int32) (st : List Value) (σ : ma_H), ma_rn ro d 13 (15, [v0], .int x1 :: .int x2 :: st, SH, σ) = ma_rn ro d 13 (16, [v0], .int (x2 - x1) :: st, SH, σ)) ∧
  (∀ (v0 : Option Value) (st : List Value) (σ : ma_H), ma_rn ro d 13 (16, [v0], st, SH, σ) = ma_rn ro d 13 (18, [v0], .int (nI 99) :: st, SH, σ)) ∧
  (∀ (v0 : Option Value) (a20 : Nat) (x1 : Int32) (x2 : Int32) (σ : ma_H), ma_rn ro (d + 1) 13 (18, [v0], .int x2 :: .int x1 :: .ref a20 :: [], SH, σ) = (ma_ev ro d 90 [.int x1, .int x2] SH σ).bind (fun q => ma_rn ro (d + 1) 13 (21, [v0], (q.1.toList ++ (.ref a20 :: [])), q.2.1, q.2.2))) ∧
  (∀ (v0 : Option Value) (x1 : Int32) (a2 : Nat) (st : List Value) (σ : ma_H) (hc : hk_cls a2 = 1), ma_rn ro d 13 (21, [v0], .int x1 :: .ref a2 :: st, SH, σ) = ma_rn ro d 13 (24, [v0], st, SH, (ma_up σ a2 4 x1))) ∧
  (∀ (a1 : Nat) (st : List Value) (σ : ma_H), ma_rn ro d 13 (24, [some (.ref a1)], st, SH, σ) = ma_rn ro d 13 (25, [some (.ref a1)], .ref a1 :: st, SH, σ)) ∧
  (∀ (v0 : Option Value) (st : List Value) (σ : ma_H), ma_rn ro d 13 (25, [v0], st, SH, σ) = ma_rn ro d 13 (27, [v0], .int (nI 9) :: st, SH, σ)) ∧
  (∀ (a1 : Nat) (st : List Value) (σ : ma_H), ma_rn ro d 13 (27, [some (.ref a1)], st, SH, σ) = ma_rn ro d 13 (28, [some (.ref a1)], .ref a1 :: st, SH, σ)) ∧
  (∀ (v0 : Option Value) (a1 : Nat) (st : List Value) (σ : ma_H) (hc : hk_cls a1 = 1), ma_rn ro d 13 (28, [v0], .ref a1 :: st, SH, σ) = ma_rn ro d 13 (31, [v0], .int (σ a1 7) :: st, SH, σ)) ∧
  (∀ (v0 : Option Value) (st : List Value) (σ : ma_H), ma_rn ro d 13 (31, [v0], st, SH, σ) = ma_rn ro d 13 (32, [v0], .int (nI 1) :: st, SH, σ)) ∧
  (∀ (v0 : Option Value) (x1 : Int32) (x2 : Int32) (st : List Value) (σ : ma_H), ma_rn ro d 13 (32, [v0], .int x1 :: .int x2 :: st, SH, σ) = ma_rn ro d 13 (33, [v0], .int (x2 + x1) :: st, SH, σ)) ∧
  (∀ (v0 : Option Value) (x1 : Int32) (x2 : Int32) (a20 : Nat) (σ : ma_H), ma_rn ro d 13 (33, [v0], .int x1 :: .int x2 :: .ref a20 :: [], SH, σ) = ma_rn ro d 13 (36, [v0], .int (if x1 < x2 then x1 else x2) :: .ref a20 :: [], SH, σ)) ∧
  (∀ (v0 : Option Value) (x1 : Int32) (a2 : Nat) (st : List Value) (σ : ma_H) (hc : hk_cls a2 = 1), ma_rn ro d 13 (36, [v0], .int x1 :: .ref a2 :: st, SH, σ) = ma_rn ro d 13 (39, [v0], st, SH, (ma_up σ a2 7 x1))) ∧
  (∀ (a1 : Nat) (st : List Value) (σ : ma_H), ma_rn ro d 13 (39, [some (.ref a1)], st, SH, σ) = ma_rn ro d 13 (40, [some (.ref a1)], .ref a1 :: st, SH, σ)) ∧
  (∀ (v0 : Option Value) (st : List Value) (σ : ma_H), ma_rn ro d 13 (40, [v0], st, SH, σ) = ma_rn ro d 13 (42, [v0], .int (nI 99) :: st, SH, σ)) ∧
  (∀ (a1 : Nat) (st : List Value) (σ : ma_H), ma_rn ro d 13 (42, [some (.ref a1)], st, SH, σ) = ma_rn ro d 13 (43, [some (.ref a1)], .ref a1 :: st, SH, σ)) ∧
  (∀ (v0 : Option Value) (a1 : Nat) (st : List Value) (σ : ma_H) (hc : hk_cls a1 = 1), ma_rn ro d 13 (43, [v0], .ref a1 :: st, SH, σ) = ma_rn ro d 13 (46, [v0], .int (σ a1 5) :: st, SH, σ)) ∧
  (∀ (v0 : Option Value) (st : List Value) (σ : ma_H), ma_rn ro d 13 (46, [v0], st, SH, σ) = ma_rn ro d 13 (47, [v0], .int (nI 2) :: st, SH, σ)) ∧
  (∀ (v0 : Option Value) (x1 : Int32) (x2 : Int32) (st : List Value) (σ : ma_H), ma_rn ro d 13 (47, [v0], .int x1 :: .int x2 :: st, SH, σ) = ma_rn ro d 13 (48, [v0], .int (x2 + x1) :: st, SH, σ)) ∧
  (∀ (v0 : Option Value) (x1 : Int32) (x2 : Int32) (a20 : Nat) (σ : ma_H), ma_rn ro d 13 (48, [v0], .int x1 :: .int x2 :: .ref a20 :: [], SH, σ) = ma_rn ro d 13 (51, [v0], .int (if x1 < x2 then x1 else x2) :: .ref a20 :: [], SH, σ)) ∧
  (∀ (v0 : Option Value) (x1 : Int32) (a2 : Nat) (st : List Value) (σ : ma_H) (hc : hk_cls a2 = 1), ma_rn ro d 13 (51, [v0], .int x1 :: .ref a2 :: st, SH, σ) = ma_rn ro d 13 (54, [v0], st, SH, (ma_up σ a2 5 x1))) ∧
  (∀ (v0 : Option Value) (σ : ma_H), ma_rn ro d 13 (54, [v0], [], SH, σ) = some (none, SH, σ)) := ⟨fun a1 st σ => q_go e13_0 rfl rfl,
  fun v0 st σ => q_iconst e13_1 (by decide),
  fun v0 x1 a2 st σ hx hc => q_putI e13_2 o_13 f_1_25 (by decide) hx hc,
  fun a1 st σ => q_go e13_5 rfl rfl,
  fun v0 st σ => q_bipush e13_6 (by decide),
  fun v0 st σ => q_bipush e13_8 (by decide),
  fun a1 st σ => q_go e13_10 rfl rfl,
  fun v0 a1 st σ hc => q_getI e13_11 o_13 f_1_38 (by decide) hc,
  fun v0 x1 x2 st σ => q_go e13_14 rfl rfl,
  fun v0 x1 x2 st σ => q_go e13_15 rfl rfl,
  fun v0 st σ => q_bipush e13_16 (by decide),
  fun v0 a20 x1 x2 σ => q_invS (as := [.int x1, .int x2]) (rest := .ref a20 :: []) e13_18 o_13 bn_1_55 c_1_55 ⟨m_90.1, m_90.2.1, m_90.2.2.1⟩ rfl rfl (Nat.le_of_ble_eq_true rfl) (Nat.le_of_ble_eq_true rfl),
  fun v0 x1 a2 st σ hc => q_putI e13_21 o_13 f_1_29 (by decide) rfl hc,
  fun a1 st σ => q_go e13_24 rfl rfl,
  fun v0 st σ => q_bipush e13_25 (by decide),
  fun a1 st σ => q_go e13_27 rfl rfl,
  fun v0 a1 st σ hc => q_getI e13_28 o_13 f_1_38 (by decide) hc,
  fun v0 st σ => q_iconst e13_31 (by decide),
  fun v0 x1 x2 st σ => q_go e13_32 rfl rfl,
  fun v0 x1 x2 a20 σ => q_bt e13_33 o_13 b_1_64 (by decide) (Nat.le_of_ble_eq_true rfl),
  fun v0 x1 a2 st σ hc => q_putI e13_36 o_13 f_1_38 (by decide) rfl hc,
  fun a1 st σ => q_go e13_39 rfl rfl,
  fun v0 st σ => q_bipush e13_40 (by decide),
  fun a1 st σ => q_go e13_42 rfl rfl,
  fun v0 a1 st σ hc => q_getI e13_43 o_13 f_1_32 (by decide) hc,
  fun v0 st σ => q_iconst e13_46 (by decide),
  fun v0 x1 x2 st σ => q_go e13_47 rfl rfl,
  fun v0 x1 x2 a20 σ => q_bt e13_48 o_13 b_1_64 (by decide) (Nat.le_of_ble_eq_true rfl),
  fun v0 x1 a2 st σ hc => q_putI e13_51 o_13 f_1_32 (by decide) rfl hc,
  fun v0 σ => q_vret e13_54 r_13⟩
theorem E13 {ro : ma_RO} {d : Nat} (a0 : Nat) (sh : List ma_Sh) (σ : ma_H) : ma_ev ro d 13 [.ref a0] sh σ = ma_rn ro d 13 (0, [some (.ref a0)], [], sh, σ) := q_ent x_13 rfl
theorem e14_0 : decode (ma_cd 14) 0 = .ok (.iload_n 2, 1) := (congrArg (fun b => decode b 0) cd_14).trans dX1_doubtAt_0
theorem e14_1 : decode (ma_cd 14) 1 = .ok (.iload_n 1, 1) := (congrArg (fun b => decode b 1) cd_14).trans dX1_doubtAt_1
theorem e14_2 : decode (ma_cd 14) 2 = .ok (.imul, 1) := (congrArg (fun b => decode b 2) cd_14).trans dX1_doubtAt_2
theorem e14_3 : decode (ma_cd 14) 3 = .ok (.aload_n 0, 1) := (congrArg (fun b => decode b 3) cd_14).trans dX1_doubtAt_3
theorem e14_4 : decode (ma_cd 14) 4 = .ok (.getfield 29, 3) := (congrArg (fun b => decode b 4) cd_14).trans dX1_doubtAt_4
theorem e14_7 : decode (ma_cd 14) 7 = .ok (.isub, 1) := (congrArg (fun b => decode b 7) cd_14).trans dX1_doubtAt_7
theorem e14_8 : decode (ma_cd 14) 8 = .ok (.ireturn, 1) := (congrArg (fun b => decode b 8) cd_14).trans dX1_doubtAt_8
theorem S14 {ro : ma_RO} {d : Nat} : (∀ (v0 : Option Value) (v1 : Option Value) (x1 : Int32) (st : List Value) (σ : ma_H), ma_rn ro d 14 (0, [v0, v1, some (.int x1)], st, SH, σ) = ma_rn ro d 14 (1, [v0, v1, some (.int x1)], .int x1 :: st, SH, σ)) ∧
  (∀ (v0 : Option Value) (v2 : Option Value) (x1 : Int32) (st : List Value) (σ : ma_H), ma_rn ro d 14 (1, [v0, some (.int x1), v2], st, SH, σ) = ma_rn ro d 14 (2, [v0, some (.int x1), v2], .int x1 :: st, SH, σ)) ∧
  (∀ (v0 : Option Value) (v1 : Option Value) (v2 : Option Value) (x1 : Int32) (x2 : Int32) (st : List Value) (σ : ma_H), ma_rn ro d 14 (2, [v0, v1, v2], .int x1 :: .int x2 :: st, SH, σ) = ma_rn ro d 14 (3, [v0, v1, v2], .int (x2 * x1) :: st, SH, σ)) ∧
  (∀ (v1 : Option Value) (v2 : Option Value) (a1 : Nat) (st : List Value) (σ : ma_H), ma_rn ro d 14 (3, [some (.ref a1), v1, v2], st, SH, σ) = ma_rn ro d 14 (4, [some (.ref a1), v1, v2], .ref a1 :: st, SH, σ)) ∧
  (∀ (v0 : Option Value) (v1 : Option Value) (v2 : Option Value) (a1 : Nat) (st : List Value) (σ : ma_H) (hc : hk_cls a1 = 1), ma_rn ro d 14 (4, [v0, v1, v2], .ref a1 :: st, SH, σ) = ma_rn ro d 14 (7, [v0, v1, v2], .int (σ a1 4) :: st, SH, σ)) ∧
  (∀ (v0 : Option Value) (v1 : Option Value) (v2 : Option Value) (x1 : Int32) (x2 : Int32) (st : List Value) (σ : ma_H), ma_rn ro d 14 (7, [v0, v1, v2], .int x1 :: .int x2 :: st, SH, σ) = ma_rn ro d 14 (8, [v0, v1, v2], .int (x2 - x1) :: st, SH, σ)) ∧
  (∀ (v0 : Option Value) (v1 : Option Value) (v2 : Option Value) (x1 : Int32) (σ : ma_H), ma_rn ro d 14 (8, [v0, v1, v2], [.int x1], SH, σ) = some (some (.int x1), SH, σ)) := ⟨fun v0 v1 x1 st σ => q_go e14_0 rfl rfl,
  fun v0 v2 x1 st σ => q_go e14_1 rfl rfl,
  fun v0 v1 v2 x1 x2 st σ => q_go e14_2 rfl rfl,
  fun v1 v2 a1 st σ => q_go e14_3 rfl rfl,
  fun v0 v1 v2 a1 st σ hc => q_getI e14_4 o_14 f_1_29 (by decide) hc,
  fun v0 v1 v2 x1 x2 st σ => q_go e14_7 rfl rfl,
  fun v0 v1 v2 x1 σ => q_iret e14_8 r_14⟩
theorem E14 {ro : ma_RO} {d : Nat} (a0 : Nat) (x1 : Int32) (x2 : Int32) (sh : List ma_Sh) (σ : ma_H) : ma_ev ro d 14 [.ref a0, .int x1, .int x2] sh σ = ma_rn ro d 14 (0, [some (.ref a0), some (.int x1), some (.int x2)], [], sh, σ) := q_ent x_14 rfl
theorem e15_0 : decode (ma_cd 15) 0 = .ok (.iconst 0, 1) := (congrArg (fun b => decode b 0) cd_15).trans dX1_yardBack_0
theorem e15_1 : decode (ma_cd 15) 1 = .ok (.istore_n 2, 1) := (congrArg (fun b => decode b 1) cd_15).trans dX1_yardBack_1
theorem e15_2 : decode (ma_cd 15) 2 = .ok (.iload_n 2, 1) := (congrArg (fun b => decode b 2) cd_15).trans dX1_yardBack_2
theorem e15_3 : decode (ma_cd 15) 3 = .ok (.bipush 60, 2) := (congrArg (fun b => decode b 3) cd_15).trans dX1_yardBack_3
theorem e15_5 : decode (ma_cd 15) 5 = .ok (.if_icmp .gt 20, 3) := (congrArg (fun b => decode b 5) cd_15).trans dX1_yardBack_5
theorem e15_8 : decode (ma_cd 15) 8 = .ok (.aload_n 0, 1) := (congrArg (fun b => decode b 8) cd_15).trans dX1_yardBack_8
theorem e15_9 : decode (ma_cd 15) 9 = .ok (.iload_n 2, 1) := (congrArg (fun b => decode b 9) cd_15).trans dX1_yardBack_9
theorem e15_10 : decode (ma_cd 15) 10 = .ok (.iload_n 1, 1) := (congrArg (fun b => decode b 10) cd_15).trans dX1_yardBack_10
theorem e15_11 : decode (ma_cd 15) 11 = .ok (.invokevirtual 67, 3) := (congrArg (fun b => decode b 11) cd_15).trans dX1_yardBack_11
theorem e15_14 : decode (ma_cd 15) 14 = .ok (.ifCond .le 5, 3) := (congrArg (fun b => decode b 14) cd_15).trans dX1_yardBack_14
theorem e15_17 : decode (ma_cd 15) 17 = .ok (.iload_n 2, 1) := (congrArg (fun b => decode b 17) cd_15).trans dX1_yardBack_17
theorem e15_18 : decode (ma_cd 15) 18 = .ok (.ireturn, 1) := (congrArg (fun b => decode b 18) cd_15).trans dX1_yardBack_18
theorem e15_19 : decode (ma_cd 15) 19 = .ok (.iinc 2 1, 3) := (congrArg (fun b => decode b 19) cd_15).trans dX1_yardBack_19
theorem e15_22 : decode (ma_cd 15) 22 = .ok (.goto (-20), 3) := (congrArg (fun b => decode b 22) cd_15).trans dX1_yardBack_22
theorem e15_25 : decode (ma_cd 15) 25 = .ok (.bipush (-5), 2) := (congrArg (fun b => decode b 25) cd_15).trans dX1_yardBack_25
theorem e15_27 : decode (ma_cd 15) 27 = .ok (.ireturn, 1) := (congrArg (fun b => decode b 27) cd_15).trans dX1_yardBack_27
theorem Sh15_2 {ro : ma_RO} {d : Nat} : (∀ (v0 : Option Value) (v1 : Option Value) (x1 : Int32) (st : List Value) (σ : ma_H), ma_rn ro d 15 (2, [v0, v1, some (.int x1)], st, SH, σ) = ma_rn ro d 15 (3, [v0, v1, some (.int x1)], .int x1 :: st, SH, σ)) := fun v0 v1 x1 st σ => q_go e15_2 rfl rfl
theorem S15 {ro : ma_RO} {d : Nat} : (∀ (v0 : Option Value) (v1 : Option Value) (v2 : Option Value) (st : List Value) (σ : ma_H), ma_rn ro d 15 (0, [v0, v1, v2], st, SH, σ) = ma_rn ro d 15 (1, [v0, v1, v2], .int (nI 0) :: st, SH, σ)) ∧
  (∀ (v0 : Option Value) (v2 : Option Value) (x9 : Int32) (x1 : Int32) (st : List Value) (σ : ma_H), ma_rn ro d 15 (1, [v0, some (.int x9), v2], .int x1 :: st, SH, σ) = ma_rn ro d 15 (2, [v0, some (.int x9), some (.int x1)], st, SH, σ)) ∧
  (∀ (v0 : Option Value) (v1 : Option Value) (v2 : Option Value) (st : List Value) (σ : ma_H), ma_rn ro d 15 (3, [v0, v1, v2], st, SH, σ) = ma_rn ro d 15 (5, [v0, v1, v2], .int (nI 60) :: st, SH, σ)) ∧
  (∀ (v0 : Option Value) (v1 : Option Value) (v2 : Option Value) (x1 : Int32) (x2 : Int32) (st : List Value) (σ : ma_H), ma_rn ro d 15 (5, [v0, v1, v2], .int x1 :: .int x2 :: st, SH, σ) = if x1 < x2 then ma_rn ro d 15 (25, [v0, v1, v2], st, SH, σ) else ma_rn ro d 15 (8, [v0, v1, v2], st, SH, σ)) ∧
  (∀ (v1 : Option Value) (v2 : Option Value) (a1 : Nat) (st : List Value) (σ : ma_H), ma_rn ro d 15 (8, [some (.ref a1), v1, v2], st, SH, σ) = ma_rn ro d 15 (9, [some (.ref a1), v1, v2], .ref a1 :: st, SH, σ)) ∧
  (∀ (v0 : Option Value) (v1 : Option Value) (x1 : Int32) (st : List Value) (σ : ma_H), ma_rn ro d 15 (9, [v0, v1, some (.int x1)], st, SH, σ) = ma_rn ro d 15 (10, [v0, v1, some (.int x1)], .int x1 :: st, SH, σ)) ∧
  (∀ (v0 : Option Value) (v2 : Option Value) (x1 : Int32) (st : List Value) (σ : ma_H), ma_rn ro d 15 (10, [v0, some (.int x1), v2], st, SH, σ) = ma_rn ro d 15 (11, [v0, some (.int x1), v2], .int x1 :: st, SH, σ)) ∧
  (∀ (v0 : Option Value) (v1 : Option Value) (v2 : Option Value) (x1 : Int32) (x2 : Int32) (a0 : Nat) (σ : ma_H) (hc : hk_cls a0 = 1), ma_rn ro (d + 1) 15 (11, [v0, v1, v2], .int x2 :: .int x1 :: .ref a0 :: [], SH, σ) = (ma_ev ro d 14 [.ref a0, .int x1, .int x2] SH σ).bind (fun q => ma_rn ro (d + 1) 15 (14, [v0, v1, v2], (q.1.toList ++ []), q.2.1, q.2.2))) ∧
  (∀ (v0 : Option Value) (v1 : Option Value) (v2 : Option Value) (x1 : Int32) (st : List Value) (σ : ma_H), ma_rn ro d 15 (14, [v0, v1, v2], .int x1 :: st, SH, σ) = if nI 0 < x1 then ma_rn ro d 15 (17, [v0, v1, v2], st, SH, σ) else ma_rn ro d 15 (19, [v0, v1, v2], st, SH, σ)) ∧
  (∀ (v0 : Option Value) (v1 : Option Value) (x1 : Int32) (st : List Value) (σ : ma_H), ma_rn ro d 15 (17, [v0, v1, some (.int x1)], st, SH, σ) = ma_rn ro d 15 (18, [v0, v1, some (.int x1)], .int x1 :: st, SH, σ)) ∧
  (∀ (v0 : Option Value) (v1 : Option Value) (v2 : Option Value) (x1 : Int32) (σ : ma_H), ma_rn ro d 15 (18, [v0, v1, v2], [.int x1], SH, σ) = some (some (.int x1), SH, σ)) ∧
  (∀ (v0 : Option Value) (x1 : Int32) (x9 : Int32) (st : List Value) (σ : ma_H), ma_rn ro d 15 (19, [v0, some (.int x9), some (.int x1)], st, SH, σ) = ma_rn ro d 15 (22, [v0, some (.int x9), some (.int (x1 + nI 1))], st, SH, σ)) ∧
  (∀ (v0 : Option Value) (v1 : Option Value) (v2 : Option Value) (st : List Value) (σ : ma_H), ma_rn ro d 15 (22, [v0, v1, v2], st, SH, σ) = ma_rn ro d 15 (2, [v0, v1, v2], st, SH, σ)) ∧
  (∀ (v0 : Option Value) (v1 : Option Value) (v2 : Option Value) (st : List Value) (σ : ma_H), ma_rn ro d 15 (25, [v0, v1, v2], st, SH, σ) = ma_rn ro d 15 (27, [v0, v1, v2], .int ((-5)) :: st, SH, σ)) ∧
  (∀ (v0 : Option Value) (v1 : Option Value) (v2 : Option Value) (x1 : Int32) (σ : ma_H), ma_rn ro d 15 (27, [v0, v1, v2], [.int x1], SH, σ) = some (some (.int x1), SH, σ)) := ⟨fun v0 v1 v2 st σ => q_iconst e15_0 (by decide),
  fun v0 v2 x9 x1 st σ => q_go e15_1 rfl rfl,
  fun v0 v1 v2 st σ => q_bipush e15_3 (by decide),
  fun v0 v1 v2 x1 x2 st σ => (q_cmp e15_5 rfl).trans q_gt,
  fun v1 v2 a1 st σ => q_go e15_8 rfl rfl,
  fun v0 v1 x1 st σ => q_go e15_9 rfl rfl,
  fun v0 v2 x1 st σ => q_go e15_10 rfl rfl,
  fun v0 v1 v2 x1 x2 a0 σ hc => q_invV (as := [.int x1, .int x2]) (rest := []) e15_11 o_15 bn_1_67 c_1_67 m_14 (by decide) rfl rfl (Nat.le_of_ble_eq_true rfl) (Nat.le_of_ble_eq_true rfl) hc,
  fun v0 v1 v2 x1 st σ => (q_if e15_14 rfl).trans q_ngt,
  fun v0 v1 x1 st σ => q_go e15_17 rfl rfl,
  fun v0 v1 v2 x1 σ => q_iret e15_18 r_15,
  fun v0 x1 x9 st σ => q_iinc e15_19 rfl rfl (by decide),
  fun v0 v1 v2 st σ => q_goto e15_22 rfl,
  fun v0 v1 v2 st σ => q_bipush e15_25 (by decide),
  fun v0 v1 v2 x1 σ => q_iret e15_27 r_15⟩
theorem E15 {ro : ma_RO} {d : Nat} (a0 : Nat) (x1 : Int32) (sh : List ma_Sh) (σ : ma_H) : ma_ev ro d 15 [.ref a0, .int x1] sh σ = ma_rn ro d 15 (0, [some (.ref a0), some (.int x1), none], [], sh, σ) := q_ent x_15 rfl
theorem e17_0 : decode (ma_cd 17) 0 = .ok (.aload_n 0, 1) := (congrArg (fun b => decode b 0) cd_17).trans dX2_clear_0
theorem e17_1 : decode (ma_cd 17) 1 = .ok (.iconst 2, 1) := (congrArg (fun b => decode b 1) cd_17).trans dX2_clear_1
theorem e17_2 : decode (ma_cd 17) 2 = .ok (.putfield 21, 3) := (congrArg (fun b => decode b 2) cd_17).trans dX2_clear_2
theorem e17_5 : decode (ma_cd 17) 5 = .ok (.aload_n 0, 1) := (congrArg (fun b => decode b 5) cd_17).trans dX2_clear_5
theorem e17_6 : decode (ma_cd 17) 6 = .ok (.iconst 0, 1) := (congrArg (fun b => decode b 6) cd_17).trans dX2_clear_6
theorem e17_7 : decode (ma_cd 17) 7 = .ok (.putfield 25, 3) := (congrArg (fun b => decode b 7) cd_17).trans dX2_clear_7
theorem e17_10 : decode (ma_cd 17) 10 = .ok (.aload_n 0, 1) := (congrArg (fun b => decode b 10) cd_17).trans dX2_clear_10
theorem e17_11 : decode (ma_cd 17) 11 = .ok (.iconst 0, 1) := (congrArg (fun b => decode b 11) cd_17).trans dX2_clear_11
theorem e17_12 : decode (ma_cd 17) 12 = .ok (.putfield 28, 3) := (congrArg (fun b => decode b 12) cd_17).trans dX2_clear_12
theorem e17_15 : decode (ma_cd 17) 15 = .ok (.return_, 1) := (congrArg (fun b => decode b 15) cd_17).trans dX2_clear_15
theorem S17 {ro : ma_RO} {d : Nat} : (∀ (a1 : Nat) (st : List Value) (σ : ma_H), ma_rn ro d 17 (0, [some (.ref a1)], st, SH, σ) = ma_rn ro d 17 (1, [some (.ref a1)], .ref a1 :: st, SH, σ)) ∧
  (∀ (v0 : Option Value) (st : List Value) (σ : ma_H), ma_rn ro d 17 (1, [v0], st, SH, σ) = ma_rn ro d 17 (2, [v0], .int (nI 2) :: st, SH, σ)) ∧
  (∀ (v0 : Option Value) (x1 : Int32) (a2 : Nat) (st : List Value) (σ : ma_H) (hc : hk_cls a2 = 2), ma_rn ro d 17 (2, [v0], .int x1 :: .ref a2 :: st, SH, σ) = ma_rn ro d 17 (5, [v0], st, SH, (ma_up σ a2 0 x1))) ∧
  (∀ (a1 : Nat) (st : List Value) (σ : ma_H), ma_rn ro d 17 (5, [some (.ref a1)], st, SH, σ) = ma_rn ro d 17 (6, [some (.ref a1)], .ref a1 :: st, SH, σ)) ∧
  (∀ (v0 : Option Value) (st : List Value) (σ : ma_H), ma_rn ro d 17 (6, [v0], st, SH, σ) = ma_rn ro d 17 (7, [v0], .int (nI 0) :: st, SH, σ)) ∧
  (∀ (v0 : Option Value) (x1 : Int32) (a2 : Nat) (st : List Value) (σ : ma_H) (hc : hk_cls a2 = 2), ma_rn ro d 17 (7, [v0], .int x1 :: .ref a2 :: st, SH, σ) = ma_rn ro d 17 (10, [v0], st, SH, (ma_up σ a2 3 x1))) ∧
  (∀ (a1 : Nat) (st : List Value) (σ : ma_H), ma_rn ro d 17 (10, [some (.ref a1)], st, SH, σ) = ma_rn ro d 17 (11, [some (.ref a1)], .ref a1 :: st, SH, σ)) ∧
  (∀ (v0 : Option Value) (st : List Value) (σ : ma_H), ma_rn ro d 17 (11, [v0], st, SH, σ) = ma_rn ro d 17 (12, [v0], .int (nI 0) :: st, SH, σ)) ∧
  (∀ (v0 : Option Value) (x1 : Int32) (a2 : Nat) (st : List Value) (σ : ma_H) (hc : hk_cls a2 = 2), ma_rn ro d 17 (12, [v0], .int x1 :: .ref a2 :: st, SH, σ) = ma_rn ro d 17 (15, [v0], st, SH, (ma_up σ a2 5 x1))) ∧
  (∀ (v0 : Option Value) (σ : ma_H), ma_rn ro d 17 (15, [v0], [], SH, σ) = some (none, SH, σ)) := ⟨fun a1 st σ => q_go e17_0 rfl rfl,
  fun v0 st σ => q_iconst e17_1 (by decide),
  fun v0 x1 a2 st σ hc => q_putI e17_2 o_17 f_2_21 (by decide) rfl hc,
  fun a1 st σ => q_go e17_5 rfl rfl,
  fun v0 st σ => q_iconst e17_6 (by decide),
  fun v0 x1 a2 st σ hc => q_putI e17_7 o_17 f_2_25 (by decide) rfl hc,
  fun a1 st σ => q_go e17_10 rfl rfl,
  fun v0 st σ => q_iconst e17_11 (by decide),
  fun v0 x1 a2 st σ hc => q_putI e17_12 o_17 f_2_28 (by decide) rfl hc,
  fun v0 σ => q_vret e17_15 r_17⟩
theorem E17 {ro : ma_RO} {d : Nat} (a0 : Nat) (sh : List ma_Sh) (σ : ma_H) : ma_ev ro d 17 [.ref a0] sh σ = ma_rn ro d 17 (0, [some (.ref a0)], [], sh, σ) := q_ent x_17 rfl
theorem e18_0 : decode (ma_cd 18) 0 = .ok (.aload_n 0, 1) := (congrArg (fun b => decode b 0) cd_18).trans dX2_copyFrom_0
theorem e18_1 : decode (ma_cd 18) 1 = .ok (.aload_n 1, 1) := (congrArg (fun b => decode b 1) cd_18).trans dX2_copyFrom_1
theorem e18_2 : decode (ma_cd 18) 2 = .ok (.getfield 21, 3) := (congrArg (fun b => decode b 2) cd_18).trans dX2_copyFrom_2
theorem e18_5 : decode (ma_cd 18) 5 = .ok (.putfield 21, 3) := (congrArg (fun b => decode b 5) cd_18).trans dX2_copyFrom_5
theorem e18_8 : decode (ma_cd 18) 8 = .ok (.aload_n 0, 1) := (congrArg (fun b => decode b 8) cd_18).trans dX2_copyFrom_8
theorem e18_9 : decode (ma_cd 18) 9 = .ok (.aload_n 1, 1) := (congrArg (fun b => decode b 9) cd_18).trans dX2_copyFrom_9
theorem e18_10 : decode (ma_cd 18) 10 = .ok (.getfield 25, 3) := (congrArg (fun b => decode b 10) cd_18).trans dX2_copyFrom_10
theorem e18_13 : decode (ma_cd 18) 13 = .ok (.putfield 25, 3) := (congrArg (fun b => decode b 13) cd_18).trans dX2_copyFrom_13
theorem e18_16 : decode (ma_cd 18) 16 = .ok (.aload_n 0, 1) := (congrArg (fun b => decode b 16) cd_18).trans dX2_copyFrom_16
theorem e18_17 : decode (ma_cd 18) 17 = .ok (.aload_n 1, 1) := (congrArg (fun b => decode b 17) cd_18).trans dX2_copyFrom_17
theorem e18_18 : decode (ma_cd 18) 18 = .ok (.getfield 28, 3) := (congrArg (fun b => decode b 18) cd_18).trans dX2_copyFrom_18
theorem e18_21 : decode (ma_cd 18) 21 = .ok (.putfield 28, 3) := (congrArg (fun b => decode b 21) cd_18).trans dX2_copyFrom_21
theorem e18_24 : decode (ma_cd 18) 24 = .ok (.aload_n 1, 1) := (congrArg (fun b => decode b 24) cd_18).trans dX2_copyFrom_24
theorem e18_25 : decode (ma_cd 18) 25 = .ok (.getfield 9, 3) := (congrArg (fun b => decode b 25) cd_18).trans dX2_copyFrom_25
theorem e18_28 : decode (ma_cd 18) 28 = .ok (.aload_n 0, 1) := (congrArg (fun b => decode b 28) cd_18).trans dX2_copyFrom_28
theorem e18_29 : decode (ma_cd 18) 29 = .ok (.getfield 9, 3) := (congrArg (fun b => decode b 29) cd_18).trans dX2_copyFrom_29
theorem e18_32 : decode (ma_cd 18) 32 = .ok (.invokestatic 31, 3) := (congrArg (fun b => decode b 32) cd_18).trans dX2_copyFrom_32
theorem e18_35 : decode (ma_cd 18) 35 = .ok (.aload_n 1, 1) := (congrArg (fun b => decode b 35) cd_18).trans dX2_copyFrom_35
theorem e18_36 : decode (ma_cd 18) 36 = .ok (.getfield 15, 3) := (congrArg (fun b => decode b 36) cd_18).trans dX2_copyFrom_36
theorem e18_39 : decode (ma_cd 18) 39 = .ok (.aload_n 0, 1) := (congrArg (fun b => decode b 39) cd_18).trans dX2_copyFrom_39
theorem e18_40 : decode (ma_cd 18) 40 = .ok (.getfield 15, 3) := (congrArg (fun b => decode b 40) cd_18).trans dX2_copyFrom_40
theorem e18_43 : decode (ma_cd 18) 43 = .ok (.invokestatic 31, 3) := (congrArg (fun b => decode b 43) cd_18).trans dX2_copyFrom_43
theorem e18_46 : decode (ma_cd 18) 46 = .ok (.aload_n 1, 1) := (congrArg (fun b => decode b 46) cd_18).trans dX2_copyFrom_46
theorem e18_47 : decode (ma_cd 18) 47 = .ok (.getfield 18, 3) := (congrArg (fun b => decode b 47) cd_18).trans dX2_copyFrom_47
theorem e18_50 : decode (ma_cd 18) 50 = .ok (.aload_n 0, 1) := (congrArg (fun b => decode b 50) cd_18).trans dX2_copyFrom_50
theorem e18_51 : decode (ma_cd 18) 51 = .ok (.getfield 18, 3) := (congrArg (fun b => decode b 51) cd_18).trans dX2_copyFrom_51
theorem e18_54 : decode (ma_cd 18) 54 = .ok (.invokestatic 31, 3) := (congrArg (fun b => decode b 54) cd_18).trans dX2_copyFrom_54
theorem e18_57 : decode (ma_cd 18) 57 = .ok (.return_, 1) := (congrArg (fun b => decode b 57) cd_18).trans dX2_copyFrom_57
theorem S18 {ro : ma_RO} {d : Nat} : (∀ (v1 : Option Value) (a1 : Nat) (st : List Value) (σ : ma_H), ma_rn ro d 18 (0, [some (.ref a1), v1], st, SH, σ) = ma_rn ro d 18 (1, [some (.ref a1), v1], .ref a1 :: st, SH, σ)) ∧
  (∀ (v0 : Option Value) (a1 : Nat) (st : List Value) (σ : ma_H), ma_rn ro d 18 (1, [v0, some (.ref a1)], st, SH, σ) = ma_rn ro d 18 (2, [v0, some (.ref a1)], .ref a1 :: st, SH, σ)) ∧
  (∀ (v0 : Option Value) (v1 : Option Value) (a1 : Nat) (st : List Value) (σ : ma_H) (hc : hk_cls a1 = 2), ma_rn ro d 18 (2, [v0, v1], .ref a1 :: st, SH, σ) = ma_rn ro d 18 (5, [v0, v1], .int (σ a1 0) :: st, SH, σ)) ∧
  (∀ (v0 : Option Value) (v1 : Option Value) (x1 : Int32) (a2 : Nat) (st : List Value) (σ : ma_H) (hc : hk_cls a2 = 2), ma_rn ro d 18 (5, [v0, v1], .int x1 :: .ref a2 :: st, SH, σ) = ma_rn ro d 18 (8, [v0, v1], st, SH, (ma_up σ a2 0 x1))) ∧
  (∀ (v1 : Option Value) (a1 : Nat) (st : List Value) (σ : ma_H), ma_rn ro d 18 (8, [some (.ref a1), v1], st, SH, σ) = ma_rn ro d 18 (9, [some (.ref a1), v1], .ref a1 :: st, SH, σ)) ∧
  (∀ (v0 : Option Value) (a1 : Nat) (st : List Value) (σ : ma_H), ma_rn ro d 18 (9, [v0, some (.ref a1)], st, SH, σ) = ma_rn ro d 18 (10, [v0, some (.ref a1)], .ref a1 :: st, SH, σ)) ∧
  (∀ (v0 : Option Value) (v1 : Option Value) (a1 : Nat) (st : List Value) (σ : ma_H) (hc : hk_cls a1 = 2), ma_rn ro d 18 (10, [v0, v1], .ref a1 :: st, SH, σ) = ma_rn ro d 18 (13, [v0, v1], .int (σ a1 3) :: st, SH, σ)) ∧
  (∀ (v0 : Option Value) (v1 : Option Value) (x1 : Int32) (a2 : Nat) (st : List Value) (σ : ma_H) (hc : hk_cls a2 = 2), ma_rn ro d 18 (13, [v0, v1], .int x1 :: .ref a2 :: st, SH, σ) = ma_rn ro d 18 (16, [v0, v1], st, SH, (ma_up σ a2 3 x1))) ∧
  (∀ (v1 : Option Value) (a1 : Nat) (st : List Value) (σ : ma_H), ma_rn ro d 18 (16, [some (.ref a1), v1], st, SH, σ) = ma_rn ro d 18 (17, [some (.ref a1), v1], .ref a1 :: st, SH, σ)) ∧
  (∀ (v0 : Option Value) (a1 : Nat) (st : List Value) (σ : ma_H), ma_rn ro d 18 (17, [v0, some (.ref a1)], st, SH, σ) = ma_rn ro d 18 (18, [v0, some (.ref a1)], .ref a1 :: st, SH, σ)) ∧
  (∀ (v0 : Option Value) (v1 : Option Value) (a1 : Nat) (st : List Value) (σ : ma_H) (hc : hk_cls a1 = 2), ma_rn ro d 18 (18, [v0, v1], .ref a1 :: st, SH, σ) = ma_rn ro d 18 (21, [v0, v1], .int (σ a1 5) :: st, SH, σ)) ∧
  (∀ (v0 : Option Value) (v1 : Option Value) (x1 : Int32) (a2 : Nat) (st : List Value) (σ : ma_H) (hc : hk_cls a2 = 2), ma_rn ro d 18 (21, [v0, v1], .int x1 :: .ref a2 :: st, SH, σ) = ma_rn ro d 18 (24, [v0, v1], st, SH, (ma_up σ a2 5 x1))) ∧
  (∀ (v0 : Option Value) (a1 : Nat) (st : List Value) (σ : ma_H), ma_rn ro d 18 (24, [v0, some (.ref a1)], st, SH, σ) = ma_rn ro d 18 (25, [v0, some (.ref a1)], .ref a1 :: st, SH, σ)) ∧
  (∀ (v0 : Option Value) (v1 : Option Value) (a1 : Nat) (st : List Value) (σ : ma_H) (hc : hk_cls a1 = 2), ma_rn ro d 18 (25, [v0, v1], .ref a1 :: st, SH, σ) = ma_rn ro d 18 (28, [v0, v1], .ref (a1 + 1) :: st, SH, σ)) ∧
  (∀ (v1 : Option Value) (a1 : Nat) (st : List Value) (σ : ma_H), ma_rn ro d 18 (28, [some (.ref a1), v1], st, SH, σ) = ma_rn ro d 18 (29, [some (.ref a1), v1], .ref a1 :: st, SH, σ)) ∧
  (∀ (v0 : Option Value) (v1 : Option Value) (a1 : Nat) (st : List Value) (σ : ma_H) (hc : hk_cls a1 = 2), ma_rn ro d 18 (29, [v0, v1], .ref a1 :: st, SH, σ) = ma_rn ro d 18 (32, [v0, v1], .ref (a1 + 1) :: st, SH, σ)) ∧
  (∀ (v0 : Option Value) (v1 : Option Value) (a1 : Nat) (a2 : Nat) (σ : ma_H), ma_rn ro (d + 1) 18 (32, [v0, v1], .ref a2 :: .ref a1 :: [], SH, σ) = (ma_ev ro d 91 [.ref a1, .ref a2] SH σ).bind (fun q => ma_rn ro (d + 1) 18 (35, [v0, v1], (q.1.toList ++ []), q.2.1, q.2.2))) ∧
  (∀ (v0 : Option Value) (a1 : Nat) (st : List Value) (σ : ma_H), ma_rn ro d 18 (35, [v0, some (.ref a1)], st, SH, σ) = ma_rn ro d 18 (36, [v0, some (.ref a1)], .ref a1 :: st, SH, σ)) ∧
  (∀ (v0 : Option Value) (v1 : Option Value) (a1 : Nat) (st : List Value) (σ : ma_H) (hc : hk_cls a1 = 2), ma_rn ro d 18 (36, [v0, v1], .ref a1 :: st, SH, σ) = ma_rn ro d 18 (39, [v0, v1], .ref (a1 + 2) :: st, SH, σ)) ∧
  (∀ (v1 : Option Value) (a1 : Nat) (st : List Value) (σ : ma_H), ma_rn ro d 18 (39, [some (.ref a1), v1], st, SH, σ) = ma_rn ro d 18 (40, [some (.ref a1), v1], .ref a1 :: st, SH, σ)) ∧
  (∀ (v0 : Option Value) (v1 : Option Value) (a1 : Nat) (st : List Value) (σ : ma_H) (hc : hk_cls a1 = 2), ma_rn ro d 18 (40, [v0, v1], .ref a1 :: st, SH, σ) = ma_rn ro d 18 (43, [v0, v1], .ref (a1 + 2) :: st, SH, σ)) ∧
  (∀ (v0 : Option Value) (v1 : Option Value) (a1 : Nat) (a2 : Nat) (σ : ma_H), ma_rn ro (d + 1) 18 (43, [v0, v1], .ref a2 :: .ref a1 :: [], SH, σ) = (ma_ev ro d 91 [.ref a1, .ref a2] SH σ).bind (fun q => ma_rn ro (d + 1) 18 (46, [v0, v1], (q.1.toList ++ []), q.2.1, q.2.2))) ∧
  (∀ (v0 : Option Value) (a1 : Nat) (st : List Value) (σ : ma_H), ma_rn ro d 18 (46, [v0, some (.ref a1)], st, SH, σ) = ma_rn ro d 18 (47, [v0, some (.ref a1)], .ref a1 :: st, SH, σ)) ∧
  (∀ (v0 : Option Value) (v1 : Option Value) (a1 : Nat) (st : List Value) (σ : ma_H) (hc : hk_cls a1 = 2), ma_rn ro d 18 (47, [v0, v1], .ref a1 :: st, SH, σ) = ma_rn ro d 18 (50, [v0, v1], .ref (a1 + 3) :: st, SH, σ)) ∧
  (∀ (v1 : Option Value) (a1 : Nat) (st : List Value) (σ : ma_H), ma_rn ro d 18 (50, [some (.ref a1), v1], st, SH, σ) = ma_rn ro d 18 (51, [some (.ref a1), v1], .ref a1 :: st, SH, σ)) ∧
  (∀ (v0 : Option Value) (v1 : Option Value) (a1 : Nat) (st : List Value) (σ : ma_H) (hc : hk_cls a1 = 2), ma_rn ro d 18 (51, [v0, v1], .ref a1 :: st, SH, σ) = ma_rn ro d 18 (54, [v0, v1], .ref (a1 + 3) :: st, SH, σ)) ∧
  (∀ (v0 : Option Value) (v1 : Option Value) (a1 : Nat) (a2 : Nat) (σ : ma_H), ma_rn ro (d + 1) 18 (54, [v0, v1], .ref a2 :: .ref a1 :: [], SH, σ) = (ma_ev ro d 91 [.ref a1, .ref a2] SH σ).bind (fun q => ma_rn ro (d + 1) 18 (57, [v0, v1], (q.1.toList ++ []), q.2.1, q.2.2))) ∧
  (∀ (v0 : Option Value) (v1 : Option Value) (σ : ma_H), ma_rn ro d 18 (57, [v0, v1], [], SH, σ) = some (none, SH, σ)) := ⟨fun v1 a1 st σ => q_go e18_0 rfl rfl,
  fun v0 a1 st σ => q_go e18_1 rfl rfl,
  fun v0 v1 a1 st σ hc => q_getI e18_2 o_18 f_2_21 (by decide) hc,
  fun v0 v1 x1 a2 st σ hc => q_putI e18_5 o_18 f_2_21 (by decide) rfl hc,
  fun v1 a1 st σ => q_go e18_8 rfl rfl,
  fun v0 a1 st σ => q_go e18_9 rfl rfl,
  fun v0 v1 a1 st σ hc => q_getI e18_10 o_18 f_2_25 (by decide) hc,
  fun v0 v1 x1 a2 st σ hc => q_putI e18_13 o_18 f_2_25 (by decide) rfl hc,
  fun v1 a1 st σ => q_go e18_16 rfl rfl,
  fun v0 a1 st σ => q_go e18_17 rfl rfl,
  fun v0 v1 a1 st σ hc => q_getI e18_18 o_18 f_2_28 (by decide) hc,
  fun v0 v1 x1 a2 st σ hc => q_putI e18_21 o_18 f_2_28 (by decide) rfl hc,
  fun v0 a1 st σ => q_go e18_24 rfl rfl,
  fun v0 v1 a1 st σ hc => q_getA e18_25 o_18 f_2_9 (by decide) hc,
  fun v1 a1 st σ => q_go e18_28 rfl rfl,
  fun v0 v1 a1 st σ hc => q_getA e18_29 o_18 f_2_9 (by decide) hc,
  fun v0 v1 a1 a2 σ => q_invS (as := [.ref a1, .ref a2]) (rest := []) e18_32 o_18 bn_2_31 c_2_31 ⟨m_91.1, m_91.2.1, m_91.2.2.1⟩ rfl rfl (Nat.le_of_ble_eq_true rfl) (Nat.le_of_ble_eq_true rfl),
  fun v0 a1 st σ => q_go e18_35 rfl rfl,
  fun v0 v1 a1 st σ hc => q_getA e18_36 o_18 f_2_15 (by decide) hc,
  fun v1 a1 st σ => q_go e18_39 rfl rfl,
  fun v0 v1 a1 st σ hc => q_getA e18_40 o_18 f_2_15 (by decide) hc,
  fun v0 v1 a1 a2 σ => q_invS (as := [.ref a1, .ref a2]) (rest := []) e18_43 o_18 bn_2_31 c_2_31 ⟨m_91.1, m_91.2.1, m_91.2.2.1⟩ rfl rfl (Nat.le_of_ble_eq_true rfl) (Nat.le_of_ble_eq_true rfl),
  fun v0 a1 st σ => q_go e18_46 rfl rfl,
  fun v0 v1 a1 st σ hc => q_getA e18_47 o_18 f_2_18 (by decide) hc,
  fun v1 a1 st σ => q_go e18_50 rfl rfl,
  fun v0 v1 a1 st σ hc => q_getA e18_51 o_18 f_2_18 (by decide) hc,
  fun v0 v1 a1 a2 σ => q_invS (as := [.ref a1, .ref a2]) (rest := []) e18_54 o_18 bn_2_31 c_2_31 ⟨m_91.1, m_91.2.1, m_91.2.2.1⟩ rfl rfl (Nat.le_of_ble_eq_true rfl) (Nat.le_of_ble_eq_true rfl),
  fun v0 v1 σ => q_vret e18_57 r_18⟩
theorem E18 {ro : ma_RO} {d : Nat} (a0 : Nat) (a1 : Nat) (sh : List ma_Sh) (σ : ma_H) : ma_ev ro d 18 [.ref a0, .ref a1] sh σ = ma_rn ro d 18 (0, [some (.ref a0), some (.ref a1)], [], sh, σ) := q_ent x_18 rfl
theorem e19_0 : decode (ma_cd 19) 0 = .ok (.aload_n 0, 1) := (congrArg (fun b => decode b 0) cd_19).trans dX2_addStep_0
theorem e19_1 : decode (ma_cd 19) 1 = .ok (.getfield 28, 3) := (congrArg (fun b => decode b 1) cd_19).trans dX2_addStep_1
theorem e19_4 : decode (ma_cd 19) 4 = .ok (.ifCond .lt 15, 3) := (congrArg (fun b => decode b 4) cd_19).trans dX2_addStep_4
theorem e19_7 : decode (ma_cd 19) 7 = .ok (.aload_n 0, 1) := (congrArg (fun b => decode b 7) cd_19).trans dX2_addStep_7
theorem e19_8 : decode (ma_cd 19) 8 = .ok (.getfield 28, 3) := (congrArg (fun b => decode b 8) cd_19).trans dX2_addStep_8
theorem e19_11 : decode (ma_cd 19) 11 = .ok (.aload_n 0, 1) := (congrArg (fun b => decode b 11) cd_19).trans dX2_addStep_11
theorem e19_12 : decode (ma_cd 19) 12 = .ok (.getfield 18, 3) := (congrArg (fun b => decode b 12) cd_19).trans dX2_addStep_12
theorem e19_15 : decode (ma_cd 19) 15 = .ok (.arraylength, 1) := (congrArg (fun b => decode b 15) cd_19).trans dX2_addStep_15
theorem e19_16 : decode (ma_cd 19) 16 = .ok (.if_icmp .lt 4, 3) := (congrArg (fun b => decode b 16) cd_19).trans dX2_addStep_16
theorem e19_19 : decode (ma_cd 19) 19 = .ok (.return_, 1) := (congrArg (fun b => decode b 19) cd_19).trans dX2_addStep_19
theorem e19_20 : decode (ma_cd 19) 20 = .ok (.aload_n 0, 1) := (congrArg (fun b => decode b 20) cd_19).trans dX2_addStep_20
theorem e19_21 : decode (ma_cd 19) 21 = .ok (.getfield 18, 3) := (congrArg (fun b => decode b 21) cd_19).trans dX2_addStep_21
theorem e19_24 : decode (ma_cd 19) 24 = .ok (.aload_n 0, 1) := (congrArg (fun b => decode b 24) cd_19).trans dX2_addStep_24
theorem e19_25 : decode (ma_cd 19) 25 = .ok (.getfield 28, 3) := (congrArg (fun b => decode b 25) cd_19).trans dX2_addStep_25
theorem e19_28 : decode (ma_cd 19) 28 = .ok (.iload_n 1, 1) := (congrArg (fun b => decode b 28) cd_19).trans dX2_addStep_28
theorem e19_29 : decode (ma_cd 19) 29 = .ok (.iastore, 1) := (congrArg (fun b => decode b 29) cd_19).trans dX2_addStep_29
theorem e19_30 : decode (ma_cd 19) 30 = .ok (.aload_n 0, 1) := (congrArg (fun b => decode b 30) cd_19).trans dX2_addStep_30
theorem e19_31 : decode (ma_cd 19) 31 = .ok (.dup, 1) := (congrArg (fun b => decode b 31) cd_19).trans dX2_addStep_31
theorem e19_32 : decode (ma_cd 19) 32 = .ok (.getfield 28, 3) := (congrArg (fun b => decode b 32) cd_19).trans dX2_addStep_32
theorem e19_35 : decode (ma_cd 19) 35 = .ok (.iconst 1, 1) := (congrArg (fun b => decode b 35) cd_19).trans dX2_addStep_35
theorem e19_36 : decode (ma_cd 19) 36 = .ok (.iadd, 1) := (congrArg (fun b => decode b 36) cd_19).trans dX2_addStep_36
theorem e19_37 : decode (ma_cd 19) 37 = .ok (.putfield 28, 3) := (congrArg (fun b => decode b 37) cd_19).trans dX2_addStep_37
theorem e19_40 : decode (ma_cd 19) 40 = .ok (.return_, 1) := (congrArg (fun b => decode b 40) cd_19).trans dX2_addStep_40
theorem S19 {ro : ma_RO} {d : Nat} : (∀ (v1 : Option Value) (a1 : Nat) (st : List Value) (σ : ma_H), ma_rn ro d 19 (0, [some (.ref a1), v1], st, SH, σ) = ma_rn ro d 19 (1, [some (.ref a1), v1], .ref a1 :: st, SH, σ)) ∧
  (∀ (v0 : Option Value) (v1 : Option Value) (a1 : Nat) (st : List Value) (σ : ma_H) (hc : hk_cls a1 = 2), ma_rn ro d 19 (1, [v0, v1], .ref a1 :: st, SH, σ) = ma_rn ro d 19 (4, [v0, v1], .int (σ a1 5) :: st, SH, σ)) ∧
  (∀ (v0 : Option Value) (v1 : Option Value) (x1 : Int32) (st : List Value) (σ : ma_H), ma_rn ro d 19 (4, [v0, v1], .int x1 :: st, SH, σ) = if x1 < nI 0 then ma_rn ro d 19 (19, [v0, v1], st, SH, σ) else ma_rn ro d 19 (7, [v0, v1], st, SH, σ)) ∧
  (∀ (v1 : Option Value) (a1 : Nat) (st : List Value) (σ : ma_H), ma_rn ro d 19 (7, [some (.ref a1), v1], st, SH, σ) = ma_rn ro d 19 (8, [some (.ref a1), v1], .ref a1 :: st, SH, σ)) ∧
  (∀ (v0 : Option Value) (v1 : Option Value) (a1 : Nat) (st : List Value) (σ : ma_H) (hc : hk_cls a1 = 2), ma_rn ro d 19 (8, [v0, v1], .ref a1 :: st, SH, σ) = ma_rn ro d 19 (11, [v0, v1], .int (σ a1 5) :: st, SH, σ)) ∧
  (∀ (v1 : Option Value) (a1 : Nat) (st : List Value) (σ : ma_H), ma_rn ro d 19 (11, [some (.ref a1), v1], st, SH, σ) = ma_rn ro d 19 (12, [some (.ref a1), v1], .ref a1 :: st, SH, σ)) ∧
  (∀ (v0 : Option Value) (v1 : Option Value) (a1 : Nat) (st : List Value) (σ : ma_H) (hc : hk_cls a1 = 2), ma_rn ro d 19 (12, [v0, v1], .ref a1 :: st, SH, σ) = ma_rn ro d 19 (15, [v0, v1], .ref (a1 + 3) :: st, SH, σ)) ∧
  (∀ (v0 : Option Value) (v1 : Option Value) (a1 : Nat) (st : List Value) (σ : ma_H) (hn : 0 < hk_alen a1), ma_rn ro d 19 (15, [v0, v1], .ref a1 :: st, SH, σ) = ma_rn ro d 19 (16, [v0, v1], .int (nI (hk_alen a1)) :: st, SH, σ)) ∧
  (∀ (v0 : Option Value) (v1 : Option Value) (x1 : Int32) (x2 : Int32) (st : List Value) (σ : ma_H), ma_rn ro d 19 (16, [v0, v1], .int x1 :: .int x2 :: st, SH, σ) = if x2 < x1 then ma_rn ro d 19 (20, [v0, v1], st, SH, σ) else ma_rn ro d 19 (19, [v0, v1], st, SH, σ)) ∧
  (∀ (v0 : Option Value) (v1 : Option Value) (σ : ma_H), ma_rn ro d 19 (19, [v0, v1], [], SH, σ) = some (none, SH, σ)) ∧
  (∀ (v1 : Option Value) (a1 : Nat) (st : List Value) (σ : ma_H), ma_rn ro d 19 (20, [some (.ref a1), v1], st, SH, σ) = ma_rn ro d 19 (21, [some (.ref a1), v1], .ref a1 :: st, SH, σ)) ∧
  (∀ (v0 : Option Value) (v1 : Option Value) (a1 : Nat) (st : List Value) (σ : ma_H) (hc : hk_cls a1 = 2), ma_rn ro d 19 (21, [v0, v1], .ref a1 :: st, SH, σ) = ma_rn ro d 19 (24, [v0, v1], .ref (a1 + 3) :: st, SH, σ)) ∧
  (∀ (v1 : Option Value) (a1 : Nat) (st : List Value) (σ : ma_H), ma_rn ro d 19 (24, [some (.ref a1), v1], st, SH, σ) = ma_rn ro d 19 (25, [some (.ref a1), v1], .ref a1 :: st, SH, σ)) ∧
  (∀ (v0 : Option Value) (v1 : Option Value) (a1 : Nat) (st : List Value) (σ : ma_H) (hc : hk_cls a1 = 2), ma_rn ro d 19 (25, [v0, v1], .ref a1 :: st, SH, σ) = ma_rn ro d 19 (28, [v0, v1], .int (σ a1 5) :: st, SH, σ)) ∧
  (∀ (v0 : Option Value) (x1 : Int32) (st : List Value) (σ : ma_H), ma_rn ro d 19 (28, [v0, some (.int x1)], st, SH, σ) = ma_rn ro d 19 (29, [v0, some (.int x1)], .int x1 :: st, SH, σ)) ∧
  (∀ (v0 : Option Value) (v1 : Option Value) (x1 : Int32) (k : Nat) (a3 : Nat) (st : List Value) (σ : ma_H) (hk : k < hk_len a3), ma_rn ro d 19 (29, [v0, v1], .int x1 :: .int (nI k) :: .ref a3 :: st, SH, σ) = ma_rn ro d 19 (30, [v0, v1], st, SH, (ma_up σ a3 k x1))) ∧
  (∀ (v1 : Option Value) (a1 : Nat) (st : List Value) (σ : ma_H), ma_rn ro d 19 (30, [some (.ref a1), v1], st, SH, σ) = ma_rn ro d 19 (31, [some (.ref a1), v1], .ref a1 :: st, SH, σ)) ∧
  (∀ (v0 : Option Value) (v1 : Option Value) (a1 : Nat) (st : List Value) (σ : ma_H), ma_rn ro d 19 (31, [v0, v1], .ref a1 :: st, SH, σ) = ma_rn ro d 19 (32, [v0, v1], .ref a1 :: .ref a1 :: st, SH, σ)) ∧
  (∀ (v0 : Option Value) (v1 : Option Value) (a1 : Nat) (st : List Value) (σ : ma_H) (hc : hk_cls a1 = 2), ma_rn ro d 19 (32, [v0, v1], .ref a1 :: st, SH, σ) = ma_rn ro d 19 (35, [v0, v1], .int (σ a1 5) :: st, SH, σ)) ∧
  (∀ (v0 : Option Value) (v1 : Option Value) (st : List Value) (σ : ma_H), ma_rn ro d 19 (35, [v0, v1], st, SH, σ) = ma_rn ro d 19 (36, [v0, v1], .int (nI 1) :: st, SH, σ)) ∧
  (∀ (v0 : Option Value) (v1 : Option Value) (x1 : Int32) (x2 : Int32) (st : List Value) (σ : ma_H), ma_rn ro d 19 (36, [v0, v1], .int x1 :: .int x2 :: st, SH, σ) = ma_rn ro d 19 (37, [v0, v1], .int (x2 + x1) :: st, SH, σ)) ∧
  (∀ (v0 : Option Value) (v1 : Option Value) (x1 : Int32) (a2 : Nat) (st : List Value) (σ : ma_H) (hc : hk_cls a2 = 2), ma_rn ro d 19 (37, [v0, v1], .int x1 :: .ref a2 :: st, SH, σ) = ma_rn ro d 19 (40, [v0, v1], st, SH, (ma_up σ a2 5 x1))) ∧
  (∀ (v0 : Option Value) (v1 : Option Value) (σ : ma_H), ma_rn ro d 19 (40, [v0, v1], [], SH, σ) = some (none, SH, σ)) := ⟨fun v1 a1 st σ => q_go e19_0 rfl rfl,
  fun v0 v1 a1 st σ hc => q_getI e19_1 o_19 f_2_28 (by decide) hc,
  fun v0 v1 x1 st σ => (q_if e19_4 rfl).trans q_lt,
  fun v1 a1 st σ => q_go e19_7 rfl rfl,
  fun v0 v1 a1 st σ hc => q_getI e19_8 o_19 f_2_28 (by decide) hc,
  fun v1 a1 st σ => q_go e19_11 rfl rfl,
  fun v0 v1 a1 st σ hc => q_getA e19_12 o_19 f_2_18 (by decide) hc,
  fun v0 v1 a1 st σ hn => q_alen e19_15 rfl hn,
  fun v0 v1 x1 x2 st σ => (q_cmp e19_16 rfl).trans q_lt,
  fun v0 v1 σ => q_vret e19_19 r_19,
  fun v1 a1 st σ => q_go e19_20 rfl rfl,
  fun v0 v1 a1 st σ hc => q_getA e19_21 o_19 f_2_18 (by decide) hc,
  fun v1 a1 st σ => q_go e19_24 rfl rfl,
  fun v0 v1 a1 st σ hc => q_getI e19_25 o_19 f_2_28 (by decide) hc,
  fun v0 x1 st σ => q_go e19_28 rfl rfl,
  fun v0 v1 x1 k a3 st σ hk => q_iast e19_29 hk,
  fun v1 a1 st σ => q_go e19_30 rfl rfl,
  fun v0 v1 a1 st σ => q_go e19_31 rfl rfl,
  fun v0 v1 a1 st σ hc => q_getI e19_32 o_19 f_2_28 (by decide) hc,
  fun v0 v1 st σ => q_iconst e19_35 (by decide),
  fun v0 v1 x1 x2 st σ => q_go e19_36 rfl rfl,
  fun v0 v1 x1 a2 st σ hc => q_putI e19_37 o_19 f_2_28 (by decide) rfl hc,
  fun v0 v1 σ => q_vret e19_40 r_19⟩
theorem E19 {ro : ma_RO} {d : Nat} (a0 : Nat) (x1 : Int32) (sh : List ma_Sh) (σ : ma_H) : ma_ev ro d 19 [.ref a0, .int x1] sh σ = ma_rn ro d 19 (0, [some (.ref a0), some (.int x1)], [], sh, σ) := q_ent x_19 rfl
theorem e20_0 : decode (ma_cd 20) 0 = .ok (.aload_n 0, 1) := (congrArg (fun b => decode b 0) cd_20).trans dX2_addTest_0
theorem e20_1 : decode (ma_cd 20) 1 = .ok (.iload_n 1, 1) := (congrArg (fun b => decode b 1) cd_20).trans dX2_addTest_1
theorem e20_2 : decode (ma_cd 20) 2 = .ok (.iload_n 2, 1) := (congrArg (fun b => decode b 2) cd_20).trans dX2_addTest_2
theorem e20_3 : decode (ma_cd 20) 3 = .ok (.iconst 4, 1) := (congrArg (fun b => decode b 3) cd_20).trans dX2_addTest_3
theorem e20_4 : decode (ma_cd 20) 4 = .ok (.ishl, 1) := (congrArg (fun b => decode b 4) cd_20).trans dX2_addTest_4
theorem e20_5 : decode (ma_cd 20) 5 = .ok (.ior, 1) := (congrArg (fun b => decode b 5) cd_20).trans dX2_addTest_5
theorem e20_6 : decode (ma_cd 20) 6 = .ok (.iload_n 3, 1) := (congrArg (fun b => decode b 6) cd_20).trans dX2_addTest_6
theorem e20_7 : decode (ma_cd 20) 7 = .ok (.bipush 8, 2) := (congrArg (fun b => decode b 7) cd_20).trans dX2_addTest_7
theorem e20_9 : decode (ma_cd 20) 9 = .ok (.ishl, 1) := (congrArg (fun b => decode b 9) cd_20).trans dX2_addTest_9
theorem e20_10 : decode (ma_cd 20) 10 = .ok (.ior, 1) := (congrArg (fun b => decode b 10) cd_20).trans dX2_addTest_10
theorem e20_11 : decode (ma_cd 20) 11 = .ok (.invokevirtual 35, 3) := (congrArg (fun b => decode b 11) cd_20).trans dX2_addTest_11
theorem e20_14 : decode (ma_cd 20) 14 = .ok (.return_, 1) := (congrArg (fun b => decode b 14) cd_20).trans dX2_addTest_14
theorem S20 {ro : ma_RO} {d : Nat} : (∀ (v1 : Option Value) (v2 : Option Value) (v3 : Option Value) (a1 : Nat) (st : List Value) (σ : ma_H), ma_rn ro d 20 (0, [some (.ref a1), v1, v2, v3], st, SH, σ) = ma_rn ro d 20 (1, [some (.ref a1), v1, v2, v3], .ref a1 :: st, SH, σ)) ∧
  (∀ (v0 : Option Value) (v2 : Option Value) (v3 : Option Value) (x1 : Int32) (st : List Value) (σ : ma_H), ma_rn ro d 20 (1, [v0, some (.int x1), v2, v3], st, SH, σ) = ma_rn ro d 20 (2, [v0, some (.int x1), v2, v3], .int x1 :: st, SH, σ)) ∧
  (∀ (v0 : Option Value) (v1 : Option Value) (v3 : Option Value) (x1 : Int32) (st : List Value) (σ : ma_H), ma_rn ro d 20 (2, [v0, v1, some (.int x1), v3], st, SH, σ) = ma_rn ro d 20 (3, [v0, v1, some (.int x1), v3], .int x1 :: st, SH, σ)) ∧
  (∀ (v0 : Option Value) (v1 : Option Value) (v2 : Option Value) (v3 : Option Value) (st : List Value) (σ : ma_H), ma_rn ro d 20 (3, [v0, v1, v2, v3], st, SH, σ) = ma_rn ro d 20 (4, [v0, v1, v2, v3], .int (nI 4) :: st, SH, σ)) ∧
  (∀ (v0 : Option Value) (v1 : Option Value) (v2 : Option Value) (v3 : Option Value) (x1 : Int32) (x2 : Int32) (st : List Value) (σ : ma_H), ma_rn ro d 20 (4, [v0, v1, v2, v3], .int x1 :: .int x2 :: st, SH, σ) = ma_rn ro d 20 (5, [v0, v1, v2, v3], .int (x2 <<< (x1 &&& 31)) :: st, SH, σ)) ∧
  (∀ (v0 : Option Value) (v1 : Option Value) (v2 : Option Value) (v3 : Option Value) (x1 : Int32) (x2 : Int32) (st : List Value) (σ : ma_H), ma_rn ro d 20 (5, [v0, v1, v2, v3], .int x1 :: .int x2 :: st, SH, σ) = ma_rn ro d 20 (6, [v0, v1, v2, v3], .int (x2 ||| x1) :: st, SH, σ)) ∧
  (∀ (v0 : Option Value) (v1 : Option Value) (v2 : Option Value) (x1 : Int32) (st : List Value) (σ : ma_H), ma_rn ro d 20 (6, [v0, v1, v2, some (.int x1)], st, SH, σ) = ma_rn ro d 20 (7, [v0, v1, v2, some (.int x1)], .int x1 :: st, SH, σ)) ∧
  (∀ (v0 : Option Value) (v1 : Option Value) (v2 : Option Value) (v3 : Option Value) (st : List Value) (σ : ma_H), ma_rn ro d 20 (7, [v0, v1, v2, v3], st, SH, σ) = ma_rn ro d 20 (9, [v0, v1, v2, v3], .int (nI 8) :: st, SH, σ)) ∧
  (∀ (v0 : Option Value) (v1 : Option Value) (v2 : Option Value) (v3 : Option Value) (x1 : Int32) (x2 : Int32) (st : List Value) (σ : ma_H), ma_rn ro d 20 (9, [v0, v1, v2, v3], .int x1 :: .int x2 :: st, SH, σ) = ma_rn ro d 20 (10, [v0, v1, v2, v3], .int (x2 <<< (x1 &&& 31)) :: st, SH, σ)) ∧
  (∀ (v0 : Option Value) (v1 : Option Value) (v2 : Option Value) (v3 : Option Value) (x1 : Int32) (x2 : Int32) (st : List Value) (σ : ma_H), ma_rn ro d 20 (10, [v0, v1, v2, v3], .int x1 :: .int x2 :: st, SH, σ) = ma_rn ro d 20 (11, [v0, v1, v2, v3], .int (x2 ||| x1) :: st, SH, σ)) ∧
  (∀ (v0 : Option Value) (v1 : Option Value) (v2 : Option Value) (v3 : Option Value) (x1 : Int32) (a0 : Nat) (σ : ma_H) (hc : hk_cls a0 = 2), ma_rn ro (d + 1) 20 (11, [v0, v1, v2, v3], .int x1 :: .ref a0 :: [], SH, σ) = (ma_ev ro d 19 [.ref a0, .int x1] SH σ).bind (fun q => ma_rn ro (d + 1) 20 (14, [v0, v1, v2, v3], (q.1.toList ++ []), q.2.1, q.2.2))) ∧
  (∀ (v0 : Option Value) (v1 : Option Value) (v2 : Option Value) (v3 : Option Value) (σ : ma_H), ma_rn ro d 20 (14, [v0, v1, v2, v3], [], SH, σ) = some (none, SH, σ)) := ⟨fun v1 v2 v3 a1 st σ => q_go e20_0 rfl rfl,
  fun v0 v2 v3 x1 st σ => q_go e20_1 rfl rfl,
  fun v0 v1 v3 x1 st σ => q_go e20_2 rfl rfl,
  fun v0 v1 v2 v3 st σ => q_iconst e20_3 (by decide),
  fun v0 v1 v2 v3 x1 x2 st σ => q_go e20_4 rfl rfl,
  fun v0 v1 v2 v3 x1 x2 st σ => q_go e20_5 rfl rfl,
  fun v0 v1 v2 x1 st σ => q_go e20_6 rfl rfl,
  fun v0 v1 v2 v3 st σ => q_bipush e20_7 (by decide),
  fun v0 v1 v2 v3 x1 x2 st σ => q_go e20_9 rfl rfl,
  fun v0 v1 v2 v3 x1 x2 st σ => q_go e20_10 rfl rfl,
  fun v0 v1 v2 v3 x1 a0 σ hc => q_invV (as := [.int x1]) (rest := []) e20_11 o_20 bn_2_35 c_2_35 m_19 (by decide) rfl rfl (Nat.le_of_ble_eq_true rfl) (Nat.le_of_ble_eq_true rfl) hc,
  fun v0 v1 v2 v3 σ => q_vret e20_14 r_20⟩
theorem E20 {ro : ma_RO} {d : Nat} (a0 : Nat) (x1 : Int32) (x2 : Int32) (x3 : Int32) (sh : List ma_Sh) (σ : ma_H) : ma_ev ro d 20 [.ref a0, .int x1, .int x2, .int x3] sh σ = ma_rn ro d 20 (0, [some (.ref a0), some (.int x1), some (.int x2), some (.int x3)], [], sh, σ) := q_ent x_20 rfl
theorem e21_0 : decode (ma_cd 21) 0 = .ok (.aload_n 0, 1) := (congrArg (fun b => decode b 0) cd_21).trans dX2_endClause_0
theorem e21_1 : decode (ma_cd 21) 1 = .ok (.getfield 25, 3) := (congrArg (fun b => decode b 1) cd_21).trans dX2_endClause_1
theorem e21_4 : decode (ma_cd 21) 4 = .ok (.ifCond .lt 27, 3) := (congrArg (fun b => decode b 4) cd_21).trans dX2_endClause_4
theorem e21_7 : decode (ma_cd 21) 7 = .ok (.aload_n 0, 1) := (congrArg (fun b => decode b 7) cd_21).trans dX2_endClause_7
theorem e21_8 : decode (ma_cd 21) 8 = .ok (.getfield 25, 3) := (congrArg (fun b => decode b 8) cd_21).trans dX2_endClause_8
theorem e21_11 : decode (ma_cd 21) 11 = .ok (.aload_n 0, 1) := (congrArg (fun b => decode b 11) cd_21).trans dX2_endClause_11
theorem e21_12 : decode (ma_cd 21) 12 = .ok (.getfield 9, 3) := (congrArg (fun b => decode b 12) cd_21).trans dX2_endClause_12
theorem e21_15 : decode (ma_cd 21) 15 = .ok (.arraylength, 1) := (congrArg (fun b => decode b 15) cd_21).trans dX2_endClause_15
theorem e21_16 : decode (ma_cd 21) 16 = .ok (.if_icmp .ge 15, 3) := (congrArg (fun b => decode b 16) cd_21).trans dX2_endClause_16
theorem e21_19 : decode (ma_cd 21) 19 = .ok (.aload_n 0, 1) := (congrArg (fun b => decode b 19) cd_21).trans dX2_endClause_19
theorem e21_20 : decode (ma_cd 21) 20 = .ok (.getfield 25, 3) := (congrArg (fun b => decode b 20) cd_21).trans dX2_endClause_20
theorem e21_23 : decode (ma_cd 21) 23 = .ok (.aload_n 0, 1) := (congrArg (fun b => decode b 23) cd_21).trans dX2_endClause_23
theorem e21_24 : decode (ma_cd 21) 24 = .ok (.getfield 15, 3) := (congrArg (fun b => decode b 24) cd_21).trans dX2_endClause_24
theorem e21_27 : decode (ma_cd 21) 27 = .ok (.arraylength, 1) := (congrArg (fun b => decode b 27) cd_21).trans dX2_endClause_27
theorem e21_28 : decode (ma_cd 21) 28 = .ok (.if_icmp .lt 4, 3) := (congrArg (fun b => decode b 28) cd_21).trans dX2_endClause_28
theorem e21_31 : decode (ma_cd 21) 31 = .ok (.return_, 1) := (congrArg (fun b => decode b 31) cd_21).trans dX2_endClause_31
theorem e21_32 : decode (ma_cd 21) 32 = .ok (.aload_n 0, 1) := (congrArg (fun b => decode b 32) cd_21).trans dX2_endClause_32
theorem e21_33 : decode (ma_cd 21) 33 = .ok (.getfield 9, 3) := (congrArg (fun b => decode b 33) cd_21).trans dX2_endClause_33
theorem e21_36 : decode (ma_cd 21) 36 = .ok (.aload_n 0, 1) := (congrArg (fun b => decode b 36) cd_21).trans dX2_endClause_36
theorem e21_37 : decode (ma_cd 21) 37 = .ok (.getfield 25, 3) := (congrArg (fun b => decode b 37) cd_21).trans dX2_endClause_37
theorem e21_40 : decode (ma_cd 21) 40 = .ok (.iload_n 1, 1) := (congrArg (fun b => decode b 40) cd_21).trans dX2_endClause_40
theorem e21_41 : decode (ma_cd 21) 41 = .ok (.iastore, 1) := (congrArg (fun b => decode b 41) cd_21).trans dX2_endClause_41
theorem e21_42 : decode (ma_cd 21) 42 = .ok (.aload_n 0, 1) := (congrArg (fun b => decode b 42) cd_21).trans dX2_endClause_42
theorem e21_43 : decode (ma_cd 21) 43 = .ok (.getfield 15, 3) := (congrArg (fun b => decode b 43) cd_21).trans dX2_endClause_43
theorem e21_46 : decode (ma_cd 21) 46 = .ok (.aload_n 0, 1) := (congrArg (fun b => decode b 46) cd_21).trans dX2_endClause_46
theorem e21_47 : decode (ma_cd 21) 47 = .ok (.getfield 25, 3) := (congrArg (fun b => decode b 47) cd_21).trans dX2_endClause_47
theorem e21_50 : decode (ma_cd 21) 50 = .ok (.aload_n 0, 1) := (congrArg (fun b => decode b 50) cd_21).trans dX2_endClause_50
theorem e21_51 : decode (ma_cd 21) 51 = .ok (.getfield 28, 3) := (congrArg (fun b => decode b 51) cd_21).trans dX2_endClause_51
theorem e21_54 : decode (ma_cd 21) 54 = .ok (.iastore, 1) := (congrArg (fun b => decode b 54) cd_21).trans dX2_endClause_54
theorem e21_55 : decode (ma_cd 21) 55 = .ok (.aload_n 0, 1) := (congrArg (fun b => decode b 55) cd_21).trans dX2_endClause_55
theorem e21_56 : decode (ma_cd 21) 56 = .ok (.dup, 1) := (congrArg (fun b => decode b 56) cd_21).trans dX2_endClause_56
theorem e21_57 : decode (ma_cd 21) 57 = .ok (.getfield 25, 3) := (congrArg (fun b => decode b 57) cd_21).trans dX2_endClause_57
theorem e21_60 : decode (ma_cd 21) 60 = .ok (.iconst 1, 1) := (congrArg (fun b => decode b 60) cd_21).trans dX2_endClause_60
theorem e21_61 : decode (ma_cd 21) 61 = .ok (.iadd, 1) := (congrArg (fun b => decode b 61) cd_21).trans dX2_endClause_61
theorem e21_62 : decode (ma_cd 21) 62 = .ok (.putfield 25, 3) := (congrArg (fun b => decode b 62) cd_21).trans dX2_endClause_62
theorem e21_65 : decode (ma_cd 21) 65 = .ok (.return_, 1) := (congrArg (fun b => decode b 65) cd_21).trans dX2_endClause_65
theorem S21 {ro : ma_RO} {d : Nat} : (∀ (v1 : Option Value) (a1 : Nat) (st : List Value) (σ : ma_H), ma_rn ro d 21 (0, [some (.ref a1), v1], st, SH, σ) = ma_rn ro d 21 (1, [some (.ref a1), v1], .ref a1 :: st, SH, σ)) ∧
  (∀ (v0 : Option Value) (v1 : Option Value) (a1 : Nat) (st : List Value) (σ : ma_H) (hc : hk_cls a1 = 2), ma_rn ro d 21 (1, [v0, v1], .ref a1 :: st, SH, σ) = ma_rn ro d 21 (4, [v0, v1], .int (σ a1 3) :: st, SH, σ)) ∧
  (∀ (v0 : Option Value) (v1 : Option Value) (x1 : Int32) (st : List Value) (σ : ma_H), ma_rn ro d 21 (4, [v0, v1], .int x1 :: st, SH, σ) = if x1 < nI 0 then ma_rn ro d 21 (31, [v0, v1], st, SH, σ) else ma_rn ro d 21 (7, [v0, v1], st, SH, σ)) ∧
  (∀ (v1 : Option Value) (a1 : Nat) (st : List Value) (σ : ma_H), ma_rn ro d 21 (7, [some (.ref a1), v1], st, SH, σ) = ma_rn ro d 21 (8, [some (.ref a1), v1], .ref a1 :: st, SH, σ)) ∧
  (∀ (v0 : Option Value) (v1 : Option Value) (a1 : Nat) (st : List Value) (σ : ma_H) (hc : hk_cls a1 = 2), ma_rn ro d 21 (8, [v0, v1], .ref a1 :: st, SH, σ) = ma_rn ro d 21 (11, [v0, v1], .int (σ a1 3) :: st, SH, σ)) ∧
  (∀ (v1 : Option Value) (a1 : Nat) (st : List Value) (σ : ma_H), ma_rn ro d 21 (11, [some (.ref a1), v1], st, SH, σ) = ma_rn ro d 21 (12, [some (.ref a1), v1], .ref a1 :: st, SH, σ)) ∧
  (∀ (v0 : Option Value) (v1 : Option Value) (a1 : Nat) (st : List Value) (σ : ma_H) (hc : hk_cls a1 = 2), ma_rn ro d 21 (12, [v0, v1], .ref a1 :: st, SH, σ) = ma_rn ro d 21 (15, [v0, v1], .ref (a1 + 1) :: st, SH, σ)) ∧
  (∀ (v0 : Option Value) (v1 : Option Value) (a1 : Nat) (st : List Value) (σ : ma_H) (hn : 0 < hk_alen a1), ma_rn ro d 21 (15, [v0, v1], .ref a1 :: st, SH, σ) = ma_rn ro d 21 (16, [v0, v1], .int (nI (hk_alen a1)) :: st, SH, σ)) ∧
  (∀ (v0 : Option Value) (v1 : Option Value) (x1 : Int32) (x2 : Int32) (st : List Value) (σ : ma_H), ma_rn ro d 21 (16, [v0, v1], .int x1 :: .int x2 :: st, SH, σ) = if x2 < x1 then ma_rn ro d 21 (19, [v0, v1], st, SH, σ) else ma_rn ro d 21 (31, [v0, v1], st, SH, σ)) ∧
  (∀ (v1 : Option Value) (a1 : Nat) (st : List Value) (σ : ma_H), ma_rn ro d 21 (19, [some (.ref a1), v1], st, SH, σ) = ma_rn ro d 21 (20, [some (.ref a1), v1], .ref a1 :: st, SH, σ)) ∧
  (∀ (v0 : Option Value) (v1 : Option Value) (a1 : Nat) (st : List Value) (σ : ma_H) (hc : hk_cls a1 = 2), ma_rn ro d 21 (20, [v0, v1], .ref a1 :: st, SH, σ) = ma_rn ro d 21 (23, [v0, v1], .int (σ a1 3) :: st, SH, σ)) ∧
  (∀ (v1 : Option Value) (a1 : Nat) (st : List Value) (σ : ma_H), ma_rn ro d 21 (23, [some (.ref a1), v1], st, SH, σ) = ma_rn ro d 21 (24, [some (.ref a1), v1], .ref a1 :: st, SH, σ)) ∧
  (∀ (v0 : Option Value) (v1 : Option Value) (a1 : Nat) (st : List Value) (σ : ma_H) (hc : hk_cls a1 = 2), ma_rn ro d 21 (24, [v0, v1], .ref a1 :: st, SH, σ) = ma_rn ro d 21 (27, [v0, v1], .ref (a1 + 2) :: st, SH, σ)) ∧
  (∀ (v0 : Option Value) (v1 : Option Value) (a1 : Nat) (st : List Value) (σ : ma_H) (hn : 0 < hk_alen a1), ma_rn ro d 21 (27, [v0, v1], .ref a1 :: st, SH, σ) = ma_rn ro d 21 (28, [v0, v1], .int (nI (hk_alen a1)) :: st, SH, σ)) ∧
  (∀ (v0 : Option Value) (v1 : Option Value) (x1 : Int32) (x2 : Int32) (st : List Value) (σ : ma_H), ma_rn ro d 21 (28, [v0, v1], .int x1 :: .int x2 :: st, SH, σ) = if x2 < x1 then ma_rn ro d 21 (32, [v0, v1], st, SH, σ) else ma_rn ro d 21 (31, [v0, v1], st, SH, σ)) ∧
  (∀ (v0 : Option Value) (v1 : Option Value) (σ : ma_H), ma_rn ro d 21 (31, [v0, v1], [], SH, σ) = some (none, SH, σ)) ∧
  (∀ (v1 : Option Value) (a1 : Nat) (st : List Value) (σ : ma_H), ma_rn ro d 21 (32, [some (.ref a1), v1], st, SH, σ) = ma_rn ro d 21 (33, [some (.ref a1), v1], .ref a1 :: st, SH, σ)) ∧
  (∀ (v0 : Option Value) (v1 : Option Value) (a1 : Nat) (st : List Value) (σ : ma_H) (hc : hk_cls a1 = 2), ma_rn ro d 21 (33, [v0, v1], .ref a1 :: st, SH, σ) = ma_rn ro d 21 (36, [v0, v1], .ref (a1 + 1) :: st, SH, σ)) ∧
  (∀ (v1 : Option Value) (a1 : Nat) (st : List Value) (σ : ma_H), ma_rn ro d 21 (36, [some (.ref a1), v1], st, SH, σ) = ma_rn ro d 21 (37, [some (.ref a1), v1], .ref a1 :: st, SH, σ)) ∧
  (∀ (v0 : Option Value) (v1 : Option Value) (a1 : Nat) (st : List Value) (σ : ma_H) (hc : hk_cls a1 = 2), ma_rn ro d 21 (37, [v0, v1], .ref a1 :: st, SH, σ) = ma_rn ro d 21 (40, [v0, v1], .int (σ a1 3) :: st, SH, σ)) ∧
  (∀ (v0 : Option Value) (x1 : Int32) (st : List Value) (σ : ma_H), ma_rn ro d 21 (40, [v0, some (.int x1)], st, SH, σ) = ma_rn ro d 21 (41, [v0, some (.int x1)], .int x1 :: st, SH, σ)) ∧
  (∀ (v0 : Option Value) (v1 : Option Value) (x1 : Int32) (k : Nat) (a3 : Nat) (st : List Value) (σ : ma_H) (hk : k < hk_len a3), ma_rn ro d 21 (41, [v0, v1], .int x1 :: .int (nI k) :: .ref a3 :: st, SH, σ) = ma_rn ro d 21 (42, [v0, v1], st, SH, (ma_up σ a3 k x1))) ∧
  (∀ (v1 : Option Value) (a1 : Nat) (st : List Value) (σ : ma_H), ma_rn ro d 21 (42, [some (.ref a1), v1], st, SH, σ) = ma_rn ro d 21 (43, [some (.ref a1), v1], .ref a1 :: st, SH, σ)) ∧
  (∀ (v0 : Option Value) (v1 : Option Value) (a1 : Nat) (st : List Value) (σ : ma_H) (hc : hk_cls a1 = 2), ma_rn ro d 21 (43, [v0, v1], .ref a1 :: st, SH, σ) = ma_rn ro d 21 (46, [v0, v1], .ref (a1 + 2) :: st, SH, σ)) ∧
  (∀ (v1 : Option Value) (a1 : Nat) (st : List Value) (σ : ma_H), ma_rn ro d 21 (46, [some (.ref a1), v1], st, SH, σ) = ma_rn ro d 21 (47, [some (.ref a1), v1], .ref a1 :: st, SH, σ)) ∧
  (∀ (v0 : Option Value) (v1 : Option Value) (a1 : Nat) (st : List Value) (σ : ma_H) (hc : hk_cls a1 = 2), ma_rn ro d 21 (47, [v0, v1], .ref a1 :: st, SH, σ) = ma_rn ro d 21 (50, [v0, v1], .int (σ a1 3) :: st, SH, σ)) ∧
  (∀ (v1 : Option Value) (a1 : Nat) (st : List Value) (σ : ma_H), ma_rn ro d 21 (50, [some (.ref a1), v1], st, SH, σ) = ma_rn ro d 21 (51, [some (.ref a1), v1], .ref a1 :: st, SH, σ)) ∧
  (∀ (v0 : Option Value) (v1 : Option Value) (a1 : Nat) (st : List Value) (σ : ma_H) (hc : hk_cls a1 = 2), ma_rn ro d 21 (51, [v0, v1], .ref a1 :: st, SH, σ) = ma_rn ro d 21 (54, [v0, v1], .int (σ a1 5) :: st, SH, σ)) ∧
  (∀ (v0 : Option Value) (v1 : Option Value) (x1 : Int32) (k : Nat) (a3 : Nat) (st : List Value) (σ : ma_H) (hk : k < hk_len a3), ma_rn ro d 21 (54, [v0, v1], .int x1 :: .int (nI k) :: .ref a3 :: st, SH, σ) = ma_rn ro d 21 (55, [v0, v1], st, SH, (ma_up σ a3 k x1))) ∧
  (∀ (v1 : Option Value) (a1 : Nat) (st : List Value) (σ : ma_H), ma_rn ro d 21 (55, [some (.ref a1), v1], st, SH, σ) = ma_rn ro d 21 (56, [some (.ref a1), v1], .ref a1 :: st, SH, σ)) ∧
  (∀ (v0 : Option Value) (v1 : Option Value) (a1 : Nat) (st : List Value) (σ : ma_H), ma_rn ro d 21 (56, [v0, v1], .ref a1 :: st, SH, σ) = ma_rn ro d 21 (57, [v0, v1], .ref a1 :: .ref a1 :: st, SH, σ)) ∧
  (∀ (v0 : Option Value) (v1 : Option Value) (a1 : Nat) (st : List Value) (σ : ma_H) (hc : hk_cls a1 = 2), ma_rn ro d 21 (57, [v0, v1], .ref a1 :: st, SH, σ) = ma_rn ro d 21 (60, [v0, v1], .int (σ a1 3) :: st, SH, σ)) ∧
  (∀ (v0 : Option Value) (v1 : Option Value) (st : List Value) (σ : ma_H), ma_rn ro d 21 (60, [v0, v1], st, SH, σ) = ma_rn ro d 21 (61, [v0, v1], .int (nI 1) :: st, SH, σ)) ∧
  (∀ (v0 : Option Value) (v1 : Option Value) (x1 : Int32) (x2 : Int32) (st : List Value) (σ : ma_H), ma_rn ro d 21 (61, [v0, v1], .int x1 :: .int x2 :: st, SH, σ) = ma_rn ro d 21 (62, [v0, v1], .int (x2 + x1) :: st, SH, σ)) ∧
  (∀ (v0 : Option Value) (v1 : Option Value) (x1 : Int32) (a2 : Nat) (st : List Value) (σ : ma_H) (hc : hk_cls a2 = 2), ma_rn ro d 21 (62, [v0, v1], .int x1 :: .ref a2 :: st, SH, σ) = ma_rn ro d 21 (65, [v0, v1], st, SH, (ma_up σ a2 3 x1))) ∧
  (∀ (v0 : Option Value) (v1 : Option Value) (σ : ma_H), ma_rn ro d 21 (65, [v0, v1], [], SH, σ) = some (none, SH, σ)) := ⟨fun v1 a1 st σ => q_go e21_0 rfl rfl,
  fun v0 v1 a1 st σ hc => q_getI e21_1 o_21 f_2_25 (by decide) hc,
  fun v0 v1 x1 st σ => (q_if e21_4 rfl).trans q_lt,
  fun v1 a1 st σ => q_go e21_7 rfl rfl,
  fun v0 v1 a1 st σ hc => q_getI e21_8 o_21 f_2_25 (by decide) hc,
  fun v1 a1 st σ => q_go e21_11 rfl rfl,
  fun v0 v1 a1 st σ hc => q_getA e21_12 o_21 f_2_9 (by decide) hc,
  fun v0 v1 a1 st σ hn => q_alen e21_15 rfl hn,
  fun v0 v1 x1 x2 st σ => (q_cmp e21_16 rfl).trans q_nlt,
  fun v1 a1 st σ => q_go e21_19 rfl rfl,
  fun v0 v1 a1 st σ hc => q_getI e21_20 o_21 f_2_25 (by decide) hc,
  fun v1 a1 st σ => q_go e21_23 rfl rfl,
  fun v0 v1 a1 st σ hc => q_getA e21_24 o_21 f_2_15 (by decide) hc,
  fun v0 v1 a1 st σ hn => q_alen e21_27 rfl hn,
  fun v0 v1 x1 x2 st σ => (q_cmp e21_28 rfl).trans q_lt,
  fun v0 v1 σ => q_vret e21_31 r_21,
  fun v1 a1 st σ => q_go e21_32 rfl rfl,
  fun v0 v1 a1 st σ hc => q_getA e21_33 o_21 f_2_9 (by decide) hc,
  fun v1 a1 st σ => q_go e21_36 rfl rfl,
  fun v0 v1 a1 st σ hc => q_getI e21_37 o_21 f_2_25 (by decide) hc,
  fun v0 x1 st σ => q_go e21_40 rfl rfl,
  fun v0 v1 x1 k a3 st σ hk => q_iast e21_41 hk,
  fun v1 a1 st σ => q_go e21_42 rfl rfl,
  fun v0 v1 a1 st σ hc => q_getA e21_43 o_21 f_2_15 (by decide) hc,
  fun v1 a1 st σ => q_go e21_46 rfl rfl,
  fun v0 v1 a1 st σ hc => q_getI e21_47 o_21 f_2_25 (by decide) hc,
  fun v1 a1 st σ => q_go e21_50 rfl rfl,
  fun v0 v1 a1 st σ hc => q_getI e21_51 o_21 f_2_28 (by decide) hc,
  fun v0 v1 x1 k a3 st σ hk => q_iast e21_54 hk,
  fun v1 a1 st σ => q_go e21_55 rfl rfl,
  fun v0 v1 a1 st σ => q_go e21_56 rfl rfl,
  fun v0 v1 a1 st σ hc => q_getI e21_57 o_21 f_2_25 (by decide) hc,
  fun v0 v1 st σ => q_iconst e21_60 (by decide),
  fun v0 v1 x1 x2 st σ => q_go e21_61 rfl rfl,
  fun v0 v1 x1 a2 st σ hc => q_putI e21_62 o_21 f_2_25 (by decide) rfl hc,
  fun v0 v1 σ => q_vret e21_65 r_21⟩
theorem E21 {ro : ma_RO} {d : Nat} (a0 : Nat) (x1 : Int32) (sh : List ma_Sh) (σ : ma_H) : ma_ev ro d 21 [.ref a0, .int x1] sh σ = ma_rn ro d 21 (0, [some (.ref a0), some (.int x1)], [], sh, σ) := q_ent x_21 rfl
theorem e22_0 : decode (ma_cd 22) 0 = .ok (.bipush 8, 2) := (congrArg (fun b => decode b 0) cd_22).trans dX2_sumOf_0
theorem e22_2 : decode (ma_cd 22) 2 = .ok (.istore_n 3, 1) := (congrArg (fun b => decode b 2) cd_22).trans dX2_sumOf_2
theorem e22_3 : decode (ma_cd 22) 3 = .ok (.iconst 0, 1) := (congrArg (fun b => decode b 3) cd_22).trans dX2_sumOf_3
theorem e22_4 : decode (ma_cd 22) 4 = .ok (.istore 4, 2) := (congrArg (fun b => decode b 4) cd_22).trans dX2_sumOf_4
theorem e22_6 : decode (ma_cd 22) 6 = .ok (.iconst 0, 1) := (congrArg (fun b => decode b 6) cd_22).trans dX2_sumOf_6
theorem e22_7 : decode (ma_cd 22) 7 = .ok (.istore 5, 2) := (congrArg (fun b => decode b 7) cd_22).trans dX2_sumOf_7
theorem e22_9 : decode (ma_cd 22) 9 = .ok (.iload 5, 2) := (congrArg (fun b => decode b 9) cd_22).trans dX2_sumOf_9
theorem e22_11 : decode (ma_cd 22) 11 = .ok (.aload_n 0, 1) := (congrArg (fun b => decode b 11) cd_22).trans dX2_sumOf_11
theorem e22_12 : decode (ma_cd 22) 12 = .ok (.getfield 25, 3) := (congrArg (fun b => decode b 12) cd_22).trans dX2_sumOf_12
theorem e22_15 : decode (ma_cd 22) 15 = .ok (.if_icmp .ge 66, 3) := (congrArg (fun b => decode b 15) cd_22).trans dX2_sumOf_15
theorem e22_18 : decode (ma_cd 22) 18 = .ok (.iload 5, 2) := (congrArg (fun b => decode b 18) cd_22).trans dX2_sumOf_18
theorem e22_20 : decode (ma_cd 22) 20 = .ok (.aload_n 0, 1) := (congrArg (fun b => decode b 20) cd_22).trans dX2_sumOf_20
theorem e22_21 : decode (ma_cd 22) 21 = .ok (.getfield 9, 3) := (congrArg (fun b => decode b 21) cd_22).trans dX2_sumOf_21
theorem e22_24 : decode (ma_cd 22) 24 = .ok (.arraylength, 1) := (congrArg (fun b => decode b 24) cd_22).trans dX2_sumOf_24
theorem e22_25 : decode (ma_cd 22) 25 = .ok (.if_icmp .ge 56, 3) := (congrArg (fun b => decode b 25) cd_22).trans dX2_sumOf_25
theorem e22_28 : decode (ma_cd 22) 28 = .ok (.iload 5, 2) := (congrArg (fun b => decode b 28) cd_22).trans dX2_sumOf_28
theorem e22_30 : decode (ma_cd 22) 30 = .ok (.aload_n 0, 1) := (congrArg (fun b => decode b 30) cd_22).trans dX2_sumOf_30
theorem e22_31 : decode (ma_cd 22) 31 = .ok (.getfield 15, 3) := (congrArg (fun b => decode b 31) cd_22).trans dX2_sumOf_31
theorem e22_34 : decode (ma_cd 22) 34 = .ok (.arraylength, 1) := (congrArg (fun b => decode b 34) cd_22).trans dX2_sumOf_34
theorem e22_35 : decode (ma_cd 22) 35 = .ok (.if_icmp .ge 46, 3) := (congrArg (fun b => decode b 35) cd_22).trans dX2_sumOf_35
theorem e22_38 : decode (ma_cd 22) 38 = .ok (.aload_n 0, 1) := (congrArg (fun b => decode b 38) cd_22).trans dX2_sumOf_38
theorem e22_39 : decode (ma_cd 22) 39 = .ok (.iload 4, 2) := (congrArg (fun b => decode b 39) cd_22).trans dX2_sumOf_39
theorem e22_41 : decode (ma_cd 22) 41 = .ok (.aload_n 0, 1) := (congrArg (fun b => decode b 41) cd_22).trans dX2_sumOf_41
theorem e22_42 : decode (ma_cd 22) 42 = .ok (.getfield 15, 3) := (congrArg (fun b => decode b 42) cd_22).trans dX2_sumOf_42
theorem e22_45 : decode (ma_cd 22) 45 = .ok (.iload 5, 2) := (congrArg (fun b => decode b 45) cd_22).trans dX2_sumOf_45
theorem e22_47 : decode (ma_cd 22) 47 = .ok (.iaload, 1) := (congrArg (fun b => decode b 47) cd_22).trans dX2_sumOf_47
theorem e22_48 : decode (ma_cd 22) 48 = .ok (.aload_n 1, 1) := (congrArg (fun b => decode b 48) cd_22).trans dX2_sumOf_48
theorem e22_49 : decode (ma_cd 22) 49 = .ok (.iload_n 2, 1) := (congrArg (fun b => decode b 49) cd_22).trans dX2_sumOf_49
theorem e22_50 : decode (ma_cd 22) 50 = .ok (.invokevirtual 39, 3) := (congrArg (fun b => decode b 50) cd_22).trans dX2_sumOf_50
theorem e22_53 : decode (ma_cd 22) 53 = .ok (.ifCond .eq 13, 3) := (congrArg (fun b => decode b 53) cd_22).trans dX2_sumOf_53
theorem e22_56 : decode (ma_cd 22) 56 = .ok (.iload_n 3, 1) := (congrArg (fun b => decode b 56) cd_22).trans dX2_sumOf_56
theorem e22_57 : decode (ma_cd 22) 57 = .ok (.aload_n 0, 1) := (congrArg (fun b => decode b 57) cd_22).trans dX2_sumOf_57
theorem e22_58 : decode (ma_cd 22) 58 = .ok (.getfield 9, 3) := (congrArg (fun b => decode b 58) cd_22).trans dX2_sumOf_58
theorem e22_61 : decode (ma_cd 22) 61 = .ok (.iload 5, 2) := (congrArg (fun b => decode b 61) cd_22).trans dX2_sumOf_61
theorem e22_63 : decode (ma_cd 22) 63 = .ok (.iaload, 1) := (congrArg (fun b => decode b 63) cd_22).trans dX2_sumOf_63
theorem e22_64 : decode (ma_cd 22) 64 = .ok (.iadd, 1) := (congrArg (fun b => decode b 64) cd_22).trans dX2_sumOf_64
theorem e22_65 : decode (ma_cd 22) 65 = .ok (.istore_n 3, 1) := (congrArg (fun b => decode b 65) cd_22).trans dX2_sumOf_65
theorem e22_66 : decode (ma_cd 22) 66 = .ok (.aload_n 0, 1) := (congrArg (fun b => decode b 66) cd_22).trans dX2_sumOf_66
theorem e22_67 : decode (ma_cd 22) 67 = .ok (.getfield 15, 3) := (congrArg (fun b => decode b 67) cd_22).trans dX2_sumOf_67
theorem e22_70 : decode (ma_cd 22) 70 = .ok (.iload 5, 2) := (congrArg (fun b => decode b 70) cd_22).trans dX2_sumOf_70
theorem e22_72 : decode (ma_cd 22) 72 = .ok (.iaload, 1) := (congrArg (fun b => decode b 72) cd_22).trans dX2_sumOf_72
theorem e22_73 : decode (ma_cd 22) 73 = .ok (.istore 4, 2) := (congrArg (fun b => decode b 73) cd_22).trans dX2_sumOf_73
theorem e22_75 : decode (ma_cd 22) 75 = .ok (.iinc 5 1, 3) := (congrArg (fun b => decode b 75) cd_22).trans dX2_sumOf_75
theorem e22_78 : decode (ma_cd 22) 78 = .ok (.goto (-69), 3) := (congrArg (fun b => decode b 78) cd_22).trans dX2_sumOf_78
theorem e22_81 : decode (ma_cd 22) 81 = .ok (.iload_n 3, 1) := (congrArg (fun b => decode b 81) cd_22).trans dX2_sumOf_81
theorem e22_82 : decode (ma_cd 22) 82 = .ok (.ireturn, 1) := (congrArg (fun b => decode b 82) cd_22).trans dX2_sumOf_82
theorem Sh22_9 {ro : ma_RO} {d : Nat} : (∀ (v0 : Option Value) (v1 : Option Value) (v2 : Option Value) (v3 : Option Value) (v4 : Option Value) (x1 : Int32) (st : List Value) (σ : ma_H), ma_rn ro d 22 (9, [v0, v1, v2, v3, v4, some (.int x1)], st, SH, σ) = ma_rn ro d 22 (11, [v0, v1, v2, v3, v4, some (.int x1)], .int x1 :: st, SH, σ)) := fun v0 v1 v2 v3 v4 x1 st σ => q_go e22_9 rfl rfl
theorem S22 {ro : ma_RO} {d : Nat} : (∀ (v0 : Option Value) (v1 : Option Value) (v2 : Option Value) (v3 : Option Value) (v4 : Option Value) (v5 : Option Value) (st : List Value) (σ : ma_H), ma_rn ro d 22 (0, [v0, v1, v2, v3, v4, v5], st, SH, σ) = ma_rn ro d 22 (2, [v0, v1, v2, v3, v4, v5], .int (nI 8) :: st, SH, σ)) ∧
  (∀ (v0 : Option Value) (v1 : Option Value) (v3 : Option Value) (v4 : Option Value) (v5 : Option Value) (x9 : Int32) (x1 : Int32) (st : List Value) (σ : ma_H), ma_rn ro d 22 (2, [v0, v1, some (.int x9), v3, v4, v5], .int x1 :: st, SH, σ) = ma_rn ro d 22 (3, [v0, v1, some (.int x9), some (.int x1), v4, v5], st, SH, σ)) ∧
  (∀ (v0 : Option Value) (v1 : Option Value) (v2 : Option Value) (v3 : Option Value) (v4 : Option Value) (v5 : Option Value) (st : List Value) (σ : ma_H), ma_rn ro d 22 (3, [v0, v1, v2, v3, v4, v5], st, SH, σ) = ma_rn ro d 22 (4, [v0, v1, v2, v3, v4, v5], .int (nI 0) :: st, SH, σ)) ∧
  (∀ (v0 : Option Value) (v1 : Option Value) (v2 : Option Value) (v4 : Option Value) (v5 : Option Value) (x9 : Int32) (x1 : Int32) (st : List Value) (σ : ma_H), ma_rn ro d 22 (4, [v0, v1, v2, some (.int x9), v4, v5], .int x1 :: st, SH, σ) = ma_rn ro d 22 (6, [v0, v1, v2, some (.int x9), some (.int x1), v5], st, SH, σ)) ∧
  (∀ (v0 : Option Value) (v1 : Option Value) (v2 : Option Value) (v3 : Option Value) (v4 : Option Value) (v5 : Option Value) (st : List Value) (σ : ma_H), ma_rn ro d 22 (6, [v0, v1, v2, v3, v4, v5], st, SH, σ) = ma_rn ro d 22 (7, [v0, v1, v2, v3, v4, v5], .int (nI 0) :: st, SH, σ)) ∧
  (∀ (v0 : Option Value) (v1 : Option Value) (v2 : Option Value) (v3 : Option Value) (v5 : Option Value) (x9 : Int32) (x1 : Int32) (st : List Value) (σ : ma_H), ma_rn ro d 22 (7, [v0, v1, v2, v3, some (.int x9), v5], .int x1 :: st, SH, σ) = ma_rn ro d 22 (9, [v0, v1, v2, v3, some (.int x9), some (.int x1)], st, SH, σ)) ∧
  (∀ (v1 : Option Value) (v2 : Option Value) (v3 : Option Value) (v4 : Option Value) (v5 : Option Value) (a1 : Nat) (st : List Value) (σ : ma_H), ma_rn ro d 22 (11, [some (.ref a1), v1, v2, v3, v4, v5], st, SH, σ) = ma_rn ro d 22 (12, [some (.ref a1), v1, v2, v3, v4, v5], .ref a1 :: st, SH, σ)) ∧
  (∀ (v0 : Option Value) (v1 : Option Value) (v2 : Option Value) (v3 : Option Value) (v4 : Option Value) (v5 : Option Value) (a1 : Nat) (st : List Value) (σ : ma_H) (hc : hk_cls a1 = 2), ma_rn ro d 22 (12, [v0, v1, v2, v3, v4, v5], .ref a1 :: st, SH, σ) = ma_rn ro d 22 (15, [v0, v1, v2, v3, v4, v5], .int (σ a1 3) :: st, SH, σ)) ∧
  (∀ (v0 : Option Value) (v1 : Option Value) (v2 : Option Value) (v3 : Option Value) (v4 : Option Value) (v5 : Option Value) (x1 : Int32) (x2 : Int32) (st : List Value) (σ : ma_H), ma_rn ro d 22 (15, [v0, v1, v2, v3, v4, v5], .int x1 :: .int x2 :: st, SH, σ) = if x2 < x1 then ma_rn ro d 22 (18, [v0, v1, v2, v3, v4, v5], st, SH, σ) else ma_rn ro d 22 (81, [v0, v1, v2, v3, v4, v5], st, SH, σ)) ∧
  (∀ (v0 : Option Value) (v1 : Option Value) (v2 : Option Value) (v3 : Option Value) (v4 : Option Value) (x1 : Int32) (st : List Value) (σ : ma_H), ma_rn ro d 22 (18, [v0, v1, v2, v3, v4, some (.int x1)], st, SH, σ) = ma_rn ro d 22 (20, [v0, v1, v2, v3, v4, some (.int x1)], .int x1 :: st, SH, σ)) ∧
  (∀ (v1 : Option Value) (v2 : Option Value) (v3 : Option Value) (v4 : Option Value) (v5 : Option Value) (a1 : Nat) (st : List Value) (σ : ma_H), ma_rn ro d 22 (20, [some (.ref a1), v1, v2, v3, v4, v5], st, SH, σ) = ma_rn ro d 22 (21, [some (.ref a1), v1, v2, v3, v4, v5], .ref a1 :: st, SH, σ)) ∧
  (∀ (v0 : Option Value) (v1 : Option Value) (v2 : Option Value) (v3 : Option Value) (v4 : Option Value) (v5 : Option Value) (a1 : Nat) (st : List Value) (σ : ma_H) (hc : hk_cls a1 = 2), ma_rn ro d 22 (21, [v0, v1, v2, v3, v4, v5], .ref a1 :: st, SH, σ) = ma_rn ro d 22 (24, [v0, v1, v2, v3, v4, v5], .ref (a1 + 1) :: st, SH, σ)) ∧
  (∀ (v0 : Option Value) (v1 : Option Value) (v2 : Option Value) (v3 : Option Value) (v4 : Option Value) (v5 : Option Value) (a1 : Nat) (st : List Value) (σ : ma_H) (hn : 0 < hk_alen a1), ma_rn ro d 22 (24, [v0, v1, v2, v3, v4, v5], .ref a1 :: st, SH, σ) = ma_rn ro d 22 (25, [v0, v1, v2, v3, v4, v5], .int (nI (hk_alen a1)) :: st, SH, σ)) ∧
  (∀ (v0 : Option Value) (v1 : Option Value) (v2 : Option Value) (v3 : Option Value) (v4 : Option Value) (v5 : Option Value) (x1 : Int32) (x2 : Int32) (st : List Value) (σ : ma_H), ma_rn ro d 22 (25, [v0, v1, v2, v3, v4, v5], .int x1 :: .int x2 :: st, SH, σ) = if x2 < x1 then ma_rn ro d 22 (28, [v0, v1, v2, v3, v4, v5], st, SH, σ) else ma_rn ro d 22 (81, [v0, v1, v2, v3, v4, v5], st, SH, σ)) ∧
  (∀ (v0 : Option Value) (v1 : Option Value) (v2 : Option Value) (v3 : Option Value) (v4 : Option Value) (x1 : Int32) (st : List Value) (σ : ma_H), ma_rn ro d 22 (28, [v0, v1, v2, v3, v4, some (.int x1)], st, SH, σ) = ma_rn ro d 22 (30, [v0, v1, v2, v3, v4, some (.int x1)], .int x1 :: st, SH, σ)) ∧
  (∀ (v1 : Option Value) (v2 : Option Value) (v3 : Option Value) (v4 : Option Value) (v5 : Option Value) (a1 : Nat) (st : List Value) (σ : ma_H), ma_rn ro d 22 (30, [some (.ref a1), v1, v2, v3, v4, v5], st, SH, σ) = ma_rn ro d 22 (31, [some (.ref a1), v1, v2, v3, v4, v5], .ref a1 :: st, SH, σ)) ∧
  (∀ (v0 : Option Value) (v1 : Option Value) (v2 : Option Value) (v3 : Option Value) (v4 : Option Value) (v5 : Option Value) (a1 : Nat) (st : List Value) (σ : ma_H) (hc : hk_cls a1 = 2), ma_rn ro d 22 (31, [v0, v1, v2, v3, v4, v5], .ref a1 :: st, SH, σ) = ma_rn ro d 22 (34, [v0, v1, v2, v3, v4, v5], .ref (a1 + 2) :: st, SH, σ)) ∧
  (∀ (v0 : Option Value) (v1 : Option Value) (v2 : Option Value) (v3 : Option Value) (v4 : Option Value) (v5 : Option Value) (a1 : Nat) (st : List Value) (σ : ma_H) (hn : 0 < hk_alen a1), ma_rn ro d 22 (34, [v0, v1, v2, v3, v4, v5], .ref a1 :: st, SH, σ) = ma_rn ro d 22 (35, [v0, v1, v2, v3, v4, v5], .int (nI (hk_alen a1)) :: st, SH, σ)) ∧
  (∀ (v0 : Option Value) (v1 : Option Value) (v2 : Option Value) (v3 : Option Value) (v4 : Option Value) (v5 : Option Value) (x1 : Int32) (x2 : Int32) (st : List Value) (σ : ma_H), ma_rn ro d 22 (35, [v0, v1, v2, v3, v4, v5], .int x1 :: .int x2 :: st, SH, σ) = if x2 < x1 then ma_rn ro d 22 (38, [v0, v1, v2, v3, v4, v5], st, SH, σ) else ma_rn ro d 22 (81, [v0, v1, v2, v3, v4, v5], st, SH, σ)) ∧
  (∀ (v1 : Option Value) (v2 : Option Value) (v3 : Option Value) (v4 : Option Value) (v5 : Option Value) (a1 : Nat) (st : List Value) (σ : ma_H), ma_rn ro d 22 (38, [some (.ref a1), v1, v2, v3, v4, v5], st, SH, σ) = ma_rn ro d 22 (39, [some (.ref a1), v1, v2, v3, v4, v5], .ref a1 :: st, SH, σ)) ∧
  (∀ (v0 : Option Value) (v1 : Option Value) (v2 : Option Value) (v3 : Option Value) (v5 : Option Value) (x1 : Int32) (st : List Value) (σ : ma_H), ma_rn ro d 22 (39, [v0, v1, v2, v3, some (.int x1), v5], st, SH, σ) = ma_rn ro d 22 (41, [v0, v1, v2, v3, some (.int x1), v5], .int x1 :: st, SH, σ)) ∧
  (∀ (v1 : Option Value) (v2 : Option Value) (v3 : Option Value) (v4 : Option Value) (v5 : Option Value) (a1 : Nat) (st : List Value) (σ : ma_H), ma_rn ro d 22 (41, [some (.ref a1), v1, v2, v3, v4, v5], st, SH, σ) = ma_rn ro d 22 (42, [some (.ref a1), v1, v2, v3, v4, v5], .ref a1 :: st, SH, σ)) ∧
  (∀ (v0 : Option Value) (v1 : Option Value) (v2 : Option Value) (v3 : Option Value) (v4 : Option Value) (v5 : Option Value) (a1 : Nat) (st : List Value) (σ : ma_H) (hc : hk_cls a1 = 2), ma_rn ro d 22 (42, [v0, v1, v2, v3, v4, v5], .ref a1 :: st, SH, σ) = ma_rn ro d 22 (45, [v0, v1, v2, v3, v4, v5], .ref (a1 + 2) :: st, SH, σ)) ∧
  (∀ (v0 : Option Value) (v1 : Option Value) (v2 : Option Value) (v3 : Option Value) (v4 : Option Value) (x1 : Int32) (st : List Value) (σ : ma_H), ma_rn ro d 22 (45, [v0, v1, v2, v3, v4, some (.int x1)], st, SH, σ) = ma_rn ro d 22 (47, [v0, v1, v2, v3, v4, some (.int x1)], .int x1 :: st, SH, σ)) ∧
  (∀ (v0 : Option Value) (v1 : Option Value) (v2 : Option Value) (v3 : Option Value) (v4 : Option Value) (v5 : Option Value) (k : Nat) (a2 : Nat) (st : List Value) (σ : ma_H) (hk : k < hk_len a2), ma_rn ro d 22 (47, [v0, v1, v2, v3, v4, v5], .int (nI k) :: .ref a2 :: st, SH, σ) = ma_rn ro d 22 (48, [v0, v1, v2, v3, v4, v5], .int (σ a2 k) :: st, SH, σ)) ∧
  (∀ (v0 : Option Value) (v2 : Option Value) (v3 : Option Value) (v4 : Option Value) (v5 : Option Value) (a1 : Nat) (st : List Value) (σ : ma_H), ma_rn ro d 22 (48, [v0, some (.ref a1), v2, v3, v4, v5], st, SH, σ) = ma_rn ro d 22 (49, [v0, some (.ref a1), v2, v3, v4, v5], .ref a1 :: st, SH, σ)) ∧
  (∀ (v0 : Option Value) (v1 : Option Value) (v3 : Option Value) (v4 : Option Value) (v5 : Option Value) (x1 : Int32) (st : List Value) (σ : ma_H), ma_rn ro d 22 (49, [v0, v1, some (.int x1), v3, v4, v5], st, SH, σ) = ma_rn ro d 22 (50, [v0, v1, some (.int x1), v3, v4, v5], .int x1 :: st, SH, σ)) ∧
  (∀ (v0 : Option Value) (v1 : Option Value) (v2 : Option Value) (v3 : Option Value) (v4 : Option Value) (v5 : Option Value) (x1 : Int32) (x2 : Int32) (a3 : Nat) (x4 : Int32) (a0 : Nat) (σ : ma_H) (hc : hk_cls a0 = 2), ma_rn ro (d + 1) 22 (50, [v0, v1, v2, v3, v4, v5], .int x4 :: .ref a3 :: .int x2 :: .int x1 :: .ref a0 :: [], SH, σ) = (ma_ev ro d 23 [.ref a0, .int x1, .int x2, .ref a3, .int x4] SH σ).bind (fun q => ma_rn ro (d + 1) 22 (53, [v0, v1, v2, v3, v4, v5], (q.1.toList ++ []), q.2.1, q.2.2))) ∧
  (∀ (v0 : Option Value) (v1 : Option Value) (v2 : Option Value) (v3 : Option Value) (v4 : Option Value) (v5 : Option Value) (x1 : Int32) (st : List Value) (σ : ma_H), ma_rn ro d 22 (53, [v0, v1, v2, v3, v4, v5], .int x1 :: st, SH, σ) = if x1 = nI 0 then ma_rn ro d 22 (66, [v0, v1, v2, v3, v4, v5], st, SH, σ) else ma_rn ro d 22 (56, [v0, v1, v2, v3, v4, v5], st, SH, σ)) ∧
  (∀ (v0 : Option Value) (v1 : Option Value) (v2 : Option Value) (v4 : Option Value) (v5 : Option Value) (x1 : Int32) (st : List Value) (σ : ma_H), ma_rn ro d 22 (56, [v0, v1, v2, some (.int x1), v4, v5], st, SH, σ) = ma_rn ro d 22 (57, [v0, v1, v2, some (.int x1), v4, v5], .int x1 :: st, SH, σ)) ∧
  (∀ (v1 : Option Value) (v2 : Option Value) (v3 : Option Value) (v4 : Option Value) (v5 : Option Value) (a1 : Nat) (st : List Value) (σ : ma_H), ma_rn ro d 22 (57, [some (.ref a1), v1, v2, v3, v4, v5], st, SH, σ) = ma_rn ro d 22 (58, [some (.ref a1), v1, v2, v3, v4, v5], .ref a1 :: st, SH, σ)) ∧
  (∀ (v0 : Option Value) (v1 : Option Value) (v2 : Option Value) (v3 : Option Value) (v4 : Option Value) (v5 : Option Value) (a1 : Nat) (st : List Value) (σ : ma_H) (hc : hk_cls a1 = 2), ma_rn ro d 22 (58, [v0, v1, v2, v3, v4, v5], .ref a1 :: st, SH, σ) = ma_rn ro d 22 (61, [v0, v1, v2, v3, v4, v5], .ref (a1 + 1) :: st, SH, σ)) ∧
  (∀ (v0 : Option Value) (v1 : Option Value) (v2 : Option Value) (v3 : Option Value) (v4 : Option Value) (x1 : Int32) (st : List Value) (σ : ma_H), ma_rn ro d 22 (61, [v0, v1, v2, v3, v4, some (.int x1)], st, SH, σ) = ma_rn ro d 22 (63, [v0, v1, v2, v3, v4, some (.int x1)], .int x1 :: st, SH, σ)) ∧
  (∀ (v0 : Option Value) (v1 : Option Value) (v2 : Option Value) (v3 : Option Value) (v4 : Option Value) (v5 : Option Value) (k : Nat) (a2 : Nat) (st : List Value) (σ : ma_H) (hk : k < hk_len a2), ma_rn ro d 22 (63, [v0, v1, v2, v3, v4, v5], .int (nI k) :: .ref a2 :: st, SH, σ) = ma_rn ro d 22 (64, [v0, v1, v2, v3, v4, v5], .int (σ a2 k) :: st, SH, σ)) ∧
  (∀ (v0 : Option Value) (v1 : Option Value) (v2 : Option Value) (v3 : Option Value) (v4 : Option Value) (v5 : Option Value) (x1 : Int32) (x2 : Int32) (st : List Value) (σ : ma_H), ma_rn ro d 22 (64, [v0, v1, v2, v3, v4, v5], .int x1 :: .int x2 :: st, SH, σ) = ma_rn ro d 22 (65, [v0, v1, v2, v3, v4, v5], .int (x2 + x1) :: st, SH, σ)) ∧
  (∀ (v0 : Option Value) (v1 : Option Value) (v3 : Option Value) (v4 : Option Value) (v5 : Option Value) (x9 : Int32) (x1 : Int32) (st : List Value) (σ : ma_H), ma_rn ro d 22 (65, [v0, v1, some (.int x9), v3, v4, v5], .int x1 :: st, SH, σ) = ma_rn ro d 22 (66, [v0, v1, some (.int x9), some (.int x1), v4, v5], st, SH, σ)) ∧
  (∀ (v1 : Option Value) (v2 : Option Value) (v3 : Option Value) (v4 : Option Value) (v5 : Option Value) (a1 : Nat) (st : List Value) (σ : ma_H), ma_rn ro d 22 (66, [some (.ref a1), v1, v2, v3, v4, v5], st, SH, σ) = ma_rn ro d 22 (67, [some (.ref a1), v1, v2, v3, v4, v5], .ref a1 :: st, SH, σ)) ∧
  (∀ (v0 : Option Value) (v1 : Option Value) (v2 : Option Value) (v3 : Option Value) (v4 : Option Value) (v5 : Option Value) (a1 : Nat) (st : List Value) (σ : ma_H) (hc : hk_cls a1 = 2), ma_rn ro d 22 (67, [v0, v1, v2, v3, v4, v5], .ref a1 :: st, SH, σ) = ma_rn ro d 22 (70, [v0, v1, v2, v3, v4, v5], .ref (a1 + 2) :: st, SH, σ)) ∧
  (∀ (v0 : Option Value) (v1 : Option Value) (v2 : Option Value) (v3 : Option Value) (v4 : Option Value) (x1 : Int32) (st : List Value) (σ : ma_H), ma_rn ro d 22 (70, [v0, v1, v2, v3, v4, some (.int x1)], st, SH, σ) = ma_rn ro d 22 (72, [v0, v1, v2, v3, v4, some (.int x1)], .int x1 :: st, SH, σ)) ∧
  (∀ (v0 : Option Value) (v1 : Option Value) (v2 : Option Value) (v3 : Option Value) (v4 : Option Value) (v5 : Option Value) (k : Nat) (a2 : Nat) (st : List Value) (σ : ma_H) (hk : k < hk_len a2), ma_rn ro d 22 (72, [v0, v1, v2, v3, v4, v5], .int (nI k) :: .ref a2 :: st, SH, σ) = ma_rn ro d 22 (73, [v0, v1, v2, v3, v4, v5], .int (σ a2 k) :: st, SH, σ)) ∧
  (∀ (v0 : Option Value) (v1 : Option Value) (v2 : Option Value) (v4 : Option Value) (v5 : Option Value) (x9 : Int32) (x1 : Int32) (st : List Value) (σ : ma_H), ma_rn ro d 22 (73, [v0, v1, v2, some (.int x9), v4, v5], .int x1 :: st, SH, σ) = ma_rn ro d 22 (75, [v0, v1, v2, some (.int x9), some (.int x1), v5], st, SH, σ)) ∧
  (∀ (v0 : Option Value) (v1 : Option Value) (v2 : Option Value) (v3 : Option Value) (x1 : Int32) (x9 : Int32) (st : List Value) (σ : ma_H), ma_rn ro d 22 (75, [v0, v1, v2, v3, some (.int x9), some (.int x1)], st, SH, σ) = ma_rn ro d 22 (78, [v0, v1, v2, v3, some (.int x9), some (.int (x1 + nI 1))], st, SH, σ)) ∧
  (∀ (v0 : Option Value) (v1 : Option Value) (v2 : Option Value) (v3 : Option Value) (v4 : Option Value) (v5 : Option Value) (st : List Value) (σ : ma_H), ma_rn ro d 22 (78, [v0, v1, v2, v3, v4, v5], st, SH, σ) = ma_rn ro d 22 (9, [v0, v1, v2, v3, v4, v5], st, SH, σ)) ∧
  (∀ (v0 : Option Value) (v1 : Option Value) (v2 : Option Value) (v4 : Option Value) (v5 : Option Value) (x1 : Int32) (st : List Value) (σ : ma_H), ma_rn ro d 22 (81, [v0, v1, v2, some (.int x1), v4, v5], st, SH, σ) = ma_rn ro d 22 (82, [v0, v1, v2, some (.int x1), v4, v5], .int x1 :: st, SH, σ)) ∧
  (∀ (v0 : Option Value) (v1 : Option Value) (v2 : Option Value) (v3 : Option Value) (v4 : Option Value) (v5 : Option Value) (x1 : Int32) (σ : ma_H), ma_rn ro d 22 (82, [v0, v1, v2, v3, v4, v5], [.int x1], SH, σ) = some (some (.int x1), SH, σ)) := ⟨fun v0 v1 v2 v3 v4 v5 st σ => q_bipush e22_0 (by decide),
  fun v0 v1 v3 v4 v5 x9 x1 st σ => q_go e22_2 rfl rfl,
  fun v0 v1 v2 v3 v4 v5 st σ => q_iconst e22_3 (by decide),
  fun v0 v1 v2 v4 v5 x9 x1 st σ => q_go e22_4 rfl rfl,
  fun v0 v1 v2 v3 v4 v5 st σ => q_iconst e22_6 (by decide),
  fun v0 v1 v2 v3 v5 x9 x1 st σ => q_go e22_7 rfl rfl,
  fun v1 v2 v3 v4 v5 a1 st σ => q_go e22_11 rfl rfl,
  fun v0 v1 v2 v3 v4 v5 a1 st σ hc => q_getI e22_12 o_22 f_2_25 (by decide) hc,
  fun v0 v1 v2 v3 v4 v5 x1 x2 st σ => (q_cmp e22_15 rfl).trans q_nlt,
  fun v0 v1 v2 v3 v4 x1 st σ => q_go e22_18 rfl rfl,
  fun v1 v2 v3 v4 v5 a1 st σ => q_go e22_20 rfl rfl,
  fun v0 v1 v2 v3 v4 v5 a1 st σ hc => q_getA e22_21 o_22 f_2_9 (by decide) hc,
  fun v0 v1 v2 v3 v4 v5 a1 st σ hn => q_alen e22_24 rfl hn,
  fun v0 v1 v2 v3 v4 v5 x1 x2 st σ => (q_cmp e22_25 rfl).trans q_nlt,
  fun v0 v1 v2 v3 v4 x1 st σ => q_go e22_28 rfl rfl,
  fun v1 v2 v3 v4 v5 a1 st σ => q_go e22_30 rfl rfl,
  fun v0 v1 v2 v3 v4 v5 a1 st σ hc => q_getA e22_31 o_22 f_2_15 (by decide) hc,
  fun v0 v1 v2 v3 v4 v5 a1 st σ hn => q_alen e22_34 rfl hn,
  fun v0 v1 v2 v3 v4 v5 x1 x2 st σ => (q_cmp e22_35 rfl).trans q_nlt,
  fun v1 v2 v3 v4 v5 a1 st σ => q_go e22_38 rfl rfl,
  fun v0 v1 v2 v3 v5 x1 st σ => q_go e22_39 rfl rfl,
  fun v1 v2 v3 v4 v5 a1 st σ => q_go e22_41 rfl rfl,
  fun v0 v1 v2 v3 v4 v5 a1 st σ hc => q_getA e22_42 o_22 f_2_15 (by decide) hc,
  fun v0 v1 v2 v3 v4 x1 st σ => q_go e22_45 rfl rfl,
  fun v0 v1 v2 v3 v4 v5 k a2 st σ hk => q_iald e22_47 hk,
  fun v0 v2 v3 v4 v5 a1 st σ => q_go e22_48 rfl rfl,
  fun v0 v1 v3 v4 v5 x1 st σ => q_go e22_49 rfl rfl,
  fun v0 v1 v2 v3 v4 v5 x1 x2 a3 x4 a0 σ hc => q_invV (as := [.int x1, .int x2, .ref a3, .int x4]) (rest := []) e22_50 o_22 bn_2_39 c_2_39 m_23 (by decide) rfl rfl (Nat.le_of_ble_eq_true rfl) (Nat.le_of_ble_eq_true rfl) hc,
  fun v0 v1 v2 v3 v4 v5 x1 st σ => (q_if e22_53 rfl).trans q_eq,
  fun v0 v1 v2 v4 v5 x1 st σ => q_go e22_56 rfl rfl,
  fun v1 v2 v3 v4 v5 a1 st σ => q_go e22_57 rfl rfl,
  fun v0 v1 v2 v3 v4 v5 a1 st σ hc => q_getA e22_58 o_22 f_2_9 (by decide) hc,
  fun v0 v1 v2 v3 v4 x1 st σ => q_go e22_61 rfl rfl,
  fun v0 v1 v2 v3 v4 v5 k a2 st σ hk => q_iald e22_63 hk,
  fun v0 v1 v2 v3 v4 v5 x1 x2 st σ => q_go e22_64 rfl rfl,
  fun v0 v1 v3 v4 v5 x9 x1 st σ => q_go e22_65 rfl rfl,
  fun v1 v2 v3 v4 v5 a1 st σ => q_go e22_66 rfl rfl,
  fun v0 v1 v2 v3 v4 v5 a1 st σ hc => q_getA e22_67 o_22 f_2_15 (by decide) hc,
  fun v0 v1 v2 v3 v4 x1 st σ => q_go e22_70 rfl rfl,
  fun v0 v1 v2 v3 v4 v5 k a2 st σ hk => q_iald e22_72 hk,
  fun v0 v1 v2 v4 v5 x9 x1 st σ => q_go e22_73 rfl rfl,
  fun v0 v1 v2 v3 x1 x9 st σ => q_iinc e22_75 rfl rfl (by decide),
  fun v0 v1 v2 v3 v4 v5 st σ => q_goto e22_78 rfl,
  fun v0 v1 v2 v4 v5 x1 st σ => q_go e22_81 rfl rfl,
  fun v0 v1 v2 v3 v4 v5 x1 σ => q_iret e22_82 r_22⟩
theorem E22 {ro : ma_RO} {d : Nat} (a0 : Nat) (a1 : Nat) (x2 : Int32) (sh : List ma_Sh) (σ : ma_H) : ma_ev ro d 22 [.ref a0, .ref a1, .int x2] sh σ = ma_rn ro d 22 (0, [some (.ref a0), some (.ref a1), some (.int x2), none, none, none], [], sh, σ) := q_ent x_22 rfl
theorem e23_0 : decode (ma_cd 23) 0 = .ok (.iconst 0, 1) := (congrArg (fun b => decode b 0) cd_23).trans dX2_holds_0
theorem e23_1 : decode (ma_cd 23) 1 = .ok (.istore 5, 2) := (congrArg (fun b => decode b 1) cd_23).trans dX2_holds_1
theorem e23_3 : decode (ma_cd 23) 3 = .ok (.iconst 0, 1) := (congrArg (fun b => decode b 3) cd_23).trans dX2_holds_3
theorem e23_4 : decode (ma_cd 23) 4 = .ok (.iload_n 1, 1) := (congrArg (fun b => decode b 4) cd_23).trans dX2_holds_4
theorem e23_5 : decode (ma_cd 23) 5 = .ok (.invokestatic 43, 3) := (congrArg (fun b => decode b 5) cd_23).trans dX2_holds_5
theorem e23_8 : decode (ma_cd 23) 8 = .ok (.istore 6, 2) := (congrArg (fun b => decode b 8) cd_23).trans dX2_holds_8
theorem e23_10 : decode (ma_cd 23) 10 = .ok (.iload 6, 2) := (congrArg (fun b => decode b 10) cd_23).trans dX2_holds_10
theorem e23_12 : decode (ma_cd 23) 12 = .ok (.iload_n 2, 1) := (congrArg (fun b => decode b 12) cd_23).trans dX2_holds_12
theorem e23_13 : decode (ma_cd 23) 13 = .ok (.if_icmp .ge 110, 3) := (congrArg (fun b => decode b 13) cd_23).trans dX2_holds_13
theorem e23_16 : decode (ma_cd 23) 16 = .ok (.iload 6, 2) := (congrArg (fun b => decode b 16) cd_23).trans dX2_holds_16
theorem e23_18 : decode (ma_cd 23) 18 = .ok (.aload_n 0, 1) := (congrArg (fun b => decode b 18) cd_23).trans dX2_holds_18
theorem e23_19 : decode (ma_cd 23) 19 = .ok (.getfield 18, 3) := (congrArg (fun b => decode b 19) cd_23).trans dX2_holds_19
theorem e23_22 : decode (ma_cd 23) 22 = .ok (.arraylength, 1) := (congrArg (fun b => decode b 22) cd_23).trans dX2_holds_22
theorem e23_23 : decode (ma_cd 23) 23 = .ok (.if_icmp .ge 100, 3) := (congrArg (fun b => decode b 23) cd_23).trans dX2_holds_23
theorem e23_26 : decode (ma_cd 23) 26 = .ok (.aload_n 0, 1) := (congrArg (fun b => decode b 26) cd_23).trans dX2_holds_26
theorem e23_27 : decode (ma_cd 23) 27 = .ok (.getfield 18, 3) := (congrArg (fun b => decode b 27) cd_23).trans dX2_holds_27
theorem e23_30 : decode (ma_cd 23) 30 = .ok (.iload 6, 2) := (congrArg (fun b => decode b 30) cd_23).trans dX2_holds_30
theorem e23_32 : decode (ma_cd 23) 32 = .ok (.iaload, 1) := (congrArg (fun b => decode b 32) cd_23).trans dX2_holds_32
theorem e23_33 : decode (ma_cd 23) 33 = .ok (.istore 7, 2) := (congrArg (fun b => decode b 33) cd_23).trans dX2_holds_33
theorem e23_35 : decode (ma_cd 23) 35 = .ok (.iload 7, 2) := (congrArg (fun b => decode b 35) cd_23).trans dX2_holds_35
theorem e23_37 : decode (ma_cd 23) 37 = .ok (.bipush 6, 2) := (congrArg (fun b => decode b 37) cd_23).trans dX2_holds_37
theorem e23_39 : decode (ma_cd 23) 39 = .ok (.if_icmp .ne 12, 3) := (congrArg (fun b => decode b 39) cd_23).trans dX2_holds_39
theorem e23_42 : decode (ma_cd 23) 42 = .ok (.iload 5, 2) := (congrArg (fun b => decode b 42) cd_23).trans dX2_holds_42
theorem e23_44 : decode (ma_cd 23) 44 = .ok (.iconst 1, 1) := (congrArg (fun b => decode b 44) cd_23).trans dX2_holds_44
theorem e23_45 : decode (ma_cd 23) 45 = .ok (.ixor, 1) := (congrArg (fun b => decode b 45) cd_23).trans dX2_holds_45
theorem e23_46 : decode (ma_cd 23) 46 = .ok (.istore 5, 2) := (congrArg (fun b => decode b 46) cd_23).trans dX2_holds_46
theorem e23_48 : decode (ma_cd 23) 48 = .ok (.goto 69, 3) := (congrArg (fun b => decode b 48) cd_23).trans dX2_holds_48
theorem e23_51 : decode (ma_cd 23) 51 = .ok (.iload 7, 2) := (congrArg (fun b => decode b 51) cd_23).trans dX2_holds_51
theorem e23_53 : decode (ma_cd 23) 53 = .ok (.bipush 7, 2) := (congrArg (fun b => decode b 53) cd_23).trans dX2_holds_53
theorem e23_55 : decode (ma_cd 23) 55 = .ok (.if_icmp .ne 18, 3) := (congrArg (fun b => decode b 55) cd_23).trans dX2_holds_55
theorem e23_58 : decode (ma_cd 23) 58 = .ok (.iload 5, 2) := (congrArg (fun b => decode b 58) cd_23).trans dX2_holds_58
theorem e23_60 : decode (ma_cd 23) 60 = .ok (.iconst 1, 1) := (congrArg (fun b => decode b 60) cd_23).trans dX2_holds_60
theorem e23_61 : decode (ma_cd 23) 61 = .ok (.ishr, 1) := (congrArg (fun b => decode b 61) cd_23).trans dX2_holds_61
theorem e23_62 : decode (ma_cd 23) 62 = .ok (.iload 5, 2) := (congrArg (fun b => decode b 62) cd_23).trans dX2_holds_62
theorem e23_64 : decode (ma_cd 23) 64 = .ok (.bipush (-2), 2) := (congrArg (fun b => decode b 64) cd_23).trans dX2_holds_64
theorem e23_66 : decode (ma_cd 23) 66 = .ok (.ior, 1) := (congrArg (fun b => decode b 66) cd_23).trans dX2_holds_66
theorem e23_67 : decode (ma_cd 23) 67 = .ok (.iand, 1) := (congrArg (fun b => decode b 67) cd_23).trans dX2_holds_67
theorem e23_68 : decode (ma_cd 23) 68 = .ok (.istore 5, 2) := (congrArg (fun b => decode b 68) cd_23).trans dX2_holds_68
theorem e23_70 : decode (ma_cd 23) 70 = .ok (.goto 47, 3) := (congrArg (fun b => decode b 70) cd_23).trans dX2_holds_70
theorem e23_73 : decode (ma_cd 23) 73 = .ok (.iload 7, 2) := (congrArg (fun b => decode b 73) cd_23).trans dX2_holds_73
theorem e23_75 : decode (ma_cd 23) 75 = .ok (.bipush 8, 2) := (congrArg (fun b => decode b 75) cd_23).trans dX2_holds_75
theorem e23_77 : decode (ma_cd 23) 77 = .ok (.if_icmp .ne 17, 3) := (congrArg (fun b => decode b 77) cd_23).trans dX2_holds_77
theorem e23_80 : decode (ma_cd 23) 80 = .ok (.iload 5, 2) := (congrArg (fun b => decode b 80) cd_23).trans dX2_holds_80
theorem e23_82 : decode (ma_cd 23) 82 = .ok (.iconst 1, 1) := (congrArg (fun b => decode b 82) cd_23).trans dX2_holds_82
theorem e23_83 : decode (ma_cd 23) 83 = .ok (.ishr, 1) := (congrArg (fun b => decode b 83) cd_23).trans dX2_holds_83
theorem e23_84 : decode (ma_cd 23) 84 = .ok (.iload 5, 2) := (congrArg (fun b => decode b 84) cd_23).trans dX2_holds_84
theorem e23_86 : decode (ma_cd 23) 86 = .ok (.iconst 1, 1) := (congrArg (fun b => decode b 86) cd_23).trans dX2_holds_86
theorem e23_87 : decode (ma_cd 23) 87 = .ok (.iand, 1) := (congrArg (fun b => decode b 87) cd_23).trans dX2_holds_87
theorem e23_88 : decode (ma_cd 23) 88 = .ok (.ior, 1) := (congrArg (fun b => decode b 88) cd_23).trans dX2_holds_88
theorem e23_89 : decode (ma_cd 23) 89 = .ok (.istore 5, 2) := (congrArg (fun b => decode b 89) cd_23).trans dX2_holds_89
theorem e23_91 : decode (ma_cd 23) 91 = .ok (.goto 26, 3) := (congrArg (fun b => decode b 91) cd_23).trans dX2_holds_91
theorem e23_94 : decode (ma_cd 23) 94 = .ok (.iload 5, 2) := (congrArg (fun b => decode b 94) cd_23).trans dX2_holds_94
theorem e23_96 : decode (ma_cd 23) 96 = .ok (.iconst 1, 1) := (congrArg (fun b => decode b 96) cd_23).trans dX2_holds_96
theorem e23_97 : decode (ma_cd 23) 97 = .ok (.ishl, 1) := (congrArg (fun b => decode b 97) cd_23).trans dX2_holds_97
theorem e23_98 : decode (ma_cd 23) 98 = .ok (.iload 7, 2) := (congrArg (fun b => decode b 98) cd_23).trans dX2_holds_98
theorem e23_100 : decode (ma_cd 23) 100 = .ok (.aload_n 3, 1) := (congrArg (fun b => decode b 100) cd_23).trans dX2_holds_100
theorem e23_101 : decode (ma_cd 23) 101 = .ok (.iload 4, 2) := (congrArg (fun b => decode b 101) cd_23).trans dX2_holds_101
theorem e23_103 : decode (ma_cd 23) 103 = .ok (.invokestatic 49, 3) := (congrArg (fun b => decode b 103) cd_23).trans dX2_holds_103
theorem e23_106 : decode (ma_cd 23) 106 = .ok (.ifCond .eq 7, 3) := (congrArg (fun b => decode b 106) cd_23).trans dX2_holds_106
theorem e23_109 : decode (ma_cd 23) 109 = .ok (.iconst 1, 1) := (congrArg (fun b => decode b 109) cd_23).trans dX2_holds_109
theorem e23_110 : decode (ma_cd 23) 110 = .ok (.goto 4, 3) := (congrArg (fun b => decode b 110) cd_23).trans dX2_holds_110
theorem e23_113 : decode (ma_cd 23) 113 = .ok (.iconst 0, 1) := (congrArg (fun b => decode b 113) cd_23).trans dX2_holds_113
theorem e23_114 : decode (ma_cd 23) 114 = .ok (.ior, 1) := (congrArg (fun b => decode b 114) cd_23).trans dX2_holds_114
theorem e23_115 : decode (ma_cd 23) 115 = .ok (.istore 5, 2) := (congrArg (fun b => decode b 115) cd_23).trans dX2_holds_115
theorem e23_117 : decode (ma_cd 23) 117 = .ok (.iinc 6 1, 3) := (congrArg (fun b => decode b 117) cd_23).trans dX2_holds_117
theorem e23_120 : decode (ma_cd 23) 120 = .ok (.goto (-110), 3) := (congrArg (fun b => decode b 120) cd_23).trans dX2_holds_120
theorem e23_123 : decode (ma_cd 23) 123 = .ok (.iload 5, 2) := (congrArg (fun b => decode b 123) cd_23).trans dX2_holds_123
theorem e23_125 : decode (ma_cd 23) 125 = .ok (.iconst 1, 1) := (congrArg (fun b => decode b 125) cd_23).trans dX2_holds_125
theorem e23_126 : decode (ma_cd 23) 126 = .ok (.iand, 1) := (congrArg (fun b => decode b 126) cd_23).trans dX2_holds_126
theorem e23_127 : decode (ma_cd 23) 127 = .ok (.ifCond .eq 7, 3) := (congrArg (fun b => decode b 127) cd_23).trans dX2_holds_127
theorem e23_130 : decode (ma_cd 23) 130 = .ok (.iconst 1, 1) := (congrArg (fun b => decode b 130) cd_23).trans dX2_holds_130
theorem e23_131 : decode (ma_cd 23) 131 = .ok (.goto 4, 3) := (congrArg (fun b => decode b 131) cd_23).trans dX2_holds_131
theorem e23_134 : decode (ma_cd 23) 134 = .ok (.iconst 0, 1) := (congrArg (fun b => decode b 134) cd_23).trans dX2_holds_134
theorem e23_135 : decode (ma_cd 23) 135 = .ok (.ireturn, 1) := (congrArg (fun b => decode b 135) cd_23).trans dX2_holds_135
theorem Sh23_10 {ro : ma_RO} {d : Nat} : (∀ (v0 : Option Value) (v1 : Option Value) (v2 : Option Value) (v3 : Option Value) (v4 : Option Value) (v5 : Option Value) (v7 : Option Value) (x1 : Int32) (st : List Value) (σ : ma_H), ma_rn ro d 23 (10, [v0, v1, v2, v3, v4, v5, some (.int x1), v7], st, SH, σ) = ma_rn ro d 23 (12, [v0, v1, v2, v3, v4, v5, some (.int x1), v7], .int x1 :: st, SH, σ)) := fun v0 v1 v2 v3 v4 v5 v7 x1 st σ => q_go e23_10 rfl rfl
theorem S23 {ro : ma_RO} {d : Nat} : (∀ (v0 : Option Value) (v1 : Option Value) (v2 : Option Value) (v3 : Option Value) (v4 : Option Value) (v5 : Option Value) (v6 : Option Value) (v7 : Option Value) (st : List Value) (σ : ma_H), ma_rn ro d 23 (0, [v0, v1, v2, v3, v4, v5, v6, v7], st, SH, σ) = ma_rn ro d 23 (1, [v0, v1, v2, v3, v4, v5, v6, v7], .int (nI 0) :: st, SH, σ)) ∧
  (∀ (v0 : Option Value) (v1 : Option Value) (v2 : Option Value) (v3 : Option Value) (v5 : Option Value) (v6 : Option Value) (v7 : Option Value) (x9 : Int32) (x1 : Int32) (st : List Value) (σ : ma_H), ma_rn ro d 23 (1, [v0, v1, v2, v3, some (.int x9), v5, v6, v7], .int x1 :: st, SH, σ) = ma_rn ro d 23 (3, [v0, v1, v2, v3, some (.int x9), some (.int x1), v6, v7], st, SH, σ)) ∧
  (∀ (v0 : Option Value) (v1 : Option Value) (v2 : Option Value) (v3 : Option Value) (v4 : Option Value) (v5 : Option Value) (v6 : Option Value) (v7 : Option Value) (st : List Value) (σ : ma_H), ma_rn ro d 23 (3, [v0, v1, v2, v3, v4, v5, v6, v7], st, SH, σ) = ma_rn ro d 23 (4, [v0, v1, v2, v3, v4, v5, v6, v7], .int (nI 0) :: st, SH, σ)) ∧
  (∀ (v0 : Option Value) (v2 : Option Value) (v3 : Option Value) (v4 : Option Value) (v5 : Option Value) (v6 : Option Value) (v7 : Option Value) (x1 : Int32) (st : List Value) (σ : ma_H), ma_rn ro d 23 (4, [v0, some (.int x1), v2, v3, v4, v5, v6, v7], st, SH, σ) = ma_rn ro d 23 (5, [v0, some (.int x1), v2, v3, v4, v5, v6, v7], .int x1 :: st, SH, σ)) ∧
  (∀ (v0 : Option Value) (v1 : Option Value) (v2 : Option Value) (v3 : Option Value) (v4 : Option Value) (v5 : Option Value) (v6 : Option Value) (v7 : Option Value) (x1 : Int32) (x2 : Int32) (σ : ma_H), ma_rn ro d 23 (5, [v0, v1, v2, v3, v4, v5, v6, v7], .int x1 :: .int x2 :: [], SH, σ) = ma_rn ro d 23 (8, [v0, v1, v2, v3, v4, v5, v6, v7], .int (if x2 < x1 then x1 else x2) :: [], SH, σ)) ∧
  (∀ (v0 : Option Value) (v1 : Option Value) (v2 : Option Value) (v3 : Option Value) (v4 : Option Value) (v6 : Option Value) (v7 : Option Value) (x9 : Int32) (x1 : Int32) (st : List Value) (σ : ma_H), ma_rn ro d 23 (8, [v0, v1, v2, v3, v4, some (.int x9), v6, v7], .int x1 :: st, SH, σ) = ma_rn ro d 23 (10, [v0, v1, v2, v3, v4, some (.int x9), some (.int x1), v7], st, SH, σ)) ∧
  (∀ (v0 : Option Value) (v1 : Option Value) (v3 : Option Value) (v4 : Option Value) (v5 : Option Value) (v6 : Option Value) (v7 : Option Value) (x1 : Int32) (st : List Value) (σ : ma_H), ma_rn ro d 23 (12, [v0, v1, some (.int x1), v3, v4, v5, v6, v7], st, SH, σ) = ma_rn ro d 23 (13, [v0, v1, some (.int x1), v3, v4, v5, v6, v7], .int x1 :: st, SH, σ)) ∧
  (∀ (v0 : Option Value) (v1 : Option Value) (v2 : Option Value) (v3 : Option Value) (v4 : Option Value) (v5 : Option Value) (v6 : Option Value) (v7 : Option Value) (x1 : Int32) (x2 : Int32) (st : List Value) (σ : ma_H), ma_rn ro d 23 (13, [v0, v1, v2, v3, v4, v5, v6, v7], .int x1 :: .int x2 :: st, SH, σ) = if x2 < x1 then ma_rn ro d 23 (16, [v0, v1, v2, v3, v4, v5, v6, v7], st, SH, σ) else ma_rn ro d 23 (123, [v0, v1, v2, v3, v4, v5, v6, v7], st, SH, σ)) ∧
  (∀ (v0 : Option Value) (v1 : Option Value) (v2 : Option Value) (v3 : Option Value) (v4 : Option Value) (v5 : Option Value) (v7 : Option Value) (x1 : Int32) (st : List Value) (σ : ma_H), ma_rn ro d 23 (16, [v0, v1, v2, v3, v4, v5, some (.int x1), v7], st, SH, σ) = ma_rn ro d 23 (18, [v0, v1, v2, v3, v4, v5, some (.int x1), v7], .int x1 :: st, SH, σ)) ∧
  (∀ (v1 : Option Value) (v2 : Option Value) (v3 : Option Value) (v4 : Option Value) (v5 : Option Value) (v6 : Option Value) (v7 : Option Value) (a1 : Nat) (st : List Value) (σ : ma_H), ma_rn ro d 23 (18, [some (.ref a1), v1, v2, v3, v4, v5, v6, v7], st, SH, σ) = ma_rn ro d 23 (19, [some (.ref a1), v1, v2, v3, v4, v5, v6, v7], .ref a1 :: st, SH, σ)) ∧
  (∀ (v0 : Option Value) (v1 : Option Value) (v2 : Option Value) (v3 : Option Value) (v4 : Option Value) (v5 : Option Value) (v6 : Option Value) (v7 : Option Value) (a1 : Nat) (st : List Value) (σ : ma_H) (hc : hk_cls a1 = 2), ma_rn ro d 23 (19, [v0, v1, v2, v3, v4, v5, v6, v7], .ref a1 :: st, SH, σ) = ma_rn ro d 23 (22, [v0, v1, v2, v3, v4, v5, v6, v7], .ref (a1 + 3) :: st, SH, σ)) ∧
  (∀ (v0 : Option Value) (v1 : Option Value) (v2 : Option Value) (v3 : Option Value) (v4 : Option Value) (v5 : Option Value) (v6 : Option Value) (v7 : Option Value) (a1 : Nat) (st : List Value) (σ : ma_H) (hn : 0 < hk_alen a1), ma_rn ro d 23 (22, [v0, v1, v2, v3, v4, v5, v6, v7], .ref a1 :: st, SH, σ) = ma_rn ro d 23 (23, [v0, v1, v2, v3, v4, v5, v6, v7], .int (nI (hk_alen a1)) :: st, SH, σ)) ∧
  (∀ (v0 : Option Value) (v1 : Option Value) (v2 : Option Value) (v3 : Option Value) (v4 : Option Value) (v5 : Option Value) (v6 : Option Value) (v7 : Option Value) (x1 : Int32) (x2 : Int32) (st : List Value) (σ : ma_H), ma_rn ro d 23 (23, [v0, v1, v2, v3, v4, v5, v6, v7], .int x1 :: .int x2 :: st, SH, σ) = if x2 < x1 then ma_rn ro d 23 (26, [v0, v1, v2, v3, v4, v5, v6, v7], st, SH, σ) else ma_rn ro d 23 (123, [v0, v1, v2, v3, v4, v5, v6, v7], st, SH, σ)) ∧
  (∀ (v1 : Option Value) (v2 : Option Value) (v3 : Option Value) (v4 : Option Value) (v5 : Option Value) (v6 : Option Value) (v7 : Option Value) (a1 : Nat) (st : List Value) (σ : ma_H), ma_rn ro d 23 (26, [some (.ref a1), v1, v2, v3, v4, v5, v6, v7], st, SH, σ) = ma_rn ro d 23 (27, [some (.ref a1), v1, v2, v3, v4, v5, v6, v7], .ref a1 :: st, SH, σ)) ∧
  (∀ (v0 : Option Value) (v1 : Option Value) (v2 : Option Value) (v3 : Option Value) (v4 : Option Value) (v5 : Option Value) (v6 : Option Value) (v7 : Option Value) (a1 : Nat) (st : List Value) (σ : ma_H) (hc : hk_cls a1 = 2), ma_rn ro d 23 (27, [v0, v1, v2, v3, v4, v5, v6, v7], .ref a1 :: st, SH, σ) = ma_rn ro d 23 (30, [v0, v1, v2, v3, v4, v5, v6, v7], .ref (a1 + 3) :: st, SH, σ)) ∧
  (∀ (v0 : Option Value) (v1 : Option Value) (v2 : Option Value) (v3 : Option Value) (v4 : Option Value) (v5 : Option Value) (v7 : Option Value) (x1 : Int32) (st : List Value) (σ : ma_H), ma_rn ro d 23 (30, [v0, v1, v2, v3, v4, v5, some (.int x1), v7], st, SH, σ) = ma_rn ro d 23 (32, [v0, v1, v2, v3, v4, v5, some (.int x1), v7], .int x1 :: st, SH, σ)) ∧
  (∀ (v0 : Option Value) (v1 : Option Value) (v2 : Option Value) (v3 : Option Value) (v4 : Option Value) (v5 : Option Value) (v6 : Option Value) (v7 : Option Value) (k : Nat) (a2 : Nat) (st : List Value) (σ : ma_H) (hk : k < hk_len a2), ma_rn ro d 23 (32, [v0, v1, v2, v3, v4, v5, v6, v7], .int (nI k) :: .ref a2 :: st, SH, σ) = ma_rn ro d 23 (33, [v0, v1, v2, v3, v4, v5, v6, v7], .int (σ a2 k) :: st, SH, σ)) ∧
  (∀ (v0 : Option Value) (v1 : Option Value) (v2 : Option Value) (v3 : Option Value) (v4 : Option Value) (v5 : Option Value) (v7 : Option Value) (x9 : Int32) (x1 : Int32) (st : List Value) (σ : ma_H), ma_rn ro d 23 (33, [v0, v1, v2, v3, v4, v5, some (.int x9), v7], .int x1 :: st, SH, σ) = ma_rn ro d 23 (35, [v0, v1, v2, v3, v4, v5, some (.int x9), some (.int x1)], st, SH, σ)) ∧
  (∀ (v0 : Option Value) (v1 : Option Value) (v2 : Option Value) (v3 : Option Value) (v4 : Option Value) (v5 : Option Value) (v6 : Option Value) (x1 : Int32) (st : List Value) (σ : ma_H), ma_rn ro d 23 (35, [v0, v1, v2, v3, v4, v5, v6, some (.int x1)], st, SH, σ) = ma_rn ro d 23 (37, [v0, v1, v2, v3, v4, v5, v6, some (.int x1)], .int x1 :: st, SH, σ)) ∧
  (∀ (v0 : Option Value) (v1 : Option Value) (v2 : Option Value) (v3 : Option Value) (v4 : Option Value) (v5 : Option Value) (v6 : Option Value) (v7 : Option Value) (st : List Value) (σ : ma_H), ma_rn ro d 23 (37, [v0, v1, v2, v3, v4, v5, v6, v7], st, SH, σ) = ma_rn ro d 23 (39, [v0, v1, v2, v3, v4, v5, v6, v7], .int (nI 6) :: st, SH, σ)) ∧
  (∀ (v0 : Option Value) (v1 : Option Value) (v2 : Option Value) (v3 : Option Value) (v4 : Option Value) (v5 : Option Value) (v6 : Option Value) (v7 : Option Value) (x1 : Int32) (x2 : Int32) (st : List Value) (σ : ma_H), ma_rn ro d 23 (39, [v0, v1, v2, v3, v4, v5, v6, v7], .int x1 :: .int x2 :: st, SH, σ) = if x2 = x1 then ma_rn ro d 23 (42, [v0, v1, v2, v3, v4, v5, v6, v7], st, SH, σ) else ma_rn ro d 23 (51, [v0, v1, v2, v3, v4, v5, v6, v7], st, SH, σ)) ∧
  (∀ (v0 : Option Value) (v1 : Option Value) (v2 : Option Value) (v3 : Option Value) (v4 : Option Value) (v6 : Option Value) (v7 : Option Value) (x1 : Int32) (st : List Value) (σ : ma_H), ma_rn ro d 23 (42, [v0, v1, v2, v3, v4, some (.int x1), v6, v7], st, SH, σ) = ma_rn ro d 23 (44, [v0, v1, v2, v3, v4, some (.int x1), v6, v7], .int x1 :: st, SH, σ)) ∧
  (∀ (v0 : Option Value) (v1 : Option Value) (v2 : Option Value) (v3 : Option Value) (v4 : Option Value) (v5 : Option Value) (v6 : Option Value) (v7 : Option Value) (st : List Value) (σ : ma_H), ma_rn ro d 23 (44, [v0, v1, v2, v3, v4, v5, v6, v7], st, SH, σ) = ma_rn ro d 23 (45, [v0, v1, v2, v3, v4, v5, v6, v7], .int (nI 1) :: st, SH, σ)) ∧
  (∀ (v0 : Option Value) (v1 : Option Value) (v2 : Option Value) (v3 : Option Value) (v4 : Option Value) (v5 : Option Value) (v6 : Option Value) (v7 : Option Value) (x1 : Int32) (x2 : Int32) (st : List Value) (σ : ma_H), ma_rn ro d 23 (45, [v0, v1, v2, v3, v4, v5, v6, v7], .int x1 :: .int x2 :: st, SH, σ) = ma_rn ro d 23 (46, [v0, v1, v2, v3, v4, v5, v6, v7], .int (x2 ^^^ x1) :: st, SH, σ)) ∧
  (∀ (v0 : Option Value) (v1 : Option Value) (v2 : Option Value) (v3 : Option Value) (v5 : Option Value) (v6 : Option Value) (v7 : Option Value) (x9 : Int32) (x1 : Int32) (st : List Value) (σ : ma_H), ma_rn ro d 23 (46, [v0, v1, v2, v3, some (.int x9), v5, v6, v7], .int x1 :: st, SH, σ) = ma_rn ro d 23 (48, [v0, v1, v2, v3, some (.int x9), some (.int x1), v6, v7], st, SH, σ)) ∧
  (∀ (v0 : Option Value) (v1 : Option Value) (v2 : Option Value) (v3 : Option Value) (v4 : Option Value) (v5 : Option Value) (v6 : Option Value) (v7 : Option Value) (st : List Value) (σ : ma_H), ma_rn ro d 23 (48, [v0, v1, v2, v3, v4, v5, v6, v7], st, SH, σ) = ma_rn ro d 23 (117, [v0, v1, v2, v3, v4, v5, v6, v7], st, SH, σ)) ∧
  (∀ (v0 : Option Value) (v1 : Option Value) (v2 : Option Value) (v3 : Option Value) (v4 : Option Value) (v5 : Option Value) (v6 : Option Value) (x1 : Int32) (st : List Value) (σ : ma_H), ma_rn ro d 23 (51, [v0, v1, v2, v3, v4, v5, v6, some (.int x1)], st, SH, σ) = ma_rn ro d 23 (53, [v0, v1, v2, v3, v4, v5, v6, some (.int x1)], .int x1 :: st, SH, σ)) ∧
  (∀ (v0 : Option Value) (v1 : Option Value) (v2 : Option Value) (v3 : Option Value) (v4 : Option Value) (v5 : Option Value) (v6 : Option Value) (v7 : Option Value) (st : List Value) (σ : ma_H), ma_rn ro d 23 (53, [v0, v1, v2, v3, v4, v5, v6, v7], st, SH, σ) = ma_rn ro d 23 (55, [v0, v1, v2, v3, v4, v5, v6, v7], .int (nI 7) :: st, SH, σ)) ∧
  (∀ (v0 : Option Value) (v1 : Option Value) (v2 : Option Value) (v3 : Option Value) (v4 : Option Value) (v5 : Option Value) (v6 : Option Value) (v7 : Option Value) (x1 : Int32) (x2 : Int32) (st : List Value) (σ : ma_H), ma_rn ro d 23 (55, [v0, v1, v2, v3, v4, v5, v6, v7], .int x1 :: .int x2 :: st, SH, σ) = if x2 = x1 then ma_rn ro d 23 (58, [v0, v1, v2, v3, v4, v5, v6, v7], st, SH, σ) else ma_rn ro d 23 (73, [v0, v1, v2, v3, v4, v5, v6, v7], st, SH, σ)) ∧
  (∀ (v0 : Option Value) (v1 : Option Value) (v2 : Option Value) (v3 : Option Value) (v4 : Option Value) (v6 : Option Value) (v7 : Option Value) (x1 : Int32) (st : List Value) (σ : ma_H), ma_rn ro d 23 (58, [v0, v1, v2, v3, v4, some (.int x1), v6, v7], st, SH, σ) = ma_rn ro d 23 (60, [v0, v1, v2, v3, v4, some (.int x1), v6, v7], .int x1 :: st, SH, σ)) ∧
  (∀ (v0 : Option Value) (v1 : Option Value) (v2 : Option Value) (v3 : Option Value) (v4 : Option Value) (v5 : Option Value) (v6 : Option Value) (v7 : Option Value) (st : List Value) (σ : ma_H), ma_rn ro d 23 (60, [v0, v1, v2, v3, v4, v5, v6, v7], st, SH, σ) = ma_rn ro d 23 (61, [v0, v1, v2, v3, v4, v5, v6, v7], .int (nI 1) :: st, SH, σ)) ∧
  (∀ (v0 : Option Value) (v1 : Option Value) (v2 : Option Value) (v3 : Option Value) (v4 : Option Value) (v5 : Option Value) (v6 : Option Value) (v7 : Option Value) (x1 : Int32) (x2 : Int32) (st : List Value) (σ : ma_H), ma_rn ro d 23 (61, [v0, v1, v2, v3, v4, v5, v6, v7], .int x1 :: .int x2 :: st, SH, σ) = ma_rn ro d 23 (62, [v0, v1, v2, v3, v4, v5, v6, v7], .int (x2 >>> (x1 &&& 31)) :: st, SH, σ)) ∧
  (∀ (v0 : Option Value) (v1 : Option Value) (v2 : Option Value) (v3 : Option Value) (v4 : Option Value) (v6 : Option Value) (v7 : Option Value) (x1 : Int32) (st : List Value) (σ : ma_H), ma_rn ro d 23 (62, [v0, v1, v2, v3, v4, some (.int x1), v6, v7], st, SH, σ) = ma_rn ro d 23 (64, [v0, v1, v2, v3, v4, some (.int x1), v6, v7], .int x1 :: st, SH, σ)) ∧
  (∀ (v0 : Option Value) (v1 : Option Value) (v2 : Option Value) (v3 : Option Value) (v4 : Option Value) (v5 : Option Value) (v6 : Option Value) (v7 : Option Value) (st : List Value) (σ : ma_H), ma_rn ro d 23 (64, [v0, v1, v2, v3, v4, v5, v6, v7], st, SH, σ) = ma_rn ro d 23 (66, [v0, v1, v2, v3, v4, v5, v6, v7], .int ((-2)) :: st, SH, σ)) ∧
  (∀ (v0 : Option Value) (v1 : Option Value) (v2 : Option Value) (v3 : Option Value) (v4 : Option Value) (v5 : Option Value) (v6 : Option Value) (v7 : Option Value) (x1 : Int32) (x2 : Int32) (st : List Value) (σ : ma_H), ma_rn ro d 23 (66, [v0, v1, v2, v3, v4, v5, v6, v7], .int x1 :: .int x2 :: st, SH, σ) = ma_rn ro d 23 (67, [v0, v1, v2, v3, v4, v5, v6, v7], .int (x2 ||| x1) :: st, SH, σ)) ∧
  (∀ (v0 : Option Value) (v1 : Option Value) (v2 : Option Value) (v3 : Option Value) (v4 : Option Value) (v5 : Option Value) (v6 : Option Value) (v7 : Option Value) (x1 : Int32) (x2 : Int32) (st : List Value) (σ : ma_H), ma_rn ro d 23 (67, [v0, v1, v2, v3, v4, v5, v6, v7], .int x1 :: .int x2 :: st, SH, σ) = ma_rn ro d 23 (68, [v0, v1, v2, v3, v4, v5, v6, v7], .int (x2 &&& x1) :: st, SH, σ)) ∧
  (∀ (v0 : Option Value) (v1 : Option Value) (v2 : Option Value) (v3 : Option Value) (v5 : Option Value) (v6 : Option Value) (v7 : Option Value) (x9 : Int32) (x1 : Int32) (st : List Value) (σ : ma_H), ma_rn ro d 23 (68, [v0, v1, v2, v3, some (.int x9), v5, v6, v7], .int x1 :: st, SH, σ) = ma_rn ro d 23 (70, [v0, v1, v2, v3, some (.int x9), some (.int x1), v6, v7], st, SH, σ)) ∧
  (∀ (v0 : Option Value) (v1 : Option Value) (v2 : Option Value) (v3 : Option Value) (v4 : Option Value) (v5 : Option Value) (v6 : Option Value) (v7 : Option Value) (st : List Value) (σ : ma_H), ma_rn ro d 23 (70, [v0, v1, v2, v3, v4, v5, v6, v7], st, SH, σ) = ma_rn ro d 23 (117, [v0, v1, v2, v3, v4, v5, v6, v7], st, SH, σ)) ∧
  (∀ (v0 : Option Value) (v1 : Option Value) (v2 : Option Value) (v3 : Option Value) (v4 : Option Value) (v5 : Option Value) (v6 : Option Value) (x1 : Int32) (st : List Value) (σ : ma_H), ma_rn ro d 23 (73, [v0, v1, v2, v3, v4, v5, v6, some (.int x1)], st, SH, σ) = ma_rn ro d 23 (75, [v0, v1, v2, v3, v4, v5, v6, some (.int x1)], .int x1 :: st, SH, σ)) ∧
  (∀ (v0 : Option Value) (v1 : Option Value) (v2 : Option Value) (v3 : Option Value) (v4 : Option Value) (v5 : Option Value) (v6 : Option Value) (v7 : Option Value) (st : List Value) (σ : ma_H), ma_rn ro d 23 (75, [v0, v1, v2, v3, v4, v5, v6, v7], st, SH, σ) = ma_rn ro d 23 (77, [v0, v1, v2, v3, v4, v5, v6, v7], .int (nI 8) :: st, SH, σ)) ∧
  (∀ (v0 : Option Value) (v1 : Option Value) (v2 : Option Value) (v3 : Option Value) (v4 : Option Value) (v5 : Option Value) (v6 : Option Value) (v7 : Option Value) (x1 : Int32) (x2 : Int32) (st : List Value) (σ : ma_H), ma_rn ro d 23 (77, [v0, v1, v2, v3, v4, v5, v6, v7], .int x1 :: .int x2 :: st, SH, σ) = if x2 = x1 then ma_rn ro d 23 (80, [v0, v1, v2, v3, v4, v5, v6, v7], st, SH, σ) else ma_rn ro d 23 (94, [v0, v1, v2, v3, v4, v5, v6, v7], st, SH, σ)) ∧
  (∀ (v0 : Option Value) (v1 : Option Value) (v2 : Option Value) (v3 : Option Value) (v4 : Option Value) (v6 : Option Value) (v7 : Option Value) (x1 : Int32) (st : List Value) (σ : ma_H), ma_rn ro d 23 (80, [v0, v1, v2, v3, v4, some (.int x1), v6, v7], st, SH, σ) = ma_rn ro d 23 (82, [v0, v1, v2, v3, v4, some (.int x1), v6, v7], .int x1 :: st, SH, σ)) ∧
  (∀ (v0 : Option Value) (v1 : Option Value) (v2 : Option Value) (v3 : Option Value) (v4 : Option Value) (v5 : Option Value) (v6 : Option Value) (v7 : Option Value) (st : List Value) (σ : ma_H), ma_rn ro d 23 (82, [v0, v1, v2, v3, v4, v5, v6, v7], st, SH, σ) = ma_rn ro d 23 (83, [v0, v1, v2, v3, v4, v5, v6, v7], .int (nI 1) :: st, SH, σ)) ∧
  (∀ (v0 : Option Value) (v1 : Option Value) (v2 : Option Value) (v3 : Option Value) (v4 : Option Value) (v5 : Option Value) (v6 : Option Value) (v7 : Option Value) (x1 : Int32) (x2 : Int32) (st : List Value) (σ : ma_H), ma_rn ro d 23 (83, [v0, v1, v2, v3, v4, v5, v6, v7], .int x1 :: .int x2 :: st, SH, σ) = ma_rn ro d 23 (84, [v0, v1, v2, v3, v4, v5, v6, v7], .int (x2 >>> (x1 &&& 31)) :: st, SH, σ)) ∧
  (∀ (v0 : Option Value) (v1 : Option Value) (v2 : Option Value) (v3 : Option Value) (v4 : Option Value) (v6 : Option Value) (v7 : Option Value) (x1 : Int32) (st : List Value) (σ : ma_H), ma_rn ro d 23 (84, [v0, v1, v2, v3, v4, some (.int x1), v6, v7], st, SH, σ) = ma_rn ro d 23 (86, [v0, v1, v2, v3, v4, some (.int x1), v6, v7], .int x1 :: st, SH, σ)) ∧
  (∀ (v0 : Option Value) (v1 : Option Value) (v2 : Option Value) (v3 : Option Value) (v4 : Option Value) (v5 : Option Value) (v6 : Option Value) (v7 : Option Value) (st : List Value) (σ : ma_H), ma_rn ro d 23 (86, [v0, v1, v2, v3, v4, v5, v6, v7], st, SH, σ) = ma_rn ro d 23 (87, [v0, v1, v2, v3, v4, v5, v6, v7], .int (nI 1) :: st, SH, σ)) ∧
  (∀ (v0 : Option Value) (v1 : Option Value) (v2 : Option Value) (v3 : Option Value) (v4 : Option Value) (v5 : Option Value) (v6 : Option Value) (v7 : Option Value) (x1 : Int32) (x2 : Int32) (st : List Value) (σ : ma_H), ma_rn ro d 23 (87, [v0, v1, v2, v3, v4, v5, v6, v7], .int x1 :: .int x2 :: st, SH, σ) = ma_rn ro d 23 (88, [v0, v1, v2, v3, v4, v5, v6, v7], .int (x2 &&& x1) :: st, SH, σ)) ∧
  (∀ (v0 : Option Value) (v1 : Option Value) (v2 : Option Value) (v3 : Option Value) (v4 : Option Value) (v5 : Option Value) (v6 : Option Value) (v7 : Option Value) (x1 : Int32) (x2 : Int32) (st : List Value) (σ : ma_H), ma_rn ro d 23 (88, [v0, v1, v2, v3, v4, v5, v6, v7], .int x1 :: .int x2 :: st, SH, σ) = ma_rn ro d 23 (89, [v0, v1, v2, v3, v4, v5, v6, v7], .int (x2 ||| x1) :: st, SH, σ)) ∧
  (∀ (v0 : Option Value) (v1 : Option Value) (v2 : Option Value) (v3 : Option Value) (v5 : Option Value) (v6 : Option Value) (v7 : Option Value) (x9 : Int32) (x1 : Int32) (st : List Value) (σ : ma_H), ma_rn ro d 23 (89, [v0, v1, v2, v3, some (.int x9), v5, v6, v7], .int x1 :: st, SH, σ) = ma_rn ro d 23 (91, [v0, v1, v2, v3, some (.int x9), some (.int x1), v6, v7], st, SH, σ)) ∧
  (∀ (v0 : Option Value) (v1 : Option Value) (v2 : Option Value) (v3 : Option Value) (v4 : Option Value) (v5 : Option Value) (v6 : Option Value) (v7 : Option Value) (st : List Value) (σ : ma_H), ma_rn ro d 23 (91, [v0, v1, v2, v3, v4, v5, v6, v7], st, SH, σ) = ma_rn ro d 23 (117, [v0, v1, v2, v3, v4, v5, v6, v7], st, SH, σ)) ∧
  (∀ (v0 : Option Value) (v1 : Option Value) (v2 : Option Value) (v3 : Option Value) (v4 : Option Value) (v6 : Option Value) (v7 : Option Value) (x1 : Int32) (st : List Value) (σ : ma_H), ma_rn ro d 23 (94, [v0, v1, v2, v3, v4, some (.int x1), v6, v7], st, SH, σ) = ma_rn ro d 23 (96, [v0, v1, v2, v3, v4, some (.int x1), v6, v7], .int x1 :: st, SH, σ)) ∧
  (∀ (v0 : Option Value) (v1 : Option Value) (v2 : Option Value) (v3 : Option Value) (v4 : Option Value) (v5 : Option Value) (v6 : Option Value) (v7 : Option Value) (st : List Value) (σ : ma_H), ma_rn ro d 23 (96, [v0, v1, v2, v3, v4, v5, v6, v7], st, SH, σ) = ma_rn ro d 23 (97, [v0, v1, v2, v3, v4, v5, v6, v7], .int (nI 1) :: st, SH, σ)) ∧
  (∀ (v0 : Option Value) (v1 : Option Value) (v2 : Option Value) (v3 : Option Value) (v4 : Option Value) (v5 : Option Value) (v6 : Option Value) (v7 : Option Value) (x1 : Int32) (x2 : Int32) (st : List Value) (σ : ma_H), ma_rn ro d 23 (97, [v0, v1, v2, v3, v4, v5, v6, v7], .int x1 :: .int x2 :: st, SH, σ) = ma_rn ro d 23 (98, [v0, v1, v2, v3, v4, v5, v6, v7], .int (x2 <<< (x1 &&& 31)) :: st, SH, σ)) ∧
  (∀ (v0 : Option Value) (v1 : Option Value) (v2 : Option Value) (v3 : Option Value) (v4 : Option Value) (v5 : Option Value) (v6 : Option Value) (x1 : Int32) (st : List Value) (σ : ma_H), ma_rn ro d 23 (98, [v0, v1, v2, v3, v4, v5, v6, some (.int x1)], st, SH, σ) = ma_rn ro d 23 (100, [v0, v1, v2, v3, v4, v5, v6, some (.int x1)], .int x1 :: st, SH, σ)) ∧
  (∀ (v0 : Option Value) (v1 : Option Value) (v2 : Option Value) (v4 : Option Value) (v5 : Option Value) (v6 : Option Value) (v7 : Option Value) (a1 : Nat) (st : List Value) (σ : ma_H), ma_rn ro d 23 (100, [v0, v1, v2, some (.ref a1), v4, v5, v6, v7], st, SH, σ) = ma_rn ro d 23 (101, [v0, v1, v2, some (.ref a1), v4, v5, v6, v7], .ref a1 :: st, SH, σ)) ∧
  (∀ (v0 : Option Value) (v1 : Option Value) (v2 : Option Value) (v3 : Option Value) (v5 : Option Value) (v6 : Option Value) (v7 : Option Value) (x1 : Int32) (st : List Value) (σ : ma_H), ma_rn ro d 23 (101, [v0, v1, v2, v3, some (.int x1), v5, v6, v7], st, SH, σ) = ma_rn ro d 23 (103, [v0, v1, v2, v3, some (.int x1), v5, v6, v7], .int x1 :: st, SH, σ)) ∧
  (∀ (v0 : Option Value) (v1 : Option Value) (v2 : Option Value) (v3 : Option Value) (v4 : Option Value) (v5 : Option Value) (v6 : Option Value) (v7 : Option Value) (x20 : Int32) (x1 : Int32) (a2 : Nat) (x3 : Int32) (σ : ma_H), ma_rn ro (d + 1) 23 (103, [v0, v1, v2, v3, v4, v5, v6, v7], .int x3 :: .ref a2 :: .int x1 :: .int x20 :: [], SH, σ) = (ma_ev ro d 24 [.int x1, .ref a2, .int x3] SH σ).bind (fun q => ma_rn ro (d + 1) 23 (106, [v0, v1, v2, v3, v4, v5, v6, v7], (q.1.toList ++ (.int x20 :: [])), q.2.1, q.2.2))) ∧
  (∀ (v0 : Option Value) (v1 : Option Value) (v2 : Option Value) (v3 : Option Value) (v4 : Option Value) (v5 : Option Value) (v6 : Option Value) (v7 : Option Value) (x1 : Int32) (st : List Value) (σ : ma_H), ma_rn ro d 23 (106, [v0, v1, v2, v3, v4, v5, v6, v7], .int x1 :: st, SH, σ) = if x1 = nI 0 then ma_rn ro d 23 (113, [v0, v1, v2, v3, v4, v5, v6, v7], st, SH, σ) else ma_rn ro d 23 (109, [v0, v1, v2, v3, v4, v5, v6, v7], st, SH, σ)) ∧
  (∀ (v0 : Option Value) (v1 : Option Value) (v2 : Option Value) (v3 : Option Value) (v4 : Option Value) (v5 : Option Value) (v6 : Option Value) (v7 : Option Value) (st : List Value) (σ : ma_H), ma_rn ro d 23 (109, [v0, v1, v2, v3, v4, v5, v6, v7], st, SH, σ) = ma_rn ro d 23 (110, [v0, v1, v2, v3, v4, v5, v6, v7], .int (nI 1) :: st, SH, σ)) ∧
  (∀ (v0 : Option Value) (v1 : Option Value) (v2 : Option Value) (v3 : Option Value) (v4 : Option Value) (v5 : Option Value) (v6 : Option Value) (v7 : Option Value) (st : List Value) (σ : ma_H), ma_rn ro d 23 (110, [v0, v1, v2, v3, v4, v5, v6, v7], st, SH, σ) = ma_rn ro d 23 (114, [v0, v1, v2, v3, v4, v5, v6, v7], st, SH, σ)) ∧
  (∀ (v0 : Option Value) (v1 : Option Value) (v2 : Option Value) (v3 : Option Value) (v4 : Option Value) (v5 : Option Value) (v6 : Option Value) (v7 : Option Value) (st : List Value) (σ : ma_H), ma_rn ro d 23 (113, [v0, v1, v2, v3, v4, v5, v6, v7], st, SH, σ) = ma_rn ro d 23 (114, [v0, v1, v2, v3, v4, v5, v6, v7], .int (nI 0) :: st, SH, σ)) ∧
  (∀ (v0 : Option Value) (v1 : Option Value) (v2 : Option Value) (v3 : Option Value) (v4 : Option Value) (v5 : Option Value) (v6 : Option Value) (v7 : Option Value) (x1 : Int32) (x2 : Int32) (st : List Value) (σ : ma_H), ma_rn ro d 23 (114, [v0, v1, v2, v3, v4, v5, v6, v7], .int x1 :: .int x2 :: st, SH, σ) = ma_rn ro d 23 (115, [v0, v1, v2, v3, v4, v5, v6, v7], .int (x2 ||| x1) :: st, SH, σ)) ∧
  (∀ (v0 : Option Value) (v1 : Option Value) (v2 : Option Value) (v3 : Option Value) (v5 : Option Value) (v6 : Option Value) (v7 : Option Value) (x9 : Int32) (x1 : Int32) (st : List Value) (σ : ma_H), ma_rn ro d 23 (115, [v0, v1, v2, v3, some (.int x9), v5, v6, v7], .int x1 :: st, SH, σ) = ma_rn ro d 23 (117, [v0, v1, v2, v3, some (.int x9), some (.int x1), v6, v7], st, SH, σ)) ∧
  (∀ (v0 : Option Value) (v1 : Option Value) (v2 : Option Value) (v3 : Option Value) (v4 : Option Value) (v7 : Option Value) (x1 : Int32) (x9 : Int32) (st : List Value) (σ : ma_H), ma_rn ro d 23 (117, [v0, v1, v2, v3, v4, some (.int x9), some (.int x1), v7], st, SH, σ) = ma_rn ro d 23 (120, [v0, v1, v2, v3, v4, some (.int x9), some (.int (x1 + nI 1)), v7], st, SH, σ)) ∧
  (∀ (v0 : Option Value) (v1 : Option Value) (v2 : Option Value) (v3 : Option Value) (v4 : Option Value) (v5 : Option Value) (v6 : Option Value) (v7 : Option Value) (st : List Value) (σ : ma_H), ma_rn ro d 23 (120, [v0, v1, v2, v3, v4, v5, v6, v7], st, SH, σ) = ma_rn ro d 23 (10, [v0, v1, v2, v3, v4, v5, v6, v7], st, SH, σ)) ∧
  (∀ (v0 : Option Value) (v1 : Option Value) (v2 : Option Value) (v3 : Option Value) (v4 : Option Value) (v6 : Option Value) (v7 : Option Value) (x1 : Int32) (st : List Value) (σ : ma_H), ma_rn ro d 23 (123, [v0, v1, v2, v3, v4, some (.int x1), v6, v7], st, SH, σ) = ma_rn ro d 23 (125, [v0, v1, v2, v3, v4, some (.int x1), v6, v7], .int x1 :: st, SH, σ)) ∧
  (∀ (v0 : Option Value) (v1 : Option Value) (v2 : Option Value) (v3 : Option Value) (v4 : Option Value) (v5 : Option Value) (v6 : Option Value) (v7 : Option Value) (st : List Value) (σ : ma_H), ma_rn ro d 23 (125, [v0, v1, v2, v3, v4, v5, v6, v7], st, SH, σ) = ma_rn ro d 23 (126, [v0, v1, v2, v3, v4, v5, v6, v7], .int (nI 1) :: st, SH, σ)) ∧
  (∀ (v0 : Option Value) (v1 : Option Value) (v2 : Option Value) (v3 : Option Value) (v4 : Option Value) (v5 : Option Value) (v6 : Option Value) (v7 : Option Value) (x1 : Int32) (x2 : Int32) (st : List Value) (σ : ma_H), ma_rn ro d 23 (126, [v0, v1, v2, v3, v4, v5, v6, v7], .int x1 :: .int x2 :: st, SH, σ) = ma_rn ro d 23 (127, [v0, v1, v2, v3, v4, v5, v6, v7], .int (x2 &&& x1) :: st, SH, σ)) ∧
  (∀ (v0 : Option Value) (v1 : Option Value) (v2 : Option Value) (v3 : Option Value) (v4 : Option Value) (v5 : Option Value) (v6 : Option Value) (v7 : Option Value) (x1 : Int32) (st : List Value) (σ : ma_H), ma_rn ro d 23 (127, [v0, v1, v2, v3, v4, v5, v6, v7], .int x1 :: st, SH, σ) = if x1 = nI 0 then ma_rn ro d 23 (134, [v0, v1, v2, v3, v4, v5, v6, v7], st, SH, σ) else ma_rn ro d 23 (130, [v0, v1, v2, v3, v4, v5, v6, v7], st, SH, σ)) ∧
  (∀ (v0 : Option Value) (v1 : Option Value) (v2 : Option Value) (v3 : Option Value) (v4 : Option Value) (v5 : Option Value) (v6 : Option Value) (v7 : Option Value) (st : List Value) (σ : ma_H), ma_rn ro d 23 (130, [v0, v1, v2, v3, v4, v5, v6, v7], st, SH, σ) = ma_rn ro d 23 (131, [v0, v1, v2, v3, v4, v5, v6, v7], .int (nI 1) :: st, SH, σ)) ∧
  (∀ (v0 : Option Value) (v1 : Option Value) (v2 : Option Value) (v3 : Option Value) (v4 : Option Value) (v5 : Option Value) (v6 : Option Value) (v7 : Option Value) (st : List Value) (σ : ma_H), ma_rn ro d 23 (131, [v0, v1, v2, v3, v4, v5, v6, v7], st, SH, σ) = ma_rn ro d 23 (135, [v0, v1, v2, v3, v4, v5, v6, v7], st, SH, σ)) ∧
  (∀ (v0 : Option Value) (v1 : Option Value) (v2 : Option Value) (v3 : Option Value) (v4 : Option Value) (v5 : Option Value) (v6 : Option Value) (v7 : Option Value) (st : List Value) (σ : ma_H), ma_rn ro d 23 (134, [v0, v1, v2, v3, v4, v5, v6, v7], st, SH, σ) = ma_rn ro d 23 (135, [v0, v1, v2, v3, v4, v5, v6, v7], .int (nI 0) :: st, SH, σ)) ∧
  (∀ (v0 : Option Value) (v1 : Option Value) (v2 : Option Value) (v3 : Option Value) (v4 : Option Value) (v5 : Option Value) (v6 : Option Value) (v7 : Option Value) (x1 : Int32) (σ : ma_H) (hx : ma_fitI .boolean x1 = true), ma_rn ro d 23 (135, [v0, v1, v2, v3, v4, v5, v6, v7], [.int x1], SH, σ) = some (some (.int x1), SH, σ)) := ⟨fun v0 v1 v2 v3 v4 v5 v6 v7 st σ => q_iconst e23_0 (by decide),
  fun v0 v1 v2 v3 v5 v6 v7 x9 x1 st σ => q_go e23_1 rfl rfl,
  fun v0 v1 v2 v3 v4 v5 v6 v7 st σ => q_iconst e23_3 (by decide),
  fun v0 v2 v3 v4 v5 v6 v7 x1 st σ => q_go e23_4 rfl rfl,
  fun v0 v1 v2 v3 v4 v5 v6 v7 x1 x2 σ => q_bt e23_5 o_23 b_2_43 (by decide) (Nat.le_of_ble_eq_true rfl),
  fun v0 v1 v2 v3 v4 v6 v7 x9 x1 st σ => q_go e23_8 rfl rfl,
  fun v0 v1 v3 v4 v5 v6 v7 x1 st σ => q_go e23_12 rfl rfl,
  fun v0 v1 v2 v3 v4 v5 v6 v7 x1 x2 st σ => (q_cmp e23_13 rfl).trans q_nlt,
  fun v0 v1 v2 v3 v4 v5 v7 x1 st σ => q_go e23_16 rfl rfl,
  fun v1 v2 v3 v4 v5 v6 v7 a1 st σ => q_go e23_18 rfl rfl,
  fun v0 v1 v2 v3 v4 v5 v6 v7 a1 st σ hc => q_getA e23_19 o_23 f_2_18 (by decide) hc,
  fun v0 v1 v2 v3 v4 v5 v6 v7 a1 st σ hn => q_alen e23_22 rfl hn,
  fun v0 v1 v2 v3 v4 v5 v6 v7 x1 x2 st σ => (q_cmp e23_23 rfl).trans q_nlt,
  fun v1 v2 v3 v4 v5 v6 v7 a1 st σ => q_go e23_26 rfl rfl,
  fun v0 v1 v2 v3 v4 v5 v6 v7 a1 st σ hc => q_getA e23_27 o_23 f_2_18 (by decide) hc,
  fun v0 v1 v2 v3 v4 v5 v7 x1 st σ => q_go e23_30 rfl rfl,
  fun v0 v1 v2 v3 v4 v5 v6 v7 k a2 st σ hk => q_iald e23_32 hk,
  fun v0 v1 v2 v3 v4 v5 v7 x9 x1 st σ => q_go e23_33 rfl rfl,
  fun v0 v1 v2 v3 v4 v5 v6 x1 st σ => q_go e23_35 rfl rfl,
  fun v0 v1 v2 v3 v4 v5 v6 v7 st σ => q_bipush e23_37 (by decide),
  fun v0 v1 v2 v3 v4 v5 v6 v7 x1 x2 st σ => (q_cmp e23_39 rfl).trans q_ne,
  fun v0 v1 v2 v3 v4 v6 v7 x1 st σ => q_go e23_42 rfl rfl,
  fun v0 v1 v2 v3 v4 v5 v6 v7 st σ => q_iconst e23_44 (by decide),
  fun v0 v1 v2 v3 v4 v5 v6 v7 x1 x2 st σ => q_go e23_45 rfl rfl,
  fun v0 v1 v2 v3 v5 v6 v7 x9 x1 st σ => q_go e23_46 rfl rfl,
  fun v0 v1 v2 v3 v4 v5 v6 v7 st σ => q_goto e23_48 rfl,
  fun v0 v1 v2 v3 v4 v5 v6 x1 st σ => q_go e23_51 rfl rfl,
  fun v0 v1 v2 v3 v4 v5 v6 v7 st σ => q_bipush e23_53 (by decide),
  fun v0 v1 v2 v3 v4 v5 v6 v7 x1 x2 st σ => (q_cmp e23_55 rfl).trans q_ne,
  fun v0 v1 v2 v3 v4 v6 v7 x1 st σ => q_go e23_58 rfl rfl,
  fun v0 v1 v2 v3 v4 v5 v6 v7 st σ => q_iconst e23_60 (by decide),
  fun v0 v1 v2 v3 v4 v5 v6 v7 x1 x2 st σ => q_go e23_61 rfl rfl,
  fun v0 v1 v2 v3 v4 v6 v7 x1 st σ => q_go e23_62 rfl rfl,
  fun v0 v1 v2 v3 v4 v5 v6 v7 st σ => q_bipush e23_64 (by decide),
  fun v0 v1 v2 v3 v4 v5 v6 v7 x1 x2 st σ => q_go e23_66 rfl rfl,
  fun v0 v1 v2 v3 v4 v5 v6 v7 x1 x2 st σ => q_go e23_67 rfl rfl,
  fun v0 v1 v2 v3 v5 v6 v7 x9 x1 st σ => q_go e23_68 rfl rfl,
  fun v0 v1 v2 v3 v4 v5 v6 v7 st σ => q_goto e23_70 rfl,
  fun v0 v1 v2 v3 v4 v5 v6 x1 st σ => q_go e23_73 rfl rfl,
  fun v0 v1 v2 v3 v4 v5 v6 v7 st σ => q_bipush e23_75 (by decide),
  fun v0 v1 v2 v3 v4 v5 v6 v7 x1 x2 st σ => (q_cmp e23_77 rfl).trans q_ne,
  fun v0 v1 v2 v3 v4 v6 v7 x1 st σ => q_go e23_80 rfl rfl,
  fun v0 v1 v2 v3 v4 v5 v6 v7 st σ => q_iconst e23_82 (by decide),
  fun v0 v1 v2 v3 v4 v5 v6 v7 x1 x2 st σ => q_go e23_83 rfl rfl,
  fun v0 v1 v2 v3 v4 v6 v7 x1 st σ => q_go e23_84 rfl rfl,
  fun v0 v1 v2 v3 v4 v5 v6 v7 st σ => q_iconst e23_86 (by decide),
  fun v0 v1 v2 v3 v4 v5 v6 v7 x1 x2 st σ => q_go e23_87 rfl rfl,
  fun v0 v1 v2 v3 v4 v5 v6 v7 x1 x2 st σ => q_go e23_88 rfl rfl,
  fun v0 v1 v2 v3 v5 v6 v7 x9 x1 st σ => q_go e23_89 rfl rfl,
  fun v0 v1 v2 v3 v4 v5 v6 v7 st σ => q_goto e23_91 rfl,
  fun v0 v1 v2 v3 v4 v6 v7 x1 st σ => q_go e23_94 rfl rfl,
  fun v0 v1 v2 v3 v4 v5 v6 v7 st σ => q_iconst e23_96 (by decide),
  fun v0 v1 v2 v3 v4 v5 v6 v7 x1 x2 st σ => q_go e23_97 rfl rfl,
  fun v0 v1 v2 v3 v4 v5 v6 x1 st σ => q_go e23_98 rfl rfl,
  fun v0 v1 v2 v4 v5 v6 v7 a1 st σ => q_go e23_100 rfl rfl,
  fun v0 v1 v2 v3 v5 v6 v7 x1 st σ => q_go e23_101 rfl rfl,
  fun v0 v1 v2 v3 v4 v5 v6 v7 x20 x1 a2 x3 σ => q_invS (as := [.int x1, .ref a2, .int x3]) (rest := .int x20 :: []) e23_103 o_23 bn_2_49 c_2_49 ⟨m_24.1, m_24.2.1, m_24.2.2.1⟩ rfl rfl (Nat.le_of_ble_eq_true rfl) (Nat.le_of_ble_eq_true rfl),
  fun v0 v1 v2 v3 v4 v5 v6 v7 x1 st σ => (q_if e23_106 rfl).trans q_eq,
  fun v0 v1 v2 v3 v4 v5 v6 v7 st σ => q_iconst e23_109 (by decide),
  fun v0 v1 v2 v3 v4 v5 v6 v7 st σ => q_goto e23_110 rfl,
  fun v0 v1 v2 v3 v4 v5 v6 v7 st σ => q_iconst e23_113 (by decide),
  fun v0 v1 v2 v3 v4 v5 v6 v7 x1 x2 st σ => q_go e23_114 rfl rfl,
  fun v0 v1 v2 v3 v5 v6 v7 x9 x1 st σ => q_go e23_115 rfl rfl,
  fun v0 v1 v2 v3 v4 v7 x1 x9 st σ => q_iinc e23_117 rfl rfl (by decide),
  fun v0 v1 v2 v3 v4 v5 v6 v7 st σ => q_goto e23_120 rfl,
  fun v0 v1 v2 v3 v4 v6 v7 x1 st σ => q_go e23_123 rfl rfl,
  fun v0 v1 v2 v3 v4 v5 v6 v7 st σ => q_iconst e23_125 (by decide),
  fun v0 v1 v2 v3 v4 v5 v6 v7 x1 x2 st σ => q_go e23_126 rfl rfl,
  fun v0 v1 v2 v3 v4 v5 v6 v7 x1 st σ => (q_if e23_127 rfl).trans q_eq,
  fun v0 v1 v2 v3 v4 v5 v6 v7 st σ => q_iconst e23_130 (by decide),
  fun v0 v1 v2 v3 v4 v5 v6 v7 st σ => q_goto e23_131 rfl,
  fun v0 v1 v2 v3 v4 v5 v6 v7 st σ => q_iconst e23_134 (by decide),
  fun v0 v1 v2 v3 v4 v5 v6 v7 x1 σ hx => q_zret e23_135 r_23 hx⟩
theorem E23 {ro : ma_RO} {d : Nat} (a0 : Nat) (x1 : Int32) (x2 : Int32) (a3 : Nat) (x4 : Int32) (sh : List ma_Sh) (σ : ma_H) : ma_ev ro d 23 [.ref a0, .int x1, .int x2, .ref a3, .int x4] sh σ = ma_rn ro d 23 (0, [some (.ref a0), some (.int x1), some (.int x2), some (.ref a3), some (.int x4), none, none, none], [], sh, σ) := q_ent x_23 rfl
theorem e24_0 : decode (ma_cd 24) 0 = .ok (.iload_n 0, 1) := (congrArg (fun b => decode b 0) cd_24).trans dX2_isSo_0
theorem e24_1 : decode (ma_cd 24) 1 = .ok (.iconst 4, 1) := (congrArg (fun b => decode b 1) cd_24).trans dX2_isSo_1
theorem e24_2 : decode (ma_cd 24) 2 = .ok (.ishr, 1) := (congrArg (fun b => decode b 2) cd_24).trans dX2_isSo_2
theorem e24_3 : decode (ma_cd 24) 3 = .ok (.bipush 15, 2) := (congrArg (fun b => decode b 3) cd_24).trans dX2_isSo_3
theorem e24_5 : decode (ma_cd 24) 5 = .ok (.iand, 1) := (congrArg (fun b => decode b 5) cd_24).trans dX2_isSo_5
theorem e24_6 : decode (ma_cd 24) 6 = .ok (.istore_n 3, 1) := (congrArg (fun b => decode b 6) cd_24).trans dX2_isSo_6
theorem e24_7 : decode (ma_cd 24) 7 = .ok (.iload_n 0, 1) := (congrArg (fun b => decode b 7) cd_24).trans dX2_isSo_7
theorem e24_8 : decode (ma_cd 24) 8 = .ok (.bipush 8, 2) := (congrArg (fun b => decode b 8) cd_24).trans dX2_isSo_8
theorem e24_10 : decode (ma_cd 24) 10 = .ok (.ishr, 1) := (congrArg (fun b => decode b 10) cd_24).trans dX2_isSo_10
theorem e24_11 : decode (ma_cd 24) 11 = .ok (.istore 4, 2) := (congrArg (fun b => decode b 11) cd_24).trans dX2_isSo_11
theorem e24_13 : decode (ma_cd 24) 13 = .ok (.iload_n 0, 1) := (congrArg (fun b => decode b 13) cd_24).trans dX2_isSo_13
theorem e24_14 : decode (ma_cd 24) 14 = .ok (.bipush 15, 2) := (congrArg (fun b => decode b 14) cd_24).trans dX2_isSo_14
theorem e24_16 : decode (ma_cd 24) 16 = .ok (.iand, 1) := (congrArg (fun b => decode b 16) cd_24).trans dX2_isSo_16
theorem e24_17 : decode (ma_cd 24) 17 = .ok (.aload_n 1, 1) := (congrArg (fun b => decode b 17) cd_24).trans dX2_isSo_17
theorem e24_18 : decode (ma_cd 24) 18 = .ok (.iload_n 2, 1) := (congrArg (fun b => decode b 18) cd_24).trans dX2_isSo_18
theorem e24_19 : decode (ma_cd 24) 19 = .ok (.invokestatic 53, 3) := (congrArg (fun b => decode b 19) cd_24).trans dX2_isSo_19
theorem e24_22 : decode (ma_cd 24) 22 = .ok (.istore 5, 2) := (congrArg (fun b => decode b 22) cd_24).trans dX2_isSo_22
theorem e24_24 : decode (ma_cd 24) 24 = .ok (.iload_n 3, 1) := (congrArg (fun b => decode b 24) cd_24).trans dX2_isSo_24
theorem e24_25 : decode (ma_cd 24) 25 = .ok (.ifCond .ne 16, 3) := (congrArg (fun b => decode b 25) cd_24).trans dX2_isSo_25
theorem e24_28 : decode (ma_cd 24) 28 = .ok (.iload 5, 2) := (congrArg (fun b => decode b 28) cd_24).trans dX2_isSo_28
theorem e24_30 : decode (ma_cd 24) 30 = .ok (.iload 4, 2) := (congrArg (fun b => decode b 30) cd_24).trans dX2_isSo_30
theorem e24_32 : decode (ma_cd 24) 32 = .ok (.if_icmp .ge 7, 3) := (congrArg (fun b => decode b 32) cd_24).trans dX2_isSo_32
theorem e24_35 : decode (ma_cd 24) 35 = .ok (.iconst 1, 1) := (congrArg (fun b => decode b 35) cd_24).trans dX2_isSo_35
theorem e24_36 : decode (ma_cd 24) 36 = .ok (.goto 4, 3) := (congrArg (fun b => decode b 36) cd_24).trans dX2_isSo_36
theorem e24_39 : decode (ma_cd 24) 39 = .ok (.iconst 0, 1) := (congrArg (fun b => decode b 39) cd_24).trans dX2_isSo_39
theorem e24_40 : decode (ma_cd 24) 40 = .ok (.ireturn, 1) := (congrArg (fun b => decode b 40) cd_24).trans dX2_isSo_40
theorem e24_41 : decode (ma_cd 24) 41 = .ok (.iload_n 3, 1) := (congrArg (fun b => decode b 41) cd_24).trans dX2_isSo_41
theorem e24_42 : decode (ma_cd 24) 42 = .ok (.iconst 1, 1) := (congrArg (fun b => decode b 42) cd_24).trans dX2_isSo_42
theorem e24_43 : decode (ma_cd 24) 43 = .ok (.if_icmp .ne 18, 3) := (congrArg (fun b => decode b 43) cd_24).trans dX2_isSo_43
theorem e24_46 : decode (ma_cd 24) 46 = .ok (.iload 5, 2) := (congrArg (fun b => decode b 46) cd_24).trans dX2_isSo_46
theorem e24_48 : decode (ma_cd 24) 48 = .ok (.iload 4, 2) := (congrArg (fun b => decode b 48) cd_24).trans dX2_isSo_48
theorem e24_50 : decode (ma_cd 24) 50 = .ok (.if_icmp .ne 7, 3) := (congrArg (fun b => decode b 50) cd_24).trans dX2_isSo_50
theorem e24_53 : decode (ma_cd 24) 53 = .ok (.iconst 1, 1) := (congrArg (fun b => decode b 53) cd_24).trans dX2_isSo_53
theorem e24_54 : decode (ma_cd 24) 54 = .ok (.goto 19, 3) := (congrArg (fun b => decode b 54) cd_24).trans dX2_isSo_54
theorem e24_57 : decode (ma_cd 24) 57 = .ok (.iconst 0, 1) := (congrArg (fun b => decode b 57) cd_24).trans dX2_isSo_57
theorem e24_58 : decode (ma_cd 24) 58 = .ok (.goto 15, 3) := (congrArg (fun b => decode b 58) cd_24).trans dX2_isSo_58
theorem e24_61 : decode (ma_cd 24) 61 = .ok (.iload 5, 2) := (congrArg (fun b => decode b 61) cd_24).trans dX2_isSo_61
theorem e24_63 : decode (ma_cd 24) 63 = .ok (.iload 4, 2) := (congrArg (fun b => decode b 63) cd_24).trans dX2_isSo_63
theorem e24_65 : decode (ma_cd 24) 65 = .ok (.if_icmp .le 7, 3) := (congrArg (fun b => decode b 65) cd_24).trans dX2_isSo_65
theorem e24_68 : decode (ma_cd 24) 68 = .ok (.iconst 1, 1) := (congrArg (fun b => decode b 68) cd_24).trans dX2_isSo_68
theorem e24_69 : decode (ma_cd 24) 69 = .ok (.goto 4, 3) := (congrArg (fun b => decode b 69) cd_24).trans dX2_isSo_69
theorem e24_72 : decode (ma_cd 24) 72 = .ok (.iconst 0, 1) := (congrArg (fun b => decode b 72) cd_24).trans dX2_isSo_72
theorem e24_73 : decode (ma_cd 24) 73 = .ok (.ireturn, 1) := (congrArg (fun b => decode b 73) cd_24).trans dX2_isSo_73
theorem S24 {ro : ma_RO} {d : Nat} : (∀ (v1 : Option Value) (v2 : Option Value) (v3 : Option Value) (v4 : Option Value) (v5 : Option Value) (x1 : Int32) (st : List Value) (σ : ma_H), ma_rn ro d 24 (0, [some (.int x1), v1, v2, v3, v4, v5], st, SH, σ) = ma_rn ro d 24 (1, [some (.int x1), v1, v2, v3, v4, v5], .int x1 :: st, SH, σ)) ∧
  (∀ (v0 : Option Value) (v1 : Option Value) (v2 : Option Value) (v3 : Option Value) (v4 : Option Value) (v5 : Option Value) (st : List Value) (σ : ma_H), ma_rn ro d 24 (1, [v0, v1, v2, v3, v4, v5], st, SH, σ) = ma_rn ro d 24 (2, [v0, v1, v2, v3, v4, v5], .int (nI 4) :: st, SH, σ)) ∧
  (∀ (v0 : Option Value) (v1 : Option Value) (v2 : Option Value) (v3 : Option Value) (v4 : Option Value) (v5 : Option Value) (x1 : Int32) (x2 : Int32) (st : List Value) (σ : ma_H), ma_rn ro d 24 (2, [v0, v1, v2, v3, v4, v5], .int x1 :: .int x2 :: st, SH, σ) = ma_rn ro d 24 (3, [v0, v1, v2, v3, v4, v5], .int (x2 >>> (x1 &&& 31)) :: st, SH, σ)) ∧
  (∀ (v0 : Option Value) (v1 : Option Value) (v2 : Option Value) (v3 : Option Value) (v4 : Option Value) (v5 : Option Value) (st : List Value) (σ : ma_H), ma_rn ro d 24 (3, [v0, v1, v2, v3, v4, v5], st, SH, σ) = ma_rn ro d 24 (5, [v0, v1, v2, v3, v4, v5], .int (nI 15) :: st, SH, σ)) ∧
  (∀ (v0 : Option Value) (v1 : Option Value) (v2 : Option Value) (v3 : Option Value) (v4 : Option Value) (v5 : Option Value) (x1 : Int32) (x2 : Int32) (st : List Value) (σ : ma_H), ma_rn ro d 24 (5, [v0, v1, v2, v3, v4, v5], .int x1 :: .int x2 :: st, SH, σ) = ma_rn ro d 24 (6, [v0, v1, v2, v3, v4, v5], .int (x2 &&& x1) :: st, SH, σ)) ∧
  (∀ (v0 : Option Value) (v1 : Option Value) (v3 : Option Value) (v4 : Option Value) (v5 : Option Value) (x9 : Int32) (x1 : Int32) (st : List Value) (σ : ma_H), ma_rn ro d 24 (6, [v0, v1, some (.int x9), v3, v4, v5], .int x1 :: st, SH, σ) = ma_rn ro d 24 (7, [v0, v1, some (.int x9), some (.int x1), v4, v5], st, SH, σ)) ∧
  (∀ (v1 : Option Value) (v2 : Option Value) (v3 : Option Value) (v4 : Option Value) (v5 : Option Value) (x1 : Int32) (st : List Value) (σ : ma_H), ma_rn ro d 24 (7, [some (.int x1), v1, v2, v3, v4, v5], st, SH, σ) = ma_rn ro d 24 (8, [some (.int x1), v1, v2, v3, v4, v5], .int x1 :: st, SH, σ)) ∧
  (∀ (v0 : Option Value) (v1 : Option Value) (v2 : Option Value) (v3 : Option Value) (v4 : Option Value) (v5 : Option Value) (st : List Value) (σ : ma_H), ma_rn ro d 24 (8, [v0, v1, v2, v3, v4, v5], st, SH, σ) = ma_rn ro d 24 (10, [v0, v1, v2, v3, v4, v5], .int (nI 8) :: st, SH, σ)) ∧
  (∀ (v0 : Option Value) (v1 : Option Value) (v2 : Option Value) (v3 : Option Value) (v4 : Option Value) (v5 : Option Value) (x1 : Int32) (x2 : Int32) (st : List Value) (σ : ma_H), ma_rn ro d 24 (10, [v0, v1, v2, v3, v4, v5], .int x1 :: .int x2 :: st, SH, σ) = ma_rn ro d 24 (11, [v0, v1, v2, v3, v4, v5], .int (x2 >>> (x1 &&& 31)) :: st, SH, σ)) ∧
  (∀ (v0 : Option Value) (v1 : Option Value) (v2 : Option Value) (v4 : Option Value) (v5 : Option Value) (x9 : Int32) (x1 : Int32) (st : List Value) (σ : ma_H), ma_rn ro d 24 (11, [v0, v1, v2, some (.int x9), v4, v5], .int x1 :: st, SH, σ) = ma_rn ro d 24 (13, [v0, v1, v2, some (.int x9), some (.int x1), v5], st, SH, σ)) ∧
  (∀ (v1 : Option Value) (v2 : Option Value) (v3 : Option Value) (v4 : Option Value) (v5 : Option Value) (x1 : Int32) (st : List Value) (σ : ma_H), ma_rn ro d 24 (13, [some (.int x1), v1, v2, v3, v4, v5], st, SH, σ) = ma_rn ro d 24 (14, [some (.int x1), v1, v2, v3, v4, v5], .int x1 :: st, SH, σ)) ∧
  (∀ (v0 : Option Value) (v1 : Option Value) (v2 : Option Value) (v3 : Option Value) (v4 : Option Value) (v5 : Option Value) (st : List Value) (σ : ma_H), ma_rn ro d 24 (14, [v0, v1, v2, v3, v4, v5], st, SH, σ) = ma_rn ro d 24 (16, [v0, v1, v2, v3, v4, v5], .int (nI 15) :: st, SH, σ)) ∧
  (∀ (v0 : Option Value) (v1 : Option Value) (v2 : Option Value) (v3 : Option Value) (v4 : Option Value) (v5 : Option Value) (x1 : Int32) (x2 : Int32) (st : List Value) (σ : ma_H), ma_rn ro d 24 (16, [v0, v1, v2, v3, v4, v5], .int x1 :: .int x2 :: st, SH, σ) = ma_rn ro d 24 (17, [v0, v1, v2, v3, v4, v5], .int (x2 &&& x1) :: st, SH, σ)) ∧
  (∀ (v0 : Option Value) (v2 : Option Value) (v3 : Option Value) (v4 : Option Value) (v5 : Option Value) (a1 : Nat) (st : List Value) (σ : ma_H), ma_rn ro d 24 (17, [v0, some (.ref a1), v2, v3, v4, v5], st, SH, σ) = ma_rn ro d 24 (18, [v0, some (.ref a1), v2, v3, v4, v5], .ref a1 :: st, SH, σ)) ∧
  (∀ (v0 : Option Value) (v1 : Option Value) (v3 : Option Value) (v4 : Option Value) (v5 : Option Value) (x1 : Int32) (st : List Value) (σ : ma_H), ma_rn ro d 24 (18, [v0, v1, some (.int x1), v3, v4, v5], st, SH, σ) = ma_rn ro d 24 (19, [v0, v1, some (.int x1), v3, v4, v5], .int x1 :: st, SH, σ)) ∧
  (∀ (v0 : Option Value) (v1 : Option Value) (v2 : Option Value) (v3 : Option Value) (v4 : Option Value) (v5 : Option Value) (x1 : Int32) (a2 : Nat) (x3 : Int32) (σ : ma_H), ma_rn ro (d + 1) 24 (19, [v0, v1, v2, v3, v4, v5], .int x3 :: .ref a2 :: .int x1 :: [], SH, σ) = (ma_ev ro d 25 [.int x1, .ref a2, .int x3] SH σ).bind (fun q => ma_rn ro (d + 1) 24 (22, [v0, v1, v2, v3, v4, v5], (q.1.toList ++ []), q.2.1, q.2.2))) ∧
  (∀ (v0 : Option Value) (v1 : Option Value) (v2 : Option Value) (v3 : Option Value) (v5 : Option Value) (x9 : Int32) (x1 : Int32) (st : List Value) (σ : ma_H), ma_rn ro d 24 (22, [v0, v1, v2, v3, some (.int x9), v5], .int x1 :: st, SH, σ) = ma_rn ro d 24 (24, [v0, v1, v2, v3, some (.int x9), some (.int x1)], st, SH, σ)) ∧
  (∀ (v0 : Option Value) (v1 : Option Value) (v2 : Option Value) (v4 : Option Value) (v5 : Option Value) (x1 : Int32) (st : List Value) (σ : ma_H), ma_rn ro d 24 (24, [v0, v1, v2, some (.int x1), v4, v5], st, SH, σ) = ma_rn ro d 24 (25, [v0, v1, v2, some (.int x1), v4, v5], .int x1 :: st, SH, σ)) ∧
  (∀ (v0 : Option Value) (v1 : Option Value) (v2 : Option Value) (v3 : Option Value) (v4 : Option Value) (v5 : Option Value) (x1 : Int32) (st : List Value) (σ : ma_H), ma_rn ro d 24 (25, [v0, v1, v2, v3, v4, v5], .int x1 :: st, SH, σ) = if x1 = nI 0 then ma_rn ro d 24 (28, [v0, v1, v2, v3, v4, v5], st, SH, σ) else ma_rn ro d 24 (41, [v0, v1, v2, v3, v4, v5], st, SH, σ)) ∧
  (∀ (v0 : Option Value) (v1 : Option Value) (v2 : Option Value) (v3 : Option Value) (v4 : Option Value) (x1 : Int32) (st : List Value) (σ : ma_H), ma_rn ro d 24 (28, [v0, v1, v2, v3, v4, some (.int x1)], st, SH, σ) = ma_rn ro d 24 (30, [v0, v1, v2, v3, v4, some (.int x1)], .int x1 :: st, SH, σ)) ∧
  (∀ (v0 : Option Value) (v1 : Option Value) (v2 : Option Value) (v3 : Option Value) (v5 : Option Value) (x1 : Int32) (st : List Value) (σ : ma_H), ma_rn ro d 24 (30, [v0, v1, v2, v3, some (.int x1), v5], st, SH, σ) = ma_rn ro d 24 (32, [v0, v1, v2, v3, some (.int x1), v5], .int x1 :: st, SH, σ)) ∧
  (∀ (v0 : Option Value) (v1 : Option Value) (v2 : Option Value) (v3 : Option Value) (v4 : Option Value) (v5 : Option Value) (x1 : Int32) (x2 : Int32) (st : List Value) (σ : ma_H), ma_rn ro d 24 (32, [v0, v1, v2, v3, v4, v5], .int x1 :: .int x2 :: st, SH, σ) = if x2 < x1 then ma_rn ro d 24 (35, [v0, v1, v2, v3, v4, v5], st, SH, σ) else ma_rn ro d 24 (39, [v0, v1, v2, v3, v4, v5], st, SH, σ)) ∧
  (∀ (v0 : Option Value) (v1 : Option Value) (v2 : Option Value) (v3 : Option Value) (v4 : Option Value) (v5 : Option Value) (st : List Value) (σ : ma_H), ma_rn ro d 24 (35, [v0, v1, v2, v3, v4, v5], st, SH, σ) = ma_rn ro d 24 (36, [v0, v1, v2, v3, v4, v5], .int (nI 1) :: st, SH, σ)) ∧
  (∀ (v0 : Option Value) (v1 : Option Value) (v2 : Option Value) (v3 : Option Value) (v4 : Option Value) (v5 : Option Value) (st : List Value) (σ : ma_H), ma_rn ro d 24 (36, [v0, v1, v2, v3, v4, v5], st, SH, σ) = ma_rn ro d 24 (40, [v0, v1, v2, v3, v4, v5], st, SH, σ)) ∧
  (∀ (v0 : Option Value) (v1 : Option Value) (v2 : Option Value) (v3 : Option Value) (v4 : Option Value) (v5 : Option Value) (st : List Value) (σ : ma_H), ma_rn ro d 24 (39, [v0, v1, v2, v3, v4, v5], st, SH, σ) = ma_rn ro d 24 (40, [v0, v1, v2, v3, v4, v5], .int (nI 0) :: st, SH, σ)) ∧
  (∀ (v0 : Option Value) (v1 : Option Value) (v2 : Option Value) (v3 : Option Value) (v4 : Option Value) (v5 : Option Value) (x1 : Int32) (σ : ma_H) (hx : ma_fitI .boolean x1 = true), ma_rn ro d 24 (40, [v0, v1, v2, v3, v4, v5], [.int x1], SH, σ) = some (some (.int x1), SH, σ)) ∧
  (∀ (v0 : Option Value) (v1 : Option Value) (v2 : Option Value) (v4 : Option Value) (v5 : Option Value) (x1 : Int32) (st : List Value) (σ : ma_H), ma_rn ro d 24 (41, [v0, v1, v2, some (.int x1), v4, v5], st, SH, σ) = ma_rn ro d 24 (42, [v0, v1, v2, some (.int x1), v4, v5], .int x1 :: st, SH, σ)) ∧
  (∀ (v0 : Option Value) (v1 : Option Value) (v2 : Option Value) (v3 : Option Value) (v4 : Option Value) (v5 : Option Value) (st : List Value) (σ : ma_H), ma_rn ro d 24 (42, [v0, v1, v2, v3, v4, v5], st, SH, σ) = ma_rn ro d 24 (43, [v0, v1, v2, v3, v4, v5], .int (nI 1) :: st, SH, σ)) ∧
  (∀ (v0 : Option Value) (v1 : Option Value) (v2 : Option Value) (v3 : Option Value) (v4 : Option Value) (v5 : Option Value) (x1 : Int32) (x2 : Int32) (st : List Value) (σ : ma_H), ma_rn ro d 24 (43, [v0, v1, v2, v3, v4, v5], .int x1 :: .int x2 :: st, SH, σ) = if x2 = x1 then ma_rn ro d 24 (46, [v0, v1, v2, v3, v4, v5], st, SH, σ) else ma_rn ro d 24 (61, [v0, v1, v2, v3, v4, v5], st, SH, σ)) ∧
  (∀ (v0 : Option Value) (v1 : Option Value) (v2 : Option Value) (v3 : Option Value) (v4 : Option Value) (x1 : Int32) (st : List Value) (σ : ma_H), ma_rn ro d 24 (46, [v0, v1, v2, v3, v4, some (.int x1)], st, SH, σ) = ma_rn ro d 24 (48, [v0, v1, v2, v3, v4, some (.int x1)], .int x1 :: st, SH, σ)) ∧
  (∀ (v0 : Option Value) (v1 : Option Value) (v2 : Option Value) (v3 : Option Value) (v5 : Option Value) (x1 : Int32) (st : List Value) (σ : ma_H), ma_rn ro d 24 (48, [v0, v1, v2, v3, some (.int x1), v5], st, SH, σ) = ma_rn ro d 24 (50, [v0, v1, v2, v3, some (.int x1), v5], .int x1 :: st, SH, σ)) ∧
  (∀ (v0 : Option Value) (v1 : Option Value) (v2 : Option Value) (v3 : Option Value) (v4 : Option Value) (v5 : Option Value) (x1 : Int32) (x2 : Int32) (st : List Value) (σ : ma_H), ma_rn ro d 24 (50, [v0, v1, v2, v3, v4, v5], .int x1 :: .int x2 :: st, SH, σ) = if x2 = x1 then ma_rn ro d 24 (53, [v0, v1, v2, v3, v4, v5], st, SH, σ) else ma_rn ro d 24 (57, [v0, v1, v2, v3, v4, v5], st, SH, σ)) ∧
  (∀ (v0 : Option Value) (v1 : Option Value) (v2 : Option Value) (v3 : Option Value) (v4 : Option Value) (v5 : Option Value) (st : List Value) (σ : ma_H), ma_rn ro d 24 (53, [v0, v1, v2, v3, v4, v5], st, SH, σ) = ma_rn ro d 24 (54, [v0, v1, v2, v3, v4, v5], .int (nI 1) :: st, SH, σ)) ∧
  (∀ (v0 : Option Value) (v1 : Option Value) (v2 : Option Value) (v3 : Option Value) (v4 : Option Value) (v5 : Option Value) (st : List Value) (σ : ma_H), ma_rn ro d 24 (54, [v0, v1, v2, v3, v4, v5], st, SH, σ) = ma_rn ro d 24 (73, [v0, v1, v2, v3, v4, v5], st, SH, σ)) ∧
  (∀ (v0 : Option Value) (v1 : Option Value) (v2 : Option Value) (v3 : Option Value) (v4 : Option Value) (v5 : Option Value) (st : List Value) (σ : ma_H), ma_rn ro d 24 (57, [v0, v1, v2, v3, v4, v5], st, SH, σ) = ma_rn ro d 24 (58, [v0, v1, v2, v3, v4, v5], .int (nI 0) :: st, SH, σ)) ∧
  (∀ (v0 : Option Value) (v1 : Option Value) (v2 : Option Value) (v3 : Option Value) (v4 : Option Value) (v5 : Option Value) (st : List Value) (σ : ma_H), ma_rn ro d 24 (58, [v0, v1, v2, v3, v4, v5], st, SH, σ) = ma_rn ro d 24 (73, [v0, v1, v2, v3, v4, v5], st, SH, σ)) ∧
  (∀ (v0 : Option Value) (v1 : Option Value) (v2 : Option Value) (v3 : Option Value) (v4 : Option Value) (x1 : Int32) (st : List Value) (σ : ma_H), ma_rn ro d 24 (61, [v0, v1, v2, v3, v4, some (.int x1)], st, SH, σ) = ma_rn ro d 24 (63, [v0, v1, v2, v3, v4, some (.int x1)], .int x1 :: st, SH, σ)) ∧
  (∀ (v0 : Option Value) (v1 : Option Value) (v2 : Option Value) (v3 : Option Value) (v5 : Option Value) (x1 : Int32) (st : List Value) (σ : ma_H), ma_rn ro d 24 (63, [v0, v1, v2, v3, some (.int x1), v5], st, SH, σ) = ma_rn ro d 24 (65, [v0, v1, v2, v3, some (.int x1), v5], .int x1 :: st, SH, σ)) ∧
  (∀ (v0 : Option Value) (v1 : Option Value) (v2 : Option Value) (v3 : Option Value) (v4 : Option Value) (v5 : Option Value) (x1 : Int32) (x2 : Int32) (st : List Value) (σ : ma_H), ma_rn ro d 24 (65, [v0, v1, v2, v3, v4, v5], .int x1 :: .int x2 :: st, SH, σ) = if x1 < x2 then ma_rn ro d 24 (68, [v0, v1, v2, v3, v4, v5], st, SH, σ) else ma_rn ro d 24 (72, [v0, v1, v2, v3, v4, v5], st, SH, σ)) ∧
  (∀ (v0 : Option Value) (v1 : Option Value) (v2 : Option Value) (v3 : Option Value) (v4 : Option Value) (v5 : Option Value) (st : List Value) (σ : ma_H), ma_rn ro d 24 (68, [v0, v1, v2, v3, v4, v5], st, SH, σ) = ma_rn ro d 24 (69, [v0, v1, v2, v3, v4, v5], .int (nI 1) :: st, SH, σ)) ∧
  (∀ (v0 : Option Value) (v1 : Option Value) (v2 : Option Value) (v3 : Option Value) (v4 : Option Value) (v5 : Option Value) (st : List Value) (σ : ma_H), ma_rn ro d 24 (69, [v0, v1, v2, v3, v4, v5], st, SH, σ) = ma_rn ro d 24 (73, [v0, v1, v2, v3, v4, v5], st, SH, σ)) ∧
  (∀ (v0 : Option Value) (v1 : Option Value) (v2 : Option Value) (v3 : Option Value) (v4 : Option Value) (v5 : Option Value) (st : List Value) (σ : ma_H), ma_rn ro d 24 (72, [v0, v1, v2, v3, v4, v5], st, SH, σ) = ma_rn ro d 24 (73, [v0, v1, v2, v3, v4, v5], .int (nI 0) :: st, SH, σ)) ∧
  (∀ (v0 : Option Value) (v1 : Option Value) (v2 : Option Value) (v3 : Option Value) (v4 : Option Value) (v5 : Option Value) (x1 : Int32) (σ : ma_H) (hx : ma_fitI .boolean x1 = true), ma_rn ro d 24 (73, [v0, v1, v2, v3, v4, v5], [.int x1], SH, σ) = some (some (.int x1), SH, σ)) := ⟨fun v1 v2 v3 v4 v5 x1 st σ => q_go e24_0 rfl rfl,
  fun v0 v1 v2 v3 v4 v5 st σ => q_iconst e24_1 (by decide),
  fun v0 v1 v2 v3 v4 v5 x1 x2 st σ => q_go e24_2 rfl rfl,
  fun v0 v1 v2 v3 v4 v5 st σ => q_bipush e24_3 (by decide),
  fun v0 v1 v2 v3 v4 v5 x1 x2 st σ => q_go e24_5 rfl rfl,
  fun v0 v1 v3 v4 v5 x9 x1 st σ => q_go e24_6 rfl rfl,
  fun v1 v2 v3 v4 v5 x1 st σ => q_go e24_7 rfl rfl,
  fun v0 v1 v2 v3 v4 v5 st σ => q_bipush e24_8 (by decide),
  fun v0 v1 v2 v3 v4 v5 x1 x2 st σ => q_go e24_10 rfl rfl,
  fun v0 v1 v2 v4 v5 x9 x1 st σ => q_go e24_11 rfl rfl,
  fun v1 v2 v3 v4 v5 x1 st σ => q_go e24_13 rfl rfl,
  fun v0 v1 v2 v3 v4 v5 st σ => q_bipush e24_14 (by decide),
  fun v0 v1 v2 v3 v4 v5 x1 x2 st σ => q_go e24_16 rfl rfl,
  fun v0 v2 v3 v4 v5 a1 st σ => q_go e24_17 rfl rfl,
  fun v0 v1 v3 v4 v5 x1 st σ => q_go e24_18 rfl rfl,
  fun v0 v1 v2 v3 v4 v5 x1 a2 x3 σ => q_invS (as := [.int x1, .ref a2, .int x3]) (rest := []) e24_19 o_24 bn_2_53 c_2_53 ⟨m_25.1, m_25.2.1, m_25.2.2.1⟩ rfl rfl (Nat.le_of_ble_eq_true rfl) (Nat.le_of_ble_eq_true rfl),
  fun v0 v1 v2 v3 v5 x9 x1 st σ => q_go e24_22 rfl rfl,
  fun v0 v1 v2 v4 v5 x1 st σ => q_go e24_24 rfl rfl,
  fun v0 v1 v2 v3 v4 v5 x1 st σ => (q_if e24_25 rfl).trans q_ne,
  fun v0 v1 v2 v3 v4 x1 st σ => q_go e24_28 rfl rfl,
  fun v0 v1 v2 v3 v5 x1 st σ => q_go e24_30 rfl rfl,
  fun v0 v1 v2 v3 v4 v5 x1 x2 st σ => (q_cmp e24_32 rfl).trans q_nlt,
  fun v0 v1 v2 v3 v4 v5 st σ => q_iconst e24_35 (by decide),
  fun v0 v1 v2 v3 v4 v5 st σ => q_goto e24_36 rfl,
  fun v0 v1 v2 v3 v4 v5 st σ => q_iconst e24_39 (by decide),
  fun v0 v1 v2 v3 v4 v5 x1 σ hx => q_zret e24_40 r_24 hx,
  fun v0 v1 v2 v4 v5 x1 st σ => q_go e24_41 rfl rfl,
  fun v0 v1 v2 v3 v4 v5 st σ => q_iconst e24_42 (by decide),
  fun v0 v1 v2 v3 v4 v5 x1 x2 st σ => (q_cmp e24_43 rfl).trans q_ne,
  fun v0 v1 v2 v3 v4 x1 st σ => q_go e24_46 rfl rfl,
  fun v0 v1 v2 v3 v5 x1 st σ => q_go e24_48 rfl rfl,
  fun v0 v1 v2 v3 v4 v5 x1 x2 st σ => (q_cmp e24_50 rfl).trans q_ne,
  fun v0 v1 v2 v3 v4 v5 st σ => q_iconst e24_53 (by decide),
  fun v0 v1 v2 v3 v4 v5 st σ => q_goto e24_54 rfl,
  fun v0 v1 v2 v3 v4 v5 st σ => q_iconst e24_57 (by decide),
  fun v0 v1 v2 v3 v4 v5 st σ => q_goto e24_58 rfl,
  fun v0 v1 v2 v3 v4 x1 st σ => q_go e24_61 rfl rfl,
  fun v0 v1 v2 v3 v5 x1 st σ => q_go e24_63 rfl rfl,
  fun v0 v1 v2 v3 v4 v5 x1 x2 st σ => (q_cmp e24_65 rfl).trans q_ngt,
  fun v0 v1 v2 v3 v4 v5 st σ => q_iconst e24_68 (by decide),
  fun v0 v1 v2 v3 v4 v5 st σ => q_goto e24_69 rfl,
  fun v0 v1 v2 v3 v4 v5 st σ => q_iconst e24_72 (by decide),
  fun v0 v1 v2 v3 v4 v5 x1 σ hx => q_zret e24_73 r_24 hx⟩
theorem E24 {ro : ma_RO} {d : Nat} (x1 : Int32) (a2 : Nat) (x3 : Int32) (sh : List ma_Sh) (σ : ma_H) : ma_ev ro d 24 [.int x1, .ref a2, .int x3] sh σ = ma_rn ro d 24 (0, [some (.int x1), some (.ref a2), some (.int x3), none, none, none], [], sh, σ) := q_ent x_24 rfl
theorem e25_0 : decode (ma_cd 25) 0 = .ok (.iload_n 0, 1) := (congrArg (fun b => decode b 0) cd_25).trans dX2_measure_0
theorem e25_1 : decode (ma_cd 25) 1 = .ok (.tableswitch 63 0 4 #[35, 40, 45, 50, 58], 35) := (congrArg (fun b => decode b 1) cd_25).trans dX2_measure_1
theorem e25_36 : decode (ma_cd 25) 36 = .ok (.aload_n 1, 1) := (congrArg (fun b => decode b 36) cd_25).trans dX2_measure_36
theorem e25_37 : decode (ma_cd 25) 37 = .ok (.getfield 57, 3) := (congrArg (fun b => decode b 37) cd_25).trans dX2_measure_37
theorem e25_40 : decode (ma_cd 25) 40 = .ok (.ireturn, 1) := (congrArg (fun b => decode b 40) cd_25).trans dX2_measure_40
theorem e25_41 : decode (ma_cd 25) 41 = .ok (.aload_n 1, 1) := (congrArg (fun b => decode b 41) cd_25).trans dX2_measure_41
theorem e25_42 : decode (ma_cd 25) 42 = .ok (.getfield 62, 3) := (congrArg (fun b => decode b 42) cd_25).trans dX2_measure_42
theorem e25_45 : decode (ma_cd 25) 45 = .ok (.ireturn, 1) := (congrArg (fun b => decode b 45) cd_25).trans dX2_measure_45
theorem e25_46 : decode (ma_cd 25) 46 = .ok (.aload_n 1, 1) := (congrArg (fun b => decode b 46) cd_25).trans dX2_measure_46
theorem e25_47 : decode (ma_cd 25) 47 = .ok (.getfield 65, 3) := (congrArg (fun b => decode b 47) cd_25).trans dX2_measure_47
theorem e25_50 : decode (ma_cd 25) 50 = .ok (.ireturn, 1) := (congrArg (fun b => decode b 50) cd_25).trans dX2_measure_50
theorem e25_51 : decode (ma_cd 25) 51 = .ok (.aload_n 1, 1) := (congrArg (fun b => decode b 51) cd_25).trans dX2_measure_51
theorem e25_52 : decode (ma_cd 25) 52 = .ok (.getfield 68, 3) := (congrArg (fun b => decode b 52) cd_25).trans dX2_measure_52
theorem e25_55 : decode (ma_cd 25) 55 = .ok (.bipush 10, 2) := (congrArg (fun b => decode b 55) cd_25).trans dX2_measure_55
theorem e25_57 : decode (ma_cd 25) 57 = .ok (.idiv, 1) := (congrArg (fun b => decode b 57) cd_25).trans dX2_measure_57
theorem e25_58 : decode (ma_cd 25) 58 = .ok (.ireturn, 1) := (congrArg (fun b => decode b 58) cd_25).trans dX2_measure_58
theorem e25_59 : decode (ma_cd 25) 59 = .ok (.aload_n 1, 1) := (congrArg (fun b => decode b 59) cd_25).trans dX2_measure_59
theorem e25_60 : decode (ma_cd 25) 60 = .ok (.getfield 71, 3) := (congrArg (fun b => decode b 60) cd_25).trans dX2_measure_60
theorem e25_63 : decode (ma_cd 25) 63 = .ok (.ireturn, 1) := (congrArg (fun b => decode b 63) cd_25).trans dX2_measure_63
theorem e25_64 : decode (ma_cd 25) 64 = .ok (.iload_n 2, 1) := (congrArg (fun b => decode b 64) cd_25).trans dX2_measure_64
theorem e25_65 : decode (ma_cd 25) 65 = .ok (.bipush 7, 2) := (congrArg (fun b => decode b 65) cd_25).trans dX2_measure_65
theorem e25_67 : decode (ma_cd 25) 67 = .ok (.irem, 1) := (congrArg (fun b => decode b 67) cd_25).trans dX2_measure_67
theorem e25_68 : decode (ma_cd 25) 68 = .ok (.ireturn, 1) := (congrArg (fun b => decode b 68) cd_25).trans dX2_measure_68
theorem S25 {ro : ma_RO} {d : Nat} : (∀ (v1 : Option Value) (v2 : Option Value) (x1 : Int32) (st : List Value) (σ : ma_H), ma_rn ro d 25 (0, [some (.int x1), v1, v2], st, SH, σ) = ma_rn ro d 25 (1, [some (.int x1), v1, v2], .int x1 :: st, SH, σ)) ∧
  (∀ (v0 : Option Value) (v1 : Option Value) (v2 : Option Value) (x1 : Int32) (st : List Value) (σ : ma_H), ma_rn ro d 25 (1, [v0, v1, v2], .int x1 :: st, SH, σ) = if x1 = nI 0 then ma_rn ro d 25 (36, [v0, v1, v2], st, SH, σ) else if x1 = nI 1 then ma_rn ro d 25 (41, [v0, v1, v2], st, SH, σ) else if x1 = nI 2 then ma_rn ro d 25 (46, [v0, v1, v2], st, SH, σ) else if x1 = nI 3 then ma_rn ro d 25 (51, [v0, v1, v2], st, SH, σ) else if x1 = nI 4 then ma_rn ro d 25 (59, [v0, v1, v2], st, SH, σ) else ma_rn ro d 25 (64, [v0, v1, v2], st, SH, σ)) ∧
  (∀ (v0 : Option Value) (v2 : Option Value) (a1 : Nat) (st : List Value) (σ : ma_H), ma_rn ro d 25 (36, [v0, some (.ref a1), v2], st, SH, σ) = ma_rn ro d 25 (37, [v0, some (.ref a1), v2], .ref a1 :: st, SH, σ)) ∧
  (∀ (v0 : Option Value) (v1 : Option Value) (v2 : Option Value) (a1 : Nat) (st : List Value) (σ : ma_H) (hc : hk_cls a1 = 1), ma_rn ro d 25 (37, [v0, v1, v2], .ref a1 :: st, SH, σ) = ma_rn ro d 25 (40, [v0, v1, v2], .int (σ a1 0) :: st, SH, σ)) ∧
  (∀ (v0 : Option Value) (v1 : Option Value) (v2 : Option Value) (x1 : Int32) (σ : ma_H), ma_rn ro d 25 (40, [v0, v1, v2], [.int x1], SH, σ) = some (some (.int x1), SH, σ)) ∧
  (∀ (v0 : Option Value) (v2 : Option Value) (a1 : Nat) (st : List Value) (σ : ma_H), ma_rn ro d 25 (41, [v0, some (.ref a1), v2], st, SH, σ) = ma_rn ro d 25 (42, [v0, some (.ref a1), v2], .ref a1 :: st, SH, σ)) ∧
  (∀ (v0 : Option Value) (v1 : Option Value) (v2 : Option Value) (a1 : Nat) (st : List Value) (σ : ma_H) (hc : hk_cls a1 = 1), ma_rn ro d 25 (42, [v0, v1, v2], .ref a1 :: st, SH, σ) = ma_rn ro d 25 (45, [v0, v1, v2], .int (σ a1 1) :: st, SH, σ)) ∧
  (∀ (v0 : Option Value) (v1 : Option Value) (v2 : Option Value) (x1 : Int32) (σ : ma_H), ma_rn ro d 25 (45, [v0, v1, v2], [.int x1], SH, σ) = some (some (.int x1), SH, σ)) ∧
  (∀ (v0 : Option Value) (v2 : Option Value) (a1 : Nat) (st : List Value) (σ : ma_H), ma_rn ro d 25 (46, [v0, some (.ref a1), v2], st, SH, σ) = ma_rn ro d 25 (47, [v0, some (.ref a1), v2], .ref a1 :: st, SH, σ)) ∧
  (∀ (v0 : Option Value) (v1 : Option Value) (v2 : Option Value) (a1 : Nat) (st : List Value) (σ : ma_H) (hc : hk_cls a1 = 1), ma_rn ro d 25 (47, [v0, v1, v2], .ref a1 :: st, SH, σ) = ma_rn ro d 25 (50, [v0, v1, v2], .int (σ a1 2) :: st, SH, σ)) ∧
  (∀ (v0 : Option Value) (v1 : Option Value) (v2 : Option Value) (x1 : Int32) (σ : ma_H), ma_rn ro d 25 (50, [v0, v1, v2], [.int x1], SH, σ) = some (some (.int x1), SH, σ)) ∧
  (∀ (v0 : Option Value) (v2 : Option Value) (a1 : Nat) (st : List Value) (σ : ma_H), ma_rn ro d 25 (51, [v0, some (.ref a1), v2], st, SH, σ) = ma_rn ro d 25 (52, [v0, some (.ref a1), v2], .ref a1 :: st, SH, σ)) ∧
  (∀ (v0 : Option Value) (v1 : Option Value) (v2 : Option Value) (a1 : Nat) (st : List Value) (σ : ma_H) (hc : hk_cls a1 = 1), ma_rn ro d 25 (52, [v0, v1, v2], .ref a1 :: st, SH, σ) = ma_rn ro d 25 (55, [v0, v1, v2], .int (σ a1 5) :: st, SH, σ)) ∧
  (∀ (v0 : Option Value) (v1 : Option Value) (v2 : Option Value) (st : List Value) (σ : ma_H), ma_rn ro d 25 (55, [v0, v1, v2], st, SH, σ) = ma_rn ro d 25 (57, [v0, v1, v2], .int (nI 10) :: st, SH, σ)) ∧
  (∀ (v0 : Option Value) (v1 : Option Value) (v2 : Option Value) (x1 : Int32) (x2 : Int32) (st : List Value) (σ : ma_H) (hy : ¬ x1 = 0), ma_rn ro d 25 (57, [v0, v1, v2], .int x1 :: .int x2 :: st, SH, σ) = ma_rn ro d 25 (58, [v0, v1, v2], .int (x2 / x1) :: st, SH, σ)) ∧
  (∀ (v0 : Option Value) (v1 : Option Value) (v2 : Option Value) (x1 : Int32) (σ : ma_H), ma_rn ro d 25 (58, [v0, v1, v2], [.int x1], SH, σ) = some (some (.int x1), SH, σ)) ∧
  (∀ (v0 : Option Value) (v2 : Option Value) (a1 : Nat) (st : List Value) (σ : ma_H), ma_rn ro d 25 (59, [v0, some (.ref a1), v2], st, SH, σ) = ma_rn ro d 25 (60, [v0, some (.ref a1), v2], .ref a1 :: st, SH, σ)) ∧
  (∀ (v0 : Option Value) (v1 : Option Value) (v2 : Option Value) (a1 : Nat) (st : List Value) (σ : ma_H) (hc : hk_cls a1 = 1), ma_rn ro d 25 (60, [v0, v1, v2], .ref a1 :: st, SH, σ) = ma_rn ro d 25 (63, [v0, v1, v2], .int (σ a1 6) :: st, SH, σ)) ∧
  (∀ (v0 : Option Value) (v1 : Option Value) (v2 : Option Value) (x1 : Int32) (σ : ma_H), ma_rn ro d 25 (63, [v0, v1, v2], [.int x1], SH, σ) = some (some (.int x1), SH, σ)) ∧
  (∀ (v0 : Option Value) (v1 : Option Value) (x1 : Int32) (st : List Value) (σ : ma_H), ma_rn ro d 25 (64, [v0, v1, some (.int x1)], st, SH, σ) = ma_rn ro d 25 (65, [v0, v1, some (.int x1)], .int x1 :: st, SH, σ)) ∧
  (∀ (v0 : Option Value) (v1 : Option Value) (v2 : Option Value) (st : List Value) (σ : ma_H), ma_rn ro d 25 (65, [v0, v1, v2], st, SH, σ) = ma_rn ro d 25 (67, [v0, v1, v2], .int (nI 7) :: st, SH, σ)) ∧
  (∀ (v0 : Option Value) (v1 : Option Value) (v2 : Option Value) (x1 : Int32) (x2 : Int32) (st : List Value) (σ : ma_H) (hy : ¬ x1 = 0), ma_rn ro d 25 (67, [v0, v1, v2], .int x1 :: .int x2 :: st, SH, σ) = ma_rn ro d 25 (68, [v0, v1, v2], .int (x2 - x2 / x1 * x1) :: st, SH, σ)) ∧
  (∀ (v0 : Option Value) (v1 : Option Value) (v2 : Option Value) (x1 : Int32) (σ : ma_H), ma_rn ro d 25 (68, [v0, v1, v2], [.int x1], SH, σ) = some (some (.int x1), SH, σ)) := ⟨fun v1 v2 x1 st σ => q_go e25_0 rfl rfl,
  fun v0 v1 v2 x1 st σ => by
    by_cases h0 : x1 = nI 0
    · rw [if_pos h0]; exact q_tswIn e25_1 h0 (k := 0) (by decide) (by decide) (by decide) rfl rfl
    rw [if_neg h0]
    by_cases h1 : x1 = nI 1
    · rw [if_pos h1]; exact q_tswIn e25_1 h1 (k := 1) (by decide) (by decide) (by decide) rfl rfl
    rw [if_neg h1]
    by_cases h2 : x1 = nI 2
    · rw [if_pos h2]; exact q_tswIn e25_1 h2 (k := 2) (by decide) (by decide) (by decide) rfl rfl
    rw [if_neg h2]
    by_cases h3 : x1 = nI 3
    · rw [if_pos h3]; exact q_tswIn e25_1 h3 (k := 3) (by decide) (by decide) (by decide) rfl rfl
    rw [if_neg h3]
    by_cases h4 : x1 = nI 4
    · rw [if_pos h4]; exact q_tswIn e25_1 h4 (k := 4) (by decide) (by decide) (by decide) rfl rfl
    rw [if_neg h4]
    have g0 := q_nnI h0 (by decide)
    have g1 := q_nnI h1 (by decide)
    have g2 := q_nnI h2 (by decide)
    have g3 := q_nnI h3 (by decide)
    have g4 := q_nnI h4 (by decide)
    exact q_tswOut e25_1 (by omega) rfl,
  fun v0 v2 a1 st σ => q_go e25_36 rfl rfl,
  fun v0 v1 v2 a1 st σ hc => q_getI e25_37 o_25 f_2_57 (by decide) hc,
  fun v0 v1 v2 x1 σ => q_iret e25_40 r_25,
  fun v0 v2 a1 st σ => q_go e25_41 rfl rfl,
  fun v0 v1 v2 a1 st σ hc => q_getI e25_42 o_25 f_2_62 (by decide) hc,
  fun v0 v1 v2 x1 σ => q_iret e25_45 r_25,
  fun v0 v2 a1 st σ => q_go e25_46 rfl rfl,
  fun v0 v1 v2 a1 st σ hc => q_getI e25_47 o_25 f_2_65 (by decide) hc,
  fun v0 v1 v2 x1 σ => q_iret e25_50 r_25,
  fun v0 v2 a1 st σ => q_go e25_51 rfl rfl,
  fun v0 v1 v2 a1 st σ hc => q_getI e25_52 o_25 f_2_68 (by decide) hc,
  fun v0 v1 v2 st σ => q_bipush e25_55 (by decide),
  fun v0 v1 v2 x1 x2 st σ hy => q_idiv e25_57 hy,
  fun v0 v1 v2 x1 σ => q_iret e25_58 r_25,
  fun v0 v2 a1 st σ => q_go e25_59 rfl rfl,
  fun v0 v1 v2 a1 st σ hc => q_getI e25_60 o_25 f_2_71 (by decide) hc,
  fun v0 v1 v2 x1 σ => q_iret e25_63 r_25,
  fun v0 v1 x1 st σ => q_go e25_64 rfl rfl,
  fun v0 v1 v2 st σ => q_bipush e25_65 (by decide),
  fun v0 v1 v2 x1 x2 st σ hy => q_irem e25_67 hy,
  fun v0 v1 v2 x1 σ => q_iret e25_68 r_25⟩
theorem E25 {ro : ma_RO} {d : Nat} (x1 : Int32) (a2 : Nat) (x3 : Int32) (sh : List ma_Sh) (σ : ma_H) : ma_ev ro d 25 [.int x1, .ref a2, .int x3] sh σ = ma_rn ro d 25 (0, [some (.int x1), some (.ref a2), some (.int x3)], [], sh, σ) := q_ent x_25 rfl
theorem e27_0 : decode (ma_cd 27) 0 = .ok (.aload_n 0, 1) := (congrArg (fun b => decode b 0) cd_27).trans dX3_readHouse_0
theorem e27_1 : decode (ma_cd 27) 1 = .ok (.getfield 15, 3) := (congrArg (fun b => decode b 1) cd_27).trans dX3_readHouse_1
theorem e27_4 : decode (ma_cd 27) 4 = .ok (.invokevirtual 19, 3) := (congrArg (fun b => decode b 4) cd_27).trans dX3_readHouse_4
theorem e27_7 : decode (ma_cd 27) 7 = .ok (.aload_n 0, 1) := (congrArg (fun b => decode b 7) cd_27).trans dX3_readHouse_7
theorem e27_8 : decode (ma_cd 27) 8 = .ok (.iconst 0, 1) := (congrArg (fun b => decode b 8) cd_27).trans dX3_readHouse_8
theorem e27_9 : decode (ma_cd 27) 9 = .ok (.putfield 24, 3) := (congrArg (fun b => decode b 9) cd_27).trans dX3_readHouse_9
theorem e27_12 : decode (ma_cd 27) 12 = .ok (.aload_n 0, 1) := (congrArg (fun b => decode b 12) cd_27).trans dX3_readHouse_12
theorem e27_13 : decode (ma_cd 27) 13 = .ok (.iconst (-1), 1) := (congrArg (fun b => decode b 13) cd_27).trans dX3_readHouse_13
theorem e27_14 : decode (ma_cd 27) 14 = .ok (.putfield 28, 3) := (congrArg (fun b => decode b 14) cd_27).trans dX3_readHouse_14
theorem e27_17 : decode (ma_cd 27) 17 = .ok (.iconst 1, 1) := (congrArg (fun b => decode b 17) cd_27).trans dX3_readHouse_17
theorem e27_18 : decode (ma_cd 27) 18 = .ok (.istore_n 1, 1) := (congrArg (fun b => decode b 18) cd_27).trans dX3_readHouse_18
theorem e27_19 : decode (ma_cd 27) 19 = .ok (.iload_n 1, 1) := (congrArg (fun b => decode b 19) cd_27).trans dX3_readHouse_19
theorem e27_20 : decode (ma_cd 27) 20 = .ok (.bipush 10, 2) := (congrArg (fun b => decode b 20) cd_27).trans dX3_readHouse_20
theorem e27_22 : decode (ma_cd 27) 22 = .ok (.if_icmp .gt 69, 3) := (congrArg (fun b => decode b 22) cd_27).trans dX3_readHouse_22
theorem e27_25 : decode (ma_cd 27) 25 = .ok (.aload_n 0, 1) := (congrArg (fun b => decode b 25) cd_27).trans dX3_readHouse_25
theorem e27_26 : decode (ma_cd 27) 26 = .ok (.invokevirtual 31, 3) := (congrArg (fun b => decode b 26) cd_27).trans dX3_readHouse_26
theorem e27_29 : decode (ma_cd 27) 29 = .ok (.aload_n 0, 1) := (congrArg (fun b => decode b 29) cd_27).trans dX3_readHouse_29
theorem e27_30 : decode (ma_cd 27) 30 = .ok (.getfield 28, 3) := (congrArg (fun b => decode b 30) cd_27).trans dX3_readHouse_30
theorem e27_33 : decode (ma_cd 27) 33 = .ok (.ifCond .ge 17, 3) := (congrArg (fun b => decode b 33) cd_27).trans dX3_readHouse_33
theorem e27_36 : decode (ma_cd 27) 36 = .ok (.aload_n 0, 1) := (congrArg (fun b => decode b 36) cd_27).trans dX3_readHouse_36
theorem e27_37 : decode (ma_cd 27) 37 = .ok (.getfield 24, 3) := (congrArg (fun b => decode b 37) cd_27).trans dX3_readHouse_37
theorem e27_40 : decode (ma_cd 27) 40 = .ok (.aload_n 0, 1) := (congrArg (fun b => decode b 40) cd_27).trans dX3_readHouse_40
theorem e27_41 : decode (ma_cd 27) 41 = .ok (.getfield 9, 3) := (congrArg (fun b => decode b 41) cd_27).trans dX3_readHouse_41
theorem e27_44 : decode (ma_cd 27) 44 = .ok (.getfield 34, 3) := (congrArg (fun b => decode b 44) cd_27).trans dX3_readHouse_44
theorem e27_47 : decode (ma_cd 27) 47 = .ok (.if_icmp .lt 8, 3) := (congrArg (fun b => decode b 47) cd_27).trans dX3_readHouse_47
theorem e27_50 : decode (ma_cd 27) 50 = .ok (.aload_n 0, 1) := (congrArg (fun b => decode b 50) cd_27).trans dX3_readHouse_50
theorem e27_51 : decode (ma_cd 27) 51 = .ok (.getfield 28, 3) := (congrArg (fun b => decode b 51) cd_27).trans dX3_readHouse_51
theorem e27_54 : decode (ma_cd 27) 54 = .ok (.ireturn, 1) := (congrArg (fun b => decode b 54) cd_27).trans dX3_readHouse_54
theorem e27_55 : decode (ma_cd 27) 55 = .ok (.aload_n 0, 1) := (congrArg (fun b => decode b 55) cd_27).trans dX3_readHouse_55
theorem e27_56 : decode (ma_cd 27) 56 = .ok (.invokevirtual 39, 3) := (congrArg (fun b => decode b 56) cd_27).trans dX3_readHouse_56
theorem e27_59 : decode (ma_cd 27) 59 = .ok (.bipush 59, 2) := (congrArg (fun b => decode b 59) cd_27).trans dX3_readHouse_59
theorem e27_61 : decode (ma_cd 27) 61 = .ok (.if_icmp .ne 9, 3) := (congrArg (fun b => decode b 61) cd_27).trans dX3_readHouse_61
theorem e27_64 : decode (ma_cd 27) 64 = .ok (.iload_n 1, 1) := (congrArg (fun b => decode b 64) cd_27).trans dX3_readHouse_64
theorem e27_65 : decode (ma_cd 27) 65 = .ok (.bipush 10, 2) := (congrArg (fun b => decode b 65) cd_27).trans dX3_readHouse_65
theorem e27_67 : decode (ma_cd 27) 67 = .ok (.if_icmp .ne 8, 3) := (congrArg (fun b => decode b 67) cd_27).trans dX3_readHouse_67
theorem e27_70 : decode (ma_cd 27) 70 = .ok (.aload_n 0, 1) := (congrArg (fun b => decode b 70) cd_27).trans dX3_readHouse_70
theorem e27_71 : decode (ma_cd 27) 71 = .ok (.getfield 24, 3) := (congrArg (fun b => decode b 71) cd_27).trans dX3_readHouse_71
theorem e27_74 : decode (ma_cd 27) 74 = .ok (.ireturn, 1) := (congrArg (fun b => decode b 74) cd_27).trans dX3_readHouse_74
theorem e27_75 : decode (ma_cd 27) 75 = .ok (.aload_n 0, 1) := (congrArg (fun b => decode b 75) cd_27).trans dX3_readHouse_75
theorem e27_76 : decode (ma_cd 27) 76 = .ok (.dup, 1) := (congrArg (fun b => decode b 76) cd_27).trans dX3_readHouse_76
theorem e27_77 : decode (ma_cd 27) 77 = .ok (.getfield 24, 3) := (congrArg (fun b => decode b 77) cd_27).trans dX3_readHouse_77
theorem e27_80 : decode (ma_cd 27) 80 = .ok (.iconst 1, 1) := (congrArg (fun b => decode b 80) cd_27).trans dX3_readHouse_80
theorem e27_81 : decode (ma_cd 27) 81 = .ok (.iadd, 1) := (congrArg (fun b => decode b 81) cd_27).trans dX3_readHouse_81
theorem e27_82 : decode (ma_cd 27) 82 = .ok (.putfield 24, 3) := (congrArg (fun b => decode b 82) cd_27).trans dX3_readHouse_82
theorem e27_85 : decode (ma_cd 27) 85 = .ok (.iinc 1 1, 3) := (congrArg (fun b => decode b 85) cd_27).trans dX3_readHouse_85
theorem e27_88 : decode (ma_cd 27) 88 = .ok (.goto (-69), 3) := (congrArg (fun b => decode b 88) cd_27).trans dX3_readHouse_88
theorem e27_91 : decode (ma_cd 27) 91 = .ok (.aload_n 0, 1) := (congrArg (fun b => decode b 91) cd_27).trans dX3_readHouse_91
theorem e27_92 : decode (ma_cd 27) 92 = .ok (.getfield 28, 3) := (congrArg (fun b => decode b 92) cd_27).trans dX3_readHouse_92
theorem e27_95 : decode (ma_cd 27) 95 = .ok (.ireturn, 1) := (congrArg (fun b => decode b 95) cd_27).trans dX3_readHouse_95
theorem Sh27_19 {ro : ma_RO} {d : Nat} : (∀ (v0 : Option Value) (x1 : Int32) (st : List Value) (σ : ma_H), ma_rn ro d 27 (19, [v0, some (.int x1)], st, SH, σ) = ma_rn ro d 27 (20, [v0, some (.int x1)], .int x1 :: st, SH, σ)) := fun v0 x1 st σ => q_go e27_19 rfl rfl
theorem S27 {ro : ma_RO} {d : Nat} : (∀ (v1 : Option Value) (a1 : Nat) (st : List Value) (σ : ma_H), ma_rn ro d 27 (0, [some (.ref a1), v1], st, SH, σ) = ma_rn ro d 27 (1, [some (.ref a1), v1], .ref a1 :: st, SH, σ)) ∧
  (∀ (v0 : Option Value) (v1 : Option Value) (a1 : Nat) (st : List Value) (σ : ma_H) (hc : hk_cls a1 = 3), ma_rn ro d 27 (1, [v0, v1], .ref a1 :: st, SH, σ) = ma_rn ro d 27 (4, [v0, v1], .ref (65) :: st, SH, σ)) ∧
  (∀ (v0 : Option Value) (v1 : Option Value) (a0 : Nat) (σ : ma_H) (hc : hk_cls a0 = 2), ma_rn ro (d + 1) 27 (4, [v0, v1], .ref a0 :: [], SH, σ) = (ma_ev ro d 17 [.ref a0] SH σ).bind (fun q => ma_rn ro (d + 1) 27 (7, [v0, v1], (q.1.toList ++ []), q.2.1, q.2.2))) ∧
  (∀ (v1 : Option Value) (a1 : Nat) (st : List Value) (σ : ma_H), ma_rn ro d 27 (7, [some (.ref a1), v1], st, SH, σ) = ma_rn ro d 27 (8, [some (.ref a1), v1], .ref a1 :: st, SH, σ)) ∧
  (∀ (v0 : Option Value) (v1 : Option Value) (st : List Value) (σ : ma_H), ma_rn ro d 27 (8, [v0, v1], st, SH, σ) = ma_rn ro d 27 (9, [v0, v1], .int (nI 0) :: st, SH, σ)) ∧
  (∀ (v0 : Option Value) (v1 : Option Value) (x1 : Int32) (a2 : Nat) (st : List Value) (σ : ma_H) (hc : hk_cls a2 = 3), ma_rn ro d 27 (9, [v0, v1], .int x1 :: .ref a2 :: st, SH, σ) = ma_rn ro d 27 (12, [v0, v1], st, SH, (ma_up σ a2 2 x1))) ∧
  (∀ (v1 : Option Value) (a1 : Nat) (st : List Value) (σ : ma_H), ma_rn ro d 27 (12, [some (.ref a1), v1], st, SH, σ) = ma_rn ro d 27 (13, [some (.ref a1), v1], .ref a1 :: st, SH, σ)) ∧
  (∀ (v0 : Option Value) (v1 : Option Value) (st : List Value) (σ : ma_H), ma_rn ro d 27 (13, [v0, v1], st, SH, σ) = ma_rn ro d 27 (14, [v0, v1], .int ((-1)) :: st, SH, σ)) ∧
  (∀ (v0 : Option Value) (v1 : Option Value) (x1 : Int32) (a2 : Nat) (st : List Value) (σ : ma_H) (hc : hk_cls a2 = 3), ma_rn ro d 27 (14, [v0, v1], .int x1 :: .ref a2 :: st, SH, σ) = ma_rn ro d 27 (17, [v0, v1], st, SH, (ma_up σ a2 3 x1))) ∧
  (∀ (v0 : Option Value) (v1 : Option Value) (st : List Value) (σ : ma_H), ma_rn ro d 27 (17, [v0, v1], st, SH, σ) = ma_rn ro d 27 (18, [v0, v1], .int (nI 1) :: st, SH, σ)) ∧
  (∀ (v1 : Option Value) (a9 : Nat) (x1 : Int32) (st : List Value) (σ : ma_H), ma_rn ro d 27 (18, [some (.ref a9), v1], .int x1 :: st, SH, σ) = ma_rn ro d 27 (19, [some (.ref a9), some (.int x1)], st, SH, σ)) ∧
  (∀ (v0 : Option Value) (v1 : Option Value) (st : List Value) (σ : ma_H), ma_rn ro d 27 (20, [v0, v1], st, SH, σ) = ma_rn ro d 27 (22, [v0, v1], .int (nI 10) :: st, SH, σ)) ∧
  (∀ (v0 : Option Value) (v1 : Option Value) (x1 : Int32) (x2 : Int32) (st : List Value) (σ : ma_H), ma_rn ro d 27 (22, [v0, v1], .int x1 :: .int x2 :: st, SH, σ) = if x1 < x2 then ma_rn ro d 27 (91, [v0, v1], st, SH, σ) else ma_rn ro d 27 (25, [v0, v1], st, SH, σ)) ∧
  (∀ (v1 : Option Value) (a1 : Nat) (st : List Value) (σ : ma_H), ma_rn ro d 27 (25, [some (.ref a1), v1], st, SH, σ) = ma_rn ro d 27 (26, [some (.ref a1), v1], .ref a1 :: st, SH, σ)) ∧
  (∀ (v0 : Option Value) (v1 : Option Value) (a0 : Nat) (σ : ma_H) (hc : hk_cls a0 = 3), ma_rn ro (d + 1) 27 (26, [v0, v1], .ref a0 :: [], SH, σ) = (ma_ev ro d 28 [.ref a0] SH σ).bind (fun q => ma_rn ro (d + 1) 27 (29, [v0, v1], (q.1.toList ++ []), q.2.1, q.2.2))) ∧
  (∀ (v1 : Option Value) (a1 : Nat) (st : List Value) (σ : ma_H), ma_rn ro d 27 (29, [some (.ref a1), v1], st, SH, σ) = ma_rn ro d 27 (30, [some (.ref a1), v1], .ref a1 :: st, SH, σ)) ∧
  (∀ (v0 : Option Value) (v1 : Option Value) (a1 : Nat) (st : List Value) (σ : ma_H) (hc : hk_cls a1 = 3), ma_rn ro d 27 (30, [v0, v1], .ref a1 :: st, SH, σ) = ma_rn ro d 27 (33, [v0, v1], .int (σ a1 3) :: st, SH, σ)) ∧
  (∀ (v0 : Option Value) (v1 : Option Value) (x1 : Int32) (st : List Value) (σ : ma_H), ma_rn ro d 27 (33, [v0, v1], .int x1 :: st, SH, σ) = if x1 < nI 0 then ma_rn ro d 27 (36, [v0, v1], st, SH, σ) else ma_rn ro d 27 (50, [v0, v1], st, SH, σ)) ∧
  (∀ (v1 : Option Value) (a1 : Nat) (st : List Value) (σ : ma_H), ma_rn ro d 27 (36, [some (.ref a1), v1], st, SH, σ) = ma_rn ro d 27 (37, [some (.ref a1), v1], .ref a1 :: st, SH, σ)) ∧
  (∀ (v0 : Option Value) (v1 : Option Value) (a1 : Nat) (st : List Value) (σ : ma_H) (hc : hk_cls a1 = 3), ma_rn ro d 27 (37, [v0, v1], .ref a1 :: st, SH, σ) = ma_rn ro d 27 (40, [v0, v1], .int (σ a1 2) :: st, SH, σ)) ∧
  (∀ (v1 : Option Value) (a1 : Nat) (st : List Value) (σ : ma_H), ma_rn ro d 27 (40, [some (.ref a1), v1], st, SH, σ) = ma_rn ro d 27 (41, [some (.ref a1), v1], .ref a1 :: st, SH, σ)) ∧
  (∀ (v0 : Option Value) (v1 : Option Value) (a1 : Nat) (st : List Value) (σ : ma_H) (hc : hk_cls a1 = 3), ma_rn ro d 27 (41, [v0, v1], .ref a1 :: st, SH, σ) = ma_rn ro d 27 (44, [v0, v1], .ref (1) :: st, SH, σ)) ∧
  (∀ (v0 : Option Value) (v1 : Option Value) (a1 : Nat) (st : List Value) (σ : ma_H) (hc : hk_cls a1 = 5), ma_rn ro d 27 (44, [v0, v1], .ref a1 :: st, SH, σ) = ma_rn ro d 27 (47, [v0, v1], .int (σ a1 4) :: st, SH, σ)) ∧
  (∀ (v0 : Option Value) (v1 : Option Value) (x1 : Int32) (x2 : Int32) (st : List Value) (σ : ma_H), ma_rn ro d 27 (47, [v0, v1], .int x1 :: .int x2 :: st, SH, σ) = if x2 < x1 then ma_rn ro d 27 (55, [v0, v1], st, SH, σ) else ma_rn ro d 27 (50, [v0, v1], st, SH, σ)) ∧
  (∀ (v1 : Option Value) (a1 : Nat) (st : List Value) (σ : ma_H), ma_rn ro d 27 (50, [some (.ref a1), v1], st, SH, σ) = ma_rn ro d 27 (51, [some (.ref a1), v1], .ref a1 :: st, SH, σ)) ∧
  (∀ (v0 : Option Value) (v1 : Option Value) (a1 : Nat) (st : List Value) (σ : ma_H) (hc : hk_cls a1 = 3), ma_rn ro d 27 (51, [v0, v1], .ref a1 :: st, SH, σ) = ma_rn ro d 27 (54, [v0, v1], .int (σ a1 3) :: st, SH, σ)) ∧
  (∀ (v0 : Option Value) (v1 : Option Value) (x1 : Int32) (σ : ma_H), ma_rn ro d 27 (54, [v0, v1], [.int x1], SH, σ) = some (some (.int x1), SH, σ)) ∧
  (∀ (v1 : Option Value) (a1 : Nat) (st : List Value) (σ : ma_H), ma_rn ro d 27 (55, [some (.ref a1), v1], st, SH, σ) = ma_rn ro d 27 (56, [some (.ref a1), v1], .ref a1 :: st, SH, σ)) ∧
  (∀ (v0 : Option Value) (v1 : Option Value) (a0 : Nat) (σ : ma_H) (hc : hk_cls a0 = 3), ma_rn ro (d + 1) 27 (56, [v0, v1], .ref a0 :: [], SH, σ) = (ma_ev ro d 36 [.ref a0] SH σ).bind (fun q => ma_rn ro (d + 1) 27 (59, [v0, v1], (q.1.toList ++ []), q.2.1, q.2.2))) ∧
  (∀ (v0 : Option Value) (v1 : Option Value) (st : List Value) (σ : ma_H), ma_rn ro d 27 (59, [v0, v1], st, SH, σ) = ma_rn ro d 27 (61, [v0, v1], .int (nI 59) :: st, SH, σ)) ∧
  (∀ (v0 : Option Value) (v1 : Option Value) (x1 : Int32) (x2 : Int32) (st : List Value) (σ : ma_H), ma_rn ro d 27 (61, [v0, v1], .int x1 :: .int x2 :: st, SH, σ) = if x2 = x1 then ma_rn ro d 27 (64, [v0, v1], st, SH, σ) else ma_rn ro d 27 (70, [v0, v1], st, SH, σ)) ∧
  (∀ (v0 : Option Value) (x1 : Int32) (st : List Value) (σ : ma_H), ma_rn ro d 27 (64, [v0, some (.int x1)], st, SH, σ) = ma_rn ro d 27 (65, [v0, some (.int x1)], .int x1 :: st, SH, σ)) ∧
  (∀ (v0 : Option Value) (v1 : Option Value) (st : List Value) (σ : ma_H), ma_rn ro d 27 (65, [v0, v1], st, SH, σ) = ma_rn ro d 27 (67, [v0, v1], .int (nI 10) :: st, SH, σ)) ∧
  (∀ (v0 : Option Value) (v1 : Option Value) (x1 : Int32) (x2 : Int32) (st : List Value) (σ : ma_H), ma_rn ro d 27 (67, [v0, v1], .int x1 :: .int x2 :: st, SH, σ) = if x2 = x1 then ma_rn ro d 27 (70, [v0, v1], st, SH, σ) else ma_rn ro d 27 (75, [v0, v1], st, SH, σ)) ∧
  (∀ (v1 : Option Value) (a1 : Nat) (st : List Value) (σ : ma_H), ma_rn ro d 27 (70, [some (.ref a1), v1], st, SH, σ) = ma_rn ro d 27 (71, [some (.ref a1), v1], .ref a1 :: st, SH, σ)) ∧
  (∀ (v0 : Option Value) (v1 : Option Value) (a1 : Nat) (st : List Value) (σ : ma_H) (hc : hk_cls a1 = 3), ma_rn ro d 27 (71, [v0, v1], .ref a1 :: st, SH, σ) = ma_rn ro d 27 (74, [v0, v1], .int (σ a1 2) :: st, SH, σ)) ∧
  (∀ (v0 : Option Value) (v1 : Option Value) (x1 : Int32) (σ : ma_H), ma_rn ro d 27 (74, [v0, v1], [.int x1], SH, σ) = some (some (.int x1), SH, σ)) ∧
  (∀ (v1 : Option Value) (a1 : Nat) (st : List Value) (σ : ma_H), ma_rn ro d 27 (75, [some (.ref a1), v1], st, SH, σ) = ma_rn ro d 27 (76, [some (.ref a1), v1], .ref a1 :: st, SH, σ)) ∧
  (∀ (v0 : Option Value) (v1 : Option Value) (a1 : Nat) (st : List Value) (σ : ma_H), ma_rn ro d 27 (76, [v0, v1], .ref a1 :: st, SH, σ) = ma_rn ro d 27 (77, [v0, v1], .ref a1 :: .ref a1 :: st, SH, σ)) ∧
  (∀ (v0 : Option Value) (v1 : Option Value) (a1 : Nat) (st : List Value) (σ : ma_H) (hc : hk_cls a1 = 3), ma_rn ro d 27 (77, [v0, v1], .ref a1 :: st, SH, σ) = ma_rn ro d 27 (80, [v0, v1], .int (σ a1 2) :: st, SH, σ)) ∧
  (∀ (v0 : Option Value) (v1 : Option Value) (st : List Value) (σ : ma_H), ma_rn ro d 27 (80, [v0, v1], st, SH, σ) = ma_rn ro d 27 (81, [v0, v1], .int (nI 1) :: st, SH, σ)) ∧
  (∀ (v0 : Option Value) (v1 : Option Value) (x1 : Int32) (x2 : Int32) (st : List Value) (σ : ma_H), ma_rn ro d 27 (81, [v0, v1], .int x1 :: .int x2 :: st, SH, σ) = ma_rn ro d 27 (82, [v0, v1], .int (x2 + x1) :: st, SH, σ)) ∧
  (∀ (v0 : Option Value) (v1 : Option Value) (x1 : Int32) (a2 : Nat) (st : List Value) (σ : ma_H) (hc : hk_cls a2 = 3), ma_rn ro d 27 (82, [v0, v1], .int x1 :: .ref a2 :: st, SH, σ) = ma_rn ro d 27 (85, [v0, v1], st, SH, (ma_up σ a2 2 x1))) ∧
  (∀ (x1 : Int32) (a9 : Nat) (st : List Value) (σ : ma_H), ma_rn ro d 27 (85, [some (.ref a9), some (.int x1)], st, SH, σ) = ma_rn ro d 27 (88, [some (.ref a9), some (.int (x1 + nI 1))], st, SH, σ)) ∧
  (∀ (v0 : Option Value) (v1 : Option Value) (st : List Value) (σ : ma_H), ma_rn ro d 27 (88, [v0, v1], st, SH, σ) = ma_rn ro d 27 (19, [v0, v1], st, SH, σ)) ∧
  (∀ (v1 : Option Value) (a1 : Nat) (st : List Value) (σ : ma_H), ma_rn ro d 27 (91, [some (.ref a1), v1], st, SH, σ) = ma_rn ro d 27 (92, [some (.ref a1), v1], .ref a1 :: st, SH, σ)) ∧
  (∀ (v0 : Option Value) (v1 : Option Value) (a1 : Nat) (st : List Value) (σ : ma_H) (hc : hk_cls a1 = 3), ma_rn ro d 27 (92, [v0, v1], .ref a1 :: st, SH, σ) = ma_rn ro d 27 (95, [v0, v1], .int (σ a1 3) :: st, SH, σ)) ∧
  (∀ (v0 : Option Value) (v1 : Option Value) (x1 : Int32) (σ : ma_H), ma_rn ro d 27 (95, [v0, v1], [.int x1], SH, σ) = some (some (.int x1), SH, σ)) := ⟨fun v1 a1 st σ => q_go e27_0 rfl rfl,
  fun v0 v1 a1 st σ hc => q_getA e27_1 o_27 f_3_15 (by decide) hc,
  fun v0 v1 a0 σ hc => q_invV (as := []) (rest := []) e27_4 o_27 bn_3_19 c_3_19 m_17 (by decide) rfl rfl (Nat.le_of_ble_eq_true rfl) (Nat.le_of_ble_eq_true rfl) hc,
  fun v1 a1 st σ => q_go e27_7 rfl rfl,
  fun v0 v1 st σ => q_iconst e27_8 (by decide),
  fun v0 v1 x1 a2 st σ hc => q_putI e27_9 o_27 f_3_24 (by decide) rfl hc,
  fun v1 a1 st σ => q_go e27_12 rfl rfl,
  fun v0 v1 st σ => q_iconst e27_13 (by decide),
  fun v0 v1 x1 a2 st σ hc => q_putI e27_14 o_27 f_3_28 (by decide) rfl hc,
  fun v0 v1 st σ => q_iconst e27_17 (by decide),
  fun v1 a9 x1 st σ => q_go e27_18 rfl rfl,
  fun v0 v1 st σ => q_bipush e27_20 (by decide),
  fun v0 v1 x1 x2 st σ => (q_cmp e27_22 rfl).trans q_gt,
  fun v1 a1 st σ => q_go e27_25 rfl rfl,
  fun v0 v1 a0 σ hc => q_invV (as := []) (rest := []) e27_26 o_27 bn_3_31 c_3_31 m_28 (by decide) rfl rfl (Nat.le_of_ble_eq_true rfl) (Nat.le_of_ble_eq_true rfl) hc,
  fun v1 a1 st σ => q_go e27_29 rfl rfl,
  fun v0 v1 a1 st σ hc => q_getI e27_30 o_27 f_3_28 (by decide) hc,
  fun v0 v1 x1 st σ => (q_if e27_33 rfl).trans q_nlt,
  fun v1 a1 st σ => q_go e27_36 rfl rfl,
  fun v0 v1 a1 st σ hc => q_getI e27_37 o_27 f_3_24 (by decide) hc,
  fun v1 a1 st σ => q_go e27_40 rfl rfl,
  fun v0 v1 a1 st σ hc => q_getA e27_41 o_27 f_3_9 (by decide) hc,
  fun v0 v1 a1 st σ hc => q_getI e27_44 o_27 f_3_34 (by decide) hc,
  fun v0 v1 x1 x2 st σ => (q_cmp e27_47 rfl).trans q_lt,
  fun v1 a1 st σ => q_go e27_50 rfl rfl,
  fun v0 v1 a1 st σ hc => q_getI e27_51 o_27 f_3_28 (by decide) hc,
  fun v0 v1 x1 σ => q_iret e27_54 r_27,
  fun v1 a1 st σ => q_go e27_55 rfl rfl,
  fun v0 v1 a0 σ hc => q_invV (as := []) (rest := []) e27_56 o_27 bn_3_39 c_3_39 m_36 (by decide) rfl rfl (Nat.le_of_ble_eq_true rfl) (Nat.le_of_ble_eq_true rfl) hc,
  fun v0 v1 st σ => q_bipush e27_59 (by decide),
  fun v0 v1 x1 x2 st σ => (q_cmp e27_61 rfl).trans q_ne,
  fun v0 x1 st σ => q_go e27_64 rfl rfl,
  fun v0 v1 st σ => q_bipush e27_65 (by decide),
  fun v0 v1 x1 x2 st σ => (q_cmp e27_67 rfl).trans q_ne,
  fun v1 a1 st σ => q_go e27_70 rfl rfl,
  fun v0 v1 a1 st σ hc => q_getI e27_71 o_27 f_3_24 (by decide) hc,
  fun v0 v1 x1 σ => q_iret e27_74 r_27,
  fun v1 a1 st σ => q_go e27_75 rfl rfl,
  fun v0 v1 a1 st σ => q_go e27_76 rfl rfl,
  fun v0 v1 a1 st σ hc => q_getI e27_77 o_27 f_3_24 (by decide) hc,
  fun v0 v1 st σ => q_iconst e27_80 (by decide),
  fun v0 v1 x1 x2 st σ => q_go e27_81 rfl rfl,
  fun v0 v1 x1 a2 st σ hc => q_putI e27_82 o_27 f_3_24 (by decide) rfl hc,
  fun x1 a9 st σ => q_iinc e27_85 rfl rfl (by decide),
  fun v0 v1 st σ => q_goto e27_88 rfl,
  fun v1 a1 st σ => q_go e27_91 rfl rfl,
  fun v0 v1 a1 st σ hc => q_getI e27_92 o_27 f_3_28 (by decide) hc,
  fun v0 v1 x1 σ => q_iret e27_95 r_27⟩
theorem E27 {ro : ma_RO} {d : Nat} (a0 : Nat) (sh : List ma_Sh) (σ : ma_H) : ma_ev ro d 27 [.ref a0] sh σ = ma_rn ro d 27 (0, [some (.ref a0), none], [], sh, σ) := q_ent x_27 rfl
theorem e28_0 : decode (ma_cd 28) 0 = .ok (.aload_n 0, 1) := (congrArg (fun b => decode b 0) cd_28).trans dX3_readClause_0
theorem e28_1 : decode (ma_cd 28) 1 = .ok (.invokevirtual 43, 3) := (congrArg (fun b => decode b 1) cd_28).trans dX3_readClause_1
theorem e28_4 : decode (ma_cd 28) 4 = .ok (.istore_n 1, 1) := (congrArg (fun b => decode b 4) cd_28).trans dX3_readClause_4
theorem e28_5 : decode (ma_cd 28) 5 = .ok (.aload_n 0, 1) := (congrArg (fun b => decode b 5) cd_28).trans dX3_readClause_5
theorem e28_6 : decode (ma_cd 28) 6 = .ok (.iload_n 1, 1) := (congrArg (fun b => decode b 6) cd_28).trans dX3_readClause_6
theorem e28_7 : decode (ma_cd 28) 7 = .ok (.ifCond .ne 8, 3) := (congrArg (fun b => decode b 7) cd_28).trans dX3_readClause_7
theorem e28_10 : decode (ma_cd 28) 10 = .ok (.ldc 46, 2) := (congrArg (fun b => decode b 10) cd_28).trans dX3_readClause_10
theorem e28_12 : decode (ma_cd 28) 12 = .ok (.goto 15, 3) := (congrArg (fun b => decode b 12) cd_28).trans dX3_readClause_12
theorem e28_15 : decode (ma_cd 28) 15 = .ok (.iload_n 1, 1) := (congrArg (fun b => decode b 15) cd_28).trans dX3_readClause_15
theorem e28_16 : decode (ma_cd 28) 16 = .ok (.iconst 1, 1) := (congrArg (fun b => decode b 16) cd_28).trans dX3_readClause_16
theorem e28_17 : decode (ma_cd 28) 17 = .ok (.if_icmp .ne 8, 3) := (congrArg (fun b => decode b 17) cd_28).trans dX3_readClause_17
theorem e28_20 : decode (ma_cd 28) 20 = .ok (.ldc 48, 2) := (congrArg (fun b => decode b 20) cd_28).trans dX3_readClause_20
theorem e28_22 : decode (ma_cd 28) 22 = .ok (.goto 5, 3) := (congrArg (fun b => decode b 22) cd_28).trans dX3_readClause_22
theorem e28_25 : decode (ma_cd 28) 25 = .ok (.ldc 50, 2) := (congrArg (fun b => decode b 25) cd_28).trans dX3_readClause_25
theorem e28_27 : decode (ma_cd 28) 27 = .ok (.invokevirtual 52, 3) := (congrArg (fun b => decode b 27) cd_28).trans dX3_readClause_27
theorem e28_30 : decode (ma_cd 28) 30 = .ok (.aload_n 0, 1) := (congrArg (fun b => decode b 30) cd_28).trans dX3_readClause_30
theorem e28_31 : decode (ma_cd 28) 31 = .ok (.invokevirtual 56, 3) := (congrArg (fun b => decode b 31) cd_28).trans dX3_readClause_31
theorem e28_34 : decode (ma_cd 28) 34 = .ok (.istore_n 2, 1) := (congrArg (fun b => decode b 34) cd_28).trans dX3_readClause_34
theorem e28_35 : decode (ma_cd 28) 35 = .ok (.iload_n 1, 1) := (congrArg (fun b => decode b 35) cd_28).trans dX3_readClause_35
theorem e28_36 : decode (ma_cd 28) 36 = .ok (.ifCond .ne 12, 3) := (congrArg (fun b => decode b 36) cd_28).trans dX3_readClause_36
theorem e28_39 : decode (ma_cd 28) 39 = .ok (.aload_n 0, 1) := (congrArg (fun b => decode b 39) cd_28).trans dX3_readClause_39
theorem e28_40 : decode (ma_cd 28) 40 = .ok (.getfield 15, 3) := (congrArg (fun b => decode b 40) cd_28).trans dX3_readClause_40
theorem e28_43 : decode (ma_cd 28) 43 = .ok (.iload_n 2, 1) := (congrArg (fun b => decode b 43) cd_28).trans dX3_readClause_43
theorem e28_44 : decode (ma_cd 28) 44 = .ok (.putfield 59, 3) := (congrArg (fun b => decode b 44) cd_28).trans dX3_readClause_44
theorem e28_47 : decode (ma_cd 28) 47 = .ok (.return_, 1) := (congrArg (fun b => decode b 47) cd_28).trans dX3_readClause_47
theorem e28_48 : decode (ma_cd 28) 48 = .ok (.aload_n 0, 1) := (congrArg (fun b => decode b 48) cd_28).trans dX3_readClause_48
theorem e28_49 : decode (ma_cd 28) 49 = .ok (.ldc 62, 2) := (congrArg (fun b => decode b 49) cd_28).trans dX3_readClause_49
theorem e28_51 : decode (ma_cd 28) 51 = .ok (.invokevirtual 52, 3) := (congrArg (fun b => decode b 51) cd_28).trans dX3_readClause_51
theorem e28_54 : decode (ma_cd 28) 54 = .ok (.aload_n 0, 1) := (congrArg (fun b => decode b 54) cd_28).trans dX3_readClause_54
theorem e28_55 : decode (ma_cd 28) 55 = .ok (.getfield 28, 3) := (congrArg (fun b => decode b 55) cd_28).trans dX3_readClause_55
theorem e28_58 : decode (ma_cd 28) 58 = .ok (.ifCond .ge 8, 3) := (congrArg (fun b => decode b 58) cd_28).trans dX3_readClause_58
theorem e28_61 : decode (ma_cd 28) 61 = .ok (.aload_n 0, 1) := (congrArg (fun b => decode b 61) cd_28).trans dX3_readClause_61
theorem e28_62 : decode (ma_cd 28) 62 = .ok (.iconst 0, 1) := (congrArg (fun b => decode b 62) cd_28).trans dX3_readClause_62
theorem e28_63 : decode (ma_cd 28) 63 = .ok (.invokevirtual 64, 3) := (congrArg (fun b => decode b 63) cd_28).trans dX3_readClause_63
theorem e28_66 : decode (ma_cd 28) 66 = .ok (.aload_n 0, 1) := (congrArg (fun b => decode b 66) cd_28).trans dX3_readClause_66
theorem e28_67 : decode (ma_cd 28) 67 = .ok (.getfield 15, 3) := (congrArg (fun b => decode b 67) cd_28).trans dX3_readClause_67
theorem e28_70 : decode (ma_cd 28) 70 = .ok (.iload_n 1, 1) := (congrArg (fun b => decode b 70) cd_28).trans dX3_readClause_70
theorem e28_71 : decode (ma_cd 28) 71 = .ok (.iconst 1, 1) := (congrArg (fun b => decode b 71) cd_28).trans dX3_readClause_71
theorem e28_72 : decode (ma_cd 28) 72 = .ok (.if_icmp .ne 7, 3) := (congrArg (fun b => decode b 72) cd_28).trans dX3_readClause_72
theorem e28_75 : decode (ma_cd 28) 75 = .ok (.iload_n 2, 1) := (congrArg (fun b => decode b 75) cd_28).trans dX3_readClause_75
theorem e28_76 : decode (ma_cd 28) 76 = .ok (.goto 5, 3) := (congrArg (fun b => decode b 76) cd_28).trans dX3_readClause_76
theorem e28_79 : decode (ma_cd 28) 79 = .ok (.iload_n 2, 1) := (congrArg (fun b => decode b 79) cd_28).trans dX3_readClause_79
theorem e28_80 : decode (ma_cd 28) 80 = .ok (.ineg, 1) := (congrArg (fun b => decode b 80) cd_28).trans dX3_readClause_80
theorem e28_81 : decode (ma_cd 28) 81 = .ok (.invokevirtual 68, 3) := (congrArg (fun b => decode b 81) cd_28).trans dX3_readClause_81
theorem e28_84 : decode (ma_cd 28) 84 = .ok (.return_, 1) := (congrArg (fun b => decode b 84) cd_28).trans dX3_readClause_84
theorem S28 {ro : ma_RO} {d : Nat} : (∀ (v1 : Option Value) (v2 : Option Value) (a1 : Nat) (st : List Value) (σ : ma_H), ma_rn ro d 28 (0, [some (.ref a1), v1, v2], st, SH, σ) = ma_rn ro d 28 (1, [some (.ref a1), v1, v2], .ref a1 :: st, SH, σ)) ∧
  (∀ (v0 : Option Value) (v1 : Option Value) (v2 : Option Value) (a0 : Nat) (σ : ma_H) (hc : hk_cls a0 = 3), ma_rn ro (d + 1) 28 (1, [v0, v1, v2], .ref a0 :: [], SH, σ) = (ma_ev ro d 29 [.ref a0] SH σ).bind (fun q => ma_rn ro (d + 1) 28 (4, [v0, v1, v2], (q.1.toList ++ []), q.2.1, q.2.2))) ∧
  (∀ (v1 : Option Value) (v2 : Option Value) (a9 : Nat) (x1 : Int32) (st : List Value) (σ : ma_H), ma_rn ro d 28 (4, [some (.ref a9), v1, v2], .int x1 :: st, SH, σ) = ma_rn ro d 28 (5, [some (.ref a9), some (.int x1), v2], st, SH, σ)) ∧
  (∀ (v1 : Option Value) (v2 : Option Value) (a1 : Nat) (st : List Value) (σ : ma_H), ma_rn ro d 28 (5, [some (.ref a1), v1, v2], st, SH, σ) = ma_rn ro d 28 (6, [some (.ref a1), v1, v2], .ref a1 :: st, SH, σ)) ∧
  (∀ (v0 : Option Value) (v2 : Option Value) (x1 : Int32) (st : List Value) (σ : ma_H), ma_rn ro d 28 (6, [v0, some (.int x1), v2], st, SH, σ) = ma_rn ro d 28 (7, [v0, some (.int x1), v2], .int x1 :: st, SH, σ)) ∧
  (∀ (v0 : Option Value) (v1 : Option Value) (v2 : Option Value) (x1 : Int32) (st : List Value) (σ : ma_H), ma_rn ro d 28 (7, [v0, v1, v2], .int x1 :: st, SH, σ) = if x1 = nI 0 then ma_rn ro d 28 (10, [v0, v1, v2], st, SH, σ) else ma_rn ro d 28 (15, [v0, v1, v2], st, SH, σ)) ∧
  (∀ (v0 : Option Value) (v1 : Option Value) (v2 : Option Value) (st : List Value) (σ : ma_H), ma_rn ro d 28 (10, [v0, v1, v2], st, SH, σ) = ma_rn ro d 28 (12, [v0, v1, v2], .ref (1000000 + 0) :: st, SH, σ)) ∧
  (∀ (v0 : Option Value) (v1 : Option Value) (v2 : Option Value) (st : List Value) (σ : ma_H), ma_rn ro d 28 (12, [v0, v1, v2], st, SH, σ) = ma_rn ro d 28 (27, [v0, v1, v2], st, SH, σ)) ∧
  (∀ (v0 : Option Value) (v2 : Option Value) (x1 : Int32) (st : List Value) (σ : ma_H), ma_rn ro d 28 (15, [v0, some (.int x1), v2], st, SH, σ) = ma_rn ro d 28 (16, [v0, some (.int x1), v2], .int x1 :: st, SH, σ)) ∧
  (∀ (v0 : Option Value) (v1 : Option Value) (v2 : Option Value) (st : List Value) (σ : ma_H), ma_rn ro d 28 (16, [v0, v1, v2], st, SH, σ) = ma_rn ro d 28 (17, [v0, v1, v2], .int (nI 1) :: st, SH, σ)) ∧
  (∀ (v0 : Option Value) (v1 : Option Value) (v2 : Option Value) (x1 : Int32) (x2 : Int32) (st : List Value) (σ : ma_H), ma_rn ro d 28 (17, [v0, v1, v2], .int x1 :: .int x2 :: st, SH, σ) = if x2 = x1 then ma_rn ro d 28 (20, [v0, v1, v2], st, SH, σ) else ma_rn ro d 28 (25, [v0, v1, v2], st, SH, σ)) ∧
  (∀ (v0 : Option Value) (v1 : Option Value) (v2 : Option Value) (st : List Value) (σ : ma_H), ma_rn ro d 28 (20, [v0, v1, v2], st, SH, σ) = ma_rn ro d 28 (22, [v0, v1, v2], .ref (1000000 + 1) :: st, SH, σ)) ∧
  (∀ (v0 : Option Value) (v1 : Option Value) (v2 : Option Value) (st : List Value) (σ : ma_H), ma_rn ro d 28 (22, [v0, v1, v2], st, SH, σ) = ma_rn ro d 28 (27, [v0, v1, v2], st, SH, σ)) ∧
  (∀ (v0 : Option Value) (v1 : Option Value) (v2 : Option Value) (st : List Value) (σ : ma_H), ma_rn ro d 28 (25, [v0, v1, v2], st, SH, σ) = ma_rn ro d 28 (27, [v0, v1, v2], .ref (1000000 + 2) :: st, SH, σ)) ∧
  (∀ (v0 : Option Value) (v1 : Option Value) (v2 : Option Value) (a1 : Nat) (a0 : Nat) (σ : ma_H) (hc : hk_cls a0 = 3), ma_rn ro (d + 1) 28 (27, [v0, v1, v2], .ref a1 :: .ref a0 :: [], SH, σ) = (ma_ev ro d 35 [.ref a0, .ref a1] SH σ).bind (fun q => ma_rn ro (d + 1) 28 (30, [v0, v1, v2], (q.1.toList ++ []), q.2.1, q.2.2))) ∧
  (∀ (v1 : Option Value) (v2 : Option Value) (a1 : Nat) (st : List Value) (σ : ma_H), ma_rn ro d 28 (30, [some (.ref a1), v1, v2], st, SH, σ) = ma_rn ro d 28 (31, [some (.ref a1), v1, v2], .ref a1 :: st, SH, σ)) ∧
  (∀ (v0 : Option Value) (v1 : Option Value) (v2 : Option Value) (a0 : Nat) (σ : ma_H) (hc : hk_cls a0 = 3), ma_rn ro (d + 1) 28 (31, [v0, v1, v2], .ref a0 :: [], SH, σ) = (ma_ev ro d 33 [.ref a0] SH σ).bind (fun q => ma_rn ro (d + 1) 28 (34, [v0, v1, v2], (q.1.toList ++ []), q.2.1, q.2.2))) ∧
  (∀ (v0 : Option Value) (v2 : Option Value) (x9 : Int32) (x1 : Int32) (st : List Value) (σ : ma_H), ma_rn ro d 28 (34, [v0, some (.int x9), v2], .int x1 :: st, SH, σ) = ma_rn ro d 28 (35, [v0, some (.int x9), some (.int x1)], st, SH, σ)) ∧
  (∀ (v0 : Option Value) (v2 : Option Value) (x1 : Int32) (st : List Value) (σ : ma_H), ma_rn ro d 28 (35, [v0, some (.int x1), v2], st, SH, σ) = ma_rn ro d 28 (36, [v0, some (.int x1), v2], .int x1 :: st, SH, σ)) ∧
  (∀ (v0 : Option Value) (v1 : Option Value) (v2 : Option Value) (x1 : Int32) (st : List Value) (σ : ma_H), ma_rn ro d 28 (36, [v0, v1, v2], .int x1 :: st, SH, σ) = if x1 = nI 0 then ma_rn ro d 28 (39, [v0, v1, v2], st, SH, σ) else ma_rn ro d 28 (48, [v0, v1, v2], st, SH, σ)) ∧
  (∀ (v1 : Option Value) (v2 : Option Value) (a1 : Nat) (st : List Value) (σ : ma_H), ma_rn ro d 28 (39, [some (.ref a1), v1, v2], st, SH, σ) = ma_rn ro d 28 (40, [some (.ref a1), v1, v2], .ref a1 :: st, SH, σ)) ∧
  (∀ (v0 : Option Value) (v1 : Option Value) (v2 : Option Value) (a1 : Nat) (st : List Value) (σ : ma_H) (hc : hk_cls a1 = 3), ma_rn ro d 28 (40, [v0, v1, v2], .ref a1 :: st, SH, σ) = ma_rn ro d 28 (43, [v0, v1, v2], .ref (65) :: st, SH, σ)) ∧
  (∀ (v0 : Option Value) (v1 : Option Value) (x1 : Int32) (st : List Value) (σ : ma_H), ma_rn ro d 28 (43, [v0, v1, some (.int x1)], st, SH, σ) = ma_rn ro d 28 (44, [v0, v1, some (.int x1)], .int x1 :: st, SH, σ)) ∧
  (∀ (v0 : Option Value) (v1 : Option Value) (v2 : Option Value) (x1 : Int32) (a2 : Nat) (st : List Value) (σ : ma_H) (hc : hk_cls a2 = 2), ma_rn ro d 28 (44, [v0, v1, v2], .int x1 :: .ref a2 :: st, SH, σ) = ma_rn ro d 28 (47, [v0, v1, v2], st, SH, (ma_up σ a2 0 x1))) ∧
  (∀ (v0 : Option Value) (v1 : Option Value) (v2 : Option Value) (σ : ma_H), ma_rn ro d 28 (47, [v0, v1, v2], [], SH, σ) = some (none, SH, σ)) ∧
  (∀ (v1 : Option Value) (v2 : Option Value) (a1 : Nat) (st : List Value) (σ : ma_H), ma_rn ro d 28 (48, [some (.ref a1), v1, v2], st, SH, σ) = ma_rn ro d 28 (49, [some (.ref a1), v1, v2], .ref a1 :: st, SH, σ)) ∧
  (∀ (v0 : Option Value) (v1 : Option Value) (v2 : Option Value) (st : List Value) (σ : ma_H), ma_rn ro d 28 (49, [v0, v1, v2], st, SH, σ) = ma_rn ro d 28 (51, [v0, v1, v2], .ref (1000000 + 3) :: st, SH, σ)) ∧
  (∀ (v0 : Option Value) (v1 : Option Value) (v2 : Option Value) (a1 : Nat) (a0 : Nat) (σ : ma_H) (hc : hk_cls a0 = 3), ma_rn ro (d + 1) 28 (51, [v0, v1, v2], .ref a1 :: .ref a0 :: [], SH, σ) = (ma_ev ro d 35 [.ref a0, .ref a1] SH σ).bind (fun q => ma_rn ro (d + 1) 28 (54, [v0, v1, v2], (q.1.toList ++ []), q.2.1, q.2.2))) ∧
  (∀ (v1 : Option Value) (v2 : Option Value) (a1 : Nat) (st : List Value) (σ : ma_H), ma_rn ro d 28 (54, [some (.ref a1), v1, v2], st, SH, σ) = ma_rn ro d 28 (55, [some (.ref a1), v1, v2], .ref a1 :: st, SH, σ)) ∧
  (∀ (v0 : Option Value) (v1 : Option Value) (v2 : Option Value) (a1 : Nat) (st : List Value) (σ : ma_H) (hc : hk_cls a1 = 3), ma_rn ro d 28 (55, [v0, v1, v2], .ref a1 :: st, SH, σ) = ma_rn ro d 28 (58, [v0, v1, v2], .int (σ a1 3) :: st, SH, σ)) ∧
  (∀ (v0 : Option Value) (v1 : Option Value) (v2 : Option Value) (x1 : Int32) (st : List Value) (σ : ma_H), ma_rn ro d 28 (58, [v0, v1, v2], .int x1 :: st, SH, σ) = if x1 < nI 0 then ma_rn ro d 28 (61, [v0, v1, v2], st, SH, σ) else ma_rn ro d 28 (66, [v0, v1, v2], st, SH, σ)) ∧
  (∀ (v1 : Option Value) (v2 : Option Value) (a1 : Nat) (st : List Value) (σ : ma_H), ma_rn ro d 28 (61, [some (.ref a1), v1, v2], st, SH, σ) = ma_rn ro d 28 (62, [some (.ref a1), v1, v2], .ref a1 :: st, SH, σ)) ∧
  (∀ (v0 : Option Value) (v1 : Option Value) (v2 : Option Value) (st : List Value) (σ : ma_H), ma_rn ro d 28 (62, [v0, v1, v2], st, SH, σ) = ma_rn ro d 28 (63, [v0, v1, v2], .int (nI 0) :: st, SH, σ)) ∧
  (∀ (v0 : Option Value) (v1 : Option Value) (v2 : Option Value) (x1 : Int32) (a0 : Nat) (σ : ma_H) (hc : hk_cls a0 = 3), ma_rn ro (d + 1) 28 (63, [v0, v1, v2], .int x1 :: .ref a0 :: [], SH, σ) = (ma_ev ro d 30 [.ref a0, .int x1] SH σ).bind (fun q => ma_rn ro (d + 1) 28 (66, [v0, v1, v2], (q.1.toList ++ []), q.2.1, q.2.2))) ∧
  (∀ (v1 : Option Value) (v2 : Option Value) (a1 : Nat) (st : List Value) (σ : ma_H), ma_rn ro d 28 (66, [some (.ref a1), v1, v2], st, SH, σ) = ma_rn ro d 28 (67, [some (.ref a1), v1, v2], .ref a1 :: st, SH, σ)) ∧
  (∀ (v0 : Option Value) (v1 : Option Value) (v2 : Option Value) (a1 : Nat) (st : List Value) (σ : ma_H) (hc : hk_cls a1 = 3), ma_rn ro d 28 (67, [v0, v1, v2], .ref a1 :: st, SH, σ) = ma_rn ro d 28 (70, [v0, v1, v2], .ref (65) :: st, SH, σ)) ∧
  (∀ (v0 : Option Value) (v2 : Option Value) (x1 : Int32) (st : List Value) (σ : ma_H), ma_rn ro d 28 (70, [v0, some (.int x1), v2], st, SH, σ) = ma_rn ro d 28 (71, [v0, some (.int x1), v2], .int x1 :: st, SH, σ)) ∧
  (∀ (v0 : Option Value) (v1 : Option Value) (v2 : Option Value) (st : List Value) (σ : ma_H), ma_rn ro d 28 (71, [v0, v1, v2], st, SH, σ) = ma_rn ro d 28 (72, [v0, v1, v2], .int (nI 1) :: st, SH, σ)) ∧
  (∀ (v0 : Option Value) (v1 : Option Value) (v2 : Option Value) (x1 : Int32) (x2 : Int32) (st : List Value) (σ : ma_H), ma_rn ro d 28 (72, [v0, v1, v2], .int x1 :: .int x2 :: st, SH, σ) = if x2 = x1 then ma_rn ro d 28 (75, [v0, v1, v2], st, SH, σ) else ma_rn ro d 28 (79, [v0, v1, v2], st, SH, σ)) ∧
  (∀ (v0 : Option Value) (v1 : Option Value) (x1 : Int32) (st : List Value) (σ : ma_H), ma_rn ro d 28 (75, [v0, v1, some (.int x1)], st, SH, σ) = ma_rn ro d 28 (76, [v0, v1, some (.int x1)], .int x1 :: st, SH, σ)) ∧
  (∀ (v0 : Option Value) (v1 : Option Value) (v2 : Option Value) (st : List Value) (σ : ma_H), ma_rn ro d 28 (76, [v0, v1, v2], st, SH, σ) = ma_rn ro d 28 (81, [v0, v1, v2], st, SH, σ)) ∧
  (∀ (v0 : Option Value) (v1 : Option Value) (x1 : Int32) (st : List Value) (σ : ma_H), ma_rn ro d 28 (79, [v0, v1, some (.int x1)], st, SH, σ) = ma_rn ro d 28 (80, [v0, v1, some (.int x1)], .int x1 :: st, SH, σ)) ∧
  (∀ (v0 : Option Value) (v1 : Option Value) (v2 : Option Value) (x1 : Int32) (st : List Value) (σ : ma_H), ma_rn ro d 28 (80, [v0, v1, v2], .int x1 :: st, SH, σ) = ma_rn ro d 28 (81, [v0, v1, v2], .int (-x1) :: st, SH, σ)) ∧
  (∀ (v0 : Option Value) (v1 : Option Value) (v2 : Option Value) (x1 : Int32) (a0 : Nat) (σ : ma_H) (hc : hk_cls a0 = 2), ma_rn ro (d + 1) 28 (81, [v0, v1, v2], .int x1 :: .ref a0 :: [], SH, σ) = (ma_ev ro d 21 [.ref a0, .int x1] SH σ).bind (fun q => ma_rn ro (d + 1) 28 (84, [v0, v1, v2], (q.1.toList ++ []), q.2.1, q.2.2))) ∧
  (∀ (v0 : Option Value) (v1 : Option Value) (v2 : Option Value) (σ : ma_H), ma_rn ro d 28 (84, [v0, v1, v2], [], SH, σ) = some (none, SH, σ)) := ⟨fun v1 v2 a1 st σ => q_go e28_0 rfl rfl,
  fun v0 v1 v2 a0 σ hc => q_invV (as := []) (rest := []) e28_1 o_28 bn_3_43 c_3_43 m_29 (by decide) rfl rfl (Nat.le_of_ble_eq_true rfl) (Nat.le_of_ble_eq_true rfl) hc,
  fun v1 v2 a9 x1 st σ => q_go e28_4 rfl rfl,
  fun v1 v2 a1 st σ => q_go e28_5 rfl rfl,
  fun v0 v2 x1 st σ => q_go e28_6 rfl rfl,
  fun v0 v1 v2 x1 st σ => (q_if e28_7 rfl).trans q_ne,
  fun v0 v1 v2 st σ => q_ldcS e28_10 o_28 kn_3_46 s_3_46,
  fun v0 v1 v2 st σ => q_goto e28_12 rfl,
  fun v0 v2 x1 st σ => q_go e28_15 rfl rfl,
  fun v0 v1 v2 st σ => q_iconst e28_16 (by decide),
  fun v0 v1 v2 x1 x2 st σ => (q_cmp e28_17 rfl).trans q_ne,
  fun v0 v1 v2 st σ => q_ldcS e28_20 o_28 kn_3_48 s_3_48,
  fun v0 v1 v2 st σ => q_goto e28_22 rfl,
  fun v0 v1 v2 st σ => q_ldcS e28_25 o_28 kn_3_50 s_3_50,
  fun v0 v1 v2 a1 a0 σ hc => q_invV (as := [.ref a1]) (rest := []) e28_27 o_28 bn_3_52 c_3_52 m_35 (by decide) rfl rfl (Nat.le_of_ble_eq_true rfl) (Nat.le_of_ble_eq_true rfl) hc,
  fun v1 v2 a1 st σ => q_go e28_30 rfl rfl,
  fun v0 v1 v2 a0 σ hc => q_invV (as := []) (rest := []) e28_31 o_28 bn_3_56 c_3_56 m_33 (by decide) rfl rfl (Nat.le_of_ble_eq_true rfl) (Nat.le_of_ble_eq_true rfl) hc,
  fun v0 v2 x9 x1 st σ => q_go e28_34 rfl rfl,
  fun v0 v2 x1 st σ => q_go e28_35 rfl rfl,
  fun v0 v1 v2 x1 st σ => (q_if e28_36 rfl).trans q_ne,
  fun v1 v2 a1 st σ => q_go e28_39 rfl rfl,
  fun v0 v1 v2 a1 st σ hc => q_getA e28_40 o_28 f_3_15 (by decide) hc,
  fun v0 v1 x1 st σ => q_go e28_43 rfl rfl,
  fun v0 v1 v2 x1 a2 st σ hc => q_putI e28_44 o_28 f_3_59 (by decide) rfl hc,
  fun v0 v1 v2 σ => q_vret e28_47 r_28,
  fun v1 v2 a1 st σ => q_go e28_48 rfl rfl,
  fun v0 v1 v2 st σ => q_ldcS e28_49 o_28 kn_3_62 s_3_62,
  fun v0 v1 v2 a1 a0 σ hc => q_invV (as := [.ref a1]) (rest := []) e28_51 o_28 bn_3_52 c_3_52 m_35 (by decide) rfl rfl (Nat.le_of_ble_eq_true rfl) (Nat.le_of_ble_eq_true rfl) hc,
  fun v1 v2 a1 st σ => q_go e28_54 rfl rfl,
  fun v0 v1 v2 a1 st σ hc => q_getI e28_55 o_28 f_3_28 (by decide) hc,
  fun v0 v1 v2 x1 st σ => (q_if e28_58 rfl).trans q_nlt,
  fun v1 v2 a1 st σ => q_go e28_61 rfl rfl,
  fun v0 v1 v2 st σ => q_iconst e28_62 (by decide),
  fun v0 v1 v2 x1 a0 σ hc => q_invV (as := [.int x1]) (rest := []) e28_63 o_28 bn_3_64 c_3_64 m_30 (by decide) rfl rfl (Nat.le_of_ble_eq_true rfl) (Nat.le_of_ble_eq_true rfl) hc,
  fun v1 v2 a1 st σ => q_go e28_66 rfl rfl,
  fun v0 v1 v2 a1 st σ hc => q_getA e28_67 o_28 f_3_15 (by decide) hc,
  fun v0 v2 x1 st σ => q_go e28_70 rfl rfl,
  fun v0 v1 v2 st σ => q_iconst e28_71 (by decide),
  fun v0 v1 v2 x1 x2 st σ => (q_cmp e28_72 rfl).trans q_ne,
  fun v0 v1 x1 st σ => q_go e28_75 rfl rfl,
  fun v0 v1 v2 st σ => q_goto e28_76 rfl,
  fun v0 v1 x1 st σ => q_go e28_79 rfl rfl,
  fun v0 v1 v2 x1 st σ => q_go e28_80 rfl rfl,
  fun v0 v1 v2 x1 a0 σ hc => q_invV (as := [.int x1]) (rest := []) e28_81 o_28 bn_3_68 c_3_68 m_21 (by decide) rfl rfl (Nat.le_of_ble_eq_true rfl) (Nat.le_of_ble_eq_true rfl) hc,
  fun v0 v1 v2 σ => q_vret e28_84 r_28⟩
theorem E28 {ro : ma_RO} {d : Nat} (a0 : Nat) (sh : List ma_Sh) (σ : ma_H) : ma_ev ro d 28 [.ref a0] sh σ = ma_rn ro d 28 (0, [some (.ref a0), none, none], [], sh, σ) := q_ent x_28 rfl
theorem e29_0 : decode (ma_cd 29) 0 = .ok (.aload_n 0, 1) := (congrArg (fun b => decode b 0) cd_29).trans dX3_wordAhead_0
theorem e29_1 : decode (ma_cd 29) 1 = .ok (.invokevirtual 39, 3) := (congrArg (fun b => decode b 1) cd_29).trans dX3_wordAhead_1
theorem e29_4 : decode (ma_cd 29) 4 = .ok (.bipush 104, 2) := (congrArg (fun b => decode b 4) cd_29).trans dX3_wordAhead_4
theorem e29_6 : decode (ma_cd 29) 6 = .ok (.if_icmp .eq 5, 3) := (congrArg (fun b => decode b 6) cd_29).trans dX3_wordAhead_6
theorem e29_9 : decode (ma_cd 29) 9 = .ok (.iconst 0, 1) := (congrArg (fun b => decode b 9) cd_29).trans dX3_wordAhead_9
theorem e29_10 : decode (ma_cd 29) 10 = .ok (.ireturn, 1) := (congrArg (fun b => decode b 10) cd_29).trans dX3_wordAhead_10
theorem e29_11 : decode (ma_cd 29) 11 = .ok (.aload_n 0, 1) := (congrArg (fun b => decode b 11) cd_29).trans dX3_wordAhead_11
theorem e29_12 : decode (ma_cd 29) 12 = .ok (.getfield 9, 3) := (congrArg (fun b => decode b 12) cd_29).trans dX3_wordAhead_12
theorem e29_15 : decode (ma_cd 29) 15 = .ok (.aload_n 0, 1) := (congrArg (fun b => decode b 15) cd_29).trans dX3_wordAhead_15
theorem e29_16 : decode (ma_cd 29) 16 = .ok (.getfield 24, 3) := (congrArg (fun b => decode b 16) cd_29).trans dX3_wordAhead_16
theorem e29_19 : decode (ma_cd 29) 19 = .ok (.iconst 1, 1) := (congrArg (fun b => decode b 19) cd_29).trans dX3_wordAhead_19
theorem e29_20 : decode (ma_cd 29) 20 = .ok (.iadd, 1) := (congrArg (fun b => decode b 20) cd_29).trans dX3_wordAhead_20
theorem e29_21 : decode (ma_cd 29) 21 = .ok (.invokevirtual 71, 3) := (congrArg (fun b => decode b 21) cd_29).trans dX3_wordAhead_21
theorem e29_24 : decode (ma_cd 29) 24 = .ok (.bipush 97, 2) := (congrArg (fun b => decode b 24) cd_29).trans dX3_wordAhead_24
theorem e29_26 : decode (ma_cd 29) 26 = .ok (.if_icmp .ne 7, 3) := (congrArg (fun b => decode b 26) cd_29).trans dX3_wordAhead_26
theorem e29_29 : decode (ma_cd 29) 29 = .ok (.iconst 2, 1) := (congrArg (fun b => decode b 29) cd_29).trans dX3_wordAhead_29
theorem e29_30 : decode (ma_cd 29) 30 = .ok (.goto 4, 3) := (congrArg (fun b => decode b 30) cd_29).trans dX3_wordAhead_30
theorem e29_33 : decode (ma_cd 29) 33 = .ok (.iconst 1, 1) := (congrArg (fun b => decode b 33) cd_29).trans dX3_wordAhead_33
theorem e29_34 : decode (ma_cd 29) 34 = .ok (.ireturn, 1) := (congrArg (fun b => decode b 34) cd_29).trans dX3_wordAhead_34
theorem S29 {ro : ma_RO} {d : Nat} : (∀ (a1 : Nat) (st : List Value) (σ : ma_H), ma_rn ro d 29 (0, [some (.ref a1)], st, SH, σ) = ma_rn ro d 29 (1, [some (.ref a1)], .ref a1 :: st, SH, σ)) ∧
  (∀ (v0 : Option Value) (a0 : Nat) (σ : ma_H) (hc : hk_cls a0 = 3), ma_rn ro (d + 1) 29 (1, [v0], .ref a0 :: [], SH, σ) = (ma_ev ro d 36 [.ref a0] SH σ).bind (fun q => ma_rn ro (d + 1) 29 (4, [v0], (q.1.toList ++ []), q.2.1, q.2.2))) ∧
  (∀ (v0 : Option Value) (st : List Value) (σ : ma_H), ma_rn ro d 29 (4, [v0], st, SH, σ) = ma_rn ro d 29 (6, [v0], .int (nI 104) :: st, SH, σ)) ∧
  (∀ (v0 : Option Value) (x1 : Int32) (x2 : Int32) (st : List Value) (σ : ma_H), ma_rn ro d 29 (6, [v0], .int x1 :: .int x2 :: st, SH, σ) = if x2 = x1 then ma_rn ro d 29 (11, [v0], st, SH, σ) else ma_rn ro d 29 (9, [v0], st, SH, σ)) ∧
  (∀ (v0 : Option Value) (st : List Value) (σ : ma_H), ma_rn ro d 29 (9, [v0], st, SH, σ) = ma_rn ro d 29 (10, [v0], .int (nI 0) :: st, SH, σ)) ∧
  (∀ (v0 : Option Value) (x1 : Int32) (σ : ma_H), ma_rn ro d 29 (10, [v0], [.int x1], SH, σ) = some (some (.int x1), SH, σ)) ∧
  (∀ (a1 : Nat) (st : List Value) (σ : ma_H), ma_rn ro d 29 (11, [some (.ref a1)], st, SH, σ) = ma_rn ro d 29 (12, [some (.ref a1)], .ref a1 :: st, SH, σ)) ∧
  (∀ (v0 : Option Value) (a1 : Nat) (st : List Value) (σ : ma_H) (hc : hk_cls a1 = 3), ma_rn ro d 29 (12, [v0], .ref a1 :: st, SH, σ) = ma_rn ro d 29 (15, [v0], .ref (1) :: st, SH, σ)) ∧
  (∀ (a1 : Nat) (st : List Value) (σ : ma_H), ma_rn ro d 29 (15, [some (.ref a1)], st, SH, σ) = ma_rn ro d 29 (16, [some (.ref a1)], .ref a1 :: st, SH, σ)) ∧
  (∀ (v0 : Option Value) (a1 : Nat) (st : List Value) (σ : ma_H) (hc : hk_cls a1 = 3), ma_rn ro d 29 (16, [v0], .ref a1 :: st, SH, σ) = ma_rn ro d 29 (19, [v0], .int (σ a1 2) :: st, SH, σ)) ∧
  (∀ (v0 : Option Value) (st : List Value) (σ : ma_H), ma_rn ro d 29 (19, [v0], st, SH, σ) = ma_rn ro d 29 (20, [v0], .int (nI 1) :: st, SH, σ)) ∧
  (∀ (v0 : Option Value) (x1 : Int32) (x2 : Int32) (st : List Value) (σ : ma_H), ma_rn ro d 29 (20, [v0], .int x1 :: .int x2 :: st, SH, σ) = ma_rn ro d 29 (21, [v0], .int (x2 + x1) :: st, SH, σ)) ∧
  (∀ (v0 : Option Value) (x1 : Int32) (a0 : Nat) (σ : ma_H) (hc : hk_cls a0 = 5), ma_rn ro (d + 1) 29 (21, [v0], .int x1 :: .ref a0 :: [], SH, σ) = (ma_ev ro d 47 [.ref a0, .int x1] SH σ).bind (fun q => ma_rn ro (d + 1) 29 (24, [v0], (q.1.toList ++ []), q.2.1, q.2.2))) ∧
  (∀ (v0 : Option Value) (st : List Value) (σ : ma_H), ma_rn ro d 29 (24, [v0], st, SH, σ) = ma_rn ro d 29 (26, [v0], .int (nI 97) :: st, SH, σ)) ∧
  (∀ (v0 : Option Value) (x1 : Int32) (x2 : Int32) (st : List Value) (σ : ma_H), ma_rn ro d 29 (26, [v0], .int x1 :: .int x2 :: st, SH, σ) = if x2 = x1 then ma_rn ro d 29 (29, [v0], st, SH, σ) else ma_rn ro d 29 (33, [v0], st, SH, σ)) ∧
  (∀ (v0 : Option Value) (st : List Value) (σ : ma_H), ma_rn ro d 29 (29, [v0], st, SH, σ) = ma_rn ro d 29 (30, [v0], .int (nI 2) :: st, SH, σ)) ∧
  (∀ (v0 : Option Value) (st : List Value) (σ : ma_H), ma_rn ro d 29 (30, [v0], st, SH, σ) = ma_rn ro d 29 (34, [v0], st, SH, σ)) ∧
  (∀ (v0 : Option Value) (st : List Value) (σ : ma_H), ma_rn ro d 29 (33, [v0], st, SH, σ) = ma_rn ro d 29 (34, [v0], .int (nI 1) :: st, SH, σ)) ∧
  (∀ (v0 : Option Value) (x1 : Int32) (σ : ma_H), ma_rn ro d 29 (34, [v0], [.int x1], SH, σ) = some (some (.int x1), SH, σ)) := ⟨fun a1 st σ => q_go e29_0 rfl rfl,
  fun v0 a0 σ hc => q_invV (as := []) (rest := []) e29_1 o_29 bn_3_39 c_3_39 m_36 (by decide) rfl rfl (Nat.le_of_ble_eq_true rfl) (Nat.le_of_ble_eq_true rfl) hc,
  fun v0 st σ => q_bipush e29_4 (by decide),
  fun v0 x1 x2 st σ => (q_cmp e29_6 rfl).trans q_eq,
  fun v0 st σ => q_iconst e29_9 (by decide),
  fun v0 x1 σ => q_iret e29_10 r_29,
  fun a1 st σ => q_go e29_11 rfl rfl,
  fun v0 a1 st σ hc => q_getA e29_12 o_29 f_3_9 (by decide) hc,
  fun a1 st σ => q_go e29_15 rfl rfl,
  fun v0 a1 st σ hc => q_getI e29_16 o_29 f_3_24 (by decide) hc,
  fun v0 st σ => q_iconst e29_19 (by decide),
  fun v0 x1 x2 st σ => q_go e29_20 rfl rfl,
  fun v0 x1 a0 σ hc => q_invV (as := [.int x1]) (rest := []) e29_21 o_29 bn_3_71 c_3_71 m_47 (by decide) rfl rfl (Nat.le_of_ble_eq_true rfl) (Nat.le_of_ble_eq_true rfl) hc,
  fun v0 st σ => q_bipush e29_24 (by decide),
  fun v0 x1 x2 st σ => (q_cmp e29_26 rfl).trans q_ne,
  fun v0 st σ => q_iconst e29_29 (by decide),
  fun v0 st σ => q_goto e29_30 rfl,
  fun v0 st σ => q_iconst e29_33 (by decide),
  fun v0 x1 σ => q_iret e29_34 r_29⟩
theorem E29 {ro : ma_RO} {d : Nat} (a0 : Nat) (sh : List ma_Sh) (σ : ma_H) : ma_ev ro d 29 [.ref a0] sh σ = ma_rn ro d 29 (0, [some (.ref a0)], [], sh, σ) := q_ent x_29 rfl
theorem e30_0 : decode (ma_cd 30) 0 = .ok (.iconst 0, 1) := (congrArg (fun b => decode b 0) cd_30).trans dX3_readEither_0
theorem e30_1 : decode (ma_cd 30) 1 = .ok (.istore_n 2, 1) := (congrArg (fun b => decode b 1) cd_30).trans dX3_readEither_1
theorem e30_2 : decode (ma_cd 30) 2 = .ok (.iconst 0, 1) := (congrArg (fun b => decode b 2) cd_30).trans dX3_readEither_2
theorem e30_3 : decode (ma_cd 30) 3 = .ok (.istore_n 3, 1) := (congrArg (fun b => decode b 3) cd_30).trans dX3_readEither_3
theorem e30_4 : decode (ma_cd 30) 4 = .ok (.iconst 0, 1) := (congrArg (fun b => decode b 4) cd_30).trans dX3_readEither_4
theorem e30_5 : decode (ma_cd 30) 5 = .ok (.istore 4, 2) := (congrArg (fun b => decode b 5) cd_30).trans dX3_readEither_5
theorem e30_7 : decode (ma_cd 30) 7 = .ok (.iload 4, 2) := (congrArg (fun b => decode b 7) cd_30).trans dX3_readEither_7
theorem e30_9 : decode (ma_cd 30) 9 = .ok (.bipush 100, 2) := (congrArg (fun b => decode b 9) cd_30).trans dX3_readEither_9
theorem e30_11 : decode (ma_cd 30) 11 = .ok (.if_icmp .gt 97, 3) := (congrArg (fun b => decode b 11) cd_30).trans dX3_readEither_11
theorem e30_14 : decode (ma_cd 30) 14 = .ok (.aload_n 0, 1) := (congrArg (fun b => decode b 14) cd_30).trans dX3_readEither_14
theorem e30_15 : decode (ma_cd 30) 15 = .ok (.iload_n 1, 1) := (congrArg (fun b => decode b 15) cd_30).trans dX3_readEither_15
theorem e30_16 : decode (ma_cd 30) 16 = .ok (.invokevirtual 75, 3) := (congrArg (fun b => decode b 16) cd_30).trans dX3_readEither_16
theorem e30_19 : decode (ma_cd 30) 19 = .ok (.aload_n 0, 1) := (congrArg (fun b => decode b 19) cd_30).trans dX3_readEither_19
theorem e30_20 : decode (ma_cd 30) 20 = .ok (.getfield 28, 3) := (congrArg (fun b => decode b 20) cd_30).trans dX3_readEither_20
theorem e30_23 : decode (ma_cd 30) 23 = .ok (.ifCond .lt 4, 3) := (congrArg (fun b => decode b 23) cd_30).trans dX3_readEither_23
theorem e30_26 : decode (ma_cd 30) 26 = .ok (.return_, 1) := (congrArg (fun b => decode b 26) cd_30).trans dX3_readEither_26
theorem e30_27 : decode (ma_cd 30) 27 = .ok (.iload_n 2, 1) := (congrArg (fun b => decode b 27) cd_30).trans dX3_readEither_27
theorem e30_28 : decode (ma_cd 30) 28 = .ok (.ifCond .eq 12, 3) := (congrArg (fun b => decode b 28) cd_30).trans dX3_readEither_28
theorem e30_31 : decode (ma_cd 30) 31 = .ok (.aload_n 0, 1) := (congrArg (fun b => decode b 31) cd_30).trans dX3_readEither_31
theorem e30_32 : decode (ma_cd 30) 32 = .ok (.getfield 15, 3) := (congrArg (fun b => decode b 32) cd_30).trans dX3_readEither_32
theorem e30_35 : decode (ma_cd 30) 35 = .ok (.bipush 7, 2) := (congrArg (fun b => decode b 35) cd_30).trans dX3_readEither_35
theorem e30_37 : decode (ma_cd 30) 37 = .ok (.invokevirtual 78, 3) := (congrArg (fun b => decode b 37) cd_30).trans dX3_readEither_37
theorem e30_40 : decode (ma_cd 30) 40 = .ok (.aload_n 0, 1) := (congrArg (fun b => decode b 40) cd_30).trans dX3_readEither_40
theorem e30_41 : decode (ma_cd 30) 41 = .ok (.invokevirtual 39, 3) := (congrArg (fun b => decode b 41) cd_30).trans dX3_readEither_41
theorem e30_44 : decode (ma_cd 30) 44 = .ok (.bipush 38, 2) := (congrArg (fun b => decode b 44) cd_30).trans dX3_readEither_44
theorem e30_46 : decode (ma_cd 30) 46 = .ok (.if_icmp .ne 7, 3) := (congrArg (fun b => decode b 46) cd_30).trans dX3_readEither_46
theorem e30_49 : decode (ma_cd 30) 49 = .ok (.iconst 1, 1) := (congrArg (fun b => decode b 49) cd_30).trans dX3_readEither_49
theorem e30_50 : decode (ma_cd 30) 50 = .ok (.goto 4, 3) := (congrArg (fun b => decode b 50) cd_30).trans dX3_readEither_50
theorem e30_53 : decode (ma_cd 30) 53 = .ok (.iconst 0, 1) := (congrArg (fun b => decode b 53) cd_30).trans dX3_readEither_53
theorem e30_54 : decode (ma_cd 30) 54 = .ok (.istore_n 2, 1) := (congrArg (fun b => decode b 54) cd_30).trans dX3_readEither_54
theorem e30_55 : decode (ma_cd 30) 55 = .ok (.iload_n 2, 1) := (congrArg (fun b => decode b 55) cd_30).trans dX3_readEither_55
theorem e30_56 : decode (ma_cd 30) 56 = .ok (.ifCond .ne 36, 3) := (congrArg (fun b => decode b 56) cd_30).trans dX3_readEither_56
theorem e30_59 : decode (ma_cd 30) 59 = .ok (.iload_n 3, 1) := (congrArg (fun b => decode b 59) cd_30).trans dX3_readEither_59
theorem e30_60 : decode (ma_cd 30) 60 = .ok (.ifCond .eq 12, 3) := (congrArg (fun b => decode b 60) cd_30).trans dX3_readEither_60
theorem e30_63 : decode (ma_cd 30) 63 = .ok (.aload_n 0, 1) := (congrArg (fun b => decode b 63) cd_30).trans dX3_readEither_63
theorem e30_64 : decode (ma_cd 30) 64 = .ok (.getfield 15, 3) := (congrArg (fun b => decode b 64) cd_30).trans dX3_readEither_64
theorem e30_67 : decode (ma_cd 30) 67 = .ok (.bipush 8, 2) := (congrArg (fun b => decode b 67) cd_30).trans dX3_readEither_67
theorem e30_69 : decode (ma_cd 30) 69 = .ok (.invokevirtual 78, 3) := (congrArg (fun b => decode b 69) cd_30).trans dX3_readEither_69
theorem e30_72 : decode (ma_cd 30) 72 = .ok (.aload_n 0, 1) := (congrArg (fun b => decode b 72) cd_30).trans dX3_readEither_72
theorem e30_73 : decode (ma_cd 30) 73 = .ok (.invokevirtual 39, 3) := (congrArg (fun b => decode b 73) cd_30).trans dX3_readEither_73
theorem e30_76 : decode (ma_cd 30) 76 = .ok (.bipush 124, 2) := (congrArg (fun b => decode b 76) cd_30).trans dX3_readEither_76
theorem e30_78 : decode (ma_cd 30) 78 = .ok (.if_icmp .ne 7, 3) := (congrArg (fun b => decode b 78) cd_30).trans dX3_readEither_78
theorem e30_81 : decode (ma_cd 30) 81 = .ok (.iconst 1, 1) := (congrArg (fun b => decode b 81) cd_30).trans dX3_readEither_81
theorem e30_82 : decode (ma_cd 30) 82 = .ok (.goto 4, 3) := (congrArg (fun b => decode b 82) cd_30).trans dX3_readEither_82
theorem e30_85 : decode (ma_cd 30) 85 = .ok (.iconst 0, 1) := (congrArg (fun b => decode b 85) cd_30).trans dX3_readEither_85
theorem e30_86 : decode (ma_cd 30) 86 = .ok (.istore_n 3, 1) := (congrArg (fun b => decode b 86) cd_30).trans dX3_readEither_86
theorem e30_87 : decode (ma_cd 30) 87 = .ok (.iload_n 3, 1) := (congrArg (fun b => decode b 87) cd_30).trans dX3_readEither_87
theorem e30_88 : decode (ma_cd 30) 88 = .ok (.ifCond .ne 4, 3) := (congrArg (fun b => decode b 88) cd_30).trans dX3_readEither_88
theorem e30_91 : decode (ma_cd 30) 91 = .ok (.return_, 1) := (congrArg (fun b => decode b 91) cd_30).trans dX3_readEither_91
theorem e30_92 : decode (ma_cd 30) 92 = .ok (.aload_n 0, 1) := (congrArg (fun b => decode b 92) cd_30).trans dX3_readEither_92
theorem e30_93 : decode (ma_cd 30) 93 = .ok (.dup, 1) := (congrArg (fun b => decode b 93) cd_30).trans dX3_readEither_93
theorem e30_94 : decode (ma_cd 30) 94 = .ok (.getfield 24, 3) := (congrArg (fun b => decode b 94) cd_30).trans dX3_readEither_94
theorem e30_97 : decode (ma_cd 30) 97 = .ok (.iconst 1, 1) := (congrArg (fun b => decode b 97) cd_30).trans dX3_readEither_97
theorem e30_98 : decode (ma_cd 30) 98 = .ok (.iadd, 1) := (congrArg (fun b => decode b 98) cd_30).trans dX3_readEither_98
theorem e30_99 : decode (ma_cd 30) 99 = .ok (.putfield 24, 3) := (congrArg (fun b => decode b 99) cd_30).trans dX3_readEither_99
theorem e30_102 : decode (ma_cd 30) 102 = .ok (.iinc 4 1, 3) := (congrArg (fun b => decode b 102) cd_30).trans dX3_readEither_102
theorem e30_105 : decode (ma_cd 30) 105 = .ok (.goto (-98), 3) := (congrArg (fun b => decode b 105) cd_30).trans dX3_readEither_105
theorem e30_108 : decode (ma_cd 30) 108 = .ok (.return_, 1) := (congrArg (fun b => decode b 108) cd_30).trans dX3_readEither_108
theorem Sh30_7 {ro : ma_RO} {d : Nat} : (∀ (v0 : Option Value) (v1 : Option Value) (v2 : Option Value) (v3 : Option Value) (x1 : Int32) (st : List Value) (σ : ma_H), ma_rn ro d 30 (7, [v0, v1, v2, v3, some (.int x1)], st, SH, σ) = ma_rn ro d 30 (9, [v0, v1, v2, v3, some (.int x1)], .int x1 :: st, SH, σ)) := fun v0 v1 v2 v3 x1 st σ => q_go e30_7 rfl rfl
theorem S30 {ro : ma_RO} {d : Nat} : (∀ (v0 : Option Value) (v1 : Option Value) (v2 : Option Value) (v3 : Option Value) (v4 : Option Value) (st : List Value) (σ : ma_H), ma_rn ro d 30 (0, [v0, v1, v2, v3, v4], st, SH, σ) = ma_rn ro d 30 (1, [v0, v1, v2, v3, v4], .int (nI 0) :: st, SH, σ)) ∧
  (∀ (v0 : Option Value) (v2 : Option Value) (v3 : Option Value) (v4 : Option Value) (x9 : Int32) (x1 : Int32) (st : List Value) (σ : ma_H), ma_rn ro d 30 (1, [v0, some (.int x9), v2, v3, v4], .int x1 :: st, SH, σ) = ma_rn ro d 30 (2, [v0, some (.int x9), some (.int x1), v3, v4], st, SH, σ)) ∧
  (∀ (v0 : Option Value) (v1 : Option Value) (v2 : Option Value) (v3 : Option Value) (v4 : Option Value) (st : List Value) (σ : ma_H), ma_rn ro d 30 (2, [v0, v1, v2, v3, v4], st, SH, σ) = ma_rn ro d 30 (3, [v0, v1, v2, v3, v4], .int (nI 0) :: st, SH, σ)) ∧
  (∀ (v0 : Option Value) (v1 : Option Value) (v3 : Option Value) (v4 : Option Value) (x9 : Int32) (x1 : Int32) (st : List Value) (σ : ma_H), ma_rn ro d 30 (3, [v0, v1, some (.int x9), v3, v4], .int x1 :: st, SH, σ) = ma_rn ro d 30 (4, [v0, v1, some (.int x9), some (.int x1), v4], st, SH, σ)) ∧
  (∀ (v0 : Option Value) (v1 : Option Value) (v2 : Option Value) (v3 : Option Value) (v4 : Option Value) (st : List Value) (σ : ma_H), ma_rn ro d 30 (4, [v0, v1, v2, v3, v4], st, SH, σ) = ma_rn ro d 30 (5, [v0, v1, v2, v3, v4], .int (nI 0) :: st, SH, σ)) ∧
  (∀ (v0 : Option Value) (v1 : Option Value) (v2 : Option Value) (v4 : Option Value) (x9 : Int32) (x1 : Int32) (st : List Value) (σ : ma_H), ma_rn ro d 30 (5, [v0, v1, v2, some (.int x9), v4], .int x1 :: st, SH, σ) = ma_rn ro d 30 (7, [v0, v1, v2, some (.int x9), some (.int x1)], st, SH, σ)) ∧
  (∀ (v0 : Option Value) (v1 : Option Value) (v2 : Option Value) (v3 : Option Value) (v4 : Option Value) (st : List Value) (σ : ma_H), ma_rn ro d 30 (9, [v0, v1, v2, v3, v4], st, SH, σ) = ma_rn ro d 30 (11, [v0, v1, v2, v3, v4], .int (nI 100) :: st, SH, σ)) ∧
  (∀ (v0 : Option Value) (v1 : Option Value) (v2 : Option Value) (v3 : Option Value) (v4 : Option Value) (x1 : Int32) (x2 : Int32) (st : List Value) (σ : ma_H), ma_rn ro d 30 (11, [v0, v1, v2, v3, v4], .int x1 :: .int x2 :: st, SH, σ) = if x1 < x2 then ma_rn ro d 30 (108, [v0, v1, v2, v3, v4], st, SH, σ) else ma_rn ro d 30 (14, [v0, v1, v2, v3, v4], st, SH, σ)) ∧
  (∀ (v1 : Option Value) (v2 : Option Value) (v3 : Option Value) (v4 : Option Value) (a1 : Nat) (st : List Value) (σ : ma_H), ma_rn ro d 30 (14, [some (.ref a1), v1, v2, v3, v4], st, SH, σ) = ma_rn ro d 30 (15, [some (.ref a1), v1, v2, v3, v4], .ref a1 :: st, SH, σ)) ∧
  (∀ (v0 : Option Value) (v2 : Option Value) (v3 : Option Value) (v4 : Option Value) (x1 : Int32) (st : List Value) (σ : ma_H), ma_rn ro d 30 (15, [v0, some (.int x1), v2, v3, v4], st, SH, σ) = ma_rn ro d 30 (16, [v0, some (.int x1), v2, v3, v4], .int x1 :: st, SH, σ)) ∧
  (∀ (v0 : Option Value) (v1 : Option Value) (v2 : Option Value) (v3 : Option Value) (v4 : Option Value) (x1 : Int32) (a0 : Nat) (σ : ma_H) (hc : hk_cls a0 = 3), ma_rn ro (d + 1) 30 (16, [v0, v1, v2, v3, v4], .int x1 :: .ref a0 :: [], SH, σ) = (ma_ev ro d 31 [.ref a0, .int x1] SH σ).bind (fun q => ma_rn ro (d + 1) 30 (19, [v0, v1, v2, v3, v4], (q.1.toList ++ []), q.2.1, q.2.2))) ∧
  (∀ (v1 : Option Value) (v2 : Option Value) (v3 : Option Value) (v4 : Option Value) (a1 : Nat) (st : List Value) (σ : ma_H), ma_rn ro d 30 (19, [some (.ref a1), v1, v2, v3, v4], st, SH, σ) = ma_rn ro d 30 (20, [some (.ref a1), v1, v2, v3, v4], .ref a1 :: st, SH, σ)) ∧
  (∀ (v0 : Option Value) (v1 : Option Value) (v2 : Option Value) (v3 : Option Value) (v4 : Option Value) (a1 : Nat) (st : List Value) (σ : ma_H) (hc : hk_cls a1 = 3), ma_rn ro d 30 (20, [v0, v1, v2, v3, v4], .ref a1 :: st, SH, σ) = ma_rn ro d 30 (23, [v0, v1, v2, v3, v4], .int (σ a1 3) :: st, SH, σ)) ∧
  (∀ (v0 : Option Value) (v1 : Option Value) (v2 : Option Value) (v3 : Option Value) (v4 : Option Value) (x1 : Int32) (st : List Value) (σ : ma_H), ma_rn ro d 30 (23, [v0, v1, v2, v3, v4], .int x1 :: st, SH, σ) = if x1 < nI 0 then ma_rn ro d 30 (27, [v0, v1, v2, v3, v4], st, SH, σ) else ma_rn ro d 30 (26, [v0, v1, v2, v3, v4], st, SH, σ)) ∧
  (∀ (v0 : Option Value) (v1 : Option Value) (v2 : Option Value) (v3 : Option Value) (v4 : Option Value) (σ : ma_H), ma_rn ro d 30 (26, [v0, v1, v2, v3, v4], [], SH, σ) = some (none, SH, σ)) ∧
  (∀ (v0 : Option Value) (v1 : Option Value) (v3 : Option Value) (v4 : Option Value) (x1 : Int32) (st : List Value) (σ : ma_H), ma_rn ro d 30 (27, [v0, v1, some (.int x1), v3, v4], st, SH, σ) = ma_rn ro d 30 (28, [v0, v1, some (.int x1), v3, v4], .int x1 :: st, SH, σ)) ∧
  (∀ (v0 : Option Value) (v1 : Option Value) (v2 : Option Value) (v3 : Option Value) (v4 : Option Value) (x1 : Int32) (st : List Value) (σ : ma_H), ma_rn ro d 30 (28, [v0, v1, v2, v3, v4], .int x1 :: st, SH, σ) = if x1 = nI 0 then ma_rn ro d 30 (40, [v0, v1, v2, v3, v4], st, SH, σ) else ma_rn ro d 30 (31, [v0, v1, v2, v3, v4], st, SH, σ)) ∧
  (∀ (v1 : Option Value) (v2 : Option Value) (v3 : Option Value) (v4 : Option Value) (a1 : Nat) (st : List Value) (σ : ma_H), ma_rn ro d 30 (31, [some (.ref a1), v1, v2, v3, v4], st, SH, σ) = ma_rn ro d 30 (32, [some (.ref a1), v1, v2, v3, v4], .ref a1 :: st, SH, σ)) ∧
  (∀ (v0 : Option Value) (v1 : Option Value) (v2 : Option Value) (v3 : Option Value) (v4 : Option Value) (a1 : Nat) (st : List Value) (σ : ma_H) (hc : hk_cls a1 = 3), ma_rn ro d 30 (32, [v0, v1, v2, v3, v4], .ref a1 :: st, SH, σ) = ma_rn ro d 30 (35, [v0, v1, v2, v3, v4], .ref (65) :: st, SH, σ)) ∧
  (∀ (v0 : Option Value) (v1 : Option Value) (v2 : Option Value) (v3 : Option Value) (v4 : Option Value) (st : List Value) (σ : ma_H), ma_rn ro d 30 (35, [v0, v1, v2, v3, v4], st, SH, σ) = ma_rn ro d 30 (37, [v0, v1, v2, v3, v4], .int (nI 7) :: st, SH, σ)) ∧
  (∀ (v0 : Option Value) (v1 : Option Value) (v2 : Option Value) (v3 : Option Value) (v4 : Option Value) (x1 : Int32) (a0 : Nat) (σ : ma_H) (hc : hk_cls a0 = 2), ma_rn ro (d + 1) 30 (37, [v0, v1, v2, v3, v4], .int x1 :: .ref a0 :: [], SH, σ) = (ma_ev ro d 19 [.ref a0, .int x1] SH σ).bind (fun q => ma_rn ro (d + 1) 30 (40, [v0, v1, v2, v3, v4], (q.1.toList ++ []), q.2.1, q.2.2))) ∧
  (∀ (v1 : Option Value) (v2 : Option Value) (v3 : Option Value) (v4 : Option Value) (a1 : Nat) (st : List Value) (σ : ma_H), ma_rn ro d 30 (40, [some (.ref a1), v1, v2, v3, v4], st, SH, σ) = ma_rn ro d 30 (41, [some (.ref a1), v1, v2, v3, v4], .ref a1 :: st, SH, σ)) ∧
  (∀ (v0 : Option Value) (v1 : Option Value) (v2 : Option Value) (v3 : Option Value) (v4 : Option Value) (a0 : Nat) (σ : ma_H) (hc : hk_cls a0 = 3), ma_rn ro (d + 1) 30 (41, [v0, v1, v2, v3, v4], .ref a0 :: [], SH, σ) = (ma_ev ro d 36 [.ref a0] SH σ).bind (fun q => ma_rn ro (d + 1) 30 (44, [v0, v1, v2, v3, v4], (q.1.toList ++ []), q.2.1, q.2.2))) ∧
  (∀ (v0 : Option Value) (v1 : Option Value) (v2 : Option Value) (v3 : Option Value) (v4 : Option Value) (st : List Value) (σ : ma_H), ma_rn ro d 30 (44, [v0, v1, v2, v3, v4], st, SH, σ) = ma_rn ro d 30 (46, [v0, v1, v2, v3, v4], .int (nI 38) :: st, SH, σ)) ∧
  (∀ (v0 : Option Value) (v1 : Option Value) (v2 : Option Value) (v3 : Option Value) (v4 : Option Value) (x1 : Int32) (x2 : Int32) (st : List Value) (σ : ma_H), ma_rn ro d 30 (46, [v0, v1, v2, v3, v4], .int x1 :: .int x2 :: st, SH, σ) = if x2 = x1 then ma_rn ro d 30 (49, [v0, v1, v2, v3, v4], st, SH, σ) else ma_rn ro d 30 (53, [v0, v1, v2, v3, v4], st, SH, σ)) ∧
  (∀ (v0 : Option Value) (v1 : Option Value) (v2 : Option Value) (v3 : Option Value) (v4 : Option Value) (st : List Value) (σ : ma_H), ma_rn ro d 30 (49, [v0, v1, v2, v3, v4], st, SH, σ) = ma_rn ro d 30 (50, [v0, v1, v2, v3, v4], .int (nI 1) :: st, SH, σ)) ∧
  (∀ (v0 : Option Value) (v1 : Option Value) (v2 : Option Value) (v3 : Option Value) (v4 : Option Value) (st : List Value) (σ : ma_H), ma_rn ro d 30 (50, [v0, v1, v2, v3, v4], st, SH, σ) = ma_rn ro d 30 (54, [v0, v1, v2, v3, v4], st, SH, σ)) ∧
  (∀ (v0 : Option Value) (v1 : Option Value) (v2 : Option Value) (v3 : Option Value) (v4 : Option Value) (st : List Value) (σ : ma_H), ma_rn ro d 30 (53, [v0, v1, v2, v3, v4], st, SH, σ) = ma_rn ro d 30 (54, [v0, v1, v2, v3, v4], .int (nI 0) :: st, SH, σ)) ∧
  (∀ (v0 : Option Value) (v2 : Option Value) (v3 : Option Value) (v4 : Option Value) (x9 : Int32) (x1 : Int32) (st : List Value) (σ : ma_H), ma_rn ro d 30 (54, [v0, some (.int x9), v2, v3, v4], .int x1 :: st, SH, σ) = ma_rn ro d 30 (55, [v0, some (.int x9), some (.int x1), v3, v4], st, SH, σ)) ∧
  (∀ (v0 : Option Value) (v1 : Option Value) (v3 : Option Value) (v4 : Option Value) (x1 : Int32) (st : List Value) (σ : ma_H), ma_rn ro d 30 (55, [v0, v1, some (.int x1), v3, v4], st, SH, σ) = ma_rn ro d 30 (56, [v0, v1, some (.int x1), v3, v4], .int x1 :: st, SH, σ)) ∧
  (∀ (v0 : Option Value) (v1 : Option Value) (v2 : Option Value) (v3 : Option Value) (v4 : Option Value) (x1 : Int32) (st : List Value) (σ : ma_H), ma_rn ro d 30 (56, [v0, v1, v2, v3, v4], .int x1 :: st, SH, σ) = if x1 = nI 0 then ma_rn ro d 30 (59, [v0, v1, v2, v3, v4], st, SH, σ) else ma_rn ro d 30 (92, [v0, v1, v2, v3, v4], st, SH, σ)) ∧
  (∀ (v0 : Option Value) (v1 : Option Value) (v2 : Option Value) (v4 : Option Value) (x1 : Int32) (st : List Value) (σ : ma_H), ma_rn ro d 30 (59, [v0, v1, v2, some (.int x1), v4], st, SH, σ) = ma_rn ro d 30 (60, [v0, v1, v2, some (.int x1), v4], .int x1 :: st, SH, σ)) ∧
  (∀ (v0 : Option Value) (v1 : Option Value) (v2 : Option Value) (v3 : Option Value) (v4 : Option Value) (x1 : Int32) (st : List Value) (σ : ma_H), ma_rn ro d 30 (60, [v0, v1, v2, v3, v4], .int x1 :: st, SH, σ) = if x1 = nI 0 then ma_rn ro d 30 (72, [v0, v1, v2, v3, v4], st, SH, σ) else ma_rn ro d 30 (63, [v0, v1, v2, v3, v4], st, SH, σ)) ∧
  (∀ (v1 : Option Value) (v2 : Option Value) (v3 : Option Value) (v4 : Option Value) (a1 : Nat) (st : List Value) (σ : ma_H), ma_rn ro d 30 (63, [some (.ref a1), v1, v2, v3, v4], st, SH, σ) = ma_rn ro d 30 (64, [some (.ref a1), v1, v2, v3, v4], .ref a1 :: st, SH, σ)) ∧
  (∀ (v0 : Option Value) (v1 : Option Value) (v2 : Option Value) (v3 : Option Value) (v4 : Option Value) (a1 : Nat) (st : List Value) (σ : ma_H) (hc : hk_cls a1 = 3), ma_rn ro d 30 (64, [v0, v1, v2, v3, v4], .ref a1 :: st, SH, σ) = ma_rn ro d 30 (67, [v0, v1, v2, v3, v4], .ref (65) :: st, SH, σ)) ∧
  (∀ (v0 : Option Value) (v1 : Option Value) (v2 : Option Value) (v3 : Option Value) (v4 : Option Value) (st : List Value) (σ : ma_H), ma_rn ro d 30 (67, [v0, v1, v2, v3, v4], st, SH, σ) = ma_rn ro d 30 (69, [v0, v1, v2, v3, v4], .int (nI 8) :: st, SH, σ)) ∧
  (∀ (v0 : Option Value) (v1 : Option Value) (v2 : Option Value) (v3 : Option Value) (v4 : Option Value) (x1 : Int32) (a0 : Nat) (σ : ma_H) (hc : hk_cls a0 = 2), ma_rn ro (d + 1) 30 (69, [v0, v1, v2, v3, v4], .int x1 :: .ref a0 :: [], SH, σ) = (ma_ev ro d 19 [.ref a0, .int x1] SH σ).bind (fun q => ma_rn ro (d + 1) 30 (72, [v0, v1, v2, v3, v4], (q.1.toList ++ []), q.2.1, q.2.2))) ∧
  (∀ (v1 : Option Value) (v2 : Option Value) (v3 : Option Value) (v4 : Option Value) (a1 : Nat) (st : List Value) (σ : ma_H), ma_rn ro d 30 (72, [some (.ref a1), v1, v2, v3, v4], st, SH, σ) = ma_rn ro d 30 (73, [some (.ref a1), v1, v2, v3, v4], .ref a1 :: st, SH, σ)) ∧
  (∀ (v0 : Option Value) (v1 : Option Value) (v2 : Option Value) (v3 : Option Value) (v4 : Option Value) (a0 : Nat) (σ : ma_H) (hc : hk_cls a0 = 3), ma_rn ro (d + 1) 30 (73, [v0, v1, v2, v3, v4], .ref a0 :: [], SH, σ) = (ma_ev ro d 36 [.ref a0] SH σ).bind (fun q => ma_rn ro (d + 1) 30 (76, [v0, v1, v2, v3, v4], (q.1.toList ++ []), q.2.1, q.2.2))) ∧
  (∀ (v0 : Option Value) (v1 : Option Value) (v2 : Option Value) (v3 : Option Value) (v4 : Option Value) (st : List Value) (σ : ma_H), ma_rn ro d 30 (76, [v0, v1, v2, v3, v4], st, SH, σ) = ma_rn ro d 30 (78, [v0, v1, v2, v3, v4], .int (nI 124) :: st, SH, σ)) ∧
  (∀ (v0 : Option Value) (v1 : Option Value) (v2 : Option Value) (v3 : Option Value) (v4 : Option Value) (x1 : Int32) (x2 : Int32) (st : List Value) (σ : ma_H), ma_rn ro d 30 (78, [v0, v1, v2, v3, v4], .int x1 :: .int x2 :: st, SH, σ) = if x2 = x1 then ma_rn ro d 30 (81, [v0, v1, v2, v3, v4], st, SH, σ) else ma_rn ro d 30 (85, [v0, v1, v2, v3, v4], st, SH, σ)) ∧
  (∀ (v0 : Option Value) (v1 : Option Value) (v2 : Option Value) (v3 : Option Value) (v4 : Option Value) (st : List Value) (σ : ma_H), ma_rn ro d 30 (81, [v0, v1, v2, v3, v4], st, SH, σ) = ma_rn ro d 30 (82, [v0, v1, v2, v3, v4], .int (nI 1) :: st, SH, σ)) ∧
  (∀ (v0 : Option Value) (v1 : Option Value) (v2 : Option Value) (v3 : Option Value) (v4 : Option Value) (st : List Value) (σ : ma_H), ma_rn ro d 30 (82, [v0, v1, v2, v3, v4], st, SH, σ) = ma_rn ro d 30 (86, [v0, v1, v2, v3, v4], st, SH, σ)) ∧
  (∀ (v0 : Option Value) (v1 : Option Value) (v2 : Option Value) (v3 : Option Value) (v4 : Option Value) (st : List Value) (σ : ma_H), ma_rn ro d 30 (85, [v0, v1, v2, v3, v4], st, SH, σ) = ma_rn ro d 30 (86, [v0, v1, v2, v3, v4], .int (nI 0) :: st, SH, σ)) ∧
  (∀ (v0 : Option Value) (v1 : Option Value) (v3 : Option Value) (v4 : Option Value) (x9 : Int32) (x1 : Int32) (st : List Value) (σ : ma_H), ma_rn ro d 30 (86, [v0, v1, some (.int x9), v3, v4], .int x1 :: st, SH, σ) = ma_rn ro d 30 (87, [v0, v1, some (.int x9), some (.int x1), v4], st, SH, σ)) ∧
  (∀ (v0 : Option Value) (v1 : Option Value) (v2 : Option Value) (v4 : Option Value) (x1 : Int32) (st : List Value) (σ : ma_H), ma_rn ro d 30 (87, [v0, v1, v2, some (.int x1), v4], st, SH, σ) = ma_rn ro d 30 (88, [v0, v1, v2, some (.int x1), v4], .int x1 :: st, SH, σ)) ∧
  (∀ (v0 : Option Value) (v1 : Option Value) (v2 : Option Value) (v3 : Option Value) (v4 : Option Value) (x1 : Int32) (st : List Value) (σ : ma_H), ma_rn ro d 30 (88, [v0, v1, v2, v3, v4], .int x1 :: st, SH, σ) = if x1 = nI 0 then ma_rn ro d 30 (91, [v0, v1, v2, v3, v4], st, SH, σ) else ma_rn ro d 30 (92, [v0, v1, v2, v3, v4], st, SH, σ)) ∧
  (∀ (v0 : Option Value) (v1 : Option Value) (v2 : Option Value) (v3 : Option Value) (v4 : Option Value) (σ : ma_H), ma_rn ro d 30 (91, [v0, v1, v2, v3, v4], [], SH, σ) = some (none, SH, σ)) ∧
  (∀ (v1 : Option Value) (v2 : Option Value) (v3 : Option Value) (v4 : Option Value) (a1 : Nat) (st : List Value) (σ : ma_H), ma_rn ro d 30 (92, [some (.ref a1), v1, v2, v3, v4], st, SH, σ) = ma_rn ro d 30 (93, [some (.ref a1), v1, v2, v3, v4], .ref a1 :: st, SH, σ)) ∧
  (∀ (v0 : Option Value) (v1 : Option Value) (v2 : Option Value) (v3 : Option Value) (v4 : Option Value) (a1 : Nat) (st : List Value) (σ : ma_H), ma_rn ro d 30 (93, [v0, v1, v2, v3, v4], .ref a1 :: st, SH, σ) = ma_rn ro d 30 (94, [v0, v1, v2, v3, v4], .ref a1 :: .ref a1 :: st, SH, σ)) ∧
  (∀ (v0 : Option Value) (v1 : Option Value) (v2 : Option Value) (v3 : Option Value) (v4 : Option Value) (a1 : Nat) (st : List Value) (σ : ma_H) (hc : hk_cls a1 = 3), ma_rn ro d 30 (94, [v0, v1, v2, v3, v4], .ref a1 :: st, SH, σ) = ma_rn ro d 30 (97, [v0, v1, v2, v3, v4], .int (σ a1 2) :: st, SH, σ)) ∧
  (∀ (v0 : Option Value) (v1 : Option Value) (v2 : Option Value) (v3 : Option Value) (v4 : Option Value) (st : List Value) (σ : ma_H), ma_rn ro d 30 (97, [v0, v1, v2, v3, v4], st, SH, σ) = ma_rn ro d 30 (98, [v0, v1, v2, v3, v4], .int (nI 1) :: st, SH, σ)) ∧
  (∀ (v0 : Option Value) (v1 : Option Value) (v2 : Option Value) (v3 : Option Value) (v4 : Option Value) (x1 : Int32) (x2 : Int32) (st : List Value) (σ : ma_H), ma_rn ro d 30 (98, [v0, v1, v2, v3, v4], .int x1 :: .int x2 :: st, SH, σ) = ma_rn ro d 30 (99, [v0, v1, v2, v3, v4], .int (x2 + x1) :: st, SH, σ)) ∧
  (∀ (v0 : Option Value) (v1 : Option Value) (v2 : Option Value) (v3 : Option Value) (v4 : Option Value) (x1 : Int32) (a2 : Nat) (st : List Value) (σ : ma_H) (hc : hk_cls a2 = 3), ma_rn ro d 30 (99, [v0, v1, v2, v3, v4], .int x1 :: .ref a2 :: st, SH, σ) = ma_rn ro d 30 (102, [v0, v1, v2, v3, v4], st, SH, (ma_up σ a2 2 x1))) ∧
  (∀ (v0 : Option Value) (v1 : Option Value) (v2 : Option Value) (x1 : Int32) (x9 : Int32) (st : List Value) (σ : ma_H), ma_rn ro d 30 (102, [v0, v1, v2, some (.int x9), some (.int x1)], st, SH, σ) = ma_rn ro d 30 (105, [v0, v1, v2, some (.int x9), some (.int (x1 + nI 1))], st, SH, σ)) ∧
  (∀ (v0 : Option Value) (v1 : Option Value) (v2 : Option Value) (v3 : Option Value) (v4 : Option Value) (st : List Value) (σ : ma_H), ma_rn ro d 30 (105, [v0, v1, v2, v3, v4], st, SH, σ) = ma_rn ro d 30 (7, [v0, v1, v2, v3, v4], st, SH, σ)) ∧
  (∀ (v0 : Option Value) (v1 : Option Value) (v2 : Option Value) (v3 : Option Value) (v4 : Option Value) (σ : ma_H), ma_rn ro d 30 (108, [v0, v1, v2, v3, v4], [], SH, σ) = some (none, SH, σ)) := ⟨fun v0 v1 v2 v3 v4 st σ => q_iconst e30_0 (by decide),
  fun v0 v2 v3 v4 x9 x1 st σ => q_go e30_1 rfl rfl,
  fun v0 v1 v2 v3 v4 st σ => q_iconst e30_2 (by decide),
  fun v0 v1 v3 v4 x9 x1 st σ => q_go e30_3 rfl rfl,
  fun v0 v1 v2 v3 v4 st σ => q_iconst e30_4 (by decide),
  fun v0 v1 v2 v4 x9 x1 st σ => q_go e30_5 rfl rfl,
  fun v0 v1 v2 v3 v4 st σ => q_bipush e30_9 (by decide),
  fun v0 v1 v2 v3 v4 x1 x2 st σ => (q_cmp e30_11 rfl).trans q_gt,
  fun v1 v2 v3 v4 a1 st σ => q_go e30_14 rfl rfl,
  fun v0 v2 v3 v4 x1 st σ => q_go e30_15 rfl rfl,
  fun v0 v1 v2 v3 v4 x1 a0 σ hc => q_invV (as := [.int x1]) (rest := []) e30_16 o_30 bn_3_75 c_3_75 m_31 (by decide) rfl rfl (Nat.le_of_ble_eq_true rfl) (Nat.le_of_ble_eq_true rfl) hc,
  fun v1 v2 v3 v4 a1 st σ => q_go e30_19 rfl rfl,
  fun v0 v1 v2 v3 v4 a1 st σ hc => q_getI e30_20 o_30 f_3_28 (by decide) hc,
  fun v0 v1 v2 v3 v4 x1 st σ => (q_if e30_23 rfl).trans q_lt,
  fun v0 v1 v2 v3 v4 σ => q_vret e30_26 r_30,
  fun v0 v1 v3 v4 x1 st σ => q_go e30_27 rfl rfl,
  fun v0 v1 v2 v3 v4 x1 st σ => (q_if e30_28 rfl).trans q_eq,
  fun v1 v2 v3 v4 a1 st σ => q_go e30_31 rfl rfl,
  fun v0 v1 v2 v3 v4 a1 st σ hc => q_getA e30_32 o_30 f_3_15 (by decide) hc,
  fun v0 v1 v2 v3 v4 st σ => q_bipush e30_35 (by decide),
  fun v0 v1 v2 v3 v4 x1 a0 σ hc => q_invV (as := [.int x1]) (rest := []) e30_37 o_30 bn_3_78 c_3_78 m_19 (by decide) rfl rfl (Nat.le_of_ble_eq_true rfl) (Nat.le_of_ble_eq_true rfl) hc,
  fun v1 v2 v3 v4 a1 st σ => q_go e30_40 rfl rfl,
  fun v0 v1 v2 v3 v4 a0 σ hc => q_invV (as := []) (rest := []) e30_41 o_30 bn_3_39 c_3_39 m_36 (by decide) rfl rfl (Nat.le_of_ble_eq_true rfl) (Nat.le_of_ble_eq_true rfl) hc,
  fun v0 v1 v2 v3 v4 st σ => q_bipush e30_44 (by decide),
  fun v0 v1 v2 v3 v4 x1 x2 st σ => (q_cmp e30_46 rfl).trans q_ne,
  fun v0 v1 v2 v3 v4 st σ => q_iconst e30_49 (by decide),
  fun v0 v1 v2 v3 v4 st σ => q_goto e30_50 rfl,
  fun v0 v1 v2 v3 v4 st σ => q_iconst e30_53 (by decide),
  fun v0 v2 v3 v4 x9 x1 st σ => q_go e30_54 rfl rfl,
  fun v0 v1 v3 v4 x1 st σ => q_go e30_55 rfl rfl,
  fun v0 v1 v2 v3 v4 x1 st σ => (q_if e30_56 rfl).trans q_ne,
  fun v0 v1 v2 v4 x1 st σ => q_go e30_59 rfl rfl,
  fun v0 v1 v2 v3 v4 x1 st σ => (q_if e30_60 rfl).trans q_eq,
  fun v1 v2 v3 v4 a1 st σ => q_go e30_63 rfl rfl,
  fun v0 v1 v2 v3 v4 a1 st σ hc => q_getA e30_64 o_30 f_3_15 (by decide) hc,
  fun v0 v1 v2 v3 v4 st σ => q_bipush e30_67 (by decide),
  fun v0 v1 v2 v3 v4 x1 a0 σ hc => q_invV (as := [.int x1]) (rest := []) e30_69 o_30 bn_3_78 c_3_78 m_19 (by decide) rfl rfl (Nat.le_of_ble_eq_true rfl) (Nat.le_of_ble_eq_true rfl) hc,
  fun v1 v2 v3 v4 a1 st σ => q_go e30_72 rfl rfl,
  fun v0 v1 v2 v3 v4 a0 σ hc => q_invV (as := []) (rest := []) e30_73 o_30 bn_3_39 c_3_39 m_36 (by decide) rfl rfl (Nat.le_of_ble_eq_true rfl) (Nat.le_of_ble_eq_true rfl) hc,
  fun v0 v1 v2 v3 v4 st σ => q_bipush e30_76 (by decide),
  fun v0 v1 v2 v3 v4 x1 x2 st σ => (q_cmp e30_78 rfl).trans q_ne,
  fun v0 v1 v2 v3 v4 st σ => q_iconst e30_81 (by decide),
  fun v0 v1 v2 v3 v4 st σ => q_goto e30_82 rfl,
  fun v0 v1 v2 v3 v4 st σ => q_iconst e30_85 (by decide),
  fun v0 v1 v3 v4 x9 x1 st σ => q_go e30_86 rfl rfl,
  fun v0 v1 v2 v4 x1 st σ => q_go e30_87 rfl rfl,
  fun v0 v1 v2 v3 v4 x1 st σ => (q_if e30_88 rfl).trans q_ne,
  fun v0 v1 v2 v3 v4 σ => q_vret e30_91 r_30,
  fun v1 v2 v3 v4 a1 st σ => q_go e30_92 rfl rfl,
  fun v0 v1 v2 v3 v4 a1 st σ => q_go e30_93 rfl rfl,
  fun v0 v1 v2 v3 v4 a1 st σ hc => q_getI e30_94 o_30 f_3_24 (by decide) hc,
  fun v0 v1 v2 v3 v4 st σ => q_iconst e30_97 (by decide),
  fun v0 v1 v2 v3 v4 x1 x2 st σ => q_go e30_98 rfl rfl,
  fun v0 v1 v2 v3 v4 x1 a2 st σ hc => q_putI e30_99 o_30 f_3_24 (by decide) rfl hc,
  fun v0 v1 v2 x1 x9 st σ => q_iinc e30_102 rfl rfl (by decide),
  fun v0 v1 v2 v3 v4 st σ => q_goto e30_105 rfl,
  fun v0 v1 v2 v3 v4 σ => q_vret e30_108 r_30⟩
theorem E30 {ro : ma_RO} {d : Nat} (a0 : Nat) (x1 : Int32) (sh : List ma_Sh) (σ : ma_H) : ma_ev ro d 30 [.ref a0, .int x1] sh σ = ma_rn ro d 30 (0, [some (.ref a0), some (.int x1), none, none, none], [], sh, σ) := q_ent x_30 rfl
theorem e31_0 : decode (ma_cd 31) 0 = .ok (.aload_n 0, 1) := (congrArg (fun b => decode b 0) cd_31).trans dX3_readFactor_0
theorem e31_1 : decode (ma_cd 31) 1 = .ok (.invokevirtual 39, 3) := (congrArg (fun b => decode b 1) cd_31).trans dX3_readFactor_1
theorem e31_4 : decode (ma_cd 31) 4 = .ok (.istore_n 2, 1) := (congrArg (fun b => decode b 4) cd_31).trans dX3_readFactor_4
theorem e31_5 : decode (ma_cd 31) 5 = .ok (.iload_n 2, 1) := (congrArg (fun b => decode b 5) cd_31).trans dX3_readFactor_5
theorem e31_6 : decode (ma_cd 31) 6 = .ok (.bipush 33, 2) := (congrArg (fun b => decode b 6) cd_31).trans dX3_readFactor_6
theorem e31_8 : decode (ma_cd 31) 8 = .ok (.if_icmp .eq 33, 3) := (congrArg (fun b => decode b 8) cd_31).trans dX3_readFactor_8
theorem e31_11 : decode (ma_cd 31) 11 = .ok (.iload_n 2, 1) := (congrArg (fun b => decode b 11) cd_31).trans dX3_readFactor_11
theorem e31_12 : decode (ma_cd 31) 12 = .ok (.bipush 40, 2) := (congrArg (fun b => decode b 12) cd_31).trans dX3_readFactor_12
theorem e31_14 : decode (ma_cd 31) 14 = .ok (.if_icmp .eq 27, 3) := (congrArg (fun b => decode b 14) cd_31).trans dX3_readFactor_14
theorem e31_17 : decode (ma_cd 31) 17 = .ok (.aload_n 0, 1) := (congrArg (fun b => decode b 17) cd_31).trans dX3_readFactor_17
theorem e31_18 : decode (ma_cd 31) 18 = .ok (.getfield 15, 3) := (congrArg (fun b => decode b 18) cd_31).trans dX3_readFactor_18
theorem e31_21 : decode (ma_cd 31) 21 = .ok (.aload_n 0, 1) := (congrArg (fun b => decode b 21) cd_31).trans dX3_readFactor_21
theorem e31_22 : decode (ma_cd 31) 22 = .ok (.ldc 81, 2) := (congrArg (fun b => decode b 22) cd_31).trans dX3_readFactor_22
theorem e31_24 : decode (ma_cd 31) 24 = .ok (.invokevirtual 83, 3) := (congrArg (fun b => decode b 24) cd_31).trans dX3_readFactor_24
theorem e31_27 : decode (ma_cd 31) 27 = .ok (.aload_n 0, 1) := (congrArg (fun b => decode b 27) cd_31).trans dX3_readFactor_27
theorem e31_28 : decode (ma_cd 31) 28 = .ok (.ldc 87, 2) := (congrArg (fun b => decode b 28) cd_31).trans dX3_readFactor_28
theorem e31_30 : decode (ma_cd 31) 30 = .ok (.invokevirtual 83, 3) := (congrArg (fun b => decode b 30) cd_31).trans dX3_readFactor_30
theorem e31_33 : decode (ma_cd 31) 33 = .ok (.aload_n 0, 1) := (congrArg (fun b => decode b 33) cd_31).trans dX3_readFactor_33
theorem e31_34 : decode (ma_cd 31) 34 = .ok (.invokevirtual 56, 3) := (congrArg (fun b => decode b 34) cd_31).trans dX3_readFactor_34
theorem e31_37 : decode (ma_cd 31) 37 = .ok (.invokevirtual 89, 3) := (congrArg (fun b => decode b 37) cd_31).trans dX3_readFactor_37
theorem e31_40 : decode (ma_cd 31) 40 = .ok (.return_, 1) := (congrArg (fun b => decode b 40) cd_31).trans dX3_readFactor_40
theorem e31_41 : decode (ma_cd 31) 41 = .ok (.iload_n 1, 1) := (congrArg (fun b => decode b 41) cd_31).trans dX3_readFactor_41
theorem e31_42 : decode (ma_cd 31) 42 = .ok (.iconst 5, 1) := (congrArg (fun b => decode b 42) cd_31).trans dX3_readFactor_42
theorem e31_43 : decode (ma_cd 31) 43 = .ok (.if_icmp .lt 12, 3) := (congrArg (fun b => decode b 43) cd_31).trans dX3_readFactor_43
theorem e31_46 : decode (ma_cd 31) 46 = .ok (.aload_n 0, 1) := (congrArg (fun b => decode b 46) cd_31).trans dX3_readFactor_46
theorem e31_47 : decode (ma_cd 31) 47 = .ok (.aload_n 0, 1) := (congrArg (fun b => decode b 47) cd_31).trans dX3_readFactor_47
theorem e31_48 : decode (ma_cd 31) 48 = .ok (.getfield 24, 3) := (congrArg (fun b => decode b 48) cd_31).trans dX3_readFactor_48
theorem e31_51 : decode (ma_cd 31) 51 = .ok (.putfield 28, 3) := (congrArg (fun b => decode b 51) cd_31).trans dX3_readFactor_51
theorem e31_54 : decode (ma_cd 31) 54 = .ok (.return_, 1) := (congrArg (fun b => decode b 54) cd_31).trans dX3_readFactor_54
theorem e31_55 : decode (ma_cd 31) 55 = .ok (.aload_n 0, 1) := (congrArg (fun b => decode b 55) cd_31).trans dX3_readFactor_55
theorem e31_56 : decode (ma_cd 31) 56 = .ok (.dup, 1) := (congrArg (fun b => decode b 56) cd_31).trans dX3_readFactor_56
theorem e31_57 : decode (ma_cd 31) 57 = .ok (.getfield 24, 3) := (congrArg (fun b => decode b 57) cd_31).trans dX3_readFactor_57
theorem e31_60 : decode (ma_cd 31) 60 = .ok (.iconst 1, 1) := (congrArg (fun b => decode b 60) cd_31).trans dX3_readFactor_60
theorem e31_61 : decode (ma_cd 31) 61 = .ok (.iadd, 1) := (congrArg (fun b => decode b 61) cd_31).trans dX3_readFactor_61
theorem e31_62 : decode (ma_cd 31) 62 = .ok (.putfield 24, 3) := (congrArg (fun b => decode b 62) cd_31).trans dX3_readFactor_62
theorem e31_65 : decode (ma_cd 31) 65 = .ok (.iload_n 2, 1) := (congrArg (fun b => decode b 65) cd_31).trans dX3_readFactor_65
theorem e31_66 : decode (ma_cd 31) 66 = .ok (.bipush 33, 2) := (congrArg (fun b => decode b 66) cd_31).trans dX3_readFactor_66
theorem e31_68 : decode (ma_cd 31) 68 = .ok (.if_icmp .ne 22, 3) := (congrArg (fun b => decode b 68) cd_31).trans dX3_readFactor_68
theorem e31_71 : decode (ma_cd 31) 71 = .ok (.aload_n 0, 1) := (congrArg (fun b => decode b 71) cd_31).trans dX3_readFactor_71
theorem e31_72 : decode (ma_cd 31) 72 = .ok (.iload_n 1, 1) := (congrArg (fun b => decode b 72) cd_31).trans dX3_readFactor_72
theorem e31_73 : decode (ma_cd 31) 73 = .ok (.iconst 1, 1) := (congrArg (fun b => decode b 73) cd_31).trans dX3_readFactor_73
theorem e31_74 : decode (ma_cd 31) 74 = .ok (.iadd, 1) := (congrArg (fun b => decode b 74) cd_31).trans dX3_readFactor_74
theorem e31_75 : decode (ma_cd 31) 75 = .ok (.invokevirtual 75, 3) := (congrArg (fun b => decode b 75) cd_31).trans dX3_readFactor_75
theorem e31_78 : decode (ma_cd 31) 78 = .ok (.aload_n 0, 1) := (congrArg (fun b => decode b 78) cd_31).trans dX3_readFactor_78
theorem e31_79 : decode (ma_cd 31) 79 = .ok (.getfield 15, 3) := (congrArg (fun b => decode b 79) cd_31).trans dX3_readFactor_79
theorem e31_82 : decode (ma_cd 31) 82 = .ok (.bipush 6, 2) := (congrArg (fun b => decode b 82) cd_31).trans dX3_readFactor_82
theorem e31_84 : decode (ma_cd 31) 84 = .ok (.invokevirtual 78, 3) := (congrArg (fun b => decode b 84) cd_31).trans dX3_readFactor_84
theorem e31_87 : decode (ma_cd 31) 87 = .ok (.goto 16, 3) := (congrArg (fun b => decode b 87) cd_31).trans dX3_readFactor_87
theorem e31_90 : decode (ma_cd 31) 90 = .ok (.aload_n 0, 1) := (congrArg (fun b => decode b 90) cd_31).trans dX3_readFactor_90
theorem e31_91 : decode (ma_cd 31) 91 = .ok (.iload_n 1, 1) := (congrArg (fun b => decode b 91) cd_31).trans dX3_readFactor_91
theorem e31_92 : decode (ma_cd 31) 92 = .ok (.iconst 1, 1) := (congrArg (fun b => decode b 92) cd_31).trans dX3_readFactor_92
theorem e31_93 : decode (ma_cd 31) 93 = .ok (.iadd, 1) := (congrArg (fun b => decode b 93) cd_31).trans dX3_readFactor_93
theorem e31_94 : decode (ma_cd 31) 94 = .ok (.invokevirtual 64, 3) := (congrArg (fun b => decode b 94) cd_31).trans dX3_readFactor_94
theorem e31_97 : decode (ma_cd 31) 97 = .ok (.aload_n 0, 1) := (congrArg (fun b => decode b 97) cd_31).trans dX3_readFactor_97
theorem e31_98 : decode (ma_cd 31) 98 = .ok (.ldc 93, 2) := (congrArg (fun b => decode b 98) cd_31).trans dX3_readFactor_98
theorem e31_100 : decode (ma_cd 31) 100 = .ok (.invokevirtual 52, 3) := (congrArg (fun b => decode b 100) cd_31).trans dX3_readFactor_100
theorem e31_103 : decode (ma_cd 31) 103 = .ok (.return_, 1) := (congrArg (fun b => decode b 103) cd_31).trans dX3_readFactor_103
theorem S31 {ro : ma_RO} {d : Nat} : (∀ (v1 : Option Value) (v2 : Option Value) (a1 : Nat) (st : List Value) (σ : ma_H), ma_rn ro d 31 (0, [some (.ref a1), v1, v2], st, SH, σ) = ma_rn ro d 31 (1, [some (.ref a1), v1, v2], .ref a1 :: st, SH, σ)) ∧
  (∀ (v0 : Option Value) (v1 : Option Value) (v2 : Option Value) (a0 : Nat) (σ : ma_H) (hc : hk_cls a0 = 3), ma_rn ro (d + 1) 31 (1, [v0, v1, v2], .ref a0 :: [], SH, σ) = (ma_ev ro d 36 [.ref a0] SH σ).bind (fun q => ma_rn ro (d + 1) 31 (4, [v0, v1, v2], (q.1.toList ++ []), q.2.1, q.2.2))) ∧
  (∀ (v0 : Option Value) (v2 : Option Value) (x9 : Int32) (x1 : Int32) (st : List Value) (σ : ma_H), ma_rn ro d 31 (4, [v0, some (.int x9), v2], .int x1 :: st, SH, σ) = ma_rn ro d 31 (5, [v0, some (.int x9), some (.int x1)], st, SH, σ)) ∧
  (∀ (v0 : Option Value) (v1 : Option Value) (x1 : Int32) (st : List Value) (σ : ma_H), ma_rn ro d 31 (5, [v0, v1, some (.int x1)], st, SH, σ) = ma_rn ro d 31 (6, [v0, v1, some (.int x1)], .int x1 :: st, SH, σ)) ∧
  (∀ (v0 : Option Value) (v1 : Option Value) (v2 : Option Value) (st : List Value) (σ : ma_H), ma_rn ro d 31 (6, [v0, v1, v2], st, SH, σ) = ma_rn ro d 31 (8, [v0, v1, v2], .int (nI 33) :: st, SH, σ)) ∧
  (∀ (v0 : Option Value) (v1 : Option Value) (v2 : Option Value) (x1 : Int32) (x2 : Int32) (st : List Value) (σ : ma_H), ma_rn ro d 31 (8, [v0, v1, v2], .int x1 :: .int x2 :: st, SH, σ) = if x2 = x1 then ma_rn ro d 31 (41, [v0, v1, v2], st, SH, σ) else ma_rn ro d 31 (11, [v0, v1, v2], st, SH, σ)) ∧
  (∀ (v0 : Option Value) (v1 : Option Value) (x1 : Int32) (st : List Value) (σ : ma_H), ma_rn ro d 31 (11, [v0, v1, some (.int x1)], st, SH, σ) = ma_rn ro d 31 (12, [v0, v1, some (.int x1)], .int x1 :: st, SH, σ)) ∧
  (∀ (v0 : Option Value) (v1 : Option Value) (v2 : Option Value) (st : List Value) (σ : ma_H), ma_rn ro d 31 (12, [v0, v1, v2], st, SH, σ) = ma_rn ro d 31 (14, [v0, v1, v2], .int (nI 40) :: st, SH, σ)) ∧
  (∀ (v0 : Option Value) (v1 : Option Value) (v2 : Option Value) (x1 : Int32) (x2 : Int32) (st : List Value) (σ : ma_H), ma_rn ro d 31 (14, [v0, v1, v2], .int x1 :: .int x2 :: st, SH, σ) = if x2 = x1 then ma_rn ro d 31 (41, [v0, v1, v2], st, SH, σ) else ma_rn ro d 31 (17, [v0, v1, v2], st, SH, σ)) ∧
  (∀ (v1 : Option Value) (v2 : Option Value) (a1 : Nat) (st : List Value) (σ : ma_H), ma_rn ro d 31 (17, [some (.ref a1), v1, v2], st, SH, σ) = ma_rn ro d 31 (18, [some (.ref a1), v1, v2], .ref a1 :: st, SH, σ)) ∧
  (∀ (v0 : Option Value) (v1 : Option Value) (v2 : Option Value) (a1 : Nat) (st : List Value) (σ : ma_H) (hc : hk_cls a1 = 3), ma_rn ro d 31 (18, [v0, v1, v2], .ref a1 :: st, SH, σ) = ma_rn ro d 31 (21, [v0, v1, v2], .ref (65) :: st, SH, σ)) ∧
  (∀ (v1 : Option Value) (v2 : Option Value) (a1 : Nat) (st : List Value) (σ : ma_H), ma_rn ro d 31 (21, [some (.ref a1), v1, v2], st, SH, σ) = ma_rn ro d 31 (22, [some (.ref a1), v1, v2], .ref a1 :: st, SH, σ)) ∧
  (∀ (v0 : Option Value) (v1 : Option Value) (v2 : Option Value) (st : List Value) (σ : ma_H), ma_rn ro d 31 (22, [v0, v1, v2], st, SH, σ) = ma_rn ro d 31 (24, [v0, v1, v2], .ref (1000000 + 4) :: st, SH, σ)) ∧
  (∀ (v0 : Option Value) (v1 : Option Value) (v2 : Option Value) (a20 : Nat) (a1 : Nat) (a0 : Nat) (σ : ma_H) (hc : hk_cls a0 = 3), ma_rn ro (d + 1) 31 (24, [v0, v1, v2], .ref a1 :: .ref a0 :: .ref a20 :: [], SH, σ) = (ma_ev ro d 32 [.ref a0, .ref a1] SH σ).bind (fun q => ma_rn ro (d + 1) 31 (27, [v0, v1, v2], (q.1.toList ++ (.ref a20 :: [])), q.2.1, q.2.2))) ∧
  (∀ (v1 : Option Value) (v2 : Option Value) (a1 : Nat) (st : List Value) (σ : ma_H), ma_rn ro d 31 (27, [some (.ref a1), v1, v2], st, SH, σ) = ma_rn ro d 31 (28, [some (.ref a1), v1, v2], .ref a1 :: st, SH, σ)) ∧
  (∀ (v0 : Option Value) (v1 : Option Value) (v2 : Option Value) (st : List Value) (σ : ma_H), ma_rn ro d 31 (28, [v0, v1, v2], st, SH, σ) = ma_rn ro d 31 (30, [v0, v1, v2], .ref (1000000 + 5) :: st, SH, σ)) ∧
  (∀ (v0 : Option Value) (v1 : Option Value) (v2 : Option Value) (x20 : Int32) (a21 : Nat) (a1 : Nat) (a0 : Nat) (σ : ma_H) (hc : hk_cls a0 = 3), ma_rn ro (d + 1) 31 (30, [v0, v1, v2], .ref a1 :: .ref a0 :: .int x20 :: .ref a21 :: [], SH, σ) = (ma_ev ro d 32 [.ref a0, .ref a1] SH σ).bind (fun q => ma_rn ro (d + 1) 31 (33, [v0, v1, v2], (q.1.toList ++ (.int x20 :: .ref a21 :: [])), q.2.1, q.2.2))) ∧
  (∀ (v1 : Option Value) (v2 : Option Value) (a1 : Nat) (st : List Value) (σ : ma_H), ma_rn ro d 31 (33, [some (.ref a1), v1, v2], st, SH, σ) = ma_rn ro d 31 (34, [some (.ref a1), v1, v2], .ref a1 :: st, SH, σ)) ∧
  (∀ (v0 : Option Value) (v1 : Option Value) (v2 : Option Value) (x20 : Int32) (x21 : Int32) (a22 : Nat) (a0 : Nat) (σ : ma_H) (hc : hk_cls a0 = 3), ma_rn ro (d + 1) 31 (34, [v0, v1, v2], .ref a0 :: .int x20 :: .int x21 :: .ref a22 :: [], SH, σ) = (ma_ev ro d 33 [.ref a0] SH σ).bind (fun q => ma_rn ro (d + 1) 31 (37, [v0, v1, v2], (q.1.toList ++ (.int x20 :: .int x21 :: .ref a22 :: [])), q.2.1, q.2.2))) ∧
  (∀ (v0 : Option Value) (v1 : Option Value) (v2 : Option Value) (x1 : Int32) (x2 : Int32) (x3 : Int32) (a0 : Nat) (σ : ma_H) (hc : hk_cls a0 = 2), ma_rn ro (d + 1) 31 (37, [v0, v1, v2], .int x3 :: .int x2 :: .int x1 :: .ref a0 :: [], SH, σ) = (ma_ev ro d 20 [.ref a0, .int x1, .int x2, .int x3] SH σ).bind (fun q => ma_rn ro (d + 1) 31 (40, [v0, v1, v2], (q.1.toList ++ []), q.2.1, q.2.2))) ∧
  (∀ (v0 : Option Value) (v1 : Option Value) (v2 : Option Value) (σ : ma_H), ma_rn ro d 31 (40, [v0, v1, v2], [], SH, σ) = some (none, SH, σ)) ∧
  (∀ (v0 : Option Value) (v2 : Option Value) (x1 : Int32) (st : List Value) (σ : ma_H), ma_rn ro d 31 (41, [v0, some (.int x1), v2], st, SH, σ) = ma_rn ro d 31 (42, [v0, some (.int x1), v2], .int x1 :: st, SH, σ)) ∧
  (∀ (v0 : Option Value) (v1 : Option Value) (v2 : Option Value) (st : List Value) (σ : ma_H), ma_rn ro d 31 (42, [v0, v1, v2], st, SH, σ) = ma_rn ro d 31 (43, [v0, v1, v2], .int (nI 5) :: st, SH, σ)) ∧
  (∀ (v0 : Option Value) (v1 : Option Value) (v2 : Option Value) (x1 : Int32) (x2 : Int32) (st : List Value) (σ : ma_H), ma_rn ro d 31 (43, [v0, v1, v2], .int x1 :: .int x2 :: st, SH, σ) = if x2 < x1 then ma_rn ro d 31 (55, [v0, v1, v2], st, SH, σ) else ma_rn ro d 31 (46, [v0, v1, v2], st, SH, σ)) ∧
  (∀ (v1 : Option Value) (v2 : Option Value) (a1 : Nat) (st : List Value) (σ : ma_H), ma_rn ro d 31 (46, [some (.ref a1), v1, v2], st, SH, σ) = ma_rn ro d 31 (47, [some (.ref a1), v1, v2], .ref a1 :: st, SH, σ)) ∧
  (∀ (v1 : Option Value) (v2 : Option Value) (a1 : Nat) (st : List Value) (σ : ma_H), ma_rn ro d 31 (47, [some (.ref a1), v1, v2], st, SH, σ) = ma_rn ro d 31 (48, [some (.ref a1), v1, v2], .ref a1 :: st, SH, σ)) ∧
  (∀ (v0 : Option Value) (v1 : Option Value) (v2 : Option Value) (a1 : Nat) (st : List Value) (σ : ma_H) (hc : hk_cls a1 = 3), ma_rn ro d 31 (48, [v0, v1, v2], .ref a1 :: st, SH, σ) = ma_rn ro d 31 (51, [v0, v1, v2], .int (σ a1 2) :: st, SH, σ)) ∧
  (∀ (v0 : Option Value) (v1 : Option Value) (v2 : Option Value) (x1 : Int32) (a2 : Nat) (st : List Value) (σ : ma_H) (hc : hk_cls a2 = 3), ma_rn ro d 31 (51, [v0, v1, v2], .int x1 :: .ref a2 :: st, SH, σ) = ma_rn ro d 31 (54, [v0, v1, v2], st, SH, (ma_up σ a2 3 x1))) ∧
  (∀ (v0 : Option Value) (v1 : Option Value) (v2 : Option Value) (σ : ma_H), ma_rn ro d 31 (54, [v0, v1, v2], [], SH, σ) = some (none, SH, σ)) ∧
  (∀ (v1 : Option Value) (v2 : Option Value) (a1 : Nat) (st : List Value) (σ : ma_H), ma_rn ro d 31 (55, [some (.ref a1), v1, v2], st, SH, σ) = ma_rn ro d 31 (56, [some (.ref a1), v1, v2], .ref a1 :: st, SH, σ)) ∧
  (∀ (v0 : Option Value) (v1 : Option Value) (v2 : Option Value) (a1 : Nat) (st : List Value) (σ : ma_H), ma_rn ro d 31 (56, [v0, v1, v2], .ref a1 :: st, SH, σ) = ma_rn ro d 31 (57, [v0, v1, v2], .ref a1 :: .ref a1 :: st, SH, σ)) ∧
  (∀ (v0 : Option Value) (v1 : Option Value) (v2 : Option Value) (a1 : Nat) (st : List Value) (σ : ma_H) (hc : hk_cls a1 = 3), ma_rn ro d 31 (57, [v0, v1, v2], .ref a1 :: st, SH, σ) = ma_rn ro d 31 (60, [v0, v1, v2], .int (σ a1 2) :: st, SH, σ)) ∧
  (∀ (v0 : Option Value) (v1 : Option Value) (v2 : Option Value) (st : List Value) (σ : ma_H), ma_rn ro d 31 (60, [v0, v1, v2], st, SH, σ) = ma_rn ro d 31 (61, [v0, v1, v2], .int (nI 1) :: st, SH, σ)) ∧
  (∀ (v0 : Option Value) (v1 : Option Value) (v2 : Option Value) (x1 : Int32) (x2 : Int32) (st : List Value) (σ : ma_H), ma_rn ro d 31 (61, [v0, v1, v2], .int x1 :: .int x2 :: st, SH, σ) = ma_rn ro d 31 (62, [v0, v1, v2], .int (x2 + x1) :: st, SH, σ)) ∧
  (∀ (v0 : Option Value) (v1 : Option Value) (v2 : Option Value) (x1 : Int32) (a2 : Nat) (st : List Value) (σ : ma_H) (hc : hk_cls a2 = 3), ma_rn ro d 31 (62, [v0, v1, v2], .int x1 :: .ref a2 :: st, SH, σ) = ma_rn ro d 31 (65, [v0, v1, v2], st, SH, (ma_up σ a2 2 x1))) ∧
  (∀ (v0 : Option Value) (v1 : Option Value) (x1 : Int32) (st : List Value) (σ : ma_H), ma_rn ro d 31 (65, [v0, v1, some (.int x1)], st, SH, σ) = ma_rn ro d 31 (66, [v0, v1, some (.int x1)], .int x1 :: st, SH, σ)) ∧
  (∀ (v0 : Option Value) (v1 : Option Value) (v2 : Option Value) (st : List Value) (σ : ma_H), ma_rn ro d 31 (66, [v0, v1, v2], st, SH, σ) = ma_rn ro d 31 (68, [v0, v1, v2], .int (nI 33) :: st, SH, σ)) ∧
  (∀ (v0 : Option Value) (v1 : Option Value) (v2 : Option Value) (x1 : Int32) (x2 : Int32) (st : List Value) (σ : ma_H), ma_rn ro d 31 (68, [v0, v1, v2], .int x1 :: .int x2 :: st, SH, σ) = if x2 = x1 then ma_rn ro d 31 (71, [v0, v1, v2], st, SH, σ) else ma_rn ro d 31 (90, [v0, v1, v2], st, SH, σ)) ∧
  (∀ (v1 : Option Value) (v2 : Option Value) (a1 : Nat) (st : List Value) (σ : ma_H), ma_rn ro d 31 (71, [some (.ref a1), v1, v2], st, SH, σ) = ma_rn ro d 31 (72, [some (.ref a1), v1, v2], .ref a1 :: st, SH, σ)) ∧
  (∀ (v0 : Option Value) (v2 : Option Value) (x1 : Int32) (st : List Value) (σ : ma_H), ma_rn ro d 31 (72, [v0, some (.int x1), v2], st, SH, σ) = ma_rn ro d 31 (73, [v0, some (.int x1), v2], .int x1 :: st, SH, σ)) ∧
  (∀ (v0 : Option Value) (v1 : Option Value) (v2 : Option Value) (st : List Value) (σ : ma_H), ma_rn ro d 31 (73, [v0, v1, v2], st, SH, σ) = ma_rn ro d 31 (74, [v0, v1, v2], .int (nI 1) :: st, SH, σ)) ∧
  (∀ (v0 : Option Value) (v1 : Option Value) (v2 : Option Value) (x1 : Int32) (x2 : Int32) (st : List Value) (σ : ma_H), ma_rn ro d 31 (74, [v0, v1, v2], .int x1 :: .int x2 :: st, SH, σ) = ma_rn ro d 31 (75, [v0, v1, v2], .int (x2 + x1) :: st, SH, σ)) ∧
  (∀ (v0 : Option Value) (v1 : Option Value) (v2 : Option Value) (x1 : Int32) (a0 : Nat) (σ : ma_H) (hc : hk_cls a0 = 3), ma_rn ro (d + 1) 31 (75, [v0, v1, v2], .int x1 :: .ref a0 :: [], SH, σ) = (ma_ev ro d 31 [.ref a0, .int x1] SH σ).bind (fun q => ma_rn ro (d + 1) 31 (78, [v0, v1, v2], (q.1.toList ++ []), q.2.1, q.2.2))) ∧
  (∀ (v1 : Option Value) (v2 : Option Value) (a1 : Nat) (st : List Value) (σ : ma_H), ma_rn ro d 31 (78, [some (.ref a1), v1, v2], st, SH, σ) = ma_rn ro d 31 (79, [some (.ref a1), v1, v2], .ref a1 :: st, SH, σ)) ∧
  (∀ (v0 : Option Value) (v1 : Option Value) (v2 : Option Value) (a1 : Nat) (st : List Value) (σ : ma_H) (hc : hk_cls a1 = 3), ma_rn ro d 31 (79, [v0, v1, v2], .ref a1 :: st, SH, σ) = ma_rn ro d 31 (82, [v0, v1, v2], .ref (65) :: st, SH, σ)) ∧
  (∀ (v0 : Option Value) (v1 : Option Value) (v2 : Option Value) (st : List Value) (σ : ma_H), ma_rn ro d 31 (82, [v0, v1, v2], st, SH, σ) = ma_rn ro d 31 (84, [v0, v1, v2], .int (nI 6) :: st, SH, σ)) ∧
  (∀ (v0 : Option Value) (v1 : Option Value) (v2 : Option Value) (x1 : Int32) (a0 : Nat) (σ : ma_H) (hc : hk_cls a0 = 2), ma_rn ro (d + 1) 31 (84, [v0, v1, v2], .int x1 :: .ref a0 :: [], SH, σ) = (ma_ev ro d 19 [.ref a0, .int x1] SH σ).bind (fun q => ma_rn ro (d + 1) 31 (87, [v0, v1, v2], (q.1.toList ++ []), q.2.1, q.2.2))) ∧
  (∀ (v0 : Option Value) (v1 : Option Value) (v2 : Option Value) (st : List Value) (σ : ma_H), ma_rn ro d 31 (87, [v0, v1, v2], st, SH, σ) = ma_rn ro d 31 (103, [v0, v1, v2], st, SH, σ)) ∧
  (∀ (v1 : Option Value) (v2 : Option Value) (a1 : Nat) (st : List Value) (σ : ma_H), ma_rn ro d 31 (90, [some (.ref a1), v1, v2], st, SH, σ) = ma_rn ro d 31 (91, [some (.ref a1), v1, v2], .ref a1 :: st, SH, σ)) ∧
  (∀ (v0 : Option Value) (v2 : Option Value) (x1 : Int32) (st : List Value) (σ : ma_H), ma_rn ro d 31 (91, [v0, some (.int x1), v2], st, SH, σ) = ma_rn ro d 31 (92, [v0, some (.int x1), v2], .int x1 :: st, SH, σ)) ∧
  (∀ (v0 : Option Value) (v1 : Option Value) (v2 : Option Value) (st : List Value) (σ : ma_H), ma_rn ro d 31 (92, [v0, v1, v2], st, SH, σ) = ma_rn ro d 31 (93, [v0, v1, v2], .int (nI 1) :: st, SH, σ)) ∧
  (∀ (v0 : Option Value) (v1 : Option Value) (v2 : Option Value) (x1 : Int32) (x2 : Int32) (st : List Value) (σ : ma_H), ma_rn ro d 31 (93, [v0, v1, v2], .int x1 :: .int x2 :: st, SH, σ) = ma_rn ro d 31 (94, [v0, v1, v2], .int (x2 + x1) :: st, SH, σ)) ∧
  (∀ (v0 : Option Value) (v1 : Option Value) (v2 : Option Value) (x1 : Int32) (a0 : Nat) (σ : ma_H) (hc : hk_cls a0 = 3), ma_rn ro (d + 1) 31 (94, [v0, v1, v2], .int x1 :: .ref a0 :: [], SH, σ) = (ma_ev ro d 30 [.ref a0, .int x1] SH σ).bind (fun q => ma_rn ro (d + 1) 31 (97, [v0, v1, v2], (q.1.toList ++ []), q.2.1, q.2.2))) ∧
  (∀ (v1 : Option Value) (v2 : Option Value) (a1 : Nat) (st : List Value) (σ : ma_H), ma_rn ro d 31 (97, [some (.ref a1), v1, v2], st, SH, σ) = ma_rn ro d 31 (98, [some (.ref a1), v1, v2], .ref a1 :: st, SH, σ)) ∧
  (∀ (v0 : Option Value) (v1 : Option Value) (v2 : Option Value) (st : List Value) (σ : ma_H), ma_rn ro d 31 (98, [v0, v1, v2], st, SH, σ) = ma_rn ro d 31 (100, [v0, v1, v2], .ref (1000000 + 6) :: st, SH, σ)) ∧
  (∀ (v0 : Option Value) (v1 : Option Value) (v2 : Option Value) (a1 : Nat) (a0 : Nat) (σ : ma_H) (hc : hk_cls a0 = 3), ma_rn ro (d + 1) 31 (100, [v0, v1, v2], .ref a1 :: .ref a0 :: [], SH, σ) = (ma_ev ro d 35 [.ref a0, .ref a1] SH σ).bind (fun q => ma_rn ro (d + 1) 31 (103, [v0, v1, v2], (q.1.toList ++ []), q.2.1, q.2.2))) ∧
  (∀ (v0 : Option Value) (v1 : Option Value) (v2 : Option Value) (σ : ma_H), ma_rn ro d 31 (103, [v0, v1, v2], [], SH, σ) = some (none, SH, σ)) := ⟨fun v1 v2 a1 st σ => q_go e31_0 rfl rfl,
  fun v0 v1 v2 a0 σ hc => q_invV (as := []) (rest := []) e31_1 o_31 bn_3_39 c_3_39 m_36 (by decide) rfl rfl (Nat.le_of_ble_eq_true rfl) (Nat.le_of_ble_eq_true rfl) hc,
  fun v0 v2 x9 x1 st σ => q_go e31_4 rfl rfl,
  fun v0 v1 x1 st σ => q_go e31_5 rfl rfl,
  fun v0 v1 v2 st σ => q_bipush e31_6 (by decide),
  fun v0 v1 v2 x1 x2 st σ => (q_cmp e31_8 rfl).trans q_eq,
  fun v0 v1 x1 st σ => q_go e31_11 rfl rfl,
  fun v0 v1 v2 st σ => q_bipush e31_12 (by decide),
  fun v0 v1 v2 x1 x2 st σ => (q_cmp e31_14 rfl).trans q_eq,
  fun v1 v2 a1 st σ => q_go e31_17 rfl rfl,
  fun v0 v1 v2 a1 st σ hc => q_getA e31_18 o_31 f_3_15 (by decide) hc,
  fun v1 v2 a1 st σ => q_go e31_21 rfl rfl,
  fun v0 v1 v2 st σ => q_ldcS e31_22 o_31 kn_3_81 s_3_81,
  fun v0 v1 v2 a20 a1 a0 σ hc => q_invV (as := [.ref a1]) (rest := .ref a20 :: []) e31_24 o_31 bn_3_83 c_3_83 m_32 (by decide) rfl rfl (Nat.le_of_ble_eq_true rfl) (Nat.le_of_ble_eq_true rfl) hc,
  fun v1 v2 a1 st σ => q_go e31_27 rfl rfl,
  fun v0 v1 v2 st σ => q_ldcS e31_28 o_31 kn_3_87 s_3_87,
  fun v0 v1 v2 x20 a21 a1 a0 σ hc => q_invV (as := [.ref a1]) (rest := .int x20 :: .ref a21 :: []) e31_30 o_31 bn_3_83 c_3_83 m_32 (by decide) rfl rfl (Nat.le_of_ble_eq_true rfl) (Nat.le_of_ble_eq_true rfl) hc,
  fun v1 v2 a1 st σ => q_go e31_33 rfl rfl,
  fun v0 v1 v2 x20 x21 a22 a0 σ hc => q_invV (as := []) (rest := .int x20 :: .int x21 :: .ref a22 :: []) e31_34 o_31 bn_3_56 c_3_56 m_33 (by decide) rfl rfl (Nat.le_of_ble_eq_true rfl) (Nat.le_of_ble_eq_true rfl) hc,
  fun v0 v1 v2 x1 x2 x3 a0 σ hc => q_invV (as := [.int x1, .int x2, .int x3]) (rest := []) e31_37 o_31 bn_3_89 c_3_89 m_20 (by decide) rfl rfl (Nat.le_of_ble_eq_true rfl) (Nat.le_of_ble_eq_true rfl) hc,
  fun v0 v1 v2 σ => q_vret e31_40 r_31,
  fun v0 v2 x1 st σ => q_go e31_41 rfl rfl,
  fun v0 v1 v2 st σ => q_iconst e31_42 (by decide),
  fun v0 v1 v2 x1 x2 st σ => (q_cmp e31_43 rfl).trans q_lt,
  fun v1 v2 a1 st σ => q_go e31_46 rfl rfl,
  fun v1 v2 a1 st σ => q_go e31_47 rfl rfl,
  fun v0 v1 v2 a1 st σ hc => q_getI e31_48 o_31 f_3_24 (by decide) hc,
  fun v0 v1 v2 x1 a2 st σ hc => q_putI e31_51 o_31 f_3_28 (by decide) rfl hc,
  fun v0 v1 v2 σ => q_vret e31_54 r_31,
  fun v1 v2 a1 st σ => q_go e31_55 rfl rfl,
  fun v0 v1 v2 a1 st σ => q_go e31_56 rfl rfl,
  fun v0 v1 v2 a1 st σ hc => q_getI e31_57 o_31 f_3_24 (by decide) hc,
  fun v0 v1 v2 st σ => q_iconst e31_60 (by decide),
  fun v0 v1 v2 x1 x2 st σ => q_go e31_61 rfl rfl,
  fun v0 v1 v2 x1 a2 st σ hc => q_putI e31_62 o_31 f_3_24 (by decide) rfl hc,
  fun v0 v1 x1 st σ => q_go e31_65 rfl rfl,
  fun v0 v1 v2 st σ => q_bipush e31_66 (by decide),
  fun v0 v1 v2 x1 x2 st σ => (q_cmp e31_68 rfl).trans q_ne,
  fun v1 v2 a1 st σ => q_go e31_71 rfl rfl,
  fun v0 v2 x1 st σ => q_go e31_72 rfl rfl,
  fun v0 v1 v2 st σ => q_iconst e31_73 (by decide),
  fun v0 v1 v2 x1 x2 st σ => q_go e31_74 rfl rfl,
  fun v0 v1 v2 x1 a0 σ hc => q_invV (as := [.int x1]) (rest := []) e31_75 o_31 bn_3_75 c_3_75 m_31 (by decide) rfl rfl (Nat.le_of_ble_eq_true rfl) (Nat.le_of_ble_eq_true rfl) hc,
  fun v1 v2 a1 st σ => q_go e31_78 rfl rfl,
  fun v0 v1 v2 a1 st σ hc => q_getA e31_79 o_31 f_3_15 (by decide) hc,
  fun v0 v1 v2 st σ => q_bipush e31_82 (by decide),
  fun v0 v1 v2 x1 a0 σ hc => q_invV (as := [.int x1]) (rest := []) e31_84 o_31 bn_3_78 c_3_78 m_19 (by decide) rfl rfl (Nat.le_of_ble_eq_true rfl) (Nat.le_of_ble_eq_true rfl) hc,
  fun v0 v1 v2 st σ => q_goto e31_87 rfl,
  fun v1 v2 a1 st σ => q_go e31_90 rfl rfl,
  fun v0 v2 x1 st σ => q_go e31_91 rfl rfl,
  fun v0 v1 v2 st σ => q_iconst e31_92 (by decide),
  fun v0 v1 v2 x1 x2 st σ => q_go e31_93 rfl rfl,
  fun v0 v1 v2 x1 a0 σ hc => q_invV (as := [.int x1]) (rest := []) e31_94 o_31 bn_3_64 c_3_64 m_30 (by decide) rfl rfl (Nat.le_of_ble_eq_true rfl) (Nat.le_of_ble_eq_true rfl) hc,
  fun v1 v2 a1 st σ => q_go e31_97 rfl rfl,
  fun v0 v1 v2 st σ => q_ldcS e31_98 o_31 kn_3_93 s_3_93,
  fun v0 v1 v2 a1 a0 σ hc => q_invV (as := [.ref a1]) (rest := []) e31_100 o_31 bn_3_52 c_3_52 m_35 (by decide) rfl rfl (Nat.le_of_ble_eq_true rfl) (Nat.le_of_ble_eq_true rfl) hc,
  fun v0 v1 v2 σ => q_vret e31_103 r_31⟩
theorem E31 {ro : ma_RO} {d : Nat} (a0 : Nat) (x1 : Int32) (sh : List ma_Sh) (σ : ma_H) : ma_ev ro d 31 [.ref a0, .int x1] sh σ = ma_rn ro d 31 (0, [some (.ref a0), some (.int x1), none], [], sh, σ) := q_ent x_31 rfl
theorem e32_0 : decode (ma_cd 32) 0 = .ok (.aload_n 0, 1) := (congrArg (fun b => decode b 0) cd_32).trans dX3_readOneOf_0
theorem e32_1 : decode (ma_cd 32) 1 = .ok (.getfield 28, 3) := (congrArg (fun b => decode b 1) cd_32).trans dX3_readOneOf_1
theorem e32_4 : decode (ma_cd 32) 4 = .ok (.ifCond .lt 5, 3) := (congrArg (fun b => decode b 4) cd_32).trans dX3_readOneOf_4
theorem e32_7 : decode (ma_cd 32) 7 = .ok (.iconst 0, 1) := (congrArg (fun b => decode b 7) cd_32).trans dX3_readOneOf_7
theorem e32_8 : decode (ma_cd 32) 8 = .ok (.ireturn, 1) := (congrArg (fun b => decode b 8) cd_32).trans dX3_readOneOf_8
theorem e32_9 : decode (ma_cd 32) 9 = .ok (.aload_n 0, 1) := (congrArg (fun b => decode b 9) cd_32).trans dX3_readOneOf_9
theorem e32_10 : decode (ma_cd 32) 10 = .ok (.invokevirtual 39, 3) := (congrArg (fun b => decode b 10) cd_32).trans dX3_readOneOf_10
theorem e32_13 : decode (ma_cd 32) 13 = .ok (.istore_n 2, 1) := (congrArg (fun b => decode b 13) cd_32).trans dX3_readOneOf_13
theorem e32_14 : decode (ma_cd 32) 14 = .ok (.iconst 0, 1) := (congrArg (fun b => decode b 14) cd_32).trans dX3_readOneOf_14
theorem e32_15 : decode (ma_cd 32) 15 = .ok (.istore_n 3, 1) := (congrArg (fun b => decode b 15) cd_32).trans dX3_readOneOf_15
theorem e32_16 : decode (ma_cd 32) 16 = .ok (.iload_n 3, 1) := (congrArg (fun b => decode b 16) cd_32).trans dX3_readOneOf_16
theorem e32_17 : decode (ma_cd 32) 17 = .ok (.aload_n 1, 1) := (congrArg (fun b => decode b 17) cd_32).trans dX3_readOneOf_17
theorem e32_18 : decode (ma_cd 32) 18 = .ok (.invokevirtual 95, 3) := (congrArg (fun b => decode b 18) cd_32).trans dX3_readOneOf_18
theorem e32_21 : decode (ma_cd 32) 21 = .ok (.if_icmp .ge 30, 3) := (congrArg (fun b => decode b 21) cd_32).trans dX3_readOneOf_21
theorem e32_24 : decode (ma_cd 32) 24 = .ok (.iload_n 2, 1) := (congrArg (fun b => decode b 24) cd_32).trans dX3_readOneOf_24
theorem e32_25 : decode (ma_cd 32) 25 = .ok (.aload_n 1, 1) := (congrArg (fun b => decode b 25) cd_32).trans dX3_readOneOf_25
theorem e32_26 : decode (ma_cd 32) 26 = .ok (.iload_n 3, 1) := (congrArg (fun b => decode b 26) cd_32).trans dX3_readOneOf_26
theorem e32_27 : decode (ma_cd 32) 27 = .ok (.invokevirtual 100, 3) := (congrArg (fun b => decode b 27) cd_32).trans dX3_readOneOf_27
theorem e32_30 : decode (ma_cd 32) 30 = .ok (.if_icmp .ne 15, 3) := (congrArg (fun b => decode b 30) cd_32).trans dX3_readOneOf_30
theorem e32_33 : decode (ma_cd 32) 33 = .ok (.aload_n 0, 1) := (congrArg (fun b => decode b 33) cd_32).trans dX3_readOneOf_33
theorem e32_34 : decode (ma_cd 32) 34 = .ok (.dup, 1) := (congrArg (fun b => decode b 34) cd_32).trans dX3_readOneOf_34
theorem e32_35 : decode (ma_cd 32) 35 = .ok (.getfield 24, 3) := (congrArg (fun b => decode b 35) cd_32).trans dX3_readOneOf_35
theorem e32_38 : decode (ma_cd 32) 38 = .ok (.iconst 1, 1) := (congrArg (fun b => decode b 38) cd_32).trans dX3_readOneOf_38
theorem e32_39 : decode (ma_cd 32) 39 = .ok (.iadd, 1) := (congrArg (fun b => decode b 39) cd_32).trans dX3_readOneOf_39
theorem e32_40 : decode (ma_cd 32) 40 = .ok (.putfield 24, 3) := (congrArg (fun b => decode b 40) cd_32).trans dX3_readOneOf_40
theorem e32_43 : decode (ma_cd 32) 43 = .ok (.iload_n 3, 1) := (congrArg (fun b => decode b 43) cd_32).trans dX3_readOneOf_43
theorem e32_44 : decode (ma_cd 32) 44 = .ok (.ireturn, 1) := (congrArg (fun b => decode b 44) cd_32).trans dX3_readOneOf_44
theorem e32_45 : decode (ma_cd 32) 45 = .ok (.iinc 3 1, 3) := (congrArg (fun b => decode b 45) cd_32).trans dX3_readOneOf_45
theorem e32_48 : decode (ma_cd 32) 48 = .ok (.goto (-32), 3) := (congrArg (fun b => decode b 48) cd_32).trans dX3_readOneOf_48
theorem e32_51 : decode (ma_cd 32) 51 = .ok (.aload_n 0, 1) := (congrArg (fun b => decode b 51) cd_32).trans dX3_readOneOf_51
theorem e32_52 : decode (ma_cd 32) 52 = .ok (.aload_n 0, 1) := (congrArg (fun b => decode b 52) cd_32).trans dX3_readOneOf_52
theorem e32_53 : decode (ma_cd 32) 53 = .ok (.getfield 24, 3) := (congrArg (fun b => decode b 53) cd_32).trans dX3_readOneOf_53
theorem e32_56 : decode (ma_cd 32) 56 = .ok (.putfield 28, 3) := (congrArg (fun b => decode b 56) cd_32).trans dX3_readOneOf_56
theorem e32_59 : decode (ma_cd 32) 59 = .ok (.iconst 0, 1) := (congrArg (fun b => decode b 59) cd_32).trans dX3_readOneOf_59
theorem e32_60 : decode (ma_cd 32) 60 = .ok (.ireturn, 1) := (congrArg (fun b => decode b 60) cd_32).trans dX3_readOneOf_60
theorem Sh32_16 {ro : ma_RO} {d : Nat} : (∀ (v0 : Option Value) (v1 : Option Value) (v2 : Option Value) (x1 : Int32) (st : List Value) (σ : ma_H), ma_rn ro d 32 (16, [v0, v1, v2, some (.int x1)], st, SH, σ) = ma_rn ro d 32 (17, [v0, v1, v2, some (.int x1)], .int x1 :: st, SH, σ)) := fun v0 v1 v2 x1 st σ => q_go e32_16 rfl rfl
theorem S32 {ro : ma_RO} {d : Nat} : (∀ (v1 : Option Value) (v2 : Option Value) (v3 : Option Value) (a1 : Nat) (st : List Value) (σ : ma_H), ma_rn ro d 32 (0, [some (.ref a1), v1, v2, v3], st, SH, σ) = ma_rn ro d 32 (1, [some (.ref a1), v1, v2, v3], .ref a1 :: st, SH, σ)) ∧
  (∀ (v0 : Option Value) (v1 : Option Value) (v2 : Option Value) (v3 : Option Value) (a1 : Nat) (st : List Value) (σ : ma_H) (hc : hk_cls a1 = 3), ma_rn ro d 32 (1, [v0, v1, v2, v3], .ref a1 :: st, SH, σ) = ma_rn ro d 32 (4, [v0, v1, v2, v3], .int (σ a1 3) :: st, SH, σ)) ∧
  (∀ (v0 : Option Value) (v1 : Option Value) (v2 : Option Value) (v3 : Option Value) (x1 : Int32) (st : List Value) (σ : ma_H), ma_rn ro d 32 (4, [v0, v1, v2, v3], .int x1 :: st, SH, σ) = if x1 < nI 0 then ma_rn ro d 32 (9, [v0, v1, v2, v3], st, SH, σ) else ma_rn ro d 32 (7, [v0, v1, v2, v3], st, SH, σ)) ∧
  (∀ (v0 : Option Value) (v1 : Option Value) (v2 : Option Value) (v3 : Option Value) (st : List Value) (σ : ma_H), ma_rn ro d 32 (7, [v0, v1, v2, v3], st, SH, σ) = ma_rn ro d 32 (8, [v0, v1, v2, v3], .int (nI 0) :: st, SH, σ)) ∧
  (∀ (v0 : Option Value) (v1 : Option Value) (v2 : Option Value) (v3 : Option Value) (x1 : Int32) (σ : ma_H), ma_rn ro d 32 (8, [v0, v1, v2, v3], [.int x1], SH, σ) = some (some (.int x1), SH, σ)) ∧
  (∀ (v1 : Option Value) (v2 : Option Value) (v3 : Option Value) (a1 : Nat) (st : List Value) (σ : ma_H), ma_rn ro d 32 (9, [some (.ref a1), v1, v2, v3], st, SH, σ) = ma_rn ro d 32 (10, [some (.ref a1), v1, v2, v3], .ref a1 :: st, SH, σ)) ∧
  (∀ (v0 : Option Value) (v1 : Option Value) (v2 : Option Value) (v3 : Option Value) (a0 : Nat) (σ : ma_H) (hc : hk_cls a0 = 3), ma_rn ro (d + 1) 32 (10, [v0, v1, v2, v3], .ref a0 :: [], SH, σ) = (ma_ev ro d 36 [.ref a0] SH σ).bind (fun q => ma_rn ro (d + 1) 32 (13, [v0, v1, v2, v3], (q.1.toList ++ []), q.2.1, q.2.2))) ∧
  (∀ (v0 : Option Value) (v2 : Option Value) (v3 : Option Value) (a9 : Nat) (x1 : Int32) (st : List Value) (σ : ma_H), ma_rn ro d 32 (13, [v0, some (.ref a9), v2, v3], .int x1 :: st, SH, σ) = ma_rn ro d 32 (14, [v0, some (.ref a9), some (.int x1), v3], st, SH, σ)) ∧
  (∀ (v0 : Option Value) (v1 : Option Value) (v2 : Option Value) (v3 : Option Value) (st : List Value) (σ : ma_H), ma_rn ro d 32 (14, [v0, v1, v2, v3], st, SH, σ) = ma_rn ro d 32 (15, [v0, v1, v2, v3], .int (nI 0) :: st, SH, σ)) ∧
  (∀ (v0 : Option Value) (v1 : Option Value) (v3 : Option Value) (x9 : Int32) (x1 : Int32) (st : List Value) (σ : ma_H), ma_rn ro d 32 (15, [v0, v1, some (.int x9), v3], .int x1 :: st, SH, σ) = ma_rn ro d 32 (16, [v0, v1, some (.int x9), some (.int x1)], st, SH, σ)) ∧
  (∀ (v0 : Option Value) (v2 : Option Value) (v3 : Option Value) (a1 : Nat) (st : List Value) (σ : ma_H), ma_rn ro d 32 (17, [v0, some (.ref a1), v2, v3], st, SH, σ) = ma_rn ro d 32 (18, [v0, some (.ref a1), v2, v3], .ref a1 :: st, SH, σ)) ∧
  (∀ (v0 : Option Value) (v1 : Option Value) (v2 : Option Value) (v3 : Option Value) (x20 : Int32) (k : Nat) (σ : ma_H) (hk : k < 7), ma_rn ro d 32 (18, [v0, v1, v2, v3], .ref (1000000 + k) :: .int x20 :: [], SH, σ) = ma_rn ro d 32 (21, [v0, v1, v2, v3], .int (nI (ma_chs k).length) :: .int x20 :: [], SH, σ)) ∧
  (∀ (v0 : Option Value) (v1 : Option Value) (v2 : Option Value) (v3 : Option Value) (x1 : Int32) (x2 : Int32) (st : List Value) (σ : ma_H), ma_rn ro d 32 (21, [v0, v1, v2, v3], .int x1 :: .int x2 :: st, SH, σ) = if x2 < x1 then ma_rn ro d 32 (24, [v0, v1, v2, v3], st, SH, σ) else ma_rn ro d 32 (51, [v0, v1, v2, v3], st, SH, σ)) ∧
  (∀ (v0 : Option Value) (v1 : Option Value) (v3 : Option Value) (x1 : Int32) (st : List Value) (σ : ma_H), ma_rn ro d 32 (24, [v0, v1, some (.int x1), v3], st, SH, σ) = ma_rn ro d 32 (25, [v0, v1, some (.int x1), v3], .int x1 :: st, SH, σ)) ∧
  (∀ (v0 : Option Value) (v2 : Option Value) (v3 : Option Value) (a1 : Nat) (st : List Value) (σ : ma_H), ma_rn ro d 32 (25, [v0, some (.ref a1), v2, v3], st, SH, σ) = ma_rn ro d 32 (26, [v0, some (.ref a1), v2, v3], .ref a1 :: st, SH, σ)) ∧
  (∀ (v0 : Option Value) (v1 : Option Value) (v2 : Option Value) (x1 : Int32) (st : List Value) (σ : ma_H), ma_rn ro d 32 (26, [v0, v1, v2, some (.int x1)], st, SH, σ) = ma_rn ro d 32 (27, [v0, v1, v2, some (.int x1)], .int x1 :: st, SH, σ)) ∧
  (∀ (v0 : Option Value) (v1 : Option Value) (v2 : Option Value) (v3 : Option Value) (x20 : Int32) (k : Nat) (j : Nat) (σ : ma_H) (hk : k < 7) (hj : j < (ma_chs k).length), ma_rn ro d 32 (27, [v0, v1, v2, v3], .int (nI j) :: .ref (1000000 + k) :: .int x20 :: [], SH, σ) = ma_rn ro d 32 (30, [v0, v1, v2, v3], .int ((ma_chs k).getD j 0) :: .int x20 :: [], SH, σ)) ∧
  (∀ (v0 : Option Value) (v1 : Option Value) (v2 : Option Value) (v3 : Option Value) (x1 : Int32) (x2 : Int32) (st : List Value) (σ : ma_H), ma_rn ro d 32 (30, [v0, v1, v2, v3], .int x1 :: .int x2 :: st, SH, σ) = if x2 = x1 then ma_rn ro d 32 (33, [v0, v1, v2, v3], st, SH, σ) else ma_rn ro d 32 (45, [v0, v1, v2, v3], st, SH, σ)) ∧
  (∀ (v1 : Option Value) (v2 : Option Value) (v3 : Option Value) (a1 : Nat) (st : List Value) (σ : ma_H), ma_rn ro d 32 (33, [some (.ref a1), v1, v2, v3], st, SH, σ) = ma_rn ro d 32 (34, [some (.ref a1), v1, v2, v3], .ref a1 :: st, SH, σ)) ∧
  (∀ (v0 : Option Value) (v1 : Option Value) (v2 : Option Value) (v3 : Option Value) (a1 : Nat) (st : List Value) (σ : ma_H), ma_rn ro d 32 (34, [v0, v1, v2, v3], .ref a1 :: st, SH, σ) = ma_rn ro d 32 (35, [v0, v1, v2, v3], .ref a1 :: .ref a1 :: st, SH, σ)) ∧
  (∀ (v0 : Option Value) (v1 : Option Value) (v2 : Option Value) (v3 : Option Value) (a1 : Nat) (st : List Value) (σ : ma_H) (hc : hk_cls a1 = 3), ma_rn ro d 32 (35, [v0, v1, v2, v3], .ref a1 :: st, SH, σ) = ma_rn ro d 32 (38, [v0, v1, v2, v3], .int (σ a1 2) :: st, SH, σ)) ∧
  (∀ (v0 : Option Value) (v1 : Option Value) (v2 : Option Value) (v3 : Option Value) (st : List Value) (σ : ma_H), ma_rn ro d 32 (38, [v0, v1, v2, v3], st, SH, σ) = ma_rn ro d 32 (39, [v0, v1, v2, v3], .int (nI 1) :: st, SH, σ)) ∧
  (∀ (v0 : Option Value) (v1 : Option Value) (v2 : Option Value) (v3 : Option Value) (x1 : Int32) (x2 : Int32) (st : List Value) (σ : ma_H), ma_rn ro d 32 (39, [v0, v1, v2, v3], .int x1 :: .int x2 :: st, SH, σ) = ma_rn ro d 32 (40, [v0, v1, v2, v3], .int (x2 + x1) :: st, SH, σ)) ∧
  (∀ (v0 : Option Value) (v1 : Option Value) (v2 : Option Value) (v3 : Option Value) (x1 : Int32) (a2 : Nat) (st : List Value) (σ : ma_H) (hc : hk_cls a2 = 3), ma_rn ro d 32 (40, [v0, v1, v2, v3], .int x1 :: .ref a2 :: st, SH, σ) = ma_rn ro d 32 (43, [v0, v1, v2, v3], st, SH, (ma_up σ a2 2 x1))) ∧
  (∀ (v0 : Option Value) (v1 : Option Value) (v2 : Option Value) (x1 : Int32) (st : List Value) (σ : ma_H), ma_rn ro d 32 (43, [v0, v1, v2, some (.int x1)], st, SH, σ) = ma_rn ro d 32 (44, [v0, v1, v2, some (.int x1)], .int x1 :: st, SH, σ)) ∧
  (∀ (v0 : Option Value) (v1 : Option Value) (v2 : Option Value) (v3 : Option Value) (x1 : Int32) (σ : ma_H), ma_rn ro d 32 (44, [v0, v1, v2, v3], [.int x1], SH, σ) = some (some (.int x1), SH, σ)) ∧
  (∀ (v0 : Option Value) (v1 : Option Value) (x1 : Int32) (x9 : Int32) (st : List Value) (σ : ma_H), ma_rn ro d 32 (45, [v0, v1, some (.int x9), some (.int x1)], st, SH, σ) = ma_rn ro d 32 (48, [v0, v1, some (.int x9), some (.int (x1 + nI 1))], st, SH, σ)) ∧
  (∀ (v0 : Option Value) (v1 : Option Value) (v2 : Option Value) (v3 : Option Value) (st : List Value) (σ : ma_H), ma_rn ro d 32 (48, [v0, v1, v2, v3], st, SH, σ) = ma_rn ro d 32 (16, [v0, v1, v2, v3], st, SH, σ)) ∧
  (∀ (v1 : Option Value) (v2 : Option Value) (v3 : Option Value) (a1 : Nat) (st : List Value) (σ : ma_H), ma_rn ro d 32 (51, [some (.ref a1), v1, v2, v3], st, SH, σ) = ma_rn ro d 32 (52, [some (.ref a1), v1, v2, v3], .ref a1 :: st, SH, σ)) ∧
  (∀ (v1 : Option Value) (v2 : Option Value) (v3 : Option Value) (a1 : Nat) (st : List Value) (σ : ma_H), ma_rn ro d 32 (52, [some (.ref a1), v1, v2, v3], st, SH, σ) = ma_rn ro d 32 (53, [some (.ref a1), v1, v2, v3], .ref a1 :: st, SH, σ)) ∧
  (∀ (v0 : Option Value) (v1 : Option Value) (v2 : Option Value) (v3 : Option Value) (a1 : Nat) (st : List Value) (σ : ma_H) (hc : hk_cls a1 = 3), ma_rn ro d 32 (53, [v0, v1, v2, v3], .ref a1 :: st, SH, σ) = ma_rn ro d 32 (56, [v0, v1, v2, v3], .int (σ a1 2) :: st, SH, σ)) ∧
  (∀ (v0 : Option Value) (v1 : Option Value) (v2 : Option Value) (v3 : Option Value) (x1 : Int32) (a2 : Nat) (st : List Value) (σ : ma_H) (hc : hk_cls a2 = 3), ma_rn ro d 32 (56, [v0, v1, v2, v3], .int x1 :: .ref a2 :: st, SH, σ) = ma_rn ro d 32 (59, [v0, v1, v2, v3], st, SH, (ma_up σ a2 3 x1))) ∧
  (∀ (v0 : Option Value) (v1 : Option Value) (v2 : Option Value) (v3 : Option Value) (st : List Value) (σ : ma_H), ma_rn ro d 32 (59, [v0, v1, v2, v3], st, SH, σ) = ma_rn ro d 32 (60, [v0, v1, v2, v3], .int (nI 0) :: st, SH, σ)) ∧
  (∀ (v0 : Option Value) (v1 : Option Value) (v2 : Option Value) (v3 : Option Value) (x1 : Int32) (σ : ma_H), ma_rn ro d 32 (60, [v0, v1, v2, v3], [.int x1], SH, σ) = some (some (.int x1), SH, σ)) := ⟨fun v1 v2 v3 a1 st σ => q_go e32_0 rfl rfl,
  fun v0 v1 v2 v3 a1 st σ hc => q_getI e32_1 o_32 f_3_28 (by decide) hc,
  fun v0 v1 v2 v3 x1 st σ => (q_if e32_4 rfl).trans q_lt,
  fun v0 v1 v2 v3 st σ => q_iconst e32_7 (by decide),
  fun v0 v1 v2 v3 x1 σ => q_iret e32_8 r_32,
  fun v1 v2 v3 a1 st σ => q_go e32_9 rfl rfl,
  fun v0 v1 v2 v3 a0 σ hc => q_invV (as := []) (rest := []) e32_10 o_32 bn_3_39 c_3_39 m_36 (by decide) rfl rfl (Nat.le_of_ble_eq_true rfl) (Nat.le_of_ble_eq_true rfl) hc,
  fun v0 v2 v3 a9 x1 st σ => q_go e32_13 rfl rfl,
  fun v0 v1 v2 v3 st σ => q_iconst e32_14 (by decide),
  fun v0 v1 v3 x9 x1 st σ => q_go e32_15 rfl rfl,
  fun v0 v2 v3 a1 st σ => q_go e32_17 rfl rfl,
  fun v0 v1 v2 v3 x20 k σ hk => q_slen e32_18 o_32 b_3_95 hk (Nat.le_of_ble_eq_true rfl),
  fun v0 v1 v2 v3 x1 x2 st σ => (q_cmp e32_21 rfl).trans q_nlt,
  fun v0 v1 v3 x1 st σ => q_go e32_24 rfl rfl,
  fun v0 v2 v3 a1 st σ => q_go e32_25 rfl rfl,
  fun v0 v1 v2 x1 st σ => q_go e32_26 rfl rfl,
  fun v0 v1 v2 v3 x20 k j σ hk hj => q_schar e32_27 o_32 b_3_100 hk hj (Nat.le_of_ble_eq_true rfl),
  fun v0 v1 v2 v3 x1 x2 st σ => (q_cmp e32_30 rfl).trans q_ne,
  fun v1 v2 v3 a1 st σ => q_go e32_33 rfl rfl,
  fun v0 v1 v2 v3 a1 st σ => q_go e32_34 rfl rfl,
  fun v0 v1 v2 v3 a1 st σ hc => q_getI e32_35 o_32 f_3_24 (by decide) hc,
  fun v0 v1 v2 v3 st σ => q_iconst e32_38 (by decide),
  fun v0 v1 v2 v3 x1 x2 st σ => q_go e32_39 rfl rfl,
  fun v0 v1 v2 v3 x1 a2 st σ hc => q_putI e32_40 o_32 f_3_24 (by decide) rfl hc,
  fun v0 v1 v2 x1 st σ => q_go e32_43 rfl rfl,
  fun v0 v1 v2 v3 x1 σ => q_iret e32_44 r_32,
  fun v0 v1 x1 x9 st σ => q_iinc e32_45 rfl rfl (by decide),
  fun v0 v1 v2 v3 st σ => q_goto e32_48 rfl,
  fun v1 v2 v3 a1 st σ => q_go e32_51 rfl rfl,
  fun v1 v2 v3 a1 st σ => q_go e32_52 rfl rfl,
  fun v0 v1 v2 v3 a1 st σ hc => q_getI e32_53 o_32 f_3_24 (by decide) hc,
  fun v0 v1 v2 v3 x1 a2 st σ hc => q_putI e32_56 o_32 f_3_28 (by decide) rfl hc,
  fun v0 v1 v2 v3 st σ => q_iconst e32_59 (by decide),
  fun v0 v1 v2 v3 x1 σ => q_iret e32_60 r_32⟩
theorem E32 {ro : ma_RO} {d : Nat} (a0 : Nat) (a1 : Nat) (sh : List ma_Sh) (σ : ma_H) : ma_ev ro d 32 [.ref a0, .ref a1] sh σ = ma_rn ro d 32 (0, [some (.ref a0), some (.ref a1), none, none], [], sh, σ) := q_ent x_32 rfl
theorem e33_0 : decode (ma_cd 33) 0 = .ok (.aload_n 0, 1) := (congrArg (fun b => decode b 0) cd_33).trans dX3_readNumber_0
theorem e33_1 : decode (ma_cd 33) 1 = .ok (.getfield 28, 3) := (congrArg (fun b => decode b 1) cd_33).trans dX3_readNumber_1
theorem e33_4 : decode (ma_cd 33) 4 = .ok (.ifCond .lt 5, 3) := (congrArg (fun b => decode b 4) cd_33).trans dX3_readNumber_4
theorem e33_7 : decode (ma_cd 33) 7 = .ok (.iconst 0, 1) := (congrArg (fun b => decode b 7) cd_33).trans dX3_readNumber_7
theorem e33_8 : decode (ma_cd 33) 8 = .ok (.ireturn, 1) := (congrArg (fun b => decode b 8) cd_33).trans dX3_readNumber_8
theorem e33_9 : decode (ma_cd 33) 9 = .ok (.aload_n 0, 1) := (congrArg (fun b => decode b 9) cd_33).trans dX3_readNumber_9
theorem e33_10 : decode (ma_cd 33) 10 = .ok (.invokevirtual 39, 3) := (congrArg (fun b => decode b 10) cd_33).trans dX3_readNumber_10
theorem e33_13 : decode (ma_cd 33) 13 = .ok (.invokestatic 104, 3) := (congrArg (fun b => decode b 13) cd_33).trans dX3_readNumber_13
theorem e33_16 : decode (ma_cd 33) 16 = .ok (.ifCond .ne 13, 3) := (congrArg (fun b => decode b 16) cd_33).trans dX3_readNumber_16
theorem e33_19 : decode (ma_cd 33) 19 = .ok (.aload_n 0, 1) := (congrArg (fun b => decode b 19) cd_33).trans dX3_readNumber_19
theorem e33_20 : decode (ma_cd 33) 20 = .ok (.aload_n 0, 1) := (congrArg (fun b => decode b 20) cd_33).trans dX3_readNumber_20
theorem e33_21 : decode (ma_cd 33) 21 = .ok (.getfield 24, 3) := (congrArg (fun b => decode b 21) cd_33).trans dX3_readNumber_21
theorem e33_24 : decode (ma_cd 33) 24 = .ok (.putfield 28, 3) := (congrArg (fun b => decode b 24) cd_33).trans dX3_readNumber_24
theorem e33_27 : decode (ma_cd 33) 27 = .ok (.iconst 0, 1) := (congrArg (fun b => decode b 27) cd_33).trans dX3_readNumber_27
theorem e33_28 : decode (ma_cd 33) 28 = .ok (.ireturn, 1) := (congrArg (fun b => decode b 28) cd_33).trans dX3_readNumber_28
theorem e33_29 : decode (ma_cd 33) 29 = .ok (.aload_n 0, 1) := (congrArg (fun b => decode b 29) cd_33).trans dX3_readNumber_29
theorem e33_30 : decode (ma_cd 33) 30 = .ok (.invokevirtual 39, 3) := (congrArg (fun b => decode b 30) cd_33).trans dX3_readNumber_30
theorem e33_33 : decode (ma_cd 33) 33 = .ok (.bipush 48, 2) := (congrArg (fun b => decode b 33) cd_33).trans dX3_readNumber_33
theorem e33_35 : decode (ma_cd 33) 35 = .ok (.isub, 1) := (congrArg (fun b => decode b 35) cd_33).trans dX3_readNumber_35
theorem e33_36 : decode (ma_cd 33) 36 = .ok (.istore_n 1, 1) := (congrArg (fun b => decode b 36) cd_33).trans dX3_readNumber_36
theorem e33_37 : decode (ma_cd 33) 37 = .ok (.aload_n 0, 1) := (congrArg (fun b => decode b 37) cd_33).trans dX3_readNumber_37
theorem e33_38 : decode (ma_cd 33) 38 = .ok (.dup, 1) := (congrArg (fun b => decode b 38) cd_33).trans dX3_readNumber_38
theorem e33_39 : decode (ma_cd 33) 39 = .ok (.getfield 24, 3) := (congrArg (fun b => decode b 39) cd_33).trans dX3_readNumber_39
theorem e33_42 : decode (ma_cd 33) 42 = .ok (.iconst 1, 1) := (congrArg (fun b => decode b 42) cd_33).trans dX3_readNumber_42
theorem e33_43 : decode (ma_cd 33) 43 = .ok (.iadd, 1) := (congrArg (fun b => decode b 43) cd_33).trans dX3_readNumber_43
theorem e33_44 : decode (ma_cd 33) 44 = .ok (.putfield 24, 3) := (congrArg (fun b => decode b 44) cd_33).trans dX3_readNumber_44
theorem e33_47 : decode (ma_cd 33) 47 = .ok (.iload_n 1, 1) := (congrArg (fun b => decode b 47) cd_33).trans dX3_readNumber_47
theorem e33_48 : decode (ma_cd 33) 48 = .ok (.ifCond .le 36, 3) := (congrArg (fun b => decode b 48) cd_33).trans dX3_readNumber_48
theorem e33_51 : decode (ma_cd 33) 51 = .ok (.aload_n 0, 1) := (congrArg (fun b => decode b 51) cd_33).trans dX3_readNumber_51
theorem e33_52 : decode (ma_cd 33) 52 = .ok (.invokevirtual 39, 3) := (congrArg (fun b => decode b 52) cd_33).trans dX3_readNumber_52
theorem e33_55 : decode (ma_cd 33) 55 = .ok (.invokestatic 104, 3) := (congrArg (fun b => decode b 55) cd_33).trans dX3_readNumber_55
theorem e33_58 : decode (ma_cd 33) 58 = .ok (.ifCond .eq 26, 3) := (congrArg (fun b => decode b 58) cd_33).trans dX3_readNumber_58
theorem e33_61 : decode (ma_cd 33) 61 = .ok (.bipush 10, 2) := (congrArg (fun b => decode b 61) cd_33).trans dX3_readNumber_61
theorem e33_63 : decode (ma_cd 33) 63 = .ok (.iload_n 1, 1) := (congrArg (fun b => decode b 63) cd_33).trans dX3_readNumber_63
theorem e33_64 : decode (ma_cd 33) 64 = .ok (.imul, 1) := (congrArg (fun b => decode b 64) cd_33).trans dX3_readNumber_64
theorem e33_65 : decode (ma_cd 33) 65 = .ok (.aload_n 0, 1) := (congrArg (fun b => decode b 65) cd_33).trans dX3_readNumber_65
theorem e33_66 : decode (ma_cd 33) 66 = .ok (.invokevirtual 39, 3) := (congrArg (fun b => decode b 66) cd_33).trans dX3_readNumber_66
theorem e33_69 : decode (ma_cd 33) 69 = .ok (.iadd, 1) := (congrArg (fun b => decode b 69) cd_33).trans dX3_readNumber_69
theorem e33_70 : decode (ma_cd 33) 70 = .ok (.bipush 48, 2) := (congrArg (fun b => decode b 70) cd_33).trans dX3_readNumber_70
theorem e33_72 : decode (ma_cd 33) 72 = .ok (.isub, 1) := (congrArg (fun b => decode b 72) cd_33).trans dX3_readNumber_72
theorem e33_73 : decode (ma_cd 33) 73 = .ok (.istore_n 1, 1) := (congrArg (fun b => decode b 73) cd_33).trans dX3_readNumber_73
theorem e33_74 : decode (ma_cd 33) 74 = .ok (.aload_n 0, 1) := (congrArg (fun b => decode b 74) cd_33).trans dX3_readNumber_74
theorem e33_75 : decode (ma_cd 33) 75 = .ok (.dup, 1) := (congrArg (fun b => decode b 75) cd_33).trans dX3_readNumber_75
theorem e33_76 : decode (ma_cd 33) 76 = .ok (.getfield 24, 3) := (congrArg (fun b => decode b 76) cd_33).trans dX3_readNumber_76
theorem e33_79 : decode (ma_cd 33) 79 = .ok (.iconst 1, 1) := (congrArg (fun b => decode b 79) cd_33).trans dX3_readNumber_79
theorem e33_80 : decode (ma_cd 33) 80 = .ok (.iadd, 1) := (congrArg (fun b => decode b 80) cd_33).trans dX3_readNumber_80
theorem e33_81 : decode (ma_cd 33) 81 = .ok (.putfield 24, 3) := (congrArg (fun b => decode b 81) cd_33).trans dX3_readNumber_81
theorem e33_84 : decode (ma_cd 33) 84 = .ok (.iload_n 1, 1) := (congrArg (fun b => decode b 84) cd_33).trans dX3_readNumber_84
theorem e33_85 : decode (ma_cd 33) 85 = .ok (.ireturn, 1) := (congrArg (fun b => decode b 85) cd_33).trans dX3_readNumber_85
theorem S33 {ro : ma_RO} {d : Nat} : (∀ (v1 : Option Value) (a1 : Nat) (st : List Value) (σ : ma_H), ma_rn ro d 33 (0, [some (.ref a1), v1], st, SH, σ) = ma_rn ro d 33 (1, [some (.ref a1), v1], .ref a1 :: st, SH, σ)) ∧
  (∀ (v0 : Option Value) (v1 : Option Value) (a1 : Nat) (st : List Value) (σ : ma_H) (hc : hk_cls a1 = 3), ma_rn ro d 33 (1, [v0, v1], .ref a1 :: st, SH, σ) = ma_rn ro d 33 (4, [v0, v1], .int (σ a1 3) :: st, SH, σ)) ∧
  (∀ (v0 : Option Value) (v1 : Option Value) (x1 : Int32) (st : List Value) (σ : ma_H), ma_rn ro d 33 (4, [v0, v1], .int x1 :: st, SH, σ) = if x1 < nI 0 then ma_rn ro d 33 (9, [v0, v1], st, SH, σ) else ma_rn ro d 33 (7, [v0, v1], st, SH, σ)) ∧
  (∀ (v0 : Option Value) (v1 : Option Value) (st : List Value) (σ : ma_H), ma_rn ro d 33 (7, [v0, v1], st, SH, σ) = ma_rn ro d 33 (8, [v0, v1], .int (nI 0) :: st, SH, σ)) ∧
  (∀ (v0 : Option Value) (v1 : Option Value) (x1 : Int32) (σ : ma_H), ma_rn ro d 33 (8, [v0, v1], [.int x1], SH, σ) = some (some (.int x1), SH, σ)) ∧
  (∀ (v1 : Option Value) (a1 : Nat) (st : List Value) (σ : ma_H), ma_rn ro d 33 (9, [some (.ref a1), v1], st, SH, σ) = ma_rn ro d 33 (10, [some (.ref a1), v1], .ref a1 :: st, SH, σ)) ∧
  (∀ (v0 : Option Value) (v1 : Option Value) (a0 : Nat) (σ : ma_H) (hc : hk_cls a0 = 3), ma_rn ro (d + 1) 33 (10, [v0, v1], .ref a0 :: [], SH, σ) = (ma_ev ro d 36 [.ref a0] SH σ).bind (fun q => ma_rn ro (d + 1) 33 (13, [v0, v1], (q.1.toList ++ []), q.2.1, q.2.2))) ∧
  (∀ (v0 : Option Value) (v1 : Option Value) (x1 : Int32) (σ : ma_H), ma_rn ro (d + 1) 33 (13, [v0, v1], .int x1 :: [], SH, σ) = (ma_ev ro d 34 [.int x1] SH σ).bind (fun q => ma_rn ro (d + 1) 33 (16, [v0, v1], (q.1.toList ++ []), q.2.1, q.2.2))) ∧
  (∀ (v0 : Option Value) (v1 : Option Value) (x1 : Int32) (st : List Value) (σ : ma_H), ma_rn ro d 33 (16, [v0, v1], .int x1 :: st, SH, σ) = if x1 = nI 0 then ma_rn ro d 33 (19, [v0, v1], st, SH, σ) else ma_rn ro d 33 (29, [v0, v1], st, SH, σ)) ∧
  (∀ (v1 : Option Value) (a1 : Nat) (st : List Value) (σ : ma_H), ma_rn ro d 33 (19, [some (.ref a1), v1], st, SH, σ) = ma_rn ro d 33 (20, [some (.ref a1), v1], .ref a1 :: st, SH, σ)) ∧
  (∀ (v1 : Option Value) (a1 : Nat) (st : List Value) (σ : ma_H), ma_rn ro d 33 (20, [some (.ref a1), v1], st, SH, σ) = ma_rn ro d 33 (21, [some (.ref a1), v1], .ref a1 :: st, SH, σ)) ∧
  (∀ (v0 : Option Value) (v1 : Option Value) (a1 : Nat) (st : List Value) (σ : ma_H) (hc : hk_cls a1 = 3), ma_rn ro d 33 (21, [v0, v1], .ref a1 :: st, SH, σ) = ma_rn ro d 33 (24, [v0, v1], .int (σ a1 2) :: st, SH, σ)) ∧
  (∀ (v0 : Option Value) (v1 : Option Value) (x1 : Int32) (a2 : Nat) (st : List Value) (σ : ma_H) (hc : hk_cls a2 = 3), ma_rn ro d 33 (24, [v0, v1], .int x1 :: .ref a2 :: st, SH, σ) = ma_rn ro d 33 (27, [v0, v1], st, SH, (ma_up σ a2 3 x1))) ∧
  (∀ (v0 : Option Value) (v1 : Option Value) (st : List Value) (σ : ma_H), ma_rn ro d 33 (27, [v0, v1], st, SH, σ) = ma_rn ro d 33 (28, [v0, v1], .int (nI 0) :: st, SH, σ)) ∧
  (∀ (v0 : Option Value) (v1 : Option Value) (x1 : Int32) (σ : ma_H), ma_rn ro d 33 (28, [v0, v1], [.int x1], SH, σ) = some (some (.int x1), SH, σ)) ∧
  (∀ (v1 : Option Value) (a1 : Nat) (st : List Value) (σ : ma_H), ma_rn ro d 33 (29, [some (.ref a1), v1], st, SH, σ) = ma_rn ro d 33 (30, [some (.ref a1), v1], .ref a1 :: st, SH, σ)) ∧
  (∀ (v0 : Option Value) (v1 : Option Value) (a0 : Nat) (σ : ma_H) (hc : hk_cls a0 = 3), ma_rn ro (d + 1) 33 (30, [v0, v1], .ref a0 :: [], SH, σ) = (ma_ev ro d 36 [.ref a0] SH σ).bind (fun q => ma_rn ro (d + 1) 33 (33, [v0, v1], (q.1.toList ++ []), q.2.1, q.2.2))) ∧
  (∀ (v0 : Option Value) (v1 : Option Value) (st : List Value) (σ : ma_H), ma_rn ro d 33 (33, [v0, v1], st, SH, σ) = ma_rn ro d 33 (35, [v0, v1], .int (nI 48) :: st, SH, σ)) ∧
  (∀ (v0 : Option Value) (v1 : Option Value) (x1 : Int32) (x2 : Int32) (st : List Value) (σ : ma_H), ma_rn ro d 33 (35, [v0, v1], .int x1 :: .int x2 :: st, SH, σ) = ma_rn ro d 33 (36, [v0, v1], .int (x2 - x1) :: st, SH, σ)) ∧
  (∀ (v1 : Option Value) (a9 : Nat) (x1 : Int32) (st : List Value) (σ : ma_H), ma_rn ro d 33 (36, [some (.ref a9), v1], .int x1 :: st, SH, σ) = ma_rn ro d 33 (37, [some (.ref a9), some (.int x1)], st, SH, σ)) ∧
  (∀ (v1 : Option Value) (a1 : Nat) (st : List Value) (σ : ma_H), ma_rn ro d 33 (37, [some (.ref a1), v1], st, SH, σ) = ma_rn ro d 33 (38, [some (.ref a1), v1], .ref a1 :: st, SH, σ)) ∧
  (∀ (v0 : Option Value) (v1 : Option Value) (a1 : Nat) (st : List Value) (σ : ma_H), ma_rn ro d 33 (38, [v0, v1], .ref a1 :: st, SH, σ) = ma_rn ro d 33 (39, [v0, v1], .ref a1 :: .ref a1 :: st, SH, σ)) ∧
  (∀ (v0 : Option Value) (v1 : Option Value) (a1 : Nat) (st : List Value) (σ : ma_H) (hc : hk_cls a1 = 3), ma_rn ro d 33 (39, [v0, v1], .ref a1 :: st, SH, σ) = ma_rn ro d 33 (42, [v0, v1], .int (σ a1 2) :: st, SH, σ)) ∧
  (∀ (v0 : Option Value) (v1 : Option Value) (st : List Value) (σ : ma_H), ma_rn ro d 33 (42, [v0, v1], st, SH, σ) = ma_rn ro d 33 (43, [v0, v1], .int (nI 1) :: st, SH, σ)) ∧
  (∀ (v0 : Option Value) (v1 : Option Value) (x1 : Int32) (x2 : Int32) (st : List Value) (σ : ma_H), ma_rn ro d 33 (43, [v0, v1], .int x1 :: .int x2 :: st, SH, σ) = ma_rn ro d 33 (44, [v0, v1], .int (x2 + x1) :: st, SH, σ)) ∧
  (∀ (v0 : Option Value) (v1 : Option Value) (x1 : Int32) (a2 : Nat) (st : List Value) (σ : ma_H) (hc : hk_cls a2 = 3), ma_rn ro d 33 (44, [v0, v1], .int x1 :: .ref a2 :: st, SH, σ) = ma_rn ro d 33 (47, [v0, v1], st, SH, (ma_up σ a2 2 x1))) ∧
  (∀ (v0 : Option Value) (x1 : Int32) (st : List Value) (σ : ma_H), ma_rn ro d 33 (47, [v0, some (.int x1)], st, SH, σ) = ma_rn ro d 33 (48, [v0, some (.int x1)], .int x1 :: st, SH, σ)) ∧
  (∀ (v0 : Option Value) (v1 : Option Value) (x1 : Int32) (st : List Value) (σ : ma_H), ma_rn ro d 33 (48, [v0, v1], .int x1 :: st, SH, σ) = if nI 0 < x1 then ma_rn ro d 33 (51, [v0, v1], st, SH, σ) else ma_rn ro d 33 (84, [v0, v1], st, SH, σ)) ∧
  (∀ (v1 : Option Value) (a1 : Nat) (st : List Value) (σ : ma_H), ma_rn ro d 33 (51, [some (.ref a1), v1], st, SH, σ) = ma_rn ro d 33 (52, [some (.ref a1), v1], .ref a1 :: st, SH, σ)) ∧
  (∀ (v0 : Option Value) (v1 : Option Value) (a0 : Nat) (σ : ma_H) (hc : hk_cls a0 = 3), ma_rn ro (d + 1) 33 (52, [v0, v1], .ref a0 :: [], SH, σ) = (ma_ev ro d 36 [.ref a0] SH σ).bind (fun q => ma_rn ro (d + 1) 33 (55, [v0, v1], (q.1.toList ++ []), q.2.1, q.2.2))) ∧
  (∀ (v0 : Option Value) (v1 : Option Value) (x1 : Int32) (σ : ma_H), ma_rn ro (d + 1) 33 (55, [v0, v1], .int x1 :: [], SH, σ) = (ma_ev ro d 34 [.int x1] SH σ).bind (fun q => ma_rn ro (d + 1) 33 (58, [v0, v1], (q.1.toList ++ []), q.2.1, q.2.2))) ∧
  (∀ (v0 : Option Value) (v1 : Option Value) (x1 : Int32) (st : List Value) (σ : ma_H), ma_rn ro d 33 (58, [v0, v1], .int x1 :: st, SH, σ) = if x1 = nI 0 then ma_rn ro d 33 (84, [v0, v1], st, SH, σ) else ma_rn ro d 33 (61, [v0, v1], st, SH, σ)) ∧
  (∀ (v0 : Option Value) (v1 : Option Value) (st : List Value) (σ : ma_H), ma_rn ro d 33 (61, [v0, v1], st, SH, σ) = ma_rn ro d 33 (63, [v0, v1], .int (nI 10) :: st, SH, σ)) ∧
  (∀ (v0 : Option Value) (x1 : Int32) (st : List Value) (σ : ma_H), ma_rn ro d 33 (63, [v0, some (.int x1)], st, SH, σ) = ma_rn ro d 33 (64, [v0, some (.int x1)], .int x1 :: st, SH, σ)) ∧
  (∀ (v0 : Option Value) (v1 : Option Value) (x1 : Int32) (x2 : Int32) (st : List Value) (σ : ma_H), ma_rn ro d 33 (64, [v0, v1], .int x1 :: .int x2 :: st, SH, σ) = ma_rn ro d 33 (65, [v0, v1], .int (x2 * x1) :: st, SH, σ)) ∧
  (∀ (v1 : Option Value) (a1 : Nat) (st : List Value) (σ : ma_H), ma_rn ro d 33 (65, [some (.ref a1), v1], st, SH, σ) = ma_rn ro d 33 (66, [some (.ref a1), v1], .ref a1 :: st, SH, σ)) ∧
  (∀ (v0 : Option Value) (v1 : Option Value) (x20 : Int32) (a0 : Nat) (σ : ma_H) (hc : hk_cls a0 = 3), ma_rn ro (d + 1) 33 (66, [v0, v1], .ref a0 :: .int x20 :: [], SH, σ) = (ma_ev ro d 36 [.ref a0] SH σ).bind (fun q => ma_rn ro (d + 1) 33 (69, [v0, v1], (q.1.toList ++ (.int x20 :: [])), q.2.1, q.2.2))) ∧
  (∀ (v0 : Option Value) (v1 : Option Value) (x1 : Int32) (x2 : Int32) (st : List Value) (σ : ma_H), ma_rn ro d 33 (69, [v0, v1], .int x1 :: .int x2 :: st, SH, σ) = ma_rn ro d 33 (70, [v0, v1], .int (x2 + x1) :: st, SH, σ)) ∧
  (∀ (v0 : Option Value) (v1 : Option Value) (st : List Value) (σ : ma_H), ma_rn ro d 33 (70, [v0, v1], st, SH, σ) = ma_rn ro d 33 (72, [v0, v1], .int (nI 48) :: st, SH, σ)) ∧
  (∀ (v0 : Option Value) (v1 : Option Value) (x1 : Int32) (x2 : Int32) (st : List Value) (σ : ma_H), ma_rn ro d 33 (72, [v0, v1], .int x1 :: .int x2 :: st, SH, σ) = ma_rn ro d 33 (73, [v0, v1], .int (x2 - x1) :: st, SH, σ)) ∧
  (∀ (v1 : Option Value) (a9 : Nat) (x1 : Int32) (st : List Value) (σ : ma_H), ma_rn ro d 33 (73, [some (.ref a9), v1], .int x1 :: st, SH, σ) = ma_rn ro d 33 (74, [some (.ref a9), some (.int x1)], st, SH, σ)) ∧
  (∀ (v1 : Option Value) (a1 : Nat) (st : List Value) (σ : ma_H), ma_rn ro d 33 (74, [some (.ref a1), v1], st, SH, σ) = ma_rn ro d 33 (75, [some (.ref a1), v1], .ref a1 :: st, SH, σ)) ∧
  (∀ (v0 : Option Value) (v1 : Option Value) (a1 : Nat) (st : List Value) (σ : ma_H), ma_rn ro d 33 (75, [v0, v1], .ref a1 :: st, SH, σ) = ma_rn ro d 33 (76, [v0, v1], .ref a1 :: .ref a1 :: st, SH, σ)) ∧
  (∀ (v0 : Option Value) (v1 : Option Value) (a1 : Nat) (st : List Value) (σ : ma_H) (hc : hk_cls a1 = 3), ma_rn ro d 33 (76, [v0, v1], .ref a1 :: st, SH, σ) = ma_rn ro d 33 (79, [v0, v1], .int (σ a1 2) :: st, SH, σ)) ∧
  (∀ (v0 : Option Value) (v1 : Option Value) (st : List Value) (σ : ma_H), ma_rn ro d 33 (79, [v0, v1], st, SH, σ) = ma_rn ro d 33 (80, [v0, v1], .int (nI 1) :: st, SH, σ)) ∧
  (∀ (v0 : Option Value) (v1 : Option Value) (x1 : Int32) (x2 : Int32) (st : List Value) (σ : ma_H), ma_rn ro d 33 (80, [v0, v1], .int x1 :: .int x2 :: st, SH, σ) = ma_rn ro d 33 (81, [v0, v1], .int (x2 + x1) :: st, SH, σ)) ∧
  (∀ (v0 : Option Value) (v1 : Option Value) (x1 : Int32) (a2 : Nat) (st : List Value) (σ : ma_H) (hc : hk_cls a2 = 3), ma_rn ro d 33 (81, [v0, v1], .int x1 :: .ref a2 :: st, SH, σ) = ma_rn ro d 33 (84, [v0, v1], st, SH, (ma_up σ a2 2 x1))) ∧
  (∀ (v0 : Option Value) (x1 : Int32) (st : List Value) (σ : ma_H), ma_rn ro d 33 (84, [v0, some (.int x1)], st, SH, σ) = ma_rn ro d 33 (85, [v0, some (.int x1)], .int x1 :: st, SH, σ)) ∧
  (∀ (v0 : Option Value) (v1 : Option Value) (x1 : Int32) (σ : ma_H), ma_rn ro d 33 (85, [v0, v1], [.int x1], SH, σ) = some (some (.int x1), SH, σ)) := ⟨fun v1 a1 st σ => q_go e33_0 rfl rfl,
  fun v0 v1 a1 st σ hc => q_getI e33_1 o_33 f_3_28 (by decide) hc,
  fun v0 v1 x1 st σ => (q_if e33_4 rfl).trans q_lt,
  fun v0 v1 st σ => q_iconst e33_7 (by decide),
  fun v0 v1 x1 σ => q_iret e33_8 r_33,
  fun v1 a1 st σ => q_go e33_9 rfl rfl,
  fun v0 v1 a0 σ hc => q_invV (as := []) (rest := []) e33_10 o_33 bn_3_39 c_3_39 m_36 (by decide) rfl rfl (Nat.le_of_ble_eq_true rfl) (Nat.le_of_ble_eq_true rfl) hc,
  fun v0 v1 x1 σ => q_invS (as := [.int x1]) (rest := []) e33_13 o_33 bn_3_104 c_3_104 ⟨m_34.1, m_34.2.1, m_34.2.2.1⟩ rfl rfl (Nat.le_of_ble_eq_true rfl) (Nat.le_of_ble_eq_true rfl),
  fun v0 v1 x1 st σ => (q_if e33_16 rfl).trans q_ne,
  fun v1 a1 st σ => q_go e33_19 rfl rfl,
  fun v1 a1 st σ => q_go e33_20 rfl rfl,
  fun v0 v1 a1 st σ hc => q_getI e33_21 o_33 f_3_24 (by decide) hc,
  fun v0 v1 x1 a2 st σ hc => q_putI e33_24 o_33 f_3_28 (by decide) rfl hc,
  fun v0 v1 st σ => q_iconst e33_27 (by decide),
  fun v0 v1 x1 σ => q_iret e33_28 r_33,
  fun v1 a1 st σ => q_go e33_29 rfl rfl,
  fun v0 v1 a0 σ hc => q_invV (as := []) (rest := []) e33_30 o_33 bn_3_39 c_3_39 m_36 (by decide) rfl rfl (Nat.le_of_ble_eq_true rfl) (Nat.le_of_ble_eq_true rfl) hc,
  fun v0 v1 st σ => q_bipush e33_33 (by decide),
  fun v0 v1 x1 x2 st σ => q_go e33_35 rfl rfl,
  fun v1 a9 x1 st σ => q_go e33_36 rfl rfl,
  fun v1 a1 st σ => q_go e33_37 rfl rfl,
  fun v0 v1 a1 st σ => q_go e33_38 rfl rfl,
  fun v0 v1 a1 st σ hc => q_getI e33_39 o_33 f_3_24 (by decide) hc,
  fun v0 v1 st σ => q_iconst e33_42 (by decide),
  fun v0 v1 x1 x2 st σ => q_go e33_43 rfl rfl,
  fun v0 v1 x1 a2 st σ hc => q_putI e33_44 o_33 f_3_24 (by decide) rfl hc,
  fun v0 x1 st σ => q_go e33_47 rfl rfl,
  fun v0 v1 x1 st σ => (q_if e33_48 rfl).trans q_ngt,
  fun v1 a1 st σ => q_go e33_51 rfl rfl,
  fun v0 v1 a0 σ hc => q_invV (as := []) (rest := []) e33_52 o_33 bn_3_39 c_3_39 m_36 (by decide) rfl rfl (Nat.le_of_ble_eq_true rfl) (Nat.le_of_ble_eq_true rfl) hc,
  fun v0 v1 x1 σ => q_invS (as := [.int x1]) (rest := []) e33_55 o_33 bn_3_104 c_3_104 ⟨m_34.1, m_34.2.1, m_34.2.2.1⟩ rfl rfl (Nat.le_of_ble_eq_true rfl) (Nat.le_of_ble_eq_true rfl),
  fun v0 v1 x1 st σ => (q_if e33_58 rfl).trans q_eq,
  fun v0 v1 st σ => q_bipush e33_61 (by decide),
  fun v0 x1 st σ => q_go e33_63 rfl rfl,
  fun v0 v1 x1 x2 st σ => q_go e33_64 rfl rfl,
  fun v1 a1 st σ => q_go e33_65 rfl rfl,
  fun v0 v1 x20 a0 σ hc => q_invV (as := []) (rest := .int x20 :: []) e33_66 o_33 bn_3_39 c_3_39 m_36 (by decide) rfl rfl (Nat.le_of_ble_eq_true rfl) (Nat.le_of_ble_eq_true rfl) hc,
  fun v0 v1 x1 x2 st σ => q_go e33_69 rfl rfl,
  fun v0 v1 st σ => q_bipush e33_70 (by decide),
  fun v0 v1 x1 x2 st σ => q_go e33_72 rfl rfl,
  fun v1 a9 x1 st σ => q_go e33_73 rfl rfl,
  fun v1 a1 st σ => q_go e33_74 rfl rfl,
  fun v0 v1 a1 st σ => q_go e33_75 rfl rfl,
  fun v0 v1 a1 st σ hc => q_getI e33_76 o_33 f_3_24 (by decide) hc,
  fun v0 v1 st σ => q_iconst e33_79 (by decide),
  fun v0 v1 x1 x2 st σ => q_go e33_80 rfl rfl,
  fun v0 v1 x1 a2 st σ hc => q_putI e33_81 o_33 f_3_24 (by decide) rfl hc,
  fun v0 x1 st σ => q_go e33_84 rfl rfl,
  fun v0 v1 x1 σ => q_iret e33_85 r_33⟩
theorem E33 {ro : ma_RO} {d : Nat} (a0 : Nat) (sh : List ma_Sh) (σ : ma_H) : ma_ev ro d 33 [.ref a0] sh σ = ma_rn ro d 33 (0, [some (.ref a0), none], [], sh, σ) := q_ent x_33 rfl
theorem e34_0 : decode (ma_cd 34) 0 = .ok (.iload_n 0, 1) := (congrArg (fun b => decode b 0) cd_34).trans dX3_isDigit_0
theorem e34_1 : decode (ma_cd 34) 1 = .ok (.bipush 48, 2) := (congrArg (fun b => decode b 1) cd_34).trans dX3_isDigit_1
theorem e34_3 : decode (ma_cd 34) 3 = .ok (.if_icmp .lt 13, 3) := (congrArg (fun b => decode b 3) cd_34).trans dX3_isDigit_3
theorem e34_6 : decode (ma_cd 34) 6 = .ok (.iload_n 0, 1) := (congrArg (fun b => decode b 6) cd_34).trans dX3_isDigit_6
theorem e34_7 : decode (ma_cd 34) 7 = .ok (.bipush 57, 2) := (congrArg (fun b => decode b 7) cd_34).trans dX3_isDigit_7
theorem e34_9 : decode (ma_cd 34) 9 = .ok (.if_icmp .gt 7, 3) := (congrArg (fun b => decode b 9) cd_34).trans dX3_isDigit_9
theorem e34_12 : decode (ma_cd 34) 12 = .ok (.iconst 1, 1) := (congrArg (fun b => decode b 12) cd_34).trans dX3_isDigit_12
theorem e34_13 : decode (ma_cd 34) 13 = .ok (.goto 4, 3) := (congrArg (fun b => decode b 13) cd_34).trans dX3_isDigit_13
theorem e34_16 : decode (ma_cd 34) 16 = .ok (.iconst 0, 1) := (congrArg (fun b => decode b 16) cd_34).trans dX3_isDigit_16
theorem e34_17 : decode (ma_cd 34) 17 = .ok (.ireturn, 1) := (congrArg (fun b => decode b 17) cd_34).trans dX3_isDigit_17
theorem S34 {ro : ma_RO} {d : Nat} : (∀ (x1 : Int32) (st : List Value) (σ : ma_H), ma_rn ro d 34 (0, [some (.int x1)], st, SH, σ) = ma_rn ro d 34 (1, [some (.int x1)], .int x1 :: st, SH, σ)) ∧
  (∀ (v0 : Option Value) (st : List Value) (σ : ma_H), ma_rn ro d 34 (1, [v0], st, SH, σ) = ma_rn ro d 34 (3, [v0], .int (nI 48) :: st, SH, σ)) ∧
  (∀ (v0 : Option Value) (x1 : Int32) (x2 : Int32) (st : List Value) (σ : ma_H), ma_rn ro d 34 (3, [v0], .int x1 :: .int x2 :: st, SH, σ) = if x2 < x1 then ma_rn ro d 34 (16, [v0], st, SH, σ) else ma_rn ro d 34 (6, [v0], st, SH, σ)) ∧
  (∀ (x1 : Int32) (st : List Value) (σ : ma_H), ma_rn ro d 34 (6, [some (.int x1)], st, SH, σ) = ma_rn ro d 34 (7, [some (.int x1)], .int x1 :: st, SH, σ)) ∧
  (∀ (v0 : Option Value) (st : List Value) (σ : ma_H), ma_rn ro d 34 (7, [v0], st, SH, σ) = ma_rn ro d 34 (9, [v0], .int (nI 57) :: st, SH, σ)) ∧
  (∀ (v0 : Option Value) (x1 : Int32) (x2 : Int32) (st : List Value) (σ : ma_H), ma_rn ro d 34 (9, [v0], .int x1 :: .int x2 :: st, SH, σ) = if x1 < x2 then ma_rn ro d 34 (16, [v0], st, SH, σ) else ma_rn ro d 34 (12, [v0], st, SH, σ)) ∧
  (∀ (v0 : Option Value) (st : List Value) (σ : ma_H), ma_rn ro d 34 (12, [v0], st, SH, σ) = ma_rn ro d 34 (13, [v0], .int (nI 1) :: st, SH, σ)) ∧
  (∀ (v0 : Option Value) (st : List Value) (σ : ma_H), ma_rn ro d 34 (13, [v0], st, SH, σ) = ma_rn ro d 34 (17, [v0], st, SH, σ)) ∧
  (∀ (v0 : Option Value) (st : List Value) (σ : ma_H), ma_rn ro d 34 (16, [v0], st, SH, σ) = ma_rn ro d 34 (17, [v0], .int (nI 0) :: st, SH, σ)) ∧
  (∀ (v0 : Option Value) (x1 : Int32) (σ : ma_H) (hx : ma_fitI .boolean x1 = true), ma_rn ro d 34 (17, [v0], [.int x1], SH, σ) = some (some (.int x1), SH, σ)) := ⟨fun x1 st σ => q_go e34_0 rfl rfl,
  fun v0 st σ => q_bipush e34_1 (by decide),
  fun v0 x1 x2 st σ => (q_cmp e34_3 rfl).trans q_lt,
  fun x1 st σ => q_go e34_6 rfl rfl,
  fun v0 st σ => q_bipush e34_7 (by decide),
  fun v0 x1 x2 st σ => (q_cmp e34_9 rfl).trans q_gt,
  fun v0 st σ => q_iconst e34_12 (by decide),
  fun v0 st σ => q_goto e34_13 rfl,
  fun v0 st σ => q_iconst e34_16 (by decide),
  fun v0 x1 σ hx => q_zret e34_17 r_34 hx⟩
theorem E34 {ro : ma_RO} {d : Nat} (x1 : Int32) (sh : List ma_Sh) (σ : ma_H) : ma_ev ro d 34 [.int x1] sh σ = ma_rn ro d 34 (0, [some (.int x1)], [], sh, σ) := q_ent x_34 rfl
theorem e35_0 : decode (ma_cd 35) 0 = .ok (.iconst 0, 1) := (congrArg (fun b => decode b 0) cd_35).trans dX3_take_0
theorem e35_1 : decode (ma_cd 35) 1 = .ok (.istore_n 2, 1) := (congrArg (fun b => decode b 1) cd_35).trans dX3_take_1
theorem e35_2 : decode (ma_cd 35) 2 = .ok (.iload_n 2, 1) := (congrArg (fun b => decode b 2) cd_35).trans dX3_take_2
theorem e35_3 : decode (ma_cd 35) 3 = .ok (.aload_n 1, 1) := (congrArg (fun b => decode b 3) cd_35).trans dX3_take_3
theorem e35_4 : decode (ma_cd 35) 4 = .ok (.invokevirtual 95, 3) := (congrArg (fun b => decode b 4) cd_35).trans dX3_take_4
theorem e35_7 : decode (ma_cd 35) 7 = .ok (.if_icmp .ge 49, 3) := (congrArg (fun b => decode b 7) cd_35).trans dX3_take_7
theorem e35_10 : decode (ma_cd 35) 10 = .ok (.aload_n 0, 1) := (congrArg (fun b => decode b 10) cd_35).trans dX3_take_10
theorem e35_11 : decode (ma_cd 35) 11 = .ok (.getfield 28, 3) := (congrArg (fun b => decode b 11) cd_35).trans dX3_take_11
theorem e35_14 : decode (ma_cd 35) 14 = .ok (.ifCond .ge 42, 3) := (congrArg (fun b => decode b 14) cd_35).trans dX3_take_14
theorem e35_17 : decode (ma_cd 35) 17 = .ok (.aload_n 0, 1) := (congrArg (fun b => decode b 17) cd_35).trans dX3_take_17
theorem e35_18 : decode (ma_cd 35) 18 = .ok (.invokevirtual 39, 3) := (congrArg (fun b => decode b 18) cd_35).trans dX3_take_18
theorem e35_21 : decode (ma_cd 35) 21 = .ok (.aload_n 1, 1) := (congrArg (fun b => decode b 21) cd_35).trans dX3_take_21
theorem e35_22 : decode (ma_cd 35) 22 = .ok (.iload_n 2, 1) := (congrArg (fun b => decode b 22) cd_35).trans dX3_take_22
theorem e35_23 : decode (ma_cd 35) 23 = .ok (.invokevirtual 100, 3) := (congrArg (fun b => decode b 23) cd_35).trans dX3_take_23
theorem e35_26 : decode (ma_cd 35) 26 = .ok (.if_icmp .ne 16, 3) := (congrArg (fun b => decode b 26) cd_35).trans dX3_take_26
theorem e35_29 : decode (ma_cd 35) 29 = .ok (.aload_n 0, 1) := (congrArg (fun b => decode b 29) cd_35).trans dX3_take_29
theorem e35_30 : decode (ma_cd 35) 30 = .ok (.dup, 1) := (congrArg (fun b => decode b 30) cd_35).trans dX3_take_30
theorem e35_31 : decode (ma_cd 35) 31 = .ok (.getfield 24, 3) := (congrArg (fun b => decode b 31) cd_35).trans dX3_take_31
theorem e35_34 : decode (ma_cd 35) 34 = .ok (.iconst 1, 1) := (congrArg (fun b => decode b 34) cd_35).trans dX3_take_34
theorem e35_35 : decode (ma_cd 35) 35 = .ok (.iadd, 1) := (congrArg (fun b => decode b 35) cd_35).trans dX3_take_35
theorem e35_36 : decode (ma_cd 35) 36 = .ok (.putfield 24, 3) := (congrArg (fun b => decode b 36) cd_35).trans dX3_take_36
theorem e35_39 : decode (ma_cd 35) 39 = .ok (.goto 11, 3) := (congrArg (fun b => decode b 39) cd_35).trans dX3_take_39
theorem e35_42 : decode (ma_cd 35) 42 = .ok (.aload_n 0, 1) := (congrArg (fun b => decode b 42) cd_35).trans dX3_take_42
theorem e35_43 : decode (ma_cd 35) 43 = .ok (.aload_n 0, 1) := (congrArg (fun b => decode b 43) cd_35).trans dX3_take_43
theorem e35_44 : decode (ma_cd 35) 44 = .ok (.getfield 24, 3) := (congrArg (fun b => decode b 44) cd_35).trans dX3_take_44
theorem e35_47 : decode (ma_cd 35) 47 = .ok (.putfield 28, 3) := (congrArg (fun b => decode b 47) cd_35).trans dX3_take_47
theorem e35_50 : decode (ma_cd 35) 50 = .ok (.iinc 2 1, 3) := (congrArg (fun b => decode b 50) cd_35).trans dX3_take_50
theorem e35_53 : decode (ma_cd 35) 53 = .ok (.goto (-51), 3) := (congrArg (fun b => decode b 53) cd_35).trans dX3_take_53
theorem e35_56 : decode (ma_cd 35) 56 = .ok (.return_, 1) := (congrArg (fun b => decode b 56) cd_35).trans dX3_take_56
theorem Sh35_2 {ro : ma_RO} {d : Nat} : (∀ (v0 : Option Value) (v1 : Option Value) (x1 : Int32) (st : List Value) (σ : ma_H), ma_rn ro d 35 (2, [v0, v1, some (.int x1)], st, SH, σ) = ma_rn ro d 35 (3, [v0, v1, some (.int x1)], .int x1 :: st, SH, σ)) := fun v0 v1 x1 st σ => q_go e35_2 rfl rfl
theorem S35 {ro : ma_RO} {d : Nat} : (∀ (v0 : Option Value) (v1 : Option Value) (v2 : Option Value) (st : List Value) (σ : ma_H), ma_rn ro d 35 (0, [v0, v1, v2], st, SH, σ) = ma_rn ro d 35 (1, [v0, v1, v2], .int (nI 0) :: st, SH, σ)) ∧
  (∀ (v0 : Option Value) (v2 : Option Value) (a9 : Nat) (x1 : Int32) (st : List Value) (σ : ma_H), ma_rn ro d 35 (1, [v0, some (.ref a9), v2], .int x1 :: st, SH, σ) = ma_rn ro d 35 (2, [v0, some (.ref a9), some (.int x1)], st, SH, σ)) ∧
  (∀ (v0 : Option Value) (v2 : Option Value) (a1 : Nat) (st : List Value) (σ : ma_H), ma_rn ro d 35 (3, [v0, some (.ref a1), v2], st, SH, σ) = ma_rn ro d 35 (4, [v0, some (.ref a1), v2], .ref a1 :: st, SH, σ)) ∧
  (∀ (v0 : Option Value) (v1 : Option Value) (v2 : Option Value) (x20 : Int32) (k : Nat) (σ : ma_H) (hk : k < 7), ma_rn ro d 35 (4, [v0, v1, v2], .ref (1000000 + k) :: .int x20 :: [], SH, σ) = ma_rn ro d 35 (7, [v0, v1, v2], .int (nI (ma_chs k).length) :: .int x20 :: [], SH, σ)) ∧
  (∀ (v0 : Option Value) (v1 : Option Value) (v2 : Option Value) (x1 : Int32) (x2 : Int32) (st : List Value) (σ : ma_H), ma_rn ro d 35 (7, [v0, v1, v2], .int x1 :: .int x2 :: st, SH, σ) = if x2 < x1 then ma_rn ro d 35 (10, [v0, v1, v2], st, SH, σ) else ma_rn ro d 35 (56, [v0, v1, v2], st, SH, σ)) ∧
  (∀ (v1 : Option Value) (v2 : Option Value) (a1 : Nat) (st : List Value) (σ : ma_H), ma_rn ro d 35 (10, [some (.ref a1), v1, v2], st, SH, σ) = ma_rn ro d 35 (11, [some (.ref a1), v1, v2], .ref a1 :: st, SH, σ)) ∧
  (∀ (v0 : Option Value) (v1 : Option Value) (v2 : Option Value) (a1 : Nat) (st : List Value) (σ : ma_H) (hc : hk_cls a1 = 3), ma_rn ro d 35 (11, [v0, v1, v2], .ref a1 :: st, SH, σ) = ma_rn ro d 35 (14, [v0, v1, v2], .int (σ a1 3) :: st, SH, σ)) ∧
  (∀ (v0 : Option Value) (v1 : Option Value) (v2 : Option Value) (x1 : Int32) (st : List Value) (σ : ma_H), ma_rn ro d 35 (14, [v0, v1, v2], .int x1 :: st, SH, σ) = if x1 < nI 0 then ma_rn ro d 35 (17, [v0, v1, v2], st, SH, σ) else ma_rn ro d 35 (56, [v0, v1, v2], st, SH, σ)) ∧
  (∀ (v1 : Option Value) (v2 : Option Value) (a1 : Nat) (st : List Value) (σ : ma_H), ma_rn ro d 35 (17, [some (.ref a1), v1, v2], st, SH, σ) = ma_rn ro d 35 (18, [some (.ref a1), v1, v2], .ref a1 :: st, SH, σ)) ∧
  (∀ (v0 : Option Value) (v1 : Option Value) (v2 : Option Value) (a0 : Nat) (σ : ma_H) (hc : hk_cls a0 = 3), ma_rn ro (d + 1) 35 (18, [v0, v1, v2], .ref a0 :: [], SH, σ) = (ma_ev ro d 36 [.ref a0] SH σ).bind (fun q => ma_rn ro (d + 1) 35 (21, [v0, v1, v2], (q.1.toList ++ []), q.2.1, q.2.2))) ∧
  (∀ (v0 : Option Value) (v2 : Option Value) (a1 : Nat) (st : List Value) (σ : ma_H), ma_rn ro d 35 (21, [v0, some (.ref a1), v2], st, SH, σ) = ma_rn ro d 35 (22, [v0, some (.ref a1), v2], .ref a1 :: st, SH, σ)) ∧
  (∀ (v0 : Option Value) (v1 : Option Value) (x1 : Int32) (st : List Value) (σ : ma_H), ma_rn ro d 35 (22, [v0, v1, some (.int x1)], st, SH, σ) = ma_rn ro d 35 (23, [v0, v1, some (.int x1)], .int x1 :: st, SH, σ)) ∧
  (∀ (v0 : Option Value) (v1 : Option Value) (v2 : Option Value) (x20 : Int32) (k : Nat) (j : Nat) (σ : ma_H) (hk : k < 7) (hj : j < (ma_chs k).length), ma_rn ro d 35 (23, [v0, v1, v2], .int (nI j) :: .ref (1000000 + k) :: .int x20 :: [], SH, σ) = ma_rn ro d 35 (26, [v0, v1, v2], .int ((ma_chs k).getD j 0) :: .int x20 :: [], SH, σ)) ∧
  (∀ (v0 : Option Value) (v1 : Option Value) (v2 : Option Value) (x1 : Int32) (x2 : Int32) (st : List Value) (σ : ma_H), ma_rn ro d 35 (26, [v0, v1, v2], .int x1 :: .int x2 :: st, SH, σ) = if x2 = x1 then ma_rn ro d 35 (29, [v0, v1, v2], st, SH, σ) else ma_rn ro d 35 (42, [v0, v1, v2], st, SH, σ)) ∧
  (∀ (v1 : Option Value) (v2 : Option Value) (a1 : Nat) (st : List Value) (σ : ma_H), ma_rn ro d 35 (29, [some (.ref a1), v1, v2], st, SH, σ) = ma_rn ro d 35 (30, [some (.ref a1), v1, v2], .ref a1 :: st, SH, σ)) ∧
  (∀ (v0 : Option Value) (v1 : Option Value) (v2 : Option Value) (a1 : Nat) (st : List Value) (σ : ma_H), ma_rn ro d 35 (30, [v0, v1, v2], .ref a1 :: st, SH, σ) = ma_rn ro d 35 (31, [v0, v1, v2], .ref a1 :: .ref a1 :: st, SH, σ)) ∧
  (∀ (v0 : Option Value) (v1 : Option Value) (v2 : Option Value) (a1 : Nat) (st : List Value) (σ : ma_H) (hc : hk_cls a1 = 3), ma_rn ro d 35 (31, [v0, v1, v2], .ref a1 :: st, SH, σ) = ma_rn ro d 35 (34, [v0, v1, v2], .int (σ a1 2) :: st, SH, σ)) ∧
  (∀ (v0 : Option Value) (v1 : Option Value) (v2 : Option Value) (st : List Value) (σ : ma_H), ma_rn ro d 35 (34, [v0, v1, v2], st, SH, σ) = ma_rn ro d 35 (35, [v0, v1, v2], .int (nI 1) :: st, SH, σ)) ∧
  (∀ (v0 : Option Value) (v1 : Option Value) (v2 : Option Value) (x1 : Int32) (x2 : Int32) (st : List Value) (σ : ma_H), ma_rn ro d 35 (35, [v0, v1, v2], .int x1 :: .int x2 :: st, SH, σ) = ma_rn ro d 35 (36, [v0, v1, v2], .int (x2 + x1) :: st, SH, σ)) ∧
  (∀ (v0 : Option Value) (v1 : Option Value) (v2 : Option Value) (x1 : Int32) (a2 : Nat) (st : List Value) (σ : ma_H) (hc : hk_cls a2 = 3), ma_rn ro d 35 (36, [v0, v1, v2], .int x1 :: .ref a2 :: st, SH, σ) = ma_rn ro d 35 (39, [v0, v1, v2], st, SH, (ma_up σ a2 2 x1))) ∧
  (∀ (v0 : Option Value) (v1 : Option Value) (v2 : Option Value) (st : List Value) (σ : ma_H), ma_rn ro d 35 (39, [v0, v1, v2], st, SH, σ) = ma_rn ro d 35 (50, [v0, v1, v2], st, SH, σ)) ∧
  (∀ (v1 : Option Value) (v2 : Option Value) (a1 : Nat) (st : List Value) (σ : ma_H), ma_rn ro d 35 (42, [some (.ref a1), v1, v2], st, SH, σ) = ma_rn ro d 35 (43, [some (.ref a1), v1, v2], .ref a1 :: st, SH, σ)) ∧
  (∀ (v1 : Option Value) (v2 : Option Value) (a1 : Nat) (st : List Value) (σ : ma_H), ma_rn ro d 35 (43, [some (.ref a1), v1, v2], st, SH, σ) = ma_rn ro d 35 (44, [some (.ref a1), v1, v2], .ref a1 :: st, SH, σ)) ∧
  (∀ (v0 : Option Value) (v1 : Option Value) (v2 : Option Value) (a1 : Nat) (st : List Value) (σ : ma_H) (hc : hk_cls a1 = 3), ma_rn ro d 35 (44, [v0, v1, v2], .ref a1 :: st, SH, σ) = ma_rn ro d 35 (47, [v0, v1, v2], .int (σ a1 2) :: st, SH, σ)) ∧
  (∀ (v0 : Option Value) (v1 : Option Value) (v2 : Option Value) (x1 : Int32) (a2 : Nat) (st : List Value) (σ : ma_H) (hc : hk_cls a2 = 3), ma_rn ro d 35 (47, [v0, v1, v2], .int x1 :: .ref a2 :: st, SH, σ) = ma_rn ro d 35 (50, [v0, v1, v2], st, SH, (ma_up σ a2 3 x1))) ∧
  (∀ (v0 : Option Value) (x1 : Int32) (a9 : Nat) (st : List Value) (σ : ma_H), ma_rn ro d 35 (50, [v0, some (.ref a9), some (.int x1)], st, SH, σ) = ma_rn ro d 35 (53, [v0, some (.ref a9), some (.int (x1 + nI 1))], st, SH, σ)) ∧
  (∀ (v0 : Option Value) (v1 : Option Value) (v2 : Option Value) (st : List Value) (σ : ma_H), ma_rn ro d 35 (53, [v0, v1, v2], st, SH, σ) = ma_rn ro d 35 (2, [v0, v1, v2], st, SH, σ)) ∧
  (∀ (v0 : Option Value) (v1 : Option Value) (v2 : Option Value) (σ : ma_H), ma_rn ro d 35 (56, [v0, v1, v2], [], SH, σ) = some (none, SH, σ)) := ⟨fun v0 v1 v2 st σ => q_iconst e35_0 (by decide),
  fun v0 v2 a9 x1 st σ => q_go e35_1 rfl rfl,
  fun v0 v2 a1 st σ => q_go e35_3 rfl rfl,
  fun v0 v1 v2 x20 k σ hk => q_slen e35_4 o_35 b_3_95 hk (Nat.le_of_ble_eq_true rfl),
  fun v0 v1 v2 x1 x2 st σ => (q_cmp e35_7 rfl).trans q_nlt,
  fun v1 v2 a1 st σ => q_go e35_10 rfl rfl,
  fun v0 v1 v2 a1 st σ hc => q_getI e35_11 o_35 f_3_28 (by decide) hc,
  fun v0 v1 v2 x1 st σ => (q_if e35_14 rfl).trans q_nlt,
  fun v1 v2 a1 st σ => q_go e35_17 rfl rfl,
  fun v0 v1 v2 a0 σ hc => q_invV (as := []) (rest := []) e35_18 o_35 bn_3_39 c_3_39 m_36 (by decide) rfl rfl (Nat.le_of_ble_eq_true rfl) (Nat.le_of_ble_eq_true rfl) hc,
  fun v0 v2 a1 st σ => q_go e35_21 rfl rfl,
  fun v0 v1 x1 st σ => q_go e35_22 rfl rfl,
  fun v0 v1 v2 x20 k j σ hk hj => q_schar e35_23 o_35 b_3_100 hk hj (Nat.le_of_ble_eq_true rfl),
  fun v0 v1 v2 x1 x2 st σ => (q_cmp e35_26 rfl).trans q_ne,
  fun v1 v2 a1 st σ => q_go e35_29 rfl rfl,
  fun v0 v1 v2 a1 st σ => q_go e35_30 rfl rfl,
  fun v0 v1 v2 a1 st σ hc => q_getI e35_31 o_35 f_3_24 (by decide) hc,
  fun v0 v1 v2 st σ => q_iconst e35_34 (by decide),
  fun v0 v1 v2 x1 x2 st σ => q_go e35_35 rfl rfl,
  fun v0 v1 v2 x1 a2 st σ hc => q_putI e35_36 o_35 f_3_24 (by decide) rfl hc,
  fun v0 v1 v2 st σ => q_goto e35_39 rfl,
  fun v1 v2 a1 st σ => q_go e35_42 rfl rfl,
  fun v1 v2 a1 st σ => q_go e35_43 rfl rfl,
  fun v0 v1 v2 a1 st σ hc => q_getI e35_44 o_35 f_3_24 (by decide) hc,
  fun v0 v1 v2 x1 a2 st σ hc => q_putI e35_47 o_35 f_3_28 (by decide) rfl hc,
  fun v0 x1 a9 st σ => q_iinc e35_50 rfl rfl (by decide),
  fun v0 v1 v2 st σ => q_goto e35_53 rfl,
  fun v0 v1 v2 σ => q_vret e35_56 r_35⟩
theorem E35 {ro : ma_RO} {d : Nat} (a0 : Nat) (a1 : Nat) (sh : List ma_Sh) (σ : ma_H) : ma_ev ro d 35 [.ref a0, .ref a1] sh σ = ma_rn ro d 35 (0, [some (.ref a0), some (.ref a1), none], [], sh, σ) := q_ent x_35 rfl
theorem e36_0 : decode (ma_cd 36) 0 = .ok (.aload_n 0, 1) := (congrArg (fun b => decode b 0) cd_36).trans dX3_peek_0
theorem e36_1 : decode (ma_cd 36) 1 = .ok (.getfield 9, 3) := (congrArg (fun b => decode b 1) cd_36).trans dX3_peek_1
theorem e36_4 : decode (ma_cd 36) 4 = .ok (.aload_n 0, 1) := (congrArg (fun b => decode b 4) cd_36).trans dX3_peek_4
theorem e36_5 : decode (ma_cd 36) 5 = .ok (.getfield 24, 3) := (congrArg (fun b => decode b 5) cd_36).trans dX3_peek_5
theorem e36_8 : decode (ma_cd 36) 8 = .ok (.invokevirtual 71, 3) := (congrArg (fun b => decode b 8) cd_36).trans dX3_peek_8
theorem e36_11 : decode (ma_cd 36) 11 = .ok (.ireturn, 1) := (congrArg (fun b => decode b 11) cd_36).trans dX3_peek_11
theorem S36 {ro : ma_RO} {d : Nat} : (∀ (a1 : Nat) (st : List Value) (σ : ma_H), ma_rn ro d 36 (0, [some (.ref a1)], st, SH, σ) = ma_rn ro d 36 (1, [some (.ref a1)], .ref a1 :: st, SH, σ)) ∧
  (∀ (v0 : Option Value) (a1 : Nat) (st : List Value) (σ : ma_H) (hc : hk_cls a1 = 3), ma_rn ro d 36 (1, [v0], .ref a1 :: st, SH, σ) = ma_rn ro d 36 (4, [v0], .ref (1) :: st, SH, σ)) ∧
  (∀ (a1 : Nat) (st : List Value) (σ : ma_H), ma_rn ro d 36 (4, [some (.ref a1)], st, SH, σ) = ma_rn ro d 36 (5, [some (.ref a1)], .ref a1 :: st, SH, σ)) ∧
  (∀ (v0 : Option Value) (a1 : Nat) (st : List Value) (σ : ma_H) (hc : hk_cls a1 = 3), ma_rn ro d 36 (5, [v0], .ref a1 :: st, SH, σ) = ma_rn ro d 36 (8, [v0], .int (σ a1 2) :: st, SH, σ)) ∧
  (∀ (v0 : Option Value) (x1 : Int32) (a0 : Nat) (σ : ma_H) (hc : hk_cls a0 = 5), ma_rn ro (d + 1) 36 (8, [v0], .int x1 :: .ref a0 :: [], SH, σ) = (ma_ev ro d 47 [.ref a0, .int x1] SH σ).bind (fun q => ma_rn ro (d + 1) 36 (11, [v0], (q.1.toList ++ []), q.2.1, q.2.2))) ∧
  (∀ (v0 : Option Value) (x1 : Int32) (σ : ma_H), ma_rn ro d 36 (11, [v0], [.int x1], SH, σ) = some (some (.int x1), SH, σ)) := ⟨fun a1 st σ => q_go e36_0 rfl rfl,
  fun v0 a1 st σ hc => q_getA e36_1 o_36 f_3_9 (by decide) hc,
  fun a1 st σ => q_go e36_4 rfl rfl,
  fun v0 a1 st σ hc => q_getI e36_5 o_36 f_3_24 (by decide) hc,
  fun v0 x1 a0 σ hc => q_invV (as := [.int x1]) (rest := []) e36_8 o_36 bn_3_71 c_3_71 m_47 (by decide) rfl rfl (Nat.le_of_ble_eq_true rfl) (Nat.le_of_ble_eq_true rfl) hc,
  fun v0 x1 σ => q_iret e36_11 r_36⟩
theorem E36 {ro : ma_RO} {d : Nat} (a0 : Nat) (sh : List ma_Sh) (σ : ma_H) : ma_ev ro d 36 [.ref a0] sh σ = ma_rn ro d 36 (0, [some (.ref a0)], [], sh, σ) := q_ent x_36 rfl
theorem e38_0 : decode (ma_cd 38) 0 = .ok (.iload_n 1, 1) := (congrArg (fun b => decode b 0) cd_38).trans dX4_has_0
theorem e38_1 : decode (ma_cd 38) 1 = .ok (.ifCond .lt 34, 3) := (congrArg (fun b => decode b 1) cd_38).trans dX4_has_1
theorem e38_4 : decode (ma_cd 38) 4 = .ok (.iload_n 1, 1) := (congrArg (fun b => decode b 4) cd_38).trans dX4_has_4
theorem e38_5 : decode (ma_cd 38) 5 = .ok (.aload_n 0, 1) := (congrArg (fun b => decode b 5) cd_38).trans dX4_has_5
theorem e38_6 : decode (ma_cd 38) 6 = .ok (.getfield 15, 3) := (congrArg (fun b => decode b 6) cd_38).trans dX4_has_6
theorem e38_9 : decode (ma_cd 38) 9 = .ok (.arraylength, 1) := (congrArg (fun b => decode b 9) cd_38).trans dX4_has_9
theorem e38_10 : decode (ma_cd 38) 10 = .ok (.if_icmp .ge 25, 3) := (congrArg (fun b => decode b 10) cd_38).trans dX4_has_10
theorem e38_13 : decode (ma_cd 38) 13 = .ok (.iload_n 1, 1) := (congrArg (fun b => decode b 13) cd_38).trans dX4_has_13
theorem e38_14 : decode (ma_cd 38) 14 = .ok (.aload_n 0, 1) := (congrArg (fun b => decode b 14) cd_38).trans dX4_has_14
theorem e38_15 : decode (ma_cd 38) 15 = .ok (.getfield 21, 3) := (congrArg (fun b => decode b 15) cd_38).trans dX4_has_15
theorem e38_18 : decode (ma_cd 38) 18 = .ok (.arraylength, 1) := (congrArg (fun b => decode b 18) cd_38).trans dX4_has_18
theorem e38_19 : decode (ma_cd 38) 19 = .ok (.if_icmp .ge 16, 3) := (congrArg (fun b => decode b 19) cd_38).trans dX4_has_19
theorem e38_22 : decode (ma_cd 38) 22 = .ok (.iload_n 1, 1) := (congrArg (fun b => decode b 22) cd_38).trans dX4_has_22
theorem e38_23 : decode (ma_cd 38) 23 = .ok (.aload_n 0, 1) := (congrArg (fun b => decode b 23) cd_38).trans dX4_has_23
theorem e38_24 : decode (ma_cd 38) 24 = .ok (.getfield 24, 3) := (congrArg (fun b => decode b 24) cd_38).trans dX4_has_24
theorem e38_27 : decode (ma_cd 38) 27 = .ok (.arraylength, 1) := (congrArg (fun b => decode b 27) cd_38).trans dX4_has_27
theorem e38_28 : decode (ma_cd 38) 28 = .ok (.if_icmp .ge 7, 3) := (congrArg (fun b => decode b 28) cd_38).trans dX4_has_28
theorem e38_31 : decode (ma_cd 38) 31 = .ok (.iconst 1, 1) := (congrArg (fun b => decode b 31) cd_38).trans dX4_has_31
theorem e38_32 : decode (ma_cd 38) 32 = .ok (.goto 4, 3) := (congrArg (fun b => decode b 32) cd_38).trans dX4_has_32
theorem e38_35 : decode (ma_cd 38) 35 = .ok (.iconst 0, 1) := (congrArg (fun b => decode b 35) cd_38).trans dX4_has_35
theorem e38_36 : decode (ma_cd 38) 36 = .ok (.ireturn, 1) := (congrArg (fun b => decode b 36) cd_38).trans dX4_has_36
theorem S38 {ro : ma_RO} {d : Nat} : (∀ (v0 : Option Value) (x1 : Int32) (st : List Value) (σ : ma_H), ma_rn ro d 38 (0, [v0, some (.int x1)], st, SH, σ) = ma_rn ro d 38 (1, [v0, some (.int x1)], .int x1 :: st, SH, σ)) ∧
  (∀ (v0 : Option Value) (v1 : Option Value) (x1 : Int32) (st : List Value) (σ : ma_H), ma_rn ro d 38 (1, [v0, v1], .int x1 :: st, SH, σ) = if x1 < nI 0 then ma_rn ro d 38 (35, [v0, v1], st, SH, σ) else ma_rn ro d 38 (4, [v0, v1], st, SH, σ)) ∧
  (∀ (v0 : Option Value) (x1 : Int32) (st : List Value) (σ : ma_H), ma_rn ro d 38 (4, [v0, some (.int x1)], st, SH, σ) = ma_rn ro d 38 (5, [v0, some (.int x1)], .int x1 :: st, SH, σ)) ∧
  (∀ (v1 : Option Value) (a1 : Nat) (st : List Value) (σ : ma_H), ma_rn ro d 38 (5, [some (.ref a1), v1], st, SH, σ) = ma_rn ro d 38 (6, [some (.ref a1), v1], .ref a1 :: st, SH, σ)) ∧
  (∀ (v0 : Option Value) (v1 : Option Value) (a1 : Nat) (st : List Value) (σ : ma_H) (hc : hk_cls a1 = 4), ma_rn ro d 38 (6, [v0, v1], .ref a1 :: st, SH, σ) = ma_rn ro d 38 (9, [v0, v1], .ref (a1 + 1) :: st, SH, σ)) ∧
  (∀ (v0 : Option Value) (v1 : Option Value) (a1 : Nat) (st : List Value) (σ : ma_H) (hn : 0 < hk_alen a1), ma_rn ro d 38 (9, [v0, v1], .ref a1 :: st, SH, σ) = ma_rn ro d 38 (10, [v0, v1], .int (nI (hk_alen a1)) :: st, SH, σ)) ∧
  (∀ (v0 : Option Value) (v1 : Option Value) (x1 : Int32) (x2 : Int32) (st : List Value) (σ : ma_H), ma_rn ro d 38 (10, [v0, v1], .int x1 :: .int x2 :: st, SH, σ) = if x2 < x1 then ma_rn ro d 38 (13, [v0, v1], st, SH, σ) else ma_rn ro d 38 (35, [v0, v1], st, SH, σ)) ∧
  (∀ (v0 : Option Value) (x1 : Int32) (st : List Value) (σ : ma_H), ma_rn ro d 38 (13, [v0, some (.int x1)], st, SH, σ) = ma_rn ro d 38 (14, [v0, some (.int x1)], .int x1 :: st, SH, σ)) ∧
  (∀ (v1 : Option Value) (a1 : Nat) (st : List Value) (σ : ma_H), ma_rn ro d 38 (14, [some (.ref a1), v1], st, SH, σ) = ma_rn ro d 38 (15, [some (.ref a1), v1], .ref a1 :: st, SH, σ)) ∧
  (∀ (v0 : Option Value) (v1 : Option Value) (a1 : Nat) (st : List Value) (σ : ma_H) (hc : hk_cls a1 = 4), ma_rn ro d 38 (15, [v0, v1], .ref a1 :: st, SH, σ) = ma_rn ro d 38 (18, [v0, v1], .ref (a1 + 2) :: st, SH, σ)) ∧
  (∀ (v0 : Option Value) (v1 : Option Value) (a1 : Nat) (st : List Value) (σ : ma_H) (hn : 0 < hk_alen a1), ma_rn ro d 38 (18, [v0, v1], .ref a1 :: st, SH, σ) = ma_rn ro d 38 (19, [v0, v1], .int (nI (hk_alen a1)) :: st, SH, σ)) ∧
  (∀ (v0 : Option Value) (v1 : Option Value) (x1 : Int32) (x2 : Int32) (st : List Value) (σ : ma_H), ma_rn ro d 38 (19, [v0, v1], .int x1 :: .int x2 :: st, SH, σ) = if x2 < x1 then ma_rn ro d 38 (22, [v0, v1], st, SH, σ) else ma_rn ro d 38 (35, [v0, v1], st, SH, σ)) ∧
  (∀ (v0 : Option Value) (x1 : Int32) (st : List Value) (σ : ma_H), ma_rn ro d 38 (22, [v0, some (.int x1)], st, SH, σ) = ma_rn ro d 38 (23, [v0, some (.int x1)], .int x1 :: st, SH, σ)) ∧
  (∀ (v1 : Option Value) (a1 : Nat) (st : List Value) (σ : ma_H), ma_rn ro d 38 (23, [some (.ref a1), v1], st, SH, σ) = ma_rn ro d 38 (24, [some (.ref a1), v1], .ref a1 :: st, SH, σ)) ∧
  (∀ (v0 : Option Value) (v1 : Option Value) (a1 : Nat) (st : List Value) (σ : ma_H) (hc : hk_cls a1 = 4), ma_rn ro d 38 (24, [v0, v1], .ref a1 :: st, SH, σ) = ma_rn ro d 38 (27, [v0, v1], .ref (a1 + 3) :: st, SH, σ)) ∧
  (∀ (v0 : Option Value) (v1 : Option Value) (a1 : Nat) (st : List Value) (σ : ma_H) (hn : 0 < hk_alen a1), ma_rn ro d 38 (27, [v0, v1], .ref a1 :: st, SH, σ) = ma_rn ro d 38 (28, [v0, v1], .int (nI (hk_alen a1)) :: st, SH, σ)) ∧
  (∀ (v0 : Option Value) (v1 : Option Value) (x1 : Int32) (x2 : Int32) (st : List Value) (σ : ma_H), ma_rn ro d 38 (28, [v0, v1], .int x1 :: .int x2 :: st, SH, σ) = if x2 < x1 then ma_rn ro d 38 (31, [v0, v1], st, SH, σ) else ma_rn ro d 38 (35, [v0, v1], st, SH, σ)) ∧
  (∀ (v0 : Option Value) (v1 : Option Value) (st : List Value) (σ : ma_H), ma_rn ro d 38 (31, [v0, v1], st, SH, σ) = ma_rn ro d 38 (32, [v0, v1], .int (nI 1) :: st, SH, σ)) ∧
  (∀ (v0 : Option Value) (v1 : Option Value) (st : List Value) (σ : ma_H), ma_rn ro d 38 (32, [v0, v1], st, SH, σ) = ma_rn ro d 38 (36, [v0, v1], st, SH, σ)) ∧
  (∀ (v0 : Option Value) (v1 : Option Value) (st : List Value) (σ : ma_H), ma_rn ro d 38 (35, [v0, v1], st, SH, σ) = ma_rn ro d 38 (36, [v0, v1], .int (nI 0) :: st, SH, σ)) ∧
  (∀ (v0 : Option Value) (v1 : Option Value) (x1 : Int32) (σ : ma_H) (hx : ma_fitI .boolean x1 = true), ma_rn ro d 38 (36, [v0, v1], [.int x1], SH, σ) = some (some (.int x1), SH, σ)) := ⟨fun v0 x1 st σ => q_go e38_0 rfl rfl,
  fun v0 v1 x1 st σ => (q_if e38_1 rfl).trans q_lt,
  fun v0 x1 st σ => q_go e38_4 rfl rfl,
  fun v1 a1 st σ => q_go e38_5 rfl rfl,
  fun v0 v1 a1 st σ hc => q_getA e38_6 o_38 f_4_15 (by decide) hc,
  fun v0 v1 a1 st σ hn => q_alen e38_9 rfl hn,
  fun v0 v1 x1 x2 st σ => (q_cmp e38_10 rfl).trans q_nlt,
  fun v0 x1 st σ => q_go e38_13 rfl rfl,
  fun v1 a1 st σ => q_go e38_14 rfl rfl,
  fun v0 v1 a1 st σ hc => q_getA e38_15 o_38 f_4_21 (by decide) hc,
  fun v0 v1 a1 st σ hn => q_alen e38_18 rfl hn,
  fun v0 v1 x1 x2 st σ => (q_cmp e38_19 rfl).trans q_nlt,
  fun v0 x1 st σ => q_go e38_22 rfl rfl,
  fun v1 a1 st σ => q_go e38_23 rfl rfl,
  fun v0 v1 a1 st σ hc => q_getA e38_24 o_38 f_4_24 (by decide) hc,
  fun v0 v1 a1 st σ hn => q_alen e38_27 rfl hn,
  fun v0 v1 x1 x2 st σ => (q_cmp e38_28 rfl).trans q_nlt,
  fun v0 v1 st σ => q_iconst e38_31 (by decide),
  fun v0 v1 st σ => q_goto e38_32 rfl,
  fun v0 v1 st σ => q_iconst e38_35 (by decide),
  fun v0 v1 x1 σ hx => q_zret e38_36 r_38 hx⟩
theorem E38 {ro : ma_RO} {d : Nat} (a0 : Nat) (x1 : Int32) (sh : List ma_Sh) (σ : ma_H) : ma_ev ro d 38 [.ref a0, .int x1] sh σ = ma_rn ro d 38 (0, [some (.ref a0), some (.int x1)], [], sh, σ) := q_ent x_38 rfl
theorem e39_0 : decode (ma_cd 39) 0 = .ok (.aload_n 0, 1) := (congrArg (fun b => decode b 0) cd_39).trans dX4_add_0
theorem e39_1 : decode (ma_cd 39) 1 = .ok (.aload_n 0, 1) := (congrArg (fun b => decode b 1) cd_39).trans dX4_add_1
theorem e39_2 : decode (ma_cd 39) 2 = .ok (.getfield 28, 3) := (congrArg (fun b => decode b 2) cd_39).trans dX4_add_2
theorem e39_5 : decode (ma_cd 39) 5 = .ok (.invokevirtual 32, 3) := (congrArg (fun b => decode b 5) cd_39).trans dX4_add_5
theorem e39_8 : decode (ma_cd 39) 8 = .ok (.ifCond .ne 5, 3) := (congrArg (fun b => decode b 8) cd_39).trans dX4_add_8
theorem e39_11 : decode (ma_cd 39) 11 = .ok (.iconst 0, 1) := (congrArg (fun b => decode b 11) cd_39).trans dX4_add_11
theorem e39_12 : decode (ma_cd 39) 12 = .ok (.ireturn, 1) := (congrArg (fun b => decode b 12) cd_39).trans dX4_add_12
theorem e39_13 : decode (ma_cd 39) 13 = .ok (.aload_n 0, 1) := (congrArg (fun b => decode b 13) cd_39).trans dX4_add_13
theorem e39_14 : decode (ma_cd 39) 14 = .ok (.aload_n 0, 1) := (congrArg (fun b => decode b 14) cd_39).trans dX4_add_14
theorem e39_15 : decode (ma_cd 39) 15 = .ok (.getfield 28, 3) := (congrArg (fun b => decode b 15) cd_39).trans dX4_add_15
theorem e39_18 : decode (ma_cd 39) 18 = .ok (.iload_n 1, 1) := (congrArg (fun b => decode b 18) cd_39).trans dX4_add_18
theorem e39_19 : decode (ma_cd 39) 19 = .ok (.iload_n 2, 1) := (congrArg (fun b => decode b 19) cd_39).trans dX4_add_19
theorem e39_20 : decode (ma_cd 39) 20 = .ok (.iload_n 3, 1) := (congrArg (fun b => decode b 20) cd_39).trans dX4_add_20
theorem e39_21 : decode (ma_cd 39) 21 = .ok (.invokevirtual 36, 3) := (congrArg (fun b => decode b 21) cd_39).trans dX4_add_21
theorem e39_24 : decode (ma_cd 39) 24 = .ok (.aload_n 0, 1) := (congrArg (fun b => decode b 24) cd_39).trans dX4_add_24
theorem e39_25 : decode (ma_cd 39) 25 = .ok (.dup, 1) := (congrArg (fun b => decode b 25) cd_39).trans dX4_add_25
theorem e39_26 : decode (ma_cd 39) 26 = .ok (.getfield 28, 3) := (congrArg (fun b => decode b 26) cd_39).trans dX4_add_26
theorem e39_29 : decode (ma_cd 39) 29 = .ok (.iconst 1, 1) := (congrArg (fun b => decode b 29) cd_39).trans dX4_add_29
theorem e39_30 : decode (ma_cd 39) 30 = .ok (.iadd, 1) := (congrArg (fun b => decode b 30) cd_39).trans dX4_add_30
theorem e39_31 : decode (ma_cd 39) 31 = .ok (.putfield 28, 3) := (congrArg (fun b => decode b 31) cd_39).trans dX4_add_31
theorem e39_34 : decode (ma_cd 39) 34 = .ok (.iconst 1, 1) := (congrArg (fun b => decode b 34) cd_39).trans dX4_add_34
theorem e39_35 : decode (ma_cd 39) 35 = .ok (.ireturn, 1) := (congrArg (fun b => decode b 35) cd_39).trans dX4_add_35
theorem S39 {ro : ma_RO} {d : Nat} : (∀ (v1 : Option Value) (v2 : Option Value) (v3 : Option Value) (a1 : Nat) (st : List Value) (σ : ma_H), ma_rn ro d 39 (0, [some (.ref a1), v1, v2, v3], st, SH, σ) = ma_rn ro d 39 (1, [some (.ref a1), v1, v2, v3], .ref a1 :: st, SH, σ)) ∧
  (∀ (v1 : Option Value) (v2 : Option Value) (v3 : Option Value) (a1 : Nat) (st : List Value) (σ : ma_H), ma_rn ro d 39 (1, [some (.ref a1), v1, v2, v3], st, SH, σ) = ma_rn ro d 39 (2, [some (.ref a1), v1, v2, v3], .ref a1 :: st, SH, σ)) ∧
  (∀ (v0 : Option Value) (v1 : Option Value) (v2 : Option Value) (v3 : Option Value) (a1 : Nat) (st : List Value) (σ : ma_H) (hc : hk_cls a1 = 4), ma_rn ro d 39 (2, [v0, v1, v2, v3], .ref a1 :: st, SH, σ) = ma_rn ro d 39 (5, [v0, v1, v2, v3], .int (σ a1 3) :: st, SH, σ)) ∧
  (∀ (v0 : Option Value) (v1 : Option Value) (v2 : Option Value) (v3 : Option Value) (x1 : Int32) (a0 : Nat) (σ : ma_H) (hc : hk_cls a0 = 4), ma_rn ro (d + 1) 39 (5, [v0, v1, v2, v3], .int x1 :: .ref a0 :: [], SH, σ) = (ma_ev ro d 38 [.ref a0, .int x1] SH σ).bind (fun q => ma_rn ro (d + 1) 39 (8, [v0, v1, v2, v3], (q.1.toList ++ []), q.2.1, q.2.2))) ∧
  (∀ (v0 : Option Value) (v1 : Option Value) (v2 : Option Value) (v3 : Option Value) (x1 : Int32) (st : List Value) (σ : ma_H), ma_rn ro d 39 (8, [v0, v1, v2, v3], .int x1 :: st, SH, σ) = if x1 = nI 0 then ma_rn ro d 39 (11, [v0, v1, v2, v3], st, SH, σ) else ma_rn ro d 39 (13, [v0, v1, v2, v3], st, SH, σ)) ∧
  (∀ (v0 : Option Value) (v1 : Option Value) (v2 : Option Value) (v3 : Option Value) (st : List Value) (σ : ma_H), ma_rn ro d 39 (11, [v0, v1, v2, v3], st, SH, σ) = ma_rn ro d 39 (12, [v0, v1, v2, v3], .int (nI 0) :: st, SH, σ)) ∧
  (∀ (v0 : Option Value) (v1 : Option Value) (v2 : Option Value) (v3 : Option Value) (x1 : Int32) (σ : ma_H) (hx : ma_fitI .boolean x1 = true), ma_rn ro d 39 (12, [v0, v1, v2, v3], [.int x1], SH, σ) = some (some (.int x1), SH, σ)) ∧
  (∀ (v1 : Option Value) (v2 : Option Value) (v3 : Option Value) (a1 : Nat) (st : List Value) (σ : ma_H), ma_rn ro d 39 (13, [some (.ref a1), v1, v2, v3], st, SH, σ) = ma_rn ro d 39 (14, [some (.ref a1), v1, v2, v3], .ref a1 :: st, SH, σ)) ∧
  (∀ (v1 : Option Value) (v2 : Option Value) (v3 : Option Value) (a1 : Nat) (st : List Value) (σ : ma_H), ma_rn ro d 39 (14, [some (.ref a1), v1, v2, v3], st, SH, σ) = ma_rn ro d 39 (15, [some (.ref a1), v1, v2, v3], .ref a1 :: st, SH, σ)) ∧
  (∀ (v0 : Option Value) (v1 : Option Value) (v2 : Option Value) (v3 : Option Value) (a1 : Nat) (st : List Value) (σ : ma_H) (hc : hk_cls a1 = 4), ma_rn ro d 39 (15, [v0, v1, v2, v3], .ref a1 :: st, SH, σ) = ma_rn ro d 39 (18, [v0, v1, v2, v3], .int (σ a1 3) :: st, SH, σ)) ∧
  (∀ (v0 : Option Value) (v2 : Option Value) (v3 : Option Value) (x1 : Int32) (st : List Value) (σ : ma_H), ma_rn ro d 39 (18, [v0, some (.int x1), v2, v3], st, SH, σ) = ma_rn ro d 39 (19, [v0, some (.int x1), v2, v3], .int x1 :: st, SH, σ)) ∧
  (∀ (v0 : Option Value) (v1 : Option Value) (v3 : Option Value) (x1 : Int32) (st : List Value) (σ : ma_H), ma_rn ro d 39 (19, [v0, v1, some (.int x1), v3], st, SH, σ) = ma_rn ro d 39 (20, [v0, v1, some (.int x1), v3], .int x1 :: st, SH, σ)) ∧
  (∀ (v0 : Option Value) (v1 : Option Value) (v2 : Option Value) (x1 : Int32) (st : List Value) (σ : ma_H), ma_rn ro d 39 (20, [v0, v1, v2, some (.int x1)], st, SH, σ) = ma_rn ro d 39 (21, [v0, v1, v2, some (.int x1)], .int x1 :: st, SH, σ)) ∧
  (∀ (v0 : Option Value) (v1 : Option Value) (v2 : Option Value) (v3 : Option Value) (x1 : Int32) (x2 : Int32) (x3 : Int32) (x4 : Int32) (a0 : Nat) (σ : ma_H) (hc : hk_cls a0 = 4), ma_rn ro (d + 1) 39 (21, [v0, v1, v2, v3], .int x4 :: .int x3 :: .int x2 :: .int x1 :: .ref a0 :: [], SH, σ) = (ma_ev ro d 40 [.ref a0, .int x1, .int x2, .int x3, .int x4] SH σ).bind (fun q => ma_rn ro (d + 1) 39 (24, [v0, v1, v2, v3], (q.1.toList ++ []), q.2.1, q.2.2))) ∧
  (∀ (v1 : Option Value) (v2 : Option Value) (v3 : Option Value) (a1 : Nat) (st : List Value) (σ : ma_H), ma_rn ro d 39 (24, [some (.ref a1), v1, v2, v3], st, SH, σ) = ma_rn ro d 39 (25, [some (.ref a1), v1, v2, v3], .ref a1 :: st, SH, σ)) ∧
  (∀ (v0 : Option Value) (v1 : Option Value) (v2 : Option Value) (v3 : Option Value) (a1 : Nat) (st : List Value) (σ : ma_H), ma_rn ro d 39 (25, [v0, v1, v2, v3], .ref a1 :: st, SH, σ) = ma_rn ro d 39 (26, [v0, v1, v2, v3], .ref a1 :: .ref a1 :: st, SH, σ)) ∧
  (∀ (v0 : Option Value) (v1 : Option Value) (v2 : Option Value) (v3 : Option Value) (a1 : Nat) (st : List Value) (σ : ma_H) (hc : hk_cls a1 = 4), ma_rn ro d 39 (26, [v0, v1, v2, v3], .ref a1 :: st, SH, σ) = ma_rn ro d 39 (29, [v0, v1, v2, v3], .int (σ a1 3) :: st, SH, σ)) ∧
  (∀ (v0 : Option Value) (v1 : Option Value) (v2 : Option Value) (v3 : Option Value) (st : List Value) (σ : ma_H), ma_rn ro d 39 (29, [v0, v1, v2, v3], st, SH, σ) = ma_rn ro d 39 (30, [v0, v1, v2, v3], .int (nI 1) :: st, SH, σ)) ∧
  (∀ (v0 : Option Value) (v1 : Option Value) (v2 : Option Value) (v3 : Option Value) (x1 : Int32) (x2 : Int32) (st : List Value) (σ : ma_H), ma_rn ro d 39 (30, [v0, v1, v2, v3], .int x1 :: .int x2 :: st, SH, σ) = ma_rn ro d 39 (31, [v0, v1, v2, v3], .int (x2 + x1) :: st, SH, σ)) ∧
  (∀ (v0 : Option Value) (v1 : Option Value) (v2 : Option Value) (v3 : Option Value) (x1 : Int32) (a2 : Nat) (st : List Value) (σ : ma_H) (hc : hk_cls a2 = 4), ma_rn ro d 39 (31, [v0, v1, v2, v3], .int x1 :: .ref a2 :: st, SH, σ) = ma_rn ro d 39 (34, [v0, v1, v2, v3], st, SH, (ma_up σ a2 3 x1))) ∧
  (∀ (v0 : Option Value) (v1 : Option Value) (v2 : Option Value) (v3 : Option Value) (st : List Value) (σ : ma_H), ma_rn ro d 39 (34, [v0, v1, v2, v3], st, SH, σ) = ma_rn ro d 39 (35, [v0, v1, v2, v3], .int (nI 1) :: st, SH, σ)) ∧
  (∀ (v0 : Option Value) (v1 : Option Value) (v2 : Option Value) (v3 : Option Value) (x1 : Int32) (σ : ma_H) (hx : ma_fitI .boolean x1 = true), ma_rn ro d 39 (35, [v0, v1, v2, v3], [.int x1], SH, σ) = some (some (.int x1), SH, σ)) := ⟨fun v1 v2 v3 a1 st σ => q_go e39_0 rfl rfl,
  fun v1 v2 v3 a1 st σ => q_go e39_1 rfl rfl,
  fun v0 v1 v2 v3 a1 st σ hc => q_getI e39_2 o_39 f_4_28 (by decide) hc,
  fun v0 v1 v2 v3 x1 a0 σ hc => q_invV (as := [.int x1]) (rest := []) e39_5 o_39 bn_4_32 c_4_32 m_38 (by decide) rfl rfl (Nat.le_of_ble_eq_true rfl) (Nat.le_of_ble_eq_true rfl) hc,
  fun v0 v1 v2 v3 x1 st σ => (q_if e39_8 rfl).trans q_ne,
  fun v0 v1 v2 v3 st σ => q_iconst e39_11 (by decide),
  fun v0 v1 v2 v3 x1 σ hx => q_zret e39_12 r_39 hx,
  fun v1 v2 v3 a1 st σ => q_go e39_13 rfl rfl,
  fun v1 v2 v3 a1 st σ => q_go e39_14 rfl rfl,
  fun v0 v1 v2 v3 a1 st σ hc => q_getI e39_15 o_39 f_4_28 (by decide) hc,
  fun v0 v2 v3 x1 st σ => q_go e39_18 rfl rfl,
  fun v0 v1 v3 x1 st σ => q_go e39_19 rfl rfl,
  fun v0 v1 v2 x1 st σ => q_go e39_20 rfl rfl,
  fun v0 v1 v2 v3 x1 x2 x3 x4 a0 σ hc => q_invV (as := [.int x1, .int x2, .int x3, .int x4]) (rest := []) e39_21 o_39 bn_4_36 c_4_36 m_40 (by decide) rfl rfl (Nat.le_of_ble_eq_true rfl) (Nat.le_of_ble_eq_true rfl) hc,
  fun v1 v2 v3 a1 st σ => q_go e39_24 rfl rfl,
  fun v0 v1 v2 v3 a1 st σ => q_go e39_25 rfl rfl,
  fun v0 v1 v2 v3 a1 st σ hc => q_getI e39_26 o_39 f_4_28 (by decide) hc,
  fun v0 v1 v2 v3 st σ => q_iconst e39_29 (by decide),
  fun v0 v1 v2 v3 x1 x2 st σ => q_go e39_30 rfl rfl,
  fun v0 v1 v2 v3 x1 a2 st σ hc => q_putI e39_31 o_39 f_4_28 (by decide) rfl hc,
  fun v0 v1 v2 v3 st σ => q_iconst e39_34 (by decide),
  fun v0 v1 v2 v3 x1 σ hx => q_zret e39_35 r_39 hx⟩
theorem E39 {ro : ma_RO} {d : Nat} (a0 : Nat) (x1 : Int32) (x2 : Int32) (x3 : Int32) (sh : List ma_Sh) (σ : ma_H) : ma_ev ro d 39 [.ref a0, .int x1, .int x2, .int x3] sh σ = ma_rn ro d 39 (0, [some (.ref a0), some (.int x1), some (.int x2), some (.int x3)], [], sh, σ) := q_ent x_39 rfl
theorem e40_0 : decode (ma_cd 40) 0 = .ok (.aload_n 0, 1) := (congrArg (fun b => decode b 0) cd_40).trans dX4_setAt_0
theorem e40_1 : decode (ma_cd 40) 1 = .ok (.iload_n 1, 1) := (congrArg (fun b => decode b 1) cd_40).trans dX4_setAt_1
theorem e40_2 : decode (ma_cd 40) 2 = .ok (.invokevirtual 32, 3) := (congrArg (fun b => decode b 2) cd_40).trans dX4_setAt_2
theorem e40_5 : decode (ma_cd 40) 5 = .ok (.ifCond .ne 4, 3) := (congrArg (fun b => decode b 5) cd_40).trans dX4_setAt_5
theorem e40_8 : decode (ma_cd 40) 8 = .ok (.return_, 1) := (congrArg (fun b => decode b 8) cd_40).trans dX4_setAt_8
theorem e40_9 : decode (ma_cd 40) 9 = .ok (.aload_n 0, 1) := (congrArg (fun b => decode b 9) cd_40).trans dX4_setAt_9
theorem e40_10 : decode (ma_cd 40) 10 = .ok (.getfield 15, 3) := (congrArg (fun b => decode b 10) cd_40).trans dX4_setAt_10
theorem e40_13 : decode (ma_cd 40) 13 = .ok (.iload_n 1, 1) := (congrArg (fun b => decode b 13) cd_40).trans dX4_setAt_13
theorem e40_14 : decode (ma_cd 40) 14 = .ok (.iload_n 2, 1) := (congrArg (fun b => decode b 14) cd_40).trans dX4_setAt_14
theorem e40_15 : decode (ma_cd 40) 15 = .ok (.iastore, 1) := (congrArg (fun b => decode b 15) cd_40).trans dX4_setAt_15
theorem e40_16 : decode (ma_cd 40) 16 = .ok (.aload_n 0, 1) := (congrArg (fun b => decode b 16) cd_40).trans dX4_setAt_16
theorem e40_17 : decode (ma_cd 40) 17 = .ok (.getfield 21, 3) := (congrArg (fun b => decode b 17) cd_40).trans dX4_setAt_17
theorem e40_20 : decode (ma_cd 40) 20 = .ok (.iload_n 1, 1) := (congrArg (fun b => decode b 20) cd_40).trans dX4_setAt_20
theorem e40_21 : decode (ma_cd 40) 21 = .ok (.iload_n 3, 1) := (congrArg (fun b => decode b 21) cd_40).trans dX4_setAt_21
theorem e40_22 : decode (ma_cd 40) 22 = .ok (.iastore, 1) := (congrArg (fun b => decode b 22) cd_40).trans dX4_setAt_22
theorem e40_23 : decode (ma_cd 40) 23 = .ok (.aload_n 0, 1) := (congrArg (fun b => decode b 23) cd_40).trans dX4_setAt_23
theorem e40_24 : decode (ma_cd 40) 24 = .ok (.getfield 24, 3) := (congrArg (fun b => decode b 24) cd_40).trans dX4_setAt_24
theorem e40_27 : decode (ma_cd 40) 27 = .ok (.iload_n 1, 1) := (congrArg (fun b => decode b 27) cd_40).trans dX4_setAt_27
theorem e40_28 : decode (ma_cd 40) 28 = .ok (.iload 4, 2) := (congrArg (fun b => decode b 28) cd_40).trans dX4_setAt_28
theorem e40_30 : decode (ma_cd 40) 30 = .ok (.bastore, 1) := (congrArg (fun b => decode b 30) cd_40).trans dX4_setAt_30
theorem e40_31 : decode (ma_cd 40) 31 = .ok (.return_, 1) := (congrArg (fun b => decode b 31) cd_40).trans dX4_setAt_31
theorem S40 {ro : ma_RO} {d : Nat} : (∀ (v1 : Option Value) (v2 : Option Value) (v3 : Option Value) (v4 : Option Value) (a1 : Nat) (st : List Value) (σ : ma_H), ma_rn ro d 40 (0, [some (.ref a1), v1, v2, v3, v4], st, SH, σ) = ma_rn ro d 40 (1, [some (.ref a1), v1, v2, v3, v4], .ref a1 :: st, SH, σ)) ∧
  (∀ (v0 : Option Value) (v2 : Option Value) (v3 : Option Value) (v4 : Option Value) (x1 : Int32) (st : List Value) (σ : ma_H), ma_rn ro d 40 (1, [v0, some (.int x1), v2, v3, v4], st, SH, σ) = ma_rn ro d 40 (2, [v0, some (.int x1), v2, v3, v4], .int x1 :: st, SH, σ)) ∧
  (∀ (v0 : Option Value) (v1 : Option Value) (v2 : Option Value) (v3 : Option Value) (v4 : Option Value) (x1 : Int32) (a0 : Nat) (σ : ma_H) (hc : hk_cls a0 = 4), ma_rn ro (d + 1) 40 (2, [v0, v1, v2, v3, v4], .int x1 :: .ref a0 :: [], SH, σ) = (ma_ev ro d 38 [.ref a0, .int x1] SH σ).bind (fun q => ma_rn ro (d + 1) 40 (5, [v0, v1, v2, v3, v4], (q.1.toList ++ []), q.2.1, q.2.2))) ∧
  (∀ (v0 : Option Value) (v1 : Option Value) (v2 : Option Value) (v3 : Option Value) (v4 : Option Value) (x1 : Int32) (st : List Value) (σ : ma_H), ma_rn ro d 40 (5, [v0, v1, v2, v3, v4], .int x1 :: st, SH, σ) = if x1 = nI 0 then ma_rn ro d 40 (8, [v0, v1, v2, v3, v4], st, SH, σ) else ma_rn ro d 40 (9, [v0, v1, v2, v3, v4], st, SH, σ)) ∧
  (∀ (v0 : Option Value) (v1 : Option Value) (v2 : Option Value) (v3 : Option Value) (v4 : Option Value) (σ : ma_H), ma_rn ro d 40 (8, [v0, v1, v2, v3, v4], [], SH, σ) = some (none, SH, σ)) ∧
  (∀ (v1 : Option Value) (v2 : Option Value) (v3 : Option Value) (v4 : Option Value) (a1 : Nat) (st : List Value) (σ : ma_H), ma_rn ro d 40 (9, [some (.ref a1), v1, v2, v3, v4], st, SH, σ) = ma_rn ro d 40 (10, [some (.ref a1), v1, v2, v3, v4], .ref a1 :: st, SH, σ)) ∧
  (∀ (v0 : Option Value) (v1 : Option Value) (v2 : Option Value) (v3 : Option Value) (v4 : Option Value) (a1 : Nat) (st : List Value) (σ : ma_H) (hc : hk_cls a1 = 4), ma_rn ro d 40 (10, [v0, v1, v2, v3, v4], .ref a1 :: st, SH, σ) = ma_rn ro d 40 (13, [v0, v1, v2, v3, v4], .ref (a1 + 1) :: st, SH, σ)) ∧
  (∀ (v0 : Option Value) (v2 : Option Value) (v3 : Option Value) (v4 : Option Value) (x1 : Int32) (st : List Value) (σ : ma_H), ma_rn ro d 40 (13, [v0, some (.int x1), v2, v3, v4], st, SH, σ) = ma_rn ro d 40 (14, [v0, some (.int x1), v2, v3, v4], .int x1 :: st, SH, σ)) ∧
  (∀ (v0 : Option Value) (v1 : Option Value) (v3 : Option Value) (v4 : Option Value) (x1 : Int32) (st : List Value) (σ : ma_H), ma_rn ro d 40 (14, [v0, v1, some (.int x1), v3, v4], st, SH, σ) = ma_rn ro d 40 (15, [v0, v1, some (.int x1), v3, v4], .int x1 :: st, SH, σ)) ∧
  (∀ (v0 : Option Value) (v1 : Option Value) (v2 : Option Value) (v3 : Option Value) (v4 : Option Value) (x1 : Int32) (k : Nat) (a3 : Nat) (st : List Value) (σ : ma_H) (hk : k < hk_len a3), ma_rn ro d 40 (15, [v0, v1, v2, v3, v4], .int x1 :: .int (nI k) :: .ref a3 :: st, SH, σ) = ma_rn ro d 40 (16, [v0, v1, v2, v3, v4], st, SH, (ma_up σ a3 k x1))) ∧
  (∀ (v1 : Option Value) (v2 : Option Value) (v3 : Option Value) (v4 : Option Value) (a1 : Nat) (st : List Value) (σ : ma_H), ma_rn ro d 40 (16, [some (.ref a1), v1, v2, v3, v4], st, SH, σ) = ma_rn ro d 40 (17, [some (.ref a1), v1, v2, v3, v4], .ref a1 :: st, SH, σ)) ∧
  (∀ (v0 : Option Value) (v1 : Option Value) (v2 : Option Value) (v3 : Option Value) (v4 : Option Value) (a1 : Nat) (st : List Value) (σ : ma_H) (hc : hk_cls a1 = 4), ma_rn ro d 40 (17, [v0, v1, v2, v3, v4], .ref a1 :: st, SH, σ) = ma_rn ro d 40 (20, [v0, v1, v2, v3, v4], .ref (a1 + 2) :: st, SH, σ)) ∧
  (∀ (v0 : Option Value) (v2 : Option Value) (v3 : Option Value) (v4 : Option Value) (x1 : Int32) (st : List Value) (σ : ma_H), ma_rn ro d 40 (20, [v0, some (.int x1), v2, v3, v4], st, SH, σ) = ma_rn ro d 40 (21, [v0, some (.int x1), v2, v3, v4], .int x1 :: st, SH, σ)) ∧
  (∀ (v0 : Option Value) (v1 : Option Value) (v2 : Option Value) (v4 : Option Value) (x1 : Int32) (st : List Value) (σ : ma_H), ma_rn ro d 40 (21, [v0, v1, v2, some (.int x1), v4], st, SH, σ) = ma_rn ro d 40 (22, [v0, v1, v2, some (.int x1), v4], .int x1 :: st, SH, σ)) ∧
  (∀ (v0 : Option Value) (v1 : Option Value) (v2 : Option Value) (v3 : Option Value) (v4 : Option Value) (x1 : Int32) (k : Nat) (a3 : Nat) (st : List Value) (σ : ma_H) (hk : k < hk_len a3), ma_rn ro d 40 (22, [v0, v1, v2, v3, v4], .int x1 :: .int (nI k) :: .ref a3 :: st, SH, σ) = ma_rn ro d 40 (23, [v0, v1, v2, v3, v4], st, SH, (ma_up σ a3 k x1))) ∧
  (∀ (v1 : Option Value) (v2 : Option Value) (v3 : Option Value) (v4 : Option Value) (a1 : Nat) (st : List Value) (σ : ma_H), ma_rn ro d 40 (23, [some (.ref a1), v1, v2, v3, v4], st, SH, σ) = ma_rn ro d 40 (24, [some (.ref a1), v1, v2, v3, v4], .ref a1 :: st, SH, σ)) ∧
  (∀ (v0 : Option Value) (v1 : Option Value) (v2 : Option Value) (v3 : Option Value) (v4 : Option Value) (a1 : Nat) (st : List Value) (σ : ma_H) (hc : hk_cls a1 = 4), ma_rn ro d 40 (24, [v0, v1, v2, v3, v4], .ref a1 :: st, SH, σ) = ma_rn ro d 40 (27, [v0, v1, v2, v3, v4], .ref (a1 + 3) :: st, SH, σ)) ∧
  (∀ (v0 : Option Value) (v2 : Option Value) (v3 : Option Value) (v4 : Option Value) (x1 : Int32) (st : List Value) (σ : ma_H), ma_rn ro d 40 (27, [v0, some (.int x1), v2, v3, v4], st, SH, σ) = ma_rn ro d 40 (28, [v0, some (.int x1), v2, v3, v4], .int x1 :: st, SH, σ)) ∧
  (∀ (v0 : Option Value) (v1 : Option Value) (v2 : Option Value) (v3 : Option Value) (x1 : Int32) (st : List Value) (σ : ma_H), ma_rn ro d 40 (28, [v0, v1, v2, v3, some (.int x1)], st, SH, σ) = ma_rn ro d 40 (30, [v0, v1, v2, v3, some (.int x1)], .int x1 :: st, SH, σ)) ∧
  (∀ (v0 : Option Value) (v1 : Option Value) (v2 : Option Value) (v3 : Option Value) (v4 : Option Value) (x1 : Int32) (k : Nat) (a3 : Nat) (st : List Value) (σ : ma_H) (hk : k < hk_zlen a3), ma_rn ro d 40 (30, [v0, v1, v2, v3, v4], .int x1 :: .int (nI k) :: .ref a3 :: st, SH, σ) = ma_rn ro d 40 (31, [v0, v1, v2, v3, v4], st, SH, (ma_up σ a3 k (vp_nar .boolean x1)))) ∧
  (∀ (v0 : Option Value) (v1 : Option Value) (v2 : Option Value) (v3 : Option Value) (v4 : Option Value) (σ : ma_H), ma_rn ro d 40 (31, [v0, v1, v2, v3, v4], [], SH, σ) = some (none, SH, σ)) := ⟨fun v1 v2 v3 v4 a1 st σ => q_go e40_0 rfl rfl,
  fun v0 v2 v3 v4 x1 st σ => q_go e40_1 rfl rfl,
  fun v0 v1 v2 v3 v4 x1 a0 σ hc => q_invV (as := [.int x1]) (rest := []) e40_2 o_40 bn_4_32 c_4_32 m_38 (by decide) rfl rfl (Nat.le_of_ble_eq_true rfl) (Nat.le_of_ble_eq_true rfl) hc,
  fun v0 v1 v2 v3 v4 x1 st σ => (q_if e40_5 rfl).trans q_ne,
  fun v0 v1 v2 v3 v4 σ => q_vret e40_8 r_40,
  fun v1 v2 v3 v4 a1 st σ => q_go e40_9 rfl rfl,
  fun v0 v1 v2 v3 v4 a1 st σ hc => q_getA e40_10 o_40 f_4_15 (by decide) hc,
  fun v0 v2 v3 v4 x1 st σ => q_go e40_13 rfl rfl,
  fun v0 v1 v3 v4 x1 st σ => q_go e40_14 rfl rfl,
  fun v0 v1 v2 v3 v4 x1 k a3 st σ hk => q_iast e40_15 hk,
  fun v1 v2 v3 v4 a1 st σ => q_go e40_16 rfl rfl,
  fun v0 v1 v2 v3 v4 a1 st σ hc => q_getA e40_17 o_40 f_4_21 (by decide) hc,
  fun v0 v2 v3 v4 x1 st σ => q_go e40_20 rfl rfl,
  fun v0 v1 v2 v4 x1 st σ => q_go e40_21 rfl rfl,
  fun v0 v1 v2 v3 v4 x1 k a3 st σ hk => q_iast e40_22 hk,
  fun v1 v2 v3 v4 a1 st σ => q_go e40_23 rfl rfl,
  fun v0 v1 v2 v3 v4 a1 st σ hc => q_getA e40_24 o_40 f_4_24 (by decide) hc,
  fun v0 v2 v3 v4 x1 st σ => q_go e40_27 rfl rfl,
  fun v0 v1 v2 v3 x1 st σ => q_go e40_28 rfl rfl,
  fun v0 v1 v2 v3 v4 x1 k a3 st σ hk => q_bast e40_30 hk,
  fun v0 v1 v2 v3 v4 σ => q_vret e40_31 r_40⟩
theorem E40 {ro : ma_RO} {d : Nat} (a0 : Nat) (x1 : Int32) (x2 : Int32) (x3 : Int32) (x4 : Int32) (sh : List ma_Sh) (σ : ma_H) : ma_ev ro d 40 [.ref a0, .int x1, .int x2, .int x3, .int x4] sh σ = ma_rn ro d 40 (0, [some (.ref a0), some (.int x1), some (.int x2), some (.int x3), some (.int x4)], [], sh, σ) := q_ent x_40 rfl
theorem e41_0 : decode (ma_cd 41) 0 = .ok (.aload_n 0, 1) := (congrArg (fun b => decode b 0) cd_41).trans dX4_firstAt_0
theorem e41_1 : decode (ma_cd 41) 1 = .ok (.iload_n 1, 1) := (congrArg (fun b => decode b 1) cd_41).trans dX4_firstAt_1
theorem e41_2 : decode (ma_cd 41) 2 = .ok (.invokevirtual 32, 3) := (congrArg (fun b => decode b 2) cd_41).trans dX4_firstAt_2
theorem e41_5 : decode (ma_cd 41) 5 = .ok (.ifCond .eq 12, 3) := (congrArg (fun b => decode b 5) cd_41).trans dX4_firstAt_5
theorem e41_8 : decode (ma_cd 41) 8 = .ok (.aload_n 0, 1) := (congrArg (fun b => decode b 8) cd_41).trans dX4_firstAt_8
theorem e41_9 : decode (ma_cd 41) 9 = .ok (.getfield 15, 3) := (congrArg (fun b => decode b 9) cd_41).trans dX4_firstAt_9
theorem e41_12 : decode (ma_cd 41) 12 = .ok (.iload_n 1, 1) := (congrArg (fun b => decode b 12) cd_41).trans dX4_firstAt_12
theorem e41_13 : decode (ma_cd 41) 13 = .ok (.iaload, 1) := (congrArg (fun b => decode b 13) cd_41).trans dX4_firstAt_13
theorem e41_14 : decode (ma_cd 41) 14 = .ok (.goto 4, 3) := (congrArg (fun b => decode b 14) cd_41).trans dX4_firstAt_14
theorem e41_17 : decode (ma_cd 41) 17 = .ok (.iconst (-1), 1) := (congrArg (fun b => decode b 17) cd_41).trans dX4_firstAt_17
theorem e41_18 : decode (ma_cd 41) 18 = .ok (.ireturn, 1) := (congrArg (fun b => decode b 18) cd_41).trans dX4_firstAt_18
theorem S41 {ro : ma_RO} {d : Nat} : (∀ (v1 : Option Value) (a1 : Nat) (st : List Value) (σ : ma_H), ma_rn ro d 41 (0, [some (.ref a1), v1], st, SH, σ) = ma_rn ro d 41 (1, [some (.ref a1), v1], .ref a1 :: st, SH, σ)) ∧
  (∀ (v0 : Option Value) (x1 : Int32) (st : List Value) (σ : ma_H), ma_rn ro d 41 (1, [v0, some (.int x1)], st, SH, σ) = ma_rn ro d 41 (2, [v0, some (.int x1)], .int x1 :: st, SH, σ)) ∧
  (∀ (v0 : Option Value) (v1 : Option Value) (x1 : Int32) (a0 : Nat) (σ : ma_H) (hc : hk_cls a0 = 4), ma_rn ro (d + 1) 41 (2, [v0, v1], .int x1 :: .ref a0 :: [], SH, σ) = (ma_ev ro d 38 [.ref a0, .int x1] SH σ).bind (fun q => ma_rn ro (d + 1) 41 (5, [v0, v1], (q.1.toList ++ []), q.2.1, q.2.2))) ∧
  (∀ (v0 : Option Value) (v1 : Option Value) (x1 : Int32) (st : List Value) (σ : ma_H), ma_rn ro d 41 (5, [v0, v1], .int x1 :: st, SH, σ) = if x1 = nI 0 then ma_rn ro d 41 (17, [v0, v1], st, SH, σ) else ma_rn ro d 41 (8, [v0, v1], st, SH, σ)) ∧
  (∀ (v1 : Option Value) (a1 : Nat) (st : List Value) (σ : ma_H), ma_rn ro d 41 (8, [some (.ref a1), v1], st, SH, σ) = ma_rn ro d 41 (9, [some (.ref a1), v1], .ref a1 :: st, SH, σ)) ∧
  (∀ (v0 : Option Value) (v1 : Option Value) (a1 : Nat) (st : List Value) (σ : ma_H) (hc : hk_cls a1 = 4), ma_rn ro d 41 (9, [v0, v1], .ref a1 :: st, SH, σ) = ma_rn ro d 41 (12, [v0, v1], .ref (a1 + 1) :: st, SH, σ)) ∧
  (∀ (v0 : Option Value) (x1 : Int32) (st : List Value) (σ : ma_H), ma_rn ro d 41 (12, [v0, some (.int x1)], st, SH, σ) = ma_rn ro d 41 (13, [v0, some (.int x1)], .int x1 :: st, SH, σ)) ∧
  (∀ (v0 : Option Value) (v1 : Option Value) (k : Nat) (a2 : Nat) (st : List Value) (σ : ma_H) (hk : k < hk_len a2), ma_rn ro d 41 (13, [v0, v1], .int (nI k) :: .ref a2 :: st, SH, σ) = ma_rn ro d 41 (14, [v0, v1], .int (σ a2 k) :: st, SH, σ)) ∧
  (∀ (v0 : Option Value) (v1 : Option Value) (st : List Value) (σ : ma_H), ma_rn ro d 41 (14, [v0, v1], st, SH, σ) = ma_rn ro d 41 (18, [v0, v1], st, SH, σ)) ∧
  (∀ (v0 : Option Value) (v1 : Option Value) (st : List Value) (σ : ma_H), ma_rn ro d 41 (17, [v0, v1], st, SH, σ) = ma_rn ro d 41 (18, [v0, v1], .int ((-1)) :: st, SH, σ)) ∧
  (∀ (v0 : Option Value) (v1 : Option Value) (x1 : Int32) (σ : ma_H), ma_rn ro d 41 (18, [v0, v1], [.int x1], SH, σ) = some (some (.int x1), SH, σ)) := ⟨fun v1 a1 st σ => q_go e41_0 rfl rfl,
  fun v0 x1 st σ => q_go e41_1 rfl rfl,
  fun v0 v1 x1 a0 σ hc => q_invV (as := [.int x1]) (rest := []) e41_2 o_41 bn_4_32 c_4_32 m_38 (by decide) rfl rfl (Nat.le_of_ble_eq_true rfl) (Nat.le_of_ble_eq_true rfl) hc,
  fun v0 v1 x1 st σ => (q_if e41_5 rfl).trans q_eq,
  fun v1 a1 st σ => q_go e41_8 rfl rfl,
  fun v0 v1 a1 st σ hc => q_getA e41_9 o_41 f_4_15 (by decide) hc,
  fun v0 x1 st σ => q_go e41_12 rfl rfl,
  fun v0 v1 k a2 st σ hk => q_iald e41_13 hk,
  fun v0 v1 st σ => q_goto e41_14 rfl,
  fun v0 v1 st σ => q_iconst e41_17 (by decide),
  fun v0 v1 x1 σ => q_iret e41_18 r_41⟩
theorem E41 {ro : ma_RO} {d : Nat} (a0 : Nat) (x1 : Int32) (sh : List ma_Sh) (σ : ma_H) : ma_ev ro d 41 [.ref a0, .int x1] sh σ = ma_rn ro d 41 (0, [some (.ref a0), some (.int x1)], [], sh, σ) := q_ent x_41 rfl
theorem e42_0 : decode (ma_cd 42) 0 = .ok (.aload_n 0, 1) := (congrArg (fun b => decode b 0) cd_42).trans dX4_secondAt_0
theorem e42_1 : decode (ma_cd 42) 1 = .ok (.iload_n 1, 1) := (congrArg (fun b => decode b 1) cd_42).trans dX4_secondAt_1
theorem e42_2 : decode (ma_cd 42) 2 = .ok (.invokevirtual 32, 3) := (congrArg (fun b => decode b 2) cd_42).trans dX4_secondAt_2
theorem e42_5 : decode (ma_cd 42) 5 = .ok (.ifCond .eq 12, 3) := (congrArg (fun b => decode b 5) cd_42).trans dX4_secondAt_5
theorem e42_8 : decode (ma_cd 42) 8 = .ok (.aload_n 0, 1) := (congrArg (fun b => decode b 8) cd_42).trans dX4_secondAt_8
theorem e42_9 : decode (ma_cd 42) 9 = .ok (.getfield 21, 3) := (congrArg (fun b => decode b 9) cd_42).trans dX4_secondAt_9
theorem e42_12 : decode (ma_cd 42) 12 = .ok (.iload_n 1, 1) := (congrArg (fun b => decode b 12) cd_42).trans dX4_secondAt_12
theorem e42_13 : decode (ma_cd 42) 13 = .ok (.iaload, 1) := (congrArg (fun b => decode b 13) cd_42).trans dX4_secondAt_13
theorem e42_14 : decode (ma_cd 42) 14 = .ok (.goto 4, 3) := (congrArg (fun b => decode b 14) cd_42).trans dX4_secondAt_14
theorem e42_17 : decode (ma_cd 42) 17 = .ok (.iconst (-1), 1) := (congrArg (fun b => decode b 17) cd_42).trans dX4_secondAt_17
theorem e42_18 : decode (ma_cd 42) 18 = .ok (.ireturn, 1) := (congrArg (fun b => decode b 18) cd_42).trans dX4_secondAt_18
theorem S42 {ro : ma_RO} {d : Nat} : (∀ (v1 : Option Value) (a1 : Nat) (st : List Value) (σ : ma_H), ma_rn ro d 42 (0, [some (.ref a1), v1], st, SH, σ) = ma_rn ro d 42 (1, [some (.ref a1), v1], .ref a1 :: st, SH, σ)) ∧
  (∀ (v0 : Option Value) (x1 : Int32) (st : List Value) (σ : ma_H), ma_rn ro d 42 (1, [v0, some (.int x1)], st, SH, σ) = ma_rn ro d 42 (2, [v0, some (.int x1)], .int x1 :: st, SH, σ)) ∧
  (∀ (v0 : Option Value) (v1 : Option Value) (x1 : Int32) (a0 : Nat) (σ : ma_H) (hc : hk_cls a0 = 4), ma_rn ro (d + 1) 42 (2, [v0, v1], .int x1 :: .ref a0 :: [], SH, σ) = (ma_ev ro d 38 [.ref a0, .int x1] SH σ).bind (fun q => ma_rn ro (d + 1) 42 (5, [v0, v1], (q.1.toList ++ []), q.2.1, q.2.2))) ∧
  (∀ (v0 : Option Value) (v1 : Option Value) (x1 : Int32) (st : List Value) (σ : ma_H), ma_rn ro d 42 (5, [v0, v1], .int x1 :: st, SH, σ) = if x1 = nI 0 then ma_rn ro d 42 (17, [v0, v1], st, SH, σ) else ma_rn ro d 42 (8, [v0, v1], st, SH, σ)) ∧
  (∀ (v1 : Option Value) (a1 : Nat) (st : List Value) (σ : ma_H), ma_rn ro d 42 (8, [some (.ref a1), v1], st, SH, σ) = ma_rn ro d 42 (9, [some (.ref a1), v1], .ref a1 :: st, SH, σ)) ∧
  (∀ (v0 : Option Value) (v1 : Option Value) (a1 : Nat) (st : List Value) (σ : ma_H) (hc : hk_cls a1 = 4), ma_rn ro d 42 (9, [v0, v1], .ref a1 :: st, SH, σ) = ma_rn ro d 42 (12, [v0, v1], .ref (a1 + 2) :: st, SH, σ)) ∧
  (∀ (v0 : Option Value) (x1 : Int32) (st : List Value) (σ : ma_H), ma_rn ro d 42 (12, [v0, some (.int x1)], st, SH, σ) = ma_rn ro d 42 (13, [v0, some (.int x1)], .int x1 :: st, SH, σ)) ∧
  (∀ (v0 : Option Value) (v1 : Option Value) (k : Nat) (a2 : Nat) (st : List Value) (σ : ma_H) (hk : k < hk_len a2), ma_rn ro d 42 (13, [v0, v1], .int (nI k) :: .ref a2 :: st, SH, σ) = ma_rn ro d 42 (14, [v0, v1], .int (σ a2 k) :: st, SH, σ)) ∧
  (∀ (v0 : Option Value) (v1 : Option Value) (st : List Value) (σ : ma_H), ma_rn ro d 42 (14, [v0, v1], st, SH, σ) = ma_rn ro d 42 (18, [v0, v1], st, SH, σ)) ∧
  (∀ (v0 : Option Value) (v1 : Option Value) (st : List Value) (σ : ma_H), ma_rn ro d 42 (17, [v0, v1], st, SH, σ) = ma_rn ro d 42 (18, [v0, v1], .int ((-1)) :: st, SH, σ)) ∧
  (∀ (v0 : Option Value) (v1 : Option Value) (x1 : Int32) (σ : ma_H), ma_rn ro d 42 (18, [v0, v1], [.int x1], SH, σ) = some (some (.int x1), SH, σ)) := ⟨fun v1 a1 st σ => q_go e42_0 rfl rfl,
  fun v0 x1 st σ => q_go e42_1 rfl rfl,
  fun v0 v1 x1 a0 σ hc => q_invV (as := [.int x1]) (rest := []) e42_2 o_42 bn_4_32 c_4_32 m_38 (by decide) rfl rfl (Nat.le_of_ble_eq_true rfl) (Nat.le_of_ble_eq_true rfl) hc,
  fun v0 v1 x1 st σ => (q_if e42_5 rfl).trans q_eq,
  fun v1 a1 st σ => q_go e42_8 rfl rfl,
  fun v0 v1 a1 st σ hc => q_getA e42_9 o_42 f_4_21 (by decide) hc,
  fun v0 x1 st σ => q_go e42_12 rfl rfl,
  fun v0 v1 k a2 st σ hk => q_iald e42_13 hk,
  fun v0 v1 st σ => q_goto e42_14 rfl,
  fun v0 v1 st σ => q_iconst e42_17 (by decide),
  fun v0 v1 x1 σ => q_iret e42_18 r_42⟩
theorem E42 {ro : ma_RO} {d : Nat} (a0 : Nat) (x1 : Int32) (sh : List ma_Sh) (σ : ma_H) : ma_ev ro d 42 [.ref a0, .int x1] sh σ = ma_rn ro d 42 (0, [some (.ref a0), some (.int x1)], [], sh, σ) := q_ent x_42 rfl
theorem e43_0 : decode (ma_cd 43) 0 = .ok (.aload_n 0, 1) := (congrArg (fun b => decode b 0) cd_43).trans dX4_isAt_0
theorem e43_1 : decode (ma_cd 43) 1 = .ok (.iload_n 1, 1) := (congrArg (fun b => decode b 1) cd_43).trans dX4_isAt_1
theorem e43_2 : decode (ma_cd 43) 2 = .ok (.invokevirtual 32, 3) := (congrArg (fun b => decode b 2) cd_43).trans dX4_isAt_2
theorem e43_5 : decode (ma_cd 43) 5 = .ok (.ifCond .eq 16, 3) := (congrArg (fun b => decode b 5) cd_43).trans dX4_isAt_5
theorem e43_8 : decode (ma_cd 43) 8 = .ok (.aload_n 0, 1) := (congrArg (fun b => decode b 8) cd_43).trans dX4_isAt_8
theorem e43_9 : decode (ma_cd 43) 9 = .ok (.getfield 24, 3) := (congrArg (fun b => decode b 9) cd_43).trans dX4_isAt_9
theorem e43_12 : decode (ma_cd 43) 12 = .ok (.iload_n 1, 1) := (congrArg (fun b => decode b 12) cd_43).trans dX4_isAt_12
theorem e43_13 : decode (ma_cd 43) 13 = .ok (.baload, 1) := (congrArg (fun b => decode b 13) cd_43).trans dX4_isAt_13
theorem e43_14 : decode (ma_cd 43) 14 = .ok (.ifCond .eq 7, 3) := (congrArg (fun b => decode b 14) cd_43).trans dX4_isAt_14
theorem e43_17 : decode (ma_cd 43) 17 = .ok (.iconst 1, 1) := (congrArg (fun b => decode b 17) cd_43).trans dX4_isAt_17
theorem e43_18 : decode (ma_cd 43) 18 = .ok (.goto 4, 3) := (congrArg (fun b => decode b 18) cd_43).trans dX4_isAt_18
theorem e43_21 : decode (ma_cd 43) 21 = .ok (.iconst 0, 1) := (congrArg (fun b => decode b 21) cd_43).trans dX4_isAt_21
theorem e43_22 : decode (ma_cd 43) 22 = .ok (.ireturn, 1) := (congrArg (fun b => decode b 22) cd_43).trans dX4_isAt_22
theorem S43 {ro : ma_RO} {d : Nat} : (∀ (v1 : Option Value) (a1 : Nat) (st : List Value) (σ : ma_H), ma_rn ro d 43 (0, [some (.ref a1), v1], st, SH, σ) = ma_rn ro d 43 (1, [some (.ref a1), v1], .ref a1 :: st, SH, σ)) ∧
  (∀ (v0 : Option Value) (x1 : Int32) (st : List Value) (σ : ma_H), ma_rn ro d 43 (1, [v0, some (.int x1)], st, SH, σ) = ma_rn ro d 43 (2, [v0, some (.int x1)], .int x1 :: st, SH, σ)) ∧
  (∀ (v0 : Option Value) (v1 : Option Value) (x1 : Int32) (a0 : Nat) (σ : ma_H) (hc : hk_cls a0 = 4), ma_rn ro (d + 1) 43 (2, [v0, v1], .int x1 :: .ref a0 :: [], SH, σ) = (ma_ev ro d 38 [.ref a0, .int x1] SH σ).bind (fun q => ma_rn ro (d + 1) 43 (5, [v0, v1], (q.1.toList ++ []), q.2.1, q.2.2))) ∧
  (∀ (v0 : Option Value) (v1 : Option Value) (x1 : Int32) (st : List Value) (σ : ma_H), ma_rn ro d 43 (5, [v0, v1], .int x1 :: st, SH, σ) = if x1 = nI 0 then ma_rn ro d 43 (21, [v0, v1], st, SH, σ) else ma_rn ro d 43 (8, [v0, v1], st, SH, σ)) ∧
  (∀ (v1 : Option Value) (a1 : Nat) (st : List Value) (σ : ma_H), ma_rn ro d 43 (8, [some (.ref a1), v1], st, SH, σ) = ma_rn ro d 43 (9, [some (.ref a1), v1], .ref a1 :: st, SH, σ)) ∧
  (∀ (v0 : Option Value) (v1 : Option Value) (a1 : Nat) (st : List Value) (σ : ma_H) (hc : hk_cls a1 = 4), ma_rn ro d 43 (9, [v0, v1], .ref a1 :: st, SH, σ) = ma_rn ro d 43 (12, [v0, v1], .ref (a1 + 3) :: st, SH, σ)) ∧
  (∀ (v0 : Option Value) (x1 : Int32) (st : List Value) (σ : ma_H), ma_rn ro d 43 (12, [v0, some (.int x1)], st, SH, σ) = ma_rn ro d 43 (13, [v0, some (.int x1)], .int x1 :: st, SH, σ)) ∧
  (∀ (v0 : Option Value) (v1 : Option Value) (k : Nat) (a2 : Nat) (st : List Value) (σ : ma_H) (hk : k < hk_zlen a2), ma_rn ro d 43 (13, [v0, v1], .int (nI k) :: .ref a2 :: st, SH, σ) = ma_rn ro d 43 (14, [v0, v1], .int (σ a2 k) :: st, SH, σ)) ∧
  (∀ (v0 : Option Value) (v1 : Option Value) (x1 : Int32) (st : List Value) (σ : ma_H), ma_rn ro d 43 (14, [v0, v1], .int x1 :: st, SH, σ) = if x1 = nI 0 then ma_rn ro d 43 (21, [v0, v1], st, SH, σ) else ma_rn ro d 43 (17, [v0, v1], st, SH, σ)) ∧
  (∀ (v0 : Option Value) (v1 : Option Value) (st : List Value) (σ : ma_H), ma_rn ro d 43 (17, [v0, v1], st, SH, σ) = ma_rn ro d 43 (18, [v0, v1], .int (nI 1) :: st, SH, σ)) ∧
  (∀ (v0 : Option Value) (v1 : Option Value) (st : List Value) (σ : ma_H), ma_rn ro d 43 (18, [v0, v1], st, SH, σ) = ma_rn ro d 43 (22, [v0, v1], st, SH, σ)) ∧
  (∀ (v0 : Option Value) (v1 : Option Value) (st : List Value) (σ : ma_H), ma_rn ro d 43 (21, [v0, v1], st, SH, σ) = ma_rn ro d 43 (22, [v0, v1], .int (nI 0) :: st, SH, σ)) ∧
  (∀ (v0 : Option Value) (v1 : Option Value) (x1 : Int32) (σ : ma_H) (hx : ma_fitI .boolean x1 = true), ma_rn ro d 43 (22, [v0, v1], [.int x1], SH, σ) = some (some (.int x1), SH, σ)) := ⟨fun v1 a1 st σ => q_go e43_0 rfl rfl,
  fun v0 x1 st σ => q_go e43_1 rfl rfl,
  fun v0 v1 x1 a0 σ hc => q_invV (as := [.int x1]) (rest := []) e43_2 o_43 bn_4_32 c_4_32 m_38 (by decide) rfl rfl (Nat.le_of_ble_eq_true rfl) (Nat.le_of_ble_eq_true rfl) hc,
  fun v0 v1 x1 st σ => (q_if e43_5 rfl).trans q_eq,
  fun v1 a1 st σ => q_go e43_8 rfl rfl,
  fun v0 v1 a1 st σ hc => q_getA e43_9 o_43 f_4_24 (by decide) hc,
  fun v0 x1 st σ => q_go e43_12 rfl rfl,
  fun v0 v1 k a2 st σ hk => q_bald e43_13 hk,
  fun v0 v1 x1 st σ => (q_if e43_14 rfl).trans q_eq,
  fun v0 v1 st σ => q_iconst e43_17 (by decide),
  fun v0 v1 st σ => q_goto e43_18 rfl,
  fun v0 v1 st σ => q_iconst e43_21 (by decide),
  fun v0 v1 x1 σ hx => q_zret e43_22 r_43 hx⟩
theorem E43 {ro : ma_RO} {d : Nat} (a0 : Nat) (x1 : Int32) (sh : List ma_Sh) (σ : ma_H) : ma_ev ro d 43 [.ref a0, .int x1] sh σ = ma_rn ro d 43 (0, [some (.ref a0), some (.int x1)], [], sh, σ) := q_ent x_43 rfl
theorem e44_0 : decode (ma_cd 44) 0 = .ok (.aload_n 0, 1) := (congrArg (fun b => decode b 0) cd_44).trans dX4_copyFrom_0
theorem e44_1 : decode (ma_cd 44) 1 = .ok (.aload_n 1, 1) := (congrArg (fun b => decode b 1) cd_44).trans dX4_copyFrom_1
theorem e44_2 : decode (ma_cd 44) 2 = .ok (.getfield 28, 3) := (congrArg (fun b => decode b 2) cd_44).trans dX4_copyFrom_2
theorem e44_5 : decode (ma_cd 44) 5 = .ok (.putfield 28, 3) := (congrArg (fun b => decode b 5) cd_44).trans dX4_copyFrom_5
theorem e44_8 : decode (ma_cd 44) 8 = .ok (.iconst 0, 1) := (congrArg (fun b => decode b 8) cd_44).trans dX4_copyFrom_8
theorem e44_9 : decode (ma_cd 44) 9 = .ok (.istore_n 2, 1) := (congrArg (fun b => decode b 9) cd_44).trans dX4_copyFrom_9
theorem e44_10 : decode (ma_cd 44) 10 = .ok (.iload_n 2, 1) := (congrArg (fun b => decode b 10) cd_44).trans dX4_copyFrom_10
theorem e44_11 : decode (ma_cd 44) 11 = .ok (.aload_n 0, 1) := (congrArg (fun b => decode b 11) cd_44).trans dX4_copyFrom_11
theorem e44_12 : decode (ma_cd 44) 12 = .ok (.getfield 28, 3) := (congrArg (fun b => decode b 12) cd_44).trans dX4_copyFrom_12
theorem e44_15 : decode (ma_cd 44) 15 = .ok (.if_icmp .ge 29, 3) := (congrArg (fun b => decode b 15) cd_44).trans dX4_copyFrom_15
theorem e44_18 : decode (ma_cd 44) 18 = .ok (.aload_n 0, 1) := (congrArg (fun b => decode b 18) cd_44).trans dX4_copyFrom_18
theorem e44_19 : decode (ma_cd 44) 19 = .ok (.iload_n 2, 1) := (congrArg (fun b => decode b 19) cd_44).trans dX4_copyFrom_19
theorem e44_20 : decode (ma_cd 44) 20 = .ok (.aload_n 1, 1) := (congrArg (fun b => decode b 20) cd_44).trans dX4_copyFrom_20
theorem e44_21 : decode (ma_cd 44) 21 = .ok (.iload_n 2, 1) := (congrArg (fun b => decode b 21) cd_44).trans dX4_copyFrom_21
theorem e44_22 : decode (ma_cd 44) 22 = .ok (.invokevirtual 40, 3) := (congrArg (fun b => decode b 22) cd_44).trans dX4_copyFrom_22
theorem e44_25 : decode (ma_cd 44) 25 = .ok (.aload_n 1, 1) := (congrArg (fun b => decode b 25) cd_44).trans dX4_copyFrom_25
theorem e44_26 : decode (ma_cd 44) 26 = .ok (.iload_n 2, 1) := (congrArg (fun b => decode b 26) cd_44).trans dX4_copyFrom_26
theorem e44_27 : decode (ma_cd 44) 27 = .ok (.invokevirtual 44, 3) := (congrArg (fun b => decode b 27) cd_44).trans dX4_copyFrom_27
theorem e44_30 : decode (ma_cd 44) 30 = .ok (.aload_n 1, 1) := (congrArg (fun b => decode b 30) cd_44).trans dX4_copyFrom_30
theorem e44_31 : decode (ma_cd 44) 31 = .ok (.iload_n 2, 1) := (congrArg (fun b => decode b 31) cd_44).trans dX4_copyFrom_31
theorem e44_32 : decode (ma_cd 44) 32 = .ok (.invokevirtual 47, 3) := (congrArg (fun b => decode b 32) cd_44).trans dX4_copyFrom_32
theorem e44_35 : decode (ma_cd 44) 35 = .ok (.invokevirtual 36, 3) := (congrArg (fun b => decode b 35) cd_44).trans dX4_copyFrom_35
theorem e44_38 : decode (ma_cd 44) 38 = .ok (.iinc 2 1, 3) := (congrArg (fun b => decode b 38) cd_44).trans dX4_copyFrom_38
theorem e44_41 : decode (ma_cd 44) 41 = .ok (.goto (-31), 3) := (congrArg (fun b => decode b 41) cd_44).trans dX4_copyFrom_41
theorem e44_44 : decode (ma_cd 44) 44 = .ok (.return_, 1) := (congrArg (fun b => decode b 44) cd_44).trans dX4_copyFrom_44
theorem Sh44_10 {ro : ma_RO} {d : Nat} : (∀ (v0 : Option Value) (v1 : Option Value) (x1 : Int32) (st : List Value) (σ : ma_H), ma_rn ro d 44 (10, [v0, v1, some (.int x1)], st, SH, σ) = ma_rn ro d 44 (11, [v0, v1, some (.int x1)], .int x1 :: st, SH, σ)) := fun v0 v1 x1 st σ => q_go e44_10 rfl rfl
theorem S44 {ro : ma_RO} {d : Nat} : (∀ (v1 : Option Value) (v2 : Option Value) (a1 : Nat) (st : List Value) (σ : ma_H), ma_rn ro d 44 (0, [some (.ref a1), v1, v2], st, SH, σ) = ma_rn ro d 44 (1, [some (.ref a1), v1, v2], .ref a1 :: st, SH, σ)) ∧
  (∀ (v0 : Option Value) (v2 : Option Value) (a1 : Nat) (st : List Value) (σ : ma_H), ma_rn ro d 44 (1, [v0, some (.ref a1), v2], st, SH, σ) = ma_rn ro d 44 (2, [v0, some (.ref a1), v2], .ref a1 :: st, SH, σ)) ∧
  (∀ (v0 : Option Value) (v1 : Option Value) (v2 : Option Value) (a1 : Nat) (st : List Value) (σ : ma_H) (hc : hk_cls a1 = 4), ma_rn ro d 44 (2, [v0, v1, v2], .ref a1 :: st, SH, σ) = ma_rn ro d 44 (5, [v0, v1, v2], .int (σ a1 3) :: st, SH, σ)) ∧
  (∀ (v0 : Option Value) (v1 : Option Value) (v2 : Option Value) (x1 : Int32) (a2 : Nat) (st : List Value) (σ : ma_H) (hc : hk_cls a2 = 4), ma_rn ro d 44 (5, [v0, v1, v2], .int x1 :: .ref a2 :: st, SH, σ) = ma_rn ro d 44 (8, [v0, v1, v2], st, SH, (ma_up σ a2 3 x1))) ∧
  (∀ (v0 : Option Value) (v1 : Option Value) (v2 : Option Value) (st : List Value) (σ : ma_H), ma_rn ro d 44 (8, [v0, v1, v2], st, SH, σ) = ma_rn ro d 44 (9, [v0, v1, v2], .int (nI 0) :: st, SH, σ)) ∧
  (∀ (v0 : Option Value) (v2 : Option Value) (a9 : Nat) (x1 : Int32) (st : List Value) (σ : ma_H), ma_rn ro d 44 (9, [v0, some (.ref a9), v2], .int x1 :: st, SH, σ) = ma_rn ro d 44 (10, [v0, some (.ref a9), some (.int x1)], st, SH, σ)) ∧
  (∀ (v1 : Option Value) (v2 : Option Value) (a1 : Nat) (st : List Value) (σ : ma_H), ma_rn ro d 44 (11, [some (.ref a1), v1, v2], st, SH, σ) = ma_rn ro d 44 (12, [some (.ref a1), v1, v2], .ref a1 :: st, SH, σ)) ∧
  (∀ (v0 : Option Value) (v1 : Option Value) (v2 : Option Value) (a1 : Nat) (st : List Value) (σ : ma_H) (hc : hk_cls a1 = 4), ma_rn ro d 44 (12, [v0, v1, v2], .ref a1 :: st, SH, σ) = ma_rn ro d 44 (15, [v0, v1, v2], .int (σ a1 3) :: st, SH, σ)) ∧
  (∀ (v0 : Option Value) (v1 : Option Value) (v2 : Option Value) (x1 : Int32) (x2 : Int32) (st : List Value) (σ : ma_H), ma_rn ro d 44 (15, [v0, v1, v2], .int x1 :: .int x2 :: st, SH, σ) = if x2 < x1 then ma_rn ro d 44 (18, [v0, v1, v2], st, SH, σ) else ma_rn ro d 44 (44, [v0, v1, v2], st, SH, σ)) ∧
  (∀ (v1 : Option Value) (v2 : Option Value) (a1 : Nat) (st : List Value) (σ : ma_H), ma_rn ro d 44 (18, [some (.ref a1), v1, v2], st, SH, σ) = ma_rn ro d 44 (19, [some (.ref a1), v1, v2], .ref a1 :: st, SH, σ)) ∧
  (∀ (v0 : Option Value) (v1 : Option Value) (x1 : Int32) (st : List Value) (σ : ma_H), ma_rn ro d 44 (19, [v0, v1, some (.int x1)], st, SH, σ) = ma_rn ro d 44 (20, [v0, v1, some (.int x1)], .int x1 :: st, SH, σ)) ∧
  (∀ (v0 : Option Value) (v2 : Option Value) (a1 : Nat) (st : List Value) (σ : ma_H), ma_rn ro d 44 (20, [v0, some (.ref a1), v2], st, SH, σ) = ma_rn ro d 44 (21, [v0, some (.ref a1), v2], .ref a1 :: st, SH, σ)) ∧
  (∀ (v0 : Option Value) (v1 : Option Value) (x1 : Int32) (st : List Value) (σ : ma_H), ma_rn ro d 44 (21, [v0, v1, some (.int x1)], st, SH, σ) = ma_rn ro d 44 (22, [v0, v1, some (.int x1)], .int x1 :: st, SH, σ)) ∧
  (∀ (v0 : Option Value) (v1 : Option Value) (v2 : Option Value) (x20 : Int32) (a21 : Nat) (x1 : Int32) (a0 : Nat) (σ : ma_H) (hc : hk_cls a0 = 4), ma_rn ro (d + 1) 44 (22, [v0, v1, v2], .int x1 :: .ref a0 :: .int x20 :: .ref a21 :: [], SH, σ) = (ma_ev ro d 41 [.ref a0, .int x1] SH σ).bind (fun q => ma_rn ro (d + 1) 44 (25, [v0, v1, v2], (q.1.toList ++ (.int x20 :: .ref a21 :: [])), q.2.1, q.2.2))) ∧
  (∀ (v0 : Option Value) (v2 : Option Value) (a1 : Nat) (st : List Value) (σ : ma_H), ma_rn ro d 44 (25, [v0, some (.ref a1), v2], st, SH, σ) = ma_rn ro d 44 (26, [v0, some (.ref a1), v2], .ref a1 :: st, SH, σ)) ∧
  (∀ (v0 : Option Value) (v1 : Option Value) (x1 : Int32) (st : List Value) (σ : ma_H), ma_rn ro d 44 (26, [v0, v1, some (.int x1)], st, SH, σ) = ma_rn ro d 44 (27, [v0, v1, some (.int x1)], .int x1 :: st, SH, σ)) ∧
  (∀ (v0 : Option Value) (v1 : Option Value) (v2 : Option Value) (x20 : Int32) (x21 : Int32) (a22 : Nat) (x1 : Int32) (a0 : Nat) (σ : ma_H) (hc : hk_cls a0 = 4), ma_rn ro (d + 1) 44 (27, [v0, v1, v2], .int x1 :: .ref a0 :: .int x20 :: .int x21 :: .ref a22 :: [], SH, σ) = (ma_ev ro d 42 [.ref a0, .int x1] SH σ).bind (fun q => ma_rn ro (d + 1) 44 (30, [v0, v1, v2], (q.1.toList ++ (.int x20 :: .int x21 :: .ref a22 :: [])), q.2.1, q.2.2))) ∧
  (∀ (v0 : Option Value) (v2 : Option Value) (a1 : Nat) (st : List Value) (σ : ma_H), ma_rn ro d 44 (30, [v0, some (.ref a1), v2], st, SH, σ) = ma_rn ro d 44 (31, [v0, some (.ref a1), v2], .ref a1 :: st, SH, σ)) ∧
  (∀ (v0 : Option Value) (v1 : Option Value) (x1 : Int32) (st : List Value) (σ : ma_H), ma_rn ro d 44 (31, [v0, v1, some (.int x1)], st, SH, σ) = ma_rn ro d 44 (32, [v0, v1, some (.int x1)], .int x1 :: st, SH, σ)) ∧
  (∀ (v0 : Option Value) (v1 : Option Value) (v2 : Option Value) (x20 : Int32) (x21 : Int32) (x22 : Int32) (a23 : Nat) (x1 : Int32) (a0 : Nat) (σ : ma_H) (hc : hk_cls a0 = 4), ma_rn ro (d + 1) 44 (32, [v0, v1, v2], .int x1 :: .ref a0 :: .int x20 :: .int x21 :: .int x22 :: .ref a23 :: [], SH, σ) = (ma_ev ro d 43 [.ref a0, .int x1] SH σ).bind (fun q => ma_rn ro (d + 1) 44 (35, [v0, v1, v2], (q.1.toList ++ (.int x20 :: .int x21 :: .int x22 :: .ref a23 :: [])), q.2.1, q.2.2))) ∧
  (∀ (v0 : Option Value) (v1 : Option Value) (v2 : Option Value) (x1 : Int32) (x2 : Int32) (x3 : Int32) (x4 : Int32) (a0 : Nat) (σ : ma_H) (hc : hk_cls a0 = 4), ma_rn ro (d + 1) 44 (35, [v0, v1, v2], .int x4 :: .int x3 :: .int x2 :: .int x1 :: .ref a0 :: [], SH, σ) = (ma_ev ro d 40 [.ref a0, .int x1, .int x2, .int x3, .int x4] SH σ).bind (fun q => ma_rn ro (d + 1) 44 (38, [v0, v1, v2], (q.1.toList ++ []), q.2.1, q.2.2))) ∧
  (∀ (v0 : Option Value) (x1 : Int32) (a9 : Nat) (st : List Value) (σ : ma_H), ma_rn ro d 44 (38, [v0, some (.ref a9), some (.int x1)], st, SH, σ) = ma_rn ro d 44 (41, [v0, some (.ref a9), some (.int (x1 + nI 1))], st, SH, σ)) ∧
  (∀ (v0 : Option Value) (v1 : Option Value) (v2 : Option Value) (st : List Value) (σ : ma_H), ma_rn ro d 44 (41, [v0, v1, v2], st, SH, σ) = ma_rn ro d 44 (10, [v0, v1, v2], st, SH, σ)) ∧
  (∀ (v0 : Option Value) (v1 : Option Value) (v2 : Option Value) (σ : ma_H), ma_rn ro d 44 (44, [v0, v1, v2], [], SH, σ) = some (none, SH, σ)) := ⟨fun v1 v2 a1 st σ => q_go e44_0 rfl rfl,
  fun v0 v2 a1 st σ => q_go e44_1 rfl rfl,
  fun v0 v1 v2 a1 st σ hc => q_getI e44_2 o_44 f_4_28 (by decide) hc,
  fun v0 v1 v2 x1 a2 st σ hc => q_putI e44_5 o_44 f_4_28 (by decide) rfl hc,
  fun v0 v1 v2 st σ => q_iconst e44_8 (by decide),
  fun v0 v2 a9 x1 st σ => q_go e44_9 rfl rfl,
  fun v1 v2 a1 st σ => q_go e44_11 rfl rfl,
  fun v0 v1 v2 a1 st σ hc => q_getI e44_12 o_44 f_4_28 (by decide) hc,
  fun v0 v1 v2 x1 x2 st σ => (q_cmp e44_15 rfl).trans q_nlt,
  fun v1 v2 a1 st σ => q_go e44_18 rfl rfl,
  fun v0 v1 x1 st σ => q_go e44_19 rfl rfl,
  fun v0 v2 a1 st σ => q_go e44_20 rfl rfl,
  fun v0 v1 x1 st σ => q_go e44_21 rfl rfl,
  fun v0 v1 v2 x20 a21 x1 a0 σ hc => q_invV (as := [.int x1]) (rest := .int x20 :: .ref a21 :: []) e44_22 o_44 bn_4_40 c_4_40 m_41 (by decide) rfl rfl (Nat.le_of_ble_eq_true rfl) (Nat.le_of_ble_eq_true rfl) hc,
  fun v0 v2 a1 st σ => q_go e44_25 rfl rfl,
  fun v0 v1 x1 st σ => q_go e44_26 rfl rfl,
  fun v0 v1 v2 x20 x21 a22 x1 a0 σ hc => q_invV (as := [.int x1]) (rest := .int x20 :: .int x21 :: .ref a22 :: []) e44_27 o_44 bn_4_44 c_4_44 m_42 (by decide) rfl rfl (Nat.le_of_ble_eq_true rfl) (Nat.le_of_ble_eq_true rfl) hc,
  fun v0 v2 a1 st σ => q_go e44_30 rfl rfl,
  fun v0 v1 x1 st σ => q_go e44_31 rfl rfl,
  fun v0 v1 v2 x20 x21 x22 a23 x1 a0 σ hc => q_invV (as := [.int x1]) (rest := .int x20 :: .int x21 :: .int x22 :: .ref a23 :: []) e44_32 o_44 bn_4_47 c_4_47 m_43 (by decide) rfl rfl (Nat.le_of_ble_eq_true rfl) (Nat.le_of_ble_eq_true rfl) hc,
  fun v0 v1 v2 x1 x2 x3 x4 a0 σ hc => q_invV (as := [.int x1, .int x2, .int x3, .int x4]) (rest := []) e44_35 o_44 bn_4_36 c_4_36 m_40 (by decide) rfl rfl (Nat.le_of_ble_eq_true rfl) (Nat.le_of_ble_eq_true rfl) hc,
  fun v0 x1 a9 st σ => q_iinc e44_38 rfl rfl (by decide),
  fun v0 v1 v2 st σ => q_goto e44_41 rfl,
  fun v0 v1 v2 σ => q_vret e44_44 r_44⟩
theorem E44 {ro : ma_RO} {d : Nat} (a0 : Nat) (a1 : Nat) (sh : List ma_Sh) (σ : ma_H) : ma_ev ro d 44 [.ref a0, .ref a1] sh σ = ma_rn ro d 44 (0, [some (.ref a0), some (.ref a1), none], [], sh, σ) := q_ent x_44 rfl
theorem e46_0 : decode (ma_cd 46) 0 = .ok (.aload_n 0, 1) := (congrArg (fun b => decode b 0) cd_46).trans dX5_addSign_0
theorem e46_1 : decode (ma_cd 46) 1 = .ok (.getfield 44, 3) := (congrArg (fun b => decode b 1) cd_46).trans dX5_addSign_1
theorem e46_4 : decode (ma_cd 46) 4 = .ok (.ifCond .lt 15, 3) := (congrArg (fun b => decode b 4) cd_46).trans dX5_addSign_4
theorem e46_7 : decode (ma_cd 46) 7 = .ok (.aload_n 0, 1) := (congrArg (fun b => decode b 7) cd_46).trans dX5_addSign_7
theorem e46_8 : decode (ma_cd 46) 8 = .ok (.getfield 44, 3) := (congrArg (fun b => decode b 8) cd_46).trans dX5_addSign_8
theorem e46_11 : decode (ma_cd 46) 11 = .ok (.aload_n 0, 1) := (congrArg (fun b => decode b 11) cd_46).trans dX5_addSign_11
theorem e46_12 : decode (ma_cd 46) 12 = .ok (.getfield 25, 3) := (congrArg (fun b => decode b 12) cd_46).trans dX5_addSign_12
theorem e46_15 : decode (ma_cd 46) 15 = .ok (.arraylength, 1) := (congrArg (fun b => decode b 15) cd_46).trans dX5_addSign_15
theorem e46_16 : decode (ma_cd 46) 16 = .ok (.if_icmp .lt 5, 3) := (congrArg (fun b => decode b 16) cd_46).trans dX5_addSign_16
theorem e46_19 : decode (ma_cd 46) 19 = .ok (.iconst 0, 1) := (congrArg (fun b => decode b 19) cd_46).trans dX5_addSign_19
theorem e46_20 : decode (ma_cd 46) 20 = .ok (.ireturn, 1) := (congrArg (fun b => decode b 20) cd_46).trans dX5_addSign_20
theorem e46_21 : decode (ma_cd 46) 21 = .ok (.aload_n 0, 1) := (congrArg (fun b => decode b 21) cd_46).trans dX5_addSign_21
theorem e46_22 : decode (ma_cd 46) 22 = .ok (.getfield 25, 3) := (congrArg (fun b => decode b 22) cd_46).trans dX5_addSign_22
theorem e46_25 : decode (ma_cd 46) 25 = .ok (.aload_n 0, 1) := (congrArg (fun b => decode b 25) cd_46).trans dX5_addSign_25
theorem e46_26 : decode (ma_cd 46) 26 = .ok (.getfield 44, 3) := (congrArg (fun b => decode b 26) cd_46).trans dX5_addSign_26
theorem e46_29 : decode (ma_cd 46) 29 = .ok (.iload_n 1, 1) := (congrArg (fun b => decode b 29) cd_46).trans dX5_addSign_29
theorem e46_30 : decode (ma_cd 46) 30 = .ok (.iastore, 1) := (congrArg (fun b => decode b 30) cd_46).trans dX5_addSign_30
theorem e46_31 : decode (ma_cd 46) 31 = .ok (.aload_n 0, 1) := (congrArg (fun b => decode b 31) cd_46).trans dX5_addSign_31
theorem e46_32 : decode (ma_cd 46) 32 = .ok (.dup, 1) := (congrArg (fun b => decode b 32) cd_46).trans dX5_addSign_32
theorem e46_33 : decode (ma_cd 46) 33 = .ok (.getfield 44, 3) := (congrArg (fun b => decode b 33) cd_46).trans dX5_addSign_33
theorem e46_36 : decode (ma_cd 46) 36 = .ok (.iconst 1, 1) := (congrArg (fun b => decode b 36) cd_46).trans dX5_addSign_36
theorem e46_37 : decode (ma_cd 46) 37 = .ok (.iadd, 1) := (congrArg (fun b => decode b 37) cd_46).trans dX5_addSign_37
theorem e46_38 : decode (ma_cd 46) 38 = .ok (.putfield 44, 3) := (congrArg (fun b => decode b 38) cd_46).trans dX5_addSign_38
theorem e46_41 : decode (ma_cd 46) 41 = .ok (.iconst 1, 1) := (congrArg (fun b => decode b 41) cd_46).trans dX5_addSign_41
theorem e46_42 : decode (ma_cd 46) 42 = .ok (.ireturn, 1) := (congrArg (fun b => decode b 42) cd_46).trans dX5_addSign_42
theorem S46 {ro : ma_RO} {d : Nat} : (∀ (v1 : Option Value) (a1 : Nat) (st : List Value) (σ : ma_H), ma_rn ro d 46 (0, [some (.ref a1), v1], st, SH, σ) = ma_rn ro d 46 (1, [some (.ref a1), v1], .ref a1 :: st, SH, σ)) ∧
  (∀ (v0 : Option Value) (v1 : Option Value) (a1 : Nat) (st : List Value) (σ : ma_H) (hc : hk_cls a1 = 5), ma_rn ro d 46 (1, [v0, v1], .ref a1 :: st, SH, σ) = ma_rn ro d 46 (4, [v0, v1], .int (σ a1 4) :: st, SH, σ)) ∧
  (∀ (v0 : Option Value) (v1 : Option Value) (x1 : Int32) (st : List Value) (σ : ma_H), ma_rn ro d 46 (4, [v0, v1], .int x1 :: st, SH, σ) = if x1 < nI 0 then ma_rn ro d 46 (19, [v0, v1], st, SH, σ) else ma_rn ro d 46 (7, [v0, v1], st, SH, σ)) ∧
  (∀ (v1 : Option Value) (a1 : Nat) (st : List Value) (σ : ma_H), ma_rn ro d 46 (7, [some (.ref a1), v1], st, SH, σ) = ma_rn ro d 46 (8, [some (.ref a1), v1], .ref a1 :: st, SH, σ)) ∧
  (∀ (v0 : Option Value) (v1 : Option Value) (a1 : Nat) (st : List Value) (σ : ma_H) (hc : hk_cls a1 = 5), ma_rn ro d 46 (8, [v0, v1], .ref a1 :: st, SH, σ) = ma_rn ro d 46 (11, [v0, v1], .int (σ a1 4) :: st, SH, σ)) ∧
  (∀ (v1 : Option Value) (a1 : Nat) (st : List Value) (σ : ma_H), ma_rn ro d 46 (11, [some (.ref a1), v1], st, SH, σ) = ma_rn ro d 46 (12, [some (.ref a1), v1], .ref a1 :: st, SH, σ)) ∧
  (∀ (v0 : Option Value) (v1 : Option Value) (a1 : Nat) (st : List Value) (σ : ma_H) (hc : hk_cls a1 = 5), ma_rn ro d 46 (12, [v0, v1], .ref a1 :: st, SH, σ) = ma_rn ro d 46 (15, [v0, v1], .ref (a1 + 19) :: st, SH, σ)) ∧
  (∀ (v0 : Option Value) (v1 : Option Value) (a1 : Nat) (st : List Value) (σ : ma_H) (hn : 0 < hk_alen a1), ma_rn ro d 46 (15, [v0, v1], .ref a1 :: st, SH, σ) = ma_rn ro d 46 (16, [v0, v1], .int (nI (hk_alen a1)) :: st, SH, σ)) ∧
  (∀ (v0 : Option Value) (v1 : Option Value) (x1 : Int32) (x2 : Int32) (st : List Value) (σ : ma_H), ma_rn ro d 46 (16, [v0, v1], .int x1 :: .int x2 :: st, SH, σ) = if x2 < x1 then ma_rn ro d 46 (21, [v0, v1], st, SH, σ) else ma_rn ro d 46 (19, [v0, v1], st, SH, σ)) ∧
  (∀ (v0 : Option Value) (v1 : Option Value) (st : List Value) (σ : ma_H), ma_rn ro d 46 (19, [v0, v1], st, SH, σ) = ma_rn ro d 46 (20, [v0, v1], .int (nI 0) :: st, SH, σ)) ∧
  (∀ (v0 : Option Value) (v1 : Option Value) (x1 : Int32) (σ : ma_H) (hx : ma_fitI .boolean x1 = true), ma_rn ro d 46 (20, [v0, v1], [.int x1], SH, σ) = some (some (.int x1), SH, σ)) ∧
  (∀ (v1 : Option Value) (a1 : Nat) (st : List Value) (σ : ma_H), ma_rn ro d 46 (21, [some (.ref a1), v1], st, SH, σ) = ma_rn ro d 46 (22, [some (.ref a1), v1], .ref a1 :: st, SH, σ)) ∧
  (∀ (v0 : Option Value) (v1 : Option Value) (a1 : Nat) (st : List Value) (σ : ma_H) (hc : hk_cls a1 = 5), ma_rn ro d 46 (22, [v0, v1], .ref a1 :: st, SH, σ) = ma_rn ro d 46 (25, [v0, v1], .ref (a1 + 19) :: st, SH, σ)) ∧
  (∀ (v1 : Option Value) (a1 : Nat) (st : List Value) (σ : ma_H), ma_rn ro d 46 (25, [some (.ref a1), v1], st, SH, σ) = ma_rn ro d 46 (26, [some (.ref a1), v1], .ref a1 :: st, SH, σ)) ∧
  (∀ (v0 : Option Value) (v1 : Option Value) (a1 : Nat) (st : List Value) (σ : ma_H) (hc : hk_cls a1 = 5), ma_rn ro d 46 (26, [v0, v1], .ref a1 :: st, SH, σ) = ma_rn ro d 46 (29, [v0, v1], .int (σ a1 4) :: st, SH, σ)) ∧
  (∀ (v0 : Option Value) (x1 : Int32) (st : List Value) (σ : ma_H), ma_rn ro d 46 (29, [v0, some (.int x1)], st, SH, σ) = ma_rn ro d 46 (30, [v0, some (.int x1)], .int x1 :: st, SH, σ)) ∧
  (∀ (v0 : Option Value) (v1 : Option Value) (x1 : Int32) (k : Nat) (a3 : Nat) (st : List Value) (σ : ma_H) (hk : k < hk_len a3), ma_rn ro d 46 (30, [v0, v1], .int x1 :: .int (nI k) :: .ref a3 :: st, SH, σ) = ma_rn ro d 46 (31, [v0, v1], st, SH, (ma_up σ a3 k x1))) ∧
  (∀ (v1 : Option Value) (a1 : Nat) (st : List Value) (σ : ma_H), ma_rn ro d 46 (31, [some (.ref a1), v1], st, SH, σ) = ma_rn ro d 46 (32, [some (.ref a1), v1], .ref a1 :: st, SH, σ)) ∧
  (∀ (v0 : Option Value) (v1 : Option Value) (a1 : Nat) (st : List Value) (σ : ma_H), ma_rn ro d 46 (32, [v0, v1], .ref a1 :: st, SH, σ) = ma_rn ro d 46 (33, [v0, v1], .ref a1 :: .ref a1 :: st, SH, σ)) ∧
  (∀ (v0 : Option Value) (v1 : Option Value) (a1 : Nat) (st : List Value) (σ : ma_H) (hc : hk_cls a1 = 5), ma_rn ro d 46 (33, [v0, v1], .ref a1 :: st, SH, σ) = ma_rn ro d 46 (36, [v0, v1], .int (σ a1 4) :: st, SH, σ)) ∧
  (∀ (v0 : Option Value) (v1 : Option Value) (st : List Value) (σ : ma_H), ma_rn ro d 46 (36, [v0, v1], st, SH, σ) = ma_rn ro d 46 (37, [v0, v1], .int (nI 1) :: st, SH, σ)) ∧
  (∀ (v0 : Option Value) (v1 : Option Value) (x1 : Int32) (x2 : Int32) (st : List Value) (σ : ma_H), ma_rn ro d 46 (37, [v0, v1], .int x1 :: .int x2 :: st, SH, σ) = ma_rn ro d 46 (38, [v0, v1], .int (x2 + x1) :: st, SH, σ)) ∧
  (∀ (v0 : Option Value) (v1 : Option Value) (x1 : Int32) (a2 : Nat) (st : List Value) (σ : ma_H) (hc : hk_cls a2 = 5), ma_rn ro d 46 (38, [v0, v1], .int x1 :: .ref a2 :: st, SH, σ) = ma_rn ro d 46 (41, [v0, v1], st, SH, (ma_up σ a2 4 x1))) ∧
  (∀ (v0 : Option Value) (v1 : Option Value) (st : List Value) (σ : ma_H), ma_rn ro d 46 (41, [v0, v1], st, SH, σ) = ma_rn ro d 46 (42, [v0, v1], .int (nI 1) :: st, SH, σ)) ∧
  (∀ (v0 : Option Value) (v1 : Option Value) (x1 : Int32) (σ : ma_H) (hx : ma_fitI .boolean x1 = true), ma_rn ro d 46 (42, [v0, v1], [.int x1], SH, σ) = some (some (.int x1), SH, σ)) := ⟨fun v1 a1 st σ => q_go e46_0 rfl rfl,
  fun v0 v1 a1 st σ hc => q_getI e46_1 o_46 f_5_44 (by decide) hc,
  fun v0 v1 x1 st σ => (q_if e46_4 rfl).trans q_lt,
  fun v1 a1 st σ => q_go e46_7 rfl rfl,
  fun v0 v1 a1 st σ hc => q_getI e46_8 o_46 f_5_44 (by decide) hc,
  fun v1 a1 st σ => q_go e46_11 rfl rfl,
  fun v0 v1 a1 st σ hc => q_getA e46_12 o_46 f_5_25 (by decide) hc,
  fun v0 v1 a1 st σ hn => q_alen e46_15 rfl hn,
  fun v0 v1 x1 x2 st σ => (q_cmp e46_16 rfl).trans q_lt,
  fun v0 v1 st σ => q_iconst e46_19 (by decide),
  fun v0 v1 x1 σ hx => q_zret e46_20 r_46 hx,
  fun v1 a1 st σ => q_go e46_21 rfl rfl,
  fun v0 v1 a1 st σ hc => q_getA e46_22 o_46 f_5_25 (by decide) hc,
  fun v1 a1 st σ => q_go e46_25 rfl rfl,
  fun v0 v1 a1 st σ hc => q_getI e46_26 o_46 f_5_44 (by decide) hc,
  fun v0 x1 st σ => q_go e46_29 rfl rfl,
  fun v0 v1 x1 k a3 st σ hk => q_iast e46_30 hk,
  fun v1 a1 st σ => q_go e46_31 rfl rfl,
  fun v0 v1 a1 st σ => q_go e46_32 rfl rfl,
  fun v0 v1 a1 st σ hc => q_getI e46_33 o_46 f_5_44 (by decide) hc,
  fun v0 v1 st σ => q_iconst e46_36 (by decide),
  fun v0 v1 x1 x2 st σ => q_go e46_37 rfl rfl,
  fun v0 v1 x1 a2 st σ hc => q_putI e46_38 o_46 f_5_44 (by decide) rfl hc,
  fun v0 v1 st σ => q_iconst e46_41 (by decide),
  fun v0 v1 x1 σ hx => q_zret e46_42 r_46 hx⟩
theorem E46 {ro : ma_RO} {d : Nat} (a0 : Nat) (x1 : Int32) (sh : List ma_Sh) (σ : ma_H) : ma_ev ro d 46 [.ref a0, .int x1] sh σ = ma_rn ro d 46 (0, [some (.ref a0), some (.int x1)], [], sh, σ) := q_ent x_46 rfl
theorem e47_0 : decode (ma_cd 47) 0 = .ok (.iload_n 1, 1) := (congrArg (fun b => decode b 0) cd_47).trans dX5_signAt_0
theorem e47_1 : decode (ma_cd 47) 1 = .ok (.ifCond .lt 29, 3) := (congrArg (fun b => decode b 1) cd_47).trans dX5_signAt_1
theorem e47_4 : decode (ma_cd 47) 4 = .ok (.iload_n 1, 1) := (congrArg (fun b => decode b 4) cd_47).trans dX5_signAt_4
theorem e47_5 : decode (ma_cd 47) 5 = .ok (.aload_n 0, 1) := (congrArg (fun b => decode b 5) cd_47).trans dX5_signAt_5
theorem e47_6 : decode (ma_cd 47) 6 = .ok (.getfield 44, 3) := (congrArg (fun b => decode b 6) cd_47).trans dX5_signAt_6
theorem e47_9 : decode (ma_cd 47) 9 = .ok (.if_icmp .ge 21, 3) := (congrArg (fun b => decode b 9) cd_47).trans dX5_signAt_9
theorem e47_12 : decode (ma_cd 47) 12 = .ok (.iload_n 1, 1) := (congrArg (fun b => decode b 12) cd_47).trans dX5_signAt_12
theorem e47_13 : decode (ma_cd 47) 13 = .ok (.aload_n 0, 1) := (congrArg (fun b => decode b 13) cd_47).trans dX5_signAt_13
theorem e47_14 : decode (ma_cd 47) 14 = .ok (.getfield 25, 3) := (congrArg (fun b => decode b 14) cd_47).trans dX5_signAt_14
theorem e47_17 : decode (ma_cd 47) 17 = .ok (.arraylength, 1) := (congrArg (fun b => decode b 17) cd_47).trans dX5_signAt_17
theorem e47_18 : decode (ma_cd 47) 18 = .ok (.if_icmp .ge 12, 3) := (congrArg (fun b => decode b 18) cd_47).trans dX5_signAt_18
theorem e47_21 : decode (ma_cd 47) 21 = .ok (.aload_n 0, 1) := (congrArg (fun b => decode b 21) cd_47).trans dX5_signAt_21
theorem e47_22 : decode (ma_cd 47) 22 = .ok (.getfield 25, 3) := (congrArg (fun b => decode b 22) cd_47).trans dX5_signAt_22
theorem e47_25 : decode (ma_cd 47) 25 = .ok (.iload_n 1, 1) := (congrArg (fun b => decode b 25) cd_47).trans dX5_signAt_25
theorem e47_26 : decode (ma_cd 47) 26 = .ok (.iaload, 1) := (congrArg (fun b => decode b 26) cd_47).trans dX5_signAt_26
theorem e47_27 : decode (ma_cd 47) 27 = .ok (.goto 4, 3) := (congrArg (fun b => decode b 27) cd_47).trans dX5_signAt_27
theorem e47_30 : decode (ma_cd 47) 30 = .ok (.iconst (-1), 1) := (congrArg (fun b => decode b 30) cd_47).trans dX5_signAt_30
theorem e47_31 : decode (ma_cd 47) 31 = .ok (.ireturn, 1) := (congrArg (fun b => decode b 31) cd_47).trans dX5_signAt_31
theorem S47 {ro : ma_RO} {d : Nat} : (∀ (v0 : Option Value) (x1 : Int32) (st : List Value) (σ : ma_H), ma_rn ro d 47 (0, [v0, some (.int x1)], st, SH, σ) = ma_rn ro d 47 (1, [v0, some (.int x1)], .int x1 :: st, SH, σ)) ∧
  (∀ (v0 : Option Value) (v1 : Option Value) (x1 : Int32) (st : List Value) (σ : ma_H), ma_rn ro d 47 (1, [v0, v1], .int x1 :: st, SH, σ) = if x1 < nI 0 then ma_rn ro d 47 (30, [v0, v1], st, SH, σ) else ma_rn ro d 47 (4, [v0, v1], st, SH, σ)) ∧
  (∀ (v0 : Option Value) (x1 : Int32) (st : List Value) (σ : ma_H), ma_rn ro d 47 (4, [v0, some (.int x1)], st, SH, σ) = ma_rn ro d 47 (5, [v0, some (.int x1)], .int x1 :: st, SH, σ)) ∧
  (∀ (v1 : Option Value) (a1 : Nat) (st : List Value) (σ : ma_H), ma_rn ro d 47 (5, [some (.ref a1), v1], st, SH, σ) = ma_rn ro d 47 (6, [some (.ref a1), v1], .ref a1 :: st, SH, σ)) ∧
  (∀ (v0 : Option Value) (v1 : Option Value) (a1 : Nat) (st : List Value) (σ : ma_H) (hc : hk_cls a1 = 5), ma_rn ro d 47 (6, [v0, v1], .ref a1 :: st, SH, σ) = ma_rn ro d 47 (9, [v0, v1], .int (σ a1 4) :: st, SH, σ)) ∧
  (∀ (v0 : Option Value) (v1 : Option Value) (x1 : Int32) (x2 : Int32) (st : List Value) (σ : ma_H), ma_rn ro d 47 (9, [v0, v1], .int x1 :: .int x2 :: st, SH, σ) = if x2 < x1 then ma_rn ro d 47 (12, [v0, v1], st, SH, σ) else ma_rn ro d 47 (30, [v0, v1], st, SH, σ)) ∧
  (∀ (v0 : Option Value) (x1 : Int32) (st : List Value) (σ : ma_H), ma_rn ro d 47 (12, [v0, some (.int x1)], st, SH, σ) = ma_rn ro d 47 (13, [v0, some (.int x1)], .int x1 :: st, SH, σ)) ∧
  (∀ (v1 : Option Value) (a1 : Nat) (st : List Value) (σ : ma_H), ma_rn ro d 47 (13, [some (.ref a1), v1], st, SH, σ) = ma_rn ro d 47 (14, [some (.ref a1), v1], .ref a1 :: st, SH, σ)) ∧
  (∀ (v0 : Option Value) (v1 : Option Value) (a1 : Nat) (st : List Value) (σ : ma_H) (hc : hk_cls a1 = 5), ma_rn ro d 47 (14, [v0, v1], .ref a1 :: st, SH, σ) = ma_rn ro d 47 (17, [v0, v1], .ref (a1 + 19) :: st, SH, σ)) ∧
  (∀ (v0 : Option Value) (v1 : Option Value) (a1 : Nat) (st : List Value) (σ : ma_H) (hn : 0 < hk_alen a1), ma_rn ro d 47 (17, [v0, v1], .ref a1 :: st, SH, σ) = ma_rn ro d 47 (18, [v0, v1], .int (nI (hk_alen a1)) :: st, SH, σ)) ∧
  (∀ (v0 : Option Value) (v1 : Option Value) (x1 : Int32) (x2 : Int32) (st : List Value) (σ : ma_H), ma_rn ro d 47 (18, [v0, v1], .int x1 :: .int x2 :: st, SH, σ) = if x2 < x1 then ma_rn ro d 47 (21, [v0, v1], st, SH, σ) else ma_rn ro d 47 (30, [v0, v1], st, SH, σ)) ∧
  (∀ (v1 : Option Value) (a1 : Nat) (st : List Value) (σ : ma_H), ma_rn ro d 47 (21, [some (.ref a1), v1], st, SH, σ) = ma_rn ro d 47 (22, [some (.ref a1), v1], .ref a1 :: st, SH, σ)) ∧
  (∀ (v0 : Option Value) (v1 : Option Value) (a1 : Nat) (st : List Value) (σ : ma_H) (hc : hk_cls a1 = 5), ma_rn ro d 47 (22, [v0, v1], .ref a1 :: st, SH, σ) = ma_rn ro d 47 (25, [v0, v1], .ref (a1 + 19) :: st, SH, σ)) ∧
  (∀ (v0 : Option Value) (x1 : Int32) (st : List Value) (σ : ma_H), ma_rn ro d 47 (25, [v0, some (.int x1)], st, SH, σ) = ma_rn ro d 47 (26, [v0, some (.int x1)], .int x1 :: st, SH, σ)) ∧
  (∀ (v0 : Option Value) (v1 : Option Value) (k : Nat) (a2 : Nat) (st : List Value) (σ : ma_H) (hk : k < hk_len a2), ma_rn ro d 47 (26, [v0, v1], .int (nI k) :: .ref a2 :: st, SH, σ) = ma_rn ro d 47 (27, [v0, v1], .int (σ a2 k) :: st, SH, σ)) ∧
  (∀ (v0 : Option Value) (v1 : Option Value) (st : List Value) (σ : ma_H), ma_rn ro d 47 (27, [v0, v1], st, SH, σ) = ma_rn ro d 47 (31, [v0, v1], st, SH, σ)) ∧
  (∀ (v0 : Option Value) (v1 : Option Value) (st : List Value) (σ : ma_H), ma_rn ro d 47 (30, [v0, v1], st, SH, σ) = ma_rn ro d 47 (31, [v0, v1], .int ((-1)) :: st, SH, σ)) ∧
  (∀ (v0 : Option Value) (v1 : Option Value) (x1 : Int32) (σ : ma_H), ma_rn ro d 47 (31, [v0, v1], [.int x1], SH, σ) = some (some (.int x1), SH, σ)) := ⟨fun v0 x1 st σ => q_go e47_0 rfl rfl,
  fun v0 v1 x1 st σ => (q_if e47_1 rfl).trans q_lt,
  fun v0 x1 st σ => q_go e47_4 rfl rfl,
  fun v1 a1 st σ => q_go e47_5 rfl rfl,
  fun v0 v1 a1 st σ hc => q_getI e47_6 o_47 f_5_44 (by decide) hc,
  fun v0 v1 x1 x2 st σ => (q_cmp e47_9 rfl).trans q_nlt,
  fun v0 x1 st σ => q_go e47_12 rfl rfl,
  fun v1 a1 st σ => q_go e47_13 rfl rfl,
  fun v0 v1 a1 st σ hc => q_getA e47_14 o_47 f_5_25 (by decide) hc,
  fun v0 v1 a1 st σ hn => q_alen e47_17 rfl hn,
  fun v0 v1 x1 x2 st σ => (q_cmp e47_18 rfl).trans q_nlt,
  fun v1 a1 st σ => q_go e47_21 rfl rfl,
  fun v0 v1 a1 st σ hc => q_getA e47_22 o_47 f_5_25 (by decide) hc,
  fun v0 x1 st σ => q_go e47_25 rfl rfl,
  fun v0 v1 k a2 st σ hk => q_iald e47_26 hk,
  fun v0 v1 st σ => q_goto e47_27 rfl,
  fun v0 v1 st σ => q_iconst e47_30 (by decide),
  fun v0 v1 x1 σ => q_iret e47_31 r_47⟩
theorem E47 {ro : ma_RO} {d : Nat} (a0 : Nat) (x1 : Int32) (sh : List ma_Sh) (σ : ma_H) : ma_ev ro d 47 [.ref a0, .int x1] sh σ = ma_rn ro d 47 (0, [some (.ref a0), some (.int x1)], [], sh, σ) := q_ent x_47 rfl
theorem e48_0 : decode (ma_cd 48) 0 = .ok (.aload_n 0, 1) := (congrArg (fun b => decode b 0) cd_48).trans dX5_copyFrom_0
theorem e48_1 : decode (ma_cd 48) 1 = .ok (.getfield 12, 3) := (congrArg (fun b => decode b 1) cd_48).trans dX5_copyFrom_1
theorem e48_4 : decode (ma_cd 48) 4 = .ok (.aload_n 1, 1) := (congrArg (fun b => decode b 4) cd_48).trans dX5_copyFrom_4
theorem e48_5 : decode (ma_cd 48) 5 = .ok (.getfield 12, 3) := (congrArg (fun b => decode b 5) cd_48).trans dX5_copyFrom_5
theorem e48_8 : decode (ma_cd 48) 8 = .ok (.invokevirtual 48, 3) := (congrArg (fun b => decode b 8) cd_48).trans dX5_copyFrom_8
theorem e48_11 : decode (ma_cd 48) 11 = .ok (.aload_n 0, 1) := (congrArg (fun b => decode b 11) cd_48).trans dX5_copyFrom_11
theorem e48_12 : decode (ma_cd 48) 12 = .ok (.getfield 21, 3) := (congrArg (fun b => decode b 12) cd_48).trans dX5_copyFrom_12
theorem e48_15 : decode (ma_cd 48) 15 = .ok (.aload_n 1, 1) := (congrArg (fun b => decode b 15) cd_48).trans dX5_copyFrom_15
theorem e48_16 : decode (ma_cd 48) 16 = .ok (.getfield 21, 3) := (congrArg (fun b => decode b 16) cd_48).trans dX5_copyFrom_16
theorem e48_19 : decode (ma_cd 48) 19 = .ok (.invokevirtual 52, 3) := (congrArg (fun b => decode b 19) cd_48).trans dX5_copyFrom_19
theorem e48_22 : decode (ma_cd 48) 22 = .ok (.aload_n 0, 1) := (congrArg (fun b => decode b 22) cd_48).trans dX5_copyFrom_22
theorem e48_23 : decode (ma_cd 48) 23 = .ok (.aload_n 1, 1) := (congrArg (fun b => decode b 23) cd_48).trans dX5_copyFrom_23
theorem e48_24 : decode (ma_cd 48) 24 = .ok (.getfield 55, 3) := (congrArg (fun b => decode b 24) cd_48).trans dX5_copyFrom_24
theorem e48_27 : decode (ma_cd 48) 27 = .ok (.putfield 55, 3) := (congrArg (fun b => decode b 27) cd_48).trans dX5_copyFrom_27
theorem e48_30 : decode (ma_cd 48) 30 = .ok (.aload_n 1, 1) := (congrArg (fun b => decode b 30) cd_48).trans dX5_copyFrom_30
theorem e48_31 : decode (ma_cd 48) 31 = .ok (.getfield 25, 3) := (congrArg (fun b => decode b 31) cd_48).trans dX5_copyFrom_31
theorem e48_34 : decode (ma_cd 48) 34 = .ok (.aload_n 0, 1) := (congrArg (fun b => decode b 34) cd_48).trans dX5_copyFrom_34
theorem e48_35 : decode (ma_cd 48) 35 = .ok (.getfield 25, 3) := (congrArg (fun b => decode b 35) cd_48).trans dX5_copyFrom_35
theorem e48_38 : decode (ma_cd 48) 38 = .ok (.invokestatic 58, 3) := (congrArg (fun b => decode b 38) cd_48).trans dX5_copyFrom_38
theorem e48_41 : decode (ma_cd 48) 41 = .ok (.aload_n 0, 1) := (congrArg (fun b => decode b 41) cd_48).trans dX5_copyFrom_41
theorem e48_42 : decode (ma_cd 48) 42 = .ok (.aload_n 1, 1) := (congrArg (fun b => decode b 42) cd_48).trans dX5_copyFrom_42
theorem e48_43 : decode (ma_cd 48) 43 = .ok (.getfield 44, 3) := (congrArg (fun b => decode b 43) cd_48).trans dX5_copyFrom_43
theorem e48_46 : decode (ma_cd 48) 46 = .ok (.putfield 44, 3) := (congrArg (fun b => decode b 46) cd_48).trans dX5_copyFrom_46
theorem e48_49 : decode (ma_cd 48) 49 = .ok (.aload_n 0, 1) := (congrArg (fun b => decode b 49) cd_48).trans dX5_copyFrom_49
theorem e48_50 : decode (ma_cd 48) 50 = .ok (.getfield 34, 3) := (congrArg (fun b => decode b 50) cd_48).trans dX5_copyFrom_50
theorem e48_53 : decode (ma_cd 48) 53 = .ok (.aload_n 1, 1) := (congrArg (fun b => decode b 53) cd_48).trans dX5_copyFrom_53
theorem e48_54 : decode (ma_cd 48) 54 = .ok (.getfield 34, 3) := (congrArg (fun b => decode b 54) cd_48).trans dX5_copyFrom_54
theorem e48_57 : decode (ma_cd 48) 57 = .ok (.invokevirtual 62, 3) := (congrArg (fun b => decode b 57) cd_48).trans dX5_copyFrom_57
theorem e48_60 : decode (ma_cd 48) 60 = .ok (.aload_n 0, 1) := (congrArg (fun b => decode b 60) cd_48).trans dX5_copyFrom_60
theorem e48_61 : decode (ma_cd 48) 61 = .ok (.getfield 38, 3) := (congrArg (fun b => decode b 61) cd_48).trans dX5_copyFrom_61
theorem e48_64 : decode (ma_cd 48) 64 = .ok (.aload_n 1, 1) := (congrArg (fun b => decode b 64) cd_48).trans dX5_copyFrom_64
theorem e48_65 : decode (ma_cd 48) 65 = .ok (.getfield 38, 3) := (congrArg (fun b => decode b 65) cd_48).trans dX5_copyFrom_65
theorem e48_68 : decode (ma_cd 48) 68 = .ok (.invokevirtual 62, 3) := (congrArg (fun b => decode b 68) cd_48).trans dX5_copyFrom_68
theorem e48_71 : decode (ma_cd 48) 71 = .ok (.aload_n 0, 1) := (congrArg (fun b => decode b 71) cd_48).trans dX5_copyFrom_71
theorem e48_72 : decode (ma_cd 48) 72 = .ok (.getfield 41, 3) := (congrArg (fun b => decode b 72) cd_48).trans dX5_copyFrom_72
theorem e48_75 : decode (ma_cd 48) 75 = .ok (.aload_n 1, 1) := (congrArg (fun b => decode b 75) cd_48).trans dX5_copyFrom_75
theorem e48_76 : decode (ma_cd 48) 76 = .ok (.getfield 41, 3) := (congrArg (fun b => decode b 76) cd_48).trans dX5_copyFrom_76
theorem e48_79 : decode (ma_cd 48) 79 = .ok (.invokevirtual 62, 3) := (congrArg (fun b => decode b 79) cd_48).trans dX5_copyFrom_79
theorem e48_82 : decode (ma_cd 48) 82 = .ok (.return_, 1) := (congrArg (fun b => decode b 82) cd_48).trans dX5_copyFrom_82
theorem S48 {ro : ma_RO} {d : Nat} : (∀ (v1 : Option Value) (a1 : Nat) (st : List Value) (σ : ma_H), ma_rn ro d 48 (0, [some (.ref a1), v1], st, SH, σ) = ma_rn ro d 48 (1, [some (.ref a1), v1], .ref a1 :: st, SH, σ)) ∧
  (∀ (v0 : Option Value) (v1 : Option Value) (a1 : Nat) (st : List Value) (σ : ma_H) (hc : hk_cls a1 = 5), ma_rn ro d 48 (1, [v0, v1], .ref a1 :: st, SH, σ) = ma_rn ro d 48 (4, [v0, v1], .ref (a1 + 1) :: st, SH, σ)) ∧
  (∀ (v0 : Option Value) (a1 : Nat) (st : List Value) (σ : ma_H), ma_rn ro d 48 (4, [v0, some (.ref a1)], st, SH, σ) = ma_rn ro d 48 (5, [v0, some (.ref a1)], .ref a1 :: st, SH, σ)) ∧
  (∀ (v0 : Option Value) (v1 : Option Value) (a1 : Nat) (st : List Value) (σ : ma_H) (hc : hk_cls a1 = 5), ma_rn ro d 48 (5, [v0, v1], .ref a1 :: st, SH, σ) = ma_rn ro d 48 (8, [v0, v1], .ref (a1 + 1) :: st, SH, σ)) ∧
  (∀ (v0 : Option Value) (v1 : Option Value) (a1 : Nat) (a0 : Nat) (σ : ma_H) (hc : hk_cls a0 = 6), ma_rn ro (d + 1) 48 (8, [v0, v1], .ref a1 :: .ref a0 :: [], SH, σ) = (ma_ev ro d 52 [.ref a0, .ref a1] SH σ).bind (fun q => ma_rn ro (d + 1) 48 (11, [v0, v1], (q.1.toList ++ []), q.2.1, q.2.2))) ∧
  (∀ (v1 : Option Value) (a1 : Nat) (st : List Value) (σ : ma_H), ma_rn ro d 48 (11, [some (.ref a1), v1], st, SH, σ) = ma_rn ro d 48 (12, [some (.ref a1), v1], .ref a1 :: st, SH, σ)) ∧
  (∀ (v0 : Option Value) (v1 : Option Value) (a1 : Nat) (st : List Value) (σ : ma_H) (hc : hk_cls a1 = 5), ma_rn ro d 48 (12, [v0, v1], .ref a1 :: st, SH, σ) = ma_rn ro d 48 (15, [v0, v1], .ref (a1 + 15) :: st, SH, σ)) ∧
  (∀ (v0 : Option Value) (a1 : Nat) (st : List Value) (σ : ma_H), ma_rn ro d 48 (15, [v0, some (.ref a1)], st, SH, σ) = ma_rn ro d 48 (16, [v0, some (.ref a1)], .ref a1 :: st, SH, σ)) ∧
  (∀ (v0 : Option Value) (v1 : Option Value) (a1 : Nat) (st : List Value) (σ : ma_H) (hc : hk_cls a1 = 5), ma_rn ro d 48 (16, [v0, v1], .ref a1 :: st, SH, σ) = ma_rn ro d 48 (19, [v0, v1], .ref (a1 + 15) :: st, SH, σ)) ∧
  (∀ (v0 : Option Value) (v1 : Option Value) (a1 : Nat) (a0 : Nat) (σ : ma_H) (hc : hk_cls a0 = 2), ma_rn ro (d + 1) 48 (19, [v0, v1], .ref a1 :: .ref a0 :: [], SH, σ) = (ma_ev ro d 18 [.ref a0, .ref a1] SH σ).bind (fun q => ma_rn ro (d + 1) 48 (22, [v0, v1], (q.1.toList ++ []), q.2.1, q.2.2))) ∧
  (∀ (v1 : Option Value) (a1 : Nat) (st : List Value) (σ : ma_H), ma_rn ro d 48 (22, [some (.ref a1), v1], st, SH, σ) = ma_rn ro d 48 (23, [some (.ref a1), v1], .ref a1 :: st, SH, σ)) ∧
  (∀ (v0 : Option Value) (a1 : Nat) (st : List Value) (σ : ma_H), ma_rn ro d 48 (23, [v0, some (.ref a1)], st, SH, σ) = ma_rn ro d 48 (24, [v0, some (.ref a1)], .ref a1 :: st, SH, σ)) ∧
  (∀ (v0 : Option Value) (v1 : Option Value) (a1 : Nat) (st : List Value) (σ : ma_H) (hc : hk_cls a1 = 5), ma_rn ro d 48 (24, [v0, v1], .ref a1 :: st, SH, σ) = ma_rn ro d 48 (27, [v0, v1], .int (σ a1 2) :: st, SH, σ)) ∧
  (∀ (v0 : Option Value) (v1 : Option Value) (x1 : Int32) (a2 : Nat) (st : List Value) (σ : ma_H) (hc : hk_cls a2 = 5), ma_rn ro d 48 (27, [v0, v1], .int x1 :: .ref a2 :: st, SH, σ) = ma_rn ro d 48 (30, [v0, v1], st, SH, (ma_up σ a2 2 x1))) ∧
  (∀ (v0 : Option Value) (a1 : Nat) (st : List Value) (σ : ma_H), ma_rn ro d 48 (30, [v0, some (.ref a1)], st, SH, σ) = ma_rn ro d 48 (31, [v0, some (.ref a1)], .ref a1 :: st, SH, σ)) ∧
  (∀ (v0 : Option Value) (v1 : Option Value) (a1 : Nat) (st : List Value) (σ : ma_H) (hc : hk_cls a1 = 5), ma_rn ro d 48 (31, [v0, v1], .ref a1 :: st, SH, σ) = ma_rn ro d 48 (34, [v0, v1], .ref (a1 + 19) :: st, SH, σ)) ∧
  (∀ (v1 : Option Value) (a1 : Nat) (st : List Value) (σ : ma_H), ma_rn ro d 48 (34, [some (.ref a1), v1], st, SH, σ) = ma_rn ro d 48 (35, [some (.ref a1), v1], .ref a1 :: st, SH, σ)) ∧
  (∀ (v0 : Option Value) (v1 : Option Value) (a1 : Nat) (st : List Value) (σ : ma_H) (hc : hk_cls a1 = 5), ma_rn ro d 48 (35, [v0, v1], .ref a1 :: st, SH, σ) = ma_rn ro d 48 (38, [v0, v1], .ref (a1 + 19) :: st, SH, σ)) ∧
  (∀ (v0 : Option Value) (v1 : Option Value) (a1 : Nat) (a2 : Nat) (σ : ma_H), ma_rn ro (d + 1) 48 (38, [v0, v1], .ref a2 :: .ref a1 :: [], SH, σ) = (ma_ev ro d 91 [.ref a1, .ref a2] SH σ).bind (fun q => ma_rn ro (d + 1) 48 (41, [v0, v1], (q.1.toList ++ []), q.2.1, q.2.2))) ∧
  (∀ (v1 : Option Value) (a1 : Nat) (st : List Value) (σ : ma_H), ma_rn ro d 48 (41, [some (.ref a1), v1], st, SH, σ) = ma_rn ro d 48 (42, [some (.ref a1), v1], .ref a1 :: st, SH, σ)) ∧
  (∀ (v0 : Option Value) (a1 : Nat) (st : List Value) (σ : ma_H), ma_rn ro d 48 (42, [v0, some (.ref a1)], st, SH, σ) = ma_rn ro d 48 (43, [v0, some (.ref a1)], .ref a1 :: st, SH, σ)) ∧
  (∀ (v0 : Option Value) (v1 : Option Value) (a1 : Nat) (st : List Value) (σ : ma_H) (hc : hk_cls a1 = 5), ma_rn ro d 48 (43, [v0, v1], .ref a1 :: st, SH, σ) = ma_rn ro d 48 (46, [v0, v1], .int (σ a1 4) :: st, SH, σ)) ∧
  (∀ (v0 : Option Value) (v1 : Option Value) (x1 : Int32) (a2 : Nat) (st : List Value) (σ : ma_H) (hc : hk_cls a2 = 5), ma_rn ro d 48 (46, [v0, v1], .int x1 :: .ref a2 :: st, SH, σ) = ma_rn ro d 48 (49, [v0, v1], st, SH, (ma_up σ a2 4 x1))) ∧
  (∀ (v1 : Option Value) (a1 : Nat) (st : List Value) (σ : ma_H), ma_rn ro d 48 (49, [some (.ref a1), v1], st, SH, σ) = ma_rn ro d 48 (50, [some (.ref a1), v1], .ref a1 :: st, SH, σ)) ∧
  (∀ (v0 : Option Value) (v1 : Option Value) (a1 : Nat) (st : List Value) (σ : ma_H) (hc : hk_cls a1 = 5), ma_rn ro d 48 (50, [v0, v1], .ref a1 :: st, SH, σ) = ma_rn ro d 48 (53, [v0, v1], .ref (a1 + 20) :: st, SH, σ)) ∧
  (∀ (v0 : Option Value) (a1 : Nat) (st : List Value) (σ : ma_H), ma_rn ro d 48 (53, [v0, some (.ref a1)], st, SH, σ) = ma_rn ro d 48 (54, [v0, some (.ref a1)], .ref a1 :: st, SH, σ)) ∧
  (∀ (v0 : Option Value) (v1 : Option Value) (a1 : Nat) (st : List Value) (σ : ma_H) (hc : hk_cls a1 = 5), ma_rn ro d 48 (54, [v0, v1], .ref a1 :: st, SH, σ) = ma_rn ro d 48 (57, [v0, v1], .ref (a1 + 20) :: st, SH, σ)) ∧
  (∀ (v0 : Option Value) (v1 : Option Value) (a1 : Nat) (a0 : Nat) (σ : ma_H) (hc : hk_cls a0 = 4), ma_rn ro (d + 1) 48 (57, [v0, v1], .ref a1 :: .ref a0 :: [], SH, σ) = (ma_ev ro d 44 [.ref a0, .ref a1] SH σ).bind (fun q => ma_rn ro (d + 1) 48 (60, [v0, v1], (q.1.toList ++ []), q.2.1, q.2.2))) ∧
  (∀ (v1 : Option Value) (a1 : Nat) (st : List Value) (σ : ma_H), ma_rn ro d 48 (60, [some (.ref a1), v1], st, SH, σ) = ma_rn ro d 48 (61, [some (.ref a1), v1], .ref a1 :: st, SH, σ)) ∧
  (∀ (v0 : Option Value) (v1 : Option Value) (a1 : Nat) (st : List Value) (σ : ma_H) (hc : hk_cls a1 = 5), ma_rn ro d 48 (61, [v0, v1], .ref a1 :: st, SH, σ) = ma_rn ro d 48 (64, [v0, v1], .ref (a1 + 24) :: st, SH, σ)) ∧
  (∀ (v0 : Option Value) (a1 : Nat) (st : List Value) (σ : ma_H), ma_rn ro d 48 (64, [v0, some (.ref a1)], st, SH, σ) = ma_rn ro d 48 (65, [v0, some (.ref a1)], .ref a1 :: st, SH, σ)) ∧
  (∀ (v0 : Option Value) (v1 : Option Value) (a1 : Nat) (st : List Value) (σ : ma_H) (hc : hk_cls a1 = 5), ma_rn ro d 48 (65, [v0, v1], .ref a1 :: st, SH, σ) = ma_rn ro d 48 (68, [v0, v1], .ref (a1 + 24) :: st, SH, σ)) ∧
  (∀ (v0 : Option Value) (v1 : Option Value) (a1 : Nat) (a0 : Nat) (σ : ma_H) (hc : hk_cls a0 = 4), ma_rn ro (d + 1) 48 (68, [v0, v1], .ref a1 :: .ref a0 :: [], SH, σ) = (ma_ev ro d 44 [.ref a0, .ref a1] SH σ).bind (fun q => ma_rn ro (d + 1) 48 (71, [v0, v1], (q.1.toList ++ []), q.2.1, q.2.2))) ∧
  (∀ (v1 : Option Value) (a1 : Nat) (st : List Value) (σ : ma_H), ma_rn ro d 48 (71, [some (.ref a1), v1], st, SH, σ) = ma_rn ro d 48 (72, [some (.ref a1), v1], .ref a1 :: st, SH, σ)) ∧
  (∀ (v0 : Option Value) (v1 : Option Value) (a1 : Nat) (st : List Value) (σ : ma_H) (hc : hk_cls a1 = 5), ma_rn ro d 48 (72, [v0, v1], .ref a1 :: st, SH, σ) = ma_rn ro d 48 (75, [v0, v1], .ref (a1 + 28) :: st, SH, σ)) ∧
  (∀ (v0 : Option Value) (a1 : Nat) (st : List Value) (σ : ma_H), ma_rn ro d 48 (75, [v0, some (.ref a1)], st, SH, σ) = ma_rn ro d 48 (76, [v0, some (.ref a1)], .ref a1 :: st, SH, σ)) ∧
  (∀ (v0 : Option Value) (v1 : Option Value) (a1 : Nat) (st : List Value) (σ : ma_H) (hc : hk_cls a1 = 5), ma_rn ro d 48 (76, [v0, v1], .ref a1 :: st, SH, σ) = ma_rn ro d 48 (79, [v0, v1], .ref (a1 + 28) :: st, SH, σ)) ∧
  (∀ (v0 : Option Value) (v1 : Option Value) (a1 : Nat) (a0 : Nat) (σ : ma_H) (hc : hk_cls a0 = 4), ma_rn ro (d + 1) 48 (79, [v0, v1], .ref a1 :: .ref a0 :: [], SH, σ) = (ma_ev ro d 44 [.ref a0, .ref a1] SH σ).bind (fun q => ma_rn ro (d + 1) 48 (82, [v0, v1], (q.1.toList ++ []), q.2.1, q.2.2))) ∧
  (∀ (v0 : Option Value) (v1 : Option Value) (σ : ma_H), ma_rn ro d 48 (82, [v0, v1], [], SH, σ) = some (none, SH, σ)) := ⟨fun v1 a1 st σ => q_go e48_0 rfl rfl,
  fun v0 v1 a1 st σ hc => q_getA e48_1 o_48 f_5_12 (by decide) hc,
  fun v0 a1 st σ => q_go e48_4 rfl rfl,
  fun v0 v1 a1 st σ hc => q_getA e48_5 o_48 f_5_12 (by decide) hc,
  fun v0 v1 a1 a0 σ hc => q_invV (as := [.ref a1]) (rest := []) e48_8 o_48 bn_5_48 c_5_48 m_52 (by decide) rfl rfl (Nat.le_of_ble_eq_true rfl) (Nat.le_of_ble_eq_true rfl) hc,
  fun v1 a1 st σ => q_go e48_11 rfl rfl,
  fun v0 v1 a1 st σ hc => q_getA e48_12 o_48 f_5_21 (by decide) hc,
  fun v0 a1 st σ => q_go e48_15 rfl rfl,
  fun v0 v1 a1 st σ hc => q_getA e48_16 o_48 f_5_21 (by decide) hc,
  fun v0 v1 a1 a0 σ hc => q_invV (as := [.ref a1]) (rest := []) e48_19 o_48 bn_5_52 c_5_52 m_18 (by decide) rfl rfl (Nat.le_of_ble_eq_true rfl) (Nat.le_of_ble_eq_true rfl) hc,
  fun v1 a1 st σ => q_go e48_22 rfl rfl,
  fun v0 a1 st σ => q_go e48_23 rfl rfl,
  fun v0 v1 a1 st σ hc => q_getI e48_24 o_48 f_5_55 (by decide) hc,
  fun v0 v1 x1 a2 st σ hc => q_putI e48_27 o_48 f_5_55 (by decide) rfl hc,
  fun v0 a1 st σ => q_go e48_30 rfl rfl,
  fun v0 v1 a1 st σ hc => q_getA e48_31 o_48 f_5_25 (by decide) hc,
  fun v1 a1 st σ => q_go e48_34 rfl rfl,
  fun v0 v1 a1 st σ hc => q_getA e48_35 o_48 f_5_25 (by decide) hc,
  fun v0 v1 a1 a2 σ => q_invS (as := [.ref a1, .ref a2]) (rest := []) e48_38 o_48 bn_5_58 c_5_58 ⟨m_91.1, m_91.2.1, m_91.2.2.1⟩ rfl rfl (Nat.le_of_ble_eq_true rfl) (Nat.le_of_ble_eq_true rfl),
  fun v1 a1 st σ => q_go e48_41 rfl rfl,
  fun v0 a1 st σ => q_go e48_42 rfl rfl,
  fun v0 v1 a1 st σ hc => q_getI e48_43 o_48 f_5_44 (by decide) hc,
  fun v0 v1 x1 a2 st σ hc => q_putI e48_46 o_48 f_5_44 (by decide) rfl hc,
  fun v1 a1 st σ => q_go e48_49 rfl rfl,
  fun v0 v1 a1 st σ hc => q_getA e48_50 o_48 f_5_34 (by decide) hc,
  fun v0 a1 st σ => q_go e48_53 rfl rfl,
  fun v0 v1 a1 st σ hc => q_getA e48_54 o_48 f_5_34 (by decide) hc,
  fun v0 v1 a1 a0 σ hc => q_invV (as := [.ref a1]) (rest := []) e48_57 o_48 bn_5_62 c_5_62 m_44 (by decide) rfl rfl (Nat.le_of_ble_eq_true rfl) (Nat.le_of_ble_eq_true rfl) hc,
  fun v1 a1 st σ => q_go e48_60 rfl rfl,
  fun v0 v1 a1 st σ hc => q_getA e48_61 o_48 f_5_38 (by decide) hc,
  fun v0 a1 st σ => q_go e48_64 rfl rfl,
  fun v0 v1 a1 st σ hc => q_getA e48_65 o_48 f_5_38 (by decide) hc,
  fun v0 v1 a1 a0 σ hc => q_invV (as := [.ref a1]) (rest := []) e48_68 o_48 bn_5_62 c_5_62 m_44 (by decide) rfl rfl (Nat.le_of_ble_eq_true rfl) (Nat.le_of_ble_eq_true rfl) hc,
  fun v1 a1 st σ => q_go e48_71 rfl rfl,
  fun v0 v1 a1 st σ hc => q_getA e48_72 o_48 f_5_41 (by decide) hc,
  fun v0 a1 st σ => q_go e48_75 rfl rfl,
  fun v0 v1 a1 st σ hc => q_getA e48_76 o_48 f_5_41 (by decide) hc,
  fun v0 v1 a1 a0 σ hc => q_invV (as := [.ref a1]) (rest := []) e48_79 o_48 bn_5_62 c_5_62 m_44 (by decide) rfl rfl (Nat.le_of_ble_eq_true rfl) (Nat.le_of_ble_eq_true rfl) hc,
  fun v0 v1 σ => q_vret e48_82 r_48⟩
theorem E48 {ro : ma_RO} {d : Nat} (a0 : Nat) (a1 : Nat) (sh : List ma_Sh) (σ : ma_H) : ma_ev ro d 48 [.ref a0, .ref a1] sh σ = ma_rn ro d 48 (0, [some (.ref a0), some (.ref a1)], [], sh, σ) := q_ent x_48 rfl
theorem e50_0 : decode (ma_cd 50) 0 = .ok (.iload_n 1, 1) := (congrArg (fun b => decode b 0) cd_50).trans dX6_find_0
theorem e50_1 : decode (ma_cd 50) 1 = .ok (.ifCond .lt 29, 3) := (congrArg (fun b => decode b 1) cd_50).trans dX6_find_1
theorem e50_4 : decode (ma_cd 50) 4 = .ok (.iload_n 1, 1) := (congrArg (fun b => decode b 4) cd_50).trans dX6_find_4
theorem e50_5 : decode (ma_cd 50) 5 = .ok (.aload_n 0, 1) := (congrArg (fun b => decode b 5) cd_50).trans dX6_find_5
theorem e50_6 : decode (ma_cd 50) 6 = .ok (.getfield 24, 3) := (congrArg (fun b => decode b 6) cd_50).trans dX6_find_6
theorem e50_9 : decode (ma_cd 50) 9 = .ok (.if_icmp .ge 21, 3) := (congrArg (fun b => decode b 9) cd_50).trans dX6_find_9
theorem e50_12 : decode (ma_cd 50) 12 = .ok (.iload_n 1, 1) := (congrArg (fun b => decode b 12) cd_50).trans dX6_find_12
theorem e50_13 : decode (ma_cd 50) 13 = .ok (.aload_n 0, 1) := (congrArg (fun b => decode b 13) cd_50).trans dX6_find_13
theorem e50_14 : decode (ma_cd 50) 14 = .ok (.getfield 11, 3) := (congrArg (fun b => decode b 14) cd_50).trans dX6_find_14
theorem e50_17 : decode (ma_cd 50) 17 = .ok (.arraylength, 1) := (congrArg (fun b => decode b 17) cd_50).trans dX6_find_17
theorem e50_18 : decode (ma_cd 50) 18 = .ok (.if_icmp .ge 12, 3) := (congrArg (fun b => decode b 18) cd_50).trans dX6_find_18
theorem e50_21 : decode (ma_cd 50) 21 = .ok (.aload_n 0, 1) := (congrArg (fun b => decode b 21) cd_50).trans dX6_find_21
theorem e50_22 : decode (ma_cd 50) 22 = .ok (.getfield 11, 3) := (congrArg (fun b => decode b 22) cd_50).trans dX6_find_22
theorem e50_25 : decode (ma_cd 50) 25 = .ok (.iload_n 1, 1) := (congrArg (fun b => decode b 25) cd_50).trans dX6_find_25
theorem e50_26 : decode (ma_cd 50) 26 = .ok (.aaload, 1) := (congrArg (fun b => decode b 26) cd_50).trans dX6_find_26
theorem e50_27 : decode (ma_cd 50) 27 = .ok (.goto 4, 3) := (congrArg (fun b => decode b 27) cd_50).trans dX6_find_27
theorem e50_30 : decode (ma_cd 50) 30 = .ok (.aconst_null, 1) := (congrArg (fun b => decode b 30) cd_50).trans dX6_find_30
theorem e50_31 : decode (ma_cd 50) 31 = .ok (.areturn, 1) := (congrArg (fun b => decode b 31) cd_50).trans dX6_find_31
theorem S50 {ro : ma_RO} {d : Nat} : (∀ (v0 : Option Value) (x1 : Int32) (st : List Value) (σ : ma_H), ma_rn ro d 50 (0, [v0, some (.int x1)], st, SH, σ) = ma_rn ro d 50 (1, [v0, some (.int x1)], .int x1 :: st, SH, σ)) ∧
  (∀ (v0 : Option Value) (v1 : Option Value) (x1 : Int32) (st : List Value) (σ : ma_H), ma_rn ro d 50 (1, [v0, v1], .int x1 :: st, SH, σ) = if x1 < nI 0 then ma_rn ro d 50 (30, [v0, v1], st, SH, σ) else ma_rn ro d 50 (4, [v0, v1], st, SH, σ)) ∧
  (∀ (v0 : Option Value) (x1 : Int32) (st : List Value) (σ : ma_H), ma_rn ro d 50 (4, [v0, some (.int x1)], st, SH, σ) = ma_rn ro d 50 (5, [v0, some (.int x1)], .int x1 :: st, SH, σ)) ∧
  (∀ (v1 : Option Value) (a1 : Nat) (st : List Value) (σ : ma_H), ma_rn ro d 50 (5, [some (.ref a1), v1], st, SH, σ) = ma_rn ro d 50 (6, [some (.ref a1), v1], .ref a1 :: st, SH, σ)) ∧
  (∀ (v0 : Option Value) (v1 : Option Value) (a1 : Nat) (st : List Value) (σ : ma_H) (hc : hk_cls a1 = 6), ma_rn ro d 50 (6, [v0, v1], .ref a1 :: st, SH, σ) = ma_rn ro d 50 (9, [v0, v1], .int (σ a1 1) :: st, SH, σ)) ∧
  (∀ (v0 : Option Value) (v1 : Option Value) (x1 : Int32) (x2 : Int32) (st : List Value) (σ : ma_H), ma_rn ro d 50 (9, [v0, v1], .int x1 :: .int x2 :: st, SH, σ) = if x2 < x1 then ma_rn ro d 50 (12, [v0, v1], st, SH, σ) else ma_rn ro d 50 (30, [v0, v1], st, SH, σ)) ∧
  (∀ (v0 : Option Value) (x1 : Int32) (st : List Value) (σ : ma_H), ma_rn ro d 50 (12, [v0, some (.int x1)], st, SH, σ) = ma_rn ro d 50 (13, [v0, some (.int x1)], .int x1 :: st, SH, σ)) ∧
  (∀ (v1 : Option Value) (a1 : Nat) (st : List Value) (σ : ma_H), ma_rn ro d 50 (13, [some (.ref a1), v1], st, SH, σ) = ma_rn ro d 50 (14, [some (.ref a1), v1], .ref a1 :: st, SH, σ)) ∧
  (∀ (v0 : Option Value) (v1 : Option Value) (a1 : Nat) (st : List Value) (σ : ma_H) (hc : hk_cls a1 = 6), ma_rn ro d 50 (14, [v0, v1], .ref a1 :: st, SH, σ) = ma_rn ro d 50 (17, [v0, v1], .ref (a1 + 1) :: st, SH, σ)) ∧
  (∀ (v0 : Option Value) (v1 : Option Value) (a1 : Nat) (st : List Value) (σ : ma_H) (hn : 0 < hk_alen a1), ma_rn ro d 50 (17, [v0, v1], .ref a1 :: st, SH, σ) = ma_rn ro d 50 (18, [v0, v1], .int (nI (hk_alen a1)) :: st, SH, σ)) ∧
  (∀ (v0 : Option Value) (v1 : Option Value) (x1 : Int32) (x2 : Int32) (st : List Value) (σ : ma_H), ma_rn ro d 50 (18, [v0, v1], .int x1 :: .int x2 :: st, SH, σ) = if x2 < x1 then ma_rn ro d 50 (21, [v0, v1], st, SH, σ) else ma_rn ro d 50 (30, [v0, v1], st, SH, σ)) ∧
  (∀ (v1 : Option Value) (a1 : Nat) (st : List Value) (σ : ma_H), ma_rn ro d 50 (21, [some (.ref a1), v1], st, SH, σ) = ma_rn ro d 50 (22, [some (.ref a1), v1], .ref a1 :: st, SH, σ)) ∧
  (∀ (v0 : Option Value) (v1 : Option Value) (a1 : Nat) (st : List Value) (σ : ma_H) (hc : hk_cls a1 = 6), ma_rn ro d 50 (22, [v0, v1], .ref a1 :: st, SH, σ) = ma_rn ro d 50 (25, [v0, v1], .ref (a1 + 1) :: st, SH, σ)) ∧
  (∀ (v0 : Option Value) (x1 : Int32) (st : List Value) (σ : ma_H), ma_rn ro d 50 (25, [v0, some (.int x1)], st, SH, σ) = ma_rn ro d 50 (26, [v0, some (.int x1)], .int x1 :: st, SH, σ)) ∧
  (∀ (v0 : Option Value) (v1 : Option Value) (k : Nat) (a2 : Nat) (st : List Value) (σ : ma_H) (ho : hk_qlen a2 = 6) (hk : k < 6), ma_rn ro d 50 (26, [v0, v1], .int (nI k) :: .ref a2 :: st, SH, σ) = ma_rn ro d 50 (27, [v0, v1], .ref (a2 + 1 + 2 * k) :: st, SH, σ)) ∧
  (∀ (v0 : Option Value) (v1 : Option Value) (st : List Value) (σ : ma_H), ma_rn ro d 50 (27, [v0, v1], st, SH, σ) = ma_rn ro d 50 (31, [v0, v1], st, SH, σ)) ∧
  (∀ (v0 : Option Value) (v1 : Option Value) (st : List Value) (σ : ma_H), ma_rn ro d 50 (30, [v0, v1], st, SH, σ) = ma_rn ro d 50 (31, [v0, v1], .null :: st, SH, σ)) ∧
  (∀ (v0 : Option Value) (v1 : Option Value) (a1 : Nat) (σ : ma_H), ma_rn ro d 50 (31, [v0, v1], [.ref a1], SH, σ) = some (some (.ref a1), SH, σ)) ∧
  (∀ (v0 : Option Value) (v1 : Option Value) (σ : ma_H), ma_rn ro d 50 (31, [v0, v1], [.null], SH, σ) = some (some .null, SH, σ)) := ⟨fun v0 x1 st σ => q_go e50_0 rfl rfl,
  fun v0 v1 x1 st σ => (q_if e50_1 rfl).trans q_lt,
  fun v0 x1 st σ => q_go e50_4 rfl rfl,
  fun v1 a1 st σ => q_go e50_5 rfl rfl,
  fun v0 v1 a1 st σ hc => q_getI e50_6 o_50 f_6_24 (by decide) hc,
  fun v0 v1 x1 x2 st σ => (q_cmp e50_9 rfl).trans q_nlt,
  fun v0 x1 st σ => q_go e50_12 rfl rfl,
  fun v1 a1 st σ => q_go e50_13 rfl rfl,
  fun v0 v1 a1 st σ hc => q_getA e50_14 o_50 f_6_11 (by decide) hc,
  fun v0 v1 a1 st σ hn => q_alen e50_17 rfl hn,
  fun v0 v1 x1 x2 st σ => (q_cmp e50_18 rfl).trans q_nlt,
  fun v1 a1 st σ => q_go e50_21 rfl rfl,
  fun v0 v1 a1 st σ hc => q_getA e50_22 o_50 f_6_11 (by decide) hc,
  fun v0 x1 st σ => q_go e50_25 rfl rfl,
  fun v0 v1 k a2 st σ ho hk => q_aald e50_26 ho hk,
  fun v0 v1 st σ => q_goto e50_27 rfl,
  fun v0 v1 st σ => q_go e50_30 rfl rfl,
  fun v0 v1 a1 σ => q_aret e50_31 r_50 rfl,
  fun v0 v1 σ => q_aret e50_31 r_50 rfl⟩
theorem E50 {ro : ma_RO} {d : Nat} (a0 : Nat) (x1 : Int32) (sh : List ma_Sh) (σ : ma_H) : ma_ev ro d 50 [.ref a0, .int x1] sh σ = ma_rn ro d 50 (0, [some (.ref a0), some (.int x1)], [], sh, σ) := q_ent x_50 rfl
theorem e51_0 : decode (ma_cd 51) 0 = .ok (.aload_n 0, 1) := (congrArg (fun b => decode b 0) cd_51).trans dX6_addDeed_0
theorem e51_1 : decode (ma_cd 51) 1 = .ok (.getfield 24, 3) := (congrArg (fun b => decode b 1) cd_51).trans dX6_addDeed_1
theorem e51_4 : decode (ma_cd 51) 4 = .ok (.ifCond .lt 15, 3) := (congrArg (fun b => decode b 4) cd_51).trans dX6_addDeed_4
theorem e51_7 : decode (ma_cd 51) 7 = .ok (.aload_n 0, 1) := (congrArg (fun b => decode b 7) cd_51).trans dX6_addDeed_7
theorem e51_8 : decode (ma_cd 51) 8 = .ok (.getfield 24, 3) := (congrArg (fun b => decode b 8) cd_51).trans dX6_addDeed_8
theorem e51_11 : decode (ma_cd 51) 11 = .ok (.aload_n 0, 1) := (congrArg (fun b => decode b 11) cd_51).trans dX6_addDeed_11
theorem e51_12 : decode (ma_cd 51) 12 = .ok (.getfield 11, 3) := (congrArg (fun b => decode b 12) cd_51).trans dX6_addDeed_12
theorem e51_15 : decode (ma_cd 51) 15 = .ok (.arraylength, 1) := (congrArg (fun b => decode b 15) cd_51).trans dX6_addDeed_15
theorem e51_16 : decode (ma_cd 51) 16 = .ok (.if_icmp .lt 5, 3) := (congrArg (fun b => decode b 16) cd_51).trans dX6_addDeed_16
theorem e51_19 : decode (ma_cd 51) 19 = .ok (.iconst 0, 1) := (congrArg (fun b => decode b 19) cd_51).trans dX6_addDeed_19
theorem e51_20 : decode (ma_cd 51) 20 = .ok (.ireturn, 1) := (congrArg (fun b => decode b 20) cd_51).trans dX6_addDeed_20
theorem e51_21 : decode (ma_cd 51) 21 = .ok (.aload_n 0, 1) := (congrArg (fun b => decode b 21) cd_51).trans dX6_addDeed_21
theorem e51_22 : decode (ma_cd 51) 22 = .ok (.getfield 11, 3) := (congrArg (fun b => decode b 22) cd_51).trans dX6_addDeed_22
theorem e51_25 : decode (ma_cd 51) 25 = .ok (.aload_n 0, 1) := (congrArg (fun b => decode b 25) cd_51).trans dX6_addDeed_25
theorem e51_26 : decode (ma_cd 51) 26 = .ok (.getfield 24, 3) := (congrArg (fun b => decode b 26) cd_51).trans dX6_addDeed_26
theorem e51_29 : decode (ma_cd 51) 29 = .ok (.aaload, 1) := (congrArg (fun b => decode b 29) cd_51).trans dX6_addDeed_29
theorem e51_30 : decode (ma_cd 51) 30 = .ok (.astore_n 3, 1) := (congrArg (fun b => decode b 30) cd_51).trans dX6_addDeed_30
theorem e51_31 : decode (ma_cd 51) 31 = .ok (.aload_n 3, 1) := (congrArg (fun b => decode b 31) cd_51).trans dX6_addDeed_31
theorem e51_32 : decode (ma_cd 51) 32 = .ok (.ifnonnull 5, 3) := (congrArg (fun b => decode b 32) cd_51).trans dX6_addDeed_32
theorem e51_35 : decode (ma_cd 51) 35 = .ok (.iconst 0, 1) := (congrArg (fun b => decode b 35) cd_51).trans dX6_addDeed_35
theorem e51_36 : decode (ma_cd 51) 36 = .ok (.ireturn, 1) := (congrArg (fun b => decode b 36) cd_51).trans dX6_addDeed_36
theorem e51_37 : decode (ma_cd 51) 37 = .ok (.aload_n 3, 1) := (congrArg (fun b => decode b 37) cd_51).trans dX6_addDeed_37
theorem e51_38 : decode (ma_cd 51) 38 = .ok (.iload_n 1, 1) := (congrArg (fun b => decode b 38) cd_51).trans dX6_addDeed_38
theorem e51_39 : decode (ma_cd 51) 39 = .ok (.iload_n 2, 1) := (congrArg (fun b => decode b 39) cd_51).trans dX6_addDeed_39
theorem e51_40 : decode (ma_cd 51) 40 = .ok (.invokevirtual 27, 3) := (congrArg (fun b => decode b 40) cd_51).trans dX6_addDeed_40
theorem e51_43 : decode (ma_cd 51) 43 = .ok (.aload_n 0, 1) := (congrArg (fun b => decode b 43) cd_51).trans dX6_addDeed_43
theorem e51_44 : decode (ma_cd 51) 44 = .ok (.dup, 1) := (congrArg (fun b => decode b 44) cd_51).trans dX6_addDeed_44
theorem e51_45 : decode (ma_cd 51) 45 = .ok (.getfield 24, 3) := (congrArg (fun b => decode b 45) cd_51).trans dX6_addDeed_45
theorem e51_48 : decode (ma_cd 51) 48 = .ok (.iconst 1, 1) := (congrArg (fun b => decode b 48) cd_51).trans dX6_addDeed_48
theorem e51_49 : decode (ma_cd 51) 49 = .ok (.iadd, 1) := (congrArg (fun b => decode b 49) cd_51).trans dX6_addDeed_49
theorem e51_50 : decode (ma_cd 51) 50 = .ok (.putfield 24, 3) := (congrArg (fun b => decode b 50) cd_51).trans dX6_addDeed_50
theorem e51_53 : decode (ma_cd 51) 53 = .ok (.iconst 1, 1) := (congrArg (fun b => decode b 53) cd_51).trans dX6_addDeed_53
theorem e51_54 : decode (ma_cd 51) 54 = .ok (.ireturn, 1) := (congrArg (fun b => decode b 54) cd_51).trans dX6_addDeed_54
theorem S51 {ro : ma_RO} {d : Nat} : (∀ (v1 : Option Value) (v2 : Option Value) (v3 : Option Value) (a1 : Nat) (st : List Value) (σ : ma_H), ma_rn ro d 51 (0, [some (.ref a1), v1, v2, v3], st, SH, σ) = ma_rn ro d 51 (1, [some (.ref a1), v1, v2, v3], .ref a1 :: st, SH, σ)) ∧
  (∀ (v0 : Option Value) (v1 : Option Value) (v2 : Option Value) (v3 : Option Value) (a1 : Nat) (st : List Value) (σ : ma_H) (hc : hk_cls a1 = 6), ma_rn ro d 51 (1, [v0, v1, v2, v3], .ref a1 :: st, SH, σ) = ma_rn ro d 51 (4, [v0, v1, v2, v3], .int (σ a1 1) :: st, SH, σ)) ∧
  (∀ (v0 : Option Value) (v1 : Option Value) (v2 : Option Value) (v3 : Option Value) (x1 : Int32) (st : List Value) (σ : ma_H), ma_rn ro d 51 (4, [v0, v1, v2, v3], .int x1 :: st, SH, σ) = if x1 < nI 0 then ma_rn ro d 51 (19, [v0, v1, v2, v3], st, SH, σ) else ma_rn ro d 51 (7, [v0, v1, v2, v3], st, SH, σ)) ∧
  (∀ (v1 : Option Value) (v2 : Option Value) (v3 : Option Value) (a1 : Nat) (st : List Value) (σ : ma_H), ma_rn ro d 51 (7, [some (.ref a1), v1, v2, v3], st, SH, σ) = ma_rn ro d 51 (8, [some (.ref a1), v1, v2, v3], .ref a1 :: st, SH, σ)) ∧
  (∀ (v0 : Option Value) (v1 : Option Value) (v2 : Option Value) (v3 : Option Value) (a1 : Nat) (st : List Value) (σ : ma_H) (hc : hk_cls a1 = 6), ma_rn ro d 51 (8, [v0, v1, v2, v3], .ref a1 :: st, SH, σ) = ma_rn ro d 51 (11, [v0, v1, v2, v3], .int (σ a1 1) :: st, SH, σ)) ∧
  (∀ (v1 : Option Value) (v2 : Option Value) (v3 : Option Value) (a1 : Nat) (st : List Value) (σ : ma_H), ma_rn ro d 51 (11, [some (.ref a1), v1, v2, v3], st, SH, σ) = ma_rn ro d 51 (12, [some (.ref a1), v1, v2, v3], .ref a1 :: st, SH, σ)) ∧
  (∀ (v0 : Option Value) (v1 : Option Value) (v2 : Option Value) (v3 : Option Value) (a1 : Nat) (st : List Value) (σ : ma_H) (hc : hk_cls a1 = 6), ma_rn ro d 51 (12, [v0, v1, v2, v3], .ref a1 :: st, SH, σ) = ma_rn ro d 51 (15, [v0, v1, v2, v3], .ref (a1 + 1) :: st, SH, σ)) ∧
  (∀ (v0 : Option Value) (v1 : Option Value) (v2 : Option Value) (v3 : Option Value) (a1 : Nat) (st : List Value) (σ : ma_H) (hn : 0 < hk_alen a1), ma_rn ro d 51 (15, [v0, v1, v2, v3], .ref a1 :: st, SH, σ) = ma_rn ro d 51 (16, [v0, v1, v2, v3], .int (nI (hk_alen a1)) :: st, SH, σ)) ∧
  (∀ (v0 : Option Value) (v1 : Option Value) (v2 : Option Value) (v3 : Option Value) (x1 : Int32) (x2 : Int32) (st : List Value) (σ : ma_H), ma_rn ro d 51 (16, [v0, v1, v2, v3], .int x1 :: .int x2 :: st, SH, σ) = if x2 < x1 then ma_rn ro d 51 (21, [v0, v1, v2, v3], st, SH, σ) else ma_rn ro d 51 (19, [v0, v1, v2, v3], st, SH, σ)) ∧
  (∀ (v0 : Option Value) (v1 : Option Value) (v2 : Option Value) (v3 : Option Value) (st : List Value) (σ : ma_H), ma_rn ro d 51 (19, [v0, v1, v2, v3], st, SH, σ) = ma_rn ro d 51 (20, [v0, v1, v2, v3], .int (nI 0) :: st, SH, σ)) ∧
  (∀ (v0 : Option Value) (v1 : Option Value) (v2 : Option Value) (v3 : Option Value) (x1 : Int32) (σ : ma_H) (hx : ma_fitI .boolean x1 = true), ma_rn ro d 51 (20, [v0, v1, v2, v3], [.int x1], SH, σ) = some (some (.int x1), SH, σ)) ∧
  (∀ (v1 : Option Value) (v2 : Option Value) (v3 : Option Value) (a1 : Nat) (st : List Value) (σ : ma_H), ma_rn ro d 51 (21, [some (.ref a1), v1, v2, v3], st, SH, σ) = ma_rn ro d 51 (22, [some (.ref a1), v1, v2, v3], .ref a1 :: st, SH, σ)) ∧
  (∀ (v0 : Option Value) (v1 : Option Value) (v2 : Option Value) (v3 : Option Value) (a1 : Nat) (st : List Value) (σ : ma_H) (hc : hk_cls a1 = 6), ma_rn ro d 51 (22, [v0, v1, v2, v3], .ref a1 :: st, SH, σ) = ma_rn ro d 51 (25, [v0, v1, v2, v3], .ref (a1 + 1) :: st, SH, σ)) ∧
  (∀ (v1 : Option Value) (v2 : Option Value) (v3 : Option Value) (a1 : Nat) (st : List Value) (σ : ma_H), ma_rn ro d 51 (25, [some (.ref a1), v1, v2, v3], st, SH, σ) = ma_rn ro d 51 (26, [some (.ref a1), v1, v2, v3], .ref a1 :: st, SH, σ)) ∧
  (∀ (v0 : Option Value) (v1 : Option Value) (v2 : Option Value) (v3 : Option Value) (a1 : Nat) (st : List Value) (σ : ma_H) (hc : hk_cls a1 = 6), ma_rn ro d 51 (26, [v0, v1, v2, v3], .ref a1 :: st, SH, σ) = ma_rn ro d 51 (29, [v0, v1, v2, v3], .int (σ a1 1) :: st, SH, σ)) ∧
  (∀ (v0 : Option Value) (v1 : Option Value) (v2 : Option Value) (v3 : Option Value) (k : Nat) (a2 : Nat) (st : List Value) (σ : ma_H) (ho : hk_qlen a2 = 6) (hk : k < 6), ma_rn ro d 51 (29, [v0, v1, v2, v3], .int (nI k) :: .ref a2 :: st, SH, σ) = ma_rn ro d 51 (30, [v0, v1, v2, v3], .ref (a2 + 1 + 2 * k) :: st, SH, σ)) ∧
  (∀ (v0 : Option Value) (v1 : Option Value) (v3 : Option Value) (x9 : Int32) (a1 : Nat) (st : List Value) (σ : ma_H), ma_rn ro d 51 (30, [v0, v1, some (.int x9), v3], .ref a1 :: st, SH, σ) = ma_rn ro d 51 (31, [v0, v1, some (.int x9), some (.ref a1)], st, SH, σ)) ∧
  (∀ (v0 : Option Value) (v1 : Option Value) (v2 : Option Value) (a1 : Nat) (st : List Value) (σ : ma_H), ma_rn ro d 51 (31, [v0, v1, v2, some (.ref a1)], st, SH, σ) = ma_rn ro d 51 (32, [v0, v1, v2, some (.ref a1)], .ref a1 :: st, SH, σ)) ∧
  (∀ (v0 : Option Value) (v1 : Option Value) (v2 : Option Value) (v3 : Option Value) (a1 : Nat) (st : List Value) (σ : ma_H), ma_rn ro d 51 (32, [v0, v1, v2, v3], .ref a1 :: st, SH, σ) = ma_rn ro d 51 (37, [v0, v1, v2, v3], st, SH, σ)) ∧
  (∀ (v0 : Option Value) (v1 : Option Value) (v2 : Option Value) (v3 : Option Value) (st : List Value) (σ : ma_H), ma_rn ro d 51 (32, [v0, v1, v2, v3], .null :: st, SH, σ) = ma_rn ro d 51 (35, [v0, v1, v2, v3], st, SH, σ)) ∧
  (∀ (v0 : Option Value) (v1 : Option Value) (v2 : Option Value) (v3 : Option Value) (st : List Value) (σ : ma_H), ma_rn ro d 51 (35, [v0, v1, v2, v3], st, SH, σ) = ma_rn ro d 51 (36, [v0, v1, v2, v3], .int (nI 0) :: st, SH, σ)) ∧
  (∀ (v0 : Option Value) (v1 : Option Value) (v2 : Option Value) (v3 : Option Value) (x1 : Int32) (σ : ma_H) (hx : ma_fitI .boolean x1 = true), ma_rn ro d 51 (36, [v0, v1, v2, v3], [.int x1], SH, σ) = some (some (.int x1), SH, σ)) ∧
  (∀ (v0 : Option Value) (v1 : Option Value) (v2 : Option Value) (a1 : Nat) (st : List Value) (σ : ma_H), ma_rn ro d 51 (37, [v0, v1, v2, some (.ref a1)], st, SH, σ) = ma_rn ro d 51 (38, [v0, v1, v2, some (.ref a1)], .ref a1 :: st, SH, σ)) ∧
  (∀ (v0 : Option Value) (v2 : Option Value) (v3 : Option Value) (x1 : Int32) (st : List Value) (σ : ma_H), ma_rn ro d 51 (38, [v0, some (.int x1), v2, v3], st, SH, σ) = ma_rn ro d 51 (39, [v0, some (.int x1), v2, v3], .int x1 :: st, SH, σ)) ∧
  (∀ (v0 : Option Value) (v1 : Option Value) (v3 : Option Value) (x1 : Int32) (st : List Value) (σ : ma_H), ma_rn ro d 51 (39, [v0, v1, some (.int x1), v3], st, SH, σ) = ma_rn ro d 51 (40, [v0, v1, some (.int x1), v3], .int x1 :: st, SH, σ)) ∧
  (∀ (v0 : Option Value) (v1 : Option Value) (v2 : Option Value) (v3 : Option Value) (x1 : Int32) (x2 : Int32) (a0 : Nat) (σ : ma_H) (hc : hk_cls a0 = 1), ma_rn ro (d + 1) 51 (40, [v0, v1, v2, v3], .int x2 :: .int x1 :: .ref a0 :: [], SH, σ) = (ma_ev ro d 7 [.ref a0, .int x1, .int x2] SH σ).bind (fun q => ma_rn ro (d + 1) 51 (43, [v0, v1, v2, v3], (q.1.toList ++ []), q.2.1, q.2.2))) ∧
  (∀ (v1 : Option Value) (v2 : Option Value) (v3 : Option Value) (a1 : Nat) (st : List Value) (σ : ma_H), ma_rn ro d 51 (43, [some (.ref a1), v1, v2, v3], st, SH, σ) = ma_rn ro d 51 (44, [some (.ref a1), v1, v2, v3], .ref a1 :: st, SH, σ)) ∧
  (∀ (v0 : Option Value) (v1 : Option Value) (v2 : Option Value) (v3 : Option Value) (a1 : Nat) (st : List Value) (σ : ma_H), ma_rn ro d 51 (44, [v0, v1, v2, v3], .ref a1 :: st, SH, σ) = ma_rn ro d 51 (45, [v0, v1, v2, v3], .ref a1 :: .ref a1 :: st, SH, σ)) ∧
  (∀ (v0 : Option Value) (v1 : Option Value) (v2 : Option Value) (v3 : Option Value) (a1 : Nat) (st : List Value) (σ : ma_H) (hc : hk_cls a1 = 6), ma_rn ro d 51 (45, [v0, v1, v2, v3], .ref a1 :: st, SH, σ) = ma_rn ro d 51 (48, [v0, v1, v2, v3], .int (σ a1 1) :: st, SH, σ)) ∧
  (∀ (v0 : Option Value) (v1 : Option Value) (v2 : Option Value) (v3 : Option Value) (st : List Value) (σ : ma_H), ma_rn ro d 51 (48, [v0, v1, v2, v3], st, SH, σ) = ma_rn ro d 51 (49, [v0, v1, v2, v3], .int (nI 1) :: st, SH, σ)) ∧
  (∀ (v0 : Option Value) (v1 : Option Value) (v2 : Option Value) (v3 : Option Value) (x1 : Int32) (x2 : Int32) (st : List Value) (σ : ma_H), ma_rn ro d 51 (49, [v0, v1, v2, v3], .int x1 :: .int x2 :: st, SH, σ) = ma_rn ro d 51 (50, [v0, v1, v2, v3], .int (x2 + x1) :: st, SH, σ)) ∧
  (∀ (v0 : Option Value) (v1 : Option Value) (v2 : Option Value) (v3 : Option Value) (x1 : Int32) (a2 : Nat) (st : List Value) (σ : ma_H) (hc : hk_cls a2 = 6), ma_rn ro d 51 (50, [v0, v1, v2, v3], .int x1 :: .ref a2 :: st, SH, σ) = ma_rn ro d 51 (53, [v0, v1, v2, v3], st, SH, (ma_up σ a2 1 x1))) ∧
  (∀ (v0 : Option Value) (v1 : Option Value) (v2 : Option Value) (v3 : Option Value) (st : List Value) (σ : ma_H), ma_rn ro d 51 (53, [v0, v1, v2, v3], st, SH, σ) = ma_rn ro d 51 (54, [v0, v1, v2, v3], .int (nI 1) :: st, SH, σ)) ∧
  (∀ (v0 : Option Value) (v1 : Option Value) (v2 : Option Value) (v3 : Option Value) (x1 : Int32) (σ : ma_H) (hx : ma_fitI .boolean x1 = true), ma_rn ro d 51 (54, [v0, v1, v2, v3], [.int x1], SH, σ) = some (some (.int x1), SH, σ)) := ⟨fun v1 v2 v3 a1 st σ => q_go e51_0 rfl rfl,
  fun v0 v1 v2 v3 a1 st σ hc => q_getI e51_1 o_51 f_6_24 (by decide) hc,
  fun v0 v1 v2 v3 x1 st σ => (q_if e51_4 rfl).trans q_lt,
  fun v1 v2 v3 a1 st σ => q_go e51_7 rfl rfl,
  fun v0 v1 v2 v3 a1 st σ hc => q_getI e51_8 o_51 f_6_24 (by decide) hc,
  fun v1 v2 v3 a1 st σ => q_go e51_11 rfl rfl,
  fun v0 v1 v2 v3 a1 st σ hc => q_getA e51_12 o_51 f_6_11 (by decide) hc,
  fun v0 v1 v2 v3 a1 st σ hn => q_alen e51_15 rfl hn,
  fun v0 v1 v2 v3 x1 x2 st σ => (q_cmp e51_16 rfl).trans q_lt,
  fun v0 v1 v2 v3 st σ => q_iconst e51_19 (by decide),
  fun v0 v1 v2 v3 x1 σ hx => q_zret e51_20 r_51 hx,
  fun v1 v2 v3 a1 st σ => q_go e51_21 rfl rfl,
  fun v0 v1 v2 v3 a1 st σ hc => q_getA e51_22 o_51 f_6_11 (by decide) hc,
  fun v1 v2 v3 a1 st σ => q_go e51_25 rfl rfl,
  fun v0 v1 v2 v3 a1 st σ hc => q_getI e51_26 o_51 f_6_24 (by decide) hc,
  fun v0 v1 v2 v3 k a2 st σ ho hk => q_aald e51_29 ho hk,
  fun v0 v1 v3 x9 a1 st σ => q_go e51_30 rfl rfl,
  fun v0 v1 v2 a1 st σ => q_go e51_31 rfl rfl,
  fun v0 v1 v2 v3 a1 st σ => q_ifnonnullR e51_32 rfl,
  fun v0 v1 v2 v3 st σ => q_ifnonnullN e51_32 rfl,
  fun v0 v1 v2 v3 st σ => q_iconst e51_35 (by decide),
  fun v0 v1 v2 v3 x1 σ hx => q_zret e51_36 r_51 hx,
  fun v0 v1 v2 a1 st σ => q_go e51_37 rfl rfl,
  fun v0 v2 v3 x1 st σ => q_go e51_38 rfl rfl,
  fun v0 v1 v3 x1 st σ => q_go e51_39 rfl rfl,
  fun v0 v1 v2 v3 x1 x2 a0 σ hc => q_invV (as := [.int x1, .int x2]) (rest := []) e51_40 o_51 bn_6_27 c_6_27 m_7 (by decide) rfl rfl (Nat.le_of_ble_eq_true rfl) (Nat.le_of_ble_eq_true rfl) hc,
  fun v1 v2 v3 a1 st σ => q_go e51_43 rfl rfl,
  fun v0 v1 v2 v3 a1 st σ => q_go e51_44 rfl rfl,
  fun v0 v1 v2 v3 a1 st σ hc => q_getI e51_45 o_51 f_6_24 (by decide) hc,
  fun v0 v1 v2 v3 st σ => q_iconst e51_48 (by decide),
  fun v0 v1 v2 v3 x1 x2 st σ => q_go e51_49 rfl rfl,
  fun v0 v1 v2 v3 x1 a2 st σ hc => q_putI e51_50 o_51 f_6_24 (by decide) rfl hc,
  fun v0 v1 v2 v3 st σ => q_iconst e51_53 (by decide),
  fun v0 v1 v2 v3 x1 σ hx => q_zret e51_54 r_51 hx⟩
theorem E51 {ro : ma_RO} {d : Nat} (a0 : Nat) (x1 : Int32) (x2 : Int32) (sh : List ma_Sh) (σ : ma_H) : ma_ev ro d 51 [.ref a0, .int x1, .int x2] sh σ = ma_rn ro d 51 (0, [some (.ref a0), some (.int x1), some (.int x2), none], [], sh, σ) := q_ent x_51 rfl
theorem e52_0 : decode (ma_cd 52) 0 = .ok (.aload_n 0, 1) := (congrArg (fun b => decode b 0) cd_52).trans dX6_copyFrom_0
theorem e52_1 : decode (ma_cd 52) 1 = .ok (.aload_n 1, 1) := (congrArg (fun b => decode b 1) cd_52).trans dX6_copyFrom_1
theorem e52_2 : decode (ma_cd 52) 2 = .ok (.getfield 24, 3) := (congrArg (fun b => decode b 2) cd_52).trans dX6_copyFrom_2
theorem e52_5 : decode (ma_cd 52) 5 = .ok (.putfield 24, 3) := (congrArg (fun b => decode b 5) cd_52).trans dX6_copyFrom_5
theorem e52_8 : decode (ma_cd 52) 8 = .ok (.aload_n 0, 1) := (congrArg (fun b => decode b 8) cd_52).trans dX6_copyFrom_8
theorem e52_9 : decode (ma_cd 52) 9 = .ok (.aload_n 1, 1) := (congrArg (fun b => decode b 9) cd_52).trans dX6_copyFrom_9
theorem e52_10 : decode (ma_cd 52) 10 = .ok (.getfield 20, 3) := (congrArg (fun b => decode b 10) cd_52).trans dX6_copyFrom_10
theorem e52_13 : decode (ma_cd 52) 13 = .ok (.putfield 20, 3) := (congrArg (fun b => decode b 13) cd_52).trans dX6_copyFrom_13
theorem e52_16 : decode (ma_cd 52) 16 = .ok (.aload_n 0, 1) := (congrArg (fun b => decode b 16) cd_52).trans dX6_copyFrom_16
theorem e52_17 : decode (ma_cd 52) 17 = .ok (.aload_n 1, 1) := (congrArg (fun b => decode b 17) cd_52).trans dX6_copyFrom_17
theorem e52_18 : decode (ma_cd 52) 18 = .ok (.getfield 31, 3) := (congrArg (fun b => decode b 18) cd_52).trans dX6_copyFrom_18
theorem e52_21 : decode (ma_cd 52) 21 = .ok (.putfield 31, 3) := (congrArg (fun b => decode b 21) cd_52).trans dX6_copyFrom_21
theorem e52_24 : decode (ma_cd 52) 24 = .ok (.aload_n 0, 1) := (congrArg (fun b => decode b 24) cd_52).trans dX6_copyFrom_24
theorem e52_25 : decode (ma_cd 52) 25 = .ok (.aload_n 1, 1) := (congrArg (fun b => decode b 25) cd_52).trans dX6_copyFrom_25
theorem e52_26 : decode (ma_cd 52) 26 = .ok (.getfield 34, 3) := (congrArg (fun b => decode b 26) cd_52).trans dX6_copyFrom_26
theorem e52_29 : decode (ma_cd 52) 29 = .ok (.putfield 34, 3) := (congrArg (fun b => decode b 29) cd_52).trans dX6_copyFrom_29
theorem e52_32 : decode (ma_cd 52) 32 = .ok (.iconst 0, 1) := (congrArg (fun b => decode b 32) cd_52).trans dX6_copyFrom_32
theorem e52_33 : decode (ma_cd 52) 33 = .ok (.istore_n 2, 1) := (congrArg (fun b => decode b 33) cd_52).trans dX6_copyFrom_33
theorem e52_34 : decode (ma_cd 52) 34 = .ok (.iload_n 2, 1) := (congrArg (fun b => decode b 34) cd_52).trans dX6_copyFrom_34
theorem e52_35 : decode (ma_cd 52) 35 = .ok (.aload_n 0, 1) := (congrArg (fun b => decode b 35) cd_52).trans dX6_copyFrom_35
theorem e52_36 : decode (ma_cd 52) 36 = .ok (.getfield 24, 3) := (congrArg (fun b => decode b 36) cd_52).trans dX6_copyFrom_36
theorem e52_39 : decode (ma_cd 52) 39 = .ok (.if_icmp .ge 37, 3) := (congrArg (fun b => decode b 39) cd_52).trans dX6_copyFrom_39
theorem e52_42 : decode (ma_cd 52) 42 = .ok (.aload_n 0, 1) := (congrArg (fun b => decode b 42) cd_52).trans dX6_copyFrom_42
theorem e52_43 : decode (ma_cd 52) 43 = .ok (.iload_n 2, 1) := (congrArg (fun b => decode b 43) cd_52).trans dX6_copyFrom_43
theorem e52_44 : decode (ma_cd 52) 44 = .ok (.invokevirtual 37, 3) := (congrArg (fun b => decode b 44) cd_52).trans dX6_copyFrom_44
theorem e52_47 : decode (ma_cd 52) 47 = .ok (.astore_n 3, 1) := (congrArg (fun b => decode b 47) cd_52).trans dX6_copyFrom_47
theorem e52_48 : decode (ma_cd 52) 48 = .ok (.aload_n 1, 1) := (congrArg (fun b => decode b 48) cd_52).trans dX6_copyFrom_48
theorem e52_49 : decode (ma_cd 52) 49 = .ok (.iload_n 2, 1) := (congrArg (fun b => decode b 49) cd_52).trans dX6_copyFrom_49
theorem e52_50 : decode (ma_cd 52) 50 = .ok (.invokevirtual 37, 3) := (congrArg (fun b => decode b 50) cd_52).trans dX6_copyFrom_50
theorem e52_53 : decode (ma_cd 52) 53 = .ok (.astore 4, 2) := (congrArg (fun b => decode b 53) cd_52).trans dX6_copyFrom_53
theorem e52_55 : decode (ma_cd 52) 55 = .ok (.aload_n 3, 1) := (congrArg (fun b => decode b 55) cd_52).trans dX6_copyFrom_55
theorem e52_56 : decode (ma_cd 52) 56 = .ok (.ifnull 14, 3) := (congrArg (fun b => decode b 56) cd_52).trans dX6_copyFrom_56
theorem e52_59 : decode (ma_cd 52) 59 = .ok (.aload 4, 2) := (congrArg (fun b => decode b 59) cd_52).trans dX6_copyFrom_59
theorem e52_61 : decode (ma_cd 52) 61 = .ok (.ifnull 9, 3) := (congrArg (fun b => decode b 61) cd_52).trans dX6_copyFrom_61
theorem e52_64 : decode (ma_cd 52) 64 = .ok (.aload_n 3, 1) := (congrArg (fun b => decode b 64) cd_52).trans dX6_copyFrom_64
theorem e52_65 : decode (ma_cd 52) 65 = .ok (.aload 4, 2) := (congrArg (fun b => decode b 65) cd_52).trans dX6_copyFrom_65
theorem e52_67 : decode (ma_cd 52) 67 = .ok (.invokevirtual 41, 3) := (congrArg (fun b => decode b 67) cd_52).trans dX6_copyFrom_67
theorem e52_70 : decode (ma_cd 52) 70 = .ok (.iinc 2 1, 3) := (congrArg (fun b => decode b 70) cd_52).trans dX6_copyFrom_70
theorem e52_73 : decode (ma_cd 52) 73 = .ok (.goto (-39), 3) := (congrArg (fun b => decode b 73) cd_52).trans dX6_copyFrom_73
theorem e52_76 : decode (ma_cd 52) 76 = .ok (.return_, 1) := (congrArg (fun b => decode b 76) cd_52).trans dX6_copyFrom_76
theorem Sh52_34 {ro : ma_RO} {d : Nat} : (∀ (v0 : Option Value) (v1 : Option Value) (v3 : Option Value) (v4 : Option Value) (x1 : Int32) (st : List Value) (σ : ma_H), ma_rn ro d 52 (34, [v0, v1, some (.int x1), v3, v4], st, SH, σ) = ma_rn ro d 52 (35, [v0, v1, some (.int x1), v3, v4], .int x1 :: st, SH, σ)) := fun v0 v1 v3 v4 x1 st σ => q_go e52_34 rfl rfl
theorem S52 {ro : ma_RO} {d : Nat} : (∀ (v1 : Option Value) (v2 : Option Value) (v3 : Option Value) (v4 : Option Value) (a1 : Nat) (st : List Value) (σ : ma_H), ma_rn ro d 52 (0, [some (.ref a1), v1, v2, v3, v4], st, SH, σ) = ma_rn ro d 52 (1, [some (.ref a1), v1, v2, v3, v4], .ref a1 :: st, SH, σ)) ∧
  (∀ (v0 : Option Value) (v2 : Option Value) (v3 : Option Value) (v4 : Option Value) (a1 : Nat) (st : List Value) (σ : ma_H), ma_rn ro d 52 (1, [v0, some (.ref a1), v2, v3, v4], st, SH, σ) = ma_rn ro d 52 (2, [v0, some (.ref a1), v2, v3, v4], .ref a1 :: st, SH, σ)) ∧
  (∀ (v0 : Option Value) (v1 : Option Value) (v2 : Option Value) (v3 : Option Value) (v4 : Option Value) (a1 : Nat) (st : List Value) (σ : ma_H) (hc : hk_cls a1 = 6), ma_rn ro d 52 (2, [v0, v1, v2, v3, v4], .ref a1 :: st, SH, σ) = ma_rn ro d 52 (5, [v0, v1, v2, v3, v4], .int (σ a1 1) :: st, SH, σ)) ∧
  (∀ (v0 : Option Value) (v1 : Option Value) (v2 : Option Value) (v3 : Option Value) (v4 : Option Value) (x1 : Int32) (a2 : Nat) (st : List Value) (σ : ma_H) (hc : hk_cls a2 = 6), ma_rn ro d 52 (5, [v0, v1, v2, v3, v4], .int x1 :: .ref a2 :: st, SH, σ) = ma_rn ro d 52 (8, [v0, v1, v2, v3, v4], st, SH, (ma_up σ a2 1 x1))) ∧
  (∀ (v1 : Option Value) (v2 : Option Value) (v3 : Option Value) (v4 : Option Value) (a1 : Nat) (st : List Value) (σ : ma_H), ma_rn ro d 52 (8, [some (.ref a1), v1, v2, v3, v4], st, SH, σ) = ma_rn ro d 52 (9, [some (.ref a1), v1, v2, v3, v4], .ref a1 :: st, SH, σ)) ∧
  (∀ (v0 : Option Value) (v2 : Option Value) (v3 : Option Value) (v4 : Option Value) (a1 : Nat) (st : List Value) (σ : ma_H), ma_rn ro d 52 (9, [v0, some (.ref a1), v2, v3, v4], st, SH, σ) = ma_rn ro d 52 (10, [v0, some (.ref a1), v2, v3, v4], .ref a1 :: st, SH, σ)) ∧
  (∀ (v0 : Option Value) (v1 : Option Value) (v2 : Option Value) (v3 : Option Value) (v4 : Option Value) (a1 : Nat) (st : List Value) (σ : ma_H) (hc : hk_cls a1 = 6), ma_rn ro d 52 (10, [v0, v1, v2, v3, v4], .ref a1 :: st, SH, σ) = ma_rn ro d 52 (13, [v0, v1, v2, v3, v4], .int (σ a1 2) :: st, SH, σ)) ∧
  (∀ (v0 : Option Value) (v1 : Option Value) (v2 : Option Value) (v3 : Option Value) (v4 : Option Value) (x1 : Int32) (a2 : Nat) (st : List Value) (σ : ma_H) (hc : hk_cls a2 = 6), ma_rn ro d 52 (13, [v0, v1, v2, v3, v4], .int x1 :: .ref a2 :: st, SH, σ) = ma_rn ro d 52 (16, [v0, v1, v2, v3, v4], st, SH, (ma_up σ a2 2 x1))) ∧
  (∀ (v1 : Option Value) (v2 : Option Value) (v3 : Option Value) (v4 : Option Value) (a1 : Nat) (st : List Value) (σ : ma_H), ma_rn ro d 52 (16, [some (.ref a1), v1, v2, v3, v4], st, SH, σ) = ma_rn ro d 52 (17, [some (.ref a1), v1, v2, v3, v4], .ref a1 :: st, SH, σ)) ∧
  (∀ (v0 : Option Value) (v2 : Option Value) (v3 : Option Value) (v4 : Option Value) (a1 : Nat) (st : List Value) (σ : ma_H), ma_rn ro d 52 (17, [v0, some (.ref a1), v2, v3, v4], st, SH, σ) = ma_rn ro d 52 (18, [v0, some (.ref a1), v2, v3, v4], .ref a1 :: st, SH, σ)) ∧
  (∀ (v0 : Option Value) (v1 : Option Value) (v2 : Option Value) (v3 : Option Value) (v4 : Option Value) (a1 : Nat) (st : List Value) (σ : ma_H) (hc : hk_cls a1 = 6), ma_rn ro d 52 (18, [v0, v1, v2, v3, v4], .ref a1 :: st, SH, σ) = ma_rn ro d 52 (21, [v0, v1, v2, v3, v4], .int (σ a1 3) :: st, SH, σ)) ∧
  (∀ (v0 : Option Value) (v1 : Option Value) (v2 : Option Value) (v3 : Option Value) (v4 : Option Value) (x1 : Int32) (a2 : Nat) (st : List Value) (σ : ma_H) (hc : hk_cls a2 = 6), ma_rn ro d 52 (21, [v0, v1, v2, v3, v4], .int x1 :: .ref a2 :: st, SH, σ) = ma_rn ro d 52 (24, [v0, v1, v2, v3, v4], st, SH, (ma_up σ a2 3 x1))) ∧
  (∀ (v1 : Option Value) (v2 : Option Value) (v3 : Option Value) (v4 : Option Value) (a1 : Nat) (st : List Value) (σ : ma_H), ma_rn ro d 52 (24, [some (.ref a1), v1, v2, v3, v4], st, SH, σ) = ma_rn ro d 52 (25, [some (.ref a1), v1, v2, v3, v4], .ref a1 :: st, SH, σ)) ∧
  (∀ (v0 : Option Value) (v2 : Option Value) (v3 : Option Value) (v4 : Option Value) (a1 : Nat) (st : List Value) (σ : ma_H), ma_rn ro d 52 (25, [v0, some (.ref a1), v2, v3, v4], st, SH, σ) = ma_rn ro d 52 (26, [v0, some (.ref a1), v2, v3, v4], .ref a1 :: st, SH, σ)) ∧
  (∀ (v0 : Option Value) (v1 : Option Value) (v2 : Option Value) (v3 : Option Value) (v4 : Option Value) (a1 : Nat) (st : List Value) (σ : ma_H) (hc : hk_cls a1 = 6), ma_rn ro d 52 (26, [v0, v1, v2, v3, v4], .ref a1 :: st, SH, σ) = ma_rn ro d 52 (29, [v0, v1, v2, v3, v4], .int (σ a1 4) :: st, SH, σ)) ∧
  (∀ (v0 : Option Value) (v1 : Option Value) (v2 : Option Value) (v3 : Option Value) (v4 : Option Value) (x1 : Int32) (a2 : Nat) (st : List Value) (σ : ma_H) (hc : hk_cls a2 = 6), ma_rn ro d 52 (29, [v0, v1, v2, v3, v4], .int x1 :: .ref a2 :: st, SH, σ) = ma_rn ro d 52 (32, [v0, v1, v2, v3, v4], st, SH, (ma_up σ a2 4 x1))) ∧
  (∀ (v0 : Option Value) (v1 : Option Value) (v2 : Option Value) (v3 : Option Value) (v4 : Option Value) (st : List Value) (σ : ma_H), ma_rn ro d 52 (32, [v0, v1, v2, v3, v4], st, SH, σ) = ma_rn ro d 52 (33, [v0, v1, v2, v3, v4], .int (nI 0) :: st, SH, σ)) ∧
  (∀ (v0 : Option Value) (v2 : Option Value) (v3 : Option Value) (v4 : Option Value) (a9 : Nat) (x1 : Int32) (st : List Value) (σ : ma_H), ma_rn ro d 52 (33, [v0, some (.ref a9), v2, v3, v4], .int x1 :: st, SH, σ) = ma_rn ro d 52 (34, [v0, some (.ref a9), some (.int x1), v3, v4], st, SH, σ)) ∧
  (∀ (v1 : Option Value) (v2 : Option Value) (v3 : Option Value) (v4 : Option Value) (a1 : Nat) (st : List Value) (σ : ma_H), ma_rn ro d 52 (35, [some (.ref a1), v1, v2, v3, v4], st, SH, σ) = ma_rn ro d 52 (36, [some (.ref a1), v1, v2, v3, v4], .ref a1 :: st, SH, σ)) ∧
  (∀ (v0 : Option Value) (v1 : Option Value) (v2 : Option Value) (v3 : Option Value) (v4 : Option Value) (a1 : Nat) (st : List Value) (σ : ma_H) (hc : hk_cls a1 = 6), ma_rn ro d 52 (36, [v0, v1, v2, v3, v4], .ref a1 :: st, SH, σ) = ma_rn ro d 52 (39, [v0, v1, v2, v3, v4], .int (σ a1 1) :: st, SH, σ)) ∧
  (∀ (v0 : Option Value) (v1 : Option Value) (v2 : Option Value) (v3 : Option Value) (v4 : Option Value) (x1 : Int32) (x2 : Int32) (st : List Value) (σ : ma_H), ma_rn ro d 52 (39, [v0, v1, v2, v3, v4], .int x1 :: .int x2 :: st, SH, σ) = if x2 < x1 then ma_rn ro d 52 (42, [v0, v1, v2, v3, v4], st, SH, σ) else ma_rn ro d 52 (76, [v0, v1, v2, v3, v4], st, SH, σ)) ∧
  (∀ (v1 : Option Value) (v2 : Option Value) (v3 : Option Value) (v4 : Option Value) (a1 : Nat) (st : List Value) (σ : ma_H), ma_rn ro d 52 (42, [some (.ref a1), v1, v2, v3, v4], st, SH, σ) = ma_rn ro d 52 (43, [some (.ref a1), v1, v2, v3, v4], .ref a1 :: st, SH, σ)) ∧
  (∀ (v0 : Option Value) (v1 : Option Value) (v3 : Option Value) (v4 : Option Value) (x1 : Int32) (st : List Value) (σ : ma_H), ma_rn ro d 52 (43, [v0, v1, some (.int x1), v3, v4], st, SH, σ) = ma_rn ro d 52 (44, [v0, v1, some (.int x1), v3, v4], .int x1 :: st, SH, σ)) ∧
  (∀ (v0 : Option Value) (v1 : Option Value) (v2 : Option Value) (v3 : Option Value) (v4 : Option Value) (x1 : Int32) (a0 : Nat) (σ : ma_H) (hc : hk_cls a0 = 6), ma_rn ro (d + 1) 52 (44, [v0, v1, v2, v3, v4], .int x1 :: .ref a0 :: [], SH, σ) = (ma_ev ro d 50 [.ref a0, .int x1] SH σ).bind (fun q => ma_rn ro (d + 1) 52 (47, [v0, v1, v2, v3, v4], (q.1.toList ++ []), q.2.1, q.2.2))) ∧
  (∀ (v0 : Option Value) (v1 : Option Value) (v3 : Option Value) (v4 : Option Value) (x9 : Int32) (a1 : Nat) (st : List Value) (σ : ma_H), ma_rn ro d 52 (47, [v0, v1, some (.int x9), v3, v4], .ref a1 :: st, SH, σ) = ma_rn ro d 52 (48, [v0, v1, some (.int x9), some (.ref a1), v4], st, SH, σ)) ∧
  (∀ (v0 : Option Value) (v1 : Option Value) (v3 : Option Value) (v4 : Option Value) (x9 : Int32) (st : List Value) (σ : ma_H), ma_rn ro d 52 (47, [v0, v1, some (.int x9), v3, v4], .null :: st, SH, σ) = ma_rn ro d 52 (48, [v0, v1, some (.int x9), some .null, v4], st, SH, σ)) ∧
  (∀ (v0 : Option Value) (v2 : Option Value) (v3 : Option Value) (v4 : Option Value) (a1 : Nat) (st : List Value) (σ : ma_H), ma_rn ro d 52 (48, [v0, some (.ref a1), v2, v3, v4], st, SH, σ) = ma_rn ro d 52 (49, [v0, some (.ref a1), v2, v3, v4], .ref a1 :: st, SH, σ)) ∧
  (∀ (v0 : Option Value) (v1 : Option Value) (v3 : Option Value) (v4 : Option Value) (x1 : Int32) (st : List Value) (σ : ma_H), ma_rn ro d 52 (49, [v0, v1, some (.int x1), v3, v4], st, SH, σ) = ma_rn ro d 52 (50, [v0, v1, some (.int x1), v3, v4], .int x1 :: st, SH, σ)) ∧
  (∀ (v0 : Option Value) (v1 : Option Value) (v2 : Option Value) (v3 : Option Value) (v4 : Option Value) (x1 : Int32) (a0 : Nat) (σ : ma_H) (hc : hk_cls a0 = 6), ma_rn ro (d + 1) 52 (50, [v0, v1, v2, v3, v4], .int x1 :: .ref a0 :: [], SH, σ) = (ma_ev ro d 50 [.ref a0, .int x1] SH σ).bind (fun q => ma_rn ro (d + 1) 52 (53, [v0, v1, v2, v3, v4], (q.1.toList ++ []), q.2.1, q.2.2))) ∧
  (∀ (v0 : Option Value) (v1 : Option Value) (v2 : Option Value) (v3 : Option Value) (v4 : Option Value) (a1 : Nat) (st : List Value) (σ : ma_H) (hb : ma_bef [v0, v1, v2, v3, v4] 4 = false), ma_rn ro d 52 (53, [v0, v1, v2, v3, v4], .ref a1 :: st, SH, σ) = ma_rn ro d 52 (55, [v0, v1, v2, v3, some (.ref a1)], st, SH, σ)) ∧
  (∀ (v0 : Option Value) (v1 : Option Value) (v2 : Option Value) (v3 : Option Value) (v4 : Option Value) (st : List Value) (σ : ma_H) (hb : ma_bef [v0, v1, v2, v3, v4] 4 = false), ma_rn ro d 52 (53, [v0, v1, v2, v3, v4], .null :: st, SH, σ) = ma_rn ro d 52 (55, [v0, v1, v2, v3, some .null], st, SH, σ)) ∧
  (∀ (v0 : Option Value) (v1 : Option Value) (v2 : Option Value) (v4 : Option Value) (a1 : Nat) (st : List Value) (σ : ma_H), ma_rn ro d 52 (55, [v0, v1, v2, some (.ref a1), v4], st, SH, σ) = ma_rn ro d 52 (56, [v0, v1, v2, some (.ref a1), v4], .ref a1 :: st, SH, σ)) ∧
  (∀ (v0 : Option Value) (v1 : Option Value) (v2 : Option Value) (v4 : Option Value) (st : List Value) (σ : ma_H), ma_rn ro d 52 (55, [v0, v1, v2, some .null, v4], st, SH, σ) = ma_rn ro d 52 (56, [v0, v1, v2, some .null, v4], .null :: st, SH, σ)) ∧
  (∀ (v0 : Option Value) (v1 : Option Value) (v2 : Option Value) (v3 : Option Value) (v4 : Option Value) (a1 : Nat) (st : List Value) (σ : ma_H), ma_rn ro d 52 (56, [v0, v1, v2, v3, v4], .ref a1 :: st, SH, σ) = ma_rn ro d 52 (59, [v0, v1, v2, v3, v4], st, SH, σ)) ∧
  (∀ (v0 : Option Value) (v1 : Option Value) (v2 : Option Value) (v3 : Option Value) (v4 : Option Value) (st : List Value) (σ : ma_H), ma_rn ro d 52 (56, [v0, v1, v2, v3, v4], .null :: st, SH, σ) = ma_rn ro d 52 (70, [v0, v1, v2, v3, v4], st, SH, σ)) ∧
  (∀ (v0 : Option Value) (v1 : Option Value) (v2 : Option Value) (v3 : Option Value) (a1 : Nat) (st : List Value) (σ : ma_H), ma_rn ro d 52 (59, [v0, v1, v2, v3, some (.ref a1)], st, SH, σ) = ma_rn ro d 52 (61, [v0, v1, v2, v3, some (.ref a1)], .ref a1 :: st, SH, σ)) ∧
  (∀ (v0 : Option Value) (v1 : Option Value) (v2 : Option Value) (v3 : Option Value) (st : List Value) (σ : ma_H), ma_rn ro d 52 (59, [v0, v1, v2, v3, some .null], st, SH, σ) = ma_rn ro d 52 (61, [v0, v1, v2, v3, some .null], .null :: st, SH, σ)) ∧
  (∀ (v0 : Option Value) (v1 : Option Value) (v2 : Option Value) (v3 : Option Value) (v4 : Option Value) (a1 : Nat) (st : List Value) (σ : ma_H), ma_rn ro d 52 (61, [v0, v1, v2, v3, v4], .ref a1 :: st, SH, σ) = ma_rn ro d 52 (64, [v0, v1, v2, v3, v4], st, SH, σ)) ∧
  (∀ (v0 : Option Value) (v1 : Option Value) (v2 : Option Value) (v3 : Option Value) (v4 : Option Value) (st : List Value) (σ : ma_H), ma_rn ro d 52 (61, [v0, v1, v2, v3, v4], .null :: st, SH, σ) = ma_rn ro d 52 (70, [v0, v1, v2, v3, v4], st, SH, σ)) ∧
  (∀ (v0 : Option Value) (v1 : Option Value) (v2 : Option Value) (v4 : Option Value) (a1 : Nat) (st : List Value) (σ : ma_H), ma_rn ro d 52 (64, [v0, v1, v2, some (.ref a1), v4], st, SH, σ) = ma_rn ro d 52 (65, [v0, v1, v2, some (.ref a1), v4], .ref a1 :: st, SH, σ)) ∧
  (∀ (v0 : Option Value) (v1 : Option Value) (v2 : Option Value) (v4 : Option Value) (st : List Value) (σ : ma_H), ma_rn ro d 52 (64, [v0, v1, v2, some .null, v4], st, SH, σ) = ma_rn ro d 52 (65, [v0, v1, v2, some .null, v4], .null :: st, SH, σ)) ∧
  (∀ (v0 : Option Value) (v1 : Option Value) (v2 : Option Value) (v3 : Option Value) (a1 : Nat) (st : List Value) (σ : ma_H), ma_rn ro d 52 (65, [v0, v1, v2, v3, some (.ref a1)], st, SH, σ) = ma_rn ro d 52 (67, [v0, v1, v2, v3, some (.ref a1)], .ref a1 :: st, SH, σ)) ∧
  (∀ (v0 : Option Value) (v1 : Option Value) (v2 : Option Value) (v3 : Option Value) (st : List Value) (σ : ma_H), ma_rn ro d 52 (65, [v0, v1, v2, v3, some .null], st, SH, σ) = ma_rn ro d 52 (67, [v0, v1, v2, v3, some .null], .null :: st, SH, σ)) ∧
  (∀ (v0 : Option Value) (v1 : Option Value) (v2 : Option Value) (v3 : Option Value) (v4 : Option Value) (a1 : Nat) (a0 : Nat) (σ : ma_H) (hc : hk_cls a0 = 1), ma_rn ro (d + 1) 52 (67, [v0, v1, v2, v3, v4], .ref a1 :: .ref a0 :: [], SH, σ) = (ma_ev ro d 8 [.ref a0, .ref a1] SH σ).bind (fun q => ma_rn ro (d + 1) 52 (70, [v0, v1, v2, v3, v4], (q.1.toList ++ []), q.2.1, q.2.2))) ∧
  (∀ (v0 : Option Value) (v3 : Option Value) (v4 : Option Value) (x1 : Int32) (a9 : Nat) (st : List Value) (σ : ma_H), ma_rn ro d 52 (70, [v0, some (.ref a9), some (.int x1), v3, v4], st, SH, σ) = ma_rn ro d 52 (73, [v0, some (.ref a9), some (.int (x1 + nI 1)), v3, v4], st, SH, σ)) ∧
  (∀ (v0 : Option Value) (v1 : Option Value) (v2 : Option Value) (v3 : Option Value) (v4 : Option Value) (st : List Value) (σ : ma_H), ma_rn ro d 52 (73, [v0, v1, v2, v3, v4], st, SH, σ) = ma_rn ro d 52 (34, [v0, v1, v2, v3, v4], st, SH, σ)) ∧
  (∀ (v0 : Option Value) (v1 : Option Value) (v2 : Option Value) (v3 : Option Value) (v4 : Option Value) (σ : ma_H), ma_rn ro d 52 (76, [v0, v1, v2, v3, v4], [], SH, σ) = some (none, SH, σ)) := ⟨fun v1 v2 v3 v4 a1 st σ => q_go e52_0 rfl rfl,
  fun v0 v2 v3 v4 a1 st σ => q_go e52_1 rfl rfl,
  fun v0 v1 v2 v3 v4 a1 st σ hc => q_getI e52_2 o_52 f_6_24 (by decide) hc,
  fun v0 v1 v2 v3 v4 x1 a2 st σ hc => q_putI e52_5 o_52 f_6_24 (by decide) rfl hc,
  fun v1 v2 v3 v4 a1 st σ => q_go e52_8 rfl rfl,
  fun v0 v2 v3 v4 a1 st σ => q_go e52_9 rfl rfl,
  fun v0 v1 v2 v3 v4 a1 st σ hc => q_getI e52_10 o_52 f_6_20 (by decide) hc,
  fun v0 v1 v2 v3 v4 x1 a2 st σ hc => q_putI e52_13 o_52 f_6_20 (by decide) rfl hc,
  fun v1 v2 v3 v4 a1 st σ => q_go e52_16 rfl rfl,
  fun v0 v2 v3 v4 a1 st σ => q_go e52_17 rfl rfl,
  fun v0 v1 v2 v3 v4 a1 st σ hc => q_getI e52_18 o_52 f_6_31 (by decide) hc,
  fun v0 v1 v2 v3 v4 x1 a2 st σ hc => q_putI e52_21 o_52 f_6_31 (by decide) rfl hc,
  fun v1 v2 v3 v4 a1 st σ => q_go e52_24 rfl rfl,
  fun v0 v2 v3 v4 a1 st σ => q_go e52_25 rfl rfl,
  fun v0 v1 v2 v3 v4 a1 st σ hc => q_getI e52_26 o_52 f_6_34 (by decide) hc,
  fun v0 v1 v2 v3 v4 x1 a2 st σ hc => q_putI e52_29 o_52 f_6_34 (by decide) rfl hc,
  fun v0 v1 v2 v3 v4 st σ => q_iconst e52_32 (by decide),
  fun v0 v2 v3 v4 a9 x1 st σ => q_go e52_33 rfl rfl,
  fun v1 v2 v3 v4 a1 st σ => q_go e52_35 rfl rfl,
  fun v0 v1 v2 v3 v4 a1 st σ hc => q_getI e52_36 o_52 f_6_24 (by decide) hc,
  fun v0 v1 v2 v3 v4 x1 x2 st σ => (q_cmp e52_39 rfl).trans q_nlt,
  fun v1 v2 v3 v4 a1 st σ => q_go e52_42 rfl rfl,
  fun v0 v1 v3 v4 x1 st σ => q_go e52_43 rfl rfl,
  fun v0 v1 v2 v3 v4 x1 a0 σ hc => q_invV (as := [.int x1]) (rest := []) e52_44 o_52 bn_6_37 c_6_37 m_50 (by decide) rfl rfl (Nat.le_of_ble_eq_true rfl) (Nat.le_of_ble_eq_true rfl) hc,
  fun v0 v1 v3 v4 x9 a1 st σ => q_go e52_47 rfl rfl,
  fun v0 v1 v3 v4 x9 st σ => q_go e52_47 rfl rfl,
  fun v0 v2 v3 v4 a1 st σ => q_go e52_48 rfl rfl,
  fun v0 v1 v3 v4 x1 st σ => q_go e52_49 rfl rfl,
  fun v0 v1 v2 v3 v4 x1 a0 σ hc => q_invV (as := [.int x1]) (rest := []) e52_50 o_52 bn_6_37 c_6_37 m_50 (by decide) rfl rfl (Nat.le_of_ble_eq_true rfl) (Nat.le_of_ble_eq_true rfl) hc,
  fun v0 v1 v2 v3 v4 a1 st σ hb => q_go e52_53 rfl (q_s1 hb rfl (Nat.le_of_ble_eq_true rfl)),
  fun v0 v1 v2 v3 v4 st σ hb => q_go e52_53 rfl (q_s1 hb rfl (Nat.le_of_ble_eq_true rfl)),
  fun v0 v1 v2 v4 a1 st σ => q_go e52_55 rfl rfl,
  fun v0 v1 v2 v4 st σ => q_go e52_55 rfl rfl,
  fun v0 v1 v2 v3 v4 a1 st σ => q_ifnullR e52_56 rfl,
  fun v0 v1 v2 v3 v4 st σ => q_ifnullN e52_56 rfl,
  fun v0 v1 v2 v3 a1 st σ => q_go e52_59 rfl rfl,
  fun v0 v1 v2 v3 st σ => q_go e52_59 rfl rfl,
  fun v0 v1 v2 v3 v4 a1 st σ => q_ifnullR e52_61 rfl,
  fun v0 v1 v2 v3 v4 st σ => q_ifnullN e52_61 rfl,
  fun v0 v1 v2 v4 a1 st σ => q_go e52_64 rfl rfl,
  fun v0 v1 v2 v4 st σ => q_go e52_64 rfl rfl,
  fun v0 v1 v2 v3 a1 st σ => q_go e52_65 rfl rfl,
  fun v0 v1 v2 v3 st σ => q_go e52_65 rfl rfl,
  fun v0 v1 v2 v3 v4 a1 a0 σ hc => q_invV (as := [.ref a1]) (rest := []) e52_67 o_52 bn_6_41 c_6_41 m_8 (by decide) rfl rfl (Nat.le_of_ble_eq_true rfl) (Nat.le_of_ble_eq_true rfl) hc,
  fun v0 v3 v4 x1 a9 st σ => q_iinc e52_70 rfl rfl (by decide),
  fun v0 v1 v2 v3 v4 st σ => q_goto e52_73 rfl,
  fun v0 v1 v2 v3 v4 σ => q_vret e52_76 r_52⟩
theorem E52 {ro : ma_RO} {d : Nat} (a0 : Nat) (a1 : Nat) (sh : List ma_Sh) (σ : ma_H) : ma_ev ro d 52 [.ref a0, .ref a1] sh σ = ma_rn ro d 52 (0, [some (.ref a0), some (.ref a1), none, none, none], [], sh, σ) := q_ent x_52 rfl
theorem e53_0 : decode (ma_cd 53) 0 = .ok (.iconst 0, 1) := (congrArg (fun b => decode b 0) cd_53).trans dX6_goMornings_0
theorem e53_1 : decode (ma_cd 53) 1 = .ok (.istore_n 3, 1) := (congrArg (fun b => decode b 1) cd_53).trans dX6_goMornings_1
theorem e53_2 : decode (ma_cd 53) 2 = .ok (.iload_n 3, 1) := (congrArg (fun b => decode b 2) cd_53).trans dX6_goMornings_2
theorem e53_3 : decode (ma_cd 53) 3 = .ok (.iload_n 1, 1) := (congrArg (fun b => decode b 3) cd_53).trans dX6_goMornings_3
theorem e53_4 : decode (ma_cd 53) 4 = .ok (.if_icmp .ge 14, 3) := (congrArg (fun b => decode b 4) cd_53).trans dX6_goMornings_4
theorem e53_7 : decode (ma_cd 53) 7 = .ok (.aload_n 0, 1) := (congrArg (fun b => decode b 7) cd_53).trans dX6_goMornings_7
theorem e53_8 : decode (ma_cd 53) 8 = .ok (.aload_n 2, 1) := (congrArg (fun b => decode b 8) cd_53).trans dX6_goMornings_8
theorem e53_9 : decode (ma_cd 53) 9 = .ok (.invokevirtual 45, 3) := (congrArg (fun b => decode b 9) cd_53).trans dX6_goMornings_9
theorem e53_12 : decode (ma_cd 53) 12 = .ok (.iinc 3 1, 3) := (congrArg (fun b => decode b 12) cd_53).trans dX6_goMornings_12
theorem e53_15 : decode (ma_cd 53) 15 = .ok (.goto (-13), 3) := (congrArg (fun b => decode b 15) cd_53).trans dX6_goMornings_15
theorem e53_18 : decode (ma_cd 53) 18 = .ok (.return_, 1) := (congrArg (fun b => decode b 18) cd_53).trans dX6_goMornings_18
theorem Sh53_2 {ro : ma_RO} {d : Nat} : (∀ (v0 : Option Value) (v1 : Option Value) (v2 : Option Value) (x1 : Int32) (st : List Value) (σ : ma_H), ma_rn ro d 53 (2, [v0, v1, v2, some (.int x1)], st, SH, σ) = ma_rn ro d 53 (3, [v0, v1, v2, some (.int x1)], .int x1 :: st, SH, σ)) := fun v0 v1 v2 x1 st σ => q_go e53_2 rfl rfl
theorem S53 {ro : ma_RO} {d : Nat} : (∀ (v0 : Option Value) (v1 : Option Value) (v2 : Option Value) (v3 : Option Value) (st : List Value) (σ : ma_H), ma_rn ro d 53 (0, [v0, v1, v2, v3], st, SH, σ) = ma_rn ro d 53 (1, [v0, v1, v2, v3], .int (nI 0) :: st, SH, σ)) ∧
  (∀ (v0 : Option Value) (v1 : Option Value) (v3 : Option Value) (a9 : Nat) (x1 : Int32) (st : List Value) (σ : ma_H), ma_rn ro d 53 (1, [v0, v1, some (.ref a9), v3], .int x1 :: st, SH, σ) = ma_rn ro d 53 (2, [v0, v1, some (.ref a9), some (.int x1)], st, SH, σ)) ∧
  (∀ (v0 : Option Value) (v2 : Option Value) (v3 : Option Value) (x1 : Int32) (st : List Value) (σ : ma_H), ma_rn ro d 53 (3, [v0, some (.int x1), v2, v3], st, SH, σ) = ma_rn ro d 53 (4, [v0, some (.int x1), v2, v3], .int x1 :: st, SH, σ)) ∧
  (∀ (v0 : Option Value) (v1 : Option Value) (v2 : Option Value) (v3 : Option Value) (x1 : Int32) (x2 : Int32) (st : List Value) (σ : ma_H), ma_rn ro d 53 (4, [v0, v1, v2, v3], .int x1 :: .int x2 :: st, SH, σ) = if x2 < x1 then ma_rn ro d 53 (7, [v0, v1, v2, v3], st, SH, σ) else ma_rn ro d 53 (18, [v0, v1, v2, v3], st, SH, σ)) ∧
  (∀ (v1 : Option Value) (v2 : Option Value) (v3 : Option Value) (a1 : Nat) (st : List Value) (σ : ma_H), ma_rn ro d 53 (7, [some (.ref a1), v1, v2, v3], st, SH, σ) = ma_rn ro d 53 (8, [some (.ref a1), v1, v2, v3], .ref a1 :: st, SH, σ)) ∧
  (∀ (v0 : Option Value) (v1 : Option Value) (v3 : Option Value) (a1 : Nat) (st : List Value) (σ : ma_H), ma_rn ro d 53 (8, [v0, v1, some (.ref a1), v3], st, SH, σ) = ma_rn ro d 53 (9, [v0, v1, some (.ref a1), v3], .ref a1 :: st, SH, σ)) ∧
  (∀ (v0 : Option Value) (v1 : Option Value) (v2 : Option Value) (v3 : Option Value) (a1 : Nat) (a0 : Nat) (σ : ma_H) (hc : hk_cls a0 = 6), ma_rn ro (d + 1) 53 (9, [v0, v1, v2, v3], .ref a1 :: .ref a0 :: [], SH, σ) = (ma_ev ro d 54 [.ref a0, .ref a1] SH σ).bind (fun q => ma_rn ro (d + 1) 53 (12, [v0, v1, v2, v3], (q.1.toList ++ []), q.2.1, q.2.2))) ∧
  (∀ (v0 : Option Value) (v1 : Option Value) (x1 : Int32) (a9 : Nat) (st : List Value) (σ : ma_H), ma_rn ro d 53 (12, [v0, v1, some (.ref a9), some (.int x1)], st, SH, σ) = ma_rn ro d 53 (15, [v0, v1, some (.ref a9), some (.int (x1 + nI 1))], st, SH, σ)) ∧
  (∀ (v0 : Option Value) (v1 : Option Value) (v2 : Option Value) (v3 : Option Value) (st : List Value) (σ : ma_H), ma_rn ro d 53 (15, [v0, v1, v2, v3], st, SH, σ) = ma_rn ro d 53 (2, [v0, v1, v2, v3], st, SH, σ)) ∧
  (∀ (v0 : Option Value) (v1 : Option Value) (v2 : Option Value) (v3 : Option Value) (σ : ma_H), ma_rn ro d 53 (18, [v0, v1, v2, v3], [], SH, σ) = some (none, SH, σ)) := ⟨fun v0 v1 v2 v3 st σ => q_iconst e53_0 (by decide),
  fun v0 v1 v3 a9 x1 st σ => q_go e53_1 rfl rfl,
  fun v0 v2 v3 x1 st σ => q_go e53_3 rfl rfl,
  fun v0 v1 v2 v3 x1 x2 st σ => (q_cmp e53_4 rfl).trans q_nlt,
  fun v1 v2 v3 a1 st σ => q_go e53_7 rfl rfl,
  fun v0 v1 v3 a1 st σ => q_go e53_8 rfl rfl,
  fun v0 v1 v2 v3 a1 a0 σ hc => q_invV (as := [.ref a1]) (rest := []) e53_9 o_53 bn_6_45 c_6_45 m_54 (by decide) rfl rfl (Nat.le_of_ble_eq_true rfl) (Nat.le_of_ble_eq_true rfl) hc,
  fun v0 v1 x1 a9 st σ => q_iinc e53_12 rfl rfl (by decide),
  fun v0 v1 v2 v3 st σ => q_goto e53_15 rfl,
  fun v0 v1 v2 v3 σ => q_vret e53_18 r_53⟩
theorem E53 {ro : ma_RO} {d : Nat} (a0 : Nat) (x1 : Int32) (a2 : Nat) (sh : List ma_Sh) (σ : ma_H) : ma_ev ro d 53 [.ref a0, .int x1, .ref a2] sh σ = ma_rn ro d 53 (0, [some (.ref a0), some (.int x1), some (.ref a2), none], [], sh, σ) := q_ent x_53 rfl
theorem e54_0 : decode (ma_cd 54) 0 = .ok (.iconst 0, 1) := (congrArg (fun b => decode b 0) cd_54).trans dX6_goMorning_0
theorem e54_1 : decode (ma_cd 54) 1 = .ok (.istore_n 2, 1) := (congrArg (fun b => decode b 1) cd_54).trans dX6_goMorning_1
theorem e54_2 : decode (ma_cd 54) 2 = .ok (.iload_n 2, 1) := (congrArg (fun b => decode b 2) cd_54).trans dX6_goMorning_2
theorem e54_3 : decode (ma_cd 54) 3 = .ok (.aload_n 0, 1) := (congrArg (fun b => decode b 3) cd_54).trans dX6_goMorning_3
theorem e54_4 : decode (ma_cd 54) 4 = .ok (.getfield 24, 3) := (congrArg (fun b => decode b 4) cd_54).trans dX6_goMorning_4
theorem e54_7 : decode (ma_cd 54) 7 = .ok (.if_icmp .ge 61, 3) := (congrArg (fun b => decode b 7) cd_54).trans dX6_goMorning_7
theorem e54_10 : decode (ma_cd 54) 10 = .ok (.aload_n 0, 1) := (congrArg (fun b => decode b 10) cd_54).trans dX6_goMorning_10
theorem e54_11 : decode (ma_cd 54) 11 = .ok (.iload_n 2, 1) := (congrArg (fun b => decode b 11) cd_54).trans dX6_goMorning_11
theorem e54_12 : decode (ma_cd 54) 12 = .ok (.invokevirtual 37, 3) := (congrArg (fun b => decode b 12) cd_54).trans dX6_goMorning_12
theorem e54_15 : decode (ma_cd 54) 15 = .ok (.astore_n 3, 1) := (congrArg (fun b => decode b 15) cd_54).trans dX6_goMorning_15
theorem e54_16 : decode (ma_cd 54) 16 = .ok (.aload_n 3, 1) := (congrArg (fun b => decode b 16) cd_54).trans dX6_goMorning_16
theorem e54_17 : decode (ma_cd 54) 17 = .ok (.ifnonnull 6, 3) := (congrArg (fun b => decode b 17) cd_54).trans dX6_goMorning_17
theorem e54_20 : decode (ma_cd 54) 20 = .ok (.goto 42, 3) := (congrArg (fun b => decode b 20) cd_54).trans dX6_goMorning_20
theorem e54_23 : decode (ma_cd 54) 23 = .ok (.aload_n 3, 1) := (congrArg (fun b => decode b 23) cd_54).trans dX6_goMorning_23
theorem e54_24 : decode (ma_cd 54) 24 = .ok (.aload_n 3, 1) := (congrArg (fun b => decode b 24) cd_54).trans dX6_goMorning_24
theorem e54_25 : decode (ma_cd 54) 25 = .ok (.aload_n 1, 1) := (congrArg (fun b => decode b 25) cd_54).trans dX6_goMorning_25
theorem e54_26 : decode (ma_cd 54) 26 = .ok (.aload_n 0, 1) := (congrArg (fun b => decode b 26) cd_54).trans dX6_goMorning_26
theorem e54_27 : decode (ma_cd 54) 27 = .ok (.getfield 31, 3) := (congrArg (fun b => decode b 27) cd_54).trans dX6_goMorning_27
theorem e54_30 : decode (ma_cd 54) 30 = .ok (.invokevirtual 49, 3) := (congrArg (fun b => decode b 30) cd_54).trans dX6_goMorning_30
theorem e54_33 : decode (ma_cd 54) 33 = .ok (.aload_n 0, 1) := (congrArg (fun b => decode b 33) cd_54).trans dX6_goMorning_33
theorem e54_34 : decode (ma_cd 54) 34 = .ok (.getfield 20, 3) := (congrArg (fun b => decode b 34) cd_54).trans dX6_goMorning_34
theorem e54_37 : decode (ma_cd 54) 37 = .ok (.invokevirtual 53, 3) := (congrArg (fun b => decode b 37) cd_54).trans dX6_goMorning_37
theorem e54_40 : decode (ma_cd 54) 40 = .ok (.aload_n 3, 1) := (congrArg (fun b => decode b 40) cd_54).trans dX6_goMorning_40
theorem e54_41 : decode (ma_cd 54) 41 = .ok (.getfield 55, 3) := (congrArg (fun b => decode b 41) cd_54).trans dX6_goMorning_41
theorem e54_44 : decode (ma_cd 54) 44 = .ok (.ifCond .eq 18, 3) := (congrArg (fun b => decode b 44) cd_54).trans dX6_goMorning_44
theorem e54_47 : decode (ma_cd 54) 47 = .ok (.aload_n 0, 1) := (congrArg (fun b => decode b 47) cd_54).trans dX6_goMorning_47
theorem e54_48 : decode (ma_cd 54) 48 = .ok (.dup, 1) := (congrArg (fun b => decode b 48) cd_54).trans dX6_goMorning_48
theorem e54_49 : decode (ma_cd 54) 49 = .ok (.getfield 34, 3) := (congrArg (fun b => decode b 49) cd_54).trans dX6_goMorning_49
theorem e54_52 : decode (ma_cd 54) 52 = .ok (.aload_n 3, 1) := (congrArg (fun b => decode b 52) cd_54).trans dX6_goMorning_52
theorem e54_53 : decode (ma_cd 54) 53 = .ok (.getfield 59, 3) := (congrArg (fun b => decode b 53) cd_54).trans dX6_goMorning_53
theorem e54_56 : decode (ma_cd 54) 56 = .ok (.iconst 1, 1) := (congrArg (fun b => decode b 56) cd_54).trans dX6_goMorning_56
theorem e54_57 : decode (ma_cd 54) 57 = .ok (.iadd, 1) := (congrArg (fun b => decode b 57) cd_54).trans dX6_goMorning_57
theorem e54_58 : decode (ma_cd 54) 58 = .ok (.iadd, 1) := (congrArg (fun b => decode b 58) cd_54).trans dX6_goMorning_58
theorem e54_59 : decode (ma_cd 54) 59 = .ok (.putfield 34, 3) := (congrArg (fun b => decode b 59) cd_54).trans dX6_goMorning_59
theorem e54_62 : decode (ma_cd 54) 62 = .ok (.iinc 2 1, 3) := (congrArg (fun b => decode b 62) cd_54).trans dX6_goMorning_62
theorem e54_65 : decode (ma_cd 54) 65 = .ok (.goto (-63), 3) := (congrArg (fun b => decode b 65) cd_54).trans dX6_goMorning_65
theorem e54_68 : decode (ma_cd 54) 68 = .ok (.aload_n 0, 1) := (congrArg (fun b => decode b 68) cd_54).trans dX6_goMorning_68
theorem e54_69 : decode (ma_cd 54) 69 = .ok (.dup, 1) := (congrArg (fun b => decode b 69) cd_54).trans dX6_goMorning_69
theorem e54_70 : decode (ma_cd 54) 70 = .ok (.getfield 31, 3) := (congrArg (fun b => decode b 70) cd_54).trans dX6_goMorning_70
theorem e54_73 : decode (ma_cd 54) 73 = .ok (.iconst 1, 1) := (congrArg (fun b => decode b 73) cd_54).trans dX6_goMorning_73
theorem e54_74 : decode (ma_cd 54) 74 = .ok (.iadd, 1) := (congrArg (fun b => decode b 74) cd_54).trans dX6_goMorning_74
theorem e54_75 : decode (ma_cd 54) 75 = .ok (.putfield 31, 3) := (congrArg (fun b => decode b 75) cd_54).trans dX6_goMorning_75
theorem e54_78 : decode (ma_cd 54) 78 = .ok (.return_, 1) := (congrArg (fun b => decode b 78) cd_54).trans dX6_goMorning_78
theorem Sh54_2 {ro : ma_RO} {d : Nat} : (∀ (v0 : Option Value) (v1 : Option Value) (v3 : Option Value) (x1 : Int32) (st : List Value) (σ : ma_H), ma_rn ro d 54 (2, [v0, v1, some (.int x1), v3], st, SH, σ) = ma_rn ro d 54 (3, [v0, v1, some (.int x1), v3], .int x1 :: st, SH, σ)) := fun v0 v1 v3 x1 st σ => q_go e54_2 rfl rfl
theorem S54 {ro : ma_RO} {d : Nat} : (∀ (v0 : Option Value) (v1 : Option Value) (v2 : Option Value) (v3 : Option Value) (st : List Value) (σ : ma_H), ma_rn ro d 54 (0, [v0, v1, v2, v3], st, SH, σ) = ma_rn ro d 54 (1, [v0, v1, v2, v3], .int (nI 0) :: st, SH, σ)) ∧
  (∀ (v0 : Option Value) (v2 : Option Value) (v3 : Option Value) (a9 : Nat) (x1 : Int32) (st : List Value) (σ : ma_H), ma_rn ro d 54 (1, [v0, some (.ref a9), v2, v3], .int x1 :: st, SH, σ) = ma_rn ro d 54 (2, [v0, some (.ref a9), some (.int x1), v3], st, SH, σ)) ∧
  (∀ (v1 : Option Value) (v2 : Option Value) (v3 : Option Value) (a1 : Nat) (st : List Value) (σ : ma_H), ma_rn ro d 54 (3, [some (.ref a1), v1, v2, v3], st, SH, σ) = ma_rn ro d 54 (4, [some (.ref a1), v1, v2, v3], .ref a1 :: st, SH, σ)) ∧
  (∀ (v0 : Option Value) (v1 : Option Value) (v2 : Option Value) (v3 : Option Value) (a1 : Nat) (st : List Value) (σ : ma_H) (hc : hk_cls a1 = 6), ma_rn ro d 54 (4, [v0, v1, v2, v3], .ref a1 :: st, SH, σ) = ma_rn ro d 54 (7, [v0, v1, v2, v3], .int (σ a1 1) :: st, SH, σ)) ∧
  (∀ (v0 : Option Value) (v1 : Option Value) (v2 : Option Value) (v3 : Option Value) (x1 : Int32) (x2 : Int32) (st : List Value) (σ : ma_H), ma_rn ro d 54 (7, [v0, v1, v2, v3], .int x1 :: .int x2 :: st, SH, σ) = if x2 < x1 then ma_rn ro d 54 (10, [v0, v1, v2, v3], st, SH, σ) else ma_rn ro d 54 (68, [v0, v1, v2, v3], st, SH, σ)) ∧
  (∀ (v1 : Option Value) (v2 : Option Value) (v3 : Option Value) (a1 : Nat) (st : List Value) (σ : ma_H), ma_rn ro d 54 (10, [some (.ref a1), v1, v2, v3], st, SH, σ) = ma_rn ro d 54 (11, [some (.ref a1), v1, v2, v3], .ref a1 :: st, SH, σ)) ∧
  (∀ (v0 : Option Value) (v1 : Option Value) (v3 : Option Value) (x1 : Int32) (st : List Value) (σ : ma_H), ma_rn ro d 54 (11, [v0, v1, some (.int x1), v3], st, SH, σ) = ma_rn ro d 54 (12, [v0, v1, some (.int x1), v3], .int x1 :: st, SH, σ)) ∧
  (∀ (v0 : Option Value) (v1 : Option Value) (v2 : Option Value) (v3 : Option Value) (x1 : Int32) (a0 : Nat) (σ : ma_H) (hc : hk_cls a0 = 6), ma_rn ro (d + 1) 54 (12, [v0, v1, v2, v3], .int x1 :: .ref a0 :: [], SH, σ) = (ma_ev ro d 50 [.ref a0, .int x1] SH σ).bind (fun q => ma_rn ro (d + 1) 54 (15, [v0, v1, v2, v3], (q.1.toList ++ []), q.2.1, q.2.2))) ∧
  (∀ (v0 : Option Value) (v1 : Option Value) (v3 : Option Value) (x9 : Int32) (a1 : Nat) (st : List Value) (σ : ma_H), ma_rn ro d 54 (15, [v0, v1, some (.int x9), v3], .ref a1 :: st, SH, σ) = ma_rn ro d 54 (16, [v0, v1, some (.int x9), some (.ref a1)], st, SH, σ)) ∧
  (∀ (v0 : Option Value) (v1 : Option Value) (v3 : Option Value) (x9 : Int32) (st : List Value) (σ : ma_H), ma_rn ro d 54 (15, [v0, v1, some (.int x9), v3], .null :: st, SH, σ) = ma_rn ro d 54 (16, [v0, v1, some (.int x9), some .null], st, SH, σ)) ∧
  (∀ (v0 : Option Value) (v1 : Option Value) (v2 : Option Value) (a1 : Nat) (st : List Value) (σ : ma_H), ma_rn ro d 54 (16, [v0, v1, v2, some (.ref a1)], st, SH, σ) = ma_rn ro d 54 (17, [v0, v1, v2, some (.ref a1)], .ref a1 :: st, SH, σ)) ∧
  (∀ (v0 : Option Value) (v1 : Option Value) (v2 : Option Value) (st : List Value) (σ : ma_H), ma_rn ro d 54 (16, [v0, v1, v2, some .null], st, SH, σ) = ma_rn ro d 54 (17, [v0, v1, v2, some .null], .null :: st, SH, σ)) ∧
  (∀ (v0 : Option Value) (v1 : Option Value) (v2 : Option Value) (v3 : Option Value) (a1 : Nat) (st : List Value) (σ : ma_H), ma_rn ro d 54 (17, [v0, v1, v2, v3], .ref a1 :: st, SH, σ) = ma_rn ro d 54 (23, [v0, v1, v2, v3], st, SH, σ)) ∧
  (∀ (v0 : Option Value) (v1 : Option Value) (v2 : Option Value) (v3 : Option Value) (st : List Value) (σ : ma_H), ma_rn ro d 54 (17, [v0, v1, v2, v3], .null :: st, SH, σ) = ma_rn ro d 54 (20, [v0, v1, v2, v3], st, SH, σ)) ∧
  (∀ (v0 : Option Value) (v1 : Option Value) (v2 : Option Value) (v3 : Option Value) (st : List Value) (σ : ma_H), ma_rn ro d 54 (20, [v0, v1, v2, v3], st, SH, σ) = ma_rn ro d 54 (62, [v0, v1, v2, v3], st, SH, σ)) ∧
  (∀ (v0 : Option Value) (v1 : Option Value) (v2 : Option Value) (a1 : Nat) (st : List Value) (σ : ma_H), ma_rn ro d 54 (23, [v0, v1, v2, some (.ref a1)], st, SH, σ) = ma_rn ro d 54 (24, [v0, v1, v2, some (.ref a1)], .ref a1 :: st, SH, σ)) ∧
  (∀ (v0 : Option Value) (v1 : Option Value) (v2 : Option Value) (st : List Value) (σ : ma_H), ma_rn ro d 54 (23, [v0, v1, v2, some .null], st, SH, σ) = ma_rn ro d 54 (24, [v0, v1, v2, some .null], .null :: st, SH, σ)) ∧
  (∀ (v0 : Option Value) (v1 : Option Value) (v2 : Option Value) (a1 : Nat) (st : List Value) (σ : ma_H), ma_rn ro d 54 (24, [v0, v1, v2, some (.ref a1)], st, SH, σ) = ma_rn ro d 54 (25, [v0, v1, v2, some (.ref a1)], .ref a1 :: st, SH, σ)) ∧
  (∀ (v0 : Option Value) (v1 : Option Value) (v2 : Option Value) (st : List Value) (σ : ma_H), ma_rn ro d 54 (24, [v0, v1, v2, some .null], st, SH, σ) = ma_rn ro d 54 (25, [v0, v1, v2, some .null], .null :: st, SH, σ)) ∧
  (∀ (v0 : Option Value) (v2 : Option Value) (v3 : Option Value) (a1 : Nat) (st : List Value) (σ : ma_H), ma_rn ro d 54 (25, [v0, some (.ref a1), v2, v3], st, SH, σ) = ma_rn ro d 54 (26, [v0, some (.ref a1), v2, v3], .ref a1 :: st, SH, σ)) ∧
  (∀ (v1 : Option Value) (v2 : Option Value) (v3 : Option Value) (a1 : Nat) (st : List Value) (σ : ma_H), ma_rn ro d 54 (26, [some (.ref a1), v1, v2, v3], st, SH, σ) = ma_rn ro d 54 (27, [some (.ref a1), v1, v2, v3], .ref a1 :: st, SH, σ)) ∧
  (∀ (v0 : Option Value) (v1 : Option Value) (v2 : Option Value) (v3 : Option Value) (a1 : Nat) (st : List Value) (σ : ma_H) (hc : hk_cls a1 = 6), ma_rn ro d 54 (27, [v0, v1, v2, v3], .ref a1 :: st, SH, σ) = ma_rn ro d 54 (30, [v0, v1, v2, v3], .int (σ a1 3) :: st, SH, σ)) ∧
  (∀ (v0 : Option Value) (v1 : Option Value) (v2 : Option Value) (v3 : Option Value) (a20 : Nat) (a1 : Nat) (x2 : Int32) (a0 : Nat) (σ : ma_H) (hc : hk_cls a0 = 1), ma_rn ro (d + 1) 54 (30, [v0, v1, v2, v3], .int x2 :: .ref a1 :: .ref a0 :: .ref a20 :: [], SH, σ) = (ma_ev ro d 11 [.ref a0, .ref a1, .int x2] SH σ).bind (fun q => ma_rn ro (d + 1) 54 (33, [v0, v1, v2, v3], (q.1.toList ++ (.ref a20 :: [])), q.2.1, q.2.2))) ∧
  (∀ (v1 : Option Value) (v2 : Option Value) (v3 : Option Value) (a1 : Nat) (st : List Value) (σ : ma_H), ma_rn ro d 54 (33, [some (.ref a1), v1, v2, v3], st, SH, σ) = ma_rn ro d 54 (34, [some (.ref a1), v1, v2, v3], .ref a1 :: st, SH, σ)) ∧
  (∀ (v0 : Option Value) (v1 : Option Value) (v2 : Option Value) (v3 : Option Value) (a1 : Nat) (st : List Value) (σ : ma_H) (hc : hk_cls a1 = 6), ma_rn ro d 54 (34, [v0, v1, v2, v3], .ref a1 :: st, SH, σ) = ma_rn ro d 54 (37, [v0, v1, v2, v3], .int (σ a1 2) :: st, SH, σ)) ∧
  (∀ (v0 : Option Value) (v1 : Option Value) (v2 : Option Value) (v3 : Option Value) (x1 : Int32) (x2 : Int32) (a0 : Nat) (σ : ma_H) (hc : hk_cls a0 = 1), ma_rn ro (d + 1) 54 (37, [v0, v1, v2, v3], .int x2 :: .int x1 :: .ref a0 :: [], SH, σ) = (ma_ev ro d 12 [.ref a0, .int x1, .int x2] SH σ).bind (fun q => ma_rn ro (d + 1) 54 (40, [v0, v1, v2, v3], (q.1.toList ++ []), q.2.1, q.2.2))) ∧
  (∀ (v0 : Option Value) (v1 : Option Value) (v2 : Option Value) (a1 : Nat) (st : List Value) (σ : ma_H), ma_rn ro d 54 (40, [v0, v1, v2, some (.ref a1)], st, SH, σ) = ma_rn ro d 54 (41, [v0, v1, v2, some (.ref a1)], .ref a1 :: st, SH, σ)) ∧
  (∀ (v0 : Option Value) (v1 : Option Value) (v2 : Option Value) (st : List Value) (σ : ma_H), ma_rn ro d 54 (40, [v0, v1, v2, some .null], st, SH, σ) = ma_rn ro d 54 (41, [v0, v1, v2, some .null], .null :: st, SH, σ)) ∧
  (∀ (v0 : Option Value) (v1 : Option Value) (v2 : Option Value) (v3 : Option Value) (a1 : Nat) (st : List Value) (σ : ma_H) (hc : hk_cls a1 = 1), ma_rn ro d 54 (41, [v0, v1, v2, v3], .ref a1 :: st, SH, σ) = ma_rn ro d 54 (44, [v0, v1, v2, v3], .int (σ a1 3) :: st, SH, σ)) ∧
  (∀ (v0 : Option Value) (v1 : Option Value) (v2 : Option Value) (v3 : Option Value) (x1 : Int32) (st : List Value) (σ : ma_H), ma_rn ro d 54 (44, [v0, v1, v2, v3], .int x1 :: st, SH, σ) = if x1 = nI 0 then ma_rn ro d 54 (62, [v0, v1, v2, v3], st, SH, σ) else ma_rn ro d 54 (47, [v0, v1, v2, v3], st, SH, σ)) ∧
  (∀ (v1 : Option Value) (v2 : Option Value) (v3 : Option Value) (a1 : Nat) (st : List Value) (σ : ma_H), ma_rn ro d 54 (47, [some (.ref a1), v1, v2, v3], st, SH, σ) = ma_rn ro d 54 (48, [some (.ref a1), v1, v2, v3], .ref a1 :: st, SH, σ)) ∧
  (∀ (v0 : Option Value) (v1 : Option Value) (v2 : Option Value) (v3 : Option Value) (a1 : Nat) (st : List Value) (σ : ma_H), ma_rn ro d 54 (48, [v0, v1, v2, v3], .ref a1 :: st, SH, σ) = ma_rn ro d 54 (49, [v0, v1, v2, v3], .ref a1 :: .ref a1 :: st, SH, σ)) ∧
  (∀ (v0 : Option Value) (v1 : Option Value) (v2 : Option Value) (v3 : Option Value) (a1 : Nat) (st : List Value) (σ : ma_H) (hc : hk_cls a1 = 6), ma_rn ro d 54 (49, [v0, v1, v2, v3], .ref a1 :: st, SH, σ) = ma_rn ro d 54 (52, [v0, v1, v2, v3], .int (σ a1 4) :: st, SH, σ)) ∧
  (∀ (v0 : Option Value) (v1 : Option Value) (v2 : Option Value) (a1 : Nat) (st : List Value) (σ : ma_H), ma_rn ro d 54 (52, [v0, v1, v2, some (.ref a1)], st, SH, σ) = ma_rn ro d 54 (53, [v0, v1, v2, some (.ref a1)], .ref a1 :: st, SH, σ)) ∧
  (∀ (v0 : Option Value) (v1 : Option Value) (v2 : Option Value) (st : List Value) (σ : ma_H), ma_rn ro d 54 (52, [v0, v1, v2, some .null], st, SH, σ) = ma_rn ro d 54 (53, [v0, v1, v2, some .null], .null :: st, SH, σ)) ∧
  (∀ (v0 : Option Value) (v1 : Option Value) (v2 : Option Value) (v3 : Option Value) (a1 : Nat) (st : List Value) (σ : ma_H) (hc : hk_cls a1 = 1), ma_rn ro d 54 (53, [v0, v1, v2, v3], .ref a1 :: st, SH, σ) = ma_rn ro d 54 (56, [v0, v1, v2, v3], .int (σ a1 2) :: st, SH, σ)) ∧
  (∀ (v0 : Option Value) (v1 : Option Value) (v2 : Option Value) (v3 : Option Value) (st : List Value) (σ : ma_H), ma_rn ro d 54 (56, [v0, v1, v2, v3], st, SH, σ) = ma_rn ro d 54 (57, [v0, v1, v2, v3], .int (nI 1) :: st, SH, σ)) ∧
  (∀ (v0 : Option Value) (v1 : Option Value) (v2 : Option Value) (v3 : Option Value) (x1 : Int32) (x2 : Int32) (st : List Value) (σ : ma_H), ma_rn ro d 54 (57, [v0, v1, v2, v3], .int x1 :: .int x2 :: st, SH, σ) = ma_rn ro d 54 (58, [v0, v1, v2, v3], .int (x2 + x1) :: st, SH, σ)) ∧
  (∀ (v0 : Option Value) (v1 : Option Value) (v2 : Option Value) (v3 : Option Value) (x1 : Int32) (x2 : Int32) (st : List Value) (σ : ma_H), ma_rn ro d 54 (58, [v0, v1, v2, v3], .int x1 :: .int x2 :: st, SH, σ) = ma_rn ro d 54 (59, [v0, v1, v2, v3], .int (x2 + x1) :: st, SH, σ)) ∧
  (∀ (v0 : Option Value) (v1 : Option Value) (v2 : Option Value) (v3 : Option Value) (x1 : Int32) (a2 : Nat) (st : List Value) (σ : ma_H) (hc : hk_cls a2 = 6), ma_rn ro d 54 (59, [v0, v1, v2, v3], .int x1 :: .ref a2 :: st, SH, σ) = ma_rn ro d 54 (62, [v0, v1, v2, v3], st, SH, (ma_up σ a2 4 x1))) ∧
  (∀ (v0 : Option Value) (v3 : Option Value) (x1 : Int32) (a9 : Nat) (st : List Value) (σ : ma_H), ma_rn ro d 54 (62, [v0, some (.ref a9), some (.int x1), v3], st, SH, σ) = ma_rn ro d 54 (65, [v0, some (.ref a9), some (.int (x1 + nI 1)), v3], st, SH, σ)) ∧
  (∀ (v0 : Option Value) (v1 : Option Value) (v2 : Option Value) (v3 : Option Value) (st : List Value) (σ : ma_H), ma_rn ro d 54 (65, [v0, v1, v2, v3], st, SH, σ) = ma_rn ro d 54 (2, [v0, v1, v2, v3], st, SH, σ)) ∧
  (∀ (v1 : Option Value) (v2 : Option Value) (v3 : Option Value) (a1 : Nat) (st : List Value) (σ : ma_H), ma_rn ro d 54 (68, [some (.ref a1), v1, v2, v3], st, SH, σ) = ma_rn ro d 54 (69, [some (.ref a1), v1, v2, v3], .ref a1 :: st, SH, σ)) ∧
  (∀ (v0 : Option Value) (v1 : Option Value) (v2 : Option Value) (v3 : Option Value) (a1 : Nat) (st : List Value) (σ : ma_H), ma_rn ro d 54 (69, [v0, v1, v2, v3], .ref a1 :: st, SH, σ) = ma_rn ro d 54 (70, [v0, v1, v2, v3], .ref a1 :: .ref a1 :: st, SH, σ)) ∧
  (∀ (v0 : Option Value) (v1 : Option Value) (v2 : Option Value) (v3 : Option Value) (a1 : Nat) (st : List Value) (σ : ma_H) (hc : hk_cls a1 = 6), ma_rn ro d 54 (70, [v0, v1, v2, v3], .ref a1 :: st, SH, σ) = ma_rn ro d 54 (73, [v0, v1, v2, v3], .int (σ a1 3) :: st, SH, σ)) ∧
  (∀ (v0 : Option Value) (v1 : Option Value) (v2 : Option Value) (v3 : Option Value) (st : List Value) (σ : ma_H), ma_rn ro d 54 (73, [v0, v1, v2, v3], st, SH, σ) = ma_rn ro d 54 (74, [v0, v1, v2, v3], .int (nI 1) :: st, SH, σ)) ∧
  (∀ (v0 : Option Value) (v1 : Option Value) (v2 : Option Value) (v3 : Option Value) (x1 : Int32) (x2 : Int32) (st : List Value) (σ : ma_H), ma_rn ro d 54 (74, [v0, v1, v2, v3], .int x1 :: .int x2 :: st, SH, σ) = ma_rn ro d 54 (75, [v0, v1, v2, v3], .int (x2 + x1) :: st, SH, σ)) ∧
  (∀ (v0 : Option Value) (v1 : Option Value) (v2 : Option Value) (v3 : Option Value) (x1 : Int32) (a2 : Nat) (st : List Value) (σ : ma_H) (hc : hk_cls a2 = 6), ma_rn ro d 54 (75, [v0, v1, v2, v3], .int x1 :: .ref a2 :: st, SH, σ) = ma_rn ro d 54 (78, [v0, v1, v2, v3], st, SH, (ma_up σ a2 3 x1))) ∧
  (∀ (v0 : Option Value) (v1 : Option Value) (v2 : Option Value) (v3 : Option Value) (σ : ma_H), ma_rn ro d 54 (78, [v0, v1, v2, v3], [], SH, σ) = some (none, SH, σ)) := ⟨fun v0 v1 v2 v3 st σ => q_iconst e54_0 (by decide),
  fun v0 v2 v3 a9 x1 st σ => q_go e54_1 rfl rfl,
  fun v1 v2 v3 a1 st σ => q_go e54_3 rfl rfl,
  fun v0 v1 v2 v3 a1 st σ hc => q_getI e54_4 o_54 f_6_24 (by decide) hc,
  fun v0 v1 v2 v3 x1 x2 st σ => (q_cmp e54_7 rfl).trans q_nlt,
  fun v1 v2 v3 a1 st σ => q_go e54_10 rfl rfl,
  fun v0 v1 v3 x1 st σ => q_go e54_11 rfl rfl,
  fun v0 v1 v2 v3 x1 a0 σ hc => q_invV (as := [.int x1]) (rest := []) e54_12 o_54 bn_6_37 c_6_37 m_50 (by decide) rfl rfl (Nat.le_of_ble_eq_true rfl) (Nat.le_of_ble_eq_true rfl) hc,
  fun v0 v1 v3 x9 a1 st σ => q_go e54_15 rfl rfl,
  fun v0 v1 v3 x9 st σ => q_go e54_15 rfl rfl,
  fun v0 v1 v2 a1 st σ => q_go e54_16 rfl rfl,
  fun v0 v1 v2 st σ => q_go e54_16 rfl rfl,
  fun v0 v1 v2 v3 a1 st σ => q_ifnonnullR e54_17 rfl,
  fun v0 v1 v2 v3 st σ => q_ifnonnullN e54_17 rfl,
  fun v0 v1 v2 v3 st σ => q_goto e54_20 rfl,
  fun v0 v1 v2 a1 st σ => q_go e54_23 rfl rfl,
  fun v0 v1 v2 st σ => q_go e54_23 rfl rfl,
  fun v0 v1 v2 a1 st σ => q_go e54_24 rfl rfl,
  fun v0 v1 v2 st σ => q_go e54_24 rfl rfl,
  fun v0 v2 v3 a1 st σ => q_go e54_25 rfl rfl,
  fun v1 v2 v3 a1 st σ => q_go e54_26 rfl rfl,
  fun v0 v1 v2 v3 a1 st σ hc => q_getI e54_27 o_54 f_6_31 (by decide) hc,
  fun v0 v1 v2 v3 a20 a1 x2 a0 σ hc => q_invV (as := [.ref a1, .int x2]) (rest := .ref a20 :: []) e54_30 o_54 bn_6_49 c_6_49 m_11 (by decide) rfl rfl (Nat.le_of_ble_eq_true rfl) (Nat.le_of_ble_eq_true rfl) hc,
  fun v1 v2 v3 a1 st σ => q_go e54_33 rfl rfl,
  fun v0 v1 v2 v3 a1 st σ hc => q_getI e54_34 o_54 f_6_20 (by decide) hc,
  fun v0 v1 v2 v3 x1 x2 a0 σ hc => q_invV (as := [.int x1, .int x2]) (rest := []) e54_37 o_54 bn_6_53 c_6_53 m_12 (by decide) rfl rfl (Nat.le_of_ble_eq_true rfl) (Nat.le_of_ble_eq_true rfl) hc,
  fun v0 v1 v2 a1 st σ => q_go e54_40 rfl rfl,
  fun v0 v1 v2 st σ => q_go e54_40 rfl rfl,
  fun v0 v1 v2 v3 a1 st σ hc => q_getI e54_41 o_54 f_6_55 (by decide) hc,
  fun v0 v1 v2 v3 x1 st σ => (q_if e54_44 rfl).trans q_eq,
  fun v1 v2 v3 a1 st σ => q_go e54_47 rfl rfl,
  fun v0 v1 v2 v3 a1 st σ => q_go e54_48 rfl rfl,
  fun v0 v1 v2 v3 a1 st σ hc => q_getI e54_49 o_54 f_6_34 (by decide) hc,
  fun v0 v1 v2 a1 st σ => q_go e54_52 rfl rfl,
  fun v0 v1 v2 st σ => q_go e54_52 rfl rfl,
  fun v0 v1 v2 v3 a1 st σ hc => q_getI e54_53 o_54 f_6_59 (by decide) hc,
  fun v0 v1 v2 v3 st σ => q_iconst e54_56 (by decide),
  fun v0 v1 v2 v3 x1 x2 st σ => q_go e54_57 rfl rfl,
  fun v0 v1 v2 v3 x1 x2 st σ => q_go e54_58 rfl rfl,
  fun v0 v1 v2 v3 x1 a2 st σ hc => q_putI e54_59 o_54 f_6_34 (by decide) rfl hc,
  fun v0 v3 x1 a9 st σ => q_iinc e54_62 rfl rfl (by decide),
  fun v0 v1 v2 v3 st σ => q_goto e54_65 rfl,
  fun v1 v2 v3 a1 st σ => q_go e54_68 rfl rfl,
  fun v0 v1 v2 v3 a1 st σ => q_go e54_69 rfl rfl,
  fun v0 v1 v2 v3 a1 st σ hc => q_getI e54_70 o_54 f_6_31 (by decide) hc,
  fun v0 v1 v2 v3 st σ => q_iconst e54_73 (by decide),
  fun v0 v1 v2 v3 x1 x2 st σ => q_go e54_74 rfl rfl,
  fun v0 v1 v2 v3 x1 a2 st σ hc => q_putI e54_75 o_54 f_6_31 (by decide) rfl hc,
  fun v0 v1 v2 v3 σ => q_vret e54_78 r_54⟩
theorem E54 {ro : ma_RO} {d : Nat} (a0 : Nat) (a1 : Nat) (sh : List ma_Sh) (σ : ma_H) : ma_ev ro d 54 [.ref a0, .ref a1] sh σ = ma_rn ro d 54 (0, [some (.ref a0), some (.ref a1), none, none], [], sh, σ) := q_ent x_54 rfl
theorem e55_0 : decode (ma_cd 55) 0 = .ok (.iconst 0, 1) := (congrArg (fun b => decode b 0) cd_55).trans dX6_leftBits_0
theorem e55_1 : decode (ma_cd 55) 1 = .ok (.istore_n 1, 1) := (congrArg (fun b => decode b 1) cd_55).trans dX6_leftBits_1
theorem e55_2 : decode (ma_cd 55) 2 = .ok (.iconst 0, 1) := (congrArg (fun b => decode b 2) cd_55).trans dX6_leftBits_2
theorem e55_3 : decode (ma_cd 55) 3 = .ok (.istore_n 2, 1) := (congrArg (fun b => decode b 3) cd_55).trans dX6_leftBits_3
theorem e55_4 : decode (ma_cd 55) 4 = .ok (.iload_n 2, 1) := (congrArg (fun b => decode b 4) cd_55).trans dX6_leftBits_4
theorem e55_5 : decode (ma_cd 55) 5 = .ok (.aload_n 0, 1) := (congrArg (fun b => decode b 5) cd_55).trans dX6_leftBits_5
theorem e55_6 : decode (ma_cd 55) 6 = .ok (.getfield 24, 3) := (congrArg (fun b => decode b 6) cd_55).trans dX6_leftBits_6
theorem e55_9 : decode (ma_cd 55) 9 = .ok (.if_icmp .ge 32, 3) := (congrArg (fun b => decode b 9) cd_55).trans dX6_leftBits_9
theorem e55_12 : decode (ma_cd 55) 12 = .ok (.aload_n 0, 1) := (congrArg (fun b => decode b 12) cd_55).trans dX6_leftBits_12
theorem e55_13 : decode (ma_cd 55) 13 = .ok (.iload_n 2, 1) := (congrArg (fun b => decode b 13) cd_55).trans dX6_leftBits_13
theorem e55_14 : decode (ma_cd 55) 14 = .ok (.invokevirtual 37, 3) := (congrArg (fun b => decode b 14) cd_55).trans dX6_leftBits_14
theorem e55_17 : decode (ma_cd 55) 17 = .ok (.astore_n 3, 1) := (congrArg (fun b => decode b 17) cd_55).trans dX6_leftBits_17
theorem e55_18 : decode (ma_cd 55) 18 = .ok (.aload_n 3, 1) := (congrArg (fun b => decode b 18) cd_55).trans dX6_leftBits_18
theorem e55_19 : decode (ma_cd 55) 19 = .ok (.ifnull 16, 3) := (congrArg (fun b => decode b 19) cd_55).trans dX6_leftBits_19
theorem e55_22 : decode (ma_cd 55) 22 = .ok (.aload_n 3, 1) := (congrArg (fun b => decode b 22) cd_55).trans dX6_leftBits_22
theorem e55_23 : decode (ma_cd 55) 23 = .ok (.getfield 55, 3) := (congrArg (fun b => decode b 23) cd_55).trans dX6_leftBits_23
theorem e55_26 : decode (ma_cd 55) 26 = .ok (.ifCond .eq 9, 3) := (congrArg (fun b => decode b 26) cd_55).trans dX6_leftBits_26
theorem e55_29 : decode (ma_cd 55) 29 = .ok (.iload_n 1, 1) := (congrArg (fun b => decode b 29) cd_55).trans dX6_leftBits_29
theorem e55_30 : decode (ma_cd 55) 30 = .ok (.iconst 1, 1) := (congrArg (fun b => decode b 30) cd_55).trans dX6_leftBits_30
theorem e55_31 : decode (ma_cd 55) 31 = .ok (.iload_n 2, 1) := (congrArg (fun b => decode b 31) cd_55).trans dX6_leftBits_31
theorem e55_32 : decode (ma_cd 55) 32 = .ok (.ishl, 1) := (congrArg (fun b => decode b 32) cd_55).trans dX6_leftBits_32
theorem e55_33 : decode (ma_cd 55) 33 = .ok (.ior, 1) := (congrArg (fun b => decode b 33) cd_55).trans dX6_leftBits_33
theorem e55_34 : decode (ma_cd 55) 34 = .ok (.istore_n 1, 1) := (congrArg (fun b => decode b 34) cd_55).trans dX6_leftBits_34
theorem e55_35 : decode (ma_cd 55) 35 = .ok (.iinc 2 1, 3) := (congrArg (fun b => decode b 35) cd_55).trans dX6_leftBits_35
theorem e55_38 : decode (ma_cd 55) 38 = .ok (.goto (-34), 3) := (congrArg (fun b => decode b 38) cd_55).trans dX6_leftBits_38
theorem e55_41 : decode (ma_cd 55) 41 = .ok (.iload_n 1, 1) := (congrArg (fun b => decode b 41) cd_55).trans dX6_leftBits_41
theorem e55_42 : decode (ma_cd 55) 42 = .ok (.ireturn, 1) := (congrArg (fun b => decode b 42) cd_55).trans dX6_leftBits_42
theorem Sh55_4 {ro : ma_RO} {d : Nat} : (∀ (v0 : Option Value) (v1 : Option Value) (v3 : Option Value) (x1 : Int32) (st : List Value) (σ : ma_H), ma_rn ro d 55 (4, [v0, v1, some (.int x1), v3], st, SH, σ) = ma_rn ro d 55 (5, [v0, v1, some (.int x1), v3], .int x1 :: st, SH, σ)) := fun v0 v1 v3 x1 st σ => q_go e55_4 rfl rfl
theorem S55 {ro : ma_RO} {d : Nat} : (∀ (v0 : Option Value) (v1 : Option Value) (v2 : Option Value) (v3 : Option Value) (st : List Value) (σ : ma_H), ma_rn ro d 55 (0, [v0, v1, v2, v3], st, SH, σ) = ma_rn ro d 55 (1, [v0, v1, v2, v3], .int (nI 0) :: st, SH, σ)) ∧
  (∀ (v1 : Option Value) (v2 : Option Value) (v3 : Option Value) (a9 : Nat) (x1 : Int32) (st : List Value) (σ : ma_H), ma_rn ro d 55 (1, [some (.ref a9), v1, v2, v3], .int x1 :: st, SH, σ) = ma_rn ro d 55 (2, [some (.ref a9), some (.int x1), v2, v3], st, SH, σ)) ∧
  (∀ (v0 : Option Value) (v1 : Option Value) (v2 : Option Value) (v3 : Option Value) (st : List Value) (σ : ma_H), ma_rn ro d 55 (2, [v0, v1, v2, v3], st, SH, σ) = ma_rn ro d 55 (3, [v0, v1, v2, v3], .int (nI 0) :: st, SH, σ)) ∧
  (∀ (v0 : Option Value) (v2 : Option Value) (v3 : Option Value) (x9 : Int32) (x1 : Int32) (st : List Value) (σ : ma_H), ma_rn ro d 55 (3, [v0, some (.int x9), v2, v3], .int x1 :: st, SH, σ) = ma_rn ro d 55 (4, [v0, some (.int x9), some (.int x1), v3], st, SH, σ)) ∧
  (∀ (v1 : Option Value) (v2 : Option Value) (v3 : Option Value) (a1 : Nat) (st : List Value) (σ : ma_H), ma_rn ro d 55 (5, [some (.ref a1), v1, v2, v3], st, SH, σ) = ma_rn ro d 55 (6, [some (.ref a1), v1, v2, v3], .ref a1 :: st, SH, σ)) ∧
  (∀ (v0 : Option Value) (v1 : Option Value) (v2 : Option Value) (v3 : Option Value) (a1 : Nat) (st : List Value) (σ : ma_H) (hc : hk_cls a1 = 6), ma_rn ro d 55 (6, [v0, v1, v2, v3], .ref a1 :: st, SH, σ) = ma_rn ro d 55 (9, [v0, v1, v2, v3], .int (σ a1 1) :: st, SH, σ)) ∧
  (∀ (v0 : Option Value) (v1 : Option Value) (v2 : Option Value) (v3 : Option Value) (x1 : Int32) (x2 : Int32) (st : List Value) (σ : ma_H), ma_rn ro d 55 (9, [v0, v1, v2, v3], .int x1 :: .int x2 :: st, SH, σ) = if x2 < x1 then ma_rn ro d 55 (12, [v0, v1, v2, v3], st, SH, σ) else ma_rn ro d 55 (41, [v0, v1, v2, v3], st, SH, σ)) ∧
  (∀ (v1 : Option Value) (v2 : Option Value) (v3 : Option Value) (a1 : Nat) (st : List Value) (σ : ma_H), ma_rn ro d 55 (12, [some (.ref a1), v1, v2, v3], st, SH, σ) = ma_rn ro d 55 (13, [some (.ref a1), v1, v2, v3], .ref a1 :: st, SH, σ)) ∧
  (∀ (v0 : Option Value) (v1 : Option Value) (v3 : Option Value) (x1 : Int32) (st : List Value) (σ : ma_H), ma_rn ro d 55 (13, [v0, v1, some (.int x1), v3], st, SH, σ) = ma_rn ro d 55 (14, [v0, v1, some (.int x1), v3], .int x1 :: st, SH, σ)) ∧
  (∀ (v0 : Option Value) (v1 : Option Value) (v2 : Option Value) (v3 : Option Value) (x1 : Int32) (a0 : Nat) (σ : ma_H) (hc : hk_cls a0 = 6), ma_rn ro (d + 1) 55 (14, [v0, v1, v2, v3], .int x1 :: .ref a0 :: [], SH, σ) = (ma_ev ro d 50 [.ref a0, .int x1] SH σ).bind (fun q => ma_rn ro (d + 1) 55 (17, [v0, v1, v2, v3], (q.1.toList ++ []), q.2.1, q.2.2))) ∧
  (∀ (v0 : Option Value) (v1 : Option Value) (v3 : Option Value) (x9 : Int32) (a1 : Nat) (st : List Value) (σ : ma_H), ma_rn ro d 55 (17, [v0, v1, some (.int x9), v3], .ref a1 :: st, SH, σ) = ma_rn ro d 55 (18, [v0, v1, some (.int x9), some (.ref a1)], st, SH, σ)) ∧
  (∀ (v0 : Option Value) (v1 : Option Value) (v3 : Option Value) (x9 : Int32) (st : List Value) (σ : ma_H), ma_rn ro d 55 (17, [v0, v1, some (.int x9), v3], .null :: st, SH, σ) = ma_rn ro d 55 (18, [v0, v1, some (.int x9), some .null], st, SH, σ)) ∧
  (∀ (v0 : Option Value) (v1 : Option Value) (v2 : Option Value) (a1 : Nat) (st : List Value) (σ : ma_H), ma_rn ro d 55 (18, [v0, v1, v2, some (.ref a1)], st, SH, σ) = ma_rn ro d 55 (19, [v0, v1, v2, some (.ref a1)], .ref a1 :: st, SH, σ)) ∧
  (∀ (v0 : Option Value) (v1 : Option Value) (v2 : Option Value) (st : List Value) (σ : ma_H), ma_rn ro d 55 (18, [v0, v1, v2, some .null], st, SH, σ) = ma_rn ro d 55 (19, [v0, v1, v2, some .null], .null :: st, SH, σ)) ∧
  (∀ (v0 : Option Value) (v1 : Option Value) (v2 : Option Value) (v3 : Option Value) (a1 : Nat) (st : List Value) (σ : ma_H), ma_rn ro d 55 (19, [v0, v1, v2, v3], .ref a1 :: st, SH, σ) = ma_rn ro d 55 (22, [v0, v1, v2, v3], st, SH, σ)) ∧
  (∀ (v0 : Option Value) (v1 : Option Value) (v2 : Option Value) (v3 : Option Value) (st : List Value) (σ : ma_H), ma_rn ro d 55 (19, [v0, v1, v2, v3], .null :: st, SH, σ) = ma_rn ro d 55 (35, [v0, v1, v2, v3], st, SH, σ)) ∧
  (∀ (v0 : Option Value) (v1 : Option Value) (v2 : Option Value) (a1 : Nat) (st : List Value) (σ : ma_H), ma_rn ro d 55 (22, [v0, v1, v2, some (.ref a1)], st, SH, σ) = ma_rn ro d 55 (23, [v0, v1, v2, some (.ref a1)], .ref a1 :: st, SH, σ)) ∧
  (∀ (v0 : Option Value) (v1 : Option Value) (v2 : Option Value) (st : List Value) (σ : ma_H), ma_rn ro d 55 (22, [v0, v1, v2, some .null], st, SH, σ) = ma_rn ro d 55 (23, [v0, v1, v2, some .null], .null :: st, SH, σ)) ∧
  (∀ (v0 : Option Value) (v1 : Option Value) (v2 : Option Value) (v3 : Option Value) (a1 : Nat) (st : List Value) (σ : ma_H) (hc : hk_cls a1 = 1), ma_rn ro d 55 (23, [v0, v1, v2, v3], .ref a1 :: st, SH, σ) = ma_rn ro d 55 (26, [v0, v1, v2, v3], .int (σ a1 3) :: st, SH, σ)) ∧
  (∀ (v0 : Option Value) (v1 : Option Value) (v2 : Option Value) (v3 : Option Value) (x1 : Int32) (st : List Value) (σ : ma_H), ma_rn ro d 55 (26, [v0, v1, v2, v3], .int x1 :: st, SH, σ) = if x1 = nI 0 then ma_rn ro d 55 (35, [v0, v1, v2, v3], st, SH, σ) else ma_rn ro d 55 (29, [v0, v1, v2, v3], st, SH, σ)) ∧
  (∀ (v0 : Option Value) (v2 : Option Value) (v3 : Option Value) (x1 : Int32) (st : List Value) (σ : ma_H), ma_rn ro d 55 (29, [v0, some (.int x1), v2, v3], st, SH, σ) = ma_rn ro d 55 (30, [v0, some (.int x1), v2, v3], .int x1 :: st, SH, σ)) ∧
  (∀ (v0 : Option Value) (v1 : Option Value) (v2 : Option Value) (v3 : Option Value) (st : List Value) (σ : ma_H), ma_rn ro d 55 (30, [v0, v1, v2, v3], st, SH, σ) = ma_rn ro d 55 (31, [v0, v1, v2, v3], .int (nI 1) :: st, SH, σ)) ∧
  (∀ (v0 : Option Value) (v1 : Option Value) (v3 : Option Value) (x1 : Int32) (st : List Value) (σ : ma_H), ma_rn ro d 55 (31, [v0, v1, some (.int x1), v3], st, SH, σ) = ma_rn ro d 55 (32, [v0, v1, some (.int x1), v3], .int x1 :: st, SH, σ)) ∧
  (∀ (v0 : Option Value) (v1 : Option Value) (v2 : Option Value) (v3 : Option Value) (x1 : Int32) (x2 : Int32) (st : List Value) (σ : ma_H), ma_rn ro d 55 (32, [v0, v1, v2, v3], .int x1 :: .int x2 :: st, SH, σ) = ma_rn ro d 55 (33, [v0, v1, v2, v3], .int (x2 <<< (x1 &&& 31)) :: st, SH, σ)) ∧
  (∀ (v0 : Option Value) (v1 : Option Value) (v2 : Option Value) (v3 : Option Value) (x1 : Int32) (x2 : Int32) (st : List Value) (σ : ma_H), ma_rn ro d 55 (33, [v0, v1, v2, v3], .int x1 :: .int x2 :: st, SH, σ) = ma_rn ro d 55 (34, [v0, v1, v2, v3], .int (x2 ||| x1) :: st, SH, σ)) ∧
  (∀ (v1 : Option Value) (v2 : Option Value) (v3 : Option Value) (a9 : Nat) (x1 : Int32) (st : List Value) (σ : ma_H), ma_rn ro d 55 (34, [some (.ref a9), v1, v2, v3], .int x1 :: st, SH, σ) = ma_rn ro d 55 (35, [some (.ref a9), some (.int x1), v2, v3], st, SH, σ)) ∧
  (∀ (v0 : Option Value) (v3 : Option Value) (x1 : Int32) (x9 : Int32) (st : List Value) (σ : ma_H), ma_rn ro d 55 (35, [v0, some (.int x9), some (.int x1), v3], st, SH, σ) = ma_rn ro d 55 (38, [v0, some (.int x9), some (.int (x1 + nI 1)), v3], st, SH, σ)) ∧
  (∀ (v0 : Option Value) (v1 : Option Value) (v2 : Option Value) (v3 : Option Value) (st : List Value) (σ : ma_H), ma_rn ro d 55 (38, [v0, v1, v2, v3], st, SH, σ) = ma_rn ro d 55 (4, [v0, v1, v2, v3], st, SH, σ)) ∧
  (∀ (v0 : Option Value) (v2 : Option Value) (v3 : Option Value) (x1 : Int32) (st : List Value) (σ : ma_H), ma_rn ro d 55 (41, [v0, some (.int x1), v2, v3], st, SH, σ) = ma_rn ro d 55 (42, [v0, some (.int x1), v2, v3], .int x1 :: st, SH, σ)) ∧
  (∀ (v0 : Option Value) (v1 : Option Value) (v2 : Option Value) (v3 : Option Value) (x1 : Int32) (σ : ma_H), ma_rn ro d 55 (42, [v0, v1, v2, v3], [.int x1], SH, σ) = some (some (.int x1), SH, σ)) := ⟨fun v0 v1 v2 v3 st σ => q_iconst e55_0 (by decide),
  fun v1 v2 v3 a9 x1 st σ => q_go e55_1 rfl rfl,
  fun v0 v1 v2 v3 st σ => q_iconst e55_2 (by decide),
  fun v0 v2 v3 x9 x1 st σ => q_go e55_3 rfl rfl,
  fun v1 v2 v3 a1 st σ => q_go e55_5 rfl rfl,
  fun v0 v1 v2 v3 a1 st σ hc => q_getI e55_6 o_55 f_6_24 (by decide) hc,
  fun v0 v1 v2 v3 x1 x2 st σ => (q_cmp e55_9 rfl).trans q_nlt,
  fun v1 v2 v3 a1 st σ => q_go e55_12 rfl rfl,
  fun v0 v1 v3 x1 st σ => q_go e55_13 rfl rfl,
  fun v0 v1 v2 v3 x1 a0 σ hc => q_invV (as := [.int x1]) (rest := []) e55_14 o_55 bn_6_37 c_6_37 m_50 (by decide) rfl rfl (Nat.le_of_ble_eq_true rfl) (Nat.le_of_ble_eq_true rfl) hc,
  fun v0 v1 v3 x9 a1 st σ => q_go e55_17 rfl rfl,
  fun v0 v1 v3 x9 st σ => q_go e55_17 rfl rfl,
  fun v0 v1 v2 a1 st σ => q_go e55_18 rfl rfl,
  fun v0 v1 v2 st σ => q_go e55_18 rfl rfl,
  fun v0 v1 v2 v3 a1 st σ => q_ifnullR e55_19 rfl,
  fun v0 v1 v2 v3 st σ => q_ifnullN e55_19 rfl,
  fun v0 v1 v2 a1 st σ => q_go e55_22 rfl rfl,
  fun v0 v1 v2 st σ => q_go e55_22 rfl rfl,
  fun v0 v1 v2 v3 a1 st σ hc => q_getI e55_23 o_55 f_6_55 (by decide) hc,
  fun v0 v1 v2 v3 x1 st σ => (q_if e55_26 rfl).trans q_eq,
  fun v0 v2 v3 x1 st σ => q_go e55_29 rfl rfl,
  fun v0 v1 v2 v3 st σ => q_iconst e55_30 (by decide),
  fun v0 v1 v3 x1 st σ => q_go e55_31 rfl rfl,
  fun v0 v1 v2 v3 x1 x2 st σ => q_go e55_32 rfl rfl,
  fun v0 v1 v2 v3 x1 x2 st σ => q_go e55_33 rfl rfl,
  fun v1 v2 v3 a9 x1 st σ => q_go e55_34 rfl rfl,
  fun v0 v3 x1 x9 st σ => q_iinc e55_35 rfl rfl (by decide),
  fun v0 v1 v2 v3 st σ => q_goto e55_38 rfl,
  fun v0 v2 v3 x1 st σ => q_go e55_41 rfl rfl,
  fun v0 v1 v2 v3 x1 σ => q_iret e55_42 r_55⟩
theorem E55 {ro : ma_RO} {d : Nat} (a0 : Nat) (sh : List ma_Sh) (σ : ma_H) : ma_ev ro d 55 [.ref a0] sh σ = ma_rn ro d 55 (0, [some (.ref a0), none, none, none], [], sh, σ) := q_ent x_55 rfl
theorem e56_0 : decode (ma_cd 56) 0 = .ok (.iconst 0, 1) := (congrArg (fun b => decode b 0) cd_56).trans dX6_traces_0
theorem e56_1 : decode (ma_cd 56) 1 = .ok (.istore_n 1, 1) := (congrArg (fun b => decode b 1) cd_56).trans dX6_traces_1
theorem e56_2 : decode (ma_cd 56) 2 = .ok (.iconst 0, 1) := (congrArg (fun b => decode b 2) cd_56).trans dX6_traces_2
theorem e56_3 : decode (ma_cd 56) 3 = .ok (.istore_n 2, 1) := (congrArg (fun b => decode b 3) cd_56).trans dX6_traces_3
theorem e56_4 : decode (ma_cd 56) 4 = .ok (.iload_n 2, 1) := (congrArg (fun b => decode b 4) cd_56).trans dX6_traces_4
theorem e56_5 : decode (ma_cd 56) 5 = .ok (.aload_n 0, 1) := (congrArg (fun b => decode b 5) cd_56).trans dX6_traces_5
theorem e56_6 : decode (ma_cd 56) 6 = .ok (.getfield 24, 3) := (congrArg (fun b => decode b 6) cd_56).trans dX6_traces_6
theorem e56_9 : decode (ma_cd 56) 9 = .ok (.if_icmp .ge 26, 3) := (congrArg (fun b => decode b 9) cd_56).trans dX6_traces_9
theorem e56_12 : decode (ma_cd 56) 12 = .ok (.aload_n 0, 1) := (congrArg (fun b => decode b 12) cd_56).trans dX6_traces_12
theorem e56_13 : decode (ma_cd 56) 13 = .ok (.iload_n 2, 1) := (congrArg (fun b => decode b 13) cd_56).trans dX6_traces_13
theorem e56_14 : decode (ma_cd 56) 14 = .ok (.invokevirtual 37, 3) := (congrArg (fun b => decode b 14) cd_56).trans dX6_traces_14
theorem e56_17 : decode (ma_cd 56) 17 = .ok (.astore_n 3, 1) := (congrArg (fun b => decode b 17) cd_56).trans dX6_traces_17
theorem e56_18 : decode (ma_cd 56) 18 = .ok (.aload_n 3, 1) := (congrArg (fun b => decode b 18) cd_56).trans dX6_traces_18
theorem e56_19 : decode (ma_cd 56) 19 = .ok (.ifnull 10, 3) := (congrArg (fun b => decode b 19) cd_56).trans dX6_traces_19
theorem e56_22 : decode (ma_cd 56) 22 = .ok (.iload_n 1, 1) := (congrArg (fun b => decode b 22) cd_56).trans dX6_traces_22
theorem e56_23 : decode (ma_cd 56) 23 = .ok (.aload_n 3, 1) := (congrArg (fun b => decode b 23) cd_56).trans dX6_traces_23
theorem e56_24 : decode (ma_cd 56) 24 = .ok (.getfield 62, 3) := (congrArg (fun b => decode b 24) cd_56).trans dX6_traces_24
theorem e56_27 : decode (ma_cd 56) 27 = .ok (.iadd, 1) := (congrArg (fun b => decode b 27) cd_56).trans dX6_traces_27
theorem e56_28 : decode (ma_cd 56) 28 = .ok (.istore_n 1, 1) := (congrArg (fun b => decode b 28) cd_56).trans dX6_traces_28
theorem e56_29 : decode (ma_cd 56) 29 = .ok (.iinc 2 1, 3) := (congrArg (fun b => decode b 29) cd_56).trans dX6_traces_29
theorem e56_32 : decode (ma_cd 56) 32 = .ok (.goto (-28), 3) := (congrArg (fun b => decode b 32) cd_56).trans dX6_traces_32
theorem e56_35 : decode (ma_cd 56) 35 = .ok (.iload_n 1, 1) := (congrArg (fun b => decode b 35) cd_56).trans dX6_traces_35
theorem e56_36 : decode (ma_cd 56) 36 = .ok (.ireturn, 1) := (congrArg (fun b => decode b 36) cd_56).trans dX6_traces_36
theorem Sh56_4 {ro : ma_RO} {d : Nat} : (∀ (v0 : Option Value) (v1 : Option Value) (v3 : Option Value) (x1 : Int32) (st : List Value) (σ : ma_H), ma_rn ro d 56 (4, [v0, v1, some (.int x1), v3], st, SH, σ) = ma_rn ro d 56 (5, [v0, v1, some (.int x1), v3], .int x1 :: st, SH, σ)) := fun v0 v1 v3 x1 st σ => q_go e56_4 rfl rfl
theorem S56 {ro : ma_RO} {d : Nat} : (∀ (v0 : Option Value) (v1 : Option Value) (v2 : Option Value) (v3 : Option Value) (st : List Value) (σ : ma_H), ma_rn ro d 56 (0, [v0, v1, v2, v3], st, SH, σ) = ma_rn ro d 56 (1, [v0, v1, v2, v3], .int (nI 0) :: st, SH, σ)) ∧
  (∀ (v1 : Option Value) (v2 : Option Value) (v3 : Option Value) (a9 : Nat) (x1 : Int32) (st : List Value) (σ : ma_H), ma_rn ro d 56 (1, [some (.ref a9), v1, v2, v3], .int x1 :: st, SH, σ) = ma_rn ro d 56 (2, [some (.ref a9), some (.int x1), v2, v3], st, SH, σ)) ∧
  (∀ (v0 : Option Value) (v1 : Option Value) (v2 : Option Value) (v3 : Option Value) (st : List Value) (σ : ma_H), ma_rn ro d 56 (2, [v0, v1, v2, v3], st, SH, σ) = ma_rn ro d 56 (3, [v0, v1, v2, v3], .int (nI 0) :: st, SH, σ)) ∧
  (∀ (v0 : Option Value) (v2 : Option Value) (v3 : Option Value) (x9 : Int32) (x1 : Int32) (st : List Value) (σ : ma_H), ma_rn ro d 56 (3, [v0, some (.int x9), v2, v3], .int x1 :: st, SH, σ) = ma_rn ro d 56 (4, [v0, some (.int x9), some (.int x1), v3], st, SH, σ)) ∧
  (∀ (v1 : Option Value) (v2 : Option Value) (v3 : Option Value) (a1 : Nat) (st : List Value) (σ : ma_H), ma_rn ro d 56 (5, [some (.ref a1), v1, v2, v3], st, SH, σ) = ma_rn ro d 56 (6, [some (.ref a1), v1, v2, v3], .ref a1 :: st, SH, σ)) ∧
  (∀ (v0 : Option Value) (v1 : Option Value) (v2 : Option Value) (v3 : Option Value) (a1 : Nat) (st : List Value) (σ : ma_H) (hc : hk_cls a1 = 6), ma_rn ro d 56 (6, [v0, v1, v2, v3], .ref a1 :: st, SH, σ) = ma_rn ro d 56 (9, [v0, v1, v2, v3], .int (σ a1 1) :: st, SH, σ)) ∧
  (∀ (v0 : Option Value) (v1 : Option Value) (v2 : Option Value) (v3 : Option Value) (x1 : Int32) (x2 : Int32) (st : List Value) (σ : ma_H), ma_rn ro d 56 (9, [v0, v1, v2, v3], .int x1 :: .int x2 :: st, SH, σ) = if x2 < x1 then ma_rn ro d 56 (12, [v0, v1, v2, v3], st, SH, σ) else ma_rn ro d 56 (35, [v0, v1, v2, v3], st, SH, σ)) ∧
  (∀ (v1 : Option Value) (v2 : Option Value) (v3 : Option Value) (a1 : Nat) (st : List Value) (σ : ma_H), ma_rn ro d 56 (12, [some (.ref a1), v1, v2, v3], st, SH, σ) = ma_rn ro d 56 (13, [some (.ref a1), v1, v2, v3], .ref a1 :: st, SH, σ)) ∧
  (∀ (v0 : Option Value) (v1 : Option Value) (v3 : Option Value) (x1 : Int32) (st : List Value) (σ : ma_H), ma_rn ro d 56 (13, [v0, v1, some (.int x1), v3], st, SH, σ) = ma_rn ro d 56 (14, [v0, v1, some (.int x1), v3], .int x1 :: st, SH, σ)) ∧
  (∀ (v0 : Option Value) (v1 : Option Value) (v2 : Option Value) (v3 : Option Value) (x1 : Int32) (a0 : Nat) (σ : ma_H) (hc : hk_cls a0 = 6), ma_rn ro (d + 1) 56 (14, [v0, v1, v2, v3], .int x1 :: .ref a0 :: [], SH, σ) = (ma_ev ro d 50 [.ref a0, .int x1] SH σ).bind (fun q => ma_rn ro (d + 1) 56 (17, [v0, v1, v2, v3], (q.1.toList ++ []), q.2.1, q.2.2))) ∧
  (∀ (v0 : Option Value) (v1 : Option Value) (v3 : Option Value) (x9 : Int32) (a1 : Nat) (st : List Value) (σ : ma_H), ma_rn ro d 56 (17, [v0, v1, some (.int x9), v3], .ref a1 :: st, SH, σ) = ma_rn ro d 56 (18, [v0, v1, some (.int x9), some (.ref a1)], st, SH, σ)) ∧
  (∀ (v0 : Option Value) (v1 : Option Value) (v3 : Option Value) (x9 : Int32) (st : List Value) (σ : ma_H), ma_rn ro d 56 (17, [v0, v1, some (.int x9), v3], .null :: st, SH, σ) = ma_rn ro d 56 (18, [v0, v1, some (.int x9), some .null], st, SH, σ)) ∧
  (∀ (v0 : Option Value) (v1 : Option Value) (v2 : Option Value) (a1 : Nat) (st : List Value) (σ : ma_H), ma_rn ro d 56 (18, [v0, v1, v2, some (.ref a1)], st, SH, σ) = ma_rn ro d 56 (19, [v0, v1, v2, some (.ref a1)], .ref a1 :: st, SH, σ)) ∧
  (∀ (v0 : Option Value) (v1 : Option Value) (v2 : Option Value) (st : List Value) (σ : ma_H), ma_rn ro d 56 (18, [v0, v1, v2, some .null], st, SH, σ) = ma_rn ro d 56 (19, [v0, v1, v2, some .null], .null :: st, SH, σ)) ∧
  (∀ (v0 : Option Value) (v1 : Option Value) (v2 : Option Value) (v3 : Option Value) (a1 : Nat) (st : List Value) (σ : ma_H), ma_rn ro d 56 (19, [v0, v1, v2, v3], .ref a1 :: st, SH, σ) = ma_rn ro d 56 (22, [v0, v1, v2, v3], st, SH, σ)) ∧
  (∀ (v0 : Option Value) (v1 : Option Value) (v2 : Option Value) (v3 : Option Value) (st : List Value) (σ : ma_H), ma_rn ro d 56 (19, [v0, v1, v2, v3], .null :: st, SH, σ) = ma_rn ro d 56 (29, [v0, v1, v2, v3], st, SH, σ)) ∧
  (∀ (v0 : Option Value) (v2 : Option Value) (v3 : Option Value) (x1 : Int32) (st : List Value) (σ : ma_H), ma_rn ro d 56 (22, [v0, some (.int x1), v2, v3], st, SH, σ) = ma_rn ro d 56 (23, [v0, some (.int x1), v2, v3], .int x1 :: st, SH, σ)) ∧
  (∀ (v0 : Option Value) (v1 : Option Value) (v2 : Option Value) (a1 : Nat) (st : List Value) (σ : ma_H), ma_rn ro d 56 (23, [v0, v1, v2, some (.ref a1)], st, SH, σ) = ma_rn ro d 56 (24, [v0, v1, v2, some (.ref a1)], .ref a1 :: st, SH, σ)) ∧
  (∀ (v0 : Option Value) (v1 : Option Value) (v2 : Option Value) (st : List Value) (σ : ma_H), ma_rn ro d 56 (23, [v0, v1, v2, some .null], st, SH, σ) = ma_rn ro d 56 (24, [v0, v1, v2, some .null], .null :: st, SH, σ)) ∧
  (∀ (v0 : Option Value) (v1 : Option Value) (v2 : Option Value) (v3 : Option Value) (a1 : Nat) (st : List Value) (σ : ma_H) (hc : hk_cls a1 = 1), ma_rn ro d 56 (24, [v0, v1, v2, v3], .ref a1 :: st, SH, σ) = ma_rn ro d 56 (27, [v0, v1, v2, v3], .int (σ a1 4) :: st, SH, σ)) ∧
  (∀ (v0 : Option Value) (v1 : Option Value) (v2 : Option Value) (v3 : Option Value) (x1 : Int32) (x2 : Int32) (st : List Value) (σ : ma_H), ma_rn ro d 56 (27, [v0, v1, v2, v3], .int x1 :: .int x2 :: st, SH, σ) = ma_rn ro d 56 (28, [v0, v1, v2, v3], .int (x2 + x1) :: st, SH, σ)) ∧
  (∀ (v1 : Option Value) (v2 : Option Value) (v3 : Option Value) (a9 : Nat) (x1 : Int32) (st : List Value) (σ : ma_H), ma_rn ro d 56 (28, [some (.ref a9), v1, v2, v3], .int x1 :: st, SH, σ) = ma_rn ro d 56 (29, [some (.ref a9), some (.int x1), v2, v3], st, SH, σ)) ∧
  (∀ (v0 : Option Value) (v3 : Option Value) (x1 : Int32) (x9 : Int32) (st : List Value) (σ : ma_H), ma_rn ro d 56 (29, [v0, some (.int x9), some (.int x1), v3], st, SH, σ) = ma_rn ro d 56 (32, [v0, some (.int x9), some (.int (x1 + nI 1)), v3], st, SH, σ)) ∧
  (∀ (v0 : Option Value) (v1 : Option Value) (v2 : Option Value) (v3 : Option Value) (st : List Value) (σ : ma_H), ma_rn ro d 56 (32, [v0, v1, v2, v3], st, SH, σ) = ma_rn ro d 56 (4, [v0, v1, v2, v3], st, SH, σ)) ∧
  (∀ (v0 : Option Value) (v2 : Option Value) (v3 : Option Value) (x1 : Int32) (st : List Value) (σ : ma_H), ma_rn ro d 56 (35, [v0, some (.int x1), v2, v3], st, SH, σ) = ma_rn ro d 56 (36, [v0, some (.int x1), v2, v3], .int x1 :: st, SH, σ)) ∧
  (∀ (v0 : Option Value) (v1 : Option Value) (v2 : Option Value) (v3 : Option Value) (x1 : Int32) (σ : ma_H), ma_rn ro d 56 (36, [v0, v1, v2, v3], [.int x1], SH, σ) = some (some (.int x1), SH, σ)) := ⟨fun v0 v1 v2 v3 st σ => q_iconst e56_0 (by decide),
  fun v1 v2 v3 a9 x1 st σ => q_go e56_1 rfl rfl,
  fun v0 v1 v2 v3 st σ => q_iconst e56_2 (by decide),
  fun v0 v2 v3 x9 x1 st σ => q_go e56_3 rfl rfl,
  fun v1 v2 v3 a1 st σ => q_go e56_5 rfl rfl,
  fun v0 v1 v2 v3 a1 st σ hc => q_getI e56_6 o_56 f_6_24 (by decide) hc,
  fun v0 v1 v2 v3 x1 x2 st σ => (q_cmp e56_9 rfl).trans q_nlt,
  fun v1 v2 v3 a1 st σ => q_go e56_12 rfl rfl,
  fun v0 v1 v3 x1 st σ => q_go e56_13 rfl rfl,
  fun v0 v1 v2 v3 x1 a0 σ hc => q_invV (as := [.int x1]) (rest := []) e56_14 o_56 bn_6_37 c_6_37 m_50 (by decide) rfl rfl (Nat.le_of_ble_eq_true rfl) (Nat.le_of_ble_eq_true rfl) hc,
  fun v0 v1 v3 x9 a1 st σ => q_go e56_17 rfl rfl,
  fun v0 v1 v3 x9 st σ => q_go e56_17 rfl rfl,
  fun v0 v1 v2 a1 st σ => q_go e56_18 rfl rfl,
  fun v0 v1 v2 st σ => q_go e56_18 rfl rfl,
  fun v0 v1 v2 v3 a1 st σ => q_ifnullR e56_19 rfl,
  fun v0 v1 v2 v3 st σ => q_ifnullN e56_19 rfl,
  fun v0 v2 v3 x1 st σ => q_go e56_22 rfl rfl,
  fun v0 v1 v2 a1 st σ => q_go e56_23 rfl rfl,
  fun v0 v1 v2 st σ => q_go e56_23 rfl rfl,
  fun v0 v1 v2 v3 a1 st σ hc => q_getI e56_24 o_56 f_6_62 (by decide) hc,
  fun v0 v1 v2 v3 x1 x2 st σ => q_go e56_27 rfl rfl,
  fun v1 v2 v3 a9 x1 st σ => q_go e56_28 rfl rfl,
  fun v0 v3 x1 x9 st σ => q_iinc e56_29 rfl rfl (by decide),
  fun v0 v1 v2 v3 st σ => q_goto e56_32 rfl,
  fun v0 v2 v3 x1 st σ => q_go e56_35 rfl rfl,
  fun v0 v1 v2 v3 x1 σ => q_iret e56_36 r_56⟩
theorem E56 {ro : ma_RO} {d : Nat} (a0 : Nat) (sh : List ma_Sh) (σ : ma_H) : ma_ev ro d 56 [.ref a0] sh σ = ma_rn ro d 56 (0, [some (.ref a0), none, none, none], [], sh, σ) := q_ent x_56 rfl

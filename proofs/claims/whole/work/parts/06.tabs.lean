/-! The small machine's tables: each row with the tables' word that it stands on, by its place in lw_tbl. -/
theorem in_1 : ∀ w ∈ tables_1_1, w ∈ lw_tbl := fun w h => List.mem_append_right _ (List.mem_append_left _ h)
theorem in_2 : ∀ w ∈ tables_1_2, w ∈ lw_tbl := fun w h => List.mem_append_right _ (List.mem_append_right _ (List.mem_append_left _ h))
theorem in_3 : ∀ w ∈ tables_1_3, w ∈ lw_tbl := fun w h => List.mem_append_right _ (List.mem_append_right _ (List.mem_append_right _ (List.mem_append_left _ h)))
theorem in_4 : ∀ w ∈ tables_1_4, w ∈ lw_tbl := fun w h => List.mem_append_right _ (List.mem_append_right _ (List.mem_append_right _ (List.mem_append_right _ (List.mem_append_left _ h))))
theorem in_5 : ∀ w ∈ tables_1_5, w ∈ lw_tbl := fun w h => List.mem_append_right _ (List.mem_append_right _ (List.mem_append_right _ (List.mem_append_right _ (List.mem_append_right _ h))))
theorem in_p : ∀ q ∈ lw_privs, Cond.selects q.1.cls q.1 q.1 ∈ lw_tbl := fun q h => List.mem_append_left _ (List.mem_map.mpr ⟨q, h, rfl⟩)

def ma_rx (i : Nat) : String := match i with
  | 0 => RX0
  | 1 => RX1
  | 2 => RX2
  | 3 => RX3
  | 4 => RX4
  | 5 => RX5
  | 6 => RX6
  | 7 => RX7
  | 8 => RX8
  | _ => RL
def ma_tx (i : Nat) : u_T := match i with
  | 0 => TX0
  | 1 => TX1
  | 2 => TX2
  | 3 => TX3
  | 4 => TX4
  | 5 => TX5
  | 6 => TX6
  | 7 => TX7
  | _ => TX8
def ma_nx (i : Nat) : Nat := match i with
  | 0 => 2
  | 1 => 9
  | 2 => 6
  | 3 => 4
  | 4 => 4
  | 5 => 8
  | 6 => 5
  | 7 => 10
  | _ => 17
def ma_ty (i : Nat) : Nat → FieldType := match i with
  | 0 => tyX0
  | 1 => tyX1
  | 2 => tyX2
  | 3 => tyX3
  | 4 => tyX4
  | 5 => tyX5
  | 6 => tyX6
  | 7 => tyX7
  | _ => tyX8
theorem ma_cl : ∀ i, i < 9 → vwCl[i]? = some (ma_rx i, ma_tx i, ma_nx i) := fun i h => match i, h with
  | 0, _ => rfl
  | 1, _ => rfl
  | 2, _ => rfl
  | 3, _ => rfl
  | 4, _ => rfl
  | 5, _ => rfl
  | 6, _ => rfl
  | 7, _ => rfl
  | 8, _ => rfl

theorem ma_tyok : ∀ i, i < 9 → ∀ k, k < ma_nx i → parseFieldDescriptor (ma_tx i k).2.2.1 = some (ma_ty i k) := fun i h => match i, h with
  | 0, _ => tyX0_ok
  | 1, _ => tyX1_ok
  | 2, _ => tyX2_ok
  | 3, _ => tyX3_ok
  | 4, _ => tyX4_ok
  | 5, _ => tyX5_ok
  | 6, _ => tyX6_ok
  | 7, _ => tyX7_ok
  | 8, _ => tyX8_ok

theorem ma_nm : ∀ i, i < 9 → ∀ a, a < ma_nx i → ∀ b, b < ma_nx i → a ≠ b → (ma_tx i a).2.1 ≠ (ma_tx i b).2.1 := fun i h => match i, h with
  | 0, _ => nmX0
  | 1, _ => nmX1
  | 2, _ => nmX2
  | 3, _ => nmX3
  | 4, _ => nmX4
  | 5, _ => nmX5
  | 6, _ => nmX6
  | 7, _ => nmX7
  | 8, _ => nmX8

theorem ma_in0 : ∀ w ∈ u_ws RX0 TX0 2, w ∈ lw_tbl := by
  intro w h
  obtain ⟨k, hk, rfl⟩ := List.mem_map.mp h
  have hk := List.mem_range.mp hk
  match k, hk with
  | 0, _ => exact (in_1 _ (List.mem_of_getElem? (i := 228) rfl))
  | 1, _ => exact (in_1 _ (List.mem_of_getElem? (i := 230) rfl))
  | k + 2, h => exact absurd h (by omega)

theorem ma_in1 : ∀ w ∈ u_ws RX1 TX1 9, w ∈ lw_tbl := by
  intro w h
  obtain ⟨k, hk, rfl⟩ := List.mem_map.mp h
  have hk := List.mem_range.mp hk
  match k, hk with
  | 0, _ => exact (in_1 _ (List.mem_of_getElem? (i := 70) rfl))
  | 1, _ => exact (in_1 _ (List.mem_of_getElem? (i := 72) rfl))
  | 2, _ => exact (in_1 _ (List.mem_of_getElem? (i := 74) rfl))
  | 3, _ => exact (in_1 _ (List.mem_of_getElem? (i := 76) rfl))
  | 4, _ => exact (in_1 _ (List.mem_of_getElem? (i := 78) rfl))
  | 5, _ => exact (in_1 _ (List.mem_of_getElem? (i := 80) rfl))
  | 6, _ => exact (in_1 _ (List.mem_of_getElem? (i := 82) rfl))
  | 7, _ => exact (in_1 _ (List.mem_of_getElem? (i := 84) rfl))
  | 8, _ => exact (in_1 _ (List.mem_of_getElem? (i := 86) rfl))
  | k + 9, h => exact absurd h (by omega)

theorem ma_in2 : ∀ w ∈ u_ws RX2 TX2 6, w ∈ lw_tbl := by
  intro w h
  obtain ⟨k, hk, rfl⟩ := List.mem_map.mp h
  have hk := List.mem_range.mp hk
  match k, hk with
  | 0, _ => exact (in_1 _ (List.mem_of_getElem? (i := 124) rfl))
  | 1, _ => exact (in_1 _ (List.mem_of_getElem? (i := 126) rfl))
  | 2, _ => exact (in_1 _ (List.mem_of_getElem? (i := 128) rfl))
  | 3, _ => exact (in_1 _ (List.mem_of_getElem? (i := 130) rfl))
  | 4, _ => exact (in_1 _ (List.mem_of_getElem? (i := 132) rfl))
  | 5, _ => exact (in_1 _ (List.mem_of_getElem? (i := 134) rfl))
  | k + 6, h => exact absurd h (by omega)

theorem ma_in3 : ∀ w ∈ u_ws RX3 TX3 4, w ∈ lw_tbl := by
  intro w h
  obtain ⟨k, hk, rfl⟩ := List.mem_map.mp h
  have hk := List.mem_range.mp hk
  match k, hk with
  | 0, _ => exact (in_1 _ (List.mem_of_getElem? (i := 206) rfl))
  | 1, _ => exact (in_1 _ (List.mem_of_getElem? (i := 208) rfl))
  | 2, _ => exact (in_1 _ (List.mem_of_getElem? (i := 210) rfl))
  | 3, _ => exact (in_1 _ (List.mem_of_getElem? (i := 212) rfl))
  | k + 4, h => exact absurd h (by omega)

theorem ma_in4 : ∀ w ∈ u_ws RX4 TX4 4, w ∈ lw_tbl := by
  intro w h
  obtain ⟨k, hk, rfl⟩ := List.mem_map.mp h
  have hk := List.mem_range.mp hk
  match k, hk with
  | 0, _ => exact (in_1 _ (List.mem_of_getElem? (i := 151) rfl))
  | 1, _ => exact (in_1 _ (List.mem_of_getElem? (i := 153) rfl))
  | 2, _ => exact (in_1 _ (List.mem_of_getElem? (i := 155) rfl))
  | 3, _ => exact (in_1 _ (List.mem_of_getElem? (i := 157) rfl))
  | k + 4, h => exact absurd h (by omega)

theorem ma_in5 : ∀ w ∈ u_ws RX5 TX5 8, w ∈ lw_tbl := by
  intro w h
  obtain ⟨k, hk, rfl⟩ := List.mem_map.mp h
  have hk := List.mem_range.mp hk
  match k, hk with
  | 0, _ => exact (in_1 _ (List.mem_of_getElem? (i := 177) rfl))
  | 1, _ => exact (in_1 _ (List.mem_of_getElem? (i := 179) rfl))
  | 2, _ => exact (in_1 _ (List.mem_of_getElem? (i := 181) rfl))
  | 3, _ => exact (in_1 _ (List.mem_of_getElem? (i := 183) rfl))
  | 4, _ => exact (in_1 _ (List.mem_of_getElem? (i := 185) rfl))
  | 5, _ => exact (in_1 _ (List.mem_of_getElem? (i := 187) rfl))
  | 6, _ => exact (in_1 _ (List.mem_of_getElem? (i := 189) rfl))
  | 7, _ => exact (in_1 _ (List.mem_of_getElem? (i := 191) rfl))
  | k + 8, h => exact absurd h (by omega)

theorem ma_in6 : ∀ w ∈ u_ws RX6 TX6 5, w ∈ lw_tbl := by
  intro w h
  obtain ⟨k, hk, rfl⟩ := List.mem_map.mp h
  have hk := List.mem_range.mp hk
  match k, hk with
  | 0, _ => exact (in_1 _ (List.mem_of_getElem? (i := 99) rfl))
  | 1, _ => exact (in_1 _ (List.mem_of_getElem? (i := 101) rfl))
  | 2, _ => exact (in_1 _ (List.mem_of_getElem? (i := 103) rfl))
  | 3, _ => exact (in_1 _ (List.mem_of_getElem? (i := 105) rfl))
  | 4, _ => exact (in_1 _ (List.mem_of_getElem? (i := 107) rfl))
  | k + 5, h => exact absurd h (by omega)

theorem ma_in7 : ∀ w ∈ u_ws RX7 TX7 10, w ∈ lw_tbl := by
  intro w h
  obtain ⟨k, hk, rfl⟩ := List.mem_map.mp h
  have hk := List.mem_range.mp hk
  match k, hk with
  | 0, _ => exact (in_2 _ (List.mem_of_getElem? (i := 3) rfl))
  | 1, _ => exact (in_2 _ (List.mem_of_getElem? (i := 5) rfl))
  | 2, _ => exact (in_2 _ (List.mem_of_getElem? (i := 7) rfl))
  | 3, _ => exact (in_2 _ (List.mem_of_getElem? (i := 9) rfl))
  | 4, _ => exact (in_2 _ (List.mem_of_getElem? (i := 11) rfl))
  | 5, _ => exact (in_2 _ (List.mem_of_getElem? (i := 13) rfl))
  | 6, _ => exact (in_2 _ (List.mem_of_getElem? (i := 15) rfl))
  | 7, _ => exact (in_2 _ (List.mem_of_getElem? (i := 17) rfl))
  | 8, _ => exact (in_2 _ (List.mem_of_getElem? (i := 19) rfl))
  | 9, _ => exact (in_2 _ (List.mem_of_getElem? (i := 21) rfl))
  | k + 10, h => exact absurd h (by omega)

theorem ma_in8 : ∀ w ∈ u_ws RX8 TX8 17, w ∈ lw_tbl := by
  intro w h
  obtain ⟨k, hk, rfl⟩ := List.mem_map.mp h
  have hk := List.mem_range.mp hk
  match k, hk with
  | 0, _ => exact (in_4 _ (List.mem_of_getElem? (i := 19) rfl))
  | 1, _ => exact (in_4 _ (List.mem_of_getElem? (i := 21) rfl))
  | 2, _ => exact (in_4 _ (List.mem_of_getElem? (i := 23) rfl))
  | 3, _ => exact (in_4 _ (List.mem_of_getElem? (i := 25) rfl))
  | 4, _ => exact (in_4 _ (List.mem_of_getElem? (i := 27) rfl))
  | 5, _ => exact (in_4 _ (List.mem_of_getElem? (i := 29) rfl))
  | 6, _ => exact (in_4 _ (List.mem_of_getElem? (i := 31) rfl))
  | 7, _ => exact (in_4 _ (List.mem_of_getElem? (i := 33) rfl))
  | 8, _ => exact (in_4 _ (List.mem_of_getElem? (i := 35) rfl))
  | 9, _ => exact (in_4 _ (List.mem_of_getElem? (i := 37) rfl))
  | 10, _ => exact (in_4 _ (List.mem_of_getElem? (i := 39) rfl))
  | 11, _ => exact (in_4 _ (List.mem_of_getElem? (i := 41) rfl))
  | 12, _ => exact (in_4 _ (List.mem_of_getElem? (i := 43) rfl))
  | 13, _ => exact (in_4 _ (List.mem_of_getElem? (i := 45) rfl))
  | 14, _ => exact (in_4 _ (List.mem_of_getElem? (i := 47) rfl))
  | 15, _ => exact (in_4 _ (List.mem_of_getElem? (i := 49) rfl))
  | 16, _ => exact (in_4 _ (List.mem_of_getElem? (i := 51) rfl))
  | k + 17, h => exact absurd h (by omega)

theorem ma_in : ∀ i, i < 9 → ∀ w ∈ u_ws (ma_rx i) (ma_tx i) (ma_nx i), w ∈ lw_tbl := fun i h => match i, h with
  | 0, _ => ma_in0
  | 1, _ => ma_in1
  | 2, _ => ma_in2
  | 3, _ => ma_in3
  | 4, _ => ma_in4
  | 5, _ => ma_in5
  | 6, _ => ma_in6
  | 7, _ => ma_in7
  | 8, _ => ma_in8

/-- a method: its class, name, code, locals, answer, parameters, kind (0 virtual, 1 static, 2 <init>) -/
abbrev ma_M : Type := Nat × MethodName × ByteArray × Nat × Option FieldType × Nat × Nat
def ma_MP (r : ma_M) : Prop := Cond.code r.2.1 r.2.2.1 r.2.2.2.1 r.2.2.2.2.1 ∈ lw_tbl ∧ Cond.initialized r.2.1.cls ∈ lw_tbl ∧ r.2.1.cls = ma_rx r.1 ∧ r.1 < 9 ∧ (r.2.1.cls ≠ "java/lang/invoke/MethodHandle" ∧ r.2.1.cls ≠ "java/lang/invoke/VarHandle") ∧ (parseMethodDescriptor r.2.1.desc).map (fun d => d.parameters.length) = some r.2.2.2.2.2.1 ∧ plainName r.2.1.cls = true ∧ r.2.2.2.1 ≤ 60 ∧
  ((r.2.2.2.2.2.2 = 0 ∧ Cond.instanceMethod r.2.1 ∈ lw_tbl ∧ Cond.selects r.2.1.cls r.2.1 r.2.1 ∈ lw_tbl) ∨ (r.2.2.2.2.2.2 = 1 ∧ Cond.static r.2.1 ∈ lw_tbl) ∨ (r.2.2.2.2.2.2 = 2 ∧ Cond.instanceMethod r.2.1 ∈ lw_tbl ∧ r.2.1.name = "<init>" ∧ r.2.2.2.2.1 = none))
theorem ma_q0 : (RX0 ≠ "java/lang/invoke/MethodHandle" ∧ RX0 ≠ "java/lang/invoke/VarHandle") ∧ plainName RX0 = true := ⟨⟨by decide +kernel, by decide +kernel⟩, by decide +kernel⟩
theorem ma_q1 : (RX1 ≠ "java/lang/invoke/MethodHandle" ∧ RX1 ≠ "java/lang/invoke/VarHandle") ∧ plainName RX1 = true := ⟨⟨by decide +kernel, by decide +kernel⟩, by decide +kernel⟩
theorem ma_q2 : (RX2 ≠ "java/lang/invoke/MethodHandle" ∧ RX2 ≠ "java/lang/invoke/VarHandle") ∧ plainName RX2 = true := ⟨⟨by decide +kernel, by decide +kernel⟩, by decide +kernel⟩
theorem ma_q3 : (RX3 ≠ "java/lang/invoke/MethodHandle" ∧ RX3 ≠ "java/lang/invoke/VarHandle") ∧ plainName RX3 = true := ⟨⟨by decide +kernel, by decide +kernel⟩, by decide +kernel⟩
theorem ma_q4 : (RX4 ≠ "java/lang/invoke/MethodHandle" ∧ RX4 ≠ "java/lang/invoke/VarHandle") ∧ plainName RX4 = true := ⟨⟨by decide +kernel, by decide +kernel⟩, by decide +kernel⟩
theorem ma_q5 : (RX5 ≠ "java/lang/invoke/MethodHandle" ∧ RX5 ≠ "java/lang/invoke/VarHandle") ∧ plainName RX5 = true := ⟨⟨by decide +kernel, by decide +kernel⟩, by decide +kernel⟩
theorem ma_q6 : (RX6 ≠ "java/lang/invoke/MethodHandle" ∧ RX6 ≠ "java/lang/invoke/VarHandle") ∧ plainName RX6 = true := ⟨⟨by decide +kernel, by decide +kernel⟩, by decide +kernel⟩
theorem ma_q7 : (RX7 ≠ "java/lang/invoke/MethodHandle" ∧ RX7 ≠ "java/lang/invoke/VarHandle") ∧ plainName RX7 = true := ⟨⟨by decide +kernel, by decide +kernel⟩, by decide +kernel⟩
theorem ma_q8 : (RX8 ≠ "java/lang/invoke/MethodHandle" ∧ RX8 ≠ "java/lang/invoke/VarHandle") ∧ plainName RX8 = true := ⟨⟨by decide +kernel, by decide +kernel⟩, by decide +kernel⟩
theorem ma_mp0 : ma_MP (0, yX0_init, cX0_init, 1, none, 0, 2) := ⟨(in_1 _ (List.mem_of_getElem? (i := 223) rfl)), (in_1 _ (List.mem_of_getElem? (i := 9) rfl)), rfl, by decide, ma_q0.1, by decide +kernel, ma_q0.2, by decide, Or.inr (Or.inr ⟨rfl, (in_1 _ (List.mem_of_getElem? (i := 222) rfl)), rfl, rfl⟩)⟩
theorem ma_mp1 : ma_MP (0, yX0_begin, cX0_begin, 2, none, 1, 0) := ⟨(in_3 _ (List.mem_of_getElem? (i := 181) rfl)), (in_1 _ (List.mem_of_getElem? (i := 9) rfl)), rfl, by decide, ma_q0.1, by decide +kernel, ma_q0.2, by decide, Or.inl ⟨rfl, (in_3 _ (List.mem_of_getElem? (i := 180) rfl)), (in_p (⟨"DidITurnItOff$Bodies", "begin", "(I)V"⟩, _) (List.mem_of_getElem? (i := 20) rfl))⟩⟩
theorem ma_mp2 : ma_MP (0, yX0_bodyAt, cX0_bodyAt, 2, (some FieldType.int), 1, 0) := ⟨(in_3 _ (List.mem_of_getElem? (i := 205) rfl)), (in_1 _ (List.mem_of_getElem? (i := 9) rfl)), rfl, by decide, ma_q0.1, by decide +kernel, ma_q0.2, by decide, Or.inl ⟨rfl, (in_3 _ (List.mem_of_getElem? (i := 203) rfl)), (in_3 _ (List.mem_of_getElem? (i := 204) rfl))⟩⟩
theorem ma_mp3 : ma_MP (0, yX0_clicks, cX0_clicks, 5, (some FieldType.int), 4, 0) := ⟨(in_3 _ (List.mem_of_getElem? (i := 177) rfl)), (in_1 _ (List.mem_of_getElem? (i := 9) rfl)), rfl, by decide, ma_q0.1, by decide +kernel, ma_q0.2, by decide, Or.inl ⟨rfl, (in_3 _ (List.mem_of_getElem? (i := 176) rfl)), (in_p (⟨"DidITurnItOff$Bodies", "clicks", "(LDidITurnItOff$Deed;III)I"⟩, _) (List.mem_of_getElem? (i := 19) rfl))⟩⟩
theorem ma_mp4 : ma_MP (0, yX0_pulls, cX0_pulls, 5, (some FieldType.int), 4, 0) := ⟨(in_3 _ (List.mem_of_getElem? (i := 191) rfl)), (in_1 _ (List.mem_of_getElem? (i := 9) rfl)), rfl, by decide, ma_q0.1, by decide +kernel, ma_q0.2, by decide, Or.inl ⟨rfl, (in_3 _ (List.mem_of_getElem? (i := 190) rfl)), (in_p (⟨"DidITurnItOff$Bodies", "pulls", "(LDidITurnItOff$Deed;III)I"⟩, _) (List.mem_of_getElem? (i := 21) rfl))⟩⟩
theorem ma_mp5 : ma_MP (0, yX0_looks, cX0_looks, 6, (some FieldType.int), 4, 0) := ⟨(in_3 _ (List.mem_of_getElem? (i := 196) rfl)), (in_1 _ (List.mem_of_getElem? (i := 9) rfl)), rfl, by decide, ma_q0.1, by decide +kernel, ma_q0.2, by decide, Or.inl ⟨rfl, (in_3 _ (List.mem_of_getElem? (i := 195) rfl)), (in_p (⟨"DidITurnItOff$Bodies", "looks", "(LDidITurnItOff$Deed;III)I"⟩, _) (List.mem_of_getElem? (i := 22) rfl))⟩⟩
theorem ma_mp6 : ma_MP (1, yX1_init, cX1_init, 2, none, 1, 2) := ⟨(in_1 _ (List.mem_of_getElem? (i := 40) rfl)), (in_1 _ (List.mem_of_getElem? (i := 4) rfl)), rfl, by decide, ma_q1.1, by decide +kernel, ma_q1.2, by decide, Or.inr (Or.inr ⟨rfl, (in_1 _ (List.mem_of_getElem? (i := 39) rfl)), rfl, rfl⟩)⟩
theorem ma_mp7 : ma_MP (1, yX1_start, cX1_start, 4, none, 2, 0) := ⟨(in_2 _ (List.mem_of_getElem? (i := 173) rfl)), (in_1 _ (List.mem_of_getElem? (i := 4) rfl)), rfl, by decide, ma_q1.1, by decide +kernel, ma_q1.2, by decide, Or.inl ⟨rfl, (in_2 _ (List.mem_of_getElem? (i := 171) rfl)), (in_2 _ (List.mem_of_getElem? (i := 172) rfl))⟩⟩
theorem ma_mp8 : ma_MP (1, yX1_copyFrom, cX1_copyFrom, 2, none, 1, 0) := ⟨(in_3 _ (List.mem_of_getElem? (i := 51) rfl)), (in_1 _ (List.mem_of_getElem? (i := 4) rfl)), rfl, by decide, ma_q1.1, by decide +kernel, ma_q1.2, by decide, Or.inl ⟨rfl, (in_3 _ (List.mem_of_getElem? (i := 49) rfl)), (in_3 _ (List.mem_of_getElem? (i := 50) rfl))⟩⟩
theorem ma_mp9 : ma_MP (1, yX1_rowAt, cX1_rowAt, 2, (some FieldType.int), 1, 0) := ⟨(in_2 _ (List.mem_of_getElem? (i := 205) rfl)), (in_1 _ (List.mem_of_getElem? (i := 4) rfl)), rfl, by decide, ma_q1.1, by decide +kernel, ma_q1.2, by decide, Or.inl ⟨rfl, (in_2 _ (List.mem_of_getElem? (i := 203) rfl)), (in_2 _ (List.mem_of_getElem? (i := 204) rfl))⟩⟩
theorem ma_mp10 : ma_MP (1, yX1_setRow, cX1_setRow, 3, none, 2, 0) := ⟨(in_2 _ (List.mem_of_getElem? (i := 222) rfl)), (in_1 _ (List.mem_of_getElem? (i := 4) rfl)), rfl, by decide, ma_q1.1, by decide +kernel, ma_q1.2, by decide, Or.inl ⟨rfl, (in_2 _ (List.mem_of_getElem? (i := 220) rfl)), (in_2 _ (List.mem_of_getElem? (i := 221) rfl))⟩⟩
theorem ma_mp11 : ma_MP (1, yX1_care, cX1_care, 4, (some FieldType.int), 2, 0) := ⟨(in_2 _ (List.mem_of_getElem? (i := 186) rfl)), (in_1 _ (List.mem_of_getElem? (i := 4) rfl)), rfl, by decide, ma_q1.1, by decide +kernel, ma_q1.2, by decide, Or.inl ⟨rfl, (in_2 _ (List.mem_of_getElem? (i := 184) rfl)), (in_2 _ (List.mem_of_getElem? (i := 185) rfl))⟩⟩
theorem ma_mp12 : ma_MP (1, yX1_goMorning, cX1_goMorning, 3, none, 2, 0) := ⟨(in_3 _ (List.mem_of_getElem? (i := 37) rfl)), (in_1 _ (List.mem_of_getElem? (i := 4) rfl)), rfl, by decide, ma_q1.1, by decide +kernel, ma_q1.2, by decide, Or.inl ⟨rfl, (in_3 _ (List.mem_of_getElem? (i := 35) rfl)), (in_3 _ (List.mem_of_getElem? (i := 36) rfl))⟩⟩
theorem ma_mp13 : ma_MP (1, yX1_beLookedAfter, cX1_beLookedAfter, 1, none, 0, 0) := ⟨(in_2 _ (List.mem_of_getElem? (i := 238) rfl)), (in_1 _ (List.mem_of_getElem? (i := 4) rfl)), rfl, by decide, ma_q1.1, by decide +kernel, ma_q1.2, by decide, Or.inl ⟨rfl, (in_2 _ (List.mem_of_getElem? (i := 236) rfl)), (in_2 _ (List.mem_of_getElem? (i := 237) rfl))⟩⟩
theorem ma_mp14 : ma_MP (1, yX1_doubtAt, cX1_doubtAt, 3, (some FieldType.int), 2, 0) := ⟨(in_2 _ (List.mem_of_getElem? (i := 213) rfl)), (in_1 _ (List.mem_of_getElem? (i := 4) rfl)), rfl, by decide, ma_q1.1, by decide +kernel, ma_q1.2, by decide, Or.inl ⟨rfl, (in_2 _ (List.mem_of_getElem? (i := 211) rfl)), (in_2 _ (List.mem_of_getElem? (i := 212) rfl))⟩⟩
theorem ma_mp15 : ma_MP (1, yX1_yardBack, cX1_yardBack, 3, (some FieldType.int), 1, 0) := ⟨(in_2 _ (List.mem_of_getElem? (i := 209) rfl)), (in_1 _ (List.mem_of_getElem? (i := 4) rfl)), rfl, by decide, ma_q1.1, by decide +kernel, ma_q1.2, by decide, Or.inl ⟨rfl, (in_2 _ (List.mem_of_getElem? (i := 207) rfl)), (in_2 _ (List.mem_of_getElem? (i := 208) rfl))⟩⟩
theorem ma_mp16 : ma_MP (2, yX2_init, cX2_init, 1, none, 0, 2) := ⟨(in_1 _ (List.mem_of_getElem? (i := 114) rfl)), (in_1 _ (List.mem_of_getElem? (i := 5) rfl)), rfl, by decide, ma_q2.1, by decide +kernel, ma_q2.2, by decide, Or.inr (Or.inr ⟨rfl, (in_1 _ (List.mem_of_getElem? (i := 113) rfl)), rfl, rfl⟩)⟩
theorem ma_mp17 : ma_MP (2, yX2_clear, cX2_clear, 1, none, 0, 0) := ⟨(in_2 _ (List.mem_of_getElem? (i := 46) rfl)), (in_1 _ (List.mem_of_getElem? (i := 5) rfl)), rfl, by decide, ma_q2.1, by decide +kernel, ma_q2.2, by decide, Or.inl ⟨rfl, (in_2 _ (List.mem_of_getElem? (i := 44) rfl)), (in_2 _ (List.mem_of_getElem? (i := 45) rfl))⟩⟩
theorem ma_mp18 : ma_MP (2, yX2_copyFrom, cX2_copyFrom, 2, none, 1, 0) := ⟨(in_2 _ (List.mem_of_getElem? (i := 157) rfl)), (in_1 _ (List.mem_of_getElem? (i := 5) rfl)), rfl, by decide, ma_q2.1, by decide +kernel, ma_q2.2, by decide, Or.inl ⟨rfl, (in_2 _ (List.mem_of_getElem? (i := 155) rfl)), (in_2 _ (List.mem_of_getElem? (i := 156) rfl))⟩⟩
theorem ma_mp19 : ma_MP (2, yX2_addStep, cX2_addStep, 2, none, 1, 0) := ⟨(in_2 _ (List.mem_of_getElem? (i := 147) rfl)), (in_1 _ (List.mem_of_getElem? (i := 5) rfl)), rfl, by decide, ma_q2.1, by decide +kernel, ma_q2.2, by decide, Or.inl ⟨rfl, (in_2 _ (List.mem_of_getElem? (i := 145) rfl)), (in_2 _ (List.mem_of_getElem? (i := 146) rfl))⟩⟩
theorem ma_mp20 : ma_MP (2, yX2_addTest, cX2_addTest, 4, none, 3, 0) := ⟨(in_2 _ (List.mem_of_getElem? (i := 143) rfl)), (in_1 _ (List.mem_of_getElem? (i := 5) rfl)), rfl, by decide, ma_q2.1, by decide +kernel, ma_q2.2, by decide, Or.inl ⟨rfl, (in_2 _ (List.mem_of_getElem? (i := 141) rfl)), (in_2 _ (List.mem_of_getElem? (i := 142) rfl))⟩⟩
theorem ma_mp21 : ma_MP (2, yX2_endClause, cX2_endClause, 2, none, 1, 0) := ⟨(in_2 _ (List.mem_of_getElem? (i := 153) rfl)), (in_1 _ (List.mem_of_getElem? (i := 5) rfl)), rfl, by decide, ma_q2.1, by decide +kernel, ma_q2.2, by decide, Or.inl ⟨rfl, (in_2 _ (List.mem_of_getElem? (i := 151) rfl)), (in_2 _ (List.mem_of_getElem? (i := 152) rfl))⟩⟩
theorem ma_mp22 : ma_MP (2, yX2_sumOf, cX2_sumOf, 6, (some FieldType.int), 2, 0) := ⟨(in_2 _ (List.mem_of_getElem? (i := 190) rfl)), (in_1 _ (List.mem_of_getElem? (i := 5) rfl)), rfl, by decide, ma_q2.1, by decide +kernel, ma_q2.2, by decide, Or.inl ⟨rfl, (in_2 _ (List.mem_of_getElem? (i := 188) rfl)), (in_2 _ (List.mem_of_getElem? (i := 189) rfl))⟩⟩
theorem ma_mp23 : ma_MP (2, yX2_holds, cX2_holds, 8, (some FieldType.boolean), 4, 0) := ⟨(in_2 _ (List.mem_of_getElem? (i := 194) rfl)), (in_1 _ (List.mem_of_getElem? (i := 5) rfl)), rfl, by decide, ma_q2.1, by decide +kernel, ma_q2.2, by decide, Or.inl ⟨rfl, (in_2 _ (List.mem_of_getElem? (i := 193) rfl)), (in_p (⟨"DidITurnItOff$House", "holds", "(IILDidITurnItOff$Deed;I)Z"⟩, _) (List.mem_of_getElem? (i := 8) rfl))⟩⟩
theorem ma_mp24 : ma_MP (2, yX2_isSo, cX2_isSo, 6, (some FieldType.boolean), 3, 1) := ⟨(in_2 _ (List.mem_of_getElem? (i := 198) rfl)), (in_1 _ (List.mem_of_getElem? (i := 5) rfl)), rfl, by decide, ma_q2.1, by decide +kernel, ma_q2.2, by decide, Or.inr (Or.inl ⟨rfl, (in_2 _ (List.mem_of_getElem? (i := 197) rfl))⟩)⟩
theorem ma_mp25 : ma_MP (2, yX2_measure, cX2_measure, 3, (some FieldType.int), 3, 1) := ⟨(in_2 _ (List.mem_of_getElem? (i := 201) rfl)), (in_1 _ (List.mem_of_getElem? (i := 5) rfl)), rfl, by decide, ma_q2.1, by decide +kernel, ma_q2.2, by decide, Or.inr (Or.inl ⟨rfl, (in_2 _ (List.mem_of_getElem? (i := 200) rfl))⟩)⟩
theorem ma_mp26 : ma_MP (3, yX3_init, cX3_init, 3, none, 2, 2) := ⟨(in_1 _ (List.mem_of_getElem? (i := 200) rfl)), (in_1 _ (List.mem_of_getElem? (i := 8) rfl)), rfl, by decide, ma_q3.1, by decide +kernel, ma_q3.2, by decide, Or.inr (Or.inr ⟨rfl, (in_1 _ (List.mem_of_getElem? (i := 199) rfl)), rfl, rfl⟩)⟩
theorem ma_mp27 : ma_MP (3, yX3_readHouse, cX3_readHouse, 2, (some FieldType.int), 0, 0) := ⟨(in_2 _ (List.mem_of_getElem? (i := 42) rfl)), (in_1 _ (List.mem_of_getElem? (i := 8) rfl)), rfl, by decide, ma_q3.1, by decide +kernel, ma_q3.2, by decide, Or.inl ⟨rfl, (in_2 _ (List.mem_of_getElem? (i := 40) rfl)), (in_2 _ (List.mem_of_getElem? (i := 41) rfl))⟩⟩
theorem ma_mp28 : ma_MP (3, yX3_readClause, cX3_readClause, 3, none, 0, 0) := ⟨(in_2 _ (List.mem_of_getElem? (i := 50) rfl)), (in_1 _ (List.mem_of_getElem? (i := 8) rfl)), rfl, by decide, ma_q3.1, by decide +kernel, ma_q3.2, by decide, Or.inl ⟨rfl, (in_2 _ (List.mem_of_getElem? (i := 49) rfl)), (in_p (⟨"DidITurnItOff$HouseReader", "readClause", "()V"⟩, _) (List.mem_of_getElem? (i := 0) rfl))⟩⟩
theorem ma_mp29 : ma_MP (3, yX3_wordAhead, cX3_wordAhead, 1, (some FieldType.int), 0, 0) := ⟨(in_2 _ (List.mem_of_getElem? (i := 54) rfl)), (in_1 _ (List.mem_of_getElem? (i := 8) rfl)), rfl, by decide, ma_q3.1, by decide +kernel, ma_q3.2, by decide, Or.inl ⟨rfl, (in_2 _ (List.mem_of_getElem? (i := 53) rfl)), (in_p (⟨"DidITurnItOff$HouseReader", "wordAhead", "()I"⟩, _) (List.mem_of_getElem? (i := 1) rfl))⟩⟩
theorem ma_mp30 : ma_MP (3, yX3_readEither, cX3_readEither, 5, none, 1, 0) := ⟨(in_2 _ (List.mem_of_getElem? (i := 129) rfl)), (in_1 _ (List.mem_of_getElem? (i := 8) rfl)), rfl, by decide, ma_q3.1, by decide +kernel, ma_q3.2, by decide, Or.inl ⟨rfl, (in_2 _ (List.mem_of_getElem? (i := 128) rfl)), (in_p (⟨"DidITurnItOff$HouseReader", "readEither", "(I)V"⟩, _) (List.mem_of_getElem? (i := 5) rfl))⟩⟩
theorem ma_mp31 : ma_MP (3, yX3_readFactor, cX3_readFactor, 3, none, 1, 0) := ⟨(in_2 _ (List.mem_of_getElem? (i := 133) rfl)), (in_1 _ (List.mem_of_getElem? (i := 8) rfl)), rfl, by decide, ma_q3.1, by decide +kernel, ma_q3.2, by decide, Or.inl ⟨rfl, (in_2 _ (List.mem_of_getElem? (i := 132) rfl)), (in_p (⟨"DidITurnItOff$HouseReader", "readFactor", "(I)V"⟩, _) (List.mem_of_getElem? (i := 6) rfl))⟩⟩
theorem ma_mp32 : ma_MP (3, yX3_readOneOf, cX3_readOneOf, 4, (some FieldType.int), 1, 0) := ⟨(in_2 _ (List.mem_of_getElem? (i := 138) rfl)), (in_1 _ (List.mem_of_getElem? (i := 8) rfl)), rfl, by decide, ma_q3.1, by decide +kernel, ma_q3.2, by decide, Or.inl ⟨rfl, (in_2 _ (List.mem_of_getElem? (i := 137) rfl)), (in_p (⟨"DidITurnItOff$HouseReader", "readOneOf", "(Ljava/lang/String;)I"⟩, _) (List.mem_of_getElem? (i := 7) rfl))⟩⟩
theorem ma_mp33 : ma_MP (3, yX3_readNumber, cX3_readNumber, 2, (some FieldType.int), 0, 0) := ⟨(in_2 _ (List.mem_of_getElem? (i := 121) rfl)), (in_1 _ (List.mem_of_getElem? (i := 8) rfl)), rfl, by decide, ma_q3.1, by decide +kernel, ma_q3.2, by decide, Or.inl ⟨rfl, (in_2 _ (List.mem_of_getElem? (i := 120) rfl)), (in_p (⟨"DidITurnItOff$HouseReader", "readNumber", "()I"⟩, _) (List.mem_of_getElem? (i := 4) rfl))⟩⟩
theorem ma_mp34 : ma_MP (3, yX3_isDigit, cX3_isDigit, 1, (some FieldType.boolean), 1, 1) := ⟨(in_2 _ (List.mem_of_getElem? (i := 124) rfl)), (in_1 _ (List.mem_of_getElem? (i := 8) rfl)), rfl, by decide, ma_q3.1, by decide +kernel, ma_q3.2, by decide, Or.inr (Or.inl ⟨rfl, (in_2 _ (List.mem_of_getElem? (i := 123) rfl))⟩)⟩
theorem ma_mp35 : ma_MP (3, yX3_take, cX3_take, 3, none, 1, 0) := ⟨(in_2 _ (List.mem_of_getElem? (i := 69) rfl)), (in_1 _ (List.mem_of_getElem? (i := 8) rfl)), rfl, by decide, ma_q3.1, by decide +kernel, ma_q3.2, by decide, Or.inl ⟨rfl, (in_2 _ (List.mem_of_getElem? (i := 68) rfl)), (in_p (⟨"DidITurnItOff$HouseReader", "take", "(Ljava/lang/String;)V"⟩, _) (List.mem_of_getElem? (i := 3) rfl))⟩⟩
theorem ma_mp36 : ma_MP (3, yX3_peek, cX3_peek, 1, (some FieldType.int), 0, 0) := ⟨(in_2 _ (List.mem_of_getElem? (i := 58) rfl)), (in_1 _ (List.mem_of_getElem? (i := 8) rfl)), rfl, by decide, ma_q3.1, by decide +kernel, ma_q3.2, by decide, Or.inl ⟨rfl, (in_2 _ (List.mem_of_getElem? (i := 57) rfl)), (in_p (⟨"DidITurnItOff$HouseReader", "peek", "()I"⟩, _) (List.mem_of_getElem? (i := 2) rfl))⟩⟩
theorem ma_mp37 : ma_MP (4, yX4_init, cX4_init, 3, none, 1, 2) := ⟨(in_1 _ (List.mem_of_getElem? (i := 141) rfl)), (in_1 _ (List.mem_of_getElem? (i := 6) rfl)), rfl, by decide, ma_q4.1, by decide +kernel, ma_q4.2, by decide, Or.inr (Or.inr ⟨rfl, (in_1 _ (List.mem_of_getElem? (i := 140) rfl)), rfl, rfl⟩)⟩
theorem ma_mp38 : ma_MP (4, yX4_has, cX4_has, 2, (some FieldType.boolean), 1, 0) := ⟨(in_3 _ (List.mem_of_getElem? (i := 95) rfl)), (in_1 _ (List.mem_of_getElem? (i := 6) rfl)), rfl, by decide, ma_q4.1, by decide +kernel, ma_q4.2, by decide, Or.inl ⟨rfl, (in_3 _ (List.mem_of_getElem? (i := 94) rfl)), (in_p (⟨"DidITurnItOff$Rows", "has", "(I)Z"⟩, _) (List.mem_of_getElem? (i := 14) rfl))⟩⟩
theorem ma_mp39 : ma_MP (4, yX4_add, cX4_add, 4, (some FieldType.boolean), 3, 0) := ⟨(in_3 _ (List.mem_of_getElem? (i := 91) rfl)), (in_1 _ (List.mem_of_getElem? (i := 6) rfl)), rfl, by decide, ma_q4.1, by decide +kernel, ma_q4.2, by decide, Or.inl ⟨rfl, (in_3 _ (List.mem_of_getElem? (i := 89) rfl)), (in_3 _ (List.mem_of_getElem? (i := 90) rfl))⟩⟩
theorem ma_mp40 : ma_MP (4, yX4_setAt, cX4_setAt, 5, none, 4, 0) := ⟨(in_3 _ (List.mem_of_getElem? (i := 99) rfl)), (in_1 _ (List.mem_of_getElem? (i := 6) rfl)), rfl, by decide, ma_q4.1, by decide +kernel, ma_q4.2, by decide, Or.inl ⟨rfl, (in_3 _ (List.mem_of_getElem? (i := 98) rfl)), (in_p (⟨"DidITurnItOff$Rows", "setAt", "(IIIZ)V"⟩, _) (List.mem_of_getElem? (i := 15) rfl))⟩⟩
theorem ma_mp41 : ma_MP (4, yX4_firstAt, cX4_firstAt, 2, (some FieldType.int), 1, 0) := ⟨(in_3 _ (List.mem_of_getElem? (i := 111) rfl)), (in_1 _ (List.mem_of_getElem? (i := 6) rfl)), rfl, by decide, ma_q4.1, by decide +kernel, ma_q4.2, by decide, Or.inl ⟨rfl, (in_3 _ (List.mem_of_getElem? (i := 109) rfl)), (in_3 _ (List.mem_of_getElem? (i := 110) rfl))⟩⟩
theorem ma_mp42 : ma_MP (4, yX4_secondAt, cX4_secondAt, 2, (some FieldType.int), 1, 0) := ⟨(in_3 _ (List.mem_of_getElem? (i := 115) rfl)), (in_1 _ (List.mem_of_getElem? (i := 6) rfl)), rfl, by decide, ma_q4.1, by decide +kernel, ma_q4.2, by decide, Or.inl ⟨rfl, (in_3 _ (List.mem_of_getElem? (i := 113) rfl)), (in_3 _ (List.mem_of_getElem? (i := 114) rfl))⟩⟩
theorem ma_mp43 : ma_MP (4, yX4_isAt, cX4_isAt, 2, (some FieldType.boolean), 1, 0) := ⟨(in_3 _ (List.mem_of_getElem? (i := 123) rfl)), (in_1 _ (List.mem_of_getElem? (i := 6) rfl)), rfl, by decide, ma_q4.1, by decide +kernel, ma_q4.2, by decide, Or.inl ⟨rfl, (in_3 _ (List.mem_of_getElem? (i := 121) rfl)), (in_3 _ (List.mem_of_getElem? (i := 122) rfl))⟩⟩
theorem ma_mp44 : ma_MP (4, yX4_copyFrom, cX4_copyFrom, 3, none, 1, 0) := ⟨(in_3 _ (List.mem_of_getElem? (i := 225) rfl)), (in_1 _ (List.mem_of_getElem? (i := 6) rfl)), rfl, by decide, ma_q4.1, by decide +kernel, ma_q4.2, by decide, Or.inl ⟨rfl, (in_3 _ (List.mem_of_getElem? (i := 223) rfl)), (in_3 _ (List.mem_of_getElem? (i := 224) rfl))⟩⟩
theorem ma_mp45 : ma_MP (5, yX5_init, cX5_init, 1, none, 0, 2) := ⟨(in_1 _ (List.mem_of_getElem? (i := 27) rfl)), (in_1 _ (List.mem_of_getElem? (i := 2) rfl)), rfl, by decide, ma_q5.1, by decide +kernel, ma_q5.2, by decide, Or.inr (Or.inr ⟨rfl, (in_1 _ (List.mem_of_getElem? (i := 26) rfl)), rfl, rfl⟩)⟩
theorem ma_mp46 : ma_MP (5, yX5_addSign, cX5_addSign, 2, (some FieldType.boolean), 1, 0) := ⟨(in_2 _ (List.mem_of_getElem? (i := 34) rfl)), (in_1 _ (List.mem_of_getElem? (i := 2) rfl)), rfl, by decide, ma_q5.1, by decide +kernel, ma_q5.2, by decide, Or.inl ⟨rfl, (in_2 _ (List.mem_of_getElem? (i := 32) rfl)), (in_2 _ (List.mem_of_getElem? (i := 33) rfl))⟩⟩
theorem ma_mp47 : ma_MP (5, yX5_signAt, cX5_signAt, 2, (some FieldType.int), 1, 0) := ⟨(in_2 _ (List.mem_of_getElem? (i := 62) rfl)), (in_1 _ (List.mem_of_getElem? (i := 2) rfl)), rfl, by decide, ma_q5.1, by decide +kernel, ma_q5.2, by decide, Or.inl ⟨rfl, (in_2 _ (List.mem_of_getElem? (i := 60) rfl)), (in_2 _ (List.mem_of_getElem? (i := 61) rfl))⟩⟩
theorem ma_mp48 : ma_MP (5, yX5_copyFrom, cX5_copyFrom, 2, none, 1, 0) := ⟨(in_3 _ (List.mem_of_getElem? (i := 218) rfl)), (in_1 _ (List.mem_of_getElem? (i := 2) rfl)), rfl, by decide, ma_q5.1, by decide +kernel, ma_q5.2, by decide, Or.inl ⟨rfl, (in_3 _ (List.mem_of_getElem? (i := 216) rfl)), (in_3 _ (List.mem_of_getElem? (i := 217) rfl))⟩⟩
theorem ma_mp49 : ma_MP (6, yX6_init, cX6_init, 2, none, 0, 2) := ⟨(in_1 _ (List.mem_of_getElem? (i := 33) rfl)), (in_1 _ (List.mem_of_getElem? (i := 3) rfl)), rfl, by decide, ma_q6.1, by decide +kernel, ma_q6.2, by decide, Or.inr (Or.inr ⟨rfl, (in_1 _ (List.mem_of_getElem? (i := 32) rfl)), rfl, rfl⟩)⟩
theorem ma_mp50 : ma_MP (6, yX6_find, cX6_find, 2, (some (FieldType.object "DidITurnItOff$Deed")), 1, 0) := ⟨(in_2 _ (List.mem_of_getElem? (i := 181) rfl)), (in_1 _ (List.mem_of_getElem? (i := 3) rfl)), rfl, by decide, ma_q6.1, by decide +kernel, ma_q6.2, by decide, Or.inl ⟨rfl, (in_2 _ (List.mem_of_getElem? (i := 179) rfl)), (in_2 _ (List.mem_of_getElem? (i := 180) rfl))⟩⟩
theorem ma_mp51 : ma_MP (6, yX6_addDeed, cX6_addDeed, 4, (some FieldType.boolean), 2, 0) := ⟨(in_2 _ (List.mem_of_getElem? (i := 169) rfl)), (in_1 _ (List.mem_of_getElem? (i := 3) rfl)), rfl, by decide, ma_q6.1, by decide +kernel, ma_q6.2, by decide, Or.inl ⟨rfl, (in_2 _ (List.mem_of_getElem? (i := 167) rfl)), (in_2 _ (List.mem_of_getElem? (i := 168) rfl))⟩⟩
theorem ma_mp52 : ma_MP (6, yX6_copyFrom, cX6_copyFrom, 5, none, 1, 0) := ⟨(in_3 _ (List.mem_of_getElem? (i := 47) rfl)), (in_1 _ (List.mem_of_getElem? (i := 3) rfl)), rfl, by decide, ma_q6.1, by decide +kernel, ma_q6.2, by decide, Or.inl ⟨rfl, (in_3 _ (List.mem_of_getElem? (i := 45) rfl)), (in_3 _ (List.mem_of_getElem? (i := 46) rfl))⟩⟩
theorem ma_mp53 : ma_MP (6, yX6_goMornings, cX6_goMornings, 4, none, 2, 0) := ⟨(in_3 _ (List.mem_of_getElem? (i := 28) rfl)), (in_1 _ (List.mem_of_getElem? (i := 3) rfl)), rfl, by decide, ma_q6.1, by decide +kernel, ma_q6.2, by decide, Or.inl ⟨rfl, (in_3 _ (List.mem_of_getElem? (i := 26) rfl)), (in_3 _ (List.mem_of_getElem? (i := 27) rfl))⟩⟩
theorem ma_mp54 : ma_MP (6, yX6_goMorning, cX6_goMorning, 4, none, 1, 0) := ⟨(in_3 _ (List.mem_of_getElem? (i := 32) rfl)), (in_1 _ (List.mem_of_getElem? (i := 3) rfl)), rfl, by decide, ma_q6.1, by decide +kernel, ma_q6.2, by decide, Or.inl ⟨rfl, (in_3 _ (List.mem_of_getElem? (i := 30) rfl)), (in_3 _ (List.mem_of_getElem? (i := 31) rfl))⟩⟩
theorem ma_mp55 : ma_MP (6, yX6_leftBits, cX6_leftBits, 4, (some FieldType.int), 0, 0) := ⟨(in_3 _ (List.mem_of_getElem? (i := 19) rfl)), (in_1 _ (List.mem_of_getElem? (i := 3) rfl)), rfl, by decide, ma_q6.1, by decide +kernel, ma_q6.2, by decide, Or.inl ⟨rfl, (in_3 _ (List.mem_of_getElem? (i := 17) rfl)), (in_3 _ (List.mem_of_getElem? (i := 18) rfl))⟩⟩
theorem ma_mp56 : ma_MP (6, yX6_traces, cX6_traces, 4, (some FieldType.int), 0, 0) := ⟨(in_3 _ (List.mem_of_getElem? (i := 148) rfl)), (in_1 _ (List.mem_of_getElem? (i := 3) rfl)), rfl, by decide, ma_q6.1, by decide +kernel, ma_q6.2, by decide, Or.inl ⟨rfl, (in_3 _ (List.mem_of_getElem? (i := 146) rfl)), (in_3 _ (List.mem_of_getElem? (i := 147) rfl))⟩⟩
theorem ma_mp57 : ma_MP (7, yX7_init, cX7_init, 1, none, 0, 2) := ⟨(in_1 _ (List.mem_of_getElem? (i := 19) rfl)), (in_1 _ (List.mem_of_getElem? (i := 1) rfl)), rfl, by decide, ma_q7.1, by decide +kernel, ma_q7.2, by decide, Or.inr (Or.inr ⟨rfl, (in_1 _ (List.mem_of_getElem? (i := 18) rfl)), rfl, rfl⟩)⟩
theorem ma_mp58 : ma_MP (7, yX7_feed, cX7_feed, 2, (some FieldType.int), 1, 0) := ⟨(in_2 _ (List.mem_of_getElem? (i := 27) rfl)), (in_1 _ (List.mem_of_getElem? (i := 1) rfl)), rfl, by decide, ma_q7.1, by decide +kernel, ma_q7.2, by decide, Or.inl ⟨rfl, (in_2 _ (List.mem_of_getElem? (i := 25) rfl)), (in_2 _ (List.mem_of_getElem? (i := 26) rfl))⟩⟩
theorem ma_mp59 : ma_MP (7, yX7_house, cX7_house, 2, (some FieldType.int), 0, 0) := ⟨(in_2 _ (List.mem_of_getElem? (i := 38) rfl)), (in_1 _ (List.mem_of_getElem? (i := 1) rfl)), rfl, by decide, ma_q7.1, by decide +kernel, ma_q7.2, by decide, Or.inl ⟨rfl, (in_2 _ (List.mem_of_getElem? (i := 36) rfl)), (in_2 _ (List.mem_of_getElem? (i := 37) rfl))⟩⟩
theorem ma_mp60 : ma_MP (7, yX7_deed, cX7_deed, 3, (some FieldType.int), 2, 0) := ⟨(in_2 _ (List.mem_of_getElem? (i := 165) rfl)), (in_1 _ (List.mem_of_getElem? (i := 1) rfl)), rfl, by decide, ma_q7.1, by decide +kernel, ma_q7.2, by decide, Or.inl ⟨rfl, (in_2 _ (List.mem_of_getElem? (i := 163) rfl)), (in_2 _ (List.mem_of_getElem? (i := 164) rfl))⟩⟩
theorem ma_mp61 : ma_MP (7, yX7_of, cX7_of, 4, (some FieldType.int), 2, 0) := ⟨(in_2 _ (List.mem_of_getElem? (i := 177) rfl)), (in_1 _ (List.mem_of_getElem? (i := 1) rfl)), rfl, by decide, ma_q7.1, by decide +kernel, ma_q7.2, by decide, Or.inl ⟨rfl, (in_2 _ (List.mem_of_getElem? (i := 175) rfl)), (in_2 _ (List.mem_of_getElem? (i := 176) rfl))⟩⟩
theorem ma_mp62 : ma_MP (7, yX7_row, cX7_row, 6, (some FieldType.int), 3, 0) := ⟨(in_2 _ (List.mem_of_getElem? (i := 217) rfl)), (in_1 _ (List.mem_of_getElem? (i := 1) rfl)), rfl, by decide, ma_q7.1, by decide +kernel, ma_q7.2, by decide, Or.inl ⟨rfl, (in_2 _ (List.mem_of_getElem? (i := 215) rfl)), (in_2 _ (List.mem_of_getElem? (i := 216) rfl))⟩⟩
theorem ma_mp63 : ma_MP (7, yX7_set, cX7_set, 6, (some FieldType.int), 3, 0) := ⟨(in_2 _ (List.mem_of_getElem? (i := 226) rfl)), (in_1 _ (List.mem_of_getElem? (i := 1) rfl)), rfl, by decide, ma_q7.1, by decide +kernel, ma_q7.2, by decide, Or.inl ⟨rfl, (in_2 _ (List.mem_of_getElem? (i := 224) rfl)), (in_2 _ (List.mem_of_getElem? (i := 225) rfl))⟩⟩
theorem ma_mp64 : ma_MP (7, yX7_hurry, cX7_hurry, 3, (some FieldType.int), 1, 0) := ⟨(in_2 _ (List.mem_of_getElem? (i := 230) rfl)), (in_1 _ (List.mem_of_getElem? (i := 1) rfl)), rfl, by decide, ma_q7.1, by decide +kernel, ma_q7.2, by decide, Or.inl ⟨rfl, (in_2 _ (List.mem_of_getElem? (i := 228) rfl)), (in_2 _ (List.mem_of_getElem? (i := 229) rfl))⟩⟩
theorem ma_mp65 : ma_MP (7, yX7_look, cX7_look, 4, (some FieldType.int), 1, 0) := ⟨(in_2 _ (List.mem_of_getElem? (i := 234) rfl)), (in_1 _ (List.mem_of_getElem? (i := 1) rfl)), rfl, by decide, ma_q7.1, by decide +kernel, ma_q7.2, by decide, Or.inl ⟨rfl, (in_2 _ (List.mem_of_getElem? (i := 232) rfl)), (in_2 _ (List.mem_of_getElem? (i := 233) rfl))⟩⟩
theorem ma_mp66 : ma_MP (7, yX7_doubt, cX7_doubt, 4, (some FieldType.int), 2, 0) := ⟨(in_3 _ (List.mem_of_getElem? (i := 10) rfl)), (in_1 _ (List.mem_of_getElem? (i := 1) rfl)), rfl, by decide, ma_q7.1, by decide +kernel, ma_q7.2, by decide, Or.inl ⟨rfl, (in_3 _ (List.mem_of_getElem? (i := 8) rfl)), (in_3 _ (List.mem_of_getElem? (i := 9) rfl))⟩⟩
theorem ma_mp67 : ma_MP (7, yX7_told, cX7_told, 2, (some FieldType.int), 1, 0) := ⟨(in_3 _ (List.mem_of_getElem? (i := 15) rfl)), (in_1 _ (List.mem_of_getElem? (i := 1) rfl)), rfl, by decide, ma_q7.1, by decide +kernel, ma_q7.2, by decide, Or.inl ⟨rfl, (in_3 _ (List.mem_of_getElem? (i := 13) rfl)), (in_3 _ (List.mem_of_getElem? (i := 14) rfl))⟩⟩
theorem ma_mp68 : ma_MP (7, yX7_pass, cX7_pass, 2, (some FieldType.int), 1, 0) := ⟨(in_3 _ (List.mem_of_getElem? (i := 24) rfl)), (in_1 _ (List.mem_of_getElem? (i := 1) rfl)), rfl, by decide, ma_q7.1, by decide +kernel, ma_q7.2, by decide, Or.inl ⟨rfl, (in_3 _ (List.mem_of_getElem? (i := 22) rfl)), (in_3 _ (List.mem_of_getElem? (i := 23) rfl))⟩⟩
theorem ma_mp69 : ma_MP (7, yX7_on, cX7_on, 6, (some FieldType.int), 2, 0) := ⟨(in_3 _ (List.mem_of_getElem? (i := 43) rfl)), (in_1 _ (List.mem_of_getElem? (i := 1) rfl)), rfl, by decide, ma_q7.1, by decide +kernel, ma_q7.2, by decide, Or.inl ⟨rfl, (in_3 _ (List.mem_of_getElem? (i := 41) rfl)), (in_3 _ (List.mem_of_getElem? (i := 42) rfl))⟩⟩
theorem ma_mp70 : ma_MP (7, yX7_best, cX7_best, 6, (some FieldType.int), 2, 0) := ⟨(in_3 _ (List.mem_of_getElem? (i := 56) rfl)), (in_1 _ (List.mem_of_getElem? (i := 1) rfl)), rfl, by decide, ma_q7.1, by decide +kernel, ma_q7.2, by decide, Or.inl ⟨rfl, (in_3 _ (List.mem_of_getElem? (i := 54) rfl)), (in_3 _ (List.mem_of_getElem? (i := 55) rfl))⟩⟩
theorem ma_mp71 : ma_MP (7, yX7_renew, cX7_renew, 6, (some FieldType.int), 3, 0) := ⟨(in_3 _ (List.mem_of_getElem? (i := 68) rfl)), (in_1 _ (List.mem_of_getElem? (i := 1) rfl)), rfl, by decide, ma_q7.1, by decide +kernel, ma_q7.2, by decide, Or.inl ⟨rfl, (in_3 _ (List.mem_of_getElem? (i := 66) rfl)), (in_3 _ (List.mem_of_getElem? (i := 67) rfl))⟩⟩
theorem ma_mp72 : ma_MP (7, yX7_see, cX7_see, 4, (some FieldType.int), 3, 0) := ⟨(in_3 _ (List.mem_of_getElem? (i := 87) rfl)), (in_1 _ (List.mem_of_getElem? (i := 1) rfl)), rfl, by decide, ma_q7.1, by decide +kernel, ma_q7.2, by decide, Or.inl ⟨rfl, (in_3 _ (List.mem_of_getElem? (i := 85) rfl)), (in_3 _ (List.mem_of_getElem? (i := 86) rfl))⟩⟩
theorem ma_mp73 : ma_MP (7, yX7_hurries, cX7_hurries, 5, (some FieldType.int), 1, 0) := ⟨(in_3 _ (List.mem_of_getElem? (i := 103) rfl)), (in_1 _ (List.mem_of_getElem? (i := 1) rfl)), rfl, by decide, ma_q7.1, by decide +kernel, ma_q7.2, by decide, Or.inl ⟨rfl, (in_3 _ (List.mem_of_getElem? (i := 101) rfl)), (in_3 _ (List.mem_of_getElem? (i := 102) rfl))⟩⟩
theorem ma_mp74 : ma_MP (7, yX7_firm, cX7_firm, 7, (some FieldType.int), 2, 0) := ⟨(in_3 _ (List.mem_of_getElem? (i := 127) rfl)), (in_1 _ (List.mem_of_getElem? (i := 1) rfl)), rfl, by decide, ma_q7.1, by decide +kernel, ma_q7.2, by decide, Or.inl ⟨rfl, (in_3 _ (List.mem_of_getElem? (i := 125) rfl)), (in_3 _ (List.mem_of_getElem? (i := 126) rfl))⟩⟩
theorem ma_mp75 : ma_MP (7, yX7_alikes, cX7_alikes, 5, (some FieldType.int), 1, 0) := ⟨(in_3 _ (List.mem_of_getElem? (i := 131) rfl)), (in_1 _ (List.mem_of_getElem? (i := 1) rfl)), rfl, by decide, ma_q7.1, by decide +kernel, ma_q7.2, by decide, Or.inl ⟨rfl, (in_3 _ (List.mem_of_getElem? (i := 129) rfl)), (in_3 _ (List.mem_of_getElem? (i := 130) rfl))⟩⟩
theorem ma_mp76 : ma_MP (7, yX7_odds, cX7_odds, 7, (some FieldType.long), 3, 0) := ⟨(in_3 _ (List.mem_of_getElem? (i := 135) rfl)), (in_1 _ (List.mem_of_getElem? (i := 1) rfl)), rfl, by decide, ma_q7.1, by decide +kernel, ma_q7.2, by decide, Or.inl ⟨rfl, (in_3 _ (List.mem_of_getElem? (i := 133) rfl)), (in_3 _ (List.mem_of_getElem? (i := 134) rfl))⟩⟩
theorem ma_mp77 : ma_MP (7, yX7_mean, cX7_mean, 2, (some FieldType.long), 1, 0) := ⟨(in_3 _ (List.mem_of_getElem? (i := 144) rfl)), (in_1 _ (List.mem_of_getElem? (i := 1) rfl)), rfl, by decide, ma_q7.1, by decide +kernel, ma_q7.2, by decide, Or.inl ⟨rfl, (in_3 _ (List.mem_of_getElem? (i := 142) rfl)), (in_3 _ (List.mem_of_getElem? (i := 143) rfl))⟩⟩
theorem ma_mp78 : ma_MP (7, yX7_plan, cX7_plan, 3, (some FieldType.int), 2, 0) := ⟨(in_3 _ (List.mem_of_getElem? (i := 152) rfl)), (in_1 _ (List.mem_of_getElem? (i := 1) rfl)), rfl, by decide, ma_q7.1, by decide +kernel, ma_q7.2, by decide, Or.inl ⟨rfl, (in_3 _ (List.mem_of_getElem? (i := 150) rfl)), (in_3 _ (List.mem_of_getElem? (i := 151) rfl))⟩⟩
theorem ma_mp79 : ma_MP (7, yX7_done, cX7_done, 3, (some FieldType.int), 1, 0) := ⟨(in_3 _ (List.mem_of_getElem? (i := 156) rfl)), (in_1 _ (List.mem_of_getElem? (i := 1) rfl)), rfl, by decide, ma_q7.1, by decide +kernel, ma_q7.2, by decide, Or.inl ⟨rfl, (in_3 _ (List.mem_of_getElem? (i := 154) rfl)), (in_3 _ (List.mem_of_getElem? (i := 155) rfl))⟩⟩
theorem ma_mp80 : ma_MP (7, yX7_book, cX7_book, 3, (some FieldType.int), 2, 0) := ⟨(in_3 _ (List.mem_of_getElem? (i := 165) rfl)), (in_1 _ (List.mem_of_getElem? (i := 1) rfl)), rfl, by decide, ma_q7.1, by decide +kernel, ma_q7.2, by decide, Or.inl ⟨rfl, (in_3 _ (List.mem_of_getElem? (i := 163) rfl)), (in_3 _ (List.mem_of_getElem? (i := 164) rfl))⟩⟩
theorem ma_mp81 : ma_MP (7, yX7_struck, cX7_struck, 3, (some FieldType.int), 0, 0) := ⟨(in_3 _ (List.mem_of_getElem? (i := 169) rfl)), (in_1 _ (List.mem_of_getElem? (i := 1) rfl)), rfl, by decide, ma_q7.1, by decide +kernel, ma_q7.2, by decide, Or.inl ⟨rfl, (in_3 _ (List.mem_of_getElem? (i := 167) rfl)), (in_3 _ (List.mem_of_getElem? (i := 168) rfl))⟩⟩
theorem ma_mp82 : ma_MP (7, yX7_act, cX7_act, 5, (some FieldType.int), 3, 0) := ⟨(in_3 _ (List.mem_of_getElem? (i := 173) rfl)), (in_1 _ (List.mem_of_getElem? (i := 1) rfl)), rfl, by decide, ma_q7.1, by decide +kernel, ma_q7.2, by decide, Or.inl ⟨rfl, (in_3 _ (List.mem_of_getElem? (i := 171) rfl)), (in_3 _ (List.mem_of_getElem? (i := 172) rfl))⟩⟩
theorem ma_mp83 : ma_MP (7, yX7_trace, cX7_trace, 2, (some FieldType.int), 1, 0) := ⟨(in_3 _ (List.mem_of_getElem? (i := 201) rfl)), (in_1 _ (List.mem_of_getElem? (i := 1) rfl)), rfl, by decide, ma_q7.1, by decide +kernel, ma_q7.2, by decide, Or.inl ⟨rfl, (in_3 _ (List.mem_of_getElem? (i := 199) rfl)), (in_3 _ (List.mem_of_getElem? (i := 200) rfl))⟩⟩
theorem ma_mp84 : ma_MP (7, yX7_as, cX7_as, 6, (some FieldType.int), 2, 0) := ⟨(in_3 _ (List.mem_of_getElem? (i := 209) rfl)), (in_1 _ (List.mem_of_getElem? (i := 1) rfl)), rfl, by decide, ma_q7.1, by decide +kernel, ma_q7.2, by decide, Or.inl ⟨rfl, (in_3 _ (List.mem_of_getElem? (i := 207) rfl)), (in_3 _ (List.mem_of_getElem? (i := 208) rfl))⟩⟩
theorem ma_mp85 : ma_MP (7, yX7_image, cX7_image, 1, (some FieldType.int), 0, 0) := ⟨(in_3 _ (List.mem_of_getElem? (i := 214) rfl)), (in_1 _ (List.mem_of_getElem? (i := 1) rfl)), rfl, by decide, ma_q7.1, by decide +kernel, ma_q7.2, by decide, Or.inl ⟨rfl, (in_3 _ (List.mem_of_getElem? (i := 212) rfl)), (in_3 _ (List.mem_of_getElem? (i := 213) rfl))⟩⟩
theorem ma_mp86 : ma_MP (7, yX7_undo, cX7_undo, 1, (some FieldType.int), 0, 0) := ⟨(in_3 _ (List.mem_of_getElem? (i := 232) rfl)), (in_1 _ (List.mem_of_getElem? (i := 1) rfl)), rfl, by decide, ma_q7.1, by decide +kernel, ma_q7.2, by decide, Or.inl ⟨rfl, (in_3 _ (List.mem_of_getElem? (i := 230) rfl)), (in_3 _ (List.mem_of_getElem? (i := 231) rfl))⟩⟩
theorem ma_mp87 : ma_MP (7, yX7_count, cX7_count, 2, (some FieldType.int), 1, 0) := ⟨(in_3 _ (List.mem_of_getElem? (i := 236) rfl)), (in_1 _ (List.mem_of_getElem? (i := 1) rfl)), rfl, by decide, ma_q7.1, by decide +kernel, ma_q7.2, by decide, Or.inl ⟨rfl, (in_3 _ (List.mem_of_getElem? (i := 234) rfl)), (in_3 _ (List.mem_of_getElem? (i := 235) rfl))⟩⟩
theorem ma_mp88 : ma_MP (7, yX7_isOff, cX7_isOff, 2, (some FieldType.boolean), 2, 1) := ⟨(in_2 _ (List.mem_of_getElem? (i := 30) rfl)), (in_1 _ (List.mem_of_getElem? (i := 1) rfl)), rfl, by decide, ma_q7.1, by decide +kernel, ma_q7.2, by decide, Or.inr (Or.inl ⟨rfl, (in_2 _ (List.mem_of_getElem? (i := 29) rfl))⟩)⟩
theorem ma_mp89 : ma_MP (7, yX7_above, cX7_above, 1, (some FieldType.int), 1, 1) := ⟨(in_3 _ (List.mem_of_getElem? (i := 184) rfl)), (in_1 _ (List.mem_of_getElem? (i := 1) rfl)), rfl, by decide, ma_q7.1, by decide +kernel, ma_q7.2, by decide, Or.inr (Or.inl ⟨rfl, (in_3 _ (List.mem_of_getElem? (i := 183) rfl))⟩)⟩
theorem ma_mp90 : ma_MP (7, yX7_within, cX7_within, 2, (some FieldType.int), 2, 1) := ⟨(in_3 _ (List.mem_of_getElem? (i := 1) rfl)), (in_1 _ (List.mem_of_getElem? (i := 1) rfl)), rfl, by decide, ma_q7.1, by decide +kernel, ma_q7.2, by decide, Or.inr (Or.inl ⟨rfl, (in_3 _ (List.mem_of_getElem? (i := 0) rfl))⟩)⟩
theorem ma_mp91 : ma_MP (7, yX7_copyInts, cX7_copyInts, 3, none, 2, 1) := ⟨(in_2 _ (List.mem_of_getElem? (i := 160) rfl)), (in_1 _ (List.mem_of_getElem? (i := 1) rfl)), rfl, by decide, ma_q7.1, by decide +kernel, ma_q7.2, by decide, Or.inr (Or.inl ⟨rfl, (in_2 _ (List.mem_of_getElem? (i := 159) rfl))⟩)⟩
theorem ma_mp92 : ma_MP (7, yX7_lowest, cX7_lowest, 12, (some FieldType.long), 3, 1) := ⟨(in_3 _ (List.mem_of_getElem? (i := 140) rfl)), (in_1 _ (List.mem_of_getElem? (i := 1) rfl)), rfl, by decide, ma_q7.1, by decide +kernel, ma_q7.2, by decide, Or.inr (Or.inl ⟨rfl, (in_3 _ (List.mem_of_getElem? (i := 139) rfl))⟩)⟩
theorem ma_mp93 : ma_MP (7, yX7_goOne, cX7_goOne, 4, none, 2, 0) := ⟨(in_3 _ (List.mem_of_getElem? (i := 119) rfl)), (in_1 _ (List.mem_of_getElem? (i := 1) rfl)), rfl, by decide, ma_q7.1, by decide +kernel, ma_q7.2, by decide, Or.inl ⟨rfl, (in_3 _ (List.mem_of_getElem? (i := 118) rfl)), (in_p (⟨"DidITurnItOff", "goOne", "(II)V"⟩, _) (List.mem_of_getElem? (i := 17) rfl))⟩⟩
theorem ma_mp94 : ma_MP (7, yX7_isSeenSo, cX7_isSeenSo, 7, (some FieldType.boolean), 4, 0) := ⟨(in_3 _ (List.mem_of_getElem? (i := 107) rfl)), (in_1 _ (List.mem_of_getElem? (i := 1) rfl)), rfl, by decide, ma_q7.1, by decide +kernel, ma_q7.2, by decide, Or.inl ⟨rfl, (in_3 _ (List.mem_of_getElem? (i := 106) rfl)), (in_p (⟨"DidITurnItOff", "isSeenSo", "(IIII)Z"⟩, _) (List.mem_of_getElem? (i := 16) rfl))⟩⟩
theorem ma_mp95 : ma_MP (7, yX7_minutesOf, cX7_minutesOf, 5, (some FieldType.int), 1, 0) := ⟨(in_3 _ (List.mem_of_getElem? (i := 60) rfl)), (in_1 _ (List.mem_of_getElem? (i := 1) rfl)), rfl, by decide, ma_q7.1, by decide +kernel, ma_q7.2, by decide, Or.inl ⟨rfl, (in_3 _ (List.mem_of_getElem? (i := 59) rfl)), (in_p (⟨"DidITurnItOff", "minutesOf", "(I)I"⟩, _) (List.mem_of_getElem? (i := 9) rfl))⟩⟩
theorem ma_mp96 : ma_MP (7, yX7_worthOf, cX7_worthOf, 5, (some FieldType.int), 1, 0) := ⟨(in_3 _ (List.mem_of_getElem? (i := 64) rfl)), (in_1 _ (List.mem_of_getElem? (i := 1) rfl)), rfl, by decide, ma_q7.1, by decide +kernel, ma_q7.2, by decide, Or.inl ⟨rfl, (in_3 _ (List.mem_of_getElem? (i := 63) rfl)), (in_p (⟨"DidITurnItOff", "worthOf", "(I)I"⟩, _) (List.mem_of_getElem? (i := 10) rfl))⟩⟩
theorem ma_mp97 : ma_MP (7, yX7_planFrom, cX7_planFrom, 6, none, 3, 0) := ⟨(in_3 _ (List.mem_of_getElem? (i := 72) rfl)), (in_1 _ (List.mem_of_getElem? (i := 1) rfl)), rfl, by decide, ma_q7.1, by decide +kernel, ma_q7.2, by decide, Or.inl ⟨rfl, (in_3 _ (List.mem_of_getElem? (i := 71) rfl)), (in_p (⟨"DidITurnItOff", "planFrom", "(LDidITurnItOff$Deed;II)V"⟩, _) (List.mem_of_getElem? (i := 11) rfl))⟩⟩
theorem ma_mp98 : ma_MP (7, yX7_planWithout, cX7_planWithout, 5, (some FieldType.int), 4, 0) := ⟨(in_3 _ (List.mem_of_getElem? (i := 76) rfl)), (in_1 _ (List.mem_of_getElem? (i := 1) rfl)), rfl, by decide, ma_q7.1, by decide +kernel, ma_q7.2, by decide, Or.inl ⟨rfl, (in_3 _ (List.mem_of_getElem? (i := 75) rfl)), (in_p (⟨"DidITurnItOff", "planWithout", "(LDidITurnItOff$Deed;III)I"⟩, _) (List.mem_of_getElem? (i := 12) rfl))⟩⟩
theorem ma_mp99 : ma_MP (7, yX7_planAt, cX7_planAt, 2, (some FieldType.int), 1, 0) := ⟨(in_3 _ (List.mem_of_getElem? (i := 83) rfl)), (in_1 _ (List.mem_of_getElem? (i := 1) rfl)), rfl, by decide, ma_q7.1, by decide +kernel, ma_q7.2, by decide, Or.inl ⟨rfl, (in_3 _ (List.mem_of_getElem? (i := 82) rfl)), (in_p (⟨"DidITurnItOff", "planAt", "(I)I"⟩, _) (List.mem_of_getElem? (i := 13) rfl))⟩⟩
theorem ma_mp100 : ma_MP (7, yX7_goStep, cX7_goStep, 4, none, 2, 0) := ⟨(in_3 _ (List.mem_of_getElem? (i := 160) rfl)), (in_1 _ (List.mem_of_getElem? (i := 1) rfl)), rfl, by decide, ma_q7.1, by decide +kernel, ma_q7.2, by decide, Or.inl ⟨rfl, (in_3 _ (List.mem_of_getElem? (i := 159) rfl)), (in_p (⟨"DidITurnItOff", "goStep", "(II)V"⟩, _) (List.mem_of_getElem? (i := 18) rfl))⟩⟩
theorem ma_mp101 : ma_MP (8, yX8_init, cX8_init, 1, none, 0, 2) := ⟨(in_4 _ (List.mem_of_getElem? (i := 1) rfl)), (in_1 _ (List.mem_of_getElem? (i := 10) rfl)), rfl, by decide, ma_q8.1, by decide +kernel, ma_q8.2, by decide, Or.inr (Or.inr ⟨rfl, (in_4 _ (List.mem_of_getElem? (i := 0) rfl)), rfl, rfl⟩)⟩
theorem ma_mp102 : ma_MP (8, yX8_in, cX8_in, 3, (some FieldType.boolean), 3, 1) := ⟨(in_4 _ (List.mem_of_getElem? (i := 60) rfl)), (in_1 _ (List.mem_of_getElem? (i := 10) rfl)), rfl, by decide, ma_q8.1, by decide +kernel, ma_q8.2, by decide, Or.inr (Or.inl ⟨rfl, (in_4 _ (List.mem_of_getElem? (i := 59) rfl))⟩)⟩
theorem ma_mp103 : ma_MP (8, yX8_isDeed, cX8_isDeed, 2, (some FieldType.boolean), 1, 0) := ⟨(in_4 _ (List.mem_of_getElem? (i := 135) rfl)), (in_1 _ (List.mem_of_getElem? (i := 10) rfl)), rfl, by decide, ma_q8.1, by decide +kernel, ma_q8.2, by decide, Or.inl ⟨rfl, (in_4 _ (List.mem_of_getElem? (i := 134) rfl)), (in_p (⟨"DidITurnItOffModel", "isDeed", "(I)Z"⟩, _) (List.mem_of_getElem? (i := 36) rfl))⟩⟩
theorem ma_mp104 : ma_MP (8, yX8_held, cX8_held, 2, (some FieldType.int), 2, 1) := ⟨(in_4 _ (List.mem_of_getElem? (i := 183) rfl)), (in_1 _ (List.mem_of_getElem? (i := 10) rfl)), rfl, by decide, ma_q8.1, by decide +kernel, ma_q8.2, by decide, Or.inr (Or.inl ⟨rfl, (in_4 _ (List.mem_of_getElem? (i := 182) rfl))⟩)⟩
theorem ma_mp105 : ma_MP (8, yX8_keeps, cX8_keeps, 2, none, 0, 0) := ⟨(in_4 _ (List.mem_of_getElem? (i := 216) rfl)), (in_1 _ (List.mem_of_getElem? (i := 10) rfl)), rfl, by decide, ma_q8.1, by decide +kernel, ma_q8.2, by decide, Or.inl ⟨rfl, (in_4 _ (List.mem_of_getElem? (i := 215) rfl)), (in_p (⟨"DidITurnItOffModel", "keeps", "()V"⟩, _) (List.mem_of_getElem? (i := 47) rfl))⟩⟩
theorem ma_mp106 : ma_MP (8, yX8_goesBack, cX8_goesBack, 2, none, 0, 0) := ⟨(in_4 _ (List.mem_of_getElem? (i := 224) rfl)), (in_1 _ (List.mem_of_getElem? (i := 10) rfl)), rfl, by decide, ma_q8.1, by decide +kernel, ma_q8.2, by decide, Or.inl ⟨rfl, (in_4 _ (List.mem_of_getElem? (i := 223) rfl)), (in_p (⟨"DidITurnItOffModel", "goesBack", "()V"⟩, _) (List.mem_of_getElem? (i := 49) rfl))⟩⟩
theorem ma_mp107 : ma_MP (8, yX8_feed, cX8_feed, 2, (some FieldType.int), 1, 0) := ⟨(in_4 _ (List.mem_of_getElem? (i := 57) rfl)), (in_1 _ (List.mem_of_getElem? (i := 10) rfl)), rfl, by decide, ma_q8.1, by decide +kernel, ma_q8.2, by decide, Or.inl ⟨rfl, (in_4 _ (List.mem_of_getElem? (i := 55) rfl)), (in_4 _ (List.mem_of_getElem? (i := 56) rfl))⟩⟩
theorem ma_mp108 : ma_MP (8, yX8_here, cX8_here, 1, (some FieldType.int), 0, 0) := ⟨(in_4 _ (List.mem_of_getElem? (i := 72) rfl)), (in_1 _ (List.mem_of_getElem? (i := 10) rfl)), rfl, by decide, ma_q8.1, by decide +kernel, ma_q8.2, by decide, Or.inl ⟨rfl, (in_4 _ (List.mem_of_getElem? (i := 71) rfl)), (in_p (⟨"DidITurnItOffModel", "here", "()I"⟩, _) (List.mem_of_getElem? (i := 24) rfl))⟩⟩
theorem ma_mp109 : ma_MP (8, yX8_must, cX8_must, 2, none, 1, 0) := ⟨(in_4 _ (List.mem_of_getElem? (i := 87) rfl)), (in_1 _ (List.mem_of_getElem? (i := 10) rfl)), rfl, by decide, ma_q8.1, by decide +kernel, ma_q8.2, by decide, Or.inl ⟨rfl, (in_4 _ (List.mem_of_getElem? (i := 86) rfl)), (in_p (⟨"DidITurnItOffModel", "must", "(I)V"⟩, _) (List.mem_of_getElem? (i := 27) rfl))⟩⟩
theorem ma_mp110 : ma_MP (8, yX8_spells, cX8_spells, 3, none, 1, 0) := ⟨(in_4 _ (List.mem_of_getElem? (i := 81) rfl)), (in_1 _ (List.mem_of_getElem? (i := 10) rfl)), rfl, by decide, ma_q8.1, by decide +kernel, ma_q8.2, by decide, Or.inl ⟨rfl, (in_4 _ (List.mem_of_getElem? (i := 80) rfl)), (in_p (⟨"DidITurnItOffModel", "spells", "(Ljava/lang/String;)V"⟩, _) (List.mem_of_getElem? (i := 26) rfl))⟩⟩
theorem ma_mp111 : ma_MP (8, yX8_figures, cX8_figures, 3, (some FieldType.int), 0, 0) := ⟨(in_4 _ (List.mem_of_getElem? (i := 91) rfl)), (in_1 _ (List.mem_of_getElem? (i := 10) rfl)), rfl, by decide, ma_q8.1, by decide +kernel, ma_q8.2, by decide, Or.inl ⟨rfl, (in_4 _ (List.mem_of_getElem? (i := 90) rfl)), (in_p (⟨"DidITurnItOffModel", "figures", "()I"⟩, _) (List.mem_of_getElem? (i := 28) rfl))⟩⟩
theorem ma_mp112 : ma_MP (8, yX8_among, cX8_among, 3, (some FieldType.int), 1, 0) := ⟨(in_4 _ (List.mem_of_getElem? (i := 121) rfl)), (in_1 _ (List.mem_of_getElem? (i := 10) rfl)), rfl, by decide, ma_q8.1, by decide +kernel, ma_q8.2, by decide, Or.inl ⟨rfl, (in_4 _ (List.mem_of_getElem? (i := 120) rfl)), (in_p (⟨"DidITurnItOffModel", "among", "(Ljava/lang/String;)I"⟩, _) (List.mem_of_getElem? (i := 35) rfl))⟩⟩
theorem ma_mp113 : ma_MP (8, yX8_emits, cX8_emits, 2, none, 1, 0) := ⟨(in_4 _ (List.mem_of_getElem? (i := 116) rfl)), (in_1 _ (List.mem_of_getElem? (i := 10) rfl)), rfl, by decide, ma_q8.1, by decide +kernel, ma_q8.2, by decide, Or.inl ⟨rfl, (in_4 _ (List.mem_of_getElem? (i := 115) rfl)), (in_p (⟨"DidITurnItOffModel", "emits", "(I)V"⟩, _) (List.mem_of_getElem? (i := 34) rfl))⟩⟩
theorem ma_mp114 : ma_MP (8, yX8_factor, cX8_factor, 5, none, 0, 0) := ⟨(in_4 _ (List.mem_of_getElem? (i := 112) rfl)), (in_1 _ (List.mem_of_getElem? (i := 10) rfl)), rfl, by decide, ma_q8.1, by decide +kernel, ma_q8.2, by decide, Or.inl ⟨rfl, (in_4 _ (List.mem_of_getElem? (i := 111) rfl)), (in_p (⟨"DidITurnItOffModel", "factor", "()V"⟩, _) (List.mem_of_getElem? (i := 33) rfl))⟩⟩
theorem ma_mp115 : ma_MP (8, yX8_every, cX8_every, 1, none, 0, 0) := ⟨(in_4 _ (List.mem_of_getElem? (i := 108) rfl)), (in_1 _ (List.mem_of_getElem? (i := 10) rfl)), rfl, by decide, ma_q8.1, by decide +kernel, ma_q8.2, by decide, Or.inl ⟨rfl, (in_4 _ (List.mem_of_getElem? (i := 107) rfl)), (in_p (⟨"DidITurnItOffModel", "every", "()V"⟩, _) (List.mem_of_getElem? (i := 32) rfl))⟩⟩
theorem ma_mp116 : ma_MP (8, yX8_some, cX8_some, 1, none, 0, 0) := ⟨(in_4 _ (List.mem_of_getElem? (i := 104) rfl)), (in_1 _ (List.mem_of_getElem? (i := 10) rfl)), rfl, by decide, ma_q8.1, by decide +kernel, ma_q8.2, by decide, Or.inl ⟨rfl, (in_4 _ (List.mem_of_getElem? (i := 103) rfl)), (in_p (⟨"DidITurnItOffModel", "some", "()V"⟩, _) (List.mem_of_getElem? (i := 31) rfl))⟩⟩
theorem ma_mp117 : ma_MP (8, yX8_much, cX8_much, 4, none, 2, 0) := ⟨(in_4 _ (List.mem_of_getElem? (i := 100) rfl)), (in_1 _ (List.mem_of_getElem? (i := 10) rfl)), rfl, by decide, ma_q8.1, by decide +kernel, ma_q8.2, by decide, Or.inl ⟨rfl, (in_4 _ (List.mem_of_getElem? (i := 99) rfl)), (in_p (⟨"DidITurnItOffModel", "much", "(ILjava/lang/String;)V"⟩, _) (List.mem_of_getElem? (i := 30) rfl))⟩⟩
theorem ma_mp118 : ma_MP (8, yX8_tellsHere, cX8_tellsHere, 4, none, 2, 0) := ⟨(in_4 _ (List.mem_of_getElem? (i := 77) rfl)), (in_1 _ (List.mem_of_getElem? (i := 10) rfl)), rfl, by decide, ma_q8.1, by decide +kernel, ma_q8.2, by decide, Or.inl ⟨rfl, (in_4 _ (List.mem_of_getElem? (i := 76) rfl)), (in_p (⟨"DidITurnItOffModel", "tellsHere", "(ILjava/lang/String;)V"⟩, _) (List.mem_of_getElem? (i := 25) rfl))⟩⟩
theorem ma_mp119 : ma_MP (8, yX8_second, cX8_second, 1, (some FieldType.int), 0, 0) := ⟨(in_4 _ (List.mem_of_getElem? (i := 95) rfl)), (in_1 _ (List.mem_of_getElem? (i := 10) rfl)), rfl, by decide, ma_q8.1, by decide +kernel, ma_q8.2, by decide, Or.inl ⟨rfl, (in_4 _ (List.mem_of_getElem? (i := 94) rfl)), (in_p (⟨"DidITurnItOffModel", "second", "()I"⟩, _) (List.mem_of_getElem? (i := 29) rfl))⟩⟩
theorem ma_mp120 : ma_MP (8, yX8_clauseHere, cX8_clauseHere, 1, none, 0, 0) := ⟨(in_4 _ (List.mem_of_getElem? (i := 68) rfl)), (in_1 _ (List.mem_of_getElem? (i := 10) rfl)), rfl, by decide, ma_q8.1, by decide +kernel, ma_q8.2, by decide, Or.inl ⟨rfl, (in_4 _ (List.mem_of_getElem? (i := 67) rfl)), (in_p (⟨"DidITurnItOffModel", "clauseHere", "()V"⟩, _) (List.mem_of_getElem? (i := 23) rfl))⟩⟩
theorem ma_mp121 : ma_MP (8, yX8_house, cX8_house, 2, (some FieldType.int), 0, 0) := ⟨(in_4 _ (List.mem_of_getElem? (i := 64) rfl)), (in_1 _ (List.mem_of_getElem? (i := 10) rfl)), rfl, by decide, ma_q8.1, by decide +kernel, ma_q8.2, by decide, Or.inl ⟨rfl, (in_4 _ (List.mem_of_getElem? (i := 62) rfl)), (in_4 _ (List.mem_of_getElem? (i := 63) rfl))⟩⟩
theorem ma_mp122 : ma_MP (8, yX8_tellsOf, cX8_tellsOf, 3, (some FieldType.int), 2, 0) := ⟨(in_4 _ (List.mem_of_getElem? (i := 148) rfl)), (in_1 _ (List.mem_of_getElem? (i := 10) rfl)), rfl, by decide, ma_q8.1, by decide +kernel, ma_q8.2, by decide, Or.inl ⟨rfl, (in_4 _ (List.mem_of_getElem? (i := 147) rfl)), (in_p (⟨"DidITurnItOffModel", "tellsOf", "(II)I"⟩, _) (List.mem_of_getElem? (i := 39) rfl))⟩⟩
theorem ma_mp123 : ma_MP (8, yX8_sumOf, cX8_sumOf, 11, (some FieldType.int), 1, 0) := ⟨(in_4 _ (List.mem_of_getElem? (i := 144) rfl)), (in_1 _ (List.mem_of_getElem? (i := 10) rfl)), rfl, by decide, ma_q8.1, by decide +kernel, ma_q8.2, by decide, Or.inl ⟨rfl, (in_4 _ (List.mem_of_getElem? (i := 143) rfl)), (in_p (⟨"DidITurnItOffModel", "sumOf", "(I)I"⟩, _) (List.mem_of_getElem? (i := 38) rfl))⟩⟩
theorem ma_mp124 : ma_MP (8, yX8_careOf, cX8_careOf, 4, (some FieldType.int), 1, 0) := ⟨(in_4 _ (List.mem_of_getElem? (i := 140) rfl)), (in_1 _ (List.mem_of_getElem? (i := 10) rfl)), rfl, by decide, ma_q8.1, by decide +kernel, ma_q8.2, by decide, Or.inl ⟨rfl, (in_4 _ (List.mem_of_getElem? (i := 139) rfl)), (in_p (⟨"DidITurnItOffModel", "careOf", "(I)I"⟩, _) (List.mem_of_getElem? (i := 37) rfl))⟩⟩
theorem ma_mp125 : ma_MP (8, yX8_doubtOf, cX8_doubtOf, 3, (some FieldType.int), 2, 0) := ⟨(in_4 _ (List.mem_of_getElem? (i := 156) rfl)), (in_1 _ (List.mem_of_getElem? (i := 10) rfl)), rfl, by decide, ma_q8.1, by decide +kernel, ma_q8.2, by decide, Or.inl ⟨rfl, (in_4 _ (List.mem_of_getElem? (i := 155) rfl)), (in_p (⟨"DidITurnItOffModel", "doubtOf", "(II)I"⟩, _) (List.mem_of_getElem? (i := 41) rfl))⟩⟩
theorem ma_mp126 : ma_MP (8, yX8_backOf, cX8_backOf, 3, (some FieldType.int), 1, 0) := ⟨(in_4 _ (List.mem_of_getElem? (i := 152) rfl)), (in_1 _ (List.mem_of_getElem? (i := 10) rfl)), rfl, by decide, ma_q8.1, by decide +kernel, ma_q8.2, by decide, Or.inl ⟨rfl, (in_4 _ (List.mem_of_getElem? (i := 151) rfl)), (in_p (⟨"DidITurnItOffModel", "backOf", "(I)I"⟩, _) (List.mem_of_getElem? (i := 40) rfl))⟩⟩
theorem ma_mp127 : ma_MP (8, yX8_becomes, cX8_becomes, 4, (some FieldType.int), 2, 0) := ⟨(in_4 _ (List.mem_of_getElem? (i := 164) rfl)), (in_1 _ (List.mem_of_getElem? (i := 10) rfl)), rfl, by decide, ma_q8.1, by decide +kernel, ma_q8.2, by decide, Or.inl ⟨rfl, (in_4 _ (List.mem_of_getElem? (i := 163) rfl)), (in_p (⟨"DidITurnItOffModel", "becomes", "(II)I"⟩, _) (List.mem_of_getElem? (i := 42) rfl))⟩⟩
theorem ma_mp128 : ma_MP (8, yX8_deed, cX8_deed, 5, (some FieldType.int), 2, 0) := ⟨(in_4 _ (List.mem_of_getElem? (i := 127) rfl)), (in_1 _ (List.mem_of_getElem? (i := 10) rfl)), rfl, by decide, ma_q8.1, by decide +kernel, ma_q8.2, by decide, Or.inl ⟨rfl, (in_4 _ (List.mem_of_getElem? (i := 125) rfl)), (in_4 _ (List.mem_of_getElem? (i := 126) rfl))⟩⟩
theorem ma_mp129 : ma_MP (8, yX8_of, cX8_of, 3, (some FieldType.int), 2, 0) := ⟨(in_4 _ (List.mem_of_getElem? (i := 131) rfl)), (in_1 _ (List.mem_of_getElem? (i := 10) rfl)), rfl, by decide, ma_q8.1, by decide +kernel, ma_q8.2, by decide, Or.inl ⟨rfl, (in_4 _ (List.mem_of_getElem? (i := 129) rfl)), (in_4 _ (List.mem_of_getElem? (i := 130) rfl))⟩⟩
theorem ma_mp130 : ma_MP (8, yX8_row, cX8_row, 4, (some FieldType.int), 3, 0) := ⟨(in_4 _ (List.mem_of_getElem? (i := 160) rfl)), (in_1 _ (List.mem_of_getElem? (i := 10) rfl)), rfl, by decide, ma_q8.1, by decide +kernel, ma_q8.2, by decide, Or.inl ⟨rfl, (in_4 _ (List.mem_of_getElem? (i := 158) rfl)), (in_4 _ (List.mem_of_getElem? (i := 159) rfl))⟩⟩
theorem ma_mp131 : ma_MP (8, yX8_set, cX8_set, 4, (some FieldType.int), 3, 0) := ⟨(in_4 _ (List.mem_of_getElem? (i := 168) rfl)), (in_1 _ (List.mem_of_getElem? (i := 10) rfl)), rfl, by decide, ma_q8.1, by decide +kernel, ma_q8.2, by decide, Or.inl ⟨rfl, (in_4 _ (List.mem_of_getElem? (i := 166) rfl)), (in_4 _ (List.mem_of_getElem? (i := 167) rfl))⟩⟩
theorem ma_mp132 : ma_MP (8, yX8_hurry, cX8_hurry, 2, (some FieldType.int), 1, 0) := ⟨(in_4 _ (List.mem_of_getElem? (i := 172) rfl)), (in_1 _ (List.mem_of_getElem? (i := 10) rfl)), rfl, by decide, ma_q8.1, by decide +kernel, ma_q8.2, by decide, Or.inl ⟨rfl, (in_4 _ (List.mem_of_getElem? (i := 170) rfl)), (in_4 _ (List.mem_of_getElem? (i := 171) rfl))⟩⟩
theorem ma_mp133 : ma_MP (8, yX8_looksAfter, cX8_looksAfter, 2, (some FieldType.int), 1, 0) := ⟨(in_4 _ (List.mem_of_getElem? (i := 180) rfl)), (in_1 _ (List.mem_of_getElem? (i := 10) rfl)), rfl, by decide, ma_q8.1, by decide +kernel, ma_q8.2, by decide, Or.inl ⟨rfl, (in_4 _ (List.mem_of_getElem? (i := 179) rfl)), (in_p (⟨"DidITurnItOffModel", "looksAfter", "(I)I"⟩, _) (List.mem_of_getElem? (i := 43) rfl))⟩⟩
theorem ma_mp134 : ma_MP (8, yX8_look, cX8_look, 2, (some FieldType.int), 1, 0) := ⟨(in_4 _ (List.mem_of_getElem? (i := 176) rfl)), (in_1 _ (List.mem_of_getElem? (i := 10) rfl)), rfl, by decide, ma_q8.1, by decide +kernel, ma_q8.2, by decide, Or.inl ⟨rfl, (in_4 _ (List.mem_of_getElem? (i := 174) rfl)), (in_4 _ (List.mem_of_getElem? (i := 175) rfl))⟩⟩
theorem ma_mp135 : ma_MP (8, yX8_doubt, cX8_doubt, 3, (some FieldType.int), 2, 0) := ⟨(in_4 _ (List.mem_of_getElem? (i := 187) rfl)), (in_1 _ (List.mem_of_getElem? (i := 10) rfl)), rfl, by decide, ma_q8.1, by decide +kernel, ma_q8.2, by decide, Or.inl ⟨rfl, (in_4 _ (List.mem_of_getElem? (i := 185) rfl)), (in_4 _ (List.mem_of_getElem? (i := 186) rfl))⟩⟩
theorem ma_mp136 : ma_MP (8, yX8_leftOnes, cX8_leftOnes, 3, (some FieldType.int), 0, 0) := ⟨(in_4 _ (List.mem_of_getElem? (i := 195) rfl)), (in_1 _ (List.mem_of_getElem? (i := 10) rfl)), rfl, by decide, ma_q8.1, by decide +kernel, ma_q8.2, by decide, Or.inl ⟨rfl, (in_4 _ (List.mem_of_getElem? (i := 194) rfl)), (in_p (⟨"DidITurnItOffModel", "leftOnes", "()I"⟩, _) (List.mem_of_getElem? (i := 44) rfl))⟩⟩
theorem ma_mp137 : ma_MP (8, yX8_told, cX8_told, 2, (some FieldType.int), 1, 0) := ⟨(in_4 _ (List.mem_of_getElem? (i := 191) rfl)), (in_1 _ (List.mem_of_getElem? (i := 10) rfl)), rfl, by decide, ma_q8.1, by decide +kernel, ma_q8.2, by decide, Or.inl ⟨rfl, (in_4 _ (List.mem_of_getElem? (i := 189) rfl)), (in_4 _ (List.mem_of_getElem? (i := 190) rfl))⟩⟩
theorem ma_mp138 : ma_MP (8, yX8_isDone, cX8_isDone, 3, none, 1, 0) := ⟨(in_4 _ (List.mem_of_getElem? (i := 207) rfl)), (in_1 _ (List.mem_of_getElem? (i := 10) rfl)), rfl, by decide, ma_q8.1, by decide +kernel, ma_q8.2, by decide, Or.inl ⟨rfl, (in_4 _ (List.mem_of_getElem? (i := 206) rfl)), (in_p (⟨"DidITurnItOffModel", "isDone", "(I)V"⟩, _) (List.mem_of_getElem? (i := 46) rfl))⟩⟩
theorem ma_mp139 : ma_MP (8, yX8_goes, cX8_goes, 2, none, 0, 0) := ⟨(in_4 _ (List.mem_of_getElem? (i := 203) rfl)), (in_1 _ (List.mem_of_getElem? (i := 10) rfl)), rfl, by decide, ma_q8.1, by decide +kernel, ma_q8.2, by decide, Or.inl ⟨rfl, (in_4 _ (List.mem_of_getElem? (i := 202) rfl)), (in_p (⟨"DidITurnItOffModel", "goes", "()V"⟩, _) (List.mem_of_getElem? (i := 45) rfl))⟩⟩
theorem ma_mp140 : ma_MP (8, yX8_goesOn, cX8_goesOn, 3, none, 1, 0) := ⟨(in_4 _ (List.mem_of_getElem? (i := 220) rfl)), (in_1 _ (List.mem_of_getElem? (i := 10) rfl)), rfl, by decide, ma_q8.1, by decide +kernel, ma_q8.2, by decide, Or.inl ⟨rfl, (in_4 _ (List.mem_of_getElem? (i := 219) rfl)), (in_p (⟨"DidITurnItOffModel", "goesOn", "(I)V"⟩, _) (List.mem_of_getElem? (i := 48) rfl))⟩⟩
theorem ma_mp141 : ma_MP (8, yX8_isDoneOn, cX8_isDoneOn, 4, none, 2, 0) := ⟨(in_5 _ (List.mem_of_getElem? (i := 11) rfl)), (in_1 _ (List.mem_of_getElem? (i := 10) rfl)), rfl, by decide, ma_q8.1, by decide +kernel, ma_q8.2, by decide, Or.inl ⟨rfl, (in_5 _ (List.mem_of_getElem? (i := 10) rfl)), (in_p (⟨"DidITurnItOffModel", "isDoneOn", "(II)V"⟩, _) (List.mem_of_getElem? (i := 53) rfl))⟩⟩
theorem ma_mp142 : ma_MP (8, yX8_pass, cX8_pass, 3, (some FieldType.int), 1, 0) := ⟨(in_4 _ (List.mem_of_getElem? (i := 199) rfl)), (in_1 _ (List.mem_of_getElem? (i := 10) rfl)), rfl, by decide, ma_q8.1, by decide +kernel, ma_q8.2, by decide, Or.inl ⟨rfl, (in_4 _ (List.mem_of_getElem? (i := 197) rfl)), (in_4 _ (List.mem_of_getElem? (i := 198) rfl))⟩⟩
theorem ma_mp143 : ma_MP (8, yX8_on, cX8_on, 4, (some FieldType.int), 2, 0) := ⟨(in_4 _ (List.mem_of_getElem? (i := 212) rfl)), (in_1 _ (List.mem_of_getElem? (i := 10) rfl)), rfl, by decide, ma_q8.1, by decide +kernel, ma_q8.2, by decide, Or.inl ⟨rfl, (in_4 _ (List.mem_of_getElem? (i := 210) rfl)), (in_4 _ (List.mem_of_getElem? (i := 211) rfl))⟩⟩
theorem ma_mp144 : ma_MP (8, yX8_minutesOf, cX8_minutesOf, 4, (some FieldType.int), 1, 0) := ⟨(in_4 _ (List.mem_of_getElem? (i := 232) rfl)), (in_1 _ (List.mem_of_getElem? (i := 10) rfl)), rfl, by decide, ma_q8.1, by decide +kernel, ma_q8.2, by decide, Or.inl ⟨rfl, (in_4 _ (List.mem_of_getElem? (i := 231) rfl)), (in_p (⟨"DidITurnItOffModel", "minutesOf", "(I)I"⟩, _) (List.mem_of_getElem? (i := 50) rfl))⟩⟩
theorem ma_mp145 : ma_MP (8, yX8_doubtsOf, cX8_doubtsOf, 5, (some FieldType.int), 1, 0) := ⟨(in_4 _ (List.mem_of_getElem? (i := 236) rfl)), (in_1 _ (List.mem_of_getElem? (i := 10) rfl)), rfl, by decide, ma_q8.1, by decide +kernel, ma_q8.2, by decide, Or.inl ⟨rfl, (in_4 _ (List.mem_of_getElem? (i := 235) rfl)), (in_p (⟨"DidITurnItOffModel", "doubtsOf", "(I)I"⟩, _) (List.mem_of_getElem? (i := 51) rfl))⟩⟩
theorem ma_mp146 : ma_MP (8, yX8_best, cX8_best, 5, (some FieldType.int), 2, 0) := ⟨(in_4 _ (List.mem_of_getElem? (i := 228) rfl)), (in_1 _ (List.mem_of_getElem? (i := 10) rfl)), rfl, by decide, ma_q8.1, by decide +kernel, ma_q8.2, by decide, Or.inl ⟨rfl, (in_4 _ (List.mem_of_getElem? (i := 226) rfl)), (in_4 _ (List.mem_of_getElem? (i := 227) rfl))⟩⟩
theorem ma_mp147 : ma_MP (8, yX8_staysBy, cX8_staysBy, 7, (some FieldType.boolean), 4, 0) := ⟨(in_5 _ (List.mem_of_getElem? (i := 7) rfl)), (in_1 _ (List.mem_of_getElem? (i := 10) rfl)), rfl, by decide, ma_q8.1, by decide +kernel, ma_q8.2, by decide, Or.inl ⟨rfl, (in_5 _ (List.mem_of_getElem? (i := 6) rfl)), (in_p (⟨"DidITurnItOffModel", "staysBy", "(IIII)Z"⟩, _) (List.mem_of_getElem? (i := 52) rfl))⟩⟩
theorem ma_mp148 : ma_MP (8, yX8_countOf, cX8_countOf, 3, (some FieldType.int), 1, 1) := ⟨(in_5 _ (List.mem_of_getElem? (i := 3) rfl)), (in_1 _ (List.mem_of_getElem? (i := 10) rfl)), rfl, by decide, ma_q8.1, by decide +kernel, ma_q8.2, by decide, Or.inr (Or.inl ⟨rfl, (in_5 _ (List.mem_of_getElem? (i := 2) rfl))⟩)⟩
theorem ma_mp149 : ma_MP (8, yX8_renew, cX8_renew, 7, (some FieldType.int), 3, 0) := ⟨(in_5 _ (List.mem_of_getElem? (i := 0) rfl)), (in_1 _ (List.mem_of_getElem? (i := 10) rfl)), rfl, by decide, ma_q8.1, by decide +kernel, ma_q8.2, by decide, Or.inl ⟨rfl, (in_4 _ (List.mem_of_getElem? (i := 238) rfl)), (in_4 _ (List.mem_of_getElem? (i := 239) rfl))⟩⟩
theorem ma_mp150 : ma_MP (8, yX8_see, cX8_see, 4, (some FieldType.int), 3, 0) := ⟨(in_5 _ (List.mem_of_getElem? (i := 15) rfl)), (in_1 _ (List.mem_of_getElem? (i := 10) rfl)), rfl, by decide, ma_q8.1, by decide +kernel, ma_q8.2, by decide, Or.inl ⟨rfl, (in_5 _ (List.mem_of_getElem? (i := 13) rfl)), (in_5 _ (List.mem_of_getElem? (i := 14) rfl))⟩⟩
theorem ma_mp151 : ma_MP (8, yX8_areAsSeen, cX8_areAsSeen, 6, (some FieldType.boolean), 2, 0) := ⟨(in_5 _ (List.mem_of_getElem? (i := 27) rfl)), (in_1 _ (List.mem_of_getElem? (i := 10) rfl)), rfl, by decide, ma_q8.1, by decide +kernel, ma_q8.2, by decide, Or.inl ⟨rfl, (in_5 _ (List.mem_of_getElem? (i := 26) rfl)), (in_p (⟨"DidITurnItOffModel", "areAsSeen", "(II)Z"⟩, _) (List.mem_of_getElem? (i := 55) rfl))⟩⟩
theorem ma_mp152 : ma_MP (8, yX8_fitting, cX8_fitting, 8, (some FieldType.int), 3, 0) := ⟨(in_5 _ (List.mem_of_getElem? (i := 23) rfl)), (in_1 _ (List.mem_of_getElem? (i := 10) rfl)), rfl, by decide, ma_q8.1, by decide +kernel, ma_q8.2, by decide, Or.inl ⟨rfl, (in_5 _ (List.mem_of_getElem? (i := 22) rfl)), (in_p (⟨"DidITurnItOffModel", "fitting", "(III)I"⟩, _) (List.mem_of_getElem? (i := 54) rfl))⟩⟩
theorem ma_mp153 : ma_MP (8, yX8_hurries, cX8_hurries, 2, (some FieldType.int), 1, 0) := ⟨(in_5 _ (List.mem_of_getElem? (i := 19) rfl)), (in_1 _ (List.mem_of_getElem? (i := 10) rfl)), rfl, by decide, ma_q8.1, by decide +kernel, ma_q8.2, by decide, Or.inl ⟨rfl, (in_5 _ (List.mem_of_getElem? (i := 17) rfl)), (in_5 _ (List.mem_of_getElem? (i := 18) rfl))⟩⟩
theorem ma_mp154 : ma_MP (8, yX8_firm, cX8_firm, 3, (some FieldType.int), 2, 0) := ⟨(in_5 _ (List.mem_of_getElem? (i := 31) rfl)), (in_1 _ (List.mem_of_getElem? (i := 10) rfl)), rfl, by decide, ma_q8.1, by decide +kernel, ma_q8.2, by decide, Or.inl ⟨rfl, (in_5 _ (List.mem_of_getElem? (i := 29) rfl)), (in_5 _ (List.mem_of_getElem? (i := 30) rfl))⟩⟩
theorem ma_mp155 : ma_MP (8, yX8_alikes, cX8_alikes, 4, (some FieldType.int), 1, 0) := ⟨(in_5 _ (List.mem_of_getElem? (i := 35) rfl)), (in_1 _ (List.mem_of_getElem? (i := 10) rfl)), rfl, by decide, ma_q8.1, by decide +kernel, ma_q8.2, by decide, Or.inl ⟨rfl, (in_5 _ (List.mem_of_getElem? (i := 33) rfl)), (in_5 _ (List.mem_of_getElem? (i := 34) rfl))⟩⟩
theorem ma_mp156 : ma_MP (8, yX8_lowest, cX8_lowest, 11, (some FieldType.long), 3, 1) := ⟨(in_5 _ (List.mem_of_getElem? (i := 44) rfl)), (in_1 _ (List.mem_of_getElem? (i := 10) rfl)), rfl, by decide, ma_q8.1, by decide +kernel, ma_q8.2, by decide, Or.inr (Or.inl ⟨rfl, (in_5 _ (List.mem_of_getElem? (i := 43) rfl))⟩)⟩
theorem ma_mp157 : ma_MP (8, yX8_odds, cX8_odds, 7, (some FieldType.long), 3, 0) := ⟨(in_5 _ (List.mem_of_getElem? (i := 39) rfl)), (in_1 _ (List.mem_of_getElem? (i := 10) rfl)), rfl, by decide, ma_q8.1, by decide +kernel, ma_q8.2, by decide, Or.inl ⟨rfl, (in_5 _ (List.mem_of_getElem? (i := 37) rfl)), (in_5 _ (List.mem_of_getElem? (i := 38) rfl))⟩⟩
theorem ma_mp158 : ma_MP (8, yX8_mean, cX8_mean, 5, (some FieldType.long), 1, 0) := ⟨(in_5 _ (List.mem_of_getElem? (i := 48) rfl)), (in_1 _ (List.mem_of_getElem? (i := 10) rfl)), rfl, by decide, ma_q8.1, by decide +kernel, ma_q8.2, by decide, Or.inl ⟨rfl, (in_5 _ (List.mem_of_getElem? (i := 46) rfl)), (in_5 _ (List.mem_of_getElem? (i := 47) rfl))⟩⟩
theorem ma_mp159 : ma_MP (8, yX8_plan, cX8_plan, 3, (some FieldType.int), 2, 0) := ⟨(in_5 _ (List.mem_of_getElem? (i := 52) rfl)), (in_1 _ (List.mem_of_getElem? (i := 10) rfl)), rfl, by decide, ma_q8.1, by decide +kernel, ma_q8.2, by decide, Or.inl ⟨rfl, (in_5 _ (List.mem_of_getElem? (i := 50) rfl)), (in_5 _ (List.mem_of_getElem? (i := 51) rfl))⟩⟩
theorem ma_mp160 : ma_MP (8, yX8_goesBy, cX8_goesBy, 3, none, 2, 0) := ⟨(in_5 _ (List.mem_of_getElem? (i := 60) rfl)), (in_1 _ (List.mem_of_getElem? (i := 10) rfl)), rfl, by decide, ma_q8.1, by decide +kernel, ma_q8.2, by decide, Or.inl ⟨rfl, (in_5 _ (List.mem_of_getElem? (i := 59) rfl)), (in_p (⟨"DidITurnItOffModel", "goesBy", "(II)V"⟩, _) (List.mem_of_getElem? (i := 56) rfl))⟩⟩
theorem ma_mp161 : ma_MP (8, yX8_done, cX8_done, 3, (some FieldType.int), 1, 0) := ⟨(in_5 _ (List.mem_of_getElem? (i := 56) rfl)), (in_1 _ (List.mem_of_getElem? (i := 10) rfl)), rfl, by decide, ma_q8.1, by decide +kernel, ma_q8.2, by decide, Or.inl ⟨rfl, (in_5 _ (List.mem_of_getElem? (i := 54) rfl)), (in_5 _ (List.mem_of_getElem? (i := 55) rfl))⟩⟩
theorem ma_mp162 : ma_MP (8, yX8_book, cX8_book, 3, (some FieldType.int), 2, 0) := ⟨(in_5 _ (List.mem_of_getElem? (i := 64) rfl)), (in_1 _ (List.mem_of_getElem? (i := 10) rfl)), rfl, by decide, ma_q8.1, by decide +kernel, ma_q8.2, by decide, Or.inl ⟨rfl, (in_5 _ (List.mem_of_getElem? (i := 62) rfl)), (in_5 _ (List.mem_of_getElem? (i := 63) rfl))⟩⟩
theorem ma_mp163 : ma_MP (8, yX8_struck, cX8_struck, 2, (some FieldType.int), 0, 0) := ⟨(in_5 _ (List.mem_of_getElem? (i := 68) rfl)), (in_1 _ (List.mem_of_getElem? (i := 10) rfl)), rfl, by decide, ma_q8.1, by decide +kernel, ma_q8.2, by decide, Or.inl ⟨rfl, (in_5 _ (List.mem_of_getElem? (i := 66) rfl)), (in_5 _ (List.mem_of_getElem? (i := 67) rfl))⟩⟩
theorem ma_mp164 : ma_MP (8, yX8_ranBody, cX8_ranBody, 2, none, 1, 0) := ⟨(in_5 _ (List.mem_of_getElem? (i := 83) rfl)), (in_1 _ (List.mem_of_getElem? (i := 10) rfl)), rfl, by decide, ma_q8.1, by decide +kernel, ma_q8.2, by decide, Or.inl ⟨rfl, (in_5 _ (List.mem_of_getElem? (i := 82) rfl)), (in_p (⟨"DidITurnItOffModel", "ranBody", "(I)V"⟩, _) (List.mem_of_getElem? (i := 58) rfl))⟩⟩
theorem ma_mp165 : ma_MP (8, yX8_isUnder, cX8_isUnder, 2, (some FieldType.boolean), 2, 1) := ⟨(in_5 _ (List.mem_of_getElem? (i := 79) rfl)), (in_1 _ (List.mem_of_getElem? (i := 10) rfl)), rfl, by decide, ma_q8.1, by decide +kernel, ma_q8.2, by decide, Or.inr (Or.inl ⟨rfl, (in_5 _ (List.mem_of_getElem? (i := 78) rfl))⟩)⟩
theorem ma_mp166 : ma_MP (8, yX8_plainClicks, cX8_plainClicks, 2, (some FieldType.int), 1, 0) := ⟨(in_5 _ (List.mem_of_getElem? (i := 87) rfl)), (in_1 _ (List.mem_of_getElem? (i := 10) rfl)), rfl, by decide, ma_q8.1, by decide +kernel, ma_q8.2, by decide, Or.inl ⟨rfl, (in_5 _ (List.mem_of_getElem? (i := 86) rfl)), (in_p (⟨"DidITurnItOffModel", "plainClicks", "(I)I"⟩, _) (List.mem_of_getElem? (i := 59) rfl))⟩⟩
theorem ma_mp167 : ma_MP (8, yX8_clicksActs, cX8_clicksActs, 2, (some FieldType.int), 1, 0) := ⟨(in_5 _ (List.mem_of_getElem? (i := 76) rfl)), (in_1 _ (List.mem_of_getElem? (i := 10) rfl)), rfl, by decide, ma_q8.1, by decide +kernel, ma_q8.2, by decide, Or.inl ⟨rfl, (in_5 _ (List.mem_of_getElem? (i := 75) rfl)), (in_p (⟨"DidITurnItOffModel", "clicksActs", "(I)I"⟩, _) (List.mem_of_getElem? (i := 57) rfl))⟩⟩
theorem ma_mp168 : ma_MP (8, yX8_plainPulls, cX8_plainPulls, 2, (some FieldType.int), 1, 0) := ⟨(in_5 _ (List.mem_of_getElem? (i := 95) rfl)), (in_1 _ (List.mem_of_getElem? (i := 10) rfl)), rfl, by decide, ma_q8.1, by decide +kernel, ma_q8.2, by decide, Or.inl ⟨rfl, (in_5 _ (List.mem_of_getElem? (i := 94) rfl)), (in_p (⟨"DidITurnItOffModel", "plainPulls", "(I)I"⟩, _) (List.mem_of_getElem? (i := 61) rfl))⟩⟩
theorem ma_mp169 : ma_MP (8, yX8_pullsActs, cX8_pullsActs, 2, (some FieldType.int), 1, 0) := ⟨(in_5 _ (List.mem_of_getElem? (i := 91) rfl)), (in_1 _ (List.mem_of_getElem? (i := 10) rfl)), rfl, by decide, ma_q8.1, by decide +kernel, ma_q8.2, by decide, Or.inl ⟨rfl, (in_5 _ (List.mem_of_getElem? (i := 90) rfl)), (in_p (⟨"DidITurnItOffModel", "pullsActs", "(I)I"⟩, _) (List.mem_of_getElem? (i := 60) rfl))⟩⟩
theorem ma_mp170 : ma_MP (8, yX8_plainTelling, cX8_plainTelling, 2, (some FieldType.int), 1, 0) := ⟨(in_5 _ (List.mem_of_getElem? (i := 103) rfl)), (in_1 _ (List.mem_of_getElem? (i := 10) rfl)), rfl, by decide, ma_q8.1, by decide +kernel, ma_q8.2, by decide, Or.inl ⟨rfl, (in_5 _ (List.mem_of_getElem? (i := 102) rfl)), (in_p (⟨"DidITurnItOffModel", "plainTelling", "(I)I"⟩, _) (List.mem_of_getElem? (i := 63) rfl))⟩⟩
theorem ma_mp171 : ma_MP (8, yX8_looksActs, cX8_looksActs, 3, (some FieldType.int), 1, 0) := ⟨(in_5 _ (List.mem_of_getElem? (i := 99) rfl)), (in_1 _ (List.mem_of_getElem? (i := 10) rfl)), rfl, by decide, ma_q8.1, by decide +kernel, ma_q8.2, by decide, Or.inl ⟨rfl, (in_5 _ (List.mem_of_getElem? (i := 98) rfl)), (in_p (⟨"DidITurnItOffModel", "looksActs", "(I)I"⟩, _) (List.mem_of_getElem? (i := 62) rfl))⟩⟩
theorem ma_mp172 : ma_MP (8, yX8_act, cX8_act, 4, (some FieldType.int), 3, 0) := ⟨(in_5 _ (List.mem_of_getElem? (i := 72) rfl)), (in_1 _ (List.mem_of_getElem? (i := 10) rfl)), rfl, by decide, ma_q8.1, by decide +kernel, ma_q8.2, by decide, Or.inl ⟨rfl, (in_5 _ (List.mem_of_getElem? (i := 70) rfl)), (in_5 _ (List.mem_of_getElem? (i := 71) rfl))⟩⟩
theorem ma_mp173 : ma_MP (8, yX8_trace, cX8_trace, 2, (some FieldType.int), 1, 0) := ⟨(in_5 _ (List.mem_of_getElem? (i := 107) rfl)), (in_1 _ (List.mem_of_getElem? (i := 10) rfl)), rfl, by decide, ma_q8.1, by decide +kernel, ma_q8.2, by decide, Or.inl ⟨rfl, (in_5 _ (List.mem_of_getElem? (i := 105) rfl)), (in_5 _ (List.mem_of_getElem? (i := 106) rfl))⟩⟩
theorem ma_mp174 : ma_MP (8, yX8_as, cX8_as, 3, (some FieldType.int), 2, 0) := ⟨(in_5 _ (List.mem_of_getElem? (i := 111) rfl)), (in_1 _ (List.mem_of_getElem? (i := 10) rfl)), rfl, by decide, ma_q8.1, by decide +kernel, ma_q8.2, by decide, Or.inl ⟨rfl, (in_5 _ (List.mem_of_getElem? (i := 109) rfl)), (in_5 _ (List.mem_of_getElem? (i := 110) rfl))⟩⟩
theorem ma_mp175 : ma_MP (8, yX8_image, cX8_image, 2, (some FieldType.int), 0, 0) := ⟨(in_5 _ (List.mem_of_getElem? (i := 115) rfl)), (in_1 _ (List.mem_of_getElem? (i := 10) rfl)), rfl, by decide, ma_q8.1, by decide +kernel, ma_q8.2, by decide, Or.inl ⟨rfl, (in_5 _ (List.mem_of_getElem? (i := 113) rfl)), (in_5 _ (List.mem_of_getElem? (i := 114) rfl))⟩⟩
theorem ma_mp176 : ma_MP (8, yX8_undo, cX8_undo, 2, (some FieldType.int), 0, 0) := ⟨(in_5 _ (List.mem_of_getElem? (i := 119) rfl)), (in_1 _ (List.mem_of_getElem? (i := 10) rfl)), rfl, by decide, ma_q8.1, by decide +kernel, ma_q8.2, by decide, Or.inl ⟨rfl, (in_5 _ (List.mem_of_getElem? (i := 117) rfl)), (in_5 _ (List.mem_of_getElem? (i := 118) rfl))⟩⟩
theorem ma_mp177 : ma_MP (8, yX8_count, cX8_count, 2, (some FieldType.int), 1, 0) := ⟨(in_5 _ (List.mem_of_getElem? (i := 123) rfl)), (in_1 _ (List.mem_of_getElem? (i := 10) rfl)), rfl, by decide, ma_q8.1, by decide +kernel, ma_q8.2, by decide, Or.inl ⟨rfl, (in_5 _ (List.mem_of_getElem? (i := 121) rfl)), (in_5 _ (List.mem_of_getElem? (i := 122) rfl))⟩⟩
def ma_mt0 : List ma_M := [(0, yX0_init, cX0_init, 1, none, 0, 2), (0, yX0_begin, cX0_begin, 2, none, 1, 0), (0, yX0_bodyAt, cX0_bodyAt, 2, (some FieldType.int), 1, 0), (0, yX0_clicks, cX0_clicks, 5, (some FieldType.int), 4, 0), (0, yX0_pulls, cX0_pulls, 5, (some FieldType.int), 4, 0), (0, yX0_looks, cX0_looks, 6, (some FieldType.int), 4, 0), (1, yX1_init, cX1_init, 2, none, 1, 2), (1, yX1_start, cX1_start, 4, none, 2, 0), (1, yX1_copyFrom, cX1_copyFrom, 2, none, 1, 0), (1, yX1_rowAt, cX1_rowAt, 2, (some FieldType.int), 1, 0), (1, yX1_setRow, cX1_setRow, 3, none, 2, 0), (1, yX1_care, cX1_care, 4, (some FieldType.int), 2, 0), (1, yX1_goMorning, cX1_goMorning, 3, none, 2, 0), (1, yX1_beLookedAfter, cX1_beLookedAfter, 1, none, 0, 0), (1, yX1_doubtAt, cX1_doubtAt, 3, (some FieldType.int), 2, 0), (1, yX1_yardBack, cX1_yardBack, 3, (some FieldType.int), 1, 0), (2, yX2_init, cX2_init, 1, none, 0, 2), (2, yX2_clear, cX2_clear, 1, none, 0, 0), (2, yX2_copyFrom, cX2_copyFrom, 2, none, 1, 0), (2, yX2_addStep, cX2_addStep, 2, none, 1, 0)]
theorem ma_mr0 : ∀ r ∈ ma_mt0, ma_MP r := List.forall_mem_cons.mpr ⟨ma_mp0, List.forall_mem_cons.mpr ⟨ma_mp1, List.forall_mem_cons.mpr ⟨ma_mp2, List.forall_mem_cons.mpr ⟨ma_mp3, List.forall_mem_cons.mpr ⟨ma_mp4, List.forall_mem_cons.mpr ⟨ma_mp5, List.forall_mem_cons.mpr ⟨ma_mp6, List.forall_mem_cons.mpr ⟨ma_mp7, List.forall_mem_cons.mpr ⟨ma_mp8, List.forall_mem_cons.mpr ⟨ma_mp9, List.forall_mem_cons.mpr ⟨ma_mp10, List.forall_mem_cons.mpr ⟨ma_mp11, List.forall_mem_cons.mpr ⟨ma_mp12, List.forall_mem_cons.mpr ⟨ma_mp13, List.forall_mem_cons.mpr ⟨ma_mp14, List.forall_mem_cons.mpr ⟨ma_mp15, List.forall_mem_cons.mpr ⟨ma_mp16, List.forall_mem_cons.mpr ⟨ma_mp17, List.forall_mem_cons.mpr ⟨ma_mp18, List.forall_mem_cons.mpr ⟨ma_mp19, fun _ h => absurd h List.not_mem_nil⟩⟩⟩⟩⟩⟩⟩⟩⟩⟩⟩⟩⟩⟩⟩⟩⟩⟩⟩⟩
def ma_mt1 : List ma_M := [(2, yX2_addTest, cX2_addTest, 4, none, 3, 0), (2, yX2_endClause, cX2_endClause, 2, none, 1, 0), (2, yX2_sumOf, cX2_sumOf, 6, (some FieldType.int), 2, 0), (2, yX2_holds, cX2_holds, 8, (some FieldType.boolean), 4, 0), (2, yX2_isSo, cX2_isSo, 6, (some FieldType.boolean), 3, 1), (2, yX2_measure, cX2_measure, 3, (some FieldType.int), 3, 1), (3, yX3_init, cX3_init, 3, none, 2, 2), (3, yX3_readHouse, cX3_readHouse, 2, (some FieldType.int), 0, 0), (3, yX3_readClause, cX3_readClause, 3, none, 0, 0), (3, yX3_wordAhead, cX3_wordAhead, 1, (some FieldType.int), 0, 0), (3, yX3_readEither, cX3_readEither, 5, none, 1, 0), (3, yX3_readFactor, cX3_readFactor, 3, none, 1, 0), (3, yX3_readOneOf, cX3_readOneOf, 4, (some FieldType.int), 1, 0), (3, yX3_readNumber, cX3_readNumber, 2, (some FieldType.int), 0, 0), (3, yX3_isDigit, cX3_isDigit, 1, (some FieldType.boolean), 1, 1), (3, yX3_take, cX3_take, 3, none, 1, 0), (3, yX3_peek, cX3_peek, 1, (some FieldType.int), 0, 0), (4, yX4_init, cX4_init, 3, none, 1, 2), (4, yX4_has, cX4_has, 2, (some FieldType.boolean), 1, 0), (4, yX4_add, cX4_add, 4, (some FieldType.boolean), 3, 0)]
theorem ma_mr1 : ∀ r ∈ ma_mt1, ma_MP r := List.forall_mem_cons.mpr ⟨ma_mp20, List.forall_mem_cons.mpr ⟨ma_mp21, List.forall_mem_cons.mpr ⟨ma_mp22, List.forall_mem_cons.mpr ⟨ma_mp23, List.forall_mem_cons.mpr ⟨ma_mp24, List.forall_mem_cons.mpr ⟨ma_mp25, List.forall_mem_cons.mpr ⟨ma_mp26, List.forall_mem_cons.mpr ⟨ma_mp27, List.forall_mem_cons.mpr ⟨ma_mp28, List.forall_mem_cons.mpr ⟨ma_mp29, List.forall_mem_cons.mpr ⟨ma_mp30, List.forall_mem_cons.mpr ⟨ma_mp31, List.forall_mem_cons.mpr ⟨ma_mp32, List.forall_mem_cons.mpr ⟨ma_mp33, List.forall_mem_cons.mpr ⟨ma_mp34, List.forall_mem_cons.mpr ⟨ma_mp35, List.forall_mem_cons.mpr ⟨ma_mp36, List.forall_mem_cons.mpr ⟨ma_mp37, List.forall_mem_cons.mpr ⟨ma_mp38, List.forall_mem_cons.mpr ⟨ma_mp39, fun _ h => absurd h List.not_mem_nil⟩⟩⟩⟩⟩⟩⟩⟩⟩⟩⟩⟩⟩⟩⟩⟩⟩⟩⟩⟩
def ma_mt2 : List ma_M := [(4, yX4_setAt, cX4_setAt, 5, none, 4, 0), (4, yX4_firstAt, cX4_firstAt, 2, (some FieldType.int), 1, 0), (4, yX4_secondAt, cX4_secondAt, 2, (some FieldType.int), 1, 0), (4, yX4_isAt, cX4_isAt, 2, (some FieldType.boolean), 1, 0), (4, yX4_copyFrom, cX4_copyFrom, 3, none, 1, 0), (5, yX5_init, cX5_init, 1, none, 0, 2), (5, yX5_addSign, cX5_addSign, 2, (some FieldType.boolean), 1, 0), (5, yX5_signAt, cX5_signAt, 2, (some FieldType.int), 1, 0), (5, yX5_copyFrom, cX5_copyFrom, 2, none, 1, 0), (6, yX6_init, cX6_init, 2, none, 0, 2), (6, yX6_find, cX6_find, 2, (some (FieldType.object "DidITurnItOff$Deed")), 1, 0), (6, yX6_addDeed, cX6_addDeed, 4, (some FieldType.boolean), 2, 0), (6, yX6_copyFrom, cX6_copyFrom, 5, none, 1, 0), (6, yX6_goMornings, cX6_goMornings, 4, none, 2, 0), (6, yX6_goMorning, cX6_goMorning, 4, none, 1, 0), (6, yX6_leftBits, cX6_leftBits, 4, (some FieldType.int), 0, 0), (6, yX6_traces, cX6_traces, 4, (some FieldType.int), 0, 0), (7, yX7_init, cX7_init, 1, none, 0, 2), (7, yX7_feed, cX7_feed, 2, (some FieldType.int), 1, 0), (7, yX7_house, cX7_house, 2, (some FieldType.int), 0, 0)]
theorem ma_mr2 : ∀ r ∈ ma_mt2, ma_MP r := List.forall_mem_cons.mpr ⟨ma_mp40, List.forall_mem_cons.mpr ⟨ma_mp41, List.forall_mem_cons.mpr ⟨ma_mp42, List.forall_mem_cons.mpr ⟨ma_mp43, List.forall_mem_cons.mpr ⟨ma_mp44, List.forall_mem_cons.mpr ⟨ma_mp45, List.forall_mem_cons.mpr ⟨ma_mp46, List.forall_mem_cons.mpr ⟨ma_mp47, List.forall_mem_cons.mpr ⟨ma_mp48, List.forall_mem_cons.mpr ⟨ma_mp49, List.forall_mem_cons.mpr ⟨ma_mp50, List.forall_mem_cons.mpr ⟨ma_mp51, List.forall_mem_cons.mpr ⟨ma_mp52, List.forall_mem_cons.mpr ⟨ma_mp53, List.forall_mem_cons.mpr ⟨ma_mp54, List.forall_mem_cons.mpr ⟨ma_mp55, List.forall_mem_cons.mpr ⟨ma_mp56, List.forall_mem_cons.mpr ⟨ma_mp57, List.forall_mem_cons.mpr ⟨ma_mp58, List.forall_mem_cons.mpr ⟨ma_mp59, fun _ h => absurd h List.not_mem_nil⟩⟩⟩⟩⟩⟩⟩⟩⟩⟩⟩⟩⟩⟩⟩⟩⟩⟩⟩⟩
def ma_mt3 : List ma_M := [(7, yX7_deed, cX7_deed, 3, (some FieldType.int), 2, 0), (7, yX7_of, cX7_of, 4, (some FieldType.int), 2, 0), (7, yX7_row, cX7_row, 6, (some FieldType.int), 3, 0), (7, yX7_set, cX7_set, 6, (some FieldType.int), 3, 0), (7, yX7_hurry, cX7_hurry, 3, (some FieldType.int), 1, 0), (7, yX7_look, cX7_look, 4, (some FieldType.int), 1, 0), (7, yX7_doubt, cX7_doubt, 4, (some FieldType.int), 2, 0), (7, yX7_told, cX7_told, 2, (some FieldType.int), 1, 0), (7, yX7_pass, cX7_pass, 2, (some FieldType.int), 1, 0), (7, yX7_on, cX7_on, 6, (some FieldType.int), 2, 0), (7, yX7_best, cX7_best, 6, (some FieldType.int), 2, 0), (7, yX7_renew, cX7_renew, 6, (some FieldType.int), 3, 0), (7, yX7_see, cX7_see, 4, (some FieldType.int), 3, 0), (7, yX7_hurries, cX7_hurries, 5, (some FieldType.int), 1, 0), (7, yX7_firm, cX7_firm, 7, (some FieldType.int), 2, 0), (7, yX7_alikes, cX7_alikes, 5, (some FieldType.int), 1, 0), (7, yX7_odds, cX7_odds, 7, (some FieldType.long), 3, 0), (7, yX7_mean, cX7_mean, 2, (some FieldType.long), 1, 0), (7, yX7_plan, cX7_plan, 3, (some FieldType.int), 2, 0), (7, yX7_done, cX7_done, 3, (some FieldType.int), 1, 0)]
theorem ma_mr3 : ∀ r ∈ ma_mt3, ma_MP r := List.forall_mem_cons.mpr ⟨ma_mp60, List.forall_mem_cons.mpr ⟨ma_mp61, List.forall_mem_cons.mpr ⟨ma_mp62, List.forall_mem_cons.mpr ⟨ma_mp63, List.forall_mem_cons.mpr ⟨ma_mp64, List.forall_mem_cons.mpr ⟨ma_mp65, List.forall_mem_cons.mpr ⟨ma_mp66, List.forall_mem_cons.mpr ⟨ma_mp67, List.forall_mem_cons.mpr ⟨ma_mp68, List.forall_mem_cons.mpr ⟨ma_mp69, List.forall_mem_cons.mpr ⟨ma_mp70, List.forall_mem_cons.mpr ⟨ma_mp71, List.forall_mem_cons.mpr ⟨ma_mp72, List.forall_mem_cons.mpr ⟨ma_mp73, List.forall_mem_cons.mpr ⟨ma_mp74, List.forall_mem_cons.mpr ⟨ma_mp75, List.forall_mem_cons.mpr ⟨ma_mp76, List.forall_mem_cons.mpr ⟨ma_mp77, List.forall_mem_cons.mpr ⟨ma_mp78, List.forall_mem_cons.mpr ⟨ma_mp79, fun _ h => absurd h List.not_mem_nil⟩⟩⟩⟩⟩⟩⟩⟩⟩⟩⟩⟩⟩⟩⟩⟩⟩⟩⟩⟩
def ma_mt4 : List ma_M := [(7, yX7_book, cX7_book, 3, (some FieldType.int), 2, 0), (7, yX7_struck, cX7_struck, 3, (some FieldType.int), 0, 0), (7, yX7_act, cX7_act, 5, (some FieldType.int), 3, 0), (7, yX7_trace, cX7_trace, 2, (some FieldType.int), 1, 0), (7, yX7_as, cX7_as, 6, (some FieldType.int), 2, 0), (7, yX7_image, cX7_image, 1, (some FieldType.int), 0, 0), (7, yX7_undo, cX7_undo, 1, (some FieldType.int), 0, 0), (7, yX7_count, cX7_count, 2, (some FieldType.int), 1, 0), (7, yX7_isOff, cX7_isOff, 2, (some FieldType.boolean), 2, 1), (7, yX7_above, cX7_above, 1, (some FieldType.int), 1, 1), (7, yX7_within, cX7_within, 2, (some FieldType.int), 2, 1), (7, yX7_copyInts, cX7_copyInts, 3, none, 2, 1), (7, yX7_lowest, cX7_lowest, 12, (some FieldType.long), 3, 1), (7, yX7_goOne, cX7_goOne, 4, none, 2, 0), (7, yX7_isSeenSo, cX7_isSeenSo, 7, (some FieldType.boolean), 4, 0), (7, yX7_minutesOf, cX7_minutesOf, 5, (some FieldType.int), 1, 0), (7, yX7_worthOf, cX7_worthOf, 5, (some FieldType.int), 1, 0), (7, yX7_planFrom, cX7_planFrom, 6, none, 3, 0), (7, yX7_planWithout, cX7_planWithout, 5, (some FieldType.int), 4, 0), (7, yX7_planAt, cX7_planAt, 2, (some FieldType.int), 1, 0)]
theorem ma_mr4 : ∀ r ∈ ma_mt4, ma_MP r := List.forall_mem_cons.mpr ⟨ma_mp80, List.forall_mem_cons.mpr ⟨ma_mp81, List.forall_mem_cons.mpr ⟨ma_mp82, List.forall_mem_cons.mpr ⟨ma_mp83, List.forall_mem_cons.mpr ⟨ma_mp84, List.forall_mem_cons.mpr ⟨ma_mp85, List.forall_mem_cons.mpr ⟨ma_mp86, List.forall_mem_cons.mpr ⟨ma_mp87, List.forall_mem_cons.mpr ⟨ma_mp88, List.forall_mem_cons.mpr ⟨ma_mp89, List.forall_mem_cons.mpr ⟨ma_mp90, List.forall_mem_cons.mpr ⟨ma_mp91, List.forall_mem_cons.mpr ⟨ma_mp92, List.forall_mem_cons.mpr ⟨ma_mp93, List.forall_mem_cons.mpr ⟨ma_mp94, List.forall_mem_cons.mpr ⟨ma_mp95, List.forall_mem_cons.mpr ⟨ma_mp96, List.forall_mem_cons.mpr ⟨ma_mp97, List.forall_mem_cons.mpr ⟨ma_mp98, List.forall_mem_cons.mpr ⟨ma_mp99, fun _ h => absurd h List.not_mem_nil⟩⟩⟩⟩⟩⟩⟩⟩⟩⟩⟩⟩⟩⟩⟩⟩⟩⟩⟩⟩
def ma_mt5 : List ma_M := [(7, yX7_goStep, cX7_goStep, 4, none, 2, 0), (8, yX8_init, cX8_init, 1, none, 0, 2), (8, yX8_in, cX8_in, 3, (some FieldType.boolean), 3, 1), (8, yX8_isDeed, cX8_isDeed, 2, (some FieldType.boolean), 1, 0), (8, yX8_held, cX8_held, 2, (some FieldType.int), 2, 1), (8, yX8_keeps, cX8_keeps, 2, none, 0, 0), (8, yX8_goesBack, cX8_goesBack, 2, none, 0, 0), (8, yX8_feed, cX8_feed, 2, (some FieldType.int), 1, 0), (8, yX8_here, cX8_here, 1, (some FieldType.int), 0, 0), (8, yX8_must, cX8_must, 2, none, 1, 0), (8, yX8_spells, cX8_spells, 3, none, 1, 0), (8, yX8_figures, cX8_figures, 3, (some FieldType.int), 0, 0), (8, yX8_among, cX8_among, 3, (some FieldType.int), 1, 0), (8, yX8_emits, cX8_emits, 2, none, 1, 0), (8, yX8_factor, cX8_factor, 5, none, 0, 0), (8, yX8_every, cX8_every, 1, none, 0, 0), (8, yX8_some, cX8_some, 1, none, 0, 0), (8, yX8_much, cX8_much, 4, none, 2, 0), (8, yX8_tellsHere, cX8_tellsHere, 4, none, 2, 0), (8, yX8_second, cX8_second, 1, (some FieldType.int), 0, 0)]
theorem ma_mr5 : ∀ r ∈ ma_mt5, ma_MP r := List.forall_mem_cons.mpr ⟨ma_mp100, List.forall_mem_cons.mpr ⟨ma_mp101, List.forall_mem_cons.mpr ⟨ma_mp102, List.forall_mem_cons.mpr ⟨ma_mp103, List.forall_mem_cons.mpr ⟨ma_mp104, List.forall_mem_cons.mpr ⟨ma_mp105, List.forall_mem_cons.mpr ⟨ma_mp106, List.forall_mem_cons.mpr ⟨ma_mp107, List.forall_mem_cons.mpr ⟨ma_mp108, List.forall_mem_cons.mpr ⟨ma_mp109, List.forall_mem_cons.mpr ⟨ma_mp110, List.forall_mem_cons.mpr ⟨ma_mp111, List.forall_mem_cons.mpr ⟨ma_mp112, List.forall_mem_cons.mpr ⟨ma_mp113, List.forall_mem_cons.mpr ⟨ma_mp114, List.forall_mem_cons.mpr ⟨ma_mp115, List.forall_mem_cons.mpr ⟨ma_mp116, List.forall_mem_cons.mpr ⟨ma_mp117, List.forall_mem_cons.mpr ⟨ma_mp118, List.forall_mem_cons.mpr ⟨ma_mp119, fun _ h => absurd h List.not_mem_nil⟩⟩⟩⟩⟩⟩⟩⟩⟩⟩⟩⟩⟩⟩⟩⟩⟩⟩⟩⟩
def ma_mt6 : List ma_M := [(8, yX8_clauseHere, cX8_clauseHere, 1, none, 0, 0), (8, yX8_house, cX8_house, 2, (some FieldType.int), 0, 0), (8, yX8_tellsOf, cX8_tellsOf, 3, (some FieldType.int), 2, 0), (8, yX8_sumOf, cX8_sumOf, 11, (some FieldType.int), 1, 0), (8, yX8_careOf, cX8_careOf, 4, (some FieldType.int), 1, 0), (8, yX8_doubtOf, cX8_doubtOf, 3, (some FieldType.int), 2, 0), (8, yX8_backOf, cX8_backOf, 3, (some FieldType.int), 1, 0), (8, yX8_becomes, cX8_becomes, 4, (some FieldType.int), 2, 0), (8, yX8_deed, cX8_deed, 5, (some FieldType.int), 2, 0), (8, yX8_of, cX8_of, 3, (some FieldType.int), 2, 0), (8, yX8_row, cX8_row, 4, (some FieldType.int), 3, 0), (8, yX8_set, cX8_set, 4, (some FieldType.int), 3, 0), (8, yX8_hurry, cX8_hurry, 2, (some FieldType.int), 1, 0), (8, yX8_looksAfter, cX8_looksAfter, 2, (some FieldType.int), 1, 0), (8, yX8_look, cX8_look, 2, (some FieldType.int), 1, 0), (8, yX8_doubt, cX8_doubt, 3, (some FieldType.int), 2, 0), (8, yX8_leftOnes, cX8_leftOnes, 3, (some FieldType.int), 0, 0), (8, yX8_told, cX8_told, 2, (some FieldType.int), 1, 0), (8, yX8_isDone, cX8_isDone, 3, none, 1, 0), (8, yX8_goes, cX8_goes, 2, none, 0, 0)]
theorem ma_mr6 : ∀ r ∈ ma_mt6, ma_MP r := List.forall_mem_cons.mpr ⟨ma_mp120, List.forall_mem_cons.mpr ⟨ma_mp121, List.forall_mem_cons.mpr ⟨ma_mp122, List.forall_mem_cons.mpr ⟨ma_mp123, List.forall_mem_cons.mpr ⟨ma_mp124, List.forall_mem_cons.mpr ⟨ma_mp125, List.forall_mem_cons.mpr ⟨ma_mp126, List.forall_mem_cons.mpr ⟨ma_mp127, List.forall_mem_cons.mpr ⟨ma_mp128, List.forall_mem_cons.mpr ⟨ma_mp129, List.forall_mem_cons.mpr ⟨ma_mp130, List.forall_mem_cons.mpr ⟨ma_mp131, List.forall_mem_cons.mpr ⟨ma_mp132, List.forall_mem_cons.mpr ⟨ma_mp133, List.forall_mem_cons.mpr ⟨ma_mp134, List.forall_mem_cons.mpr ⟨ma_mp135, List.forall_mem_cons.mpr ⟨ma_mp136, List.forall_mem_cons.mpr ⟨ma_mp137, List.forall_mem_cons.mpr ⟨ma_mp138, List.forall_mem_cons.mpr ⟨ma_mp139, fun _ h => absurd h List.not_mem_nil⟩⟩⟩⟩⟩⟩⟩⟩⟩⟩⟩⟩⟩⟩⟩⟩⟩⟩⟩⟩
def ma_mt7 : List ma_M := [(8, yX8_goesOn, cX8_goesOn, 3, none, 1, 0), (8, yX8_isDoneOn, cX8_isDoneOn, 4, none, 2, 0), (8, yX8_pass, cX8_pass, 3, (some FieldType.int), 1, 0), (8, yX8_on, cX8_on, 4, (some FieldType.int), 2, 0), (8, yX8_minutesOf, cX8_minutesOf, 4, (some FieldType.int), 1, 0), (8, yX8_doubtsOf, cX8_doubtsOf, 5, (some FieldType.int), 1, 0), (8, yX8_best, cX8_best, 5, (some FieldType.int), 2, 0), (8, yX8_staysBy, cX8_staysBy, 7, (some FieldType.boolean), 4, 0), (8, yX8_countOf, cX8_countOf, 3, (some FieldType.int), 1, 1), (8, yX8_renew, cX8_renew, 7, (some FieldType.int), 3, 0), (8, yX8_see, cX8_see, 4, (some FieldType.int), 3, 0), (8, yX8_areAsSeen, cX8_areAsSeen, 6, (some FieldType.boolean), 2, 0), (8, yX8_fitting, cX8_fitting, 8, (some FieldType.int), 3, 0), (8, yX8_hurries, cX8_hurries, 2, (some FieldType.int), 1, 0), (8, yX8_firm, cX8_firm, 3, (some FieldType.int), 2, 0), (8, yX8_alikes, cX8_alikes, 4, (some FieldType.int), 1, 0), (8, yX8_lowest, cX8_lowest, 11, (some FieldType.long), 3, 1), (8, yX8_odds, cX8_odds, 7, (some FieldType.long), 3, 0), (8, yX8_mean, cX8_mean, 5, (some FieldType.long), 1, 0), (8, yX8_plan, cX8_plan, 3, (some FieldType.int), 2, 0)]
theorem ma_mr7 : ∀ r ∈ ma_mt7, ma_MP r := List.forall_mem_cons.mpr ⟨ma_mp140, List.forall_mem_cons.mpr ⟨ma_mp141, List.forall_mem_cons.mpr ⟨ma_mp142, List.forall_mem_cons.mpr ⟨ma_mp143, List.forall_mem_cons.mpr ⟨ma_mp144, List.forall_mem_cons.mpr ⟨ma_mp145, List.forall_mem_cons.mpr ⟨ma_mp146, List.forall_mem_cons.mpr ⟨ma_mp147, List.forall_mem_cons.mpr ⟨ma_mp148, List.forall_mem_cons.mpr ⟨ma_mp149, List.forall_mem_cons.mpr ⟨ma_mp150, List.forall_mem_cons.mpr ⟨ma_mp151, List.forall_mem_cons.mpr ⟨ma_mp152, List.forall_mem_cons.mpr ⟨ma_mp153, List.forall_mem_cons.mpr ⟨ma_mp154, List.forall_mem_cons.mpr ⟨ma_mp155, List.forall_mem_cons.mpr ⟨ma_mp156, List.forall_mem_cons.mpr ⟨ma_mp157, List.forall_mem_cons.mpr ⟨ma_mp158, List.forall_mem_cons.mpr ⟨ma_mp159, fun _ h => absurd h List.not_mem_nil⟩⟩⟩⟩⟩⟩⟩⟩⟩⟩⟩⟩⟩⟩⟩⟩⟩⟩⟩⟩
def ma_mt8 : List ma_M := [(8, yX8_goesBy, cX8_goesBy, 3, none, 2, 0), (8, yX8_done, cX8_done, 3, (some FieldType.int), 1, 0), (8, yX8_book, cX8_book, 3, (some FieldType.int), 2, 0), (8, yX8_struck, cX8_struck, 2, (some FieldType.int), 0, 0), (8, yX8_ranBody, cX8_ranBody, 2, none, 1, 0), (8, yX8_isUnder, cX8_isUnder, 2, (some FieldType.boolean), 2, 1), (8, yX8_plainClicks, cX8_plainClicks, 2, (some FieldType.int), 1, 0), (8, yX8_clicksActs, cX8_clicksActs, 2, (some FieldType.int), 1, 0), (8, yX8_plainPulls, cX8_plainPulls, 2, (some FieldType.int), 1, 0), (8, yX8_pullsActs, cX8_pullsActs, 2, (some FieldType.int), 1, 0), (8, yX8_plainTelling, cX8_plainTelling, 2, (some FieldType.int), 1, 0), (8, yX8_looksActs, cX8_looksActs, 3, (some FieldType.int), 1, 0), (8, yX8_act, cX8_act, 4, (some FieldType.int), 3, 0), (8, yX8_trace, cX8_trace, 2, (some FieldType.int), 1, 0), (8, yX8_as, cX8_as, 3, (some FieldType.int), 2, 0), (8, yX8_image, cX8_image, 2, (some FieldType.int), 0, 0), (8, yX8_undo, cX8_undo, 2, (some FieldType.int), 0, 0), (8, yX8_count, cX8_count, 2, (some FieldType.int), 1, 0)]
theorem ma_mr8 : ∀ r ∈ ma_mt8, ma_MP r := List.forall_mem_cons.mpr ⟨ma_mp160, List.forall_mem_cons.mpr ⟨ma_mp161, List.forall_mem_cons.mpr ⟨ma_mp162, List.forall_mem_cons.mpr ⟨ma_mp163, List.forall_mem_cons.mpr ⟨ma_mp164, List.forall_mem_cons.mpr ⟨ma_mp165, List.forall_mem_cons.mpr ⟨ma_mp166, List.forall_mem_cons.mpr ⟨ma_mp167, List.forall_mem_cons.mpr ⟨ma_mp168, List.forall_mem_cons.mpr ⟨ma_mp169, List.forall_mem_cons.mpr ⟨ma_mp170, List.forall_mem_cons.mpr ⟨ma_mp171, List.forall_mem_cons.mpr ⟨ma_mp172, List.forall_mem_cons.mpr ⟨ma_mp173, List.forall_mem_cons.mpr ⟨ma_mp174, List.forall_mem_cons.mpr ⟨ma_mp175, List.forall_mem_cons.mpr ⟨ma_mp176, List.forall_mem_cons.mpr ⟨ma_mp177, fun _ h => absurd h List.not_mem_nil⟩⟩⟩⟩⟩⟩⟩⟩⟩⟩⟩⟩⟩⟩⟩⟩⟩⟩
def ma_tabX : List ma_M := ma_mt0 ++ (ma_mt1 ++ (ma_mt2 ++ (ma_mt3 ++ (ma_mt4 ++ (ma_mt5 ++ (ma_mt6 ++ (ma_mt7 ++ (ma_mt8))))))))
theorem ma_tabX_ok : ∀ r ∈ ma_tabX, ma_MP r := List.forall_mem_append.mpr ⟨ma_mr0, List.forall_mem_append.mpr ⟨ma_mr1, List.forall_mem_append.mpr ⟨ma_mr2, List.forall_mem_append.mpr ⟨ma_mr3, List.forall_mem_append.mpr ⟨ma_mr4, List.forall_mem_append.mpr ⟨ma_mr5, List.forall_mem_append.mpr ⟨ma_mr6, List.forall_mem_append.mpr ⟨ma_mr7, ma_mr8⟩⟩⟩⟩⟩⟩⟩⟩
def ma_tab : List ma_M := ma_tabX ++ [(9, yL_law, code, 4, ret, 1, 1)]
def ma_lk {α : Type} (t : List (Nat × Nat × α)) (a b : Nat) : Option α := (t.find? (fun r => Nat.beq r.1 a && Nat.beq r.2.1 b)).map (fun r => r.2.2)
theorem ma_lk_mem {α : Type} {t : List (Nat × Nat × α)} {a b : Nat} {x : α} (h : ma_lk t a b = some x) : (a, b, x) ∈ t := by
  unfold ma_lk at h
  obtain ⟨r, h1, rfl⟩ := Option.map_eq_some_iff.mp h
  have h2 := List.find?_some h1
  obtain ⟨e1, e2⟩ := Bool.and_eq_true_iff.mp h2
  have e1 := Nat.eq_of_beq_eq_true e1
  have e2 := Nat.eq_of_beq_eq_true e2
  subst e1; subst e2
  exact List.mem_of_find?_eq_some h1
def ma_FP (r : Nat × Nat × Nat × Nat) : Prop := Cond.fieldLink (ma_rx r.1) r.2.1 (ma_tx r.2.2.1 r.2.2.2).1 (ma_tx r.2.2.1 r.2.2.2).2.1 (ma_tx r.2.2.1 r.2.2.2).2.2.1 ∈ lw_tbl ∧ r.2.2.1 < 9 ∧ r.2.2.2 < ma_nx r.2.2.1
def ma_ft : List (Nat × Nat × Nat × Nat) := [(7, 12, 7, 0), (7, 18, 7, 1), (7, 24, 7, 4), (7, 33, 7, 3), (7, 40, 7, 5), (7, 49, 7, 6), (7, 56, 7, 7), (7, 60, 7, 8), (7, 64, 7, 9), (7, 75, 5, 4), (7, 79, 5, 2), (7, 86, 5, 1), (7, 93, 5, 0), (7, 99, 6, 1), (7, 107, 1, 1), (7, 110, 1, 2), (7, 113, 1, 3), (7, 117, 1, 4), (7, 120, 1, 5), (7, 123, 1, 6), (7, 126, 1, 7), (7, 129, 6, 3), (7, 136, 2, 0), (7, 150, 6, 2), (7, 160, 6, 4), (7, 193, 5, 5), (7, 197, 4, 3), (7, 225, 5, 6), (7, 237, 5, 7), (7, 240, 0, 1), (7, 262, 7, 2), (7, 274, 1, 0), (0, 9, 0, 0), (0, 15, 0, 1), (0, 23, 1, 0), (0, 36, 1, 1), (0, 39, 1, 2), (1, 9, 1, 0), (1, 15, 1, 8), (1, 19, 1, 1), (1, 22, 1, 2), (1, 25, 1, 3), (1, 29, 1, 4), (1, 32, 1, 5), (1, 35, 1, 6), (1, 38, 1, 7), (2, 9, 2, 1), (2, 15, 2, 2), (2, 18, 2, 4), (2, 21, 2, 0), (2, 25, 2, 3), (2, 28, 2, 5), (2, 57, 1, 0), (2, 62, 1, 1), (2, 65, 1, 2), (2, 68, 1, 5), (2, 71, 1, 6), (3, 9, 3, 0), (3, 15, 3, 1), (3, 24, 3, 2), (3, 28, 3, 3), (3, 34, 5, 4), (3, 59, 2, 0), (4, 15, 4, 0), (4, 21, 4, 1), (4, 24, 4, 2), (4, 28, 4, 3), (5, 12, 5, 0), (5, 21, 5, 1), (5, 25, 5, 3), (5, 34, 5, 5), (5, 38, 5, 6), (5, 41, 5, 7), (5, 44, 5, 4), (5, 55, 5, 2), (6, 11, 6, 0), (6, 20, 6, 2), (6, 24, 6, 1), (6, 31, 6, 3), (6, 34, 6, 4), (6, 55, 1, 3), (6, 59, 1, 2), (6, 62, 1, 4), (8, 9, 8, 1), (8, 15, 8, 2), (8, 18, 8, 3), (8, 21, 8, 10), (8, 24, 8, 11), (8, 28, 8, 12), (8, 39, 8, 6), (8, 42, 8, 7), (8, 45, 8, 8), (8, 66, 8, 5), (8, 69, 8, 9), (8, 204, 8, 13), (8, 210, 8, 15), (8, 213, 8, 14), (8, 225, 8, 16), (8, 240, 8, 4)]
theorem ma_ft_0 : ma_FP ((7, 12, 7, 0)) := ⟨(in_1 _ (List.mem_of_getElem? (i := 233) rfl)), by decide, by decide⟩
theorem ma_ft_1 : ma_FP ((7, 18, 7, 1)) := ⟨(in_1 _ (List.mem_of_getElem? (i := 234) rfl)), by decide, by decide⟩
theorem ma_ft_2 : ma_FP ((7, 24, 7, 4)) := ⟨(in_1 _ (List.mem_of_getElem? (i := 237) rfl)), by decide, by decide⟩
theorem ma_ft_3 : ma_FP ((7, 33, 7, 3)) := ⟨(in_1 _ (List.mem_of_getElem? (i := 236) rfl)), by decide, by decide⟩
theorem ma_ft_4 : ma_FP ((7, 40, 7, 5)) := ⟨(in_1 _ (List.mem_of_getElem? (i := 238) rfl)), by decide, by decide⟩
theorem ma_ft_5 : ma_FP ((7, 49, 7, 6)) := ⟨(in_1 _ (List.mem_of_getElem? (i := 239) rfl)), by decide, by decide⟩
theorem ma_ft_6 : ma_FP ((7, 56, 7, 7)) := ⟨(in_2 _ (List.mem_of_getElem? (i := 0) rfl)), by decide, by decide⟩
theorem ma_ft_7 : ma_FP ((7, 60, 7, 8)) := ⟨(in_2 _ (List.mem_of_getElem? (i := 1) rfl)), by decide, by decide⟩
theorem ma_ft_8 : ma_FP ((7, 64, 7, 9)) := ⟨(in_2 _ (List.mem_of_getElem? (i := 2) rfl)), by decide, by decide⟩
theorem ma_ft_9 : ma_FP ((7, 75, 5, 4)) := ⟨(in_1 _ (List.mem_of_getElem? (i := 169) rfl)), by decide, by decide⟩
theorem ma_ft_10 : ma_FP ((7, 79, 5, 2)) := ⟨(in_1 _ (List.mem_of_getElem? (i := 165) rfl)), by decide, by decide⟩
theorem ma_ft_11 : ma_FP ((7, 86, 5, 1)) := ⟨(in_1 _ (List.mem_of_getElem? (i := 164) rfl)), by decide, by decide⟩
theorem ma_ft_12 : ma_FP ((7, 93, 5, 0)) := ⟨(in_1 _ (List.mem_of_getElem? (i := 162) rfl)), by decide, by decide⟩
theorem ma_ft_13 : ma_FP ((7, 99, 6, 1)) := ⟨(in_1 _ (List.mem_of_getElem? (i := 92) rfl)), by decide, by decide⟩
theorem ma_ft_14 : ma_FP ((7, 107, 1, 1)) := ⟨(in_1 _ (List.mem_of_getElem? (i := 48) rfl)), by decide, by decide⟩
theorem ma_ft_15 : ma_FP ((7, 110, 1, 2)) := ⟨(in_1 _ (List.mem_of_getElem? (i := 52) rfl)), by decide, by decide⟩
theorem ma_ft_16 : ma_FP ((7, 113, 1, 3)) := ⟨(in_1 _ (List.mem_of_getElem? (i := 56) rfl)), by decide, by decide⟩
theorem ma_ft_17 : ma_FP ((7, 117, 1, 4)) := ⟨(in_1 _ (List.mem_of_getElem? (i := 59) rfl)), by decide, by decide⟩
theorem ma_ft_18 : ma_FP ((7, 120, 1, 5)) := ⟨(in_1 _ (List.mem_of_getElem? (i := 62) rfl)), by decide, by decide⟩
theorem ma_ft_19 : ma_FP ((7, 123, 1, 6)) := ⟨(in_1 _ (List.mem_of_getElem? (i := 65) rfl)), by decide, by decide⟩
theorem ma_ft_20 : ma_FP ((7, 126, 1, 7)) := ⟨(in_1 _ (List.mem_of_getElem? (i := 68) rfl)), by decide, by decide⟩
theorem ma_ft_21 : ma_FP ((7, 129, 6, 3)) := ⟨(in_1 _ (List.mem_of_getElem? (i := 96) rfl)), by decide, by decide⟩
theorem ma_ft_22 : ma_FP ((7, 136, 2, 0)) := ⟨(in_1 _ (List.mem_of_getElem? (i := 118) rfl)), by decide, by decide⟩
theorem ma_ft_23 : ma_FP ((7, 150, 6, 2)) := ⟨(in_1 _ (List.mem_of_getElem? (i := 94) rfl)), by decide, by decide⟩
theorem ma_ft_24 : ma_FP ((7, 160, 6, 4)) := ⟨(in_1 _ (List.mem_of_getElem? (i := 98) rfl)), by decide, by decide⟩
theorem ma_ft_25 : ma_FP ((7, 193, 5, 5)) := ⟨(in_1 _ (List.mem_of_getElem? (i := 172) rfl)), by decide, by decide⟩
theorem ma_ft_26 : ma_FP ((7, 197, 4, 3)) := ⟨(in_1 _ (List.mem_of_getElem? (i := 150) rfl)), by decide, by decide⟩
theorem ma_ft_27 : ma_FP ((7, 225, 5, 6)) := ⟨(in_1 _ (List.mem_of_getElem? (i := 174) rfl)), by decide, by decide⟩
theorem ma_ft_28 : ma_FP ((7, 237, 5, 7)) := ⟨(in_1 _ (List.mem_of_getElem? (i := 176) rfl)), by decide, by decide⟩
theorem ma_ft_29 : ma_FP ((7, 240, 0, 1)) := ⟨(in_1 _ (List.mem_of_getElem? (i := 227) rfl)), by decide, by decide⟩
theorem ma_ft_30 : ma_FP ((7, 262, 7, 2)) := ⟨(in_1 _ (List.mem_of_getElem? (i := 235) rfl)), by decide, by decide⟩
theorem ma_ft_31 : ma_FP ((7, 274, 1, 0)) := ⟨(in_1 _ (List.mem_of_getElem? (i := 45) rfl)), by decide, by decide⟩
theorem ma_ft_32 : ma_FP ((0, 9, 0, 0)) := ⟨(in_1 _ (List.mem_of_getElem? (i := 225) rfl)), by decide, by decide⟩
theorem ma_ft_33 : ma_FP ((0, 15, 0, 1)) := ⟨(in_1 _ (List.mem_of_getElem? (i := 226) rfl)), by decide, by decide⟩
theorem ma_ft_34 : ma_FP ((0, 23, 1, 0)) := ⟨(in_1 _ (List.mem_of_getElem? (i := 43) rfl)), by decide, by decide⟩
theorem ma_ft_35 : ma_FP ((0, 36, 1, 1)) := ⟨(in_1 _ (List.mem_of_getElem? (i := 47) rfl)), by decide, by decide⟩
theorem ma_ft_36 : ma_FP ((0, 39, 1, 2)) := ⟨(in_1 _ (List.mem_of_getElem? (i := 51) rfl)), by decide, by decide⟩
theorem ma_ft_37 : ma_FP ((1, 9, 1, 0)) := ⟨(in_1 _ (List.mem_of_getElem? (i := 42) rfl)), by decide, by decide⟩
theorem ma_ft_38 : ma_FP ((1, 15, 1, 8)) := ⟨(in_1 _ (List.mem_of_getElem? (i := 69) rfl)), by decide, by decide⟩
theorem ma_ft_39 : ma_FP ((1, 19, 1, 1)) := ⟨(in_1 _ (List.mem_of_getElem? (i := 46) rfl)), by decide, by decide⟩
theorem ma_ft_40 : ma_FP ((1, 22, 1, 2)) := ⟨(in_1 _ (List.mem_of_getElem? (i := 50) rfl)), by decide, by decide⟩
theorem ma_ft_41 : ma_FP ((1, 25, 1, 3)) := ⟨(in_1 _ (List.mem_of_getElem? (i := 55) rfl)), by decide, by decide⟩
theorem ma_ft_42 : ma_FP ((1, 29, 1, 4)) := ⟨(in_1 _ (List.mem_of_getElem? (i := 58) rfl)), by decide, by decide⟩
theorem ma_ft_43 : ma_FP ((1, 32, 1, 5)) := ⟨(in_1 _ (List.mem_of_getElem? (i := 61) rfl)), by decide, by decide⟩
theorem ma_ft_44 : ma_FP ((1, 35, 1, 6)) := ⟨(in_1 _ (List.mem_of_getElem? (i := 64) rfl)), by decide, by decide⟩
theorem ma_ft_45 : ma_FP ((1, 38, 1, 7)) := ⟨(in_1 _ (List.mem_of_getElem? (i := 67) rfl)), by decide, by decide⟩
theorem ma_ft_46 : ma_FP ((2, 9, 2, 1)) := ⟨(in_1 _ (List.mem_of_getElem? (i := 119) rfl)), by decide, by decide⟩
theorem ma_ft_47 : ma_FP ((2, 15, 2, 2)) := ⟨(in_1 _ (List.mem_of_getElem? (i := 120) rfl)), by decide, by decide⟩
theorem ma_ft_48 : ma_FP ((2, 18, 2, 4)) := ⟨(in_1 _ (List.mem_of_getElem? (i := 122) rfl)), by decide, by decide⟩
theorem ma_ft_49 : ma_FP ((2, 21, 2, 0)) := ⟨(in_1 _ (List.mem_of_getElem? (i := 116) rfl)), by decide, by decide⟩
theorem ma_ft_50 : ma_FP ((2, 25, 2, 3)) := ⟨(in_1 _ (List.mem_of_getElem? (i := 121) rfl)), by decide, by decide⟩
theorem ma_ft_51 : ma_FP ((2, 28, 2, 5)) := ⟨(in_1 _ (List.mem_of_getElem? (i := 123) rfl)), by decide, by decide⟩
theorem ma_ft_52 : ma_FP ((2, 57, 1, 0)) := ⟨(in_1 _ (List.mem_of_getElem? (i := 44) rfl)), by decide, by decide⟩
theorem ma_ft_53 : ma_FP ((2, 62, 1, 1)) := ⟨(in_1 _ (List.mem_of_getElem? (i := 49) rfl)), by decide, by decide⟩
theorem ma_ft_54 : ma_FP ((2, 65, 1, 2)) := ⟨(in_1 _ (List.mem_of_getElem? (i := 54) rfl)), by decide, by decide⟩
theorem ma_ft_55 : ma_FP ((2, 68, 1, 5)) := ⟨(in_1 _ (List.mem_of_getElem? (i := 63) rfl)), by decide, by decide⟩
theorem ma_ft_56 : ma_FP ((2, 71, 1, 6)) := ⟨(in_1 _ (List.mem_of_getElem? (i := 66) rfl)), by decide, by decide⟩
theorem ma_ft_57 : ma_FP ((3, 9, 3, 0)) := ⟨(in_1 _ (List.mem_of_getElem? (i := 202) rfl)), by decide, by decide⟩
theorem ma_ft_58 : ma_FP ((3, 15, 3, 1)) := ⟨(in_1 _ (List.mem_of_getElem? (i := 203) rfl)), by decide, by decide⟩
theorem ma_ft_59 : ma_FP ((3, 24, 3, 2)) := ⟨(in_1 _ (List.mem_of_getElem? (i := 204) rfl)), by decide, by decide⟩
theorem ma_ft_60 : ma_FP ((3, 28, 3, 3)) := ⟨(in_1 _ (List.mem_of_getElem? (i := 205) rfl)), by decide, by decide⟩
theorem ma_ft_61 : ma_FP ((3, 34, 5, 4)) := ⟨(in_1 _ (List.mem_of_getElem? (i := 170) rfl)), by decide, by decide⟩
theorem ma_ft_62 : ma_FP ((3, 59, 2, 0)) := ⟨(in_1 _ (List.mem_of_getElem? (i := 117) rfl)), by decide, by decide⟩
theorem ma_ft_63 : ma_FP ((4, 15, 4, 0)) := ⟨(in_1 _ (List.mem_of_getElem? (i := 146) rfl)), by decide, by decide⟩
theorem ma_ft_64 : ma_FP ((4, 21, 4, 1)) := ⟨(in_1 _ (List.mem_of_getElem? (i := 147) rfl)), by decide, by decide⟩
theorem ma_ft_65 : ma_FP ((4, 24, 4, 2)) := ⟨(in_1 _ (List.mem_of_getElem? (i := 148) rfl)), by decide, by decide⟩
theorem ma_ft_66 : ma_FP ((4, 28, 4, 3)) := ⟨(in_1 _ (List.mem_of_getElem? (i := 149) rfl)), by decide, by decide⟩
theorem ma_ft_67 : ma_FP ((5, 12, 5, 0)) := ⟨(in_1 _ (List.mem_of_getElem? (i := 161) rfl)), by decide, by decide⟩
theorem ma_ft_68 : ma_FP ((5, 21, 5, 1)) := ⟨(in_1 _ (List.mem_of_getElem? (i := 163) rfl)), by decide, by decide⟩
theorem ma_ft_69 : ma_FP ((5, 25, 5, 3)) := ⟨(in_1 _ (List.mem_of_getElem? (i := 167) rfl)), by decide, by decide⟩
theorem ma_ft_70 : ma_FP ((5, 34, 5, 5)) := ⟨(in_1 _ (List.mem_of_getElem? (i := 171) rfl)), by decide, by decide⟩
theorem ma_ft_71 : ma_FP ((5, 38, 5, 6)) := ⟨(in_1 _ (List.mem_of_getElem? (i := 173) rfl)), by decide, by decide⟩
theorem ma_ft_72 : ma_FP ((5, 41, 5, 7)) := ⟨(in_1 _ (List.mem_of_getElem? (i := 175) rfl)), by decide, by decide⟩
theorem ma_ft_73 : ma_FP ((5, 44, 5, 4)) := ⟨(in_1 _ (List.mem_of_getElem? (i := 168) rfl)), by decide, by decide⟩
theorem ma_ft_74 : ma_FP ((5, 55, 5, 2)) := ⟨(in_1 _ (List.mem_of_getElem? (i := 166) rfl)), by decide, by decide⟩
theorem ma_ft_75 : ma_FP ((6, 11, 6, 0)) := ⟨(in_1 _ (List.mem_of_getElem? (i := 90) rfl)), by decide, by decide⟩
theorem ma_ft_76 : ma_FP ((6, 20, 6, 2)) := ⟨(in_1 _ (List.mem_of_getElem? (i := 93) rfl)), by decide, by decide⟩
theorem ma_ft_77 : ma_FP ((6, 24, 6, 1)) := ⟨(in_1 _ (List.mem_of_getElem? (i := 91) rfl)), by decide, by decide⟩
theorem ma_ft_78 : ma_FP ((6, 31, 6, 3)) := ⟨(in_1 _ (List.mem_of_getElem? (i := 95) rfl)), by decide, by decide⟩
theorem ma_ft_79 : ma_FP ((6, 34, 6, 4)) := ⟨(in_1 _ (List.mem_of_getElem? (i := 97) rfl)), by decide, by decide⟩
theorem ma_ft_80 : ma_FP ((6, 55, 1, 3)) := ⟨(in_1 _ (List.mem_of_getElem? (i := 57) rfl)), by decide, by decide⟩
theorem ma_ft_81 : ma_FP ((6, 59, 1, 2)) := ⟨(in_1 _ (List.mem_of_getElem? (i := 53) rfl)), by decide, by decide⟩
theorem ma_ft_82 : ma_FP ((6, 62, 1, 4)) := ⟨(in_1 _ (List.mem_of_getElem? (i := 60) rfl)), by decide, by decide⟩
theorem ma_ft_83 : ma_FP ((8, 9, 8, 1)) := ⟨(in_4 _ (List.mem_of_getElem? (i := 3) rfl)), by decide, by decide⟩
theorem ma_ft_84 : ma_FP ((8, 15, 8, 2)) := ⟨(in_4 _ (List.mem_of_getElem? (i := 4) rfl)), by decide, by decide⟩
theorem ma_ft_85 : ma_FP ((8, 18, 8, 3)) := ⟨(in_4 _ (List.mem_of_getElem? (i := 5) rfl)), by decide, by decide⟩
theorem ma_ft_86 : ma_FP ((8, 21, 8, 10)) := ⟨(in_4 _ (List.mem_of_getElem? (i := 12) rfl)), by decide, by decide⟩
theorem ma_ft_87 : ma_FP ((8, 24, 8, 11)) := ⟨(in_4 _ (List.mem_of_getElem? (i := 13) rfl)), by decide, by decide⟩
theorem ma_ft_88 : ma_FP ((8, 28, 8, 12)) := ⟨(in_4 _ (List.mem_of_getElem? (i := 14) rfl)), by decide, by decide⟩
theorem ma_ft_89 : ma_FP ((8, 39, 8, 6)) := ⟨(in_4 _ (List.mem_of_getElem? (i := 8) rfl)), by decide, by decide⟩
theorem ma_ft_90 : ma_FP ((8, 42, 8, 7)) := ⟨(in_4 _ (List.mem_of_getElem? (i := 9) rfl)), by decide, by decide⟩
theorem ma_ft_91 : ma_FP ((8, 45, 8, 8)) := ⟨(in_4 _ (List.mem_of_getElem? (i := 10) rfl)), by decide, by decide⟩
theorem ma_ft_92 : ma_FP ((8, 66, 8, 5)) := ⟨(in_4 _ (List.mem_of_getElem? (i := 7) rfl)), by decide, by decide⟩
theorem ma_ft_93 : ma_FP ((8, 69, 8, 9)) := ⟨(in_4 _ (List.mem_of_getElem? (i := 11) rfl)), by decide, by decide⟩
theorem ma_ft_94 : ma_FP ((8, 204, 8, 13)) := ⟨(in_4 _ (List.mem_of_getElem? (i := 15) rfl)), by decide, by decide⟩
theorem ma_ft_95 : ma_FP ((8, 210, 8, 15)) := ⟨(in_4 _ (List.mem_of_getElem? (i := 17) rfl)), by decide, by decide⟩
theorem ma_ft_96 : ma_FP ((8, 213, 8, 14)) := ⟨(in_4 _ (List.mem_of_getElem? (i := 16) rfl)), by decide, by decide⟩
theorem ma_ft_97 : ma_FP ((8, 225, 8, 16)) := ⟨(in_4 _ (List.mem_of_getElem? (i := 18) rfl)), by decide, by decide⟩
theorem ma_ft_98 : ma_FP ((8, 240, 8, 4)) := ⟨(in_4 _ (List.mem_of_getElem? (i := 6) rfl)), by decide, by decide⟩
set_option maxRecDepth 100000 in
theorem ma_ft_ok : ∀ r ∈ ma_ft, ma_FP r := List.forall_mem_cons.mpr ⟨ma_ft_0, List.forall_mem_cons.mpr ⟨ma_ft_1, List.forall_mem_cons.mpr ⟨ma_ft_2, List.forall_mem_cons.mpr ⟨ma_ft_3, List.forall_mem_cons.mpr ⟨ma_ft_4, List.forall_mem_cons.mpr ⟨ma_ft_5, List.forall_mem_cons.mpr ⟨ma_ft_6, List.forall_mem_cons.mpr ⟨ma_ft_7, List.forall_mem_cons.mpr ⟨ma_ft_8, List.forall_mem_cons.mpr ⟨ma_ft_9, List.forall_mem_cons.mpr ⟨ma_ft_10, List.forall_mem_cons.mpr ⟨ma_ft_11, List.forall_mem_cons.mpr ⟨ma_ft_12, List.forall_mem_cons.mpr ⟨ma_ft_13, List.forall_mem_cons.mpr ⟨ma_ft_14, List.forall_mem_cons.mpr ⟨ma_ft_15, List.forall_mem_cons.mpr ⟨ma_ft_16, List.forall_mem_cons.mpr ⟨ma_ft_17, List.forall_mem_cons.mpr ⟨ma_ft_18, List.forall_mem_cons.mpr ⟨ma_ft_19, List.forall_mem_cons.mpr ⟨ma_ft_20, List.forall_mem_cons.mpr ⟨ma_ft_21, List.forall_mem_cons.mpr ⟨ma_ft_22, List.forall_mem_cons.mpr ⟨ma_ft_23, List.forall_mem_cons.mpr ⟨ma_ft_24, List.forall_mem_cons.mpr ⟨ma_ft_25, List.forall_mem_cons.mpr ⟨ma_ft_26, List.forall_mem_cons.mpr ⟨ma_ft_27, List.forall_mem_cons.mpr ⟨ma_ft_28, List.forall_mem_cons.mpr ⟨ma_ft_29, List.forall_mem_cons.mpr ⟨ma_ft_30, List.forall_mem_cons.mpr ⟨ma_ft_31, List.forall_mem_cons.mpr ⟨ma_ft_32, List.forall_mem_cons.mpr ⟨ma_ft_33, List.forall_mem_cons.mpr ⟨ma_ft_34, List.forall_mem_cons.mpr ⟨ma_ft_35, List.forall_mem_cons.mpr ⟨ma_ft_36, List.forall_mem_cons.mpr ⟨ma_ft_37, List.forall_mem_cons.mpr ⟨ma_ft_38, List.forall_mem_cons.mpr ⟨ma_ft_39, List.forall_mem_cons.mpr ⟨ma_ft_40, List.forall_mem_cons.mpr ⟨ma_ft_41, List.forall_mem_cons.mpr ⟨ma_ft_42, List.forall_mem_cons.mpr ⟨ma_ft_43, List.forall_mem_cons.mpr ⟨ma_ft_44, List.forall_mem_cons.mpr ⟨ma_ft_45, List.forall_mem_cons.mpr ⟨ma_ft_46, List.forall_mem_cons.mpr ⟨ma_ft_47, List.forall_mem_cons.mpr ⟨ma_ft_48, List.forall_mem_cons.mpr ⟨ma_ft_49, List.forall_mem_cons.mpr ⟨ma_ft_50, List.forall_mem_cons.mpr ⟨ma_ft_51, List.forall_mem_cons.mpr ⟨ma_ft_52, List.forall_mem_cons.mpr ⟨ma_ft_53, List.forall_mem_cons.mpr ⟨ma_ft_54, List.forall_mem_cons.mpr ⟨ma_ft_55, List.forall_mem_cons.mpr ⟨ma_ft_56, List.forall_mem_cons.mpr ⟨ma_ft_57, List.forall_mem_cons.mpr ⟨ma_ft_58, List.forall_mem_cons.mpr ⟨ma_ft_59, List.forall_mem_cons.mpr ⟨ma_ft_60, List.forall_mem_cons.mpr ⟨ma_ft_61, List.forall_mem_cons.mpr ⟨ma_ft_62, List.forall_mem_cons.mpr ⟨ma_ft_63, List.forall_mem_cons.mpr ⟨ma_ft_64, List.forall_mem_cons.mpr ⟨ma_ft_65, List.forall_mem_cons.mpr ⟨ma_ft_66, List.forall_mem_cons.mpr ⟨ma_ft_67, List.forall_mem_cons.mpr ⟨ma_ft_68, List.forall_mem_cons.mpr ⟨ma_ft_69, List.forall_mem_cons.mpr ⟨ma_ft_70, List.forall_mem_cons.mpr ⟨ma_ft_71, List.forall_mem_cons.mpr ⟨ma_ft_72, List.forall_mem_cons.mpr ⟨ma_ft_73, List.forall_mem_cons.mpr ⟨ma_ft_74, List.forall_mem_cons.mpr ⟨ma_ft_75, List.forall_mem_cons.mpr ⟨ma_ft_76, List.forall_mem_cons.mpr ⟨ma_ft_77, List.forall_mem_cons.mpr ⟨ma_ft_78, List.forall_mem_cons.mpr ⟨ma_ft_79, List.forall_mem_cons.mpr ⟨ma_ft_80, List.forall_mem_cons.mpr ⟨ma_ft_81, List.forall_mem_cons.mpr ⟨ma_ft_82, List.forall_mem_cons.mpr ⟨ma_ft_83, List.forall_mem_cons.mpr ⟨ma_ft_84, List.forall_mem_cons.mpr ⟨ma_ft_85, List.forall_mem_cons.mpr ⟨ma_ft_86, List.forall_mem_cons.mpr ⟨ma_ft_87, List.forall_mem_cons.mpr ⟨ma_ft_88, List.forall_mem_cons.mpr ⟨ma_ft_89, List.forall_mem_cons.mpr ⟨ma_ft_90, List.forall_mem_cons.mpr ⟨ma_ft_91, List.forall_mem_cons.mpr ⟨ma_ft_92, List.forall_mem_cons.mpr ⟨ma_ft_93, List.forall_mem_cons.mpr ⟨ma_ft_94, List.forall_mem_cons.mpr ⟨ma_ft_95, List.forall_mem_cons.mpr ⟨ma_ft_96, List.forall_mem_cons.mpr ⟨ma_ft_97, List.forall_mem_cons.mpr ⟨ma_ft_98, fun _ h => absurd h List.not_mem_nil⟩⟩⟩⟩⟩⟩⟩⟩⟩⟩⟩⟩⟩⟩⟩⟩⟩⟩⟩⟩⟩⟩⟩⟩⟩⟩⟩⟩⟩⟩⟩⟩⟩⟩⟩⟩⟩⟩⟩⟩⟩⟩⟩⟩⟩⟩⟩⟩⟩⟩⟩⟩⟩⟩⟩⟩⟩⟩⟩⟩⟩⟩⟩⟩⟩⟩⟩⟩⟩⟩⟩⟩⟩⟩⟩⟩⟩⟩⟩⟩⟩⟩⟩⟩⟩⟩⟩⟩⟩⟩⟩⟩⟩⟩⟩⟩⟩⟩⟩
def ma_y (m : Nat) : MethodName := match ma_tab[m]? with | some r => r.2.1 | none => yL_law
def ma_CP (r : Nat × Nat × Nat × Bool) : Prop := r.2.2.1 < 178 ∧ (match r.2.2.2 with | false => Cond.methodLink (ma_rx r.1) r.2.1 (ma_y r.2.2.1) ∈ lw_tbl | true => Cond.methodLinkNest (ma_rx r.1) r.2.1 (ma_y r.2.2.1) "DidITurnItOff" ∈ lw_tbl)
def ma_ct : List (Nat × Nat × Nat × Bool) := [(7, 11, 45, false), (7, 23, 16, false), (7, 30, 26, false), (7, 39, 49, false), (7, 46, 6, false), (7, 55, 0, false), (7, 67, 88, false), (7, 71, 46, false), (7, 82, 27, false), (7, 89, 18, false), (7, 96, 51, false), (7, 102, 50, false), (7, 132, 11, false), (7, 139, 15, false), (7, 143, 9, false), (7, 146, 10, false), (7, 153, 13, false), (7, 156, 14, false), (7, 163, 55, false), (7, 166, 53, false), (7, 176, 52, false), (7, 179, 95, false), (7, 182, 96, false), (7, 185, 97, false), (7, 189, 99, false), (7, 200, 39, false), (7, 204, 94, false), (7, 210, 8, false), (7, 213, 93, false), (7, 218, 92, false), (7, 222, 56, false), (7, 228, 41, false), (7, 231, 42, false), (7, 234, 100, false), (7, 243, 3, true), (7, 247, 4, true), (7, 250, 5, true), (7, 253, 2, false), (7, 256, 89, false), (7, 259, 48, false), (7, 271, 12, false), (7, 277, 43, false), (7, 280, 98, false), (7, 283, 54, false), (0, 19, 1, false), (0, 28, 89, true), (0, 32, 3, false), (0, 42, 4, false), (0, 45, 5, false), (1, 41, 91, true), (1, 45, 22, false), (1, 51, 9, false), (1, 55, 90, true), (1, 67, 14, false), (2, 31, 91, true), (2, 35, 19, false), (2, 39, 23, false), (2, 49, 24, false), (2, 53, 25, false), (3, 19, 17, false), (3, 31, 28, false), (3, 39, 36, false), (3, 43, 29, false), (3, 52, 35, false), (3, 56, 33, false), (3, 64, 30, false), (3, 68, 21, false), (3, 71, 47, false), (3, 75, 31, false), (3, 78, 19, false), (3, 83, 32, false), (3, 89, 20, false), (3, 104, 34, false), (4, 32, 38, false), (4, 36, 40, false), (4, 40, 41, false), (4, 44, 42, false), (4, 47, 43, false), (5, 11, 49, false), (5, 20, 16, false), (5, 31, 37, false), (5, 48, 52, false), (5, 52, 18, false), (5, 58, 91, true), (5, 62, 44, false), (6, 17, 6, false), (6, 27, 7, false), (6, 37, 50, false), (6, 41, 8, false), (6, 45, 54, false), (6, 49, 11, false), (6, 53, 12, false), (9, 9, 57, false), (9, 12, 101, false), (9, 13, 58, false), (9, 17, 107, false), (9, 18, 59, false), (9, 22, 121, false), (9, 23, 60, false), (9, 27, 128, false), (9, 28, 61, false), (9, 31, 129, false), (9, 32, 62, false), (9, 36, 130, false), (9, 37, 63, false), (9, 40, 131, false), (9, 41, 64, false), (9, 44, 132, false), (9, 45, 65, false), (9, 48, 134, false), (9, 49, 66, false), (9, 52, 135, false), (9, 53, 67, false), (9, 56, 137, false), (9, 57, 68, false), (9, 60, 142, false), (9, 61, 69, false), (9, 64, 143, false), (9, 65, 70, false), (9, 68, 146, false), (9, 69, 71, false), (9, 72, 149, false), (9, 73, 72, false), (9, 77, 150, false), (9, 78, 73, false), (9, 81, 153, false), (9, 82, 74, false), (9, 85, 154, false), (9, 86, 75, false), (9, 89, 155, false), (9, 90, 76, false), (9, 94, 157, false), (9, 95, 77, false), (9, 99, 158, false), (9, 100, 78, false), (9, 103, 159, false), (9, 104, 79, false), (9, 107, 161, false), (9, 108, 80, false), (9, 111, 162, false), (9, 112, 81, false), (9, 115, 163, false), (9, 116, 82, false), (9, 119, 172, false), (9, 120, 83, false), (9, 123, 173, false), (9, 124, 84, false), (9, 127, 174, false), (9, 128, 85, false), (9, 131, 175, false), (9, 132, 86, false), (9, 135, 176, false), (9, 136, 87, false), (9, 139, 177, false), (8, 35, 102, false), (8, 49, 108, false), (8, 62, 109, false), (8, 72, 114, false), (8, 75, 113, false), (8, 78, 116, false), (8, 83, 112, false), (8, 89, 111, false), (8, 92, 115, false), (8, 95, 110, false), (8, 101, 118, false), (8, 105, 119, false), (8, 110, 117, false), (8, 115, 120, false), (8, 118, 122, false), (8, 122, 123, false), (8, 126, 125, false), (8, 129, 103, false), (8, 134, 124, false), (8, 137, 126, false), (8, 140, 127, false), (8, 143, 104, false), (8, 146, 133, false), (8, 149, 136, false), (8, 152, 138, false), (8, 155, 139, false), (8, 159, 105, false), (8, 162, 140, false), (8, 165, 106, false), (8, 168, 144, false), (8, 171, 145, false), (8, 174, 141, false), (8, 178, 148, false), (8, 181, 147, false), (8, 185, 151, false), (8, 189, 152, false), (8, 197, 156, false), (8, 201, 160, false), (8, 207, 164, false), (8, 216, 165, false), (8, 219, 166, false), (8, 222, 167, false), (8, 228, 168, false), (8, 231, 169, false), (8, 234, 170, false), (8, 237, 171, false)]
theorem ma_ct_0 : ma_CP ((7, 11, 45, false)) := ⟨by decide, (in_1 _ (List.mem_of_getElem? (i := 25) rfl))⟩
theorem ma_ct_1 : ma_CP ((7, 23, 16, false)) := ⟨by decide, (in_1 _ (List.mem_of_getElem? (i := 195) rfl))⟩
theorem ma_ct_2 : ma_CP ((7, 30, 26, false)) := ⟨by decide, (in_1 _ (List.mem_of_getElem? (i := 198) rfl))⟩
theorem ma_ct_3 : ma_CP ((7, 39, 49, false)) := ⟨by decide, (in_1 _ (List.mem_of_getElem? (i := 216) rfl))⟩
theorem ma_ct_4 : ma_CP ((7, 46, 6, false)) := ⟨by decide, (in_1 _ (List.mem_of_getElem? (i := 218) rfl))⟩
theorem ma_ct_5 : ma_CP ((7, 55, 0, false)) := ⟨by decide, (in_1 _ (List.mem_of_getElem? (i := 221) rfl))⟩
theorem ma_ct_6 : ma_CP ((7, 67, 88, false)) := ⟨by decide, (in_2 _ (List.mem_of_getElem? (i := 28) rfl))⟩
theorem ma_ct_7 : ma_CP ((7, 71, 46, false)) := ⟨by decide, (in_2 _ (List.mem_of_getElem? (i := 31) rfl))⟩
theorem ma_ct_8 : ma_CP ((7, 82, 27, false)) := ⟨by decide, (in_2 _ (List.mem_of_getElem? (i := 39) rfl))⟩
theorem ma_ct_9 : ma_CP ((7, 89, 18, false)) := ⟨by decide, (in_2 _ (List.mem_of_getElem? (i := 154) rfl))⟩
theorem ma_ct_10 : ma_CP ((7, 96, 51, false)) := ⟨by decide, (in_2 _ (List.mem_of_getElem? (i := 166) rfl))⟩
theorem ma_ct_11 : ma_CP ((7, 102, 50, false)) := ⟨by decide, (in_2 _ (List.mem_of_getElem? (i := 178) rfl))⟩
theorem ma_ct_12 : ma_CP ((7, 132, 11, false)) := ⟨by decide, (in_2 _ (List.mem_of_getElem? (i := 183) rfl))⟩
theorem ma_ct_13 : ma_CP ((7, 139, 15, false)) := ⟨by decide, (in_2 _ (List.mem_of_getElem? (i := 206) rfl))⟩
theorem ma_ct_14 : ma_CP ((7, 143, 9, false)) := ⟨by decide, (in_2 _ (List.mem_of_getElem? (i := 218) rfl))⟩
theorem ma_ct_15 : ma_CP ((7, 146, 10, false)) := ⟨by decide, (in_2 _ (List.mem_of_getElem? (i := 219) rfl))⟩
theorem ma_ct_16 : ma_CP ((7, 153, 13, false)) := ⟨by decide, (in_2 _ (List.mem_of_getElem? (i := 235) rfl))⟩
theorem ma_ct_17 : ma_CP ((7, 156, 14, false)) := ⟨by decide, (in_3 _ (List.mem_of_getElem? (i := 11) rfl))⟩
theorem ma_ct_18 : ma_CP ((7, 163, 55, false)) := ⟨by decide, (in_3 _ (List.mem_of_getElem? (i := 16) rfl))⟩
theorem ma_ct_19 : ma_CP ((7, 166, 53, false)) := ⟨by decide, (in_3 _ (List.mem_of_getElem? (i := 25) rfl))⟩
theorem ma_ct_20 : ma_CP ((7, 176, 52, false)) := ⟨by decide, (in_3 _ (List.mem_of_getElem? (i := 44) rfl))⟩
theorem ma_ct_21 : ma_CP ((7, 179, 95, false)) := ⟨by decide, (in_3 _ (List.mem_of_getElem? (i := 57) rfl))⟩
theorem ma_ct_22 : ma_CP ((7, 182, 96, false)) := ⟨by decide, (in_3 _ (List.mem_of_getElem? (i := 61) rfl))⟩
theorem ma_ct_23 : ma_CP ((7, 185, 97, false)) := ⟨by decide, (in_3 _ (List.mem_of_getElem? (i := 69) rfl))⟩
theorem ma_ct_24 : ma_CP ((7, 189, 99, false)) := ⟨by decide, (in_3 _ (List.mem_of_getElem? (i := 80) rfl))⟩
theorem ma_ct_25 : ma_CP ((7, 200, 39, false)) := ⟨by decide, (in_3 _ (List.mem_of_getElem? (i := 88) rfl))⟩
theorem ma_ct_26 : ma_CP ((7, 204, 94, false)) := ⟨by decide, (in_3 _ (List.mem_of_getElem? (i := 104) rfl))⟩
theorem ma_ct_27 : ma_CP ((7, 210, 8, false)) := ⟨by decide, (in_3 _ (List.mem_of_getElem? (i := 77) rfl))⟩
theorem ma_ct_28 : ma_CP ((7, 213, 93, false)) := ⟨by decide, (in_3 _ (List.mem_of_getElem? (i := 116) rfl))⟩
theorem ma_ct_29 : ma_CP ((7, 218, 92, false)) := ⟨by decide, (in_3 _ (List.mem_of_getElem? (i := 138) rfl))⟩
theorem ma_ct_30 : ma_CP ((7, 222, 56, false)) := ⟨by decide, (in_3 _ (List.mem_of_getElem? (i := 145) rfl))⟩
theorem ma_ct_31 : ma_CP ((7, 228, 41, false)) := ⟨by decide, (in_3 _ (List.mem_of_getElem? (i := 108) rfl))⟩
theorem ma_ct_32 : ma_CP ((7, 231, 42, false)) := ⟨by decide, (in_3 _ (List.mem_of_getElem? (i := 112) rfl))⟩
theorem ma_ct_33 : ma_CP ((7, 234, 100, false)) := ⟨by decide, (in_3 _ (List.mem_of_getElem? (i := 157) rfl))⟩
theorem ma_ct_34 : ma_CP ((7, 243, 3, true)) := ⟨by decide, (in_3 _ (List.mem_of_getElem? (i := 174) rfl))⟩
theorem ma_ct_35 : ma_CP ((7, 247, 4, true)) := ⟨by decide, (in_3 _ (List.mem_of_getElem? (i := 188) rfl))⟩
theorem ma_ct_36 : ma_CP ((7, 250, 5, true)) := ⟨by decide, (in_3 _ (List.mem_of_getElem? (i := 193) rfl))⟩
theorem ma_ct_37 : ma_CP ((7, 253, 2, false)) := ⟨by decide, (in_3 _ (List.mem_of_getElem? (i := 202) rfl))⟩
theorem ma_ct_38 : ma_CP ((7, 256, 89, false)) := ⟨by decide, (in_3 _ (List.mem_of_getElem? (i := 210) rfl))⟩
theorem ma_ct_39 : ma_CP ((7, 259, 48, false)) := ⟨by decide, (in_3 _ (List.mem_of_getElem? (i := 215) rfl))⟩
theorem ma_ct_40 : ma_CP ((7, 271, 12, false)) := ⟨by decide, (in_3 _ (List.mem_of_getElem? (i := 78) rfl))⟩
theorem ma_ct_41 : ma_CP ((7, 277, 43, false)) := ⟨by decide, (in_3 _ (List.mem_of_getElem? (i := 120) rfl))⟩
theorem ma_ct_42 : ma_CP ((7, 280, 98, false)) := ⟨by decide, (in_3 _ (List.mem_of_getElem? (i := 73) rfl))⟩
theorem ma_ct_43 : ma_CP ((7, 283, 54, false)) := ⟨by decide, (in_3 _ (List.mem_of_getElem? (i := 161) rfl))⟩
theorem ma_ct_44 : ma_CP ((0, 19, 1, false)) := ⟨by decide, (in_3 _ (List.mem_of_getElem? (i := 178) rfl))⟩
theorem ma_ct_45 : ma_CP ((0, 28, 89, true)) := ⟨by decide, (in_3 _ (List.mem_of_getElem? (i := 182) rfl))⟩
theorem ma_ct_46 : ma_CP ((0, 32, 3, false)) := ⟨by decide, (in_3 _ (List.mem_of_getElem? (i := 187) rfl))⟩
theorem ma_ct_47 : ma_CP ((0, 42, 4, false)) := ⟨by decide, (in_3 _ (List.mem_of_getElem? (i := 192) rfl))⟩
theorem ma_ct_48 : ma_CP ((0, 45, 5, false)) := ⟨by decide, (in_3 _ (List.mem_of_getElem? (i := 197) rfl))⟩
theorem ma_ct_49 : ma_CP ((1, 41, 91, true)) := ⟨by decide, (in_3 _ (List.mem_of_getElem? (i := 52) rfl))⟩
theorem ma_ct_50 : ma_CP ((1, 45, 22, false)) := ⟨by decide, (in_2 _ (List.mem_of_getElem? (i := 187) rfl))⟩
theorem ma_ct_51 : ma_CP ((1, 51, 9, false)) := ⟨by decide, (in_2 _ (List.mem_of_getElem? (i := 202) rfl))⟩
theorem ma_ct_52 : ma_CP ((1, 55, 90, true)) := ⟨by decide, (in_2 _ (List.mem_of_getElem? (i := 239) rfl))⟩
theorem ma_ct_53 : ma_CP ((1, 67, 14, false)) := ⟨by decide, (in_2 _ (List.mem_of_getElem? (i := 210) rfl))⟩
theorem ma_ct_54 : ma_CP ((2, 31, 91, true)) := ⟨by decide, (in_2 _ (List.mem_of_getElem? (i := 158) rfl))⟩
theorem ma_ct_55 : ma_CP ((2, 35, 19, false)) := ⟨by decide, (in_2 _ (List.mem_of_getElem? (i := 144) rfl))⟩
theorem ma_ct_56 : ma_CP ((2, 39, 23, false)) := ⟨by decide, (in_2 _ (List.mem_of_getElem? (i := 191) rfl))⟩
theorem ma_ct_57 : ma_CP ((2, 49, 24, false)) := ⟨by decide, (in_2 _ (List.mem_of_getElem? (i := 196) rfl))⟩
theorem ma_ct_58 : ma_CP ((2, 53, 25, false)) := ⟨by decide, (in_2 _ (List.mem_of_getElem? (i := 199) rfl))⟩
theorem ma_ct_59 : ma_CP ((3, 19, 17, false)) := ⟨by decide, (in_2 _ (List.mem_of_getElem? (i := 43) rfl))⟩
theorem ma_ct_60 : ma_CP ((3, 31, 28, false)) := ⟨by decide, (in_2 _ (List.mem_of_getElem? (i := 47) rfl))⟩
theorem ma_ct_61 : ma_CP ((3, 39, 36, false)) := ⟨by decide, (in_2 _ (List.mem_of_getElem? (i := 55) rfl))⟩
theorem ma_ct_62 : ma_CP ((3, 43, 29, false)) := ⟨by decide, (in_2 _ (List.mem_of_getElem? (i := 51) rfl))⟩
theorem ma_ct_63 : ma_CP ((3, 52, 35, false)) := ⟨by decide, (in_2 _ (List.mem_of_getElem? (i := 66) rfl))⟩
theorem ma_ct_64 : ma_CP ((3, 56, 33, false)) := ⟨by decide, (in_2 _ (List.mem_of_getElem? (i := 118) rfl))⟩
theorem ma_ct_65 : ma_CP ((3, 64, 30, false)) := ⟨by decide, (in_2 _ (List.mem_of_getElem? (i := 126) rfl))⟩
theorem ma_ct_66 : ma_CP ((3, 68, 21, false)) := ⟨by decide, (in_2 _ (List.mem_of_getElem? (i := 150) rfl))⟩
theorem ma_ct_67 : ma_CP ((3, 71, 47, false)) := ⟨by decide, (in_2 _ (List.mem_of_getElem? (i := 59) rfl))⟩
theorem ma_ct_68 : ma_CP ((3, 75, 31, false)) := ⟨by decide, (in_2 _ (List.mem_of_getElem? (i := 130) rfl))⟩
theorem ma_ct_69 : ma_CP ((3, 78, 19, false)) := ⟨by decide, (in_2 _ (List.mem_of_getElem? (i := 148) rfl))⟩
theorem ma_ct_70 : ma_CP ((3, 83, 32, false)) := ⟨by decide, (in_2 _ (List.mem_of_getElem? (i := 135) rfl))⟩
theorem ma_ct_71 : ma_CP ((3, 89, 20, false)) := ⟨by decide, (in_2 _ (List.mem_of_getElem? (i := 140) rfl))⟩
theorem ma_ct_72 : ma_CP ((3, 104, 34, false)) := ⟨by decide, (in_2 _ (List.mem_of_getElem? (i := 122) rfl))⟩
theorem ma_ct_73 : ma_CP ((4, 32, 38, false)) := ⟨by decide, (in_3 _ (List.mem_of_getElem? (i := 92) rfl))⟩
theorem ma_ct_74 : ma_CP ((4, 36, 40, false)) := ⟨by decide, (in_3 _ (List.mem_of_getElem? (i := 96) rfl))⟩
theorem ma_ct_75 : ma_CP ((4, 40, 41, false)) := ⟨by decide, (in_3 _ (List.mem_of_getElem? (i := 226) rfl))⟩
theorem ma_ct_76 : ma_CP ((4, 44, 42, false)) := ⟨by decide, (in_3 _ (List.mem_of_getElem? (i := 227) rfl))⟩
theorem ma_ct_77 : ma_CP ((4, 47, 43, false)) := ⟨by decide, (in_3 _ (List.mem_of_getElem? (i := 228) rfl))⟩
theorem ma_ct_78 : ma_CP ((5, 11, 49, false)) := ⟨by decide, (in_1 _ (List.mem_of_getElem? (i := 31) rfl))⟩
theorem ma_ct_79 : ma_CP ((5, 20, 16, false)) := ⟨by decide, (in_1 _ (List.mem_of_getElem? (i := 112) rfl))⟩
theorem ma_ct_80 : ma_CP ((5, 31, 37, false)) := ⟨by decide, (in_1 _ (List.mem_of_getElem? (i := 139) rfl))⟩
theorem ma_ct_81 : ma_CP ((5, 48, 52, false)) := ⟨by decide, (in_3 _ (List.mem_of_getElem? (i := 219) rfl))⟩
theorem ma_ct_82 : ma_CP ((5, 52, 18, false)) := ⟨by decide, (in_3 _ (List.mem_of_getElem? (i := 220) rfl))⟩
theorem ma_ct_83 : ma_CP ((5, 58, 91, true)) := ⟨by decide, (in_3 _ (List.mem_of_getElem? (i := 221) rfl))⟩
theorem ma_ct_84 : ma_CP ((5, 62, 44, false)) := ⟨by decide, (in_3 _ (List.mem_of_getElem? (i := 222) rfl))⟩
theorem ma_ct_85 : ma_CP ((6, 17, 6, false)) := ⟨by decide, (in_1 _ (List.mem_of_getElem? (i := 38) rfl))⟩
theorem ma_ct_86 : ma_CP ((6, 27, 7, false)) := ⟨by decide, (in_2 _ (List.mem_of_getElem? (i := 170) rfl))⟩
theorem ma_ct_87 : ma_CP ((6, 37, 50, false)) := ⟨by decide, (in_3 _ (List.mem_of_getElem? (i := 20) rfl))⟩
theorem ma_ct_88 : ma_CP ((6, 41, 8, false)) := ⟨by decide, (in_3 _ (List.mem_of_getElem? (i := 48) rfl))⟩
theorem ma_ct_89 : ma_CP ((6, 45, 54, false)) := ⟨by decide, (in_3 _ (List.mem_of_getElem? (i := 29) rfl))⟩
theorem ma_ct_90 : ma_CP ((6, 49, 11, false)) := ⟨by decide, (in_3 _ (List.mem_of_getElem? (i := 33) rfl))⟩
theorem ma_ct_91 : ma_CP ((6, 53, 12, false)) := ⟨by decide, (in_3 _ (List.mem_of_getElem? (i := 34) rfl))⟩
theorem ma_ct_92 : ma_CP ((9, 9, 57, false)) := ⟨by decide, (in_1 _ (List.mem_of_getElem? (i := 17) rfl))⟩
theorem ma_ct_93 : ma_CP ((9, 12, 101, false)) := ⟨by decide, (in_3 _ (List.mem_of_getElem? (i := 239) rfl))⟩
theorem ma_ct_94 : ma_CP ((9, 13, 58, false)) := ⟨by decide, (in_2 _ (List.mem_of_getElem? (i := 24) rfl))⟩
theorem ma_ct_95 : ma_CP ((9, 17, 107, false)) := ⟨by decide, (in_4 _ (List.mem_of_getElem? (i := 54) rfl))⟩
theorem ma_ct_96 : ma_CP ((9, 18, 59, false)) := ⟨by decide, (in_2 _ (List.mem_of_getElem? (i := 35) rfl))⟩
theorem ma_ct_97 : ma_CP ((9, 22, 121, false)) := ⟨by decide, (in_4 _ (List.mem_of_getElem? (i := 61) rfl))⟩
theorem ma_ct_98 : ma_CP ((9, 23, 60, false)) := ⟨by decide, (in_2 _ (List.mem_of_getElem? (i := 162) rfl))⟩
theorem ma_ct_99 : ma_CP ((9, 27, 128, false)) := ⟨by decide, (in_4 _ (List.mem_of_getElem? (i := 124) rfl))⟩
theorem ma_ct_100 : ma_CP ((9, 28, 61, false)) := ⟨by decide, (in_2 _ (List.mem_of_getElem? (i := 174) rfl))⟩
theorem ma_ct_101 : ma_CP ((9, 31, 129, false)) := ⟨by decide, (in_4 _ (List.mem_of_getElem? (i := 128) rfl))⟩
theorem ma_ct_102 : ma_CP ((9, 32, 62, false)) := ⟨by decide, (in_2 _ (List.mem_of_getElem? (i := 214) rfl))⟩
theorem ma_ct_103 : ma_CP ((9, 36, 130, false)) := ⟨by decide, (in_4 _ (List.mem_of_getElem? (i := 157) rfl))⟩
theorem ma_ct_104 : ma_CP ((9, 37, 63, false)) := ⟨by decide, (in_2 _ (List.mem_of_getElem? (i := 223) rfl))⟩
theorem ma_ct_105 : ma_CP ((9, 40, 131, false)) := ⟨by decide, (in_4 _ (List.mem_of_getElem? (i := 165) rfl))⟩
theorem ma_ct_106 : ma_CP ((9, 41, 64, false)) := ⟨by decide, (in_2 _ (List.mem_of_getElem? (i := 227) rfl))⟩
theorem ma_ct_107 : ma_CP ((9, 44, 132, false)) := ⟨by decide, (in_4 _ (List.mem_of_getElem? (i := 169) rfl))⟩
theorem ma_ct_108 : ma_CP ((9, 45, 65, false)) := ⟨by decide, (in_2 _ (List.mem_of_getElem? (i := 231) rfl))⟩
theorem ma_ct_109 : ma_CP ((9, 48, 134, false)) := ⟨by decide, (in_4 _ (List.mem_of_getElem? (i := 173) rfl))⟩
theorem ma_ct_110 : ma_CP ((9, 49, 66, false)) := ⟨by decide, (in_3 _ (List.mem_of_getElem? (i := 7) rfl))⟩
theorem ma_ct_111 : ma_CP ((9, 52, 135, false)) := ⟨by decide, (in_4 _ (List.mem_of_getElem? (i := 184) rfl))⟩
theorem ma_ct_112 : ma_CP ((9, 53, 67, false)) := ⟨by decide, (in_3 _ (List.mem_of_getElem? (i := 12) rfl))⟩
theorem ma_ct_113 : ma_CP ((9, 56, 137, false)) := ⟨by decide, (in_4 _ (List.mem_of_getElem? (i := 188) rfl))⟩
theorem ma_ct_114 : ma_CP ((9, 57, 68, false)) := ⟨by decide, (in_3 _ (List.mem_of_getElem? (i := 21) rfl))⟩
theorem ma_ct_115 : ma_CP ((9, 60, 142, false)) := ⟨by decide, (in_4 _ (List.mem_of_getElem? (i := 196) rfl))⟩
theorem ma_ct_116 : ma_CP ((9, 61, 69, false)) := ⟨by decide, (in_3 _ (List.mem_of_getElem? (i := 40) rfl))⟩
theorem ma_ct_117 : ma_CP ((9, 64, 143, false)) := ⟨by decide, (in_4 _ (List.mem_of_getElem? (i := 209) rfl))⟩
theorem ma_ct_118 : ma_CP ((9, 65, 70, false)) := ⟨by decide, (in_3 _ (List.mem_of_getElem? (i := 53) rfl))⟩
theorem ma_ct_119 : ma_CP ((9, 68, 146, false)) := ⟨by decide, (in_4 _ (List.mem_of_getElem? (i := 225) rfl))⟩
theorem ma_ct_120 : ma_CP ((9, 69, 71, false)) := ⟨by decide, (in_3 _ (List.mem_of_getElem? (i := 65) rfl))⟩
theorem ma_ct_121 : ma_CP ((9, 72, 149, false)) := ⟨by decide, (in_4 _ (List.mem_of_getElem? (i := 237) rfl))⟩
theorem ma_ct_122 : ma_CP ((9, 73, 72, false)) := ⟨by decide, (in_3 _ (List.mem_of_getElem? (i := 84) rfl))⟩
theorem ma_ct_123 : ma_CP ((9, 77, 150, false)) := ⟨by decide, (in_5 _ (List.mem_of_getElem? (i := 12) rfl))⟩
theorem ma_ct_124 : ma_CP ((9, 78, 73, false)) := ⟨by decide, (in_3 _ (List.mem_of_getElem? (i := 100) rfl))⟩
theorem ma_ct_125 : ma_CP ((9, 81, 153, false)) := ⟨by decide, (in_5 _ (List.mem_of_getElem? (i := 16) rfl))⟩
theorem ma_ct_126 : ma_CP ((9, 82, 74, false)) := ⟨by decide, (in_3 _ (List.mem_of_getElem? (i := 124) rfl))⟩
theorem ma_ct_127 : ma_CP ((9, 85, 154, false)) := ⟨by decide, (in_5 _ (List.mem_of_getElem? (i := 28) rfl))⟩
theorem ma_ct_128 : ma_CP ((9, 86, 75, false)) := ⟨by decide, (in_3 _ (List.mem_of_getElem? (i := 128) rfl))⟩
theorem ma_ct_129 : ma_CP ((9, 89, 155, false)) := ⟨by decide, (in_5 _ (List.mem_of_getElem? (i := 32) rfl))⟩
theorem ma_ct_130 : ma_CP ((9, 90, 76, false)) := ⟨by decide, (in_3 _ (List.mem_of_getElem? (i := 132) rfl))⟩
theorem ma_ct_131 : ma_CP ((9, 94, 157, false)) := ⟨by decide, (in_5 _ (List.mem_of_getElem? (i := 36) rfl))⟩
theorem ma_ct_132 : ma_CP ((9, 95, 77, false)) := ⟨by decide, (in_3 _ (List.mem_of_getElem? (i := 141) rfl))⟩
theorem ma_ct_133 : ma_CP ((9, 99, 158, false)) := ⟨by decide, (in_5 _ (List.mem_of_getElem? (i := 45) rfl))⟩
theorem ma_ct_134 : ma_CP ((9, 100, 78, false)) := ⟨by decide, (in_3 _ (List.mem_of_getElem? (i := 149) rfl))⟩
theorem ma_ct_135 : ma_CP ((9, 103, 159, false)) := ⟨by decide, (in_5 _ (List.mem_of_getElem? (i := 49) rfl))⟩
theorem ma_ct_136 : ma_CP ((9, 104, 79, false)) := ⟨by decide, (in_3 _ (List.mem_of_getElem? (i := 153) rfl))⟩
theorem ma_ct_137 : ma_CP ((9, 107, 161, false)) := ⟨by decide, (in_5 _ (List.mem_of_getElem? (i := 53) rfl))⟩
theorem ma_ct_138 : ma_CP ((9, 108, 80, false)) := ⟨by decide, (in_3 _ (List.mem_of_getElem? (i := 162) rfl))⟩
theorem ma_ct_139 : ma_CP ((9, 111, 162, false)) := ⟨by decide, (in_5 _ (List.mem_of_getElem? (i := 61) rfl))⟩
theorem ma_ct_140 : ma_CP ((9, 112, 81, false)) := ⟨by decide, (in_3 _ (List.mem_of_getElem? (i := 166) rfl))⟩
theorem ma_ct_141 : ma_CP ((9, 115, 163, false)) := ⟨by decide, (in_5 _ (List.mem_of_getElem? (i := 65) rfl))⟩
theorem ma_ct_142 : ma_CP ((9, 116, 82, false)) := ⟨by decide, (in_3 _ (List.mem_of_getElem? (i := 170) rfl))⟩
theorem ma_ct_143 : ma_CP ((9, 119, 172, false)) := ⟨by decide, (in_5 _ (List.mem_of_getElem? (i := 69) rfl))⟩
theorem ma_ct_144 : ma_CP ((9, 120, 83, false)) := ⟨by decide, (in_3 _ (List.mem_of_getElem? (i := 198) rfl))⟩
theorem ma_ct_145 : ma_CP ((9, 123, 173, false)) := ⟨by decide, (in_5 _ (List.mem_of_getElem? (i := 104) rfl))⟩
theorem ma_ct_146 : ma_CP ((9, 124, 84, false)) := ⟨by decide, (in_3 _ (List.mem_of_getElem? (i := 206) rfl))⟩
theorem ma_ct_147 : ma_CP ((9, 127, 174, false)) := ⟨by decide, (in_5 _ (List.mem_of_getElem? (i := 108) rfl))⟩
theorem ma_ct_148 : ma_CP ((9, 128, 85, false)) := ⟨by decide, (in_3 _ (List.mem_of_getElem? (i := 211) rfl))⟩
theorem ma_ct_149 : ma_CP ((9, 131, 175, false)) := ⟨by decide, (in_5 _ (List.mem_of_getElem? (i := 112) rfl))⟩
theorem ma_ct_150 : ma_CP ((9, 132, 86, false)) := ⟨by decide, (in_3 _ (List.mem_of_getElem? (i := 229) rfl))⟩
theorem ma_ct_151 : ma_CP ((9, 135, 176, false)) := ⟨by decide, (in_5 _ (List.mem_of_getElem? (i := 116) rfl))⟩
theorem ma_ct_152 : ma_CP ((9, 136, 87, false)) := ⟨by decide, (in_3 _ (List.mem_of_getElem? (i := 233) rfl))⟩
theorem ma_ct_153 : ma_CP ((9, 139, 177, false)) := ⟨by decide, (in_5 _ (List.mem_of_getElem? (i := 120) rfl))⟩
theorem ma_ct_154 : ma_CP ((8, 35, 102, false)) := ⟨by decide, (in_4 _ (List.mem_of_getElem? (i := 58) rfl))⟩
theorem ma_ct_155 : ma_CP ((8, 49, 108, false)) := ⟨by decide, (in_4 _ (List.mem_of_getElem? (i := 69) rfl))⟩
theorem ma_ct_156 : ma_CP ((8, 62, 109, false)) := ⟨by decide, (in_4 _ (List.mem_of_getElem? (i := 84) rfl))⟩
theorem ma_ct_157 : ma_CP ((8, 72, 114, false)) := ⟨by decide, (in_4 _ (List.mem_of_getElem? (i := 109) rfl))⟩
theorem ma_ct_158 : ma_CP ((8, 75, 113, false)) := ⟨by decide, (in_4 _ (List.mem_of_getElem? (i := 113) rfl))⟩
theorem ma_ct_159 : ma_CP ((8, 78, 116, false)) := ⟨by decide, (in_4 _ (List.mem_of_getElem? (i := 101) rfl))⟩
theorem ma_ct_160 : ma_CP ((8, 83, 112, false)) := ⟨by decide, (in_4 _ (List.mem_of_getElem? (i := 118) rfl))⟩
theorem ma_ct_161 : ma_CP ((8, 89, 111, false)) := ⟨by decide, (in_4 _ (List.mem_of_getElem? (i := 88) rfl))⟩
theorem ma_ct_162 : ma_CP ((8, 92, 115, false)) := ⟨by decide, (in_4 _ (List.mem_of_getElem? (i := 105) rfl))⟩
theorem ma_ct_163 : ma_CP ((8, 95, 110, false)) := ⟨by decide, (in_4 _ (List.mem_of_getElem? (i := 78) rfl))⟩
theorem ma_ct_164 : ma_CP ((8, 101, 118, false)) := ⟨by decide, (in_4 _ (List.mem_of_getElem? (i := 74) rfl))⟩
theorem ma_ct_165 : ma_CP ((8, 105, 119, false)) := ⟨by decide, (in_4 _ (List.mem_of_getElem? (i := 92) rfl))⟩
theorem ma_ct_166 : ma_CP ((8, 110, 117, false)) := ⟨by decide, (in_4 _ (List.mem_of_getElem? (i := 97) rfl))⟩
theorem ma_ct_167 : ma_CP ((8, 115, 120, false)) := ⟨by decide, (in_4 _ (List.mem_of_getElem? (i := 65) rfl))⟩
theorem ma_ct_168 : ma_CP ((8, 118, 122, false)) := ⟨by decide, (in_4 _ (List.mem_of_getElem? (i := 145) rfl))⟩
theorem ma_ct_169 : ma_CP ((8, 122, 123, false)) := ⟨by decide, (in_4 _ (List.mem_of_getElem? (i := 141) rfl))⟩
theorem ma_ct_170 : ma_CP ((8, 126, 125, false)) := ⟨by decide, (in_4 _ (List.mem_of_getElem? (i := 153) rfl))⟩
theorem ma_ct_171 : ma_CP ((8, 129, 103, false)) := ⟨by decide, (in_4 _ (List.mem_of_getElem? (i := 132) rfl))⟩
theorem ma_ct_172 : ma_CP ((8, 134, 124, false)) := ⟨by decide, (in_4 _ (List.mem_of_getElem? (i := 137) rfl))⟩
theorem ma_ct_173 : ma_CP ((8, 137, 126, false)) := ⟨by decide, (in_4 _ (List.mem_of_getElem? (i := 149) rfl))⟩
theorem ma_ct_174 : ma_CP ((8, 140, 127, false)) := ⟨by decide, (in_4 _ (List.mem_of_getElem? (i := 161) rfl))⟩
theorem ma_ct_175 : ma_CP ((8, 143, 104, false)) := ⟨by decide, (in_4 _ (List.mem_of_getElem? (i := 181) rfl))⟩
theorem ma_ct_176 : ma_CP ((8, 146, 133, false)) := ⟨by decide, (in_4 _ (List.mem_of_getElem? (i := 177) rfl))⟩
theorem ma_ct_177 : ma_CP ((8, 149, 136, false)) := ⟨by decide, (in_4 _ (List.mem_of_getElem? (i := 192) rfl))⟩
theorem ma_ct_178 : ma_CP ((8, 152, 138, false)) := ⟨by decide, (in_4 _ (List.mem_of_getElem? (i := 204) rfl))⟩
theorem ma_ct_179 : ma_CP ((8, 155, 139, false)) := ⟨by decide, (in_4 _ (List.mem_of_getElem? (i := 200) rfl))⟩
theorem ma_ct_180 : ma_CP ((8, 159, 105, false)) := ⟨by decide, (in_4 _ (List.mem_of_getElem? (i := 213) rfl))⟩
theorem ma_ct_181 : ma_CP ((8, 162, 140, false)) := ⟨by decide, (in_4 _ (List.mem_of_getElem? (i := 217) rfl))⟩
theorem ma_ct_182 : ma_CP ((8, 165, 106, false)) := ⟨by decide, (in_4 _ (List.mem_of_getElem? (i := 221) rfl))⟩
theorem ma_ct_183 : ma_CP ((8, 168, 144, false)) := ⟨by decide, (in_4 _ (List.mem_of_getElem? (i := 229) rfl))⟩
theorem ma_ct_184 : ma_CP ((8, 171, 145, false)) := ⟨by decide, (in_4 _ (List.mem_of_getElem? (i := 233) rfl))⟩
theorem ma_ct_185 : ma_CP ((8, 174, 141, false)) := ⟨by decide, (in_5 _ (List.mem_of_getElem? (i := 8) rfl))⟩
theorem ma_ct_186 : ma_CP ((8, 178, 148, false)) := ⟨by decide, (in_5 _ (List.mem_of_getElem? (i := 1) rfl))⟩
theorem ma_ct_187 : ma_CP ((8, 181, 147, false)) := ⟨by decide, (in_5 _ (List.mem_of_getElem? (i := 4) rfl))⟩
theorem ma_ct_188 : ma_CP ((8, 185, 151, false)) := ⟨by decide, (in_5 _ (List.mem_of_getElem? (i := 24) rfl))⟩
theorem ma_ct_189 : ma_CP ((8, 189, 152, false)) := ⟨by decide, (in_5 _ (List.mem_of_getElem? (i := 20) rfl))⟩
theorem ma_ct_190 : ma_CP ((8, 197, 156, false)) := ⟨by decide, (in_5 _ (List.mem_of_getElem? (i := 42) rfl))⟩
theorem ma_ct_191 : ma_CP ((8, 201, 160, false)) := ⟨by decide, (in_5 _ (List.mem_of_getElem? (i := 57) rfl))⟩
theorem ma_ct_192 : ma_CP ((8, 207, 164, false)) := ⟨by decide, (in_5 _ (List.mem_of_getElem? (i := 80) rfl))⟩
theorem ma_ct_193 : ma_CP ((8, 216, 165, false)) := ⟨by decide, (in_5 _ (List.mem_of_getElem? (i := 77) rfl))⟩
theorem ma_ct_194 : ma_CP ((8, 219, 166, false)) := ⟨by decide, (in_5 _ (List.mem_of_getElem? (i := 84) rfl))⟩
theorem ma_ct_195 : ma_CP ((8, 222, 167, false)) := ⟨by decide, (in_5 _ (List.mem_of_getElem? (i := 73) rfl))⟩
theorem ma_ct_196 : ma_CP ((8, 228, 168, false)) := ⟨by decide, (in_5 _ (List.mem_of_getElem? (i := 92) rfl))⟩
theorem ma_ct_197 : ma_CP ((8, 231, 169, false)) := ⟨by decide, (in_5 _ (List.mem_of_getElem? (i := 88) rfl))⟩
theorem ma_ct_198 : ma_CP ((8, 234, 170, false)) := ⟨by decide, (in_5 _ (List.mem_of_getElem? (i := 100) rfl))⟩
theorem ma_ct_199 : ma_CP ((8, 237, 171, false)) := ⟨by decide, (in_5 _ (List.mem_of_getElem? (i := 96) rfl))⟩
set_option maxRecDepth 100000 in
theorem ma_ct_ok : ∀ r ∈ ma_ct, ma_CP r := List.forall_mem_cons.mpr ⟨ma_ct_0, List.forall_mem_cons.mpr ⟨ma_ct_1, List.forall_mem_cons.mpr ⟨ma_ct_2, List.forall_mem_cons.mpr ⟨ma_ct_3, List.forall_mem_cons.mpr ⟨ma_ct_4, List.forall_mem_cons.mpr ⟨ma_ct_5, List.forall_mem_cons.mpr ⟨ma_ct_6, List.forall_mem_cons.mpr ⟨ma_ct_7, List.forall_mem_cons.mpr ⟨ma_ct_8, List.forall_mem_cons.mpr ⟨ma_ct_9, List.forall_mem_cons.mpr ⟨ma_ct_10, List.forall_mem_cons.mpr ⟨ma_ct_11, List.forall_mem_cons.mpr ⟨ma_ct_12, List.forall_mem_cons.mpr ⟨ma_ct_13, List.forall_mem_cons.mpr ⟨ma_ct_14, List.forall_mem_cons.mpr ⟨ma_ct_15, List.forall_mem_cons.mpr ⟨ma_ct_16, List.forall_mem_cons.mpr ⟨ma_ct_17, List.forall_mem_cons.mpr ⟨ma_ct_18, List.forall_mem_cons.mpr ⟨ma_ct_19, List.forall_mem_cons.mpr ⟨ma_ct_20, List.forall_mem_cons.mpr ⟨ma_ct_21, List.forall_mem_cons.mpr ⟨ma_ct_22, List.forall_mem_cons.mpr ⟨ma_ct_23, List.forall_mem_cons.mpr ⟨ma_ct_24, List.forall_mem_cons.mpr ⟨ma_ct_25, List.forall_mem_cons.mpr ⟨ma_ct_26, List.forall_mem_cons.mpr ⟨ma_ct_27, List.forall_mem_cons.mpr ⟨ma_ct_28, List.forall_mem_cons.mpr ⟨ma_ct_29, List.forall_mem_cons.mpr ⟨ma_ct_30, List.forall_mem_cons.mpr ⟨ma_ct_31, List.forall_mem_cons.mpr ⟨ma_ct_32, List.forall_mem_cons.mpr ⟨ma_ct_33, List.forall_mem_cons.mpr ⟨ma_ct_34, List.forall_mem_cons.mpr ⟨ma_ct_35, List.forall_mem_cons.mpr ⟨ma_ct_36, List.forall_mem_cons.mpr ⟨ma_ct_37, List.forall_mem_cons.mpr ⟨ma_ct_38, List.forall_mem_cons.mpr ⟨ma_ct_39, List.forall_mem_cons.mpr ⟨ma_ct_40, List.forall_mem_cons.mpr ⟨ma_ct_41, List.forall_mem_cons.mpr ⟨ma_ct_42, List.forall_mem_cons.mpr ⟨ma_ct_43, List.forall_mem_cons.mpr ⟨ma_ct_44, List.forall_mem_cons.mpr ⟨ma_ct_45, List.forall_mem_cons.mpr ⟨ma_ct_46, List.forall_mem_cons.mpr ⟨ma_ct_47, List.forall_mem_cons.mpr ⟨ma_ct_48, List.forall_mem_cons.mpr ⟨ma_ct_49, List.forall_mem_cons.mpr ⟨ma_ct_50, List.forall_mem_cons.mpr ⟨ma_ct_51, List.forall_mem_cons.mpr ⟨ma_ct_52, List.forall_mem_cons.mpr ⟨ma_ct_53, List.forall_mem_cons.mpr ⟨ma_ct_54, List.forall_mem_cons.mpr ⟨ma_ct_55, List.forall_mem_cons.mpr ⟨ma_ct_56, List.forall_mem_cons.mpr ⟨ma_ct_57, List.forall_mem_cons.mpr ⟨ma_ct_58, List.forall_mem_cons.mpr ⟨ma_ct_59, List.forall_mem_cons.mpr ⟨ma_ct_60, List.forall_mem_cons.mpr ⟨ma_ct_61, List.forall_mem_cons.mpr ⟨ma_ct_62, List.forall_mem_cons.mpr ⟨ma_ct_63, List.forall_mem_cons.mpr ⟨ma_ct_64, List.forall_mem_cons.mpr ⟨ma_ct_65, List.forall_mem_cons.mpr ⟨ma_ct_66, List.forall_mem_cons.mpr ⟨ma_ct_67, List.forall_mem_cons.mpr ⟨ma_ct_68, List.forall_mem_cons.mpr ⟨ma_ct_69, List.forall_mem_cons.mpr ⟨ma_ct_70, List.forall_mem_cons.mpr ⟨ma_ct_71, List.forall_mem_cons.mpr ⟨ma_ct_72, List.forall_mem_cons.mpr ⟨ma_ct_73, List.forall_mem_cons.mpr ⟨ma_ct_74, List.forall_mem_cons.mpr ⟨ma_ct_75, List.forall_mem_cons.mpr ⟨ma_ct_76, List.forall_mem_cons.mpr ⟨ma_ct_77, List.forall_mem_cons.mpr ⟨ma_ct_78, List.forall_mem_cons.mpr ⟨ma_ct_79, List.forall_mem_cons.mpr ⟨ma_ct_80, List.forall_mem_cons.mpr ⟨ma_ct_81, List.forall_mem_cons.mpr ⟨ma_ct_82, List.forall_mem_cons.mpr ⟨ma_ct_83, List.forall_mem_cons.mpr ⟨ma_ct_84, List.forall_mem_cons.mpr ⟨ma_ct_85, List.forall_mem_cons.mpr ⟨ma_ct_86, List.forall_mem_cons.mpr ⟨ma_ct_87, List.forall_mem_cons.mpr ⟨ma_ct_88, List.forall_mem_cons.mpr ⟨ma_ct_89, List.forall_mem_cons.mpr ⟨ma_ct_90, List.forall_mem_cons.mpr ⟨ma_ct_91, List.forall_mem_cons.mpr ⟨ma_ct_92, List.forall_mem_cons.mpr ⟨ma_ct_93, List.forall_mem_cons.mpr ⟨ma_ct_94, List.forall_mem_cons.mpr ⟨ma_ct_95, List.forall_mem_cons.mpr ⟨ma_ct_96, List.forall_mem_cons.mpr ⟨ma_ct_97, List.forall_mem_cons.mpr ⟨ma_ct_98, List.forall_mem_cons.mpr ⟨ma_ct_99, List.forall_mem_cons.mpr ⟨ma_ct_100, List.forall_mem_cons.mpr ⟨ma_ct_101, List.forall_mem_cons.mpr ⟨ma_ct_102, List.forall_mem_cons.mpr ⟨ma_ct_103, List.forall_mem_cons.mpr ⟨ma_ct_104, List.forall_mem_cons.mpr ⟨ma_ct_105, List.forall_mem_cons.mpr ⟨ma_ct_106, List.forall_mem_cons.mpr ⟨ma_ct_107, List.forall_mem_cons.mpr ⟨ma_ct_108, List.forall_mem_cons.mpr ⟨ma_ct_109, List.forall_mem_cons.mpr ⟨ma_ct_110, List.forall_mem_cons.mpr ⟨ma_ct_111, List.forall_mem_cons.mpr ⟨ma_ct_112, List.forall_mem_cons.mpr ⟨ma_ct_113, List.forall_mem_cons.mpr ⟨ma_ct_114, List.forall_mem_cons.mpr ⟨ma_ct_115, List.forall_mem_cons.mpr ⟨ma_ct_116, List.forall_mem_cons.mpr ⟨ma_ct_117, List.forall_mem_cons.mpr ⟨ma_ct_118, List.forall_mem_cons.mpr ⟨ma_ct_119, List.forall_mem_cons.mpr ⟨ma_ct_120, List.forall_mem_cons.mpr ⟨ma_ct_121, List.forall_mem_cons.mpr ⟨ma_ct_122, List.forall_mem_cons.mpr ⟨ma_ct_123, List.forall_mem_cons.mpr ⟨ma_ct_124, List.forall_mem_cons.mpr ⟨ma_ct_125, List.forall_mem_cons.mpr ⟨ma_ct_126, List.forall_mem_cons.mpr ⟨ma_ct_127, List.forall_mem_cons.mpr ⟨ma_ct_128, List.forall_mem_cons.mpr ⟨ma_ct_129, List.forall_mem_cons.mpr ⟨ma_ct_130, List.forall_mem_cons.mpr ⟨ma_ct_131, List.forall_mem_cons.mpr ⟨ma_ct_132, List.forall_mem_cons.mpr ⟨ma_ct_133, List.forall_mem_cons.mpr ⟨ma_ct_134, List.forall_mem_cons.mpr ⟨ma_ct_135, List.forall_mem_cons.mpr ⟨ma_ct_136, List.forall_mem_cons.mpr ⟨ma_ct_137, List.forall_mem_cons.mpr ⟨ma_ct_138, List.forall_mem_cons.mpr ⟨ma_ct_139, List.forall_mem_cons.mpr ⟨ma_ct_140, List.forall_mem_cons.mpr ⟨ma_ct_141, List.forall_mem_cons.mpr ⟨ma_ct_142, List.forall_mem_cons.mpr ⟨ma_ct_143, List.forall_mem_cons.mpr ⟨ma_ct_144, List.forall_mem_cons.mpr ⟨ma_ct_145, List.forall_mem_cons.mpr ⟨ma_ct_146, List.forall_mem_cons.mpr ⟨ma_ct_147, List.forall_mem_cons.mpr ⟨ma_ct_148, List.forall_mem_cons.mpr ⟨ma_ct_149, List.forall_mem_cons.mpr ⟨ma_ct_150, List.forall_mem_cons.mpr ⟨ma_ct_151, List.forall_mem_cons.mpr ⟨ma_ct_152, List.forall_mem_cons.mpr ⟨ma_ct_153, List.forall_mem_cons.mpr ⟨ma_ct_154, List.forall_mem_cons.mpr ⟨ma_ct_155, List.forall_mem_cons.mpr ⟨ma_ct_156, List.forall_mem_cons.mpr ⟨ma_ct_157, List.forall_mem_cons.mpr ⟨ma_ct_158, List.forall_mem_cons.mpr ⟨ma_ct_159, List.forall_mem_cons.mpr ⟨ma_ct_160, List.forall_mem_cons.mpr ⟨ma_ct_161, List.forall_mem_cons.mpr ⟨ma_ct_162, List.forall_mem_cons.mpr ⟨ma_ct_163, List.forall_mem_cons.mpr ⟨ma_ct_164, List.forall_mem_cons.mpr ⟨ma_ct_165, List.forall_mem_cons.mpr ⟨ma_ct_166, List.forall_mem_cons.mpr ⟨ma_ct_167, List.forall_mem_cons.mpr ⟨ma_ct_168, List.forall_mem_cons.mpr ⟨ma_ct_169, List.forall_mem_cons.mpr ⟨ma_ct_170, List.forall_mem_cons.mpr ⟨ma_ct_171, List.forall_mem_cons.mpr ⟨ma_ct_172, List.forall_mem_cons.mpr ⟨ma_ct_173, List.forall_mem_cons.mpr ⟨ma_ct_174, List.forall_mem_cons.mpr ⟨ma_ct_175, List.forall_mem_cons.mpr ⟨ma_ct_176, List.forall_mem_cons.mpr ⟨ma_ct_177, List.forall_mem_cons.mpr ⟨ma_ct_178, List.forall_mem_cons.mpr ⟨ma_ct_179, List.forall_mem_cons.mpr ⟨ma_ct_180, List.forall_mem_cons.mpr ⟨ma_ct_181, List.forall_mem_cons.mpr ⟨ma_ct_182, List.forall_mem_cons.mpr ⟨ma_ct_183, List.forall_mem_cons.mpr ⟨ma_ct_184, List.forall_mem_cons.mpr ⟨ma_ct_185, List.forall_mem_cons.mpr ⟨ma_ct_186, List.forall_mem_cons.mpr ⟨ma_ct_187, List.forall_mem_cons.mpr ⟨ma_ct_188, List.forall_mem_cons.mpr ⟨ma_ct_189, List.forall_mem_cons.mpr ⟨ma_ct_190, List.forall_mem_cons.mpr ⟨ma_ct_191, List.forall_mem_cons.mpr ⟨ma_ct_192, List.forall_mem_cons.mpr ⟨ma_ct_193, List.forall_mem_cons.mpr ⟨ma_ct_194, List.forall_mem_cons.mpr ⟨ma_ct_195, List.forall_mem_cons.mpr ⟨ma_ct_196, List.forall_mem_cons.mpr ⟨ma_ct_197, List.forall_mem_cons.mpr ⟨ma_ct_198, List.forall_mem_cons.mpr ⟨ma_ct_199, fun _ h => absurd h List.not_mem_nil⟩⟩⟩⟩⟩⟩⟩⟩⟩⟩⟩⟩⟩⟩⟩⟩⟩⟩⟩⟩⟩⟩⟩⟩⟩⟩⟩⟩⟩⟩⟩⟩⟩⟩⟩⟩⟩⟩⟩⟩⟩⟩⟩⟩⟩⟩⟩⟩⟩⟩⟩⟩⟩⟩⟩⟩⟩⟩⟩⟩⟩⟩⟩⟩⟩⟩⟩⟩⟩⟩⟩⟩⟩⟩⟩⟩⟩⟩⟩⟩⟩⟩⟩⟩⟩⟩⟩⟩⟩⟩⟩⟩⟩⟩⟩⟩⟩⟩⟩⟩⟩⟩⟩⟩⟩⟩⟩⟩⟩⟩⟩⟩⟩⟩⟩⟩⟩⟩⟩⟩⟩⟩⟩⟩⟩⟩⟩⟩⟩⟩⟩⟩⟩⟩⟩⟩⟩⟩⟩⟩⟩⟩⟩⟩⟩⟩⟩⟩⟩⟩⟩⟩⟩⟩⟩⟩⟩⟩⟩⟩⟩⟩⟩⟩⟩⟩⟩⟩⟩⟩⟩⟩⟩⟩⟩⟩⟩⟩⟩⟩⟩⟩⟩⟩⟩⟩⟩⟩⟩⟩⟩⟩⟩⟩⟩⟩⟩⟩⟩⟩
def ma_KP (r : Nat × Nat × Int32) : Prop := Cond.constant (ma_rx r.1) r.2.1 r.2.2 ∈ lw_tbl
def ma_kt : List (Nat × Nat × Int32) := [(7, 106, (-999999 : Int32)), (7, 170, (999999 : Int32)), (7, 192, (1048576 : Int32)), (8, 133, (-999999 : Int32)), (8, 158, (999999 : Int32))]
theorem ma_kt_0 : ma_KP ((7, 106, (-999999 : Int32))) := (in_2 _ (List.mem_of_getElem? (i := 182) rfl))
theorem ma_kt_1 : ma_KP ((7, 170, (999999 : Int32))) := (in_3 _ (List.mem_of_getElem? (i := 39) rfl))
theorem ma_kt_2 : ma_KP ((7, 192, (1048576 : Int32))) := (in_3 _ (List.mem_of_getElem? (i := 79) rfl))
theorem ma_kt_3 : ma_KP ((8, 133, (-999999 : Int32))) := (in_4 _ (List.mem_of_getElem? (i := 136) rfl))
theorem ma_kt_4 : ma_KP ((8, 158, (999999 : Int32))) := (in_4 _ (List.mem_of_getElem? (i := 208) rfl))
set_option maxRecDepth 100000 in
theorem ma_kt_ok : ∀ r ∈ ma_kt, ma_KP r := List.forall_mem_cons.mpr ⟨ma_kt_0, List.forall_mem_cons.mpr ⟨ma_kt_1, List.forall_mem_cons.mpr ⟨ma_kt_2, List.forall_mem_cons.mpr ⟨ma_kt_3, List.forall_mem_cons.mpr ⟨ma_kt_4, fun _ h => absurd h List.not_mem_nil⟩⟩⟩⟩⟩
def ma_LP (r : Nat × Nat × Int64) : Prop := Cond.constantLong (ma_rx r.1) r.2.1 r.2.2 ∈ lw_tbl
def ma_lt : List (Nat × Nat × Int64) := [(7, 208, (-9223372036854775808 : Int64)), (7, 216, (21 : Int64)), (8, 193, (-9223372036854775808 : Int64)), (8, 195, (21 : Int64))]
theorem ma_lt_0 : ma_LP ((7, 208, (-9223372036854775808 : Int64))) := (in_3 _ (List.mem_of_getElem? (i := 136) rfl))
theorem ma_lt_1 : ma_LP ((7, 216, (21 : Int64))) := (in_3 _ (List.mem_of_getElem? (i := 137) rfl))
theorem ma_lt_2 : ma_LP ((8, 193, (-9223372036854775808 : Int64))) := (in_5 _ (List.mem_of_getElem? (i := 40) rfl))
theorem ma_lt_3 : ma_LP ((8, 195, (21 : Int64))) := (in_5 _ (List.mem_of_getElem? (i := 41) rfl))
set_option maxRecDepth 100000 in
theorem ma_lt_ok : ∀ r ∈ ma_lt, ma_LP r := List.forall_mem_cons.mpr ⟨ma_lt_0, List.forall_mem_cons.mpr ⟨ma_lt_1, List.forall_mem_cons.mpr ⟨ma_lt_2, List.forall_mem_cons.mpr ⟨ma_lt_3, fun _ h => absurd h List.not_mem_nil⟩⟩⟩⟩
def ma_txt (k : Nat) : String := match k with
  | 0 => "worry "
  | 1 => "heed "
  | 2 => "haste "
  | 3 => " "
  | 4 => "pkvaud"
  | 5 => "<=>"
  | _ => ")"
def ma_chs (k : Nat) : List Int32 := match k with
  | 0 => [119, 111, 114, 114, 121, 32]
  | 1 => [104, 101, 101, 100, 32]
  | 2 => [104, 97, 115, 116, 101, 32]
  | 3 => [32]
  | 4 => [112, 107, 118, 97, 117, 100]
  | 5 => [60, 61, 62]
  | _ => [41]
def ma_SP (r : Nat × Nat × Nat) : Prop := Cond.stringRef (ma_rx r.1) r.2.1 (ma_txt r.2.2) ∈ lw_tbl
def ma_st : List (Nat × Nat × Nat) := [(3, 46, 0), (3, 48, 1), (3, 50, 2), (3, 62, 3), (3, 81, 4), (3, 87, 5), (3, 93, 6), (8, 81, 4), (8, 87, 5), (8, 99, 0), (8, 108, 1), (8, 113, 2)]
theorem ma_st_0 : ma_SP ((3, 46, 0)) := (in_2 _ (List.mem_of_getElem? (i := 63) rfl))
theorem ma_st_1 : ma_SP ((3, 48, 1)) := (in_2 _ (List.mem_of_getElem? (i := 64) rfl))
theorem ma_st_2 : ma_SP ((3, 50, 2)) := (in_2 _ (List.mem_of_getElem? (i := 65) rfl))
theorem ma_st_3 : ma_SP ((3, 62, 3)) := (in_2 _ (List.mem_of_getElem? (i := 125) rfl))
theorem ma_st_4 : ma_SP ((3, 81, 4)) := (in_2 _ (List.mem_of_getElem? (i := 134) rfl))
theorem ma_st_5 : ma_SP ((3, 87, 5)) := (in_2 _ (List.mem_of_getElem? (i := 139) rfl))
theorem ma_st_6 : ma_SP ((3, 93, 6)) := (in_2 _ (List.mem_of_getElem? (i := 149) rfl))
theorem ma_st_7 : ma_SP ((8, 81, 4)) := (in_4 _ (List.mem_of_getElem? (i := 117) rfl))
theorem ma_st_8 : ma_SP ((8, 87, 5)) := (in_4 _ (List.mem_of_getElem? (i := 122) rfl))
theorem ma_st_9 : ma_SP ((8, 99, 0)) := (in_4 _ (List.mem_of_getElem? (i := 73) rfl))
theorem ma_st_10 : ma_SP ((8, 108, 1)) := (in_4 _ (List.mem_of_getElem? (i := 96) rfl))
theorem ma_st_11 : ma_SP ((8, 113, 2)) := (in_4 _ (List.mem_of_getElem? (i := 123) rfl))
set_option maxRecDepth 100000 in
theorem ma_st_ok : ∀ r ∈ ma_st, ma_SP r := List.forall_mem_cons.mpr ⟨ma_st_0, List.forall_mem_cons.mpr ⟨ma_st_1, List.forall_mem_cons.mpr ⟨ma_st_2, List.forall_mem_cons.mpr ⟨ma_st_3, List.forall_mem_cons.mpr ⟨ma_st_4, List.forall_mem_cons.mpr ⟨ma_st_5, List.forall_mem_cons.mpr ⟨ma_st_6, List.forall_mem_cons.mpr ⟨ma_st_7, List.forall_mem_cons.mpr ⟨ma_st_8, List.forall_mem_cons.mpr ⟨ma_st_9, List.forall_mem_cons.mpr ⟨ma_st_10, List.forall_mem_cons.mpr ⟨ma_st_11, fun _ h => absurd h List.not_mem_nil⟩⟩⟩⟩⟩⟩⟩⟩⟩⟩⟩⟩
def ma_NP (r : Nat × Nat × Nat) : Prop := Cond.classLink (ma_rx r.1) r.2.1 (ma_rx r.2.2) ∈ lw_tbl ∧ Cond.instantiable (ma_rx r.2.2) (ma_nx r.2.2) ∈ lw_tbl ∧ Cond.initialized (ma_rx r.2.2) ∈ lw_tbl ∧ r.2.2 < 9
def ma_nt : List (Nat × Nat × Nat) := [(7, 9, 5), (7, 21, 2), (7, 28, 3), (7, 37, 6), (7, 44, 1), (7, 53, 0), (5, 9, 6), (5, 18, 2), (5, 29, 4), (6, 9, 1), (9, 7, 7), (9, 10, 8)]
theorem ma_nt_0 : ma_NP ((7, 9, 5)) := ⟨(in_1 _ (List.mem_of_getElem? (i := 23) rfl)), (in_1 _ (List.mem_of_getElem? (i := 24) rfl)), (in_1 _ (List.mem_of_getElem? (i := 2) rfl)), by decide⟩
theorem ma_nt_1 : ma_NP ((7, 21, 2)) := ⟨(in_1 _ (List.mem_of_getElem? (i := 194) rfl)), (in_1 _ (List.mem_of_getElem? (i := 111) rfl)), (in_1 _ (List.mem_of_getElem? (i := 5) rfl)), by decide⟩
theorem ma_nt_2 : ma_NP ((7, 28, 3)) := ⟨(in_1 _ (List.mem_of_getElem? (i := 196) rfl)), (in_1 _ (List.mem_of_getElem? (i := 197) rfl)), (in_1 _ (List.mem_of_getElem? (i := 8) rfl)), by decide⟩
theorem ma_nt_3 : ma_NP ((7, 37, 6)) := ⟨(in_1 _ (List.mem_of_getElem? (i := 215) rfl)), (in_1 _ (List.mem_of_getElem? (i := 30) rfl)), (in_1 _ (List.mem_of_getElem? (i := 3) rfl)), by decide⟩
theorem ma_nt_4 : ma_NP ((7, 44, 1)) := ⟨(in_1 _ (List.mem_of_getElem? (i := 217) rfl)), (in_1 _ (List.mem_of_getElem? (i := 37) rfl)), (in_1 _ (List.mem_of_getElem? (i := 4) rfl)), by decide⟩
theorem ma_nt_5 : ma_NP ((7, 53, 0)) := ⟨(in_1 _ (List.mem_of_getElem? (i := 219) rfl)), (in_1 _ (List.mem_of_getElem? (i := 220) rfl)), (in_1 _ (List.mem_of_getElem? (i := 9) rfl)), by decide⟩
theorem ma_nt_6 : ma_NP ((5, 9, 6)) := ⟨(in_1 _ (List.mem_of_getElem? (i := 29) rfl)), (in_1 _ (List.mem_of_getElem? (i := 30) rfl)), (in_1 _ (List.mem_of_getElem? (i := 3) rfl)), by decide⟩
theorem ma_nt_7 : ma_NP ((5, 18, 2)) := ⟨(in_1 _ (List.mem_of_getElem? (i := 110) rfl)), (in_1 _ (List.mem_of_getElem? (i := 111) rfl)), (in_1 _ (List.mem_of_getElem? (i := 5) rfl)), by decide⟩
theorem ma_nt_8 : ma_NP ((5, 29, 4)) := ⟨(in_1 _ (List.mem_of_getElem? (i := 137) rfl)), (in_1 _ (List.mem_of_getElem? (i := 138) rfl)), (in_1 _ (List.mem_of_getElem? (i := 6) rfl)), by decide⟩
theorem ma_nt_9 : ma_NP ((6, 9, 1)) := ⟨(in_1 _ (List.mem_of_getElem? (i := 35) rfl)), (in_1 _ (List.mem_of_getElem? (i := 37) rfl)), (in_1 _ (List.mem_of_getElem? (i := 4) rfl)), by decide⟩
theorem ma_nt_10 : ma_NP ((9, 7, 7)) := ⟨(in_1 _ (List.mem_of_getElem? (i := 15) rfl)), (in_1 _ (List.mem_of_getElem? (i := 16) rfl)), (in_1 _ (List.mem_of_getElem? (i := 1) rfl)), by decide⟩
theorem ma_nt_11 : ma_NP ((9, 10, 8)) := ⟨(in_3 _ (List.mem_of_getElem? (i := 237) rfl)), (in_3 _ (List.mem_of_getElem? (i := 238) rfl)), (in_1 _ (List.mem_of_getElem? (i := 10) rfl)), by decide⟩
set_option maxRecDepth 100000 in
theorem ma_nt_ok : ∀ r ∈ ma_nt, ma_NP r := List.forall_mem_cons.mpr ⟨ma_nt_0, List.forall_mem_cons.mpr ⟨ma_nt_1, List.forall_mem_cons.mpr ⟨ma_nt_2, List.forall_mem_cons.mpr ⟨ma_nt_3, List.forall_mem_cons.mpr ⟨ma_nt_4, List.forall_mem_cons.mpr ⟨ma_nt_5, List.forall_mem_cons.mpr ⟨ma_nt_6, List.forall_mem_cons.mpr ⟨ma_nt_7, List.forall_mem_cons.mpr ⟨ma_nt_8, List.forall_mem_cons.mpr ⟨ma_nt_9, List.forall_mem_cons.mpr ⟨ma_nt_10, List.forall_mem_cons.mpr ⟨ma_nt_11, fun _ h => absurd h List.not_mem_nil⟩⟩⟩⟩⟩⟩⟩⟩⟩⟩⟩⟩
def ma_BN (k : Nat) : MethodName := match k with
  | 0 => Lib.Math.max.name
  | 1 => Lib.Math.min.name
  | 2 => yJ0_length_8abf5
  | 3 => yJ0_charAt_5068e
  | _ => Lib.objectInit
def ma_BP (r : Nat × Nat × Nat) : Prop := Cond.methodLink (ma_rx r.1) r.2.1 (ma_BN r.2.2) ∈ lw_tbl
def ma_bt : List (Nat × Nat × Nat) := [(7, 3, 4), (7, 171, 1), (7, 268, 0), (0, 3, 4), (1, 3, 4), (1, 59, 0), (1, 64, 1), (2, 3, 4), (2, 43, 0), (3, 3, 4), (3, 95, 2), (3, 100, 3), (4, 3, 4), (4, 9, 0), (5, 3, 4), (6, 3, 4), (8, 3, 4), (8, 53, 2), (8, 58, 3)]
theorem ma_bt_0 : ma_BP ((7, 3, 4)) := (in_1 _ (List.mem_of_getElem? (i := 20) rfl))
theorem ma_bt_1 : ma_BP ((7, 171, 1)) := (in_3 _ (List.mem_of_getElem? (i := 2) rfl))
theorem ma_bt_2 : ma_BP ((7, 268, 0)) := (in_3 _ (List.mem_of_getElem? (i := 5) rfl))
theorem ma_bt_3 : ma_BP ((0, 3, 4)) := (in_1 _ (List.mem_of_getElem? (i := 224) rfl))
theorem ma_bt_4 : ma_BP ((1, 3, 4)) := (in_1 _ (List.mem_of_getElem? (i := 41) rfl))
theorem ma_bt_5 : ma_BP ((1, 59, 0)) := (in_3 _ (List.mem_of_getElem? (i := 38) rfl))
theorem ma_bt_6 : ma_BP ((1, 64, 1)) := (in_3 _ (List.mem_of_getElem? (i := 6) rfl))
theorem ma_bt_7 : ma_BP ((2, 3, 4)) := (in_1 _ (List.mem_of_getElem? (i := 115) rfl))
theorem ma_bt_8 : ma_BP ((2, 43, 0)) := (in_2 _ (List.mem_of_getElem? (i := 195) rfl))
theorem ma_bt_9 : ma_BP ((3, 3, 4)) := (in_1 _ (List.mem_of_getElem? (i := 201) rfl))
theorem ma_bt_10 : ma_BP ((3, 95, 2)) := (in_2 _ (List.mem_of_getElem? (i := 70) rfl))
theorem ma_bt_11 : ma_BP ((3, 100, 3)) := (in_2 _ (List.mem_of_getElem? (i := 80) rfl))
theorem ma_bt_12 : ma_BP ((4, 3, 4)) := (in_1 _ (List.mem_of_getElem? (i := 142) rfl))
theorem ma_bt_13 : ma_BP ((4, 9, 0)) := (in_1 _ (List.mem_of_getElem? (i := 143) rfl))
theorem ma_bt_14 : ma_BP ((5, 3, 4)) := (in_1 _ (List.mem_of_getElem? (i := 28) rfl))
theorem ma_bt_15 : ma_BP ((6, 3, 4)) := (in_1 _ (List.mem_of_getElem? (i := 34) rfl))
theorem ma_bt_16 : ma_BP ((8, 3, 4)) := (in_4 _ (List.mem_of_getElem? (i := 2) rfl))
theorem ma_bt_17 : ma_BP ((8, 53, 2)) := (in_4 _ (List.mem_of_getElem? (i := 82) rfl))
theorem ma_bt_18 : ma_BP ((8, 58, 3)) := (in_4 _ (List.mem_of_getElem? (i := 83) rfl))
set_option maxRecDepth 100000 in
theorem ma_bt_ok : ∀ r ∈ ma_bt, ma_BP r := List.forall_mem_cons.mpr ⟨ma_bt_0, List.forall_mem_cons.mpr ⟨ma_bt_1, List.forall_mem_cons.mpr ⟨ma_bt_2, List.forall_mem_cons.mpr ⟨ma_bt_3, List.forall_mem_cons.mpr ⟨ma_bt_4, List.forall_mem_cons.mpr ⟨ma_bt_5, List.forall_mem_cons.mpr ⟨ma_bt_6, List.forall_mem_cons.mpr ⟨ma_bt_7, List.forall_mem_cons.mpr ⟨ma_bt_8, List.forall_mem_cons.mpr ⟨ma_bt_9, List.forall_mem_cons.mpr ⟨ma_bt_10, List.forall_mem_cons.mpr ⟨ma_bt_11, List.forall_mem_cons.mpr ⟨ma_bt_12, List.forall_mem_cons.mpr ⟨ma_bt_13, List.forall_mem_cons.mpr ⟨ma_bt_14, List.forall_mem_cons.mpr ⟨ma_bt_15, List.forall_mem_cons.mpr ⟨ma_bt_16, List.forall_mem_cons.mpr ⟨ma_bt_17, List.forall_mem_cons.mpr ⟨ma_bt_18, fun _ h => absurd h List.not_mem_nil⟩⟩⟩⟩⟩⟩⟩⟩⟩⟩⟩⟩⟩⟩⟩⟩⟩⟩⟩
theorem ma_ac_int : Cond.arrayClass FieldType.int ∈ lw_tbl := (in_1 _ (List.mem_of_getElem? (i := 89) rfl))
theorem ma_ac_bool : Cond.arrayClass FieldType.boolean ∈ lw_tbl := (in_1 _ (List.mem_of_getElem? (i := 160) rfl))
theorem ma_ao : Cond.arrayOver (.object RX1) ∈ lw_tbl := (in_1 _ (List.mem_of_getElem? (i := 36) rfl))
theorem ma_b_max : Cond.static Lib.Math.max.name ∈ lw_tbl ∧ Cond.initialized "java/lang/Math" ∈ lw_tbl ∧ Cond.code Lib.Math.max.name Lib.Math.max.code 2 (some .int) ∈ lw_tbl := ⟨(in_1 _ (List.mem_of_getElem? (i := 144) rfl)), (in_1 _ (List.mem_of_getElem? (i := 7) rfl)), (in_1 _ (List.mem_of_getElem? (i := 145) rfl))⟩
theorem ma_b_min : Cond.static Lib.Math.min.name ∈ lw_tbl ∧ Cond.initialized "java/lang/Math" ∈ lw_tbl ∧ Cond.code Lib.Math.min.name Lib.Math.min.code 2 (some .int) ∈ lw_tbl := ⟨(in_3 _ (List.mem_of_getElem? (i := 3) rfl)), (in_1 _ (List.mem_of_getElem? (i := 7) rfl)), (in_3 _ (List.mem_of_getElem? (i := 4) rfl))⟩
theorem ma_f_above : Cond.fieldLink RX7 265 "DidITurnItOff" "ABOVE" "[I" ∈ lw_tbl := (in_3 _ (List.mem_of_getElem? (i := 185) rfl))
theorem ma_b_obj : Cond.instanceMethod Lib.objectInit ∈ lw_tbl ∧ Cond.code Lib.objectInit ⟨#[0xb1]⟩ 1 none ∈ lw_tbl := ⟨(in_1 _ (List.mem_of_getElem? (i := 21) rfl)), (in_1 _ (List.mem_of_getElem? (i := 22) rfl))⟩

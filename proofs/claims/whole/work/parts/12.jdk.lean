/-! The JDK's own members over the literals: String.length, String.charAt (the literals' addresses ad (1000000 + k), their rows adV k). -/
def mj_ws (y : MethodName) (b : ByteArray) (n : Nat) (r : Option FieldType) : List Cond := .code y b n r :: ma_B
theorem mj_gi {c0 : Cond} {ws : List Cond} (h : ∀ w ∈ ws, w ∈ ma_B) : GoodIn (c0 :: ma_B) ws := fun w hw => ⟨List.mem_cons_of_mem _ (h w hw), good_of_word (List.mem_filter.mp (h w hw)).2⟩
theorem mj_sub {y : MethodName} {b : ByteArray} {n : Nat} {r : Option FieldType} (h : Cond.code y b n r ∈ lw_tbl) : ∀ w ∈ mj_ws y b n r, w ∈ ma_B := fun w hw => by
  rcases List.mem_cons.mp hw with rfl | hw
  · exact ma_inB h rfl
  · exact hw
theorem mj_subV {own C : String} {idx : Nat} {y : MethodName} {b : ByteArray} {n : Nat} {r : Option FieldType} (h1 : Cond.methodLink own idx y ∈ lw_tbl) (h2 : Cond.instanceMethod y ∈ lw_tbl) (h3 : Cond.selects C y y ∈ lw_tbl) (h4 : Cond.initialized C ∈ lw_tbl) (h5 : Cond.code y b n r ∈ lw_tbl) : ∀ w ∈ wsV own idx C y (mj_ws y b n r), w ∈ ma_B := fun w hw => by
  unfold wsV at hw
  rcases List.mem_append.mp hw with hw | hw
  · simp only [List.mem_cons, List.not_mem_nil, or_false] at hw
    rcases hw with rfl | rfl | rfl | rfl
    · exact ma_inB h1 rfl
    · exact ma_inB h2 rfl
    · exact ma_inB h3 rfl
    · exact ma_inB h4 rfl
  · exact mj_sub h5 w hw
theorem mj_subS {own : String} {idx : Nat} {y : MethodName} {b : ByteArray} {n : Nat} {r : Option FieldType} (h1 : Cond.methodLink own idx y ∈ lw_tbl) (h2 : Cond.static y ∈ lw_tbl) (h4 : Cond.initialized y.cls ∈ lw_tbl) (h5 : Cond.code y b n r ∈ lw_tbl) : ∀ w ∈ va_wsS own idx y (mj_ws y b n r), w ∈ ma_B := fun w hw => by
  unfold va_wsS at hw
  rcases List.mem_append.mp hw with hw | hw
  · simp only [List.mem_cons, List.not_mem_nil, or_false] at hw
    rcases hw with rfl | rfl | rfl
    · exact ma_inB h1 rfl
    · exact ma_inB h2 rfl
    · exact ma_inB h4 rfl
  · exact mj_sub h5 w hw
theorem mj_c_length : Cond.code yJ0_length_8abf5 cJ0_length_8abf5 1 (some .int) ∈ lw_tbl := in_2 _ (List.mem_of_getElem? (i := 73) rfl)
theorem mj_c_coder : Cond.code yJ0_coder_7d493 cJ0_coder_7d493 1 (some .byte) ∈ lw_tbl := in_2 _ (List.mem_of_getElem? (i := 77) rfl)
theorem mj_c_charAt : Cond.code yJ0_charAt_5068e cJ0_charAt_5068e 2 (some .char) ∈ lw_tbl := in_2 _ (List.mem_of_getElem? (i := 83) rfl)
theorem mj_c_isLatin : Cond.code yJ0_isLatin1_aae02 cJ0_isLatin1_aae02 1 (some .boolean) ∈ lw_tbl := in_2 _ (List.mem_of_getElem? (i := 87) rfl)
theorem mj_c_l1 : Cond.code yJ1_charAt_3b067 cJ1_charAt_3b067 2 (some .char) ∈ lw_tbl := in_2 _ (List.mem_of_getElem? (i := 90) rfl)
theorem mj_c_check : Cond.code yJ0_checkIndex_df160 cJ0_checkIndex_df160 2 none ∈ lw_tbl := in_2 _ (List.mem_of_getElem? (i := 93) rfl)
theorem mj_c_pre : Cond.code yJ3_checkIndex_8e157 cJ3_checkIndex_8e157 3 (some .int) ∈ lw_tbl := in_2 _ (List.mem_of_getElem? (i := 98) rfl)
theorem mj_f_value : Cond.fieldLink RJ0 9 "java/lang/String" "value" "[B" ∈ lw_tbl := in_5 _ (List.mem_of_getElem? (i := 124) rfl)
theorem mj_f_coder : Cond.fieldLink RJ0 15 "java/lang/String" "coder" "B" ∈ lw_tbl := in_5 _ (List.mem_of_getElem? (i := 125) rfl)
theorem mj_f_compact : Cond.fieldLink RJ0 38 "java/lang/String" "COMPACT_STRINGS" "Z" ∈ lw_tbl := in_2 _ (List.mem_of_getElem? (i := 78) rfl)
theorem mj_f_si : Cond.fieldLink RJ0 1053 "jdk/internal/util/Preconditions" "SIOOBE_FORMATTER" "Ljava/util/function/BiFunction;" ∈ lw_tbl := in_2 _ (List.mem_of_getElem? (i := 94) rfl)
theorem mj_i_string : Cond.initialized RJ0 ∈ lw_tbl := in_1 _ (List.mem_of_getElem? (i := 11) rfl)
theorem mj_i_latin : Cond.initialized RJ1 ∈ lw_tbl := in_1 _ (List.mem_of_getElem? (i := 12) rfl)
theorem mj_i_pre : Cond.initialized RJ3 ∈ lw_tbl := in_1 _ (List.mem_of_getElem? (i := 13) rfl)
theorem mj_chs_ok : ∀ k, k < 7 → (ma_chs k).length < 100 ∧ ∀ j, j < (ma_chs k).length → ((ma_chs k).getD j 0 &&& 255) = (ma_chs k).getD j 0 := by decide +kernel
section JDK
variable (l : Launch) {ro : ma_RO} {ad adV : Nat → Nat} {h0 k : Nat}
set_option maxHeartbeats 4000000 in
set_option maxRecDepth 100000 in
theorem mj_coder (hk : k < 7) : Met l yJ0_coder_7d493 (mj_ws yJ0_coder_7d493 cJ0_coder_7d493 1 (some .byte)) (k2_rm 0 0) (va_Pc [.ref (ad (1000000 + k))] (fun U => ma_X ro ad adV h0 U U.heap)) (k2_QcV (.int 0)) 0 0 (fun _ => False) := by
  refine Met.ofW (cc := cJ0_coder_7d493) (maxL := 1) (ret := some .byte) (by decide) rfl ?_
  intro p e s m args below meth c s₁ B hml hv
  obtain ⟨rfl, hX⟩ := hv
  have hx := B.exec
  have hb := B.bytes
  have hr := B.returns
  have hts := atoms_spec (ws := mj_ws yJ0_coder_7d493 cJ0_coder_7d493 1 (some .byte)) B.pre
  have hown : s.vm.findClass RJ0 = some m.cls := findClass_of_methodNamed B.named
  have hlocks := B.notSynchronized
  have hS : va_S (fun q => h0 ≤ q) s.heap s.heap [] := va_S.rf
  have hl := lv_entry ([.ref (ad (1000000 + k))]) (n := 1) (Nat.le_of_ble_eq_true rfl)
  rw [lg_entry_eq]
  generalize (lg_sl ([.ref (ad (1000000 + k))]) ++ List.replicate (1 - (lg_sl ([.ref (ad (1000000 + k))])).length) Slot.unset).toArray = ls at hl ⊢
  have hl : lv_has ls 1 [(0, .ref (ad (1000000 + k)))] := hl
  obtain ⟨-, hX2, -, hZ, -⟩ := id hX
  obtain ⟨-, hco, -, -⟩ := hX2 k hk
  refine va_gets hx hb hZ hS hown (hts _ (List.mem_cons_of_mem _ (ma_inB mj_f_compact rfl))) (fun _ h => h) dJ0_coder_7d493_0 ?_
  refine lv_if_eq (tgt := 13) hx hb dJ0_coder_7d493_3 (by decide) (fun h => absurd h (by decide)) (fun _ => ?_)
  refine lv_aload_n hx hb dJ0_coder_7d493_6 rfl (lv_at hl 0 rfl) ?_
  refine vk_getf hx hb hco hS hown (hts _ (List.mem_cons_of_mem _ (ma_inB mj_f_coder rfl))) (fun _ h => h) dJ0_coder_7d493_7 ?_
  refine lv_goto (tgt := 14) hx hb dJ0_coder_7d493_10 (by decide) ?_
  exact W.zret (ty := .byte) hx hb hr rfl (fun t ht _ => ⟨rfl, ht⟩) (fun q h => by cases h) dJ0_coder_7d493_14
set_option maxHeartbeats 4000000 in
set_option maxRecDepth 100000 in
theorem mj_isLatin (hk : k < 7) : Met l yJ0_isLatin1_aae02 (mj_ws yJ0_isLatin1_aae02 cJ0_isLatin1_aae02 1 (some .boolean)) (k2_rm 0 0) (va_Pc [.ref (ad (1000000 + k))] (fun U => ma_X ro ad adV h0 U U.heap)) (k2_QcV (.int 1)) 0 0 (fun _ => False) := by
  refine Met.ofW (cc := cJ0_isLatin1_aae02) (maxL := 1) (ret := some .boolean) (by decide) rfl ?_
  intro p e s m args below meth c s₁ B hml hv
  obtain ⟨rfl, hX⟩ := hv
  have hx := B.exec
  have hb := B.bytes
  have hr := B.returns
  have hts := atoms_spec (ws := mj_ws yJ0_isLatin1_aae02 cJ0_isLatin1_aae02 1 (some .boolean)) B.pre
  have hown : s.vm.findClass RJ0 = some m.cls := findClass_of_methodNamed B.named
  have hlocks := B.notSynchronized
  have hS : va_S (fun q => h0 ≤ q) s.heap s.heap [] := va_S.rf
  have hl := lv_entry ([.ref (ad (1000000 + k))]) (n := 1) (Nat.le_of_ble_eq_true rfl)
  rw [lg_entry_eq]
  generalize (lg_sl ([.ref (ad (1000000 + k))]) ++ List.replicate (1 - (lg_sl ([.ref (ad (1000000 + k))])).length) Slot.unset).toArray = ls at hl ⊢
  have hl : lv_has ls 1 [(0, .ref (ad (1000000 + k)))] := hl
  obtain ⟨-, hX2, -, hZ, -⟩ := id hX
  obtain ⟨-, hco, -, -⟩ := hX2 k hk
  refine va_gets hx hb hZ hS hown (hts _ (List.mem_cons_of_mem _ (ma_inB mj_f_compact rfl))) (fun _ h => h) dJ0_isLatin1_aae02_0 ?_
  refine lv_if_eq (tgt := 17) hx hb dJ0_isLatin1_aae02_3 (by decide) (fun h => absurd h (by decide)) (fun _ => ?_)
  refine lv_aload_n hx hb dJ0_isLatin1_aae02_6 rfl (lv_at hl 0 rfl) ?_
  refine vk_getf hx hb hco hS hown (hts _ (List.mem_cons_of_mem _ (ma_inB mj_f_coder rfl))) (fun _ h => h) dJ0_isLatin1_aae02_7 ?_
  refine lv_if_ne (tgt := 17) hx hb dJ0_isLatin1_aae02_10 (by decide) (fun h => absurd rfl h) (fun _ => ?_)
  refine lv_iconst (v := 1) hx hb dJ0_isLatin1_aae02_13 (by decide) ?_
  refine lv_goto (tgt := 18) hx hb dJ0_isLatin1_aae02_14 (by decide) ?_
  exact W.zret (ty := .boolean) hx hb hr rfl (fun t ht _ => ⟨rfl, ht⟩) (fun q h => by cases h) dJ0_isLatin1_aae02_18
set_option maxHeartbeats 4000000 in
set_option maxRecDepth 100000 in
theorem mj_length (hk : k < 7) : Met l yJ0_length_8abf5 (mj_ws yJ0_length_8abf5 cJ0_length_8abf5 1 (some .int)) (k2_rm 1 20) (va_Pc [.ref (ad (1000000 + k))] (fun U => ma_X ro ad adV h0 U U.heap)) (k2_QcV (.int (Int32.ofNat (ma_chs k).length))) 0 0 (fun _ => False) := by
  refine Met.ofW (cc := cJ0_length_8abf5) (maxL := 1) (ret := some .int) (by decide) rfl ?_
  intro p e s m args below meth c s₁ B hml hv
  obtain ⟨rfl, hX⟩ := hv
  have hx := B.exec
  have hb := B.bytes
  have hr := B.returns
  have hts := atoms_spec (ws := mj_ws yJ0_length_8abf5 cJ0_length_8abf5 1 (some .int)) B.pre
  have hown : s.vm.findClass RJ0 = some m.cls := findClass_of_methodNamed B.named
  have hlocks := B.notSynchronized
  have hS : va_S (fun q => h0 ≤ q) s.heap s.heap [] := va_S.rf
  have hl := lv_entry ([.ref (ad (1000000 + k))]) (n := 1) (Nat.le_of_ble_eq_true rfl)
  rw [lg_entry_eq]
  generalize (lg_sl ([.ref (ad (1000000 + k))]) ++ List.replicate (1 - (lg_sl ([.ref (ad (1000000 + k))])).length) Slot.unset).toArray = ls at hl ⊢
  have hl : lv_has ls 1 [(0, .ref (ad (1000000 + k)))] := hl
  obtain ⟨-, hX2, -, hZ, -⟩ := id hX
  obtain ⟨hO, hco, hva, hT⟩ := hX2 k hk
  obtain ⟨cellO, ho1, ho2, ho3, -⟩ := hO
  refine lv_aload_n hx hb dJ0_length_8abf5_0 rfl (lv_at hl 0 rfl) ?_
  refine vk_getf hx hb hva hS hown (hts _ (List.mem_cons_of_mem _ (ma_inB mj_f_value rfl))) (fun _ h => h) dJ0_length_8abf5_1 ?_
  refine va_tlen hx hb hT hS rfl dJ0_length_8abf5_4 ?_
  refine lv_aload_n hx hb dJ0_length_8abf5_5 rfl (lv_at hl 0 rfl) ?_
  refine W.callV (W.runV (As := []) (rest := [.int (Int32.ofNat (ma_chs k).length)]) ⟨hx, hb, hml, hown, hts⟩ (mj_coder l (ro := ro) (adV := adV) (h0 := h0) hk) (cwV 0 hts (mj_gi (mj_subV (in_2 _ (List.mem_of_getElem? (i := 74) rfl)) (in_2 _ (List.mem_of_getElem? (i := 75) rfl)) (in_2 _ (List.mem_of_getElem? (i := 76) rfl)) mj_i_string mj_c_coder)) rfl rfl rfl (by decide +kernel) ⟨Nat.le_of_ble_eq_true rfl, Nat.le_of_ble_eq_true rfl⟩) ⟨fun a U g mk q => ⟨q.1, q.2.same rfl⟩, ⟨cellO, ho1, ho2, ho3⟩, fun U hU hW => ⟨rfl, by show ma_X ro ad adV h0 U U.heap; rw [hU]; exact hX.warm hW⟩⟩ rfl rfl hl.1 rfl (lv_room (Nat.le_of_ble_eq_true rfl)) dJ0_length_8abf5_6 ⟨Nat.zero_le _, Nat.zero_le _⟩) ?_
  refine lv_ishr hx hb dJ0_length_8abf5_9 ?_
  have e0 : ∀ x : Int32, x >>> ((0 : Int32) &&& 31) = x := by
    intro x
    have : ((0 : Int32) &&& 31) = 0 := by decide
    rw [this]
    apply Int32.toBitVec_inj.mp
    simp
  rw [e0]
  exact W.iret hx hb hr (fun t ht _ => ⟨rfl, ht⟩) (fun q h => by cases h) dJ0_length_8abf5_10
set_option maxHeartbeats 4000000 in
set_option maxRecDepth 100000 in
theorem mj_pre {i n : Int32} {r : Option Nat} (h1 : ¬ i < 0) (h2 : i < n) : Met l yJ3_checkIndex_8e157 (mj_ws yJ3_checkIndex_8e157 cJ3_checkIndex_8e157 3 (some .int)) (k2_rm 0 0) (va_Pc [.int i, .int n, va_rf r] (fun U => ma_X ro ad adV h0 U U.heap)) (k2_QcV (.int i)) 0 0 (fun _ => False) := by
  refine Met.ofW (cc := cJ3_checkIndex_8e157) (maxL := 3) (ret := some .int) (by decide) rfl ?_
  intro p e s m args below meth c s₁ B hml hv
  obtain ⟨rfl, hX⟩ := hv
  have hx := B.exec
  have hb := B.bytes
  have hr := B.returns
  have hlocks := B.notSynchronized
  obtain ⟨ls, hen, hl⟩ : ∃ ls : Array Slot, entryFrame m ([.int i, .int n, va_rf r] : List Value).toArray 3 = F0 m 0 ls [] ∧ lv_has ls 3 [(0, .int i), (1, .int n)] := by
    have hlen : (lg_sl [.int i, .int n, va_rf r]).length ≤ 3 := by cases r <;> exact Nat.le_of_ble_eq_true rfl
    refine ⟨_, lg_entry_eq .., lv_sub (lv_entry ([.int i, .int n, va_rf r]) (n := 3) hlen) [0, 1] ?_⟩
    cases r <;> rfl
  rw [hen]
  refine lv_iload_n hx hb dJ3_checkIndex_8e157_0 rfl (lv_at hl 0 rfl) ?_
  refine lv_if_lt (tgt := 9) hx hb dJ3_checkIndex_8e157_1 (by decide) (fun h => absurd h h1) (fun _ => ?_)
  refine lv_iload_n hx hb dJ3_checkIndex_8e157_4 rfl (lv_at hl 0 rfl) ?_
  refine lv_iload_n hx hb dJ3_checkIndex_8e157_5 rfl (lv_at hl 1 rfl) ?_
  refine lv_icmp_lt (tgt := 16) hx hb dJ3_checkIndex_8e157_6 (by decide) (fun _ => ?_) (fun h => absurd h2 h)
  refine lv_iload_n hx hb dJ3_checkIndex_8e157_16 rfl (lv_at hl 0 rfl) ?_
  exact W.iret hx hb hr (fun t ht _ => ⟨rfl, ht⟩) (fun q h => by cases h) dJ3_checkIndex_8e157_17
def mj_QV : Array Value → State → Outcome → State → Prop := fun _ st o t => o = .returned none ∧ t.heap = st.heap
set_option maxHeartbeats 4000000 in
set_option maxRecDepth 100000 in
theorem mj_check {i n : Int32} (h1 : ¬ i < 0) (h2 : i < n) : Met l yJ0_checkIndex_df160 (mj_ws yJ0_checkIndex_df160 cJ0_checkIndex_df160 2 none) (k2_rm 1 22) (va_Pc [.int i, .int n] (fun U => ma_X ro ad adV h0 U U.heap)) mj_QV 0 0 (fun _ => False) := by
  refine Met.ofW (cc := cJ0_checkIndex_df160) (maxL := 2) (ret := none) (by decide) rfl ?_
  intro p e s m args below meth c s₁ B hml hv
  obtain ⟨rfl, hX⟩ := hv
  have hx := B.exec
  have hb := B.bytes
  have hr := B.returns
  have hts := atoms_spec (ws := mj_ws yJ0_checkIndex_df160 cJ0_checkIndex_df160 2 none) B.pre
  have hown : s.vm.findClass RJ0 = some m.cls := findClass_of_methodNamed B.named
  have hlocks := B.notSynchronized
  have hS : va_S (fun q => h0 ≤ q) s.heap s.heap [] := va_S.rf
  have hl := lv_entry ([.int i, .int n]) (n := 2) (Nat.le_of_ble_eq_true rfl)
  rw [lg_entry_eq]
  generalize (lg_sl ([.int i, .int n]) ++ List.replicate (2 - (lg_sl ([.int i, .int n])).length) Slot.unset).toArray = ls at hl ⊢
  have hl : lv_has ls 2 [(0, .int i), (1, .int n)] := hl
  obtain ⟨-, -, -, -, hZq, -⟩ := id hX
  obtain ⟨r, hZ⟩ : ∃ r : Option Nat, va_Z "jdk/internal/util/Preconditions" "SIOOBE_FORMATTER" "Ljava/util/function/BiFunction;" (va_rf r) (fun q => h0 ≤ q) s s.heap := by
    rcases hZq with h | ⟨t, h⟩
    · exact ⟨none, h⟩
    · exact ⟨some t, h⟩
  refine lv_iload_n hx hb dJ0_checkIndex_df160_0 rfl (lv_at hl 0 rfl) ?_
  refine lv_iload_n hx hb dJ0_checkIndex_df160_1 rfl (lv_at hl 1 rfl) ?_
  refine va_gets hx hb hZ hS hown (hts _ (List.mem_cons_of_mem _ (ma_inB mj_f_si rfl))) (fun _ h => h) dJ0_checkIndex_df160_2 ?_
  refine W.callV (W.runS (As := [.int i, .int n, va_rf r]) (rest := []) ⟨hx, hb, hml, hown, hts⟩ (mj_pre l (ro := ro) (ad := ad) (adV := adV) (h0 := h0) (r := r) h1 h2) (va_cwS 3 hts (mj_gi (mj_subS (in_2 _ (List.mem_of_getElem? (i := 96) rfl)) (in_2 _ (List.mem_of_getElem? (i := 97) rfl)) mj_i_pre mj_c_pre)) rfl rfl rfl (by decide +kernel) ⟨Nat.le_of_ble_eq_true rfl, Nat.le_of_ble_eq_true rfl⟩) ⟨fun a U g mk q => ⟨q.1, q.2.same rfl⟩, fun U hU hW => ⟨rfl, by show ma_X ro ad adV h0 U U.heap; rw [hU]; exact hX.warm hW⟩⟩ rfl rfl hl.1 rfl (lv_room (Nat.le_of_ble_eq_true rfl)) dJ0_checkIndex_df160_5 ⟨Nat.zero_le _, Nat.zero_le _⟩) ?_
  refine lv_pop hx hb dJ0_checkIndex_df160_8 rfl ?_
  exact W.vret hx hb hr (fun t ht _ => ⟨rfl, ht⟩) (fun q h => by cases h) dJ0_checkIndex_df160_9
set_option maxHeartbeats 4000000 in
set_option maxRecDepth 100000 in
theorem mj_l1 (hk : k < 7) {i : Int32} (hi : vp_in i (ma_chs k).length) : Met l yJ1_charAt_3b067 (mj_ws yJ1_charAt_3b067 cJ1_charAt_3b067 2 (some .char)) (k2_rm 2 43) (va_Pc [.ref (adV k), .int i] (fun U => ma_X ro ad adV h0 U U.heap)) (k2_QcV (.int ((ma_chs k).getD i.toNatClampNeg 0))) 0 0 (fun _ => False) := by
  refine Met.ofW (cc := cJ1_charAt_3b067) (maxL := 2) (ret := some .char) (by decide) rfl ?_
  intro p e s m args below meth c s₁ B hml hv
  obtain ⟨rfl, hX⟩ := hv
  have hx := B.exec
  have hb := B.bytes
  have hr := B.returns
  have hts := atoms_spec (ws := mj_ws yJ1_charAt_3b067 cJ1_charAt_3b067 2 (some .char)) B.pre
  have hown : s.vm.findClass RJ1 = some m.cls := findClass_of_methodNamed B.named
  have hlocks := B.notSynchronized
  have hS : va_S (fun q => h0 ≤ q) s.heap s.heap [] := va_S.rf
  have hl := lv_entry ([.ref (adV k), .int i]) (n := 2) (Nat.le_of_ble_eq_true rfl)
  rw [lg_entry_eq]
  generalize (lg_sl ([.ref (adV k), .int i]) ++ List.replicate (2 - (lg_sl ([.ref (adV k), .int i])).length) Slot.unset).toArray = ls at hl ⊢
  have hl : lv_has ls 2 [(0, .ref (adV k)), (1, .int i)] := hl
  obtain ⟨-, hX2, -⟩ := id hX
  obtain ⟨-, -, -, hT⟩ := hX2 k hk
  obtain ⟨hlen, hch⟩ := mj_chs_ok k hk
  obtain ⟨j, hj, hij⟩ := vp_in_of hi (by omega)
  have hc2 := sc_c2 ((ma_chs k).getD i.toNatClampNeg 0)
  have hnar := sc_nar ((ma_chs k).getD i.toNatClampNeg 0)
  have hcl : i.toNatClampNeg = j := by rw [hij]; exact nI_clamp (by omega)
  rw [hch _ (by rw [hcl]; exact hj)] at hc2 hnar
  have e255 : (ma_chs k).getD i.toNatClampNeg 0 &&& 255 = (ma_chs k).getD i.toNatClampNeg 0 := hch _ (by rw [hcl]; exact hj)
  refine lv_iload_n hx hb dJ1_charAt_3b067_0 rfl (lv_at hl 1 rfl) ?_
  refine lv_aload_n hx hb dJ1_charAt_3b067_1 rfl (lv_at hl 0 rfl) ?_
  refine va_tlen hx hb hT hS rfl dJ1_charAt_3b067_2 ?_
  refine W.callX (W.runS (As := [.int i, .int (Int32.ofNat (ma_chs k).length)]) (rest := []) ⟨hx, hb, hml, hown, hts⟩ (mj_check l (ro := ro) (ad := ad) (adV := adV) (h0 := h0) (i := i) (n := Int32.ofNat (ma_chs k).length) (by rw [hij]; exact nI_pos (by omega)) (by rw [hij]; exact nI_lt hj (by omega))) (va_cwS 2 hts (mj_gi (mj_subS (in_2 _ (List.mem_of_getElem? (i := 91) rfl)) (in_2 _ (List.mem_of_getElem? (i := 92) rfl)) mj_i_string mj_c_check)) rfl rfl rfl (by decide +kernel) ⟨Nat.le_of_ble_eq_true rfl, Nat.le_of_ble_eq_true rfl⟩) ⟨fun a U g mk q => ⟨q.1, q.2.same rfl⟩, fun U hU hW => ⟨rfl, by show ma_X ro ad adV h0 U U.heap; rw [hU]; exact hX.warm hW⟩⟩ rfl rfl hl.1 rfl (lv_room (Nat.le_of_ble_eq_true rfl)) dJ1_charAt_3b067_3 ⟨Nat.zero_le _, Nat.zero_le _⟩) (fun x h => h.elim) (fun v st₀ t hst hq => ?_)
  obtain ⟨hv, hh⟩ := hq
  cases hv
  rw [hh, hst]
  show W p l e _ s m _ below meth c s.heap [] (0 + 0) (0 + 0) _ (F0 m 6 ls [])
  refine lv_aload_n hx hb dJ1_charAt_3b067_6 rfl (lv_at hl 0 rfl) ?_
  refine lv_iload_n hx hb dJ1_charAt_3b067_7 rfl (lv_at hl 1 rfl) ?_
  refine va_tb hx hb hT hS hi rfl dJ1_charAt_3b067_8 ?_
  refine lv_sipush (v := 255) hx hb dJ1_charAt_3b067_9 (by decide) ?_
  refine lv_iand hx hb dJ1_charAt_3b067_12 ?_
  rw [e255]
  refine lv_i2c (v := (ma_chs k).getD i.toNatClampNeg 0) hx hb dJ1_charAt_3b067_13 hc2 ?_
  exact W.zret (ty := .char) hx hb hr hnar (fun t ht _ => ⟨rfl, ht⟩) (fun q h => by cases h) dJ1_charAt_3b067_14
set_option maxHeartbeats 4000000 in
set_option maxRecDepth 100000 in
theorem mj_charAt (hk : k < 7) {i : Int32} (hi : vp_in i (ma_chs k).length) : Met l yJ0_charAt_5068e (mj_ws yJ0_charAt_5068e cJ0_charAt_5068e 2 (some .char)) (k2_rm 3 64) (va_Pc [.ref (ad (1000000 + k)), .int i] (fun U => ma_X ro ad adV h0 U U.heap)) (k2_QcV (.int ((ma_chs k).getD i.toNatClampNeg 0))) 0 0 (fun _ => False) := by
  refine Met.ofW (cc := cJ0_charAt_5068e) (maxL := 2) (ret := some .char) (by decide) rfl ?_
  intro p e s m args below meth c s₁ B hml hv
  obtain ⟨rfl, hX⟩ := hv
  have hx := B.exec
  have hb := B.bytes
  have hr := B.returns
  have hts := atoms_spec (ws := mj_ws yJ0_charAt_5068e cJ0_charAt_5068e 2 (some .char)) B.pre
  have hown : s.vm.findClass RJ0 = some m.cls := findClass_of_methodNamed B.named
  have hlocks := B.notSynchronized
  have hS : va_S (fun q => h0 ≤ q) s.heap s.heap [] := va_S.rf
  have hl := lv_entry ([.ref (ad (1000000 + k)), .int i]) (n := 2) (Nat.le_of_ble_eq_true rfl)
  rw [lg_entry_eq]
  generalize (lg_sl ([.ref (ad (1000000 + k)), .int i]) ++ List.replicate (2 - (lg_sl ([.ref (ad (1000000 + k)), .int i])).length) Slot.unset).toArray = ls at hl ⊢
  have hl : lv_has ls 2 [(0, .ref (ad (1000000 + k))), (1, .int i)] := hl
  obtain ⟨-, hX2, -⟩ := id hX
  obtain ⟨hO, hco, hva, hT⟩ := hX2 k hk
  obtain ⟨cellO, ho1, ho2, ho3, -⟩ := hO
  obtain ⟨hlen, hch⟩ := mj_chs_ok k hk
  obtain ⟨j, hj, hij⟩ := vp_in_of hi (by omega)
  have hnar := sc_nar ((ma_chs k).getD i.toNatClampNeg 0)
  have hcl : i.toNatClampNeg = j := by rw [hij]; exact nI_clamp (by omega)
  rw [hch _ (by rw [hcl]; exact hj)] at hnar
  refine lv_aload_n hx hb dJ0_charAt_5068e_0 rfl (lv_at hl 0 rfl) ?_
  refine W.callV (W.runV (As := []) (rest := []) ⟨hx, hb, hml, hown, hts⟩ (mj_isLatin l (ro := ro) (adV := adV) (h0 := h0) hk) (cwV 0 hts (mj_gi (mj_subV (in_2 _ (List.mem_of_getElem? (i := 84) rfl)) (in_2 _ (List.mem_of_getElem? (i := 85) rfl)) (in_2 _ (List.mem_of_getElem? (i := 86) rfl)) mj_i_string mj_c_isLatin)) rfl rfl rfl (by decide +kernel) ⟨Nat.le_of_ble_eq_true rfl, Nat.le_of_ble_eq_true rfl⟩) ⟨fun a U g mk q => ⟨q.1, q.2.same rfl⟩, ⟨cellO, ho1, ho2, ho3⟩, fun U hU hW => ⟨rfl, by show ma_X ro ad adV h0 U U.heap; rw [hU]; exact hX.warm hW⟩⟩ rfl rfl hl.1 rfl (lv_room (Nat.le_of_ble_eq_true rfl)) dJ0_charAt_5068e_1 ⟨Nat.zero_le _, Nat.zero_le _⟩) ?_
  refine W.eq (g2 := F0 m 4 ls [.int 1]) rfl ?_
  refine lv_if_eq (tgt := 16) hx hb dJ0_charAt_5068e_4 (by decide) (fun h => absurd h (by decide)) (fun _ => ?_)
  refine lv_aload_n hx hb dJ0_charAt_5068e_7 rfl (lv_at hl 0 rfl) ?_
  refine vk_getf hx hb hva hS hown (hts _ (List.mem_cons_of_mem _ (ma_inB mj_f_value rfl))) (fun _ h => h) dJ0_charAt_5068e_8 ?_
  refine lv_iload_n hx hb dJ0_charAt_5068e_11 rfl (lv_at hl 1 rfl) ?_
  refine W.callV (W.runS (As := [.ref (adV k), .int i]) (rest := []) ⟨hx, hb, hml, hown, hts⟩ (mj_l1 l (ro := ro) (ad := ad) (adV := adV) (h0 := h0) hk hi) (va_cwS 2 hts (mj_gi (mj_subS (in_2 _ (List.mem_of_getElem? (i := 88) rfl)) (in_2 _ (List.mem_of_getElem? (i := 89) rfl)) mj_i_latin mj_c_l1)) rfl rfl rfl (by decide +kernel) ⟨Nat.le_of_ble_eq_true rfl, Nat.le_of_ble_eq_true rfl⟩) ⟨fun a U g mk q => ⟨q.1, q.2.same rfl⟩, fun U hU hW => ⟨rfl, by show ma_X ro ad adV h0 U U.heap; rw [hU]; exact hX.warm hW⟩⟩ rfl rfl hl.1 rfl (lv_room (Nat.le_of_ble_eq_true rfl)) dJ0_charAt_5068e_12 ⟨Nat.zero_le _, Nat.zero_le _⟩) ?_
  exact W.zret (ty := .char) hx hb hr hnar (fun t ht _ => ⟨rfl, ht⟩) (fun q h => by cases h) dJ0_charAt_5068e_15
end JDK

/-! The law: call by call. -/
theorem R178 {ro : ma_RO} {L : Nat} {xs : Nat → Int32} (hr : ro 2000000 = some (L, xs)) (hL : L < 2 ^ 31) {d : Nat} : (∀ (v0 v1 v2 v3 : Option Value) (k : Nat) (hk : k < L) (st : List Value) (σ : ma_H), ma_rn ro d 178 (28, [v0, v1, v2, v3], .int (nI k) :: .ref 2000000 :: st, SH, σ) = ma_rn ro d 178 (29, [v0, v1, v2, v3], .int (xs k) :: st, SH, σ)) ∧
  (∀ (v0 v1 v2 v3 : Option Value) (k : Nat) (hk : k < L) (st : List Value) (σ : ma_H), ma_rn ro d 178 (173, [v0, v1, v2, v3], .int (nI k) :: .ref 2000000 :: st, SH, σ) = ma_rn ro d 178 (174, [v0, v1, v2, v3], .int (xs k) :: st, SH, σ)) ∧
  (∀ (v0 v1 v2 v3 : Option Value) (k : Nat) (hk : k < L) (st : List Value) (σ : ma_H), ma_rn ro d 178 (182, [v0, v1, v2, v3], .int (nI k) :: .ref 2000000 :: st, SH, σ) = ma_rn ro d 178 (183, [v0, v1, v2, v3], .int (xs k) :: st, SH, σ)) ∧
  (∀ (v0 v1 v2 v3 : Option Value) (k : Nat) (hk : k < L) (st : List Value) (σ : ma_H), ma_rn ro d 178 (209, [v0, v1, v2, v3], .int (nI k) :: .ref 2000000 :: st, SH, σ) = ma_rn ro d 178 (210, [v0, v1, v2, v3], .int (xs k) :: st, SH, σ)) ∧
  (∀ (v0 v1 v2 v3 : Option Value) (k : Nat) (hk : k < L) (st : List Value) (σ : ma_H), ma_rn ro d 178 (214, [v0, v1, v2, v3], .int (nI k) :: .ref 2000000 :: st, SH, σ) = ma_rn ro d 178 (215, [v0, v1, v2, v3], .int (xs k) :: st, SH, σ)) ∧
  (∀ (v0 v1 v2 v3 : Option Value) (k : Nat) (hk : k < L) (st : List Value) (σ : ma_H), ma_rn ro d 178 (223, [v0, v1, v2, v3], .int (nI k) :: .ref 2000000 :: st, SH, σ) = ma_rn ro d 178 (224, [v0, v1, v2, v3], .int (xs k) :: st, SH, σ)) ∧
  (∀ (v0 v1 v2 v3 : Option Value) (k : Nat) (hk : k < L) (st : List Value) (σ : ma_H), ma_rn ro d 178 (228, [v0, v1, v2, v3], .int (nI k) :: .ref 2000000 :: st, SH, σ) = ma_rn ro d 178 (229, [v0, v1, v2, v3], .int (xs k) :: st, SH, σ)) ∧
  (∀ (v0 v1 v2 v3 : Option Value) (k : Nat) (hk : k < L) (st : List Value) (σ : ma_H), ma_rn ro d 178 (242, [v0, v1, v2, v3], .int (nI k) :: .ref 2000000 :: st, SH, σ) = ma_rn ro d 178 (243, [v0, v1, v2, v3], .int (xs k) :: st, SH, σ)) ∧
  (∀ (v0 v1 v2 v3 : Option Value) (k : Nat) (hk : k < L) (st : List Value) (σ : ma_H), ma_rn ro d 178 (247, [v0, v1, v2, v3], .int (nI k) :: .ref 2000000 :: st, SH, σ) = ma_rn ro d 178 (248, [v0, v1, v2, v3], .int (xs k) :: st, SH, σ)) ∧
  (∀ (v0 v1 v2 v3 : Option Value) (k : Nat) (hk : k < L) (st : List Value) (σ : ma_H), ma_rn ro d 178 (256, [v0, v1, v2, v3], .int (nI k) :: .ref 2000000 :: st, SH, σ) = ma_rn ro d 178 (257, [v0, v1, v2, v3], .int (xs k) :: st, SH, σ)) ∧
  (∀ (v0 v1 v2 v3 : Option Value) (k : Nat) (hk : k < L) (st : List Value) (σ : ma_H), ma_rn ro d 178 (261, [v0, v1, v2, v3], .int (nI k) :: .ref 2000000 :: st, SH, σ) = ma_rn ro d 178 (262, [v0, v1, v2, v3], .int (xs k) :: st, SH, σ)) ∧
  (∀ (v0 v1 v2 v3 : Option Value) (k : Nat) (hk : k < L) (st : List Value) (σ : ma_H), ma_rn ro d 178 (275, [v0, v1, v2, v3], .int (nI k) :: .ref 2000000 :: st, SH, σ) = ma_rn ro d 178 (276, [v0, v1, v2, v3], .int (xs k) :: st, SH, σ)) ∧
  (∀ (v0 v1 v2 v3 : Option Value) (k : Nat) (hk : k < L) (st : List Value) (σ : ma_H), ma_rn ro d 178 (280, [v0, v1, v2, v3], .int (nI k) :: .ref 2000000 :: st, SH, σ) = ma_rn ro d 178 (281, [v0, v1, v2, v3], .int (xs k) :: st, SH, σ)) ∧
  (∀ (v0 v1 v2 v3 : Option Value) (k : Nat) (hk : k < L) (st : List Value) (σ : ma_H), ma_rn ro d 178 (285, [v0, v1, v2, v3], .int (nI k) :: .ref 2000000 :: st, SH, σ) = ma_rn ro d 178 (286, [v0, v1, v2, v3], .int (xs k) :: st, SH, σ)) ∧
  (∀ (v0 v1 v2 v3 : Option Value) (k : Nat) (hk : k < L) (st : List Value) (σ : ma_H), ma_rn ro d 178 (294, [v0, v1, v2, v3], .int (nI k) :: .ref 2000000 :: st, SH, σ) = ma_rn ro d 178 (295, [v0, v1, v2, v3], .int (xs k) :: st, SH, σ)) ∧
  (∀ (v0 v1 v2 v3 : Option Value) (k : Nat) (hk : k < L) (st : List Value) (σ : ma_H), ma_rn ro d 178 (299, [v0, v1, v2, v3], .int (nI k) :: .ref 2000000 :: st, SH, σ) = ma_rn ro d 178 (300, [v0, v1, v2, v3], .int (xs k) :: st, SH, σ)) ∧
  (∀ (v0 v1 v2 v3 : Option Value) (k : Nat) (hk : k < L) (st : List Value) (σ : ma_H), ma_rn ro d 178 (304, [v0, v1, v2, v3], .int (nI k) :: .ref 2000000 :: st, SH, σ) = ma_rn ro d 178 (305, [v0, v1, v2, v3], .int (xs k) :: st, SH, σ)) ∧
  (∀ (v0 v1 v2 v3 : Option Value) (k : Nat) (hk : k < L) (st : List Value) (σ : ma_H), ma_rn ro d 178 (318, [v0, v1, v2, v3], .int (nI k) :: .ref 2000000 :: st, SH, σ) = ma_rn ro d 178 (319, [v0, v1, v2, v3], .int (xs k) :: st, SH, σ)) ∧
  (∀ (v0 v1 v2 v3 : Option Value) (k : Nat) (hk : k < L) (st : List Value) (σ : ma_H), ma_rn ro d 178 (323, [v0, v1, v2, v3], .int (nI k) :: .ref 2000000 :: st, SH, σ) = ma_rn ro d 178 (324, [v0, v1, v2, v3], .int (xs k) :: st, SH, σ)) ∧
  (∀ (v0 v1 v2 v3 : Option Value) (k : Nat) (hk : k < L) (st : List Value) (σ : ma_H), ma_rn ro d 178 (328, [v0, v1, v2, v3], .int (nI k) :: .ref 2000000 :: st, SH, σ) = ma_rn ro d 178 (329, [v0, v1, v2, v3], .int (xs k) :: st, SH, σ)) ∧
  (∀ (v0 v1 v2 v3 : Option Value) (k : Nat) (hk : k < L) (st : List Value) (σ : ma_H), ma_rn ro d 178 (337, [v0, v1, v2, v3], .int (nI k) :: .ref 2000000 :: st, SH, σ) = ma_rn ro d 178 (338, [v0, v1, v2, v3], .int (xs k) :: st, SH, σ)) ∧
  (∀ (v0 v1 v2 v3 : Option Value) (k : Nat) (hk : k < L) (st : List Value) (σ : ma_H), ma_rn ro d 178 (342, [v0, v1, v2, v3], .int (nI k) :: .ref 2000000 :: st, SH, σ) = ma_rn ro d 178 (343, [v0, v1, v2, v3], .int (xs k) :: st, SH, σ)) ∧
  (∀ (v0 v1 v2 v3 : Option Value) (k : Nat) (hk : k < L) (st : List Value) (σ : ma_H), ma_rn ro d 178 (347, [v0, v1, v2, v3], .int (nI k) :: .ref 2000000 :: st, SH, σ) = ma_rn ro d 178 (348, [v0, v1, v2, v3], .int (xs k) :: st, SH, σ)) ∧
  (∀ (v0 v1 v2 v3 : Option Value) (k : Nat) (hk : k < L) (st : List Value) (σ : ma_H), ma_rn ro d 178 (361, [v0, v1, v2, v3], .int (nI k) :: .ref 2000000 :: st, SH, σ) = ma_rn ro d 178 (362, [v0, v1, v2, v3], .int (xs k) :: st, SH, σ)) ∧
  (∀ (v0 v1 v2 v3 : Option Value) (k : Nat) (hk : k < L) (st : List Value) (σ : ma_H), ma_rn ro d 178 (370, [v0, v1, v2, v3], .int (nI k) :: .ref 2000000 :: st, SH, σ) = ma_rn ro d 178 (371, [v0, v1, v2, v3], .int (xs k) :: st, SH, σ)) ∧
  (∀ (v0 v1 v2 v3 : Option Value) (k : Nat) (hk : k < L) (st : List Value) (σ : ma_H), ma_rn ro d 178 (384, [v0, v1, v2, v3], .int (nI k) :: .ref 2000000 :: st, SH, σ) = ma_rn ro d 178 (385, [v0, v1, v2, v3], .int (xs k) :: st, SH, σ)) ∧
  (∀ (v0 v1 v2 v3 : Option Value) (k : Nat) (hk : k < L) (st : List Value) (σ : ma_H), ma_rn ro d 178 (393, [v0, v1, v2, v3], .int (nI k) :: .ref 2000000 :: st, SH, σ) = ma_rn ro d 178 (394, [v0, v1, v2, v3], .int (xs k) :: st, SH, σ)) ∧
  (∀ (v0 v1 v2 v3 : Option Value) (k : Nat) (hk : k < L) (st : List Value) (σ : ma_H), ma_rn ro d 178 (407, [v0, v1, v2, v3], .int (nI k) :: .ref 2000000 :: st, SH, σ) = ma_rn ro d 178 (408, [v0, v1, v2, v3], .int (xs k) :: st, SH, σ)) ∧
  (∀ (v0 v1 v2 v3 : Option Value) (k : Nat) (hk : k < L) (st : List Value) (σ : ma_H), ma_rn ro d 178 (412, [v0, v1, v2, v3], .int (nI k) :: .ref 2000000 :: st, SH, σ) = ma_rn ro d 178 (413, [v0, v1, v2, v3], .int (xs k) :: st, SH, σ)) ∧
  (∀ (v0 v1 v2 v3 : Option Value) (k : Nat) (hk : k < L) (st : List Value) (σ : ma_H), ma_rn ro d 178 (421, [v0, v1, v2, v3], .int (nI k) :: .ref 2000000 :: st, SH, σ) = ma_rn ro d 178 (422, [v0, v1, v2, v3], .int (xs k) :: st, SH, σ)) ∧
  (∀ (v0 v1 v2 v3 : Option Value) (k : Nat) (hk : k < L) (st : List Value) (σ : ma_H), ma_rn ro d 178 (426, [v0, v1, v2, v3], .int (nI k) :: .ref 2000000 :: st, SH, σ) = ma_rn ro d 178 (427, [v0, v1, v2, v3], .int (xs k) :: st, SH, σ)) ∧
  (∀ (v0 v1 v2 v3 : Option Value) (k : Nat) (hk : k < L) (st : List Value) (σ : ma_H), ma_rn ro d 178 (440, [v0, v1, v2, v3], .int (nI k) :: .ref 2000000 :: st, SH, σ) = ma_rn ro d 178 (441, [v0, v1, v2, v3], .int (xs k) :: st, SH, σ)) ∧
  (∀ (v0 v1 v2 v3 : Option Value) (k : Nat) (hk : k < L) (st : List Value) (σ : ma_H), ma_rn ro d 178 (449, [v0, v1, v2, v3], .int (nI k) :: .ref 2000000 :: st, SH, σ) = ma_rn ro d 178 (450, [v0, v1, v2, v3], .int (xs k) :: st, SH, σ)) ∧
  (∀ (v0 v1 v2 v3 : Option Value) (k : Nat) (hk : k < L) (st : List Value) (σ : ma_H), ma_rn ro d 178 (463, [v0, v1, v2, v3], .int (nI k) :: .ref 2000000 :: st, SH, σ) = ma_rn ro d 178 (464, [v0, v1, v2, v3], .int (xs k) :: st, SH, σ)) ∧
  (∀ (v0 v1 v2 v3 : Option Value) (k : Nat) (hk : k < L) (st : List Value) (σ : ma_H), ma_rn ro d 178 (472, [v0, v1, v2, v3], .int (nI k) :: .ref 2000000 :: st, SH, σ) = ma_rn ro d 178 (473, [v0, v1, v2, v3], .int (xs k) :: st, SH, σ)) ∧
  (∀ (v0 v1 v2 v3 : Option Value) (k : Nat) (hk : k < L) (st : List Value) (σ : ma_H), ma_rn ro d 178 (486, [v0, v1, v2, v3], .int (nI k) :: .ref 2000000 :: st, SH, σ) = ma_rn ro d 178 (487, [v0, v1, v2, v3], .int (xs k) :: st, SH, σ)) ∧
  (∀ (v0 v1 v2 v3 : Option Value) (k : Nat) (hk : k < L) (st : List Value) (σ : ma_H), ma_rn ro d 178 (491, [v0, v1, v2, v3], .int (nI k) :: .ref 2000000 :: st, SH, σ) = ma_rn ro d 178 (492, [v0, v1, v2, v3], .int (xs k) :: st, SH, σ)) ∧
  (∀ (v0 v1 v2 v3 : Option Value) (k : Nat) (hk : k < L) (st : List Value) (σ : ma_H), ma_rn ro d 178 (500, [v0, v1, v2, v3], .int (nI k) :: .ref 2000000 :: st, SH, σ) = ma_rn ro d 178 (501, [v0, v1, v2, v3], .int (xs k) :: st, SH, σ)) ∧
  (∀ (v0 v1 v2 v3 : Option Value) (k : Nat) (hk : k < L) (st : List Value) (σ : ma_H), ma_rn ro d 178 (505, [v0, v1, v2, v3], .int (nI k) :: .ref 2000000 :: st, SH, σ) = ma_rn ro d 178 (506, [v0, v1, v2, v3], .int (xs k) :: st, SH, σ)) ∧
  (∀ (v0 v1 v2 v3 : Option Value) (k : Nat) (hk : k < L) (st : List Value) (σ : ma_H), ma_rn ro d 178 (519, [v0, v1, v2, v3], .int (nI k) :: .ref 2000000 :: st, SH, σ) = ma_rn ro d 178 (520, [v0, v1, v2, v3], .int (xs k) :: st, SH, σ)) ∧
  (∀ (v0 v1 v2 v3 : Option Value) (k : Nat) (hk : k < L) (st : List Value) (σ : ma_H), ma_rn ro d 178 (524, [v0, v1, v2, v3], .int (nI k) :: .ref 2000000 :: st, SH, σ) = ma_rn ro d 178 (525, [v0, v1, v2, v3], .int (xs k) :: st, SH, σ)) ∧
  (∀ (v0 v1 v2 v3 : Option Value) (k : Nat) (hk : k < L) (st : List Value) (σ : ma_H), ma_rn ro d 178 (533, [v0, v1, v2, v3], .int (nI k) :: .ref 2000000 :: st, SH, σ) = ma_rn ro d 178 (534, [v0, v1, v2, v3], .int (xs k) :: st, SH, σ)) ∧
  (∀ (v0 v1 v2 v3 : Option Value) (k : Nat) (hk : k < L) (st : List Value) (σ : ma_H), ma_rn ro d 178 (538, [v0, v1, v2, v3], .int (nI k) :: .ref 2000000 :: st, SH, σ) = ma_rn ro d 178 (539, [v0, v1, v2, v3], .int (xs k) :: st, SH, σ)) ∧
  (∀ (v0 v1 v2 v3 : Option Value) (k : Nat) (hk : k < L) (st : List Value) (σ : ma_H), ma_rn ro d 178 (552, [v0, v1, v2, v3], .int (nI k) :: .ref 2000000 :: st, SH, σ) = ma_rn ro d 178 (553, [v0, v1, v2, v3], .int (xs k) :: st, SH, σ)) ∧
  (∀ (v0 v1 v2 v3 : Option Value) (k : Nat) (hk : k < L) (st : List Value) (σ : ma_H), ma_rn ro d 178 (557, [v0, v1, v2, v3], .int (nI k) :: .ref 2000000 :: st, SH, σ) = ma_rn ro d 178 (558, [v0, v1, v2, v3], .int (xs k) :: st, SH, σ)) ∧
  (∀ (v0 v1 v2 v3 : Option Value) (k : Nat) (hk : k < L) (st : List Value) (σ : ma_H), ma_rn ro d 178 (562, [v0, v1, v2, v3], .int (nI k) :: .ref 2000000 :: st, SH, σ) = ma_rn ro d 178 (563, [v0, v1, v2, v3], .int (xs k) :: st, SH, σ)) ∧
  (∀ (v0 v1 v2 v3 : Option Value) (k : Nat) (hk : k < L) (st : List Value) (σ : ma_H), ma_rn ro d 178 (571, [v0, v1, v2, v3], .int (nI k) :: .ref 2000000 :: st, SH, σ) = ma_rn ro d 178 (572, [v0, v1, v2, v3], .int (xs k) :: st, SH, σ)) ∧
  (∀ (v0 v1 v2 v3 : Option Value) (k : Nat) (hk : k < L) (st : List Value) (σ : ma_H), ma_rn ro d 178 (576, [v0, v1, v2, v3], .int (nI k) :: .ref 2000000 :: st, SH, σ) = ma_rn ro d 178 (577, [v0, v1, v2, v3], .int (xs k) :: st, SH, σ)) ∧
  (∀ (v0 v1 v2 v3 : Option Value) (k : Nat) (hk : k < L) (st : List Value) (σ : ma_H), ma_rn ro d 178 (581, [v0, v1, v2, v3], .int (nI k) :: .ref 2000000 :: st, SH, σ) = ma_rn ro d 178 (582, [v0, v1, v2, v3], .int (xs k) :: st, SH, σ)) ∧
  (∀ (v0 v1 v2 v3 : Option Value) (k : Nat) (hk : k < L) (st : List Value) (σ : ma_H), ma_rn ro d 178 (595, [v0, v1, v2, v3], .int (nI k) :: .ref 2000000 :: st, SH, σ) = ma_rn ro d 178 (596, [v0, v1, v2, v3], .int (xs k) :: st, SH, σ)) ∧
  (∀ (v0 v1 v2 v3 : Option Value) (k : Nat) (hk : k < L) (st : List Value) (σ : ma_H), ma_rn ro d 178 (600, [v0, v1, v2, v3], .int (nI k) :: .ref 2000000 :: st, SH, σ) = ma_rn ro d 178 (601, [v0, v1, v2, v3], .int (xs k) :: st, SH, σ)) ∧
  (∀ (v0 v1 v2 v3 : Option Value) (k : Nat) (hk : k < L) (st : List Value) (σ : ma_H), ma_rn ro d 178 (605, [v0, v1, v2, v3], .int (nI k) :: .ref 2000000 :: st, SH, σ) = ma_rn ro d 178 (606, [v0, v1, v2, v3], .int (xs k) :: st, SH, σ)) ∧
  (∀ (v0 v1 v2 v3 : Option Value) (k : Nat) (hk : k < L) (st : List Value) (σ : ma_H), ma_rn ro d 178 (622, [v0, v1, v2, v3], .int (nI k) :: .ref 2000000 :: st, SH, σ) = ma_rn ro d 178 (623, [v0, v1, v2, v3], .int (xs k) :: st, SH, σ)) ∧
  (∀ (v0 v1 v2 v3 : Option Value) (k : Nat) (hk : k < L) (st : List Value) (σ : ma_H), ma_rn ro d 178 (627, [v0, v1, v2, v3], .int (nI k) :: .ref 2000000 :: st, SH, σ) = ma_rn ro d 178 (628, [v0, v1, v2, v3], .int (xs k) :: st, SH, σ)) ∧
  (∀ (v0 v1 v2 v3 : Option Value) (k : Nat) (hk : k < L) (st : List Value) (σ : ma_H), ma_rn ro d 178 (632, [v0, v1, v2, v3], .int (nI k) :: .ref 2000000 :: st, SH, σ) = ma_rn ro d 178 (633, [v0, v1, v2, v3], .int (xs k) :: st, SH, σ)) ∧
  (∀ (v0 v1 v2 v3 : Option Value) (k : Nat) (hk : k < L) (st : List Value) (σ : ma_H), ma_rn ro d 178 (654, [v0, v1, v2, v3], .int (nI k) :: .ref 2000000 :: st, SH, σ) = ma_rn ro d 178 (655, [v0, v1, v2, v3], .int (xs k) :: st, SH, σ)) ∧
  (∀ (v0 v1 v2 v3 : Option Value) (k : Nat) (hk : k < L) (st : List Value) (σ : ma_H), ma_rn ro d 178 (663, [v0, v1, v2, v3], .int (nI k) :: .ref 2000000 :: st, SH, σ) = ma_rn ro d 178 (664, [v0, v1, v2, v3], .int (xs k) :: st, SH, σ)) ∧
  (∀ (v0 v1 v2 v3 : Option Value) (k : Nat) (hk : k < L) (st : List Value) (σ : ma_H), ma_rn ro d 178 (677, [v0, v1, v2, v3], .int (nI k) :: .ref 2000000 :: st, SH, σ) = ma_rn ro d 178 (678, [v0, v1, v2, v3], .int (xs k) :: st, SH, σ)) ∧
  (∀ (v0 v1 v2 v3 : Option Value) (k : Nat) (hk : k < L) (st : List Value) (σ : ma_H), ma_rn ro d 178 (682, [v0, v1, v2, v3], .int (nI k) :: .ref 2000000 :: st, SH, σ) = ma_rn ro d 178 (683, [v0, v1, v2, v3], .int (xs k) :: st, SH, σ)) ∧
  (∀ (v0 v1 v2 v3 : Option Value) (k : Nat) (hk : k < L) (st : List Value) (σ : ma_H), ma_rn ro d 178 (691, [v0, v1, v2, v3], .int (nI k) :: .ref 2000000 :: st, SH, σ) = ma_rn ro d 178 (692, [v0, v1, v2, v3], .int (xs k) :: st, SH, σ)) ∧
  (∀ (v0 v1 v2 v3 : Option Value) (k : Nat) (hk : k < L) (st : List Value) (σ : ma_H), ma_rn ro d 178 (696, [v0, v1, v2, v3], .int (nI k) :: .ref 2000000 :: st, SH, σ) = ma_rn ro d 178 (697, [v0, v1, v2, v3], .int (xs k) :: st, SH, σ)) ∧
  (∀ (v0 v1 v2 v3 : Option Value) (k : Nat) (hk : k < L) (st : List Value) (σ : ma_H), ma_rn ro d 178 (710, [v0, v1, v2, v3], .int (nI k) :: .ref 2000000 :: st, SH, σ) = ma_rn ro d 178 (711, [v0, v1, v2, v3], .int (xs k) :: st, SH, σ)) ∧
  (∀ (v0 v1 v2 v3 : Option Value) (k : Nat) (hk : k < L) (st : List Value) (σ : ma_H), ma_rn ro d 178 (719, [v0, v1, v2, v3], .int (nI k) :: .ref 2000000 :: st, SH, σ) = ma_rn ro d 178 (720, [v0, v1, v2, v3], .int (xs k) :: st, SH, σ)) ∧
  (∀ (v0 v1 v2 v3 : Option Value) (k : Nat) (hk : k < L) (st : List Value) (σ : ma_H), ma_rn ro d 178 (733, [v0, v1, v2, v3], .int (nI k) :: .ref 2000000 :: st, SH, σ) = ma_rn ro d 178 (734, [v0, v1, v2, v3], .int (xs k) :: st, SH, σ)) ∧
  (∀ (v0 v1 v2 v3 : Option Value) (k : Nat) (hk : k < L) (st : List Value) (σ : ma_H), ma_rn ro d 178 (738, [v0, v1, v2, v3], .int (nI k) :: .ref 2000000 :: st, SH, σ) = ma_rn ro d 178 (739, [v0, v1, v2, v3], .int (xs k) :: st, SH, σ)) ∧
  (∀ (v0 v1 v2 v3 : Option Value) (k : Nat) (hk : k < L) (st : List Value) (σ : ma_H), ma_rn ro d 178 (743, [v0, v1, v2, v3], .int (nI k) :: .ref 2000000 :: st, SH, σ) = ma_rn ro d 178 (744, [v0, v1, v2, v3], .int (xs k) :: st, SH, σ)) ∧
  (∀ (v0 v1 v2 v3 : Option Value) (k : Nat) (hk : k < L) (st : List Value) (σ : ma_H), ma_rn ro d 178 (752, [v0, v1, v2, v3], .int (nI k) :: .ref 2000000 :: st, SH, σ) = ma_rn ro d 178 (753, [v0, v1, v2, v3], .int (xs k) :: st, SH, σ)) ∧
  (∀ (v0 v1 v2 v3 : Option Value) (k : Nat) (hk : k < L) (st : List Value) (σ : ma_H), ma_rn ro d 178 (757, [v0, v1, v2, v3], .int (nI k) :: .ref 2000000 :: st, SH, σ) = ma_rn ro d 178 (758, [v0, v1, v2, v3], .int (xs k) :: st, SH, σ)) ∧
  (∀ (v0 v1 v2 v3 : Option Value) (k : Nat) (hk : k < L) (st : List Value) (σ : ma_H), ma_rn ro d 178 (762, [v0, v1, v2, v3], .int (nI k) :: .ref 2000000 :: st, SH, σ) = ma_rn ro d 178 (763, [v0, v1, v2, v3], .int (xs k) :: st, SH, σ)) ∧
  (∀ (v0 v1 v2 v3 : Option Value) (k : Nat) (hk : k < L) (st : List Value) (σ : ma_H), ma_rn ro d 178 (777, [v0, v1, v2, v3], .int (nI k) :: .ref 2000000 :: st, SH, σ) = ma_rn ro d 178 (778, [v0, v1, v2, v3], .int (xs k) :: st, SH, σ)) ∧
  (∀ (v0 v1 v2 v3 : Option Value) (k : Nat) (hk : k < L) (st : List Value) (σ : ma_H), ma_rn ro d 178 (786, [v0, v1, v2, v3], .int (nI k) :: .ref 2000000 :: st, SH, σ) = ma_rn ro d 178 (787, [v0, v1, v2, v3], .int (xs k) :: st, SH, σ)) ∧
  (∀ (v0 v1 v2 v3 : Option Value) (k : Nat) (hk : k < L) (st : List Value) (σ : ma_H), ma_rn ro d 178 (801, [v0, v1, v2, v3], .int (nI k) :: .ref 2000000 :: st, SH, σ) = ma_rn ro d 178 (802, [v0, v1, v2, v3], .int (xs k) :: st, SH, σ)) ∧
  (∀ (v0 v1 v2 v3 : Option Value) (k : Nat) (hk : k < L) (st : List Value) (σ : ma_H), ma_rn ro d 178 (806, [v0, v1, v2, v3], .int (nI k) :: .ref 2000000 :: st, SH, σ) = ma_rn ro d 178 (807, [v0, v1, v2, v3], .int (xs k) :: st, SH, σ)) ∧
  (∀ (v0 v1 v2 v3 : Option Value) (k : Nat) (hk : k < L) (st : List Value) (σ : ma_H), ma_rn ro d 178 (815, [v0, v1, v2, v3], .int (nI k) :: .ref 2000000 :: st, SH, σ) = ma_rn ro d 178 (816, [v0, v1, v2, v3], .int (xs k) :: st, SH, σ)) ∧
  (∀ (v0 v1 v2 v3 : Option Value) (k : Nat) (hk : k < L) (st : List Value) (σ : ma_H), ma_rn ro d 178 (820, [v0, v1, v2, v3], .int (nI k) :: .ref 2000000 :: st, SH, σ) = ma_rn ro d 178 (821, [v0, v1, v2, v3], .int (xs k) :: st, SH, σ)) ∧
  (∀ (v0 v1 v2 v3 : Option Value) (k : Nat) (hk : k < L) (st : List Value) (σ : ma_H), ma_rn ro d 178 (834, [v0, v1, v2, v3], .int (nI k) :: .ref 2000000 :: st, SH, σ) = ma_rn ro d 178 (835, [v0, v1, v2, v3], .int (xs k) :: st, SH, σ)) ∧
  (∀ (v0 v1 v2 v3 : Option Value) (k : Nat) (hk : k < L) (st : List Value) (σ : ma_H), ma_rn ro d 178 (843, [v0, v1, v2, v3], .int (nI k) :: .ref 2000000 :: st, SH, σ) = ma_rn ro d 178 (844, [v0, v1, v2, v3], .int (xs k) :: st, SH, σ)) ∧
  (∀ (v0 v1 v2 v3 : Option Value) (k : Nat) (hk : k < L) (st : List Value) (σ : ma_H), ma_rn ro d 178 (857, [v0, v1, v2, v3], .int (nI k) :: .ref 2000000 :: st, SH, σ) = ma_rn ro d 178 (858, [v0, v1, v2, v3], .int (xs k) :: st, SH, σ)) ∧
  (∀ (v0 v1 v2 v3 : Option Value) (k : Nat) (hk : k < L) (st : List Value) (σ : ma_H), ma_rn ro d 178 (862, [v0, v1, v2, v3], .int (nI k) :: .ref 2000000 :: st, SH, σ) = ma_rn ro d 178 (863, [v0, v1, v2, v3], .int (xs k) :: st, SH, σ)) ∧
  (∀ (v0 v1 v2 v3 : Option Value) (k : Nat) (hk : k < L) (st : List Value) (σ : ma_H), ma_rn ro d 178 (871, [v0, v1, v2, v3], .int (nI k) :: .ref 2000000 :: st, SH, σ) = ma_rn ro d 178 (872, [v0, v1, v2, v3], .int (xs k) :: st, SH, σ)) ∧
  (∀ (v0 v1 v2 v3 : Option Value) (k : Nat) (hk : k < L) (st : List Value) (σ : ma_H), ma_rn ro d 178 (876, [v0, v1, v2, v3], .int (nI k) :: .ref 2000000 :: st, SH, σ) = ma_rn ro d 178 (877, [v0, v1, v2, v3], .int (xs k) :: st, SH, σ)) ∧
  (∀ (v0 v1 v2 v3 : Option Value) (k : Nat) (hk : k < L) (st : List Value) (σ : ma_H), ma_rn ro d 178 (903, [v0, v1, v2, v3], .int (nI k) :: .ref 2000000 :: st, SH, σ) = ma_rn ro d 178 (904, [v0, v1, v2, v3], .int (xs k) :: st, SH, σ)) ∧
  (∀ (v0 v1 v2 v3 : Option Value) (k : Nat) (hk : k < L) (st : List Value) (σ : ma_H), ma_rn ro d 178 (908, [v0, v1, v2, v3], .int (nI k) :: .ref 2000000 :: st, SH, σ) = ma_rn ro d 178 (909, [v0, v1, v2, v3], .int (xs k) :: st, SH, σ)) ∧
  (∀ (v0 v1 v2 v3 : Option Value) (k : Nat) (hk : k < L) (st : List Value) (σ : ma_H), ma_rn ro d 178 (913, [v0, v1, v2, v3], .int (nI k) :: .ref 2000000 :: st, SH, σ) = ma_rn ro d 178 (914, [v0, v1, v2, v3], .int (xs k) :: st, SH, σ)) ∧
  (∀ (v0 v1 v2 v3 : Option Value) (k : Nat) (hk : k < L) (st : List Value) (σ : ma_H), ma_rn ro d 178 (922, [v0, v1, v2, v3], .int (nI k) :: .ref 2000000 :: st, SH, σ) = ma_rn ro d 178 (923, [v0, v1, v2, v3], .int (xs k) :: st, SH, σ)) ∧
  (∀ (v0 v1 v2 v3 : Option Value) (k : Nat) (hk : k < L) (st : List Value) (σ : ma_H), ma_rn ro d 178 (927, [v0, v1, v2, v3], .int (nI k) :: .ref 2000000 :: st, SH, σ) = ma_rn ro d 178 (928, [v0, v1, v2, v3], .int (xs k) :: st, SH, σ)) ∧
  (∀ (v0 v1 v2 v3 : Option Value) (k : Nat) (hk : k < L) (st : List Value) (σ : ma_H), ma_rn ro d 178 (932, [v0, v1, v2, v3], .int (nI k) :: .ref 2000000 :: st, SH, σ) = ma_rn ro d 178 (933, [v0, v1, v2, v3], .int (xs k) :: st, SH, σ)) ∧
  (∀ (v0 v1 v2 v3 : Option Value) (k : Nat) (hk : k < L) (st : List Value) (σ : ma_H), ma_rn ro d 178 (946, [v0, v1, v2, v3], .int (nI k) :: .ref 2000000 :: st, SH, σ) = ma_rn ro d 178 (947, [v0, v1, v2, v3], .int (xs k) :: st, SH, σ)) ∧
  (∀ (v0 v1 v2 v3 : Option Value) (k : Nat) (hk : k < L) (st : List Value) (σ : ma_H), ma_rn ro d 178 (955, [v0, v1, v2, v3], .int (nI k) :: .ref 2000000 :: st, SH, σ) = ma_rn ro d 178 (956, [v0, v1, v2, v3], .int (xs k) :: st, SH, σ)) ∧
  (∀ (v0 v1 v2 v3 : Option Value) (k : Nat) (hk : k < L) (st : List Value) (σ : ma_H), ma_rn ro d 178 (969, [v0, v1, v2, v3], .int (nI k) :: .ref 2000000 :: st, SH, σ) = ma_rn ro d 178 (970, [v0, v1, v2, v3], .int (xs k) :: st, SH, σ)) ∧
  (∀ (v0 v1 v2 v3 : Option Value) (k : Nat) (hk : k < L) (st : List Value) (σ : ma_H), ma_rn ro d 178 (974, [v0, v1, v2, v3], .int (nI k) :: .ref 2000000 :: st, SH, σ) = ma_rn ro d 178 (975, [v0, v1, v2, v3], .int (xs k) :: st, SH, σ)) ∧
  (∀ (v0 v1 v2 v3 : Option Value) (k : Nat) (hk : k < L) (st : List Value) (σ : ma_H), ma_rn ro d 178 (983, [v0, v1, v2, v3], .int (nI k) :: .ref 2000000 :: st, SH, σ) = ma_rn ro d 178 (984, [v0, v1, v2, v3], .int (xs k) :: st, SH, σ)) ∧
  (∀ (v0 v1 v2 v3 : Option Value) (k : Nat) (hk : k < L) (st : List Value) (σ : ma_H), ma_rn ro d 178 (988, [v0, v1, v2, v3], .int (nI k) :: .ref 2000000 :: st, SH, σ) = ma_rn ro d 178 (989, [v0, v1, v2, v3], .int (xs k) :: st, SH, σ)) ∧
  (∀ (v0 v1 v2 v3 : Option Value) (k : Nat) (hk : k < L) (st : List Value) (σ : ma_H), ma_rn ro d 178 (1028, [v0, v1, v2, v3], .int (nI k) :: .ref 2000000 :: st, SH, σ) = ma_rn ro d 178 (1029, [v0, v1, v2, v3], .int (xs k) :: st, SH, σ)) ∧
  (∀ (v0 v1 v2 v3 : Option Value) (k : Nat) (hk : k < L) (st : List Value) (σ : ma_H), ma_rn ro d 178 (1037, [v0, v1, v2, v3], .int (nI k) :: .ref 2000000 :: st, SH, σ) = ma_rn ro d 178 (1038, [v0, v1, v2, v3], .int (xs k) :: st, SH, σ)) :=
  ⟨fun _ _ _ _ k hk st σ => q_ialdR e178_28 (SH_no (by decide)) hr hk hL,
  fun _ _ _ _ k hk st σ => q_ialdR e178_173 (SH_no (by decide)) hr hk hL,
  fun _ _ _ _ k hk st σ => q_ialdR e178_182 (SH_no (by decide)) hr hk hL,
  fun _ _ _ _ k hk st σ => q_ialdR e178_209 (SH_no (by decide)) hr hk hL,
  fun _ _ _ _ k hk st σ => q_ialdR e178_214 (SH_no (by decide)) hr hk hL,
  fun _ _ _ _ k hk st σ => q_ialdR e178_223 (SH_no (by decide)) hr hk hL,
  fun _ _ _ _ k hk st σ => q_ialdR e178_228 (SH_no (by decide)) hr hk hL,
  fun _ _ _ _ k hk st σ => q_ialdR e178_242 (SH_no (by decide)) hr hk hL,
  fun _ _ _ _ k hk st σ => q_ialdR e178_247 (SH_no (by decide)) hr hk hL,
  fun _ _ _ _ k hk st σ => q_ialdR e178_256 (SH_no (by decide)) hr hk hL,
  fun _ _ _ _ k hk st σ => q_ialdR e178_261 (SH_no (by decide)) hr hk hL,
  fun _ _ _ _ k hk st σ => q_ialdR e178_275 (SH_no (by decide)) hr hk hL,
  fun _ _ _ _ k hk st σ => q_ialdR e178_280 (SH_no (by decide)) hr hk hL,
  fun _ _ _ _ k hk st σ => q_ialdR e178_285 (SH_no (by decide)) hr hk hL,
  fun _ _ _ _ k hk st σ => q_ialdR e178_294 (SH_no (by decide)) hr hk hL,
  fun _ _ _ _ k hk st σ => q_ialdR e178_299 (SH_no (by decide)) hr hk hL,
  fun _ _ _ _ k hk st σ => q_ialdR e178_304 (SH_no (by decide)) hr hk hL,
  fun _ _ _ _ k hk st σ => q_ialdR e178_318 (SH_no (by decide)) hr hk hL,
  fun _ _ _ _ k hk st σ => q_ialdR e178_323 (SH_no (by decide)) hr hk hL,
  fun _ _ _ _ k hk st σ => q_ialdR e178_328 (SH_no (by decide)) hr hk hL,
  fun _ _ _ _ k hk st σ => q_ialdR e178_337 (SH_no (by decide)) hr hk hL,
  fun _ _ _ _ k hk st σ => q_ialdR e178_342 (SH_no (by decide)) hr hk hL,
  fun _ _ _ _ k hk st σ => q_ialdR e178_347 (SH_no (by decide)) hr hk hL,
  fun _ _ _ _ k hk st σ => q_ialdR e178_361 (SH_no (by decide)) hr hk hL,
  fun _ _ _ _ k hk st σ => q_ialdR e178_370 (SH_no (by decide)) hr hk hL,
  fun _ _ _ _ k hk st σ => q_ialdR e178_384 (SH_no (by decide)) hr hk hL,
  fun _ _ _ _ k hk st σ => q_ialdR e178_393 (SH_no (by decide)) hr hk hL,
  fun _ _ _ _ k hk st σ => q_ialdR e178_407 (SH_no (by decide)) hr hk hL,
  fun _ _ _ _ k hk st σ => q_ialdR e178_412 (SH_no (by decide)) hr hk hL,
  fun _ _ _ _ k hk st σ => q_ialdR e178_421 (SH_no (by decide)) hr hk hL,
  fun _ _ _ _ k hk st σ => q_ialdR e178_426 (SH_no (by decide)) hr hk hL,
  fun _ _ _ _ k hk st σ => q_ialdR e178_440 (SH_no (by decide)) hr hk hL,
  fun _ _ _ _ k hk st σ => q_ialdR e178_449 (SH_no (by decide)) hr hk hL,
  fun _ _ _ _ k hk st σ => q_ialdR e178_463 (SH_no (by decide)) hr hk hL,
  fun _ _ _ _ k hk st σ => q_ialdR e178_472 (SH_no (by decide)) hr hk hL,
  fun _ _ _ _ k hk st σ => q_ialdR e178_486 (SH_no (by decide)) hr hk hL,
  fun _ _ _ _ k hk st σ => q_ialdR e178_491 (SH_no (by decide)) hr hk hL,
  fun _ _ _ _ k hk st σ => q_ialdR e178_500 (SH_no (by decide)) hr hk hL,
  fun _ _ _ _ k hk st σ => q_ialdR e178_505 (SH_no (by decide)) hr hk hL,
  fun _ _ _ _ k hk st σ => q_ialdR e178_519 (SH_no (by decide)) hr hk hL,
  fun _ _ _ _ k hk st σ => q_ialdR e178_524 (SH_no (by decide)) hr hk hL,
  fun _ _ _ _ k hk st σ => q_ialdR e178_533 (SH_no (by decide)) hr hk hL,
  fun _ _ _ _ k hk st σ => q_ialdR e178_538 (SH_no (by decide)) hr hk hL,
  fun _ _ _ _ k hk st σ => q_ialdR e178_552 (SH_no (by decide)) hr hk hL,
  fun _ _ _ _ k hk st σ => q_ialdR e178_557 (SH_no (by decide)) hr hk hL,
  fun _ _ _ _ k hk st σ => q_ialdR e178_562 (SH_no (by decide)) hr hk hL,
  fun _ _ _ _ k hk st σ => q_ialdR e178_571 (SH_no (by decide)) hr hk hL,
  fun _ _ _ _ k hk st σ => q_ialdR e178_576 (SH_no (by decide)) hr hk hL,
  fun _ _ _ _ k hk st σ => q_ialdR e178_581 (SH_no (by decide)) hr hk hL,
  fun _ _ _ _ k hk st σ => q_ialdR e178_595 (SH_no (by decide)) hr hk hL,
  fun _ _ _ _ k hk st σ => q_ialdR e178_600 (SH_no (by decide)) hr hk hL,
  fun _ _ _ _ k hk st σ => q_ialdR e178_605 (SH_no (by decide)) hr hk hL,
  fun _ _ _ _ k hk st σ => q_ialdR e178_622 (SH_no (by decide)) hr hk hL,
  fun _ _ _ _ k hk st σ => q_ialdR e178_627 (SH_no (by decide)) hr hk hL,
  fun _ _ _ _ k hk st σ => q_ialdR e178_632 (SH_no (by decide)) hr hk hL,
  fun _ _ _ _ k hk st σ => q_ialdR e178_654 (SH_no (by decide)) hr hk hL,
  fun _ _ _ _ k hk st σ => q_ialdR e178_663 (SH_no (by decide)) hr hk hL,
  fun _ _ _ _ k hk st σ => q_ialdR e178_677 (SH_no (by decide)) hr hk hL,
  fun _ _ _ _ k hk st σ => q_ialdR e178_682 (SH_no (by decide)) hr hk hL,
  fun _ _ _ _ k hk st σ => q_ialdR e178_691 (SH_no (by decide)) hr hk hL,
  fun _ _ _ _ k hk st σ => q_ialdR e178_696 (SH_no (by decide)) hr hk hL,
  fun _ _ _ _ k hk st σ => q_ialdR e178_710 (SH_no (by decide)) hr hk hL,
  fun _ _ _ _ k hk st σ => q_ialdR e178_719 (SH_no (by decide)) hr hk hL,
  fun _ _ _ _ k hk st σ => q_ialdR e178_733 (SH_no (by decide)) hr hk hL,
  fun _ _ _ _ k hk st σ => q_ialdR e178_738 (SH_no (by decide)) hr hk hL,
  fun _ _ _ _ k hk st σ => q_ialdR e178_743 (SH_no (by decide)) hr hk hL,
  fun _ _ _ _ k hk st σ => q_ialdR e178_752 (SH_no (by decide)) hr hk hL,
  fun _ _ _ _ k hk st σ => q_ialdR e178_757 (SH_no (by decide)) hr hk hL,
  fun _ _ _ _ k hk st σ => q_ialdR e178_762 (SH_no (by decide)) hr hk hL,
  fun _ _ _ _ k hk st σ => q_ialdR e178_777 (SH_no (by decide)) hr hk hL,
  fun _ _ _ _ k hk st σ => q_ialdR e178_786 (SH_no (by decide)) hr hk hL,
  fun _ _ _ _ k hk st σ => q_ialdR e178_801 (SH_no (by decide)) hr hk hL,
  fun _ _ _ _ k hk st σ => q_ialdR e178_806 (SH_no (by decide)) hr hk hL,
  fun _ _ _ _ k hk st σ => q_ialdR e178_815 (SH_no (by decide)) hr hk hL,
  fun _ _ _ _ k hk st σ => q_ialdR e178_820 (SH_no (by decide)) hr hk hL,
  fun _ _ _ _ k hk st σ => q_ialdR e178_834 (SH_no (by decide)) hr hk hL,
  fun _ _ _ _ k hk st σ => q_ialdR e178_843 (SH_no (by decide)) hr hk hL,
  fun _ _ _ _ k hk st σ => q_ialdR e178_857 (SH_no (by decide)) hr hk hL,
  fun _ _ _ _ k hk st σ => q_ialdR e178_862 (SH_no (by decide)) hr hk hL,
  fun _ _ _ _ k hk st σ => q_ialdR e178_871 (SH_no (by decide)) hr hk hL,
  fun _ _ _ _ k hk st σ => q_ialdR e178_876 (SH_no (by decide)) hr hk hL,
  fun _ _ _ _ k hk st σ => q_ialdR e178_903 (SH_no (by decide)) hr hk hL,
  fun _ _ _ _ k hk st σ => q_ialdR e178_908 (SH_no (by decide)) hr hk hL,
  fun _ _ _ _ k hk st σ => q_ialdR e178_913 (SH_no (by decide)) hr hk hL,
  fun _ _ _ _ k hk st σ => q_ialdR e178_922 (SH_no (by decide)) hr hk hL,
  fun _ _ _ _ k hk st σ => q_ialdR e178_927 (SH_no (by decide)) hr hk hL,
  fun _ _ _ _ k hk st σ => q_ialdR e178_932 (SH_no (by decide)) hr hk hL,
  fun _ _ _ _ k hk st σ => q_ialdR e178_946 (SH_no (by decide)) hr hk hL,
  fun _ _ _ _ k hk st σ => q_ialdR e178_955 (SH_no (by decide)) hr hk hL,
  fun _ _ _ _ k hk st σ => q_ialdR e178_969 (SH_no (by decide)) hr hk hL,
  fun _ _ _ _ k hk st σ => q_ialdR e178_974 (SH_no (by decide)) hr hk hL,
  fun _ _ _ _ k hk st σ => q_ialdR e178_983 (SH_no (by decide)) hr hk hL,
  fun _ _ _ _ k hk st σ => q_ialdR e178_988 (SH_no (by decide)) hr hk hL,
  fun _ _ _ _ k hk st σ => q_ialdR e178_1028 (SH_no (by decide)) hr hk hL,
  fun _ _ _ _ k hk st σ => q_ialdR e178_1037 (SH_no (by decide)) hr hk hL⟩
theorem R178l {ro : ma_RO} {L : Nat} {xs : Nat → Int32} (hr : ro 2000000 = some (L, xs)) {d : Nat} (v0 v1 v2 v3 : Option Value) (st : List Value) (σ : ma_H) : ma_rn ro d 178 (20, [v0, v1, v2, v3], .ref 2000000 :: st, SH, σ) = ma_rn ro d 178 (21, [v0, v1, v2, v3], .int (nI L) :: st, SH, σ) := q_alenR e178_20 (SH_no (by decide)) hr
theorem lg_same (x : Int64) : lg_cmp x x = nI 0 := by
  unfold lg_cmp
  rw [if_neg (by rw [gt_iff_lt, Int64.lt_iff_toInt_lt]; omega), if_pos rfl]
  rfl
theorem LS0 {ro : ma_RO} {L : Nat} {xs : Nat → Int32} (hr : ro 2000000 = some (L, xs)) (hL : L ≤ 2048) {d : Nat} (σ : ma_H) (hG : G σ) (i : Nat) (hi : i + 4 ≤ L) (hc : xs i &&& nI 31 = nI 0) : ∃ σ', G σ' ∧ ma_rn ro (d + 31) 178 (18, [some (.ref 2000000), some (.ref 0), some (.ref 90), some (.int (nI i))], [], SH, σ) = ma_rn ro (d + 31) 178 (18, [some (.ref 2000000), some (.ref 0), some (.ref 90), some (.int (nI (i + 4)))], [], SH, σ') := by
  have r1 := fun v0 v1 v2 v3 st σ => R178l hr (d := d + 31) v0 v1 v2 v3 st σ
  have r2 := @R178 ro L xs hr (by omega)
  have h4 : nI L - nI 4 = nI (L - 4) := z_sub (by omega)
  have hn : ¬ L - 4 < i := by omega
  obtain ⟨r, σ1, σ2, e1, e2, g⟩ : ∃ r σ1 σ2, ma_ev ro (d + 30) 58 [.ref 0, .int (xs (i + 1))] SH σ = some (some (.int r), SH, σ1) ∧ ma_ev ro (d + 30) 107 [.ref 90, .int (xs (i + 1))] SH σ1 = some (some (.int r), SH, σ2) ∧ G σ2 := C58 (d := d + 27) σ hG (xs (i + 1))
  refine ⟨σ2, g, ?_⟩
  rw [Sh178_18]
  simp (disch := first | assumption | omega | exact zb_fit | exact hbf .. | (simp (disch := omega) only [up_no, up_nk, up_at, u_cp_no] <;> (first | assumption | omega)) | (simp only [hkF] <;> omega) | decide) only [S178, r1, r2, h4, z_lt, hn, hc, e1, e2, eq_self_iff_true, z_eq, Nat.reduceEqDiff, hkF, z_add, z_mul, up_at, up_no, up_nk, u_cp_no, ma_bd, ↓reduceIte, if_true, if_false, Option.toList, List.nil_append, List.cons_append]
theorem LS1 {ro : ma_RO} {L : Nat} {xs : Nat → Int32} (hr : ro 2000000 = some (L, xs)) (hL : L ≤ 2048) {d : Nat} (σ : ma_H) (hG : G σ) (i : Nat) (hi : i + 4 ≤ L) (hc : xs i &&& nI 31 = nI 1) : ∃ σ', G σ' ∧ ma_rn ro (d + 31) 178 (18, [some (.ref 2000000), some (.ref 0), some (.ref 90), some (.int (nI i))], [], SH, σ) = ma_rn ro (d + 31) 178 (18, [some (.ref 2000000), some (.ref 0), some (.ref 90), some (.int (nI (i + 4)))], [], SH, σ') := by
  have r1 := fun v0 v1 v2 v3 st σ => R178l hr (d := d + 31) v0 v1 v2 v3 st σ
  have r2 := @R178 ro L xs hr (by omega)
  have h4 : nI L - nI 4 = nI (L - 4) := z_sub (by omega)
  have hn : ¬ L - 4 < i := by omega
  obtain ⟨r, σ1, σ2, e1, e2, g⟩ : ∃ r σ1 σ2, ma_ev ro (d + 30) 59 [.ref 0] SH σ = some (some (.int r), SH, σ1) ∧ ma_ev ro (d + 30) 121 [.ref 90] SH σ1 = some (some (.int r), SH, σ2) ∧ G σ2 := C59 (d := d) σ hG
  refine ⟨σ2, g, ?_⟩
  rw [Sh178_18]
  simp (disch := first | assumption | omega | exact zb_fit | exact hbf .. | (simp (disch := omega) only [up_no, up_nk, up_at, u_cp_no] <;> (first | assumption | omega)) | (simp only [hkF] <;> omega) | decide) only [S178, r1, r2, h4, z_lt, hn, hc, e1, e2, eq_self_iff_true, z_eq, Nat.reduceEqDiff, hkF, z_add, z_mul, up_at, up_no, up_nk, u_cp_no, ma_bd, ↓reduceIte, if_true, if_false, Option.toList, List.nil_append, List.cons_append]
theorem LS2 {ro : ma_RO} {L : Nat} {xs : Nat → Int32} (hr : ro 2000000 = some (L, xs)) (hL : L ≤ 2048) {d : Nat} (σ : ma_H) (hG : G σ) (i : Nat) (hi : i + 4 ≤ L) (hc : xs i &&& nI 31 = nI 2) : ∃ σ', G σ' ∧ ma_rn ro (d + 31) 178 (18, [some (.ref 2000000), some (.ref 0), some (.ref 90), some (.int (nI i))], [], SH, σ) = ma_rn ro (d + 31) 178 (18, [some (.ref 2000000), some (.ref 0), some (.ref 90), some (.int (nI (i + 4)))], [], SH, σ') := by
  have r1 := fun v0 v1 v2 v3 st σ => R178l hr (d := d + 31) v0 v1 v2 v3 st σ
  have r2 := @R178 ro L xs hr (by omega)
  have h4 : nI L - nI 4 = nI (L - 4) := z_sub (by omega)
  have hn : ¬ L - 4 < i := by omega
  obtain ⟨r, σ1, σ2, e1, e2, g⟩ : ∃ r σ1 σ2, ma_ev ro (d + 30) 60 [.ref 0, .int (xs (i + 1)), .int (xs (i + 2))] SH σ = some (some (.int r), SH, σ1) ∧ ma_ev ro (d + 30) 128 [.ref 90, .int (xs (i + 1)), .int (xs (i + 2))] SH σ1 = some (some (.int r), SH, σ2) ∧ G σ2 := C60 (d := d + 27) σ hG (xs (i + 1)) (xs (i + 2))
  refine ⟨σ2, g, ?_⟩
  rw [Sh178_18]
  simp (disch := first | assumption | omega | exact zb_fit | exact hbf .. | (simp (disch := omega) only [up_no, up_nk, up_at, u_cp_no] <;> (first | assumption | omega)) | (simp only [hkF] <;> omega) | decide) only [S178, r1, r2, h4, z_lt, hn, hc, e1, e2, eq_self_iff_true, z_eq, Nat.reduceEqDiff, hkF, z_add, z_mul, up_at, up_no, up_nk, u_cp_no, ma_bd, ↓reduceIte, if_true, if_false, Option.toList, List.nil_append, List.cons_append]
theorem LS3 {ro : ma_RO} {L : Nat} {xs : Nat → Int32} (hr : ro 2000000 = some (L, xs)) (hL : L ≤ 2048) {d : Nat} (σ : ma_H) (hG : G σ) (i : Nat) (hi : i + 4 ≤ L) (hc : xs i &&& nI 31 = nI 3) : ∃ σ', G σ' ∧ ma_rn ro (d + 31) 178 (18, [some (.ref 2000000), some (.ref 0), some (.ref 90), some (.int (nI i))], [], SH, σ) = ma_rn ro (d + 31) 178 (18, [some (.ref 2000000), some (.ref 0), some (.ref 90), some (.int (nI (i + 4)))], [], SH, σ') := by
  have r1 := fun v0 v1 v2 v3 st σ => R178l hr (d := d + 31) v0 v1 v2 v3 st σ
  have r2 := @R178 ro L xs hr (by omega)
  have h4 : nI L - nI 4 = nI (L - 4) := z_sub (by omega)
  have hn : ¬ L - 4 < i := by omega
  obtain ⟨r, σ1, σ2, e1, e2, g⟩ : ∃ r σ1 σ2, ma_ev ro (d + 30) 61 [.ref 0, .int (xs (i + 1)), .int (xs (i + 2))] SH σ = some (some (.int r), SH, σ1) ∧ ma_ev ro (d + 30) 129 [.ref 90, .int (xs (i + 1)), .int (xs (i + 2))] SH σ1 = some (some (.int r), SH, σ2) ∧ G σ2 := C61 (d := d + 25) σ hG (xs (i + 1)) (xs (i + 2))
  refine ⟨σ2, g, ?_⟩
  rw [Sh178_18]
  simp (disch := first | assumption | omega | exact zb_fit | exact hbf .. | (simp (disch := omega) only [up_no, up_nk, up_at, u_cp_no] <;> (first | assumption | omega)) | (simp only [hkF] <;> omega) | decide) only [S178, r1, r2, h4, z_lt, hn, hc, e1, e2, eq_self_iff_true, z_eq, Nat.reduceEqDiff, hkF, z_add, z_mul, up_at, up_no, up_nk, u_cp_no, ma_bd, ↓reduceIte, if_true, if_false, Option.toList, List.nil_append, List.cons_append]
theorem LS4 {ro : ma_RO} {L : Nat} {xs : Nat → Int32} (hr : ro 2000000 = some (L, xs)) (hL : L ≤ 2048) {d : Nat} (σ : ma_H) (hG : G σ) (i : Nat) (hi : i + 4 ≤ L) (hc : xs i &&& nI 31 = nI 4) : ∃ σ', G σ' ∧ ma_rn ro (d + 31) 178 (18, [some (.ref 2000000), some (.ref 0), some (.ref 90), some (.int (nI i))], [], SH, σ) = ma_rn ro (d + 31) 178 (18, [some (.ref 2000000), some (.ref 0), some (.ref 90), some (.int (nI (i + 4)))], [], SH, σ') := by
  have r1 := fun v0 v1 v2 v3 st σ => R178l hr (d := d + 31) v0 v1 v2 v3 st σ
  have r2 := @R178 ro L xs hr (by omega)
  have h4 : nI L - nI 4 = nI (L - 4) := z_sub (by omega)
  have hn : ¬ L - 4 < i := by omega
  obtain ⟨r, σ1, σ2, e1, e2, g⟩ : ∃ r σ1 σ2, ma_ev ro (d + 30) 62 [.ref 0, .int (xs (i + 1)), .int (xs (i + 2)), .int (xs (i + 3))] SH σ = some (some (.int r), SH, σ1) ∧ ma_ev ro (d + 30) 130 [.ref 90, .int (xs (i + 1)), .int (xs (i + 2)), .int (xs (i + 3))] SH σ1 = some (some (.int r), SH, σ2) ∧ G σ2 := C62 (d := d + 27) σ hG (xs (i + 1)) (xs (i + 2)) (xs (i + 3))
  refine ⟨σ2, g, ?_⟩
  rw [Sh178_18]
  simp (disch := first | assumption | omega | exact zb_fit | exact hbf .. | (simp (disch := omega) only [up_no, up_nk, up_at, u_cp_no] <;> (first | assumption | omega)) | (simp only [hkF] <;> omega) | decide) only [S178, r1, r2, h4, z_lt, hn, hc, e1, e2, eq_self_iff_true, z_eq, Nat.reduceEqDiff, hkF, z_add, z_mul, up_at, up_no, up_nk, u_cp_no, ma_bd, ↓reduceIte, if_true, if_false, Option.toList, List.nil_append, List.cons_append]
theorem LS5 {ro : ma_RO} {L : Nat} {xs : Nat → Int32} (hr : ro 2000000 = some (L, xs)) (hL : L ≤ 2048) {d : Nat} (σ : ma_H) (hG : G σ) (i : Nat) (hi : i + 4 ≤ L) (hc : xs i &&& nI 31 = nI 5) : ∃ σ', G σ' ∧ ma_rn ro (d + 31) 178 (18, [some (.ref 2000000), some (.ref 0), some (.ref 90), some (.int (nI i))], [], SH, σ) = ma_rn ro (d + 31) 178 (18, [some (.ref 2000000), some (.ref 0), some (.ref 90), some (.int (nI (i + 4)))], [], SH, σ') := by
  have r1 := fun v0 v1 v2 v3 st σ => R178l hr (d := d + 31) v0 v1 v2 v3 st σ
  have r2 := @R178 ro L xs hr (by omega)
  have h4 : nI L - nI 4 = nI (L - 4) := z_sub (by omega)
  have hn : ¬ L - 4 < i := by omega
  obtain ⟨r, σ1, σ2, e1, e2, g⟩ : ∃ r σ1 σ2, ma_ev ro (d + 30) 63 [.ref 0, .int (xs (i + 1)), .int (xs (i + 2)), .int (xs (i + 3))] SH σ = some (some (.int r), SH, σ1) ∧ ma_ev ro (d + 30) 131 [.ref 90, .int (xs (i + 1)), .int (xs (i + 2)), .int (xs (i + 3))] SH σ1 = some (some (.int r), SH, σ2) ∧ G σ2 := C63 (d := d + 27) σ hG (xs (i + 1)) (xs (i + 2)) (xs (i + 3))
  refine ⟨σ2, g, ?_⟩
  rw [Sh178_18]
  simp (disch := first | assumption | omega | exact zb_fit | exact hbf .. | (simp (disch := omega) only [up_no, up_nk, up_at, u_cp_no] <;> (first | assumption | omega)) | (simp only [hkF] <;> omega) | decide) only [S178, r1, r2, h4, z_lt, hn, hc, e1, e2, eq_self_iff_true, z_eq, Nat.reduceEqDiff, hkF, z_add, z_mul, up_at, up_no, up_nk, u_cp_no, ma_bd, ↓reduceIte, if_true, if_false, Option.toList, List.nil_append, List.cons_append]
theorem LS6 {ro : ma_RO} {L : Nat} {xs : Nat → Int32} (hr : ro 2000000 = some (L, xs)) (hL : L ≤ 2048) {d : Nat} (σ : ma_H) (hG : G σ) (i : Nat) (hi : i + 4 ≤ L) (hc : xs i &&& nI 31 = nI 6) : ∃ σ', G σ' ∧ ma_rn ro (d + 31) 178 (18, [some (.ref 2000000), some (.ref 0), some (.ref 90), some (.int (nI i))], [], SH, σ) = ma_rn ro (d + 31) 178 (18, [some (.ref 2000000), some (.ref 0), some (.ref 90), some (.int (nI (i + 4)))], [], SH, σ') := by
  have r1 := fun v0 v1 v2 v3 st σ => R178l hr (d := d + 31) v0 v1 v2 v3 st σ
  have r2 := @R178 ro L xs hr (by omega)
  have h4 : nI L - nI 4 = nI (L - 4) := z_sub (by omega)
  have hn : ¬ L - 4 < i := by omega
  obtain ⟨r, σ1, σ2, e1, e2, g⟩ : ∃ r σ1 σ2, ma_ev ro (d + 30) 64 [.ref 0, .int (xs (i + 1))] SH σ = some (some (.int r), SH, σ1) ∧ ma_ev ro (d + 30) 132 [.ref 90, .int (xs (i + 1))] SH σ1 = some (some (.int r), SH, σ2) ∧ G σ2 := C64 (d := d + 28) σ hG (xs (i + 1))
  refine ⟨σ2, g, ?_⟩
  rw [Sh178_18]
  simp (disch := first | assumption | omega | exact zb_fit | exact hbf .. | (simp (disch := omega) only [up_no, up_nk, up_at, u_cp_no] <;> (first | assumption | omega)) | (simp only [hkF] <;> omega) | decide) only [S178, r1, r2, h4, z_lt, hn, hc, e1, e2, eq_self_iff_true, z_eq, Nat.reduceEqDiff, hkF, z_add, z_mul, up_at, up_no, up_nk, u_cp_no, ma_bd, ↓reduceIte, if_true, if_false, Option.toList, List.nil_append, List.cons_append]
theorem LS7 {ro : ma_RO} {L : Nat} {xs : Nat → Int32} (hr : ro 2000000 = some (L, xs)) (hL : L ≤ 2048) {d : Nat} (σ : ma_H) (hG : G σ) (i : Nat) (hi : i + 4 ≤ L) (hc : xs i &&& nI 31 = nI 7) : ∃ σ', G σ' ∧ ma_rn ro (d + 31) 178 (18, [some (.ref 2000000), some (.ref 0), some (.ref 90), some (.int (nI i))], [], SH, σ) = ma_rn ro (d + 31) 178 (18, [some (.ref 2000000), some (.ref 0), some (.ref 90), some (.int (nI (i + 4)))], [], SH, σ') := by
  have r1 := fun v0 v1 v2 v3 st σ => R178l hr (d := d + 31) v0 v1 v2 v3 st σ
  have r2 := @R178 ro L xs hr (by omega)
  have h4 : nI L - nI 4 = nI (L - 4) := z_sub (by omega)
  have hn : ¬ L - 4 < i := by omega
  obtain ⟨r, σ1, σ2, e1, e2, g⟩ : ∃ r σ1 σ2, ma_ev ro (d + 30) 65 [.ref 0, .int (xs (i + 1))] SH σ = some (some (.int r), SH, σ1) ∧ ma_ev ro (d + 30) 134 [.ref 90, .int (xs (i + 1))] SH σ1 = some (some (.int r), SH, σ2) ∧ G σ2 := C65 (d := d + 27) σ hG (xs (i + 1))
  refine ⟨σ2, g, ?_⟩
  rw [Sh178_18]
  simp (disch := first | assumption | omega | exact zb_fit | exact hbf .. | (simp (disch := omega) only [up_no, up_nk, up_at, u_cp_no] <;> (first | assumption | omega)) | (simp only [hkF] <;> omega) | decide) only [S178, r1, r2, h4, z_lt, hn, hc, e1, e2, eq_self_iff_true, z_eq, Nat.reduceEqDiff, hkF, z_add, z_mul, up_at, up_no, up_nk, u_cp_no, ma_bd, ↓reduceIte, if_true, if_false, Option.toList, List.nil_append, List.cons_append]
theorem LS8 {ro : ma_RO} {L : Nat} {xs : Nat → Int32} (hr : ro 2000000 = some (L, xs)) (hL : L ≤ 2048) {d : Nat} (σ : ma_H) (hG : G σ) (i : Nat) (hi : i + 4 ≤ L) (hc : xs i &&& nI 31 = nI 8) : ∃ σ', G σ' ∧ ma_rn ro (d + 31) 178 (18, [some (.ref 2000000), some (.ref 0), some (.ref 90), some (.int (nI i))], [], SH, σ) = ma_rn ro (d + 31) 178 (18, [some (.ref 2000000), some (.ref 0), some (.ref 90), some (.int (nI (i + 4)))], [], SH, σ') := by
  have r1 := fun v0 v1 v2 v3 st σ => R178l hr (d := d + 31) v0 v1 v2 v3 st σ
  have r2 := @R178 ro L xs hr (by omega)
  have h4 : nI L - nI 4 = nI (L - 4) := z_sub (by omega)
  have hn : ¬ L - 4 < i := by omega
  obtain ⟨r, σ1, σ2, e1, e2, g⟩ : ∃ r σ1 σ2, ma_ev ro (d + 30) 66 [.ref 0, .int (xs (i + 1)), .int (xs (i + 2))] SH σ = some (some (.int r), SH, σ1) ∧ ma_ev ro (d + 30) 135 [.ref 90, .int (xs (i + 1)), .int (xs (i + 2))] SH σ1 = some (some (.int r), SH, σ2) ∧ G σ2 := C66 (d := d + 27) σ hG (xs (i + 1)) (xs (i + 2))
  refine ⟨σ2, g, ?_⟩
  rw [Sh178_18]
  simp (disch := first | assumption | omega | exact zb_fit | exact hbf .. | (simp (disch := omega) only [up_no, up_nk, up_at, u_cp_no] <;> (first | assumption | omega)) | (simp only [hkF] <;> omega) | decide) only [S178, r1, r2, h4, z_lt, hn, hc, e1, e2, eq_self_iff_true, z_eq, Nat.reduceEqDiff, hkF, z_add, z_mul, up_at, up_no, up_nk, u_cp_no, ma_bd, ↓reduceIte, if_true, if_false, Option.toList, List.nil_append, List.cons_append]
theorem LS9 {ro : ma_RO} {L : Nat} {xs : Nat → Int32} (hr : ro 2000000 = some (L, xs)) (hL : L ≤ 2048) {d : Nat} (σ : ma_H) (hG : G σ) (i : Nat) (hi : i + 4 ≤ L) (hc : xs i &&& nI 31 = nI 9) : ∃ σ', G σ' ∧ ma_rn ro (d + 31) 178 (18, [some (.ref 2000000), some (.ref 0), some (.ref 90), some (.int (nI i))], [], SH, σ) = ma_rn ro (d + 31) 178 (18, [some (.ref 2000000), some (.ref 0), some (.ref 90), some (.int (nI (i + 4)))], [], SH, σ') := by
  have r1 := fun v0 v1 v2 v3 st σ => R178l hr (d := d + 31) v0 v1 v2 v3 st σ
  have r2 := @R178 ro L xs hr (by omega)
  have h4 : nI L - nI 4 = nI (L - 4) := z_sub (by omega)
  have hn : ¬ L - 4 < i := by omega
  obtain ⟨r, σ1, σ2, e1, e2, g⟩ : ∃ r σ1 σ2, ma_ev ro (d + 30) 67 [.ref 0, .int (xs (i + 1))] SH σ = some (some (.int r), SH, σ1) ∧ ma_ev ro (d + 30) 137 [.ref 90, .int (xs (i + 1))] SH σ1 = some (some (.int r), SH, σ2) ∧ G σ2 := C67 (d := d + 27) σ hG (xs (i + 1))
  refine ⟨σ2, g, ?_⟩
  rw [Sh178_18]
  simp (disch := first | assumption | omega | exact zb_fit | exact hbf .. | (simp (disch := omega) only [up_no, up_nk, up_at, u_cp_no] <;> (first | assumption | omega)) | (simp only [hkF] <;> omega) | decide) only [S178, r1, r2, h4, z_lt, hn, hc, e1, e2, eq_self_iff_true, z_eq, Nat.reduceEqDiff, hkF, z_add, z_mul, up_at, up_no, up_nk, u_cp_no, ma_bd, ↓reduceIte, if_true, if_false, Option.toList, List.nil_append, List.cons_append]
theorem LS10 {ro : ma_RO} {L : Nat} {xs : Nat → Int32} (hr : ro 2000000 = some (L, xs)) (hL : L ≤ 2048) {d : Nat} (σ : ma_H) (hG : G σ) (i : Nat) (hi : i + 4 ≤ L) (hc : xs i &&& nI 31 = nI 10) : ∃ σ', G σ' ∧ ma_rn ro (d + 31) 178 (18, [some (.ref 2000000), some (.ref 0), some (.ref 90), some (.int (nI i))], [], SH, σ) = ma_rn ro (d + 31) 178 (18, [some (.ref 2000000), some (.ref 0), some (.ref 90), some (.int (nI (i + 4)))], [], SH, σ') := by
  have r1 := fun v0 v1 v2 v3 st σ => R178l hr (d := d + 31) v0 v1 v2 v3 st σ
  have r2 := @R178 ro L xs hr (by omega)
  have h4 : nI L - nI 4 = nI (L - 4) := z_sub (by omega)
  have hn : ¬ L - 4 < i := by omega
  obtain ⟨r, σ1, σ2, e1, e2, g⟩ : ∃ r σ1 σ2, ma_ev ro (d + 30) 68 [.ref 0, .int (xs (i + 1))] SH σ = some (some (.int r), SH, σ1) ∧ ma_ev ro (d + 30) 142 [.ref 90, .int (xs (i + 1))] SH σ1 = some (some (.int r), SH, σ2) ∧ G σ2 := C68 (d := d + 23) σ hG (xs (i + 1))
  refine ⟨σ2, g, ?_⟩
  rw [Sh178_18]
  simp (disch := first | assumption | omega | exact zb_fit | exact hbf .. | (simp (disch := omega) only [up_no, up_nk, up_at, u_cp_no] <;> (first | assumption | omega)) | (simp only [hkF] <;> omega) | decide) only [S178, r1, r2, h4, z_lt, hn, hc, e1, e2, eq_self_iff_true, z_eq, Nat.reduceEqDiff, hkF, z_add, z_mul, up_at, up_no, up_nk, u_cp_no, ma_bd, ↓reduceIte, if_true, if_false, Option.toList, List.nil_append, List.cons_append]
theorem LS11 {ro : ma_RO} {L : Nat} {xs : Nat → Int32} (hr : ro 2000000 = some (L, xs)) (hL : L ≤ 2048) {d : Nat} (σ : ma_H) (hG : G σ) (i : Nat) (hi : i + 4 ≤ L) (hc : xs i &&& nI 31 = nI 11) : ∃ σ', G σ' ∧ ma_rn ro (d + 31) 178 (18, [some (.ref 2000000), some (.ref 0), some (.ref 90), some (.int (nI i))], [], SH, σ) = ma_rn ro (d + 31) 178 (18, [some (.ref 2000000), some (.ref 0), some (.ref 90), some (.int (nI (i + 4)))], [], SH, σ') := by
  have r1 := fun v0 v1 v2 v3 st σ => R178l hr (d := d + 31) v0 v1 v2 v3 st σ
  have r2 := @R178 ro L xs hr (by omega)
  have h4 : nI L - nI 4 = nI (L - 4) := z_sub (by omega)
  have hn : ¬ L - 4 < i := by omega
  obtain ⟨r, σ1, σ2, e1, e2, g⟩ : ∃ r σ1 σ2, ma_ev ro (d + 30) 69 [.ref 0, .int (xs (i + 1)), .int (xs (i + 2))] SH σ = some (some (.int r), SH, σ1) ∧ ma_ev ro (d + 30) 143 [.ref 90, .int (xs (i + 1)), .int (xs (i + 2))] SH σ1 = some (some (.int r), SH, σ2) ∧ G σ2 := C69 (d := d + 23) σ hG (xs (i + 1)) (xs (i + 2))
  refine ⟨σ2, g, ?_⟩
  rw [Sh178_18]
  simp (disch := first | assumption | omega | exact zb_fit | exact hbf .. | (simp (disch := omega) only [up_no, up_nk, up_at, u_cp_no] <;> (first | assumption | omega)) | (simp only [hkF] <;> omega) | decide) only [S178, r1, r2, h4, z_lt, hn, hc, e1, e2, eq_self_iff_true, z_eq, Nat.reduceEqDiff, hkF, z_add, z_mul, up_at, up_no, up_nk, u_cp_no, ma_bd, ↓reduceIte, if_true, if_false, Option.toList, List.nil_append, List.cons_append]
theorem LS12 {ro : ma_RO} {L : Nat} {xs : Nat → Int32} (hr : ro 2000000 = some (L, xs)) (hL : L ≤ 2048) {d : Nat} (σ : ma_H) (hG : G σ) (i : Nat) (hi : i + 4 ≤ L) (hc : xs i &&& nI 31 = nI 12) : ∃ σ', G σ' ∧ ma_rn ro (d + 31) 178 (18, [some (.ref 2000000), some (.ref 0), some (.ref 90), some (.int (nI i))], [], SH, σ) = ma_rn ro (d + 31) 178 (18, [some (.ref 2000000), some (.ref 0), some (.ref 90), some (.int (nI (i + 4)))], [], SH, σ') := by
  have r1 := fun v0 v1 v2 v3 st σ => R178l hr (d := d + 31) v0 v1 v2 v3 st σ
  have r2 := @R178 ro L xs hr (by omega)
  have h4 : nI L - nI 4 = nI (L - 4) := z_sub (by omega)
  have hn : ¬ L - 4 < i := by omega
  obtain ⟨r, σ1, σ2, e1, e2, g⟩ : ∃ r σ1 σ2, ma_ev ro (d + 30) 70 [.ref 0, .int (xs (i + 1)), .int (xs (i + 2))] SH σ = some (some (.int r), SH, σ1) ∧ ma_ev ro (d + 30) 146 [.ref 90, .int (xs (i + 1)), .int (xs (i + 2))] SH σ1 = some (some (.int r), SH, σ2) ∧ G σ2 := C70 (d := d + 26) σ hG (xs (i + 1)) (xs (i + 2))
  refine ⟨σ2, g, ?_⟩
  rw [Sh178_18]
  simp (disch := first | assumption | omega | exact zb_fit | exact hbf .. | (simp (disch := omega) only [up_no, up_nk, up_at, u_cp_no] <;> (first | assumption | omega)) | (simp only [hkF] <;> omega) | decide) only [S178, r1, r2, h4, z_lt, hn, hc, e1, e2, eq_self_iff_true, z_eq, Nat.reduceEqDiff, hkF, z_add, z_mul, up_at, up_no, up_nk, u_cp_no, ma_bd, ↓reduceIte, if_true, if_false, Option.toList, List.nil_append, List.cons_append]
theorem LS13 {ro : ma_RO} {L : Nat} {xs : Nat → Int32} (hr : ro 2000000 = some (L, xs)) (hL : L ≤ 2048) {d : Nat} (σ : ma_H) (hG : G σ) (i : Nat) (hi : i + 4 ≤ L) (hc : xs i &&& nI 31 = nI 13) : ∃ σ', G σ' ∧ ma_rn ro (d + 31) 178 (18, [some (.ref 2000000), some (.ref 0), some (.ref 90), some (.int (nI i))], [], SH, σ) = ma_rn ro (d + 31) 178 (18, [some (.ref 2000000), some (.ref 0), some (.ref 90), some (.int (nI (i + 4)))], [], SH, σ') := by
  have r1 := fun v0 v1 v2 v3 st σ => R178l hr (d := d + 31) v0 v1 v2 v3 st σ
  have r2 := @R178 ro L xs hr (by omega)
  have h4 : nI L - nI 4 = nI (L - 4) := z_sub (by omega)
  have hn : ¬ L - 4 < i := by omega
  obtain ⟨r, σ1, σ2, e1, e2, g⟩ : ∃ r σ1 σ2, ma_ev ro (d + 30) 71 [.ref 0, .int (xs (i + 1)), .int (xs (i + 2)), .int (xs (i + 3))] SH σ = some (some (.int r), SH, σ1) ∧ ma_ev ro (d + 30) 149 [.ref 90, .int (xs (i + 1)), .int (xs (i + 2)), .int (xs (i + 3))] SH σ1 = some (some (.int r), SH, σ2) ∧ G σ2 := C71 (d := d + 22) σ hG (xs (i + 1)) (xs (i + 2)) (xs (i + 3))
  refine ⟨σ2, g, ?_⟩
  rw [Sh178_18]
  simp (disch := first | assumption | omega | exact zb_fit | exact hbf .. | (simp (disch := omega) only [up_no, up_nk, up_at, u_cp_no] <;> (first | assumption | omega)) | (simp only [hkF] <;> omega) | decide) only [S178, r1, r2, h4, z_lt, hn, hc, e1, e2, eq_self_iff_true, z_eq, Nat.reduceEqDiff, hkF, z_add, z_mul, up_at, up_no, up_nk, u_cp_no, ma_bd, ↓reduceIte, if_true, if_false, Option.toList, List.nil_append, List.cons_append]
theorem LS14 {ro : ma_RO} {L : Nat} {xs : Nat → Int32} (hr : ro 2000000 = some (L, xs)) (hL : L ≤ 2048) {d : Nat} (σ : ma_H) (hG : G σ) (i : Nat) (hi : i + 4 ≤ L) (hc : xs i &&& nI 31 = nI 14) : ∃ σ', G σ' ∧ ma_rn ro (d + 31) 178 (18, [some (.ref 2000000), some (.ref 0), some (.ref 90), some (.int (nI i))], [], SH, σ) = ma_rn ro (d + 31) 178 (18, [some (.ref 2000000), some (.ref 0), some (.ref 90), some (.int (nI (i + 4)))], [], SH, σ') := by
  have r1 := fun v0 v1 v2 v3 st σ => R178l hr (d := d + 31) v0 v1 v2 v3 st σ
  have r2 := @R178 ro L xs hr (by omega)
  have h4 : nI L - nI 4 = nI (L - 4) := z_sub (by omega)
  have hn : ¬ L - 4 < i := by omega
  by_cases hz : xs (i + 3) = nI 0
  · obtain ⟨r, σ1, σ2, e1, e2, g⟩ : ∃ r σ1 σ2, ma_ev ro (d + 30) 72 [.ref 0, .int (xs (i + 1)), .int (xs (i + 2)), .int (nI 0)] SH σ = some (some (.int r), SH, σ1) ∧ ma_ev ro (d + 30) 150 [.ref 90, .int (xs (i + 1)), .int (xs (i + 2)), .int (nI 0)] SH σ1 = some (some (.int r), SH, σ2) ∧ G σ2 := C72 (d := d + 27) σ hG (xs (i + 1)) (xs (i + 2)) (nI 0) ⟨0, by decide, rfl⟩
    refine ⟨σ2, g, ?_⟩
    rw [Sh178_18]
    simp (disch := first | assumption | omega | exact zb_fit | exact hbf .. | (simp (disch := omega) only [up_no, up_nk, up_at, u_cp_no] <;> (first | assumption | omega)) | (simp only [hkF] <;> omega) | decide) only [S178, r1, r2, h4, z_lt, hn, hc, e1, e2, hz, eq_self_iff_true, z_eq, Nat.reduceEqDiff, hkF, z_add, z_mul, up_at, up_no, up_nk, u_cp_no, ma_bd, ↓reduceIte, if_true, if_false, Option.toList, List.nil_append, List.cons_append]
  · obtain ⟨r, σ1, σ2, e1, e2, g⟩ : ∃ r σ1 σ2, ma_ev ro (d + 30) 72 [.ref 0, .int (xs (i + 1)), .int (xs (i + 2)), .int (nI 1)] SH σ = some (some (.int r), SH, σ1) ∧ ma_ev ro (d + 30) 150 [.ref 90, .int (xs (i + 1)), .int (xs (i + 2)), .int (nI 1)] SH σ1 = some (some (.int r), SH, σ2) ∧ G σ2 := C72 (d := d + 27) σ hG (xs (i + 1)) (xs (i + 2)) (nI 1) ⟨1, by decide, rfl⟩
    refine ⟨σ2, g, ?_⟩
    rw [Sh178_18]
    simp (disch := first | assumption | omega | exact zb_fit | exact hbf .. | (simp (disch := omega) only [up_no, up_nk, up_at, u_cp_no] <;> (first | assumption | omega)) | (simp only [hkF] <;> omega) | decide) only [S178, r1, r2, h4, z_lt, hn, hc, e1, e2, hz, eq_self_iff_true, z_eq, Nat.reduceEqDiff, hkF, z_add, z_mul, up_at, up_no, up_nk, u_cp_no, ma_bd, ↓reduceIte, if_true, if_false, Option.toList, List.nil_append, List.cons_append]

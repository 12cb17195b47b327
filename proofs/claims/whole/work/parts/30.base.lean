/-! Facts of the cells; numbers; updates of the heap; the loop row. -/
theorem hkF : hk_cls 0 = 7 ∧ hk_cls 1 = 5 ∧ hk_cls 2 = 6 ∧ hk_qlen 3 = 6 ∧ hk_alen 3 = 6 ∧ hk_cls 4 = 1 ∧ hk_len 5 = 4 ∧ hk_alen 5 = 4 ∧ hk_cls 6 = 1 ∧ hk_len 7 = 4 ∧ hk_alen 7 = 4 ∧ hk_cls 8 = 1 ∧ hk_len 9 = 4 ∧ hk_alen 9 = 4 ∧ hk_cls 10 = 1 ∧ hk_len 11 = 4 ∧ hk_alen 11 = 4 ∧ hk_cls 12 = 1 ∧ hk_len 13 = 4 ∧ hk_alen 13 = 4 ∧ hk_cls 14 = 1 ∧ hk_len 15 = 4 ∧ hk_alen 15 = 4 ∧ hk_cls 16 = 2 ∧ hk_len 17 = 10 ∧ hk_alen 17 = 10 ∧ hk_len 18 = 10 ∧ hk_alen 18 = 10 ∧ hk_len 19 = 100 ∧ hk_alen 19 = 100 ∧ hk_len 20 = 100 ∧ hk_alen 20 = 100 ∧ hk_cls 21 = 4 ∧ hk_len 22 = 5 ∧ hk_alen 22 = 5 ∧ hk_len 23 = 5 ∧ hk_alen 23 = 5 ∧ hk_zlen 24 = 5 ∧ hk_alen 24 = 5 ∧ hk_cls 25 = 4 ∧ hk_len 26 = 8 ∧ hk_alen 26 = 8 ∧ hk_len 27 = 8 ∧ hk_alen 27 = 8 ∧ hk_zlen 28 = 8 ∧ hk_alen 28 = 8 ∧ hk_cls 29 = 4 ∧ hk_len 30 = 8 ∧ hk_alen 30 = 8 ∧ hk_len 31 = 8 ∧ hk_alen 31 = 8 ∧ hk_zlen 32 = 8 ∧ hk_alen 32 = 8 ∧ hk_cls 33 = 5 ∧ hk_cls 34 = 6 ∧ hk_qlen 35 = 6 ∧ hk_alen 35 = 6 ∧ hk_cls 36 = 1 ∧ hk_len 37 = 4 ∧ hk_alen 37 = 4 ∧ hk_cls 38 = 1 ∧ hk_len 39 = 4 ∧ hk_alen 39 = 4 ∧ hk_cls 40 = 1 ∧ hk_len 41 = 4 ∧ hk_alen 41 = 4 ∧ hk_cls 42 = 1 ∧ hk_len 43 = 4 ∧ hk_alen 43 = 4 ∧ hk_cls 44 = 1 ∧ hk_len 45 = 4 ∧ hk_alen 45 = 4 ∧ hk_cls 46 = 1 ∧ hk_len 47 = 4 ∧ hk_alen 47 = 4 ∧ hk_cls 48 = 2 ∧ hk_len 49 = 10 ∧ hk_alen 49 = 10 ∧ hk_len 50 = 10 ∧ hk_alen 50 = 10 ∧ hk_len 51 = 100 ∧ hk_alen 51 = 100 ∧ hk_len 52 = 100 ∧ hk_alen 52 = 100 ∧ hk_cls 53 = 4 ∧ hk_len 54 = 5 ∧ hk_alen 54 = 5 ∧ hk_len 55 = 5 ∧ hk_alen 55 = 5 ∧ hk_zlen 56 = 5 ∧ hk_alen 56 = 5 ∧ hk_cls 57 = 4 ∧ hk_len 58 = 8 ∧ hk_alen 58 = 8 ∧ hk_len 59 = 8 ∧ hk_alen 59 = 8 ∧ hk_zlen 60 = 8 ∧ hk_alen 60 = 8 ∧ hk_cls 61 = 4 ∧ hk_len 62 = 8 ∧ hk_alen 62 = 8 ∧ hk_len 63 = 8 ∧ hk_alen 63 = 8 ∧ hk_zlen 64 = 8 ∧ hk_alen 64 = 8 ∧ hk_cls 65 = 2 ∧ hk_len 66 = 10 ∧ hk_alen 66 = 10 ∧ hk_len 67 = 10 ∧ hk_alen 67 = 10 ∧ hk_len 68 = 100 ∧ hk_alen 68 = 100 ∧ hk_cls 69 = 3 ∧ hk_cls 70 = 6 ∧ hk_qlen 71 = 6 ∧ hk_alen 71 = 6 ∧ hk_cls 72 = 1 ∧ hk_len 73 = 4 ∧ hk_alen 73 = 4 ∧ hk_cls 74 = 1 ∧ hk_len 75 = 4 ∧ hk_alen 75 = 4 ∧ hk_cls 76 = 1 ∧ hk_len 77 = 4 ∧ hk_alen 77 = 4 ∧ hk_cls 78 = 1 ∧ hk_len 79 = 4 ∧ hk_alen 79 = 4 ∧ hk_cls 80 = 1 ∧ hk_len 81 = 4 ∧ hk_alen 81 = 4 ∧ hk_cls 82 = 1 ∧ hk_len 83 = 4 ∧ hk_alen 83 = 4 ∧ hk_cls 84 = 1 ∧ hk_len 85 = 4 ∧ hk_alen 85 = 4 ∧ hk_cls 86 = 0 ∧ hk_len 87 = 20 ∧ hk_alen 87 = 20 ∧ hk_len 88 = 10 ∧ hk_alen 88 = 10 ∧ hk_len 89 = 10 ∧ hk_alen 89 = 10 ∧ hk_cls 90 = 8 ∧ hk_len 91 = 933 ∧ hk_alen 91 = 933 ∧ hk_len 92 = 933 ∧ hk_alen 92 = 933 ∧ hk_len 93 = 33 ∧ hk_alen 93 = 33 ∧ hk_len 94 = 6 ∧ hk_alen 94 = 6 ∧ hk_zlen 95 = 64 ∧ hk_alen 95 = 64 ∧ hk_len 96 = 20 ∧ hk_alen 96 = 20 := ⟨rfl, rfl, rfl, rfl, rfl, rfl, rfl, rfl, rfl, rfl, rfl, rfl, rfl, rfl, rfl, rfl, rfl, rfl, rfl, rfl, rfl, rfl, rfl, rfl, rfl, rfl, rfl, rfl, rfl, rfl, rfl, rfl, rfl, rfl, rfl, rfl, rfl, rfl, rfl, rfl, rfl, rfl, rfl, rfl, rfl, rfl, rfl, rfl, rfl, rfl, rfl, rfl, rfl, rfl, rfl, rfl, rfl, rfl, rfl, rfl, rfl, rfl, rfl, rfl, rfl, rfl, rfl, rfl, rfl, rfl, rfl, rfl, rfl, rfl, rfl, rfl, rfl, rfl, rfl, rfl, rfl, rfl, rfl, rfl, rfl, rfl, rfl, rfl, rfl, rfl, rfl, rfl, rfl, rfl, rfl, rfl, rfl, rfl, rfl, rfl, rfl, rfl, rfl, rfl, rfl, rfl, rfl, rfl, rfl, rfl, rfl, rfl, rfl, rfl, rfl, rfl, rfl, rfl, rfl, rfl, rfl, rfl, rfl, rfl, rfl, rfl, rfl, rfl, rfl, rfl, rfl, rfl, rfl, rfl, rfl, rfl, rfl, rfl, rfl, rfl, rfl, rfl, rfl, rfl, rfl, rfl, rfl, rfl, rfl, rfl, rfl, rfl, rfl, rfl, rfl, rfl, rfl⟩
theorem hkD : ∀ p, p < 6 → hk_cls (4 + 2 * p) = 1 ∧ hk_len (4 + 2 * p + 1) = 4 ∧ hk_cls (36 + 2 * p) = 1 ∧ hk_len (36 + 2 * p + 1) = 4 ∧ hk_cls (72 + 2 * p) = 1 ∧ hk_len (72 + 2 * p + 1) = 4 ∧ hk_alen (4 + 2 * p + 1) = 4 ∧ hk_alen (36 + 2 * p + 1) = 4 ∧ hk_alen (72 + 2 * p + 1) = 4 := by decide +kernel
theorem z_add (a b : Nat) : nI a + nI b = nI (a + b) := by
  show Int32.ofNat a + Int32.ofNat b = Int32.ofNat (a + b); exact (Int32.ofNat_add a b).symm
theorem z_mul (a b : Nat) : nI a * nI b = nI (a * b) := by
  show Int32.ofNat a * Int32.ofNat b = Int32.ofNat (a * b); exact (Int32.ofNat_mul a b).symm
theorem z_lt {a b : Nat} (ha : a < 2 ^ 31) (hb : b < 2 ^ 31) : (nI a < nI b) = (a < b) := by
  rw [Int32.lt_iff_toInt_lt, nI_toInt ha, nI_toInt hb]; simp
theorem z_eq {a b : Nat} (ha : a < 2 ^ 31) (hb : b < 2 ^ 31) : (nI a = nI b) = (a = b) := by
  rw [← Int32.toInt_inj, nI_toInt ha, nI_toInt hb]; simp; omega
theorem z_sub {a b : Nat} (h : b ≤ a) : nI a - nI b = nI (a - b) := by
  have e : nI (a - b) + nI b = nI a := by rw [z_add]; congr 1; omega
  rw [← e, Int32.add_sub_cancel]
theorem up_at (σ : ma_H) (o k : Nat) (v : Int32) : ma_up σ o k v o k = v := if_pos ⟨rfl, rfl⟩
theorem up_no {σ : ma_H} {o k o' : Nat} {v : Int32} (h : ¬ o' = o) : ma_up σ o k v o' = σ o' := by
  funext k'; exact if_neg (fun e => h e.1)
theorem up_nk {σ : ma_H} {o k k' : Nat} {v : Int32} (h : ¬ k' = k) : ma_up σ o k v o k' = σ o k' := if_neg (fun e => h e.2)
theorem ma_loop {α : Type} (A : Nat → α) (n : Nat) (h : ∀ k, k < n → A k = A (k + 1)) : A 0 = A n := by
  induction n with
  | zero => rfl
  | succ n ih => rw [ih (fun k hk => h k (by omega)), h n (by omega)]
/-- the heap with the first n slots of a copied from b -/
def u_cp (σ : ma_H) (a b n : Nat) : ma_H := fun o k => if o = a ∧ k < n then σ b k else σ o k
theorem u_cp0 (σ : ma_H) (a b : Nat) : u_cp σ a b 0 = σ := by funext o k; simp [u_cp]
theorem u_cpS (σ : ma_H) (a b n : Nat) (h : ¬ a = b) : ma_up (u_cp σ a b n) a n (σ b n) = u_cp σ a b (n + 1) := by
  have h' : ¬ b = a := fun e => h e.symm
  funext o k; simp only [ma_up, u_cp]
  by_cases h1 : o = a
  · subst h1
    by_cases h2 : k = n
    · subst h2; simp [h']
    · by_cases h3 : k < n
      · simp [h2, h3, show k < n + 1 by omega]
      · simp [h2, h3, show ¬ k < n + 1 by omega]
  · simp [h1]
theorem u_cp_no {σ : ma_H} {a b n o : Nat} (h : ¬ o = a) : u_cp σ a b n o = σ o := by funext k; simp [u_cp, h]
/-- a truth as an int -/
def zb (p : Prop) [Decidable p] : Int32 := if p then nI 1 else nI 0
theorem zb_t {p : Prop} [Decidable p] (h : p) : zb p = nI 1 := if_pos h
theorem zb_f {p : Prop} [Decidable p] (h : ¬ p) : zb p = nI 0 := if_neg h
theorem zb_fit {p : Prop} [Decidable p] : ma_fitI .boolean (zb p) = true := by
  by_cases h : p
  · rw [zb_t h]; decide
  · rw [zb_f h]; decide
theorem zb_0 {p : Prop} [Decidable p] : (zb p = nI 0) = ¬ p := by
  by_cases h : p
  · rw [zb_t h]; simp [h]; decide
  · rw [zb_f h]; simp [h]
theorem ma_bd {α β : Type} (x : α) (f : α → Option β) : (some x).bind f = f x := rfl

/-! Which mornings to renew: backwards by the mark, or by trying all sets; pure. -/
def bitN (s k : Nat) : Nat := s / 2 ^ k % 2
def Wp (ok : Nat → Nat → Bool) (nx : Nat → Nat → Nat) (k : Nat) (B : Nat → Nat) (u : Nat) : Nat := if ok k u = true then B (nx k u) else 1048576
def BB (ok : Nat → Nat → Bool) (nx : Nat → Nat → Nat) (n : Nat) : Nat → (Nat → Nat)
  | 0 => fun _ => 0
  | m + 1 => fun u => min (Wp ok nx (n - 1 - m) (BB ok nx n m) u) (Wp ok nx (n - 1 - m) (BB ok nx n m) 9 + 256 + 2 ^ (n - 1 - m))
def fs (ok : Nat → Nat → Bool) (nx : Nat → Nat → Nat) (s : Nat) : Nat → Nat → Nat → Bool
  | _, _, 0 => true
  | k, u, m + 1 => ok k (if bitN s k = 1 then 9 else u) && fs ok nx s (k + 1) (nx k (if bitN s k = 1 then 9 else u)) m
def costN (s : Nat) : Nat → Nat → Nat
  | _, 0 => 0
  | k, m + 1 => (if bitN s k = 1 then 256 + 2 ^ k else 0) + costN s (k + 1) m
def cnt8 (s : Nat) : Nat := bitN s 0 + bitN s 1 + bitN s 2 + bitN s 3 + bitN s 4 + bitN s 5 + bitN s 6 + bitN s 7
theorem cost_cnt : ∀ n, n ≤ 8 → ∀ s, s < 2 ^ n → costN s 0 n = 256 * cnt8 s + s := by decide +kernel
theorem BB_le (ok : Nat → Nat → Bool) (nx : Nat → Nat → Nat) (n : Nat) : ∀ m u, BB ok nx n m u ≤ 1048576 := by
  intro m
  induction m with
  | zero => intro u; exact Nat.zero_le _
  | succ m ih =>
    intro u
    refine Nat.le_trans (Nat.min_le_left _ _) ?_
    unfold Wp
    split
    · exact ih _
    · exact Nat.le_refl _
theorem fs_congr (ok : Nat → Nat → Bool) (nx : Nat → Nat → Nat) (s s' : Nat) : ∀ m k u, (∀ i, k ≤ i → i < k + m → bitN s i = bitN s' i) → fs ok nx s k u m = fs ok nx s' k u m := by
  intro m
  induction m with
  | zero => intro k u h; rfl
  | succ m ih =>
    intro k u h
    unfold fs
    rw [h k (by omega) (by omega), ih (k + 1) _ (fun i h1 h2 => h i (by omega) (by omega))]
theorem cost_congr (s s' : Nat) : ∀ m k, (∀ i, k ≤ i → i < k + m → bitN s i = bitN s' i) → costN s k m = costN s' k m := by
  intro m
  induction m with
  | zero => intro k h; rfl
  | succ m ih =>
    intro k h
    unfold costN
    rw [h k (by omega) (by omega), ih (k + 1) (fun i h1 h2 => h i (by omega) (by omega))]
theorem BB_low (ok : Nat → Nat → Bool) (nx : Nat → Nat → Nat) (n : Nat) : ∀ m k u s, k + m = n → fs ok nx s k u m = true → BB ok nx n m u ≤ costN s k m := by
  intro m
  induction m with
  | zero => intro k u s _ _; exact Nat.zero_le _
  | succ m ih =>
    intro k u s hk hf
    have ek : n - 1 - m = k := by omega
    unfold fs at hf
    rw [Bool.and_eq_true] at hf
    obtain ⟨f1, f2⟩ := hf
    have := ih (k + 1) _ s (by omega) f2
    unfold BB costN
    rw [ek]
    by_cases hb : bitN s k = 1
    · rw [if_pos hb] at f1 this
      rw [if_pos hb]
      refine Nat.le_trans (Nat.min_le_right _ _) ?_
      unfold Wp
      rw [if_pos f1]
      omega
    · rw [if_neg hb] at f1 this
      rw [if_neg hb]
      refine Nat.le_trans (Nat.min_le_left _ _) ?_
      unfold Wp
      rw [if_pos f1]
      omega
theorem bit_fact : ∀ k, k < 8 → ∀ t, t < 128 → bitN (t * 2 ^ (k + 1)) k = 0 ∧ bitN (t * 2 ^ (k + 1) + 2 ^ k) k = 1 ∧ ∀ i, i < 8 → k < i → bitN (t * 2 ^ (k + 1) + 2 ^ k) i = bitN (t * 2 ^ (k + 1)) i := by decide +kernel
theorem BB_got (ok : Nat → Nat → Bool) (nx : Nat → Nat → Nat) (n : Nat) (hn : n ≤ 8) : ∀ m k u, k + m = n → BB ok nx n m u < 1048576 → ∃ t, t * 2 ^ k < 2 ^ n ∧ fs ok nx (t * 2 ^ k) k u m = true ∧ costN (t * 2 ^ k) k m = BB ok nx n m u := by
  intro m
  induction m with
  | zero => intro k u hk _; exact ⟨0, by rw [Nat.zero_mul]; exact Nat.two_pow_pos n, rfl, rfl⟩
  | succ m ih =>
    intro k u hk hB
    have ek : n - 1 - m = k := by omega
    have hk8 : k < 8 := by omega
    have h2n : 2 ^ n ≤ 256 := by
      have : 2 ^ n ≤ 2 ^ 8 := Nat.pow_le_pow_right (by decide) hn
      omega
    have p1 : 2 ^ (k + 1) = 2 * 2 ^ k := by rw [Nat.pow_succ, Nat.mul_comm]
    have pk : 0 < 2 ^ k := Nat.two_pow_pos k
    have t128 : ∀ t, t * 2 ^ (k + 1) < 2 ^ n → t < 128 := by
      intro t ht
      have : t * 2 ≤ t * 2 ^ (k + 1) := Nat.mul_le_mul_left t (by omega)
      omega
    have hBe : BB ok nx n (m + 1) u = min (Wp ok nx k (BB ok nx n m) u) (Wp ok nx k (BB ok nx n m) 9 + 256 + 2 ^ k) := by rw [← ek]; rfl
    rw [hBe] at hB ⊢
    by_cases hle : Wp ok nx k (BB ok nx n m) u ≤ Wp ok nx k (BB ok nx n m) 9 + 256 + 2 ^ k
    · rw [Nat.min_eq_left hle] at hB ⊢
      have hok : ok k u = true := by
        by_cases h : ok k u = true
        · exact h
        · unfold Wp at hB; rw [if_neg h] at hB; omega
      unfold Wp at hB ⊢
      rw [if_pos hok] at hB ⊢
      obtain ⟨t, g1, g2, g3⟩ := ih (k + 1) (nx k u) (by omega) hB
      obtain ⟨b0, -, -⟩ := bit_fact k hk8 t (t128 t g1)
      refine ⟨t * 2, ?_, ?_, ?_⟩
      · rw [Nat.mul_assoc, ← p1]; exact g1
      · rw [Nat.mul_assoc, ← p1]
        unfold fs
        rw [b0, if_neg (by decide), hok, g2]
        rfl
      · rw [Nat.mul_assoc, ← p1]
        unfold costN
        rw [b0, if_neg (by decide), g3, Nat.zero_add]
    · rw [Nat.min_eq_right (by omega)] at hB ⊢
      have hok : ok k 9 = true := by
        by_cases h : ok k 9 = true
        · exact h
        · unfold Wp at hB; rw [if_neg h] at hB; omega
      have hw : Wp ok nx k (BB ok nx n m) 9 = BB ok nx n m (nx k 9) := by unfold Wp; rw [if_pos hok]
      rw [hw] at hB ⊢
      obtain ⟨t, g1, g2, g3⟩ := ih (k + 1) (nx k 9) (by omega) (by omega)
      obtain ⟨-, b1, b2⟩ := bit_fact k hk8 t (t128 t g1)
      have e : (t * 2 + 1) * 2 ^ k = t * 2 ^ (k + 1) + 2 ^ k := by rw [Nat.add_mul, Nat.mul_assoc, ← p1, Nat.one_mul]
      refine ⟨t * 2 + 1, ?_, ?_, ?_⟩
      · rw [e]
        -- a multiple of 2^(k+1) below 2^n leaves room for 2^k
        have hd : 2 ^ n = 2 ^ (k + 1) * 2 ^ m := by rw [← Nat.pow_add]; congr 1; omega
        have : t < 2 ^ m := by
          rw [hd, Nat.mul_comm] at g1
          exact Nat.lt_of_mul_lt_mul_left g1
        have h3 : (t + 1) * 2 ^ (k + 1) ≤ 2 ^ m * 2 ^ (k + 1) := Nat.mul_le_mul_right _ this
        rw [hd, Nat.mul_comm (2 ^ (k + 1))]
        rw [Nat.add_mul, Nat.one_mul] at h3
        omega
      · rw [e]
        unfold fs
        rw [b1, if_pos rfl, hok, fs_congr ok nx _ _ m (k + 1) _ (fun i h1 h2 => b2 i (by omega) (by omega)), g2]
        rfl
      · rw [e]
        unfold costN
        rw [b1, if_pos rfl, cost_congr _ _ m (k + 1) (fun i h1 h2 => b2 i (by omega) (by omega)), g3]
        omega
def rb (f : Nat → Bool) : Nat → Option Nat
  | 0 => none
  | k + 1 => match rb f k with
    | none => if f k = true then some k else none
    | some b => if cnt8 k < cnt8 b ∧ f k = true then some k else some b
theorem rb_spec (f : Nat → Bool) : ∀ K, (rb f K = none → ∀ s, s < K → ¬ f s = true) ∧ (∀ b, rb f K = some b → b < K ∧ f b = true ∧ ∀ s, s < K → f s = true → cnt8 b < cnt8 s ∨ (cnt8 b = cnt8 s ∧ b ≤ s)) := by
  intro K
  induction K with
  | zero => exact ⟨fun _ s hs => by omega, fun b hb => by cases hb⟩
  | succ K ih =>
    obtain ⟨i1, i2⟩ := ih
    unfold rb
    cases hK : rb f K with
    | none =>
      dsimp only
      by_cases hf : f K = true
      · rw [if_pos hf]
        refine ⟨fun h => (by cases h), fun b hb => ?_⟩
        cases hb
        refine ⟨by omega, hf, fun s hs hfs => ?_⟩
        by_cases hsK : s = K
        · subst hsK; exact .inr ⟨rfl, Nat.le_refl _⟩
        · exact absurd hfs (i1 hK s (by omega))
      · rw [if_neg hf]
        refine ⟨fun _ s hs => ?_, fun b hb => by cases hb⟩
        by_cases hsK : s = K
        · subst hsK; exact hf
        · exact i1 hK s (by omega)
    | some b =>
      dsimp only
      obtain ⟨j1, j2, j3⟩ := i2 b hK
      by_cases hc : cnt8 K < cnt8 b ∧ f K = true
      · rw [if_pos hc]
        refine ⟨fun h => (by cases h), fun b' hb => ?_⟩
        cases hb
        refine ⟨by omega, hc.2, fun s hs hfs => ?_⟩
        by_cases hsK : s = K
        · subst hsK; exact .inr ⟨rfl, Nat.le_refl _⟩
        · rcases j3 s (by omega) hfs with h | h
          · exact .inl (by omega)
          · exact .inl (by omega)
      · rw [if_neg hc]
        refine ⟨fun h => (by cases h), fun b' hb => ?_⟩
        cases hb
        refine ⟨by omega, j2, fun s hs hfs => ?_⟩
        by_cases hsK : s = K
        · subst hsK
          by_cases hlt : cnt8 s < cnt8 b
          · exact absurd ⟨hlt, hfs⟩ hc
          · by_cases he : cnt8 b = cnt8 s
            · exact .inr ⟨he, by omega⟩
            · exact .inl (by omega)
        · exact j3 s (by omega) hfs
theorem cnt8_le (s : Nat) : cnt8 s ≤ 8 := by
  have h : ∀ k, bitN s k ≤ 1 := fun k => by unfold bitN; omega
  have h0 := h 0; have h1 := h 1; have h2 := h 2; have h3 := h 3; have h4 := h 4; have h5 := h 5; have h6 := h 6; have h7 := h 7
  unfold cnt8
  omega
/-- both ways give the same plan -/
theorem renew_eq (ok : Nat → Nat → Bool) (nx : Nat → Nat → Nat) (n u : Nat) (hn : n ≤ 8) :
    (if 1048576 ≤ BB ok nx n n u then none else some (BB ok nx n n u % 256)) = rb (fun s => fs ok nx s 0 u n) (2 ^ n) := by
  have h2n : 2 ^ n ≤ 256 := by
    have : 2 ^ n ≤ 2 ^ 8 := Nat.pow_le_pow_right (by decide) hn
    omega
  obtain ⟨r1, r2⟩ := rb_spec (fun s => fs ok nx s 0 u n) (2 ^ n)
  have low : ∀ s, s < 2 ^ n → fs ok nx s 0 u n = true → BB ok nx n n u ≤ 256 * cnt8 s + s := fun s hs hf => by
    rw [← cost_cnt n hn s hs]; exact BB_low ok nx n n 0 u s (by omega) hf
  by_cases hB : 1048576 ≤ BB ok nx n n u
  · rw [if_pos hB]
    cases hr : rb (fun s => fs ok nx s 0 u n) (2 ^ n) with
    | none => rfl
    | some b =>
      obtain ⟨j1, j2, -⟩ := r2 b hr
      have := low b j1 j2
      have := cnt8_le b
      omega
  · rw [if_neg hB]
    obtain ⟨t, g1, g2, g3⟩ := BB_got ok nx n hn n 0 u (by omega) (by omega)
    rw [Nat.pow_zero, Nat.mul_one] at g1 g2 g3
    rw [cost_cnt n hn t g1] at g3
    cases hr : rb (fun s => fs ok nx s 0 u n) (2 ^ n) with
    | none => exact absurd g2 (r1 hr t g1)
    | some b =>
      obtain ⟨j1, j2, j3⟩ := r2 b hr
      have hl := low b j1 j2
      have hb := j3 t g1 g2
      have : b = t := by omega
      subst this
      congr 1
      omega

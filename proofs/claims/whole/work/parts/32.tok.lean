/-! Tokens of a house: (w, how, v); w < 6 a test, 6 not, 7 both, 8 either; mc its number in the reference, xc in the class. -/
def mc (t : Nat × Nat × Nat) : Int32 := if t.1 < 6 then nI (t.1 + 8 * t.2.1 + 32 * t.2.2) else if t.1 = 6 then -1 else if t.1 = 7 then -2 else -3
def xc (t : Nat × Nat × Nat) : Int32 := if t.1 < 6 then nI (t.1 + 16 * t.2.1 + 256 * t.2.2) else nI t.1
def tkOk (t : Nat × Nat × Nat) : Prop := t.1 < 9 ∧ t.2.1 < 3 ∧ t.2.2 < 100
theorem xc_f0 : ∀ w, w < 6 → ∀ h, h < 3 → ∀ v, v < 100 → (nI (w + 16 * h + 256 * v) >>> (nI 4 &&& 31)) &&& nI 15 = nI h := by decide +kernel
theorem xc_f1 : ∀ w, w < 6 → ∀ h, h < 3 → ∀ v, v < 100 → nI (w + 16 * h + 256 * v) >>> (nI 8 &&& 31) = nI v := by decide +kernel
theorem xc_f2 : ∀ w, w < 6 → ∀ h, h < 3 → ∀ v, v < 100 → nI (w + 16 * h + 256 * v) &&& nI 15 = nI w := by decide +kernel
theorem xc_f3 : ∀ w, w < 6 → ∀ h, h < 3 → ∀ v, v < 100 → ¬ nI (w + 16 * h + 256 * v) = nI 6 := by decide +kernel
theorem xc_f4 : ∀ w, w < 6 → ∀ h, h < 3 → ∀ v, v < 100 → ¬ nI (w + 16 * h + 256 * v) = nI 7 := by decide +kernel
theorem xc_f5 : ∀ w, w < 6 → ∀ h, h < 3 → ∀ v, v < 100 → ¬ nI (w + 16 * h + 256 * v) = nI 8 := by decide +kernel
theorem xc_f6 : ∀ w, w < 6 → ∀ h, h < 3 → ∀ v, v < 100 → (nI w ||| (nI h <<< (nI 4 &&& 31))) ||| (nI v <<< (nI 8 &&& 31)) = nI (w + 16 * h + 256 * v) := by decide +kernel
theorem mc_f0 : ∀ w, w < 6 → ∀ h, h < 3 → ∀ v, v < 100 → nI (w + 8 * h + 32 * v) - nI (w + 8 * h + 32 * v) / nI 8 * nI 8 = nI w := by decide +kernel
theorem mc_f1 : ∀ w, w < 6 → ∀ h, h < 3 → ∀ v, v < 100 → nI (w + 8 * h + 32 * v) / nI 8 - nI (w + 8 * h + 32 * v) / nI 8 / nI 4 * nI 4 = nI h := by decide +kernel
theorem mc_f2 : ∀ w, w < 6 → ∀ h, h < 3 → ∀ v, v < 100 → nI (w + 8 * h + 32 * v) / nI 32 = nI v := by decide +kernel
theorem mc_f3 : ∀ w, w < 6 → ∀ h, h < 3 → ∀ v, v < 100 → ¬ nI (w + 8 * h + 32 * v) < nI 0 := by decide +kernel
def cmpT (x : Int32) (how v : Nat) : Bool := if how = 0 then decide (x < nI v) else if how = 1 then decide (x = nI v) else decide (nI v < x)
/-- one token on a stack of truths -/
def evT (by' : Nat → Int32) (st : List Bool) (t : Nat × Nat × Nat) : List Bool :=
  if t.1 < 6 then cmpT (by' t.1) t.2.1 t.2.2 :: st
  else if t.1 = 6 then match st with | b :: r => (!b) :: r | [] => []
  else match st with | b :: a :: r => (if t.1 = 7 then a && b else a || b) :: r | _ => []
/-- the depth of the stack behind one token, none where it fails or passes 20 -/
def dpT (k : Option Nat) (t : Nat × Nat × Nat) : Option Nat := match k with
  | none => none
  | some k => if t.1 < 6 then (if k < 20 then some (k + 1) else none) else if t.1 = 6 then (if 1 ≤ k then some k else none) else if 2 ≤ k then some (k - 1) else none
theorem evT_len {by' : Nat → Int32} {st : List Bool} {t : Nat × Nat × Nat} {k : Nat} (h : dpT (some st.length) t = some k) : (evT by' st t).length = k := by
  unfold dpT at h; unfold evT
  split
  · rename_i h1; simp only [h1, if_true] at h
    split at h
    · simp only [Option.some.injEq] at h; simp [← h]
    · cases h
  · rename_i h1; simp only [h1, if_false] at h
    split
    · rename_i h2; simp only [h2, if_true] at h
      cases st with
      | nil => simp at h
      | cons b r => simp at h; simp [← h]
    · rename_i h2; simp only [h2, if_false] at h
      cases st with
      | nil => simp at h
      | cons b r => cases r with
        | nil => simp at h
        | cons a r => simp at h; simp [← h]
/-- what a test measures, in the class -/
def byX (σ : ma_H) (a : Nat) (m : Int32) (w : Nat) : Int32 := if w = 0 then σ a 0 else if w = 1 then σ a 1 else if w = 2 then σ a 2 else if w = 3 then σ a 5 / nI 10 else if w = 4 then σ a 6 else m - m / nI 7 * nI 7
theorem nI7 : ¬ nI 7 = 0 := by decide
theorem nI10 : ¬ nI 10 = 0 := by decide
theorem V25 {ro : ma_RO} {d : Nat} (w : Nat) (hw : w < 6) (a : Nat) (ha : hk_cls a = 1) (m : Int32) (σ : ma_H) : ma_ev ro d 25 [.int (nI w), .ref a, .int m] SH σ = some (some (.int (byX σ a m w)), SH, σ) := by
  have hw' : w = 0 ∨ w = 1 ∨ w = 2 ∨ w = 3 ∨ w = 4 ∨ w = 5 := by omega
  rcases hw' with rfl | rfl | rfl | rfl | rfl | rfl <;> simp (disch := first | assumption | omega | exact zb_fit | (simp (disch := omega) only [up_no, up_nk, up_at, u_cp_no] <;> (first | assumption | omega)) | (simp only [hkF] <;> omega) | decide) only [E25, S25, z_eq, Nat.reduceEqDiff, nI7, nI10, byX, hkF, z_add, z_mul, up_at, up_no, up_nk, u_cp_no, ma_bd, if_true, if_false, Option.toList, List.nil_append, List.cons_append]
theorem V24 {ro : ma_RO} {d : Nat} (w h v : Nat) (hw : w < 6) (hh : h < 3) (hv : v < 100) (a : Nat) (ha : hk_cls a = 1) (m : Int32) (σ : ma_H) : ma_ev ro (d + 1) 24 [.int (nI (w + 16 * h + 256 * v)), .ref a, .int m] SH σ = some (some (.int (zb (cmpT (byX σ a m w) h v = true))), SH, σ) := by
  have f1 := xc_f0 w hw h hh v hv; have f2 := xc_f1 w hw h hh v hv; have f3 := xc_f2 w hw h hh v hv
  have hh' : h = 0 ∨ h = 1 ∨ h = 2 := by omega
  rcases hh' with rfl | rfl | rfl <;> simp (disch := first | assumption | omega | exact zb_fit | (simp (disch := omega) only [up_no, up_nk, up_at, u_cp_no] <;> (first | assumption | omega)) | (simp only [hkF] <;> omega) | decide) only [E24, S24, f1, f2, f3, V25, z_eq, Nat.reduceEqDiff, cmpT, decide_eq_true_eq, hkF, z_add, z_mul, up_at, up_no, up_nk, u_cp_no, ma_bd, if_true, if_false, Option.toList, List.nil_append, List.cons_append] <;> split <;> simp only [zb, *, if_true, if_false]

/-! The sum of the reference: the whole row of steps. -/
theorem hd_facts : ∀ n, n < 100 → (-10 - nI n < nI 0) ∧ ¬ (-10 - nI n = -1) ∧ ¬ ((-10 : Int32) < -10 - nI n) ∧ ((-200 : Int32) < -10 - nI n) ∧ -10 - (-10 - nI n) = nI n := by decide +kernel
theorem hs_facts : ∀ n, n < 100 → (-200 - nI n < nI 0) ∧ ¬ (-200 - nI n = -1) ∧ ¬ ((-10 : Int32) < -200 - nI n) ∧ ¬ ((-200 : Int32) < -200 - nI n) ∧ -200 - (-200 - nI n) = nI n := by decide +kernel
theorem z_a0 (x : Int32) : x + nI 0 = x := Int32.add_zero x
theorem z_s0 (x : Int32) : x - nI 0 = x := Int32.sub_zero x
theorem L123t {ro : ma_RO} {d : Nat} {e : Nat} (byM : Nat → Int32) (v1 : Option Value) (sum : Int32) (fr many : Nat) (hfe : fr + many = e) (he : e ≤ 933) (ts : List (Nat × Nat × Nat)) :
    ∀ (i : Nat) (σ : ma_H) (v7 v8 v9 v10 : Option Value) (st : List Bool) (k : Nat), (∀ w, w < 6 → σ 94 w = byM w) → i + ts.length < e → (∀ t ∈ ts, tkOk t) → (∀ j (hj : j < ts.length), σ 91 (i + j) = mc (ts[j])) → ts.foldl dpT (some st.length) = some k → st.length ≤ 20 → tr σ st →
    ∃ v7' v8' v9' v10' σ', ma_rn ro d 123 (121, [some (.ref 90), v1, some (.int sum), some (.int (nI many)), some (.int (nI fr)), some (.int (nI st.length)), some (.int (nI i)), v7, v8, v9, v10], [], SH, σ) = ma_rn ro d 123 (121, [some (.ref 90), v1, some (.int sum), some (.int (nI many)), some (.int (nI fr)), some (.int (nI (ts.foldl (evT byM) st).length)), some (.int (nI (i + ts.length))), v7', v8', v9', v10'], [], SH, σ') ∧ tr σ' (ts.foldl (evT byM) st) ∧ ∀ a, ¬ a = 95 → σ' a = σ a := by
  induction ts with
  | nil => intro i σ v7 v8 v9 v10 st k hby h1 h2 h3 h4 h5 h6; exact ⟨v7, v8, v9, v10, σ, rfl, h6, fun _ _ => rfl⟩
  | cons t ts ih =>
    intro i σ v7 v8 v9 v10 st k hby h1 h2 h3 h4 h5 h6
    simp only [List.length_cons] at h1
    cases hd : dpT (some st.length) t with
    | none => simp only [List.foldl_cons, hd, dp_none] at h4; cases h4
    | some k1 =>
      obtain ⟨w7, w8, w9, w10, σ1, e1, r1, r2⟩ := L123b (ro := ro) (d := d) σ byM hby v1 sum fr many v7 v8 v9 v10 t st (h2 t (by simp)) hfe (by omega) he (h3 0 (by simp)) k1 hd h5 h6
      have hlen := evT_len (by' := byM) hd
      simp only [List.foldl_cons, hd] at h4
      obtain ⟨x7, x8, x9, x10, σ2, e2, r3, r4⟩ := ih (i + 1) σ1 w7 w8 w9 w10 (evT byM st t) k (fun w hw => by rw [r2 94 (by decide)]; exact hby w hw) (by omega) (fun x hx => h2 x (by simp [hx])) (fun j hj => by
        have := h3 (j + 1) (by simp; omega)
        simp only [List.getElem_cons_succ] at this
        rw [r2 91 (by decide), ← this]; congr 1; omega) (by rw [hlen]; exact h4) (by rw [hlen]; exact dp_le hd h5) r1
      refine ⟨x7, x8, x9, x10, σ2, e1.trans (e2.trans ?_), r3, fun a ha => (r4 a ha).trans (r2 a ha)⟩
      rw [show i + 1 + ts.length = i + (ts.length + 1) by omega]; rfl
theorem L123e {ro : ma_RO} {d : Nat} {e i : Nat} (σ : ma_H) (p : Int32) (sum : Int32) (fr many : Nat) (v7 v8 v9 v10 : Option Value) (c : Bool × Nat × List (Nat × Nat × Nat)) (hc : c.2.1 < 100) (hfe : fr + many = e) (hie : i < e) (he : e ≤ 933) (hx : σ 91 i = wM c) (b : Bool) (htr : tr σ [b]) :
    ∃ v7' v8' v9' v10', ma_rn ro d 123 (121, [some (.ref 90), some (.int p), some (.int sum), some (.int (nI many)), some (.int (nI fr)), some (.int (nI 1)), some (.int (nI i)), v7, v8, v9, v10], [], SH, σ) = ma_rn ro d 123 (121, [some (.ref 90), some (.int p), some (.int (if b = true then sum + wX c else sum)), some (.int (nI many)), some (.int (nI fr)), some (.int (nI 0)), some (.int (nI (i + 1))), v7', v8', v9', v10'], [], SH, σ) := by
  obtain ⟨s, n, ts⟩ := c
  simp only at hc
  have hi' : i < 933 := by omega
  have ht : σ 95 0 = nI b.toNat := htr.1
  cases s
  · have e1 : wM (false, n, ts) = -200 - nI n := rfl
    obtain ⟨f1, f2, f3, f4, f5⟩ := hs_facts n hc
    rw [e1] at hx
    refine ⟨some (.int (-200 - nI n)), some (.int (nI b.toNat)), v9, v10, ?_⟩
    rw [Sh123_121]
    cases b <;> simp only [Bool.toNat_false, Bool.toNat_true] at ht ⊢ <;> simp (disch := first | assumption | omega | exact zb_fit | (simp (disch := omega) only [up_no, up_nk, up_at, u_cp_no] <;> (first | assumption | omega)) | (simp only [hkF] <;> omega) | decide) only [S123, z_lt, hfe, hie, hx, f1, f2, f3, f4, f5, ht, z_eq, Nat.reduceEqDiff, z_a0, z_s0, wX, Bool.false_eq_true, ← Int32.sub_eq_add_neg, hkF, z_add, z_mul, up_at, up_no, up_nk, u_cp_no, ma_bd, if_true, if_false, Option.toList, List.nil_append, List.cons_append]
  · have e1 : wM (true, n, ts) = -10 - nI n := rfl
    obtain ⟨f1, f2, f3, f4, f5⟩ := hd_facts n hc
    rw [e1] at hx
    refine ⟨some (.int (-10 - nI n)), some (.int (nI b.toNat)), v9, v10, ?_⟩
    rw [Sh123_121]
    cases b <;> simp only [Bool.toNat_false, Bool.toNat_true] at ht ⊢ <;> simp (disch := first | assumption | omega | exact zb_fit | (simp (disch := omega) only [up_no, up_nk, up_at, u_cp_no] <;> (first | assumption | omega)) | (simp only [hkF] <;> omega) | decide) only [S123, z_lt, hfe, hie, hx, f1, f2, f3, f4, f5, ht, z_eq, Nat.reduceEqDiff, z_a0, z_s0, wX, Bool.false_eq_true, hkF, z_add, z_mul, up_at, up_no, up_nk, u_cp_no, ma_bd, if_true, if_false, Option.toList, List.nil_append, List.cons_append]

/-- how many numbers the clauses fill in the reference -/
def lnM : List (Bool × Nat × List (Nat × Nat × Nat)) → Nat
  | [] => 0
  | l :: r => l.2.2.length + 1 + lnM r
theorem L123 {ro : ma_RO} {d : Nat} {e : Nat} (byM : Nat → Int32) (p : Int32) (fr many : Nat) (hfe : fr + many = e) (he : e ≤ 933) (cs : List (Bool × Nat × List (Nat × Nat × Nat))) :
    ∀ (i : Nat) (σ : ma_H) (sum : Int32) (v7 v8 v9 v10 : Option Value), (∀ w, w < 6 → σ 94 w = byM w) → i + lnM cs = e → (∀ l ∈ cs, clOk l) → hM (σ 91) i cs →
    ∃ σ', ma_rn ro d 123 (121, [some (.ref 90), some (.int p), some (.int sum), some (.int (nI many)), some (.int (nI fr)), some (.int (nI 0)), some (.int (nI i)), v7, v8, v9, v10], [], SH, σ) = some (some (.int (sumC byM cs sum)), SH, σ') ∧ ∀ a, ¬ a = 95 → σ' a = σ a := by
  induction cs with
  | nil =>
    intro i σ sum v7 v8 v9 v10 hby h1 h2 h3
    simp only [lnM, Nat.add_zero] at h1
    refine ⟨σ, ?_, fun _ _ => rfl⟩
    rw [Sh123_121]
    subst h1
    simp (disch := first | assumption | omega | exact zb_fit | (simp (disch := omega) only [up_no, up_nk, up_at, u_cp_no] <;> (first | assumption | omega)) | (simp only [hkF] <;> omega) | decide) only [S123, hfe, z_lt, Nat.lt_irrefl, sumC, hkF, z_add, z_mul, up_at, up_no, up_nk, u_cp_no, ma_bd, if_true, if_false, Option.toList, List.nil_append, List.cons_append]
  | cons l cs ih =>
    intro i σ sum v7 v8 v9 v10 hby h1 h2 h3
    simp only [lnM] at h1
    obtain ⟨g1, g2, g3⟩ := h3
    obtain ⟨o1, o2, o3⟩ := h2 l (by simp)
    obtain ⟨w7, w8, w9, w10, σ1, e1, r1, r2⟩ := L123t (ro := ro) (d := d) byM (some (.int p)) sum fr many hfe he l.2.2 i σ v7 v8 v9 v10 [] 1 hby (by omega) o2 g1 o3 (by simp) trivial
    have hl := ev_len (by' := byM) l.2.2 [] 1 o3
    match hq : l.2.2.foldl (evT byM) [] with
    | [] => rw [hq] at hl; cases hl
    | _ :: _ :: _ => rw [hq] at hl; cases hl
    | [b] =>
      rw [hq] at e1 r1
      have hb : clT byM l = b := by unfold clT; rw [hq]; rfl
      obtain ⟨x7, x8, x9, x10, e2⟩ := L123e (ro := ro) (d := d) (i := i + l.2.2.length) σ1 p sum fr many w7 w8 w9 w10 l o1 hfe (by omega) he (by rw [r2 91 (by decide)]; exact g2) b r1
      obtain ⟨σ2, e3, r3⟩ := ih (i + l.2.2.length + 1) σ1 (if b = true then sum + wX l else sum) x7 x8 x9 x10 (fun w hw => by rw [r2 94 (by decide)]; exact hby w hw) (by omega) (fun x hx => h2 x (by simp [hx])) (by rw [r2 91 (by decide)]; exact g3)
      refine ⟨σ2, e1.trans (e2.trans (e3.trans ?_)), fun a ha => (r3 a ha).trans (r2 a ha)⟩
      show _ = some (some (Value.int (sumC byM cs (if clT byM l = true then sum + wX l else sum))), SH, σ2)
      rw [hb]

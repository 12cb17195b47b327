/-! Clauses (heed or haste, its n, its tokens); what the two sides keep of them; the sum of the class. -/
def wX (c : Bool × Nat × List (Nat × Nat × Nat)) : Int32 := if c.1 = true then nI c.2.1 else -nI c.2.1
def wM (c : Bool × Nat × List (Nat × Nat × Nat)) : Int32 := if c.1 = true then -10 - nI c.2.1 else -200 - nI c.2.1
def clOk (c : Bool × Nat × List (Nat × Nat × Nat)) : Prop := c.2.1 < 100 ∧ (∀ t ∈ c.2.2, tkOk t) ∧ c.2.2.foldl dpT (some 0) = some 1
def clT (by' : Nat → Int32) (c : Bool × Nat × List (Nat × Nat × Nat)) : Bool := (c.2.2.foldl (evT by') []).headD false
def sumC (by' : Nat → Int32) : List (Bool × Nat × List (Nat × Nat × Nat)) → Int32 → Int32
  | [], s => s
  | c :: r, s => sumC by' r (if clT by' c = true then s + wX c else s)
def hX (σ : ma_H) (h : Nat) : Nat → Nat → List (Bool × Nat × List (Nat × Nat × Nat)) → Prop
  | _, _, [] => True
  | f, c, l :: r => σ (h + 1) c = wX l ∧ σ (h + 2) c = nI (f + l.2.2.length) ∧ (∀ i (hi : i < l.2.2.length), σ (h + 3) (f + i) = xc (l.2.2[i])) ∧ hX σ h (f + l.2.2.length) (c + 1) r
def lnC : List (Bool × Nat × List (Nat × Nat × Nat)) → Nat
  | [] => 0
  | l :: r => l.2.2.length + lnC r
def hM (S : Nat → Int32) : Nat → List (Bool × Nat × List (Nat × Nat × Nat)) → Prop
  | _, [] => True
  | f, l :: r => (∀ i (hi : i < l.2.2.length), S (f + i) = mc (l.2.2[i])) ∧ S (f + l.2.2.length) = wM l ∧ hM S (f + l.2.2.length + 1) r
theorem L22 {ro : ma_RO} {d : Nat} {h a : Nat} (hh : hk_cls h = 2) (hl1 : hk_len (h + 1) = 10) (hal1 : hk_alen (h + 1) = 10) (hl2 : hk_len (h + 2) = 10) (hal2 : hk_alen (h + 2) = 10) (hl : hk_len (h + 3) = 100) (hal : hk_alen (h + 3) = 100) (ha : hk_cls a = 1) (m : Int32) (σ : ma_H) (n : Nat) (hn : n ≤ 10) (h3 : σ h 3 = nI n) (cs : List (Bool × Nat × List (Nat × Nat × Nat))) :
    ∀ (f c : Nat) (s : Int32), c + cs.length = n → f + lnC cs ≤ 100 → (∀ l ∈ cs, clOk l) → hX σ h f c cs →
    ma_rn ro (d + 3) 22 (9, [some (.ref h), some (.ref a), some (.int m), some (.int s), some (.int (nI f)), some (.int (nI c))], [], SH, σ) = some (some (.int (sumC (byX σ a m) cs s)), SH, σ) := by
  induction cs with
  | nil =>
    intro f c s h1 h2 h4 h5
    simp only [List.length_nil, Nat.add_zero] at h1
    subst h1
    rw [Sh22_9]
    simp (disch := first | assumption | omega | exact zb_fit | (simp (disch := omega) only [up_no, up_nk, up_at, u_cp_no] <;> (first | assumption | omega)) | (simp only [hkF] <;> omega) | decide) only [S22, h3, z_lt, Nat.lt_irrefl, sumC, hkF, z_add, z_mul, up_at, up_no, up_nk, u_cp_no, ma_bd, if_true, if_false, Option.toList, List.nil_append, List.cons_append]
  | cons l cs ih =>
    intro f c s h1 h2 h4 h5
    simp only [List.length_cons] at h1
    simp only [lnC] at h2
    obtain ⟨g1, g2, g3, g4⟩ := h5
    obtain ⟨o1, o2, o3⟩ := h4 l (by simp)
    have e := V23 (ro := ro) (d := d) hh hl hal ha m σ l.2.2 f (by omega) o2 g3 o3
    have hc : c < n := by omega
    have hc10 : c < 10 := by omega
    rw [Sh22_9]
    simp (disch := first | assumption | omega | exact zb_fit | (simp (disch := omega) only [up_no, up_nk, up_at, u_cp_no] <;> (first | assumption | omega)) | (simp only [hkF] <;> omega) | decide) only [S22, h3, z_lt, hc, hc10, hal1, hal2, g2, e, zb_0, hkF, z_add, z_mul, up_at, up_no, up_nk, u_cp_no, ma_bd, if_true, if_false, Option.toList, List.nil_append, List.cons_append]
    have ht : (List.foldl (evT (byX σ a m)) [] l.2.2).headD false = clT (byX σ a m) l := rfl
    rw [ht]
    show _ = some (some (Value.int (sumC (byX σ a m) cs (if clT (byX σ a m) l = true then s + wX l else s))), SH, σ)
    rw [← ih (f + l.2.2.length) (c + 1) _ (by omega) (by omega) (fun x hx => h4 x (by simp [hx])) g4]
    cases clT (byX σ a m) l
    · rfl
    · rw [g1]; rfl
theorem V22 {ro : ma_RO} {d : Nat} {h a : Nat} (hh : hk_cls h = 2) (hl1 : hk_len (h + 1) = 10) (hal1 : hk_alen (h + 1) = 10) (hl2 : hk_len (h + 2) = 10) (hal2 : hk_alen (h + 2) = 10) (hl : hk_len (h + 3) = 100) (hal : hk_alen (h + 3) = 100) (ha : hk_cls a = 1) (m : Int32) (σ : ma_H) (cs : List (Bool × Nat × List (Nat × Nat × Nat))) (hn : cs.length ≤ 10) (h3 : σ h 3 = nI cs.length) (h2 : lnC cs ≤ 100) (h4 : ∀ l ∈ cs, clOk l) (h5 : hX σ h 0 0 cs) :
    ma_ev ro (d + 3) 22 [.ref h, .ref a, .int m] SH σ = some (some (.int (sumC (byX σ a m) cs (nI 8))), SH, σ) := by
  have e := L22 (ro := ro) (d := d) hh hl1 hal1 hl2 hal2 hl hal ha m σ cs.length hn h3 cs 0 0 (nI 8) (by omega) (by omega) h4 h5
  simp (disch := first | assumption | omega | exact zb_fit | (simp (disch := omega) only [up_no, up_nk, up_at, u_cp_no] <;> (first | assumption | omega)) | (simp only [hkF] <;> omega) | decide) only [E22, S22, hkF, z_add, z_mul, up_at, up_no, up_nk, u_cp_no, ma_bd, if_true, if_false, Option.toList, List.nil_append, List.cons_append]
  exact e

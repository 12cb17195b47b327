/-! THE SMALL MACHINE: values are Jvm.Value, a reference is a cell's number (by the order of making); the heap is a list of shapes and the ints in them. -/
/-- a cell's shape: an object (class, its fields: none an int's, some r a reference's), a row of ints or of booleans (true) with its length, a row of references -/
abbrev ma_Sh : Type := (Nat × List (Option (Option Nat))) ⊕ ((Bool × Nat) ⊕ List (Option Nat))
abbrev ma_H : Type := Nat → Nat → Int32
abbrev ma_L : Type := List (Option Value)
abbrev ma_C : Type := Nat × ma_L × List Value × List ma_Sh × ma_H
/-- what a step gives: the next place; a call (method, arguments, the rest of the stack); an answer -/
abbrev ma_O : Type := ma_C ⊕ ((Nat × List Value × List Value) ⊕ Option Value)
abbrev ma_RO : Type := Nat → Option (Nat × (Nat → Int32))
abbrev ma_R : Type := Option Value × List ma_Sh × ma_H
def ma_up (σ : ma_H) (o k : Nat) (v : Int32) : ma_H := fun o' k' => if o' = o ∧ k' = k then v else σ o' k'
def ma_cd (m : Nat) : ByteArray := match ma_tab[m]? with | some r => r.2.2.1 | none => code
def ma_own (m : Nat) : Nat := match ma_tab[m]? with | some r => r.1 | none => 9
def ma_mx (m : Nat) : Nat := match ma_tab[m]? with | some r => r.2.2.2.1 | none => 4
def ma_rt (m : Nat) : Option FieldType := match ma_tab[m]? with | some r => r.2.2.2.2.1 | none => ret
def ma_np (m : Nat) : Nat := match ma_tab[m]? with | some r => r.2.2.2.2.2.1 | none => 1
def ma_kd (m : Nat) : Nat := match ma_tab[m]? with | some r => r.2.2.2.2.2.2 | none => 1
def ma_cs (st : List Value) : Nat := (st.map fun v => v.category).sum
def ma_tgt (pc : Nat) (off : Int) : Option Nat := if 0 ≤ (pc : Int) + off then some ((pc : Int) + off).toNat else none
def ma_isI : Value → Bool | .int _ => true | _ => false
def ma_isL : Value → Bool | .long _ => true | _ => false
def ma_isA : Value → Bool | .ref _ => true | .null => true | _ => false
def ma_isRef : FieldType → Bool | .object _ => true | .array _ => true | _ => false
/-- the place before i holds a long -/
def ma_bef (L : ma_L) (i : Nat) : Bool := match i with
  | 0 => false
  | j + 1 => match L[j]? with
    | some (some v) => v.category == 2
    | _ => false
def ma_ld (q : Value → Bool) (i pc : Nat) (L : ma_L) (st : List Value) (sh : List ma_Sh) (σ : ma_H) : Option ma_O := match L[i]? with
  | some (some v) => if q v = true then some (.inl (pc, L, v :: st, sh, σ)) else none
  | _ => none
def ma_s1 (q : Value → Bool) (i pc : Nat) (L : ma_L) (st : List Value) (sh : List ma_Sh) (σ : ma_H) : Option ma_O := match st with
  | v :: r => if q v = true ∧ ma_bef L i = false ∧ i < L.length then some (.inl (pc, L.set i (some v), r, sh, σ)) else none
  | [] => none
def ma_s2 (i pc : Nat) (L : ma_L) (st : List Value) (sh : List ma_Sh) (σ : ma_H) : Option ma_O := match st with
  | .long x :: r => if ma_bef L i = false ∧ i + 1 < L.length then some (.inl (pc, (L.set i (some (.long x))).set (i + 1) none, r, sh, σ)) else none
  | _ => none
def ma_i2 (f : Int32 → Int32 → Option Int32) (pc : Nat) (L : ma_L) (st : List Value) (sh : List ma_Sh) (σ : ma_H) : Option ma_O := match st with
  | .int y :: .int x :: r => match f x y with
    | some v => some (.inl (pc + 1, L, .int v :: r, sh, σ))
    | none => none
  | _ => none
def ma_l2 (f : Int64 → Int64 → Option Value) (pc : Nat) (L : ma_L) (st : List Value) (sh : List ma_Sh) (σ : ma_H) : Option ma_O := match st with
  | .long y :: .long x :: r => match f x y with
    | some v => some (.inl (pc + 1, L, v :: r, sh, σ))
    | none => none
  | _ => none
def ma_cmp (c : ClassFile.Cond) (x y : Int32) : Bool := match c with
  | .eq => decide (x = y)
  | .ne => decide (¬ x = y)
  | .lt => decide (x < y)
  | .ge => decide (y ≤ x)
  | .gt => decide (y < x)
  | .le => decide (x ≤ y)
def ma_br (b : Bool) (off : Int) (pc : Nat) (L : ma_L) (st : List Value) (sh : List ma_Sh) (σ : ma_H) : Option ma_O := match ma_tgt pc off with
  | some t => some (.inl (if b = true then t else pc + 3, L, st, sh, σ))
  | none => none
def ma_fv (fs : List (Option (Option Nat))) (f : Nat → Int32) (k : Nat) : Value := match fs.getD k none with
  | none => .int (f k)
  | some none => .null
  | some (some r) => .ref r
def ma_alen (ro : ma_RO) (sh : List ma_Sh) (o : Nat) : Option Nat := match sh[o]? with
  | some (.inr (.inl (_, n))) => some n
  | some (.inr (.inr l)) => some l.length
  | some (.inl _) => none
  | none => (ro o).map fun q => q.1
def ma_blank (ci : Nat) : List (Option (Option Nat)) := (List.range (ma_nx ci)).map fun k => if ma_isRef (ma_ty ci k) = true then some none else none
def ma_newH (σ : ma_H) (n : Nat) : ma_H := fun o k => if o = n then 0 else σ o k
def ma_fitI (ty : FieldType) (x : Int32) : Bool := match ty with
  | .int => true
  | .boolean => decide (x = 0) || decide (x = 1)
  | _ => false
def ma_lay : List Value → ma_L
  | [] => []
  | v :: vs => if v.category = 2 then some v :: none :: ma_lay vs else some v :: ma_lay vs
def ma_ent (m : Nat) (as : List Value) : ma_L := ma_lay as ++ List.replicate (ma_mx m - (ma_lay as).length) none
def ma_call (m' : Nat) (as rest : List Value) : Option ma_O := if (ma_lay as).length ≤ ma_mx m' ∧ ma_cs rest ≤ 8 then some (.inr (.inl (m', as, rest))) else none
def ma_getf (own idx pc : Nat) (L : ma_L) (st : List Value) (sh : List ma_Sh) (σ : ma_H) : Option ma_O := match st with
  | .ref o :: r => match ma_lk ma_ft own idx, sh[o]? with
    | some (ci, k), some (.inl (c, fs)) => if c = ci then some (.inl (pc + 3, L, ma_fv fs (σ o) k :: r, sh, σ)) else none
    | _, _ => none
  | _ => none
def ma_finOk (m own ci k : Nat) : Bool := !(ma_tx ci k).2.2.2 || (ma_kd m == 2 && own == ci)
def ma_putf (m own idx pc : Nat) (L : ma_L) (st : List Value) (sh : List ma_Sh) (σ : ma_H) : Option ma_O := match st with
  | v :: .ref o :: r => match ma_lk ma_ft own idx, sh[o]? with
    | some (ci, k), some (.inl (c, fs)) => if c = ci ∧ ma_finOk m own ci k = true then
        (match v with
        | .int x => if fs.getD k none = none ∧ ma_fitI (ma_ty ci k) x = true then some (.inl (pc + 3, L, r, sh, ma_up σ o k x)) else none
        | .null => if ma_isRef (ma_ty ci k) = true then some (.inl (pc + 3, L, r, sh.set o (.inl (c, fs.set k (some none))), σ)) else none
        | .ref a => if ma_isRef (ma_ty ci k) = true then some (.inl (pc + 3, L, r, sh.set o (.inl (c, fs.set k (some (some a)))), σ)) else none
        | _ => none) else none
    | _, _ => none
  | _ => none
def ma_ix (i : Int32) (n : Nat) : Bool := decide (¬ (i < 0 ∨ n ≤ i.toNatClampNeg))
def ma_iald (ro : ma_RO) (pc : Nat) (L : ma_L) (st : List Value) (sh : List ma_Sh) (σ : ma_H) : Option ma_O := match st with
  | .int i :: .ref o :: r => match sh[o]? with
    | some (.inr (.inl (false, n))) => if ma_ix i n = true then some (.inl (pc + 1, L, .int (σ o i.toNatClampNeg) :: r, sh, σ)) else none
    | some _ => none
    | none => match ro o with
      | some (n, f) => if ma_ix i n = true then some (.inl (pc + 1, L, .int (f i.toNatClampNeg) :: r, sh, σ)) else none
      | none => none
  | _ => none
def ma_bald (pc : Nat) (L : ma_L) (st : List Value) (sh : List ma_Sh) (σ : ma_H) : Option ma_O := match st with
  | .int i :: .ref o :: r => match sh[o]? with
    | some (.inr (.inl (true, n))) => if ma_ix i n = true then some (.inl (pc + 1, L, .int (σ o i.toNatClampNeg) :: r, sh, σ)) else none
    | _ => none
  | _ => none
def ma_iast (pc : Nat) (L : ma_L) (st : List Value) (sh : List ma_Sh) (σ : ma_H) : Option ma_O := match st with
  | .int x :: .int i :: .ref o :: r => match sh[o]? with
    | some (.inr (.inl (false, n))) => if ma_ix i n = true then some (.inl (pc + 1, L, r, sh, ma_up σ o i.toNatClampNeg x)) else none
    | _ => none
  | _ => none
def ma_bast (pc : Nat) (L : ma_L) (st : List Value) (sh : List ma_Sh) (σ : ma_H) : Option ma_O := match st with
  | .int x :: .int i :: .ref o :: r => match sh[o]? with
    | some (.inr (.inl (true, n))) => if ma_ix i n = true then some (.inl (pc + 1, L, r, sh, ma_up σ o i.toNatClampNeg (vp_nar .boolean x))) else none
    | _ => none
  | _ => none
def ma_rv (r : Option Nat) : Value := match r with
  | none => .null
  | some a => .ref a
def ma_aald (pc : Nat) (L : ma_L) (st : List Value) (sh : List ma_Sh) (σ : ma_H) : Option ma_O := match st with
  | .int i :: .ref o :: r => match sh[o]? with
    | some (.inr (.inr l)) => if ma_ix i l.length = true then some (.inl (pc + 1, L, ma_rv (l.getD i.toNatClampNeg none) :: r, sh, σ)) else none
    | _ => none
  | _ => none
def ma_aast (pc : Nat) (L : ma_L) (st : List Value) (sh : List ma_Sh) (σ : ma_H) : Option ma_O := match st with
  | .ref v :: .int i :: .ref o :: r => match sh[o]?, sh[v]? with
    | some (.inr (.inr l)), some (.inl (1, _)) => if ma_ix i l.length = true then some (.inl (pc + 1, L, r, sh.set o (.inr (.inr (l.set i.toNatClampNeg (some v)))), σ)) else none
    | _, _ => none
  | _ => none
def ma_new (own idx pc : Nat) (L : ma_L) (st : List Value) (sh : List ma_Sh) (σ : ma_H) : Option ma_O := match ma_lk ma_nt own idx with
  | some ci => if sh.length < 500 then some (.inl (pc + 3, L, .ref sh.length :: st, sh ++ [.inl (ci, ma_blank ci)], ma_newH σ sh.length)) else none
  | none => none
def ma_newa (z : Bool) (pc : Nat) (L : ma_L) (st : List Value) (sh : List ma_Sh) (σ : ma_H) : Option ma_O := match st with
  | .int n :: r => if ¬ n < 0 ∧ n.toNatClampNeg ≤ 5000 ∧ sh.length < 500 then some (.inl (pc + 2, L, .ref sh.length :: r, sh ++ [.inr (.inl (z, n.toNatClampNeg))], ma_newH σ sh.length)) else none
  | _ => none
def ma_newq (own idx pc : Nat) (L : ma_L) (st : List Value) (sh : List ma_Sh) (σ : ma_H) : Option ma_O := match st with
  | .int n :: r => match ma_lk ma_nt own idx with
    | some 1 => if ¬ n < 0 ∧ n.toNatClampNeg ≤ 5000 ∧ sh.length < 500 then some (.inl (pc + 3, L, .ref sh.length :: r, sh ++ [.inr (.inr (List.replicate n.toNatClampNeg none))], ma_newH σ sh.length)) else none
    | _ => none
  | _ => none
def ma_ldc (own idx pc : Nat) (L : ma_L) (st : List Value) (sh : List ma_Sh) (σ : ma_H) : Option ma_O := match ma_lk ma_kt own idx with
  | some v => some (.inl (pc + 2, L, .int v :: st, sh, σ))
  | none => match ma_lk ma_st own idx with
    | some k => some (.inl (pc + 2, L, .ref (1000000 + k) :: st, sh, σ))
    | none => none
def ma_ldc2 (own idx pc : Nat) (L : ma_L) (st : List Value) (sh : List ma_Sh) (σ : ma_H) : Option ma_O := match ma_lk ma_lt own idx with
  | some v => some (.inl (pc + 3, L, .long v :: st, sh, σ))
  | none => none
def ma_invS (own idx pc : Nat) (L : ma_L) (st : List Value) (sh : List ma_Sh) (σ : ma_H) : Option ma_O := match ma_lk ma_bt own idx with
  | some b => match b, st with
    | 0, .int y :: .int x :: r => if ma_cs r ≤ 8 then some (.inl (pc + 3, L, .int (if x < y then y else x) :: r, sh, σ)) else none
    | 1, .int y :: .int x :: r => if ma_cs r ≤ 8 then some (.inl (pc + 3, L, .int (if y < x then y else x) :: r, sh, σ)) else none
    | _, _ => none
  | none => match ma_lk ma_ct own idx with
    | some (m', _) => if ma_kd m' = 1 ∧ ma_np m' ≤ st.length then ma_call m' (st.take (ma_np m')).reverse (st.drop (ma_np m')) else none
    | none => none
/-- a call of a virtual method or of a constructor: the receiver is an object of the method's class -/
def ma_invO (kd own idx : Nat) (st : List Value) (sh : List ma_Sh) : Option ma_O := match ma_lk ma_ct own idx with
  | some (m', _) => if ma_kd m' = kd ∧ ma_np m' ≤ st.length then
      (match st.drop (ma_np m') with
      | .ref o :: rest => match sh[o]? with
        | some (.inl (c, _)) => if c = ma_own m' then ma_call m' (.ref o :: (st.take (ma_np m')).reverse) rest else none
        | _ => none
      | _ => none) else none
  | none => none
def ma_invV (own idx pc : Nat) (L : ma_L) (st : List Value) (sh : List ma_Sh) (σ : ma_H) : Option ma_O := match ma_lk ma_bt own idx with
  | some b => match b, st with
    | 2, .ref s :: r => if 1000000 ≤ s ∧ s < 1000007 ∧ ma_cs r ≤ 8 then some (.inl (pc + 3, L, .int (Int32.ofNat (ma_chs (s - 1000000)).length) :: r, sh, σ)) else none
    | 3, .int i :: .ref s :: r => if (1000000 ≤ s ∧ s < 1000007 ∧ ma_cs r ≤ 8) ∧ ma_ix i (ma_chs (s - 1000000)).length = true then some (.inl (pc + 3, L, .int ((ma_chs (s - 1000000)).getD i.toNatClampNeg 0) :: r, sh, σ)) else none
    | _, _ => none
  | none => ma_invO 0 own idx st sh
def ma_invI (own idx pc : Nat) (L : ma_L) (st : List Value) (sh : List ma_Sh) (σ : ma_H) : Option ma_O := match ma_lk ma_bt own idx with
  | some b => match b, st with
    | 4, .ref _ :: r => if ma_cs r ≤ 8 then some (.inl (pc + 3, L, r, sh, σ)) else none
    | _, _ => none
  | none => ma_invO 2 own idx st sh
def ma_iret (m : Nat) (st : List Value) : Option ma_O := match st with
  | [.int v] => match ma_rt m with
    | some ty => if ma_fitI ty v = true then some (.inr (.inr (some (.int v)))) else none
    | none => none
  | _ => none
def ma_lret (m : Nat) (st : List Value) : Option ma_O := match st with
  | [.long v] => if ma_rt m = some .long then some (.inr (.inr (some (.long v)))) else none
  | _ => none
def ma_aret (m : Nat) (st : List Value) : Option ma_O := match st with
  | [v] => if ma_isA v = true ∧ (ma_rt m = some (.object RX1)) then some (.inr (.inr (some v))) else none
  | _ => none
def ma_vret (m : Nat) (st : List Value) : Option ma_O := match st with
  | [] => if ma_rt m = none then some (.inr (.inr none)) else none
  | _ => none
def ma_tsw (d lo hi : Int) (offs : Array Int) (pc : Nat) (L : ma_L) (st : List Value) (sh : List ma_Sh) (σ : ma_H) : Option ma_O := match st with
  | .int x :: r => match (if x.toInt < lo ∨ hi < x.toInt then some d else offs[(x.toInt - lo).toNat]?) with
    | some o => match ma_tgt pc o with
      | some t => some (.inl (t, L, r, sh, σ))
      | none => none
    | none => none
  | _ => none
def ma_lsw (d : Int) (ps : Array (Int × Int)) (pc : Nat) (L : ma_L) (st : List Value) (sh : List ma_Sh) (σ : ma_H) : Option ma_O := match st with
  | .int x :: r => if (ps.toList.zip (ps.toList.drop 1)).all (fun (a, next) => a.1 < next.1) = true then
      (match ma_tgt pc (Op.lookupswitch.offset ps.toList d x.toInt) with
      | some t => some (.inl (t, L, r, sh, σ))
      | none => none) else none
  | _ => none
def ma_len : Instr → Nat
  | .bipush _ => 2 | .iload _ => 2 | .istore _ => 2 | .aload _ => 2 | .astore _ => 2 | .lload _ => 2 | .lstore _ => 2 | .ldc _ => 2 | .newarray _ => 2
  | .sipush _ => 3 | .iinc _ _ => 3 | .goto _ => 3 | .if_icmp _ _ => 3 | .ifCond _ _ => 3 | .ifnull _ => 3 | .ifnonnull _ => 3 | .ldc2_w _ => 3
  | .getfield _ => 3 | .putfield _ => 3 | .getstatic _ => 3 | .new _ => 3 | .anewarray _ => 3 | .invokevirtual _ => 3 | .invokespecial _ => 3 | .invokestatic _ => 3
  | _ => 1
def ma_ex (ro : ma_RO) (m : Nat) (i : Instr) (pc : Nat) (L : ma_L) (st : List Value) (sh : List ma_Sh) (σ : ma_H) : Option ma_O := match i with
  | .iconst n => some (.inl (pc + 1, L, .int (Int32.ofInt n) :: st, sh, σ))
  | .bipush n => some (.inl (pc + 2, L, .int (Int8.ofInt n).toInt32 :: st, sh, σ))
  | .sipush n => some (.inl (pc + 3, L, .int (Int16.ofInt n).toInt32 :: st, sh, σ))
  | .lconst n => some (.inl (pc + 1, L, .long (Int64.ofNat (n : Nat)) :: st, sh, σ))
  | .aconst_null => some (.inl (pc + 1, L, .null :: st, sh, σ))
  | .iload_n n => ma_ld ma_isI n (pc + 1) L st sh σ
  | .iload n => ma_ld ma_isI n (pc + 2) L st sh σ
  | .lload_n n => ma_ld ma_isL n (pc + 1) L st sh σ
  | .lload n => ma_ld ma_isL n (pc + 2) L st sh σ
  | .aload_n n => ma_ld ma_isA n (pc + 1) L st sh σ
  | .aload n => ma_ld ma_isA n (pc + 2) L st sh σ
  | .istore_n n => ma_s1 ma_isI n (pc + 1) L st sh σ
  | .istore n => ma_s1 ma_isI n (pc + 2) L st sh σ
  | .astore_n n => ma_s1 ma_isA n (pc + 1) L st sh σ
  | .astore n => ma_s1 ma_isA n (pc + 2) L st sh σ
  | .lstore_n n => ma_s2 n (pc + 1) L st sh σ
  | .lstore n => ma_s2 n (pc + 2) L st sh σ
  | .iinc k n => match L[k]? with
    | some (some (.int x)) => if ma_bef L k = false then some (.inl (pc + 3, L.set k (some (.int (x + Int32.ofInt n))), st, sh, σ)) else none
    | _ => none
  | .iadd => ma_i2 (fun x y => some (x + y)) pc L st sh σ
  | .isub => ma_i2 (fun x y => some (x - y)) pc L st sh σ
  | .imul => ma_i2 (fun x y => some (x * y)) pc L st sh σ
  | .iand => ma_i2 (fun x y => some (x &&& y)) pc L st sh σ
  | .ior => ma_i2 (fun x y => some (x ||| y)) pc L st sh σ
  | .ixor => ma_i2 (fun x y => some (x ^^^ y)) pc L st sh σ
  | .ishl => ma_i2 (fun x y => some (x <<< (y &&& 31))) pc L st sh σ
  | .ishr => ma_i2 (fun x y => some (x >>> (y &&& 31))) pc L st sh σ
  | .idiv => ma_i2 (fun x y => if y = 0 then none else some (x / y)) pc L st sh σ
  | .irem => ma_i2 (fun x y => if y = 0 then none else some (x - x / y * y)) pc L st sh σ
  | .ineg => match st with
    | .int x :: r => some (.inl (pc + 1, L, .int (-x) :: r, sh, σ))
    | _ => none
  | .ladd => ma_l2 (fun x y => some (.long (x + y))) pc L st sh σ
  | .ldiv => ma_l2 (fun x y => if y = 0 then none else some (.long (x / y))) pc L st sh σ
  | .lrem => ma_l2 (fun x y => if y = 0 then none else some (.long (x - x / y * y))) pc L st sh σ
  | .lcmp => ma_l2 (fun x y => some (.int (lg_cmp x y))) pc L st sh σ
  | .lneg => match st with
    | .long x :: r => some (.inl (pc + 1, L, .long (-x) :: r, sh, σ))
    | _ => none
  | .i2l => match st with
    | .int x :: r => some (.inl (pc + 1, L, .long x.toInt64 :: r, sh, σ))
    | _ => none
  | .dup => match st with
    | v :: r => if v.category = 1 then some (.inl (pc + 1, L, v :: v :: r, sh, σ)) else none
    | _ => none
  | .dup2 => match st with
    | v :: w :: r => if v.category = 1 ∧ w.category = 1 then some (.inl (pc + 1, L, v :: w :: v :: w :: r, sh, σ)) else none
    | _ => none
  | .pop => match st with
    | v :: r => if v.category = 1 then some (.inl (pc + 1, L, r, sh, σ)) else none
    | _ => none
  | .ifCond c off => match st with
    | .int x :: r => ma_br (ma_cmp c x 0) off pc L r sh σ
    | _ => none
  | .if_icmp c off => match st with
    | .int y :: .int x :: r => ma_br (ma_cmp c x y) off pc L r sh σ
    | _ => none
  | .ifnull off => match st with
    | .null :: r => ma_br true off pc L r sh σ
    | .ref _ :: r => ma_br false off pc L r sh σ
    | _ => none
  | .ifnonnull off => match st with
    | .null :: r => ma_br false off pc L r sh σ
    | .ref _ :: r => ma_br true off pc L r sh σ
    | _ => none
  | .goto off => ma_br true off pc L st sh σ
  | .tableswitch d lo hi offs => ma_tsw d lo hi offs pc L st sh σ
  | .lookupswitch d ps => ma_lsw d ps pc L st sh σ
  | .ldc idx => ma_ldc (ma_own m) idx pc L st sh σ
  | .ldc2_w idx => ma_ldc2 (ma_own m) idx pc L st sh σ
  | .getfield idx => ma_getf (ma_own m) idx pc L st sh σ
  | .putfield idx => ma_putf m (ma_own m) idx pc L st sh σ
  | .getstatic idx => if ma_own m = 7 ∧ idx = 265 then some (.inl (pc + 3, L, .ref 3000000 :: st, sh, σ)) else none
  | .arraylength => match st with
    | .ref o :: r => match ma_alen ro sh o with
      | some n => some (.inl (pc + 1, L, .int (Int32.ofNat n) :: r, sh, σ))
      | none => none
    | _ => none
  | .iaload => ma_iald ro pc L st sh σ
  | .baload => ma_bald pc L st sh σ
  | .iastore => ma_iast pc L st sh σ
  | .bastore => ma_bast pc L st sh σ
  | .aaload => ma_aald pc L st sh σ
  | .aastore => ma_aast pc L st sh σ
  | .new idx => ma_new (ma_own m) idx pc L st sh σ
  | .newarray .int => ma_newa false pc L st sh σ
  | .newarray .boolean => ma_newa true pc L st sh σ
  | .anewarray idx => ma_newq (ma_own m) idx pc L st sh σ
  | .invokestatic idx => ma_invS (ma_own m) idx pc L st sh σ
  | .invokevirtual idx => ma_invV (ma_own m) idx pc L st sh σ
  | .invokespecial idx => ma_invI (ma_own m) idx pc L st sh σ
  | .ireturn => ma_iret m st
  | .lreturn => ma_lret m st
  | .areturn => ma_aret m st
  | .return_ => ma_vret m st
  | _ => none
def ma_lenOk (i : Instr) (n : Nat) : Bool := match i with
  | .tableswitch _ _ _ _ => true
  | .lookupswitch _ _ => true
  | i => n == ma_len i
def ma_step (ro : ma_RO) (m : Nat) (c : ma_C) : Option ma_O := match decode (ma_cd m) c.1 with
  | .ok (i, n) => if ma_lenOk i n = true then ma_ex ro m i c.1 c.2.1 c.2.2.1 c.2.2.2.1 c.2.2.2.2 else none
  | .error _ => none
def ma_run (ro : ma_RO) : Nat → Nat → Nat → ma_C → Option ma_R
  | 0, _, _, _ => none
  | n + 1, d, m, c => match ma_step ro m c with
    | none => none
    | some (.inl c') => ma_run ro n d m c'
    | some (.inr (.inl (m', as, rest))) => match d with
      | 0 => none
      | d' + 1 => match ma_run ro n d' m' (0, ma_ent m' as, [], c.2.2.2.1, c.2.2.2.2) with
        | none => none
        | some (v, sh, σ) => ma_run ro n (d' + 1) m (c.1 + 3, c.2.1, v.toList ++ rest, sh, σ)
    | some (.inr (.inr v)) => some (v, c.2.2.2.1, c.2.2.2.2)

/-! the abstract machine: values, heap, one step -/
abbrev ZV : Type := Int ⊕ Int ⊕ Nat ⊕ Nat ⊕ Bool
abbrev vI (z : Int) : ZV := .inl z
abbrev vL (z : Int) : ZV := .inr (.inl z)
abbrev vR (i : Nat) : ZV := .inr (.inr (.inl i))
abbrev vX (k : Nat) : ZV := .inr (.inr (.inr (.inl k)))
abbrev vN : ZV := .inr (.inr (.inr (.inr false)))
abbrev vJ : ZV := .inr (.inr (.inr (.inr true)))
abbrev ZH : Type := List (Nat × Nat) × (Nat → Nat → Int)
def n32 (z : Int) : Int := (Int32.ofInt z).toInt
def n64 (z : Int) : Int := (Int64.ofInt z).toInt
def zm_isL (v : ZV) : Bool := match v with
  | .inr (.inl _) => true
  | _ => false
def zm_cat (v : ZV) : Nat := if zm_isL v then 2 else 1
def zm_up (D : Nat → Nat → Int) (i k : Nat) (z : Int) : Nat → Nat → Int := fun a b => if a = i ∧ b = k then z else D a b
def zm_cp (D : Nat → Nat → Int) (a sp b dp n : Nat) : Nat → Nat → Int := fun x k => if x = b ∧ dp ≤ k ∧ k < dp + n then D a (sp + (k - dp)) else D x k
def zm_by (M : Nat) : ByteArray := match zm_mtL[M]? with
  | some e => e.2.1
  | none => code
def zm_ins (M pc : Nat) : Option (Instr × Nat) := match decode (zm_by M) pc with
  | .ok e => some e
  | .error _ => none
def zm_oc (M : Nat) : Nat := match zm_mtL[M]? with
  | some e => e.2.2.2.2.1
  | none => 0
def zm_ml (M : Nat) : Nat := match zm_mtL[M]? with
  | some e => e.2.2.1
  | none => 0
def zm_rt (M : Nat) : Option FieldType := match zm_mtL[M]? with
  | some e => e.2.2.2.1
  | none => none
def zm_na (M : Nat) : Nat := match zm_mtL[M]? with
  | some e => e.2.2.2.2.2
  | none => 0
def zm_find {α : Type} (t : List (List (Nat × α))) (o i : Nat) : Option α := match t[o]? with
  | some l => l.lookup i
  | none => none
def zm_tyF (ci k : Nat) : FieldType := match zm_ty[ci]? with
  | some f => f k
  | none => .int
def zm_nF (ci : Nat) : Nat := match vwCl[ci]? with
  | some q => q.2.2
  | none => 0
def zm_fin (ci k : Nat) : Bool := match vwCl[ci]? with
  | some q => (q.2.1 k).2.2.2
  | none => true
def zm_fv (ty : FieldType) (z : Int) : ZV := match ty with
  | .long => vL z
  | .object _ => if z < 0 then vN else vR z.toNat
  | .array _ => if z < 0 then vN else vR z.toNat
  | _ => vI z
def zm_fi (ty : FieldType) (v : ZV) : Option Int := match ty with
  | .int => match v with
    | .inl z => some z
    | _ => none
  | .boolean => match v with
    | .inl z => if n32 z = 0 ∨ n32 z = 1 then some z else none
    | _ => none
  | .long => match v with
    | .inr (.inl z) => some z
    | _ => none
  | .object _ => match v with
    | .inr (.inr (.inl i)) => some i
    | _ => none
  | .array _ => match v with
    | .inr (.inr (.inl i)) => some i
    | _ => none
  | _ => none
/-- a store of one word, of two -/
def zm_s1 (loc : List ZV) (i : Nat) (v : ZV) : Option (List ZV) :=
  if i < loc.length then
    match i with
    | 0 => some (loc.set 0 v)
    | j + 1 => match loc[j]? with
      | some (.inr (.inl _)) => some ((loc.set j vJ).set (j + 1) v)
      | _ => some (loc.set (j + 1) v)
  else none
def zm_s2 (loc : List ZV) (i : Nat) (v : ZV) : Option (List ZV) :=
  if i + 1 < loc.length then (zm_s1 loc i v).map (fun l => l.set (i + 1) vJ) else none
abbrev ZC : Type := Nat × List ZV × List ZV × ZH
abbrev ZN : Type := ZC ⊕ (Nat × List ZV × List ZV) ⊕ Option (List ZV)
abbrev zn (pc : Nat) (loc st : List ZV) (h : ZH) : Option ZN := some (.inl (pc, loc, st, h))
def zm_tgt (pc : Nat) (off : Int) : Nat := ((pc : Int) + off).toNat
def zm_ok (pc : Nat) (off : Int) : Bool := decide (0 ≤ (pc : Int) + off)
def zm_cmp (c : ClassFile.Cond) (a b : Int) : Bool := match c with
  | .eq => decide (n32 a = n32 b)
  | .ne => !decide (n32 a = n32 b)
  | .lt => decide (n32 a < n32 b)
  | .ge => decide (n32 b ≤ n32 a)
  | .gt => decide (n32 b < n32 a)
  | .le => decide (n32 a ≤ n32 b)
def zm_inb (i : Int) (n : Nat) : Bool := decide (0 ≤ n32 i) && decide (n32 i < n)
def zm_sh (h : ZH) (i : Nat) : Nat × Nat := match h.1[i]? with
  | some q => q
  | none => (99, 0)
def zm_csum (st : List ZV) : Nat := (st.map zm_cat).sum
def zm_at (c : ZC) : Nat := c.1
def zm_len (ins : Instr) : Nat := match ins with
  | .bipush _ | .ldc _ | .iload _ | .lload _ | .aload _ | .istore _ | .lstore _ | .astore _ | .newarray _ => 2
  | .sipush _ | .ldc_w _ | .ldc2_w _ | .iinc _ _ | .goto _ | .ifCond _ _ | .if_icmp _ _ | .getfield _ | .putfield _ | .new _ | .invokevirtual _ | .invokestatic _ | .invokespecial _ => 3
  | .tableswitch _ _ _ _ => 0
  | _ => 1
def zm_jmp (pc : Nat) (off : Int) (loc st : List ZV) (h : ZH) : Option ZN := if 0 ≤ (pc : Int) + off then zn (zm_tgt pc off) loc st h else none
def zm_li (loc : List ZV) (i : Nat) (pc' : Nat) (st : List ZV) (h : ZH) : Option ZN := match loc[i]? with
  | some (.inl z) => zn pc' loc (vI z :: st) h
  | _ => none
def zm_ll (loc : List ZV) (i : Nat) (pc' : Nat) (st : List ZV) (h : ZH) : Option ZN := match loc[i]? with
  | some (.inr (.inl z)) => zn pc' loc (vL z :: st) h
  | _ => none
def zm_la (loc : List ZV) (i : Nat) (pc' : Nat) (st : List ZV) (h : ZH) : Option ZN := match loc[i]? with
  | some (.inr (.inr (.inl o))) => zn pc' loc (vR o :: st) h
  | some (.inr (.inr (.inr (.inl o)))) => zn pc' loc (vX o :: st) h
  | _ => none
def zm_si (loc : List ZV) (i : Nat) (pc' : Nat) (st : List ZV) (h : ZH) : Option ZN := match st with
  | .inl z :: r => match zm_s1 loc i (vI z) with
    | some l => zn pc' l r h
    | none => none
  | _ => none
def zm_sl (loc : List ZV) (i : Nat) (pc' : Nat) (st : List ZV) (h : ZH) : Option ZN := match st with
  | .inr (.inl z) :: r => match zm_s2 loc i (vL z) with
    | some l => zn pc' l r h
    | none => none
  | _ => none
def zm_sa (loc : List ZV) (i : Nat) (pc' : Nat) (st : List ZV) (h : ZH) : Option ZN := match st with
  | .inr (.inr (.inl o)) :: r => match zm_s1 loc i (vR o) with
    | some l => zn pc' l r h
    | none => none
  | .inr (.inr (.inr (.inl o))) :: r => match zm_s1 loc i (vX o) with
    | some l => zn pc' l r h
    | none => none
  | _ => none
def zm_i2 (f : Int → Int → Option Int) (pc' : Nat) (loc st : List ZV) (h : ZH) : Option ZN := match st with
  | .inl b :: .inl a :: r => match f a b with
    | some z => zn pc' loc (vI z :: r) h
    | none => none
  | _ => none
def zm_j2 (f : Int → Int → Option Int) (pc' : Nat) (loc st : List ZV) (h : ZH) : Option ZN := match st with
  | .inr (.inl b) :: .inr (.inl a) :: r => match f a b with
    | some z => zn pc' loc (vL z :: r) h
    | none => none
  | _ => none
def zm_iand (a b : Int) : Int := (Int32.ofInt a &&& Int32.ofInt b).toInt
def zm_ior (a b : Int) : Int := (Int32.ofInt a ||| Int32.ofInt b).toInt
def zm_ixor (a b : Int) : Int := (Int32.ofInt a ^^^ Int32.ofInt b).toInt
def zm_ishl (a b : Int) : Int := (Int32.ofInt a <<< (Int32.ofInt b &&& 31)).toInt
def zm_ishr (a b : Int) : Int := (Int32.ofInt a >>> (Int32.ofInt b &&& 31)).toInt
def zm_lor (a b : Int) : Int := (Int64.ofInt a ||| Int64.ofInt b).toInt
def zm_lshl (a b : Int) : Int := (Int64.ofInt a <<< ((Int32.ofInt b).toInt64 &&& 63)).toInt
def zm_i2b (a : Int) : Int := (Int32.ofInt a).toInt8.toInt32.toInt
def zm_z1 (a : Int) : Int := (vp_nar .boolean (Int32.ofInt a)).toInt
def zm_lcmp (a b : Int) : Int := if n64 b < n64 a then 1 else if n64 a = n64 b then 0 else -1
def zm_df (ty : FieldType) : Int := match ty with
  | .object _ => -1
  | .array _ => -1
  | _ => 0
def zm_at_code (t : ArrayType) : Nat := match t with
  | .int => 20
  | .byte => 21
  | .boolean => 22
  | .long => 23
  | _ => 99
def zm_chars : List (List Int) := zm_strs.map (fun s => s.toList.map (fun c => (c.toNat : Int)))
def zm_isI (M ci : Nat) : Bool := match zm_mtL[M]? with
  | some e => decide (e.1.name = "<init>") && decide (e.2.2.2.2.1 = ci)
  | none => false
def zm_no30 (sh : List (Nat × Nat)) : Bool := sh.all (fun q => decide (q.1 ≠ 30))
def zm_ld (tc : Nat) (i : Int) (o : Nat) (h : ZH) : Option Int := match h.1[o]? with
  | some (t, n) => if t = tc ∧ zm_inb i n = true then some (h.2 o (n32 i).toNat) else none
  | none => none
def zm_stt (tc : Nat) (i : Int) (o : Nat) (z : Int) (h : ZH) : Option ZH := match h.1[o]? with
  | some (t, n) => if t = tc ∧ zm_inb i n = true then some (h.1, zm_up h.2 o (n32 i).toNat z) else none
  | none => none
def zm_noJ (st : List ZV) : Bool := st.all (fun v => match v with
  | .inr (.inr (.inr (.inr _))) => false
  | _ => true)
def zm_fl : List ZV → List ZV
  | [] => []
  | v :: r => if zm_isL v then v :: vJ :: zm_fl r else v :: zm_fl r
def zm_en (ml : Nat) (args : List ZV) : List ZV := zm_fl args ++ List.replicate (ml - (zm_fl args).length) vJ
def zm_cn2 (kind tgt : Nat) : Nat := if kind = 1 then zm_na tgt else zm_na tgt + 1
def zm_cok (n tgt : Nat) (st : List ZV) : Bool := decide (n ≤ st.length) && decide (tgt ≤ 317) && decide (zm_csum (st.drop n) ≤ 8) && zm_noJ (st.take n) && decide ((zm_fl (st.take n).reverse).length ≤ zm_ml tgt)
def zm_rcv (tgt : Nat) (as : List ZV) (h : ZH) : Bool := match as with
  | .inr (.inr (.inl o)) :: _ => decide (h.1[o]? = some (zm_oc tgt, zm_nF (zm_oc tgt)))
  | _ => false
def zm_call (kind tgt : Nat) (st : List ZV) (h : ZH) : Option ZN :=
  if zm_cok (zm_cn2 kind tgt) tgt st = true ∧ (kind = 1 ∨ zm_rcv tgt (st.take (zm_cn2 kind tgt)).reverse h = true) then
    some (.inr (.inl (tgt, (st.take (zm_cn2 kind tgt)).reverse, st.drop (zm_cn2 kind tgt))))
  else none
def zm_inv (X : Nat × (Nat → Int)) (M pc i op : Nat) (loc st : List ZV) (h : ZH) : Option ZN := match zm_find zm_lkT (zm_oc M) i with
  | none => none
  | some (kind, tgt, _) =>
    if kind ≤ 2 then (if kind = op then zm_call kind tgt st h else none)
    else match kind with
      | 3 => if op = 2 then (match st with
        | .inr (.inr (.inl _)) :: r => if zm_csum r ≤ 8 then zn (pc + 3) loc r h else none
        | _ => none) else none
      | 4 => if op = 1 then (if zm_csum st ≤ 10 then zm_i2 (fun a b => some (if n32 a < n32 b then b else a)) (pc + 3) loc st h else none) else none
      | 5 => if op = 1 then (if zm_csum st ≤ 10 then zm_i2 (fun a b => some (if n32 b < n32 a then b else a)) (pc + 3) loc st h else none) else none
      | 6 => if op = 1 then (match st with
        | .inl a :: r => if zm_csum r ≤ 8 then zn (pc + 3) loc (vI (if 0 ≤ n32 a then a else 0 - a) :: r) h else none
        | _ => none) else none
      | 7 => if op = 1 then (match st with
        | .inl n :: .inl dp :: .inr (.inr (.inl b)) :: .inl sp :: .inr (.inr (.inl a)) :: r => match h.1[a]?, h.1[b]? with
          | some (ta, na), some (tb, nb) => if ta = 20 ∧ tb = 20 ∧ 0 ≤ n32 n ∧ 0 ≤ n32 dp ∧ 0 ≤ n32 sp ∧ (n32 sp).toNat + (n32 n).toNat ≤ na ∧ (n32 dp).toNat + (n32 n).toNat ≤ nb ∧ zm_csum r ≤ 8 then
              zn (pc + 3) loc r (h.1, zm_cp h.2 a (n32 sp).toNat b (n32 dp).toNat (n32 n).toNat) else none
          | _, _ => none
        | _ => none) else none
      | 8 => if op = 0 then (match st with
        | .inr (.inr (.inr (.inl k))) :: r => match zm_chars[k]? with
          | some cs => if zm_csum r ≤ 8 then zn (pc + 3) loc (vI cs.length :: r) h else none
          | none => none
        | _ => none) else none
      | 9 => if op = 0 then (match st with
        | .inl j :: .inr (.inr (.inr (.inl k))) :: r => match zm_chars[k]? with
          | some cs => if zm_csum r ≤ 8 ∧ zm_inb j cs.length = true then zn (pc + 3) loc (vI (cs.getD (n32 j).toNat 0) :: r) h else none
          | none => none
        | _ => none) else none
      | _ => none
def zm_ex1 (M pc : Nat) (loc st : List ZV) (h : ZH) (ins : Instr) : Option ZN := match ins with
  | .iconst n => zn (pc + 1) loc (vI n :: st) h
  | .bipush n => zn (pc + 2) loc (vI (Int8.ofInt n).toInt :: st) h
  | .sipush n => zn (pc + 3) loc (vI (Int16.ofInt n).toInt :: st) h
  | .lconst n => zn (pc + 1) loc (vL (n : Nat) :: st) h
  | .ldc i => match zm_find zm_kcT (zm_oc M) i with
    | some (k, z) => if k = 0 then zn (pc + 2) loc (vI z :: st) h else none
    | none => match zm_find zm_skT (zm_oc M) i with
      | some k => zn (pc + 2) loc (vX k :: st) h
      | none => none
  | .ldc_w i => match zm_find zm_kcT (zm_oc M) i with
    | some (k, z) => if k = 0 then zn (pc + 3) loc (vI z :: st) h else none
    | none => none
  | .ldc2_w i => match zm_find zm_kcT (zm_oc M) i with
    | some (k, z) => if k = 1 then zn (pc + 3) loc (vL z :: st) h else none
    | none => none
  | .iload_n k => zm_li loc k (pc + 1) st h
  | .iload k => zm_li loc k (pc + 2) st h
  | .lload_n k => zm_ll loc k (pc + 1) st h
  | .lload k => zm_ll loc k (pc + 2) st h
  | .aload_n k => zm_la loc k (pc + 1) st h
  | .aload k => zm_la loc k (pc + 2) st h
  | .istore_n k => zm_si loc k (pc + 1) st h
  | .istore k => zm_si loc k (pc + 2) st h
  | .lstore_n k => zm_sl loc k (pc + 1) st h
  | .lstore k => zm_sl loc k (pc + 2) st h
  | .astore_n k => zm_sa loc k (pc + 1) st h
  | .astore k => zm_sa loc k (pc + 2) st h
  | .iinc i n => match loc[i]? with
    | some (.inl z) => match zm_s1 loc i (vI (z + n)) with
      | some l => zn (pc + 3) l st h
      | none => none
    | _ => none
  | _ => none
def zm_ex2 (pc : Nat) (loc st : List ZV) (h : ZH) (ins : Instr) : Option ZN := match ins with
  | .iadd => zm_i2 (fun a b => some (a + b)) (pc + 1) loc st h
  | .isub => zm_i2 (fun a b => some (a - b)) (pc + 1) loc st h
  | .imul => zm_i2 (fun a b => some (a * b)) (pc + 1) loc st h
  | .idiv => zm_i2 (fun a b => if n32 b = 0 then none else some ((n32 a).tdiv (n32 b))) (pc + 1) loc st h
  | .irem => zm_i2 (fun a b => if n32 b = 0 then none else some ((n32 a).tmod (n32 b))) (pc + 1) loc st h
  | .iand => zm_i2 (fun a b => some (zm_iand a b)) (pc + 1) loc st h
  | .ior => zm_i2 (fun a b => some (zm_ior a b)) (pc + 1) loc st h
  | .ixor => zm_i2 (fun a b => some (zm_ixor a b)) (pc + 1) loc st h
  | .ishl => zm_i2 (fun a b => some (zm_ishl a b)) (pc + 1) loc st h
  | .ishr => zm_i2 (fun a b => some (zm_ishr a b)) (pc + 1) loc st h
  | .ladd => zm_j2 (fun a b => some (a + b)) (pc + 1) loc st h
  | .lsub => zm_j2 (fun a b => some (a - b)) (pc + 1) loc st h
  | .lmul => zm_j2 (fun a b => some (a * b)) (pc + 1) loc st h
  | .ldiv => zm_j2 (fun a b => if n64 b = 0 then none else some ((n64 a).tdiv (n64 b))) (pc + 1) loc st h
  | .lrem => zm_j2 (fun a b => if n64 b = 0 then none else some ((n64 a).tmod (n64 b))) (pc + 1) loc st h
  | .lor => zm_j2 (fun a b => some (zm_lor a b)) (pc + 1) loc st h
  | .lshl => match st with
    | .inl b :: .inr (.inl a) :: r => zn (pc + 1) loc (vL (zm_lshl a b) :: r) h
    | _ => none
  | .lcmp => match st with
    | .inr (.inl b) :: .inr (.inl a) :: r => zn (pc + 1) loc (vI (zm_lcmp a b) :: r) h
    | _ => none
  | .i2l => match st with
    | .inl a :: r => zn (pc + 1) loc (vL (n32 a) :: r) h
    | _ => none
  | .i2b => match st with
    | .inl a :: r => zn (pc + 1) loc (vI (zm_i2b a) :: r) h
    | _ => none
  | .goto off => zm_jmp pc off loc st h
  | .ifCond c off => match st with
    | .inl a :: r => if 0 ≤ (pc : Int) + off then (if zm_cmp c a 0 = true then zn (zm_tgt pc off) loc r h else zn (pc + 3) loc r h) else none
    | _ => none
  | .if_icmp c off => match st with
    | .inl b :: .inl a :: r => if 0 ≤ (pc : Int) + off then (if zm_cmp c a b = true then zn (zm_tgt pc off) loc r h else zn (pc + 3) loc r h) else none
    | _ => none
  | .tableswitch dflt lo hi offs => match st with
    | .inl a :: r => if n32 a < lo ∨ hi < n32 a then zm_jmp pc dflt loc r h else match offs[(n32 a - lo).toNat]? with
      | some off => zm_jmp pc off loc r h
      | none => none
    | _ => none
  | .dup => match st with
    | v :: r => if zm_isL v = false then zn (pc + 1) loc (v :: v :: r) h else none
    | _ => none
  | .pop => match st with
    | v :: r => if zm_isL v = false then zn (pc + 1) loc r h else none
    | _ => none
  | .dup2 => match st with
    | v :: w :: r => if zm_isL v = false ∧ zm_isL w = false then zn (pc + 1) loc (v :: w :: v :: w :: r) h else none
    | _ => none
  | _ => none
def zm_ex3 (X : Nat × (Nat → Int)) (M pc : Nat) (loc st : List ZV) (h : ZH) (ins : Instr) : Option ZN := match ins with
  | .getfield i => match st with
    | .inr (.inr (.inl o)) :: r => match zm_find zm_fkT (zm_oc M) i with
      | some (ci, k) => if h.1[o]? = some (ci, zm_nF ci) then zn (pc + 3) loc (zm_fv (zm_tyF ci k) (h.2 o k) :: r) h else none
      | none => none
    | _ => none
  | .putfield i => match st with
    | v :: .inr (.inr (.inl o)) :: r => match zm_find zm_fkT (zm_oc M) i with
      | some (ci, k) => if h.1[o]? = some (ci, zm_nF ci) ∧ (zm_fin ci k = false ∨ zm_isI M ci = true) then (match zm_fi (zm_tyF ci k) v with
        | some z => zn (pc + 3) loc r (h.1, zm_up h.2 o k z)
        | none => none) else none
      | none => none
    | _ => none
  | .iaload => match st with
    | .inl i :: .inr (.inr (.inl o)) :: r => match zm_ld 20 i o h with
      | some z => zn (pc + 1) loc (vI z :: r) h
      | none => none
    | .inl i :: .inr (.inr (.inr (.inl k))) :: r => if k = 1000 ∧ zm_inb i X.1 = true then zn (pc + 1) loc (vI (X.2 (n32 i).toNat) :: r) h else none
    | _ => none
  | .baload => match st with
    | .inl i :: .inr (.inr (.inl o)) :: r => match zm_ld 21 i o h with
      | some z => zn (pc + 1) loc (vI z :: r) h
      | none => match zm_ld 22 i o h with
        | some z => zn (pc + 1) loc (vI z :: r) h
        | none => none
    | _ => none
  | .laload => match st with
    | .inl i :: .inr (.inr (.inl o)) :: r => match zm_ld 23 i o h with
      | some z => zn (pc + 1) loc (vL z :: r) h
      | none => none
    | _ => none
  | .iastore => match st with
    | .inl z :: .inl i :: .inr (.inr (.inl o)) :: r => match zm_stt 20 i o z h with
      | some h' => zn (pc + 1) loc r h'
      | none => none
    | _ => none
  | .bastore => match st with
    | .inl z :: .inl i :: .inr (.inr (.inl o)) :: r => match zm_stt 21 i o (zm_i2b z) h with
      | some h' => zn (pc + 1) loc r h'
      | none => match zm_stt 22 i o (zm_z1 z) h with
        | some h' => zn (pc + 1) loc r h'
        | none => none
    | _ => none
  | .lastore => match st with
    | .inr (.inl z) :: .inl i :: .inr (.inr (.inl o)) :: r => match zm_stt 23 i o z h with
      | some h' => zn (pc + 1) loc r h'
      | none => none
    | _ => none
  | .arraylength => match st with
    | .inr (.inr (.inl o)) :: r => match h.1[o]? with
      | some (t, n) => if 20 ≤ t ∧ t ≤ 23 then zn (pc + 1) loc (vI n :: r) h else none
      | none => none
    | .inr (.inr (.inr (.inl k))) :: r => if k = 1000 then zn (pc + 1) loc (vI X.1 :: r) h else none
    | _ => none
  | .newarray t => match st with
    | .inl n :: r => if (20 ≤ zm_at_code t ∧ zm_at_code t ≤ 23 ∧ 0 ≤ n32 n ∧ n32 n ≤ 100000) ∧ zm_no30 h.1 = true then
        zn (pc + 2) loc (vR h.1.length :: r) (h.1 ++ [(zm_at_code t, (n32 n).toNat)], fun a b => if a = h.1.length then 0 else h.2 a b) else none
    | _ => none
  | .new i => match zm_find zm_ckT (zm_oc M) i with
    | some ci => if zm_no30 h.1 = true then zn (pc + 3) loc (vR h.1.length :: st) (h.1 ++ [(ci, zm_nF ci)], fun a b => if a = h.1.length then zm_df (zm_tyF ci b) else h.2 a b) else none
    | none => if M = 164 ∧ st = [] ∧ pc = 74 then some (.inr (.inr none)) else none
  | .invokevirtual i => zm_inv X M pc i 0 loc st h
  | .invokestatic i => zm_inv X M pc i 1 loc st h
  | .invokespecial i => zm_inv X M pc i 2 loc st h
  | .ireturn => match st with
    | [.inl z] => match zm_rt M with
      | some .int => some (.inr (.inr (some [vI z])))
      | some .boolean => if n32 z = 0 ∨ n32 z = 1 then some (.inr (.inr (some [vI z]))) else none
      | _ => none
    | _ => none
  | .lreturn => match st with
    | [.inr (.inl z)] => match zm_rt M with
      | some .long => some (.inr (.inr (some [vL z])))
      | _ => none
    | _ => none
  | .return_ => match st with
    | [] => match zm_rt M with
      | none => some (.inr (.inr (some [])))
      | _ => none
    | _ => none
  | _ => none
def zm_grp (ins : Instr) : Nat := match ins with
  | .iconst _ | .bipush _ | .sipush _ | .lconst _ | .ldc _ | .ldc_w _ | .ldc2_w _ | .iload_n _ | .iload _ | .lload_n _ | .lload _ | .aload_n _ | .aload _ | .istore_n _ | .istore _ | .lstore_n _ | .lstore _ | .astore_n _ | .astore _ | .iinc _ _ => 1
  | .iadd | .isub | .imul | .idiv | .irem | .iand | .ior | .ixor | .ishl | .ishr | .ladd | .lsub | .lmul | .ldiv | .lrem | .lor | .lshl | .lcmp | .i2l | .i2b | .goto _ | .ifCond _ _ | .if_icmp _ _ | .tableswitch _ _ _ _ | .dup | .pop | .dup2 => 2
  | _ => 3
def zm_ex (X : Nat × (Nat → Int)) (M : Nat) (c : ZC) (ins : Instr) : Option ZN :=
  match zm_grp ins with
  | 1 => zm_ex1 M c.1 c.2.1 c.2.2.1 c.2.2.2 ins
  | 2 => zm_ex2 c.1 c.2.1 c.2.2.1 c.2.2.2 ins
  | _ => zm_ex3 X M c.1 c.2.1 c.2.2.1 c.2.2.2 ins
def zm_stp (X : Nat × (Nat → Int)) (M : Nat) (c : ZC) : Option ZN := match zm_ins M c.1 with
  | none => none
  | some (ins, len) => if zm_len ins = 0 ∨ len = zm_len ins then zm_ex X M c ins else none
/-- the catch of law.led -/
def zm_hd (M pc : Nat) (loc : List ZV) : Option (Nat × List ZV) := if M = 317 ∧ pc < 9 then (zm_s1 loc 3 vJ).map (fun l => (13, l)) else none
def zm_go (X : Nat × (Nat → Int)) : Nat → Nat → Nat → ZC → Option (Option (List ZV) × ZH)
  | 0, _, _, _ => none
  | n + 1, d, M, c => match zm_stp X M c with
    | none => none
    | some (.inl c') => zm_go X n d M c'
    | some (.inr (.inl (M', args, rest))) => match d with
      | 0 => none
      | d' + 1 => match zm_go X n d' M' (0, zm_en (zm_ml M') args, [], c.2.2.2) with
        | none => none
        | some (some out, h') => zm_go X n (d' + 1) M (c.1 + 3, c.2.1, out ++ rest, h')
        | some (none, h') => match zm_hd M c.1 c.2.1 with
          | none => none
          | some (pc', l') => zm_go X n (d' + 1) M (pc', l', [], (h'.1 ++ [(30, 6)], h'.2))
    | some (.inr (.inr o)) => some (o, c.2.2.2)

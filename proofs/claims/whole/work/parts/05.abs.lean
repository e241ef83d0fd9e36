/-! the abstract machine: values, heap, one step -/
abbrev ZV : Type := Int ⊕ Int ⊕ Nat ⊕ Nat ⊕ Bool
abbrev vI (z : Int) : ZV := .inl z
abbrev vL (z : Int) : ZV := .inr (.inl z)
abbrev vR (i : Nat) : ZV := .inr (.inr (.inl i))
abbrev vX (k : Nat) : ZV := .inr (.inr (.inr (.inl k)))
abbrev vN : ZV := .inr (.inr (.inr (.inr false)))
abbrev vJ : ZV := .inr (.inr (.inr (.inr true)))
abbrev ZH : Type := List (Nat × Nat) × (Nat → Nat → Int)
def n32 (z : Int) : Int := (Int32.ofInt z).toInt
def n64 (z : Int) : Int := (Int64.ofInt z).toInt
def zm_isL (v : ZV) : Bool := match v with
  | .inr (.inl _) => true
  | _ => false
def zm_cat (v : ZV) : Nat := if zm_isL v then 2 else 1
def zm_up (D : Nat → Nat → Int) (i k : Nat) (z : Int) : Nat → Nat → Int := fun a b => if a = i ∧ b = k then z else D a b
def zm_cp (D : Nat → Nat → Int) (a sp b dp n : Nat) : Nat → Nat → Int := fun x k => if x = b ∧ dp ≤ k ∧ k < dp + n then D a (sp + (k - dp)) else D x k
def zm_by (M : Nat) : ByteArray := match zm_mtL[M]? with
  | some e => e.2.1
  | none => code
def zm_ins (M pc : Nat) : Option (Instr × Nat) := match decode (zm_by M) pc with
  | .ok e => some e
  | .error _ => none
def zm_oc (M : Nat) : Nat := match zm_mtL[M]? with
  | some e => e.2.2.2.2.1
  | none => 0
def zm_ml (M : Nat) : Nat := match zm_mtL[M]? with
  | some e => e.2.2.1
  | none => 0
def zm_rt (M : Nat) : Option FieldType := match zm_mtL[M]? with
  | some e => e.2.2.2.1
  | none => none
def zm_na (M : Nat) : Nat := match zm_mtL[M]? with
  | some e => e.2.2.2.2.2
  | none => 0
def zm_find {α : Type} (t : List (List (Nat × α))) (o i : Nat) : Option α := match t[o]? with
  | some l => l.lookup i
  | none => none
def zm_tyF (ci k : Nat) : FieldType := match zm_ty[ci]? with
  | some f => f k
  | none => .int
def zm_nF (ci : Nat) : Nat := match vwCl[ci]? with
  | some q => q.2.2
  | none => 0
def zm_fin (ci k : Nat) : Bool := match vwCl[ci]? with
  | some q => (q.2.1 k).2.2.2
  | none => true
def zm_fv (ty : FieldType) (z : Int) : ZV := match ty with
  | .long => vL z
  | .object _ => if z < 0 then vN else vR z.toNat
  | .array _ => if z < 0 then vN else vR z.toNat
  | _ => vI z
def zm_fi (ty : FieldType) (v : ZV) : Option Int := match ty with
  | .int => match v with
    | .inl z => some z
    | _ => none
  | .boolean => match v with
    | .inl z => if n32 z = 0 ∨ n32 z = 1 then some z else none
    | _ => none
  | .long => match v with
    | .inr (.inl z) => some z
    | _ => none
  | .object _ => match v with
    | .inr (.inr (.inl i)) => some i
    | _ => none
  | .array _ => match v with
    | .inr (.inr (.inl i)) => some i
    | _ => none
  | _ => none
/-- a store of one word, of two -/
def zm_s1 (loc : List ZV) (i : Nat) (v : ZV) : Option (List ZV) :=
  if i < loc.length then
    match i with
    | 0 => some (loc.set 0 v)
    | j + 1 => match loc[j]? with
      | some (.inr (.inl _)) => some ((loc.set j vJ).set (j + 1) v)
      | _ => some (loc.set (j + 1) v)
  else none
def zm_s2 (loc : List ZV) (i : Nat) (v : ZV) : Option (List ZV) :=
  if i + 1 < loc.length then (zm_s1 loc i v).map (fun l => l.set (i + 1) vJ) else none
abbrev ZC : Type := Nat × List ZV × List ZV × ZH
abbrev ZN : Type := ZC ⊕ (Nat × List ZV × List ZV) ⊕ Option (List ZV)
abbrev zn (pc : Nat) (loc st : List ZV) (h : ZH) : Option ZN := some (.inl (pc, loc, st, h))
def zm_tgt (pc : Nat) (off : Int) : Nat := ((pc : Int) + off).toNat
def zm_ok (pc : Nat) (off : Int) : Bool := decide (0 ≤ (pc : Int) + off)
def zm_cmp (c : ClassFile.Cond) (a b : Int) : Bool := match c with
  | .eq => decide (n32 a = n32 b)
  | .ne => !decide (n32 a = n32 b)
  | .lt => decide (n32 a < n32 b)
  | .ge => decide (n32 b ≤ n32 a)
  | .gt => decide (n32 b < n32 a)
  | .le => decide (n32 a ≤ n32 b)
def zm_inb (i : Int) (n : Nat) : Bool := decide (0 ≤ n32 i) && decide (n32 i < n)
def zm_sh (h : ZH) (i : Nat) : Nat × Nat := match h.1[i]? with
  | some q => q
  | none => (99, 0)
def zm_csum (st : List ZV) : Nat := (st.map zm_cat).sum
def zm_at (c : ZC) : Nat := c.1

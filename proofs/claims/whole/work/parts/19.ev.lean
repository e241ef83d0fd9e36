/-! the abstract machine without fuel: equations -/
theorem zf_mono1 {X : Nat × (Nat → Int)} : ∀ (n d M : Nat) (c : ZC) (r : Option (List ZV) × ZH), zm_go X n d M c = some r → zm_go X (n + 1) d M c = some r := by
  intro n
  induction n with
  | zero => intro d M c r h; cases h
  | succ n ih =>
    intro d M c r h
    rw [zm_go] at h ⊢
    split at h
    · cases h
    next c' hs => exact ih d M c' r h
    next M' as rest hs =>
      cases d with
      | zero => cases h
      | succ d' =>
        simp only at h ⊢
        split at h
        · cases h
        next out h1 hc =>
          rw [ih _ _ _ _ hc]
          exact ih _ _ _ _ h
        next h1 hc =>
          rw [ih _ _ _ _ hc]
          simp only
          split at h
          · cases h
          next pc' l' hh => exact ih _ _ _ _ h
    next o hs => exact h
theorem zf_mono {X : Nat × (Nat → Int)} {n k d M : Nat} {c : ZC} {r : Option (List ZV) × ZH} (h : zm_go X n d M c = some r) : zm_go X (n + k) d M c = some r := by
  induction k with
  | zero => exact h
  | succ k ih => exact zf_mono1 _ _ _ _ _ ih
theorem zf_det {X : Nat × (Nat → Int)} {n k d M : Nat} {c : ZC} {r r' : Option (List ZV) × ZH} (h : zm_go X n d M c = some r) (h' : zm_go X k d M c = some r') : r = r' := by
  have h1 := zf_mono (k := k) h
  have h2 := zf_mono (k := n) h'
  rw [Nat.add_comm] at h2
  exact Option.some.inj (h1.symm.trans h2)
noncomputable def zf_ev (X : Nat × (Nat → Int)) (d M : Nat) (c : ZC) : Option (Option (List ZV) × ZH) :=
  (Classical.propDecidable (∃ r, ∃ n, zm_go X n d M c = some r)).byCases (fun h => some (Classical.choose h)) (fun _ => none)
theorem zf_ev_of {X : Nat × (Nat → Int)} {n d M : Nat} {c : ZC} {r : Option (List ZV) × ZH} (h : zm_go X n d M c = some r) : zf_ev X d M c = some r := by
  unfold zf_ev
  cases Classical.propDecidable (∃ r, ∃ n, zm_go X n d M c = some r) with
  | isTrue q =>
    obtain ⟨k, hk⟩ := Classical.choose_spec q
    exact congrArg some (zf_det hk h)
  | isFalse q => exact absurd ⟨r, n, h⟩ q
theorem zf_ev_to {X : Nat × (Nat → Int)} {d M : Nat} {c : ZC} {r : Option (List ZV) × ZH} (h : zf_ev X d M c = some r) : ∃ n, zm_go X n d M c = some r := by
  unfold zf_ev at h
  cases hq : Classical.propDecidable (∃ r, ∃ n, zm_go X n d M c = some r) with
  | isTrue q =>
    rw [hq] at h
    obtain ⟨k, hk⟩ := Classical.choose_spec q
    exact ⟨k, hk.trans h⟩
  | isFalse q => rw [hq] at h; cases h
theorem zf_ev_iff {X : Nat × (Nat → Int)} {d M : Nat} {c : ZC} {r : Option (List ZV) × ZH} : zf_ev X d M c = some r ↔ ∃ n, zm_go X n d M c = some r := ⟨zf_ev_to, fun ⟨_, h⟩ => zf_ev_of h⟩
theorem zf_ext {a b : Option (Option (List ZV) × ZH)} (h : ∀ r, a = some r ↔ b = some r) : a = b := by
  cases a with
  | none => cases b with
    | none => rfl
    | some r => exact ((h r).mpr rfl)
  | some r => exact ((h r).mp rfl).symm
theorem zf_step {X : Nat × (Nat → Int)} {d M : Nat} {c c' : ZC} (h : zm_stp X M c = some (.inl c')) : zf_ev X d M c = zf_ev X d M c' := by
  refine zf_ext (fun r => ?_)
  rw [zf_ev_iff, zf_ev_iff]
  constructor
  · rintro ⟨n, hn⟩
    cases n with
    | zero => cases hn
    | succ n =>
      rw [zm_go, h] at hn
      exact ⟨n, hn⟩
  · rintro ⟨n, hn⟩
    exact ⟨n + 1, by rw [zm_go, h]; exact hn⟩
theorem zf_ret {X : Nat × (Nat → Int)} {d M : Nat} {c : ZC} {o : Option (List ZV)} (h : zm_stp X M c = some (.inr (.inr o))) : zf_ev X d M c = some (o, c.2.2.2) := by
  refine zf_ev_of (n := 1) ?_
  rw [zm_go, h]
noncomputable def zf_k (X : Nat × (Nat → Int)) (d M pc : Nat) (loc st : List ZV) (r : Option (Option (List ZV) × ZH)) : Option (Option (List ZV) × ZH) := match r with
  | none => none
  | some (some out, h') => zf_ev X d M (pc + 3, loc, out ++ st, h')
  | some (none, h') => match zm_hd M pc loc with
    | none => none
    | some (pc', l') => zf_ev X d M (pc', l', [], (h'.1 ++ [(30, 6)], h'.2))
theorem zf_call {X : Nat × (Nat → Int)} {d M pc M' : Nat} {loc st as rest : List ZV} {h : ZH} (hs : zm_stp X M (pc, loc, st, h) = some (.inr (.inl (M', as, rest)))) : zf_ev X (d + 1) M (pc, loc, st, h) = zf_k X (d + 1) M pc loc rest (zf_ev X d M' (0, zm_en (zm_ml M') as, [], h)) := by
  refine zf_ext (fun r => ?_)
  rw [zf_ev_iff]
  constructor
  · rintro ⟨n, hn⟩
    cases n with
    | zero => cases hn
    | succ n =>
      rw [zm_go, hs] at hn
      simp only at hn
      split at hn
      · cases hn
      next out h1 hc =>
        rw [zf_ev_of hc]
        exact zf_ev_of hn
      next h1 hc =>
        rw [zf_ev_of hc]
        simp only [zf_k]
        split at hn
        · cases hn
        next pc' l' hh =>
          rw [hh]
          exact zf_ev_of hn
  · intro hk
    cases hq : zf_ev X d M' (0, zm_en (zm_ml M') as, [], h) with
    | none => rw [hq] at hk; cases hk
    | some q =>
      obtain ⟨o, h1⟩ := q
      rw [hq] at hk
      obtain ⟨n1, hn1⟩ := zf_ev_to hq
      cases o with
      | some out =>
        simp only [zf_k] at hk
        obtain ⟨n2, hn2⟩ := zf_ev_to hk
        refine ⟨n1 + n2 + 1, ?_⟩
        rw [zm_go, hs]
        simp only
        rw [zf_mono hn1]
        simp only
        rw [Nat.add_comm]
        exact zf_mono hn2
      | none =>
        simp only [zf_k] at hk
        split at hk
        · cases hk
        next pc' l' hh =>
          obtain ⟨n2, hn2⟩ := zf_ev_to hk
          refine ⟨n1 + n2 + 1, ?_⟩
          rw [zm_go, hs]
          simp only
          rw [zf_mono hn1]
          simp only [hh]
          rw [Nat.add_comm]
          exact zf_mono hn2
/-! the forms of the instructions -/
section ZI
variable {X : Nat × (Nat → Int)} {d M pc : Nat} {loc st : List ZV} {h : ZH} {sh : List (Nat × Nat)} {D : Nat → Nat → Int}
theorem zf_stp {ins : Instr} {len : Nat} {r : Option ZN} {st0 : List ZV} (hi : zm_ins M pc = some (ins, len)) (hl : (decide (zm_len ins = 0 ∨ len = zm_len ins)) = true) (hr : zm_ex X M (pc, loc, st0, h) ins = r) : zm_stp X M (pc, loc, st0, h) = r := by
  unfold zm_stp
  rw [hi]
  simp only
  rw [if_pos (of_decide_eq_true hl)]
  exact hr
theorem zf_i {cc : ByteArray} {ins : Instr} {len : Nat} (hb : zm_by M = cc) (hd : decode cc pc = .ok (ins, len)) : zm_ins M pc = some (ins, len) := by
  unfold zm_ins
  rw [hb, hd]
theorem zf_1 {ins : Instr} {len : Nat} {c' : ZC} {st0 : List ZV} (hi : zm_ins M pc = some (ins, len)) (hl : (decide (zm_len ins = 0 ∨ len = zm_len ins)) = true) (hr : zm_ex X M (pc, loc, st0, h) ins = some (.inl c')) : zf_ev X d M (pc, loc, st0, h) = zf_ev X d M c' := zf_step (zf_stp hi hl hr)
theorem zf_jmp_eq {off : Int} {tgt : Nat} {st0 : List ZV} (ht : decide ((pc : Int) + off = (tgt : Int)) = true) : zm_jmp pc off loc st0 h = some (.inl (tgt, loc, st0, h)) := by
  have ht := of_decide_eq_true ht
  unfold zm_jmp
  rw [if_pos (by omega)]
  have : zm_tgt pc off = tgt := by unfold zm_tgt; omega
  rw [this]
theorem zf_goto {off : Int} {tgt : Nat} (hi : zm_ins M pc = some (.goto off, 3)) (ht : decide ((pc : Int) + off = (tgt : Int)) = true) : zf_ev X d M (pc, loc, st, h) = zf_ev X d M (tgt, loc, st, h) := zf_1 hi rfl (zf_jmp_eq ht)
theorem zf_if {c : ClassFile.Cond} {off : Int} {tgt : Nat} {a : Int} (P : Prop) [Decidable P] (hi : zm_ins M pc = some (.ifCond c off, 3)) (ht : decide ((pc : Int) + off = (tgt : Int)) = true) (hP : zm_cmp c a 0 = decide P) : zf_ev X d M (pc, loc, vI a :: st, h) = if P then zf_ev X d M (tgt, loc, st, h) else zf_ev X d M (pc + 3, loc, st, h) := by
  have ht := of_decide_eq_true ht
  have e : zm_tgt pc off = tgt := by unfold zm_tgt; omega
  have hx : zm_ex X M (pc, loc, vI a :: st, h) (.ifCond c off) = some (.inl (if P then (tgt, loc, st, h) else (pc + 3, loc, st, h))) := by
    show (if 0 ≤ (pc : Int) + off then (if zm_cmp c a 0 = true then zn (zm_tgt pc off) loc st h else zn (pc + 3) loc st h) else none) = _
    rw [if_pos (by omega), hP, e]
    by_cases q : P
    · rw [if_pos (by simpa using q), if_pos q]
    · rw [if_neg (by simpa using q), if_neg q]
  rw [zf_1 hi rfl hx]
  by_cases q : P
  · rw [if_pos q, if_pos q]
  · rw [if_neg q, if_neg q]
theorem zf_icmp {c : ClassFile.Cond} {off : Int} {tgt : Nat} {a b : Int} (P : Prop) [Decidable P] (hi : zm_ins M pc = some (.if_icmp c off, 3)) (ht : decide ((pc : Int) + off = (tgt : Int)) = true) (hP : zm_cmp c a b = decide P) : zf_ev X d M (pc, loc, vI b :: vI a :: st, h) = if P then zf_ev X d M (tgt, loc, st, h) else zf_ev X d M (pc + 3, loc, st, h) := by
  have ht := of_decide_eq_true ht
  have e : zm_tgt pc off = tgt := by unfold zm_tgt; omega
  have hx : zm_ex X M (pc, loc, vI b :: vI a :: st, h) (.if_icmp c off) = some (.inl (if P then (tgt, loc, st, h) else (pc + 3, loc, st, h))) := by
    show (if 0 ≤ (pc : Int) + off then (if zm_cmp c a b = true then zn (zm_tgt pc off) loc st h else zn (pc + 3) loc st h) else none) = _
    rw [if_pos (by omega), hP, e]
    by_cases q : P
    · rw [if_pos (by simpa using q), if_pos q]
    · rw [if_neg (by simpa using q), if_neg q]
  rw [zf_1 hi rfl hx]
  by_cases q : P
  · rw [if_pos q, if_pos q]
  · rw [if_neg q, if_neg q]
theorem zf_c_eq (a b : Int) : zm_cmp .eq a b = decide (n32 a = n32 b) := rfl
theorem zf_c_ne (a b : Int) : zm_cmp .ne a b = decide (n32 a ≠ n32 b) := by
  simp only [zm_cmp]
  by_cases q : n32 a = n32 b <;> simp [q]
theorem zf_c_lt (a b : Int) : zm_cmp .lt a b = decide (n32 a < n32 b) := rfl
theorem zf_c_ge (a b : Int) : zm_cmp .ge a b = decide (n32 b ≤ n32 a) := rfl
theorem zf_c_gt (a b : Int) : zm_cmp .gt a b = decide (n32 b < n32 a) := rfl
theorem zf_c_le (a b : Int) : zm_cmp .le a b = decide (n32 a ≤ n32 b) := rfl
/-- a reference that a field holds -/
def zf_rf (z : Int) : ZV := if z < 0 then vN else vR z.toNat
theorem zf_rf_n (n : Nat) : zf_rf (n : Int) = vR n := by
  unfold zf_rf
  rw [if_neg (by omega)]
  simp
theorem zf_get {i ci k nf o : Nat} {v : ZV} (hi : zm_ins M pc = some (.getfield i, 3)) (hf : zm_find zm_fkT (zm_oc M) i = some (ci, k)) (hn : zm_nF ci = nf) (hty : zm_fv (zm_tyF ci k) (D o k) = v) (ho : sh[o]? = some (ci, nf)) : zf_ev X d M (pc, loc, vR o :: st, sh, D) = zf_ev X d M (pc + 3, loc, v :: st, sh, D) := by
  refine zf_1 hi rfl ?_
  show (match zm_find zm_fkT (zm_oc M) i with
      | some (ci, k) => if sh[o]? = some (ci, zm_nF ci) then zn (pc + 3) loc (zm_fv (zm_tyF ci k) (D o k) :: st) (sh, D) else none
      | none => none) = _
  rw [hf]
  simp only
  rw [hn, if_pos ho, hty]
theorem zf_put {i ci k nf o : Nat} {v : ZV} {z : Int} (hi : zm_ins M pc = some (.putfield i, 3)) (hf : zm_find zm_fkT (zm_oc M) i = some (ci, k)) (hn : zm_nF ci = nf) (hfin : (!zm_fin ci k || zm_isI M ci) = true) (hz : zm_fi (zm_tyF ci k) v = some z) (ho : sh[o]? = some (ci, nf)) : zf_ev X d M (pc, loc, v :: vR o :: st, sh, D) = zf_ev X d M (pc + 3, loc, st, sh, zm_up D o k z) := by
  refine zf_1 hi rfl ?_
  show (match zm_find zm_fkT (zm_oc M) i with
      | some (ci, k) => if sh[o]? = some (ci, zm_nF ci) ∧ (zm_fin ci k = false ∨ zm_isI M ci = true) then (match zm_fi (zm_tyF ci k) v with
        | some z => zn (pc + 3) loc st (sh, zm_up D o k z)
        | none => none) else none
      | none => none) = _
  rw [hf]
  simp only
  rw [hn, if_pos ⟨ho, by simpa using hfin⟩, hz]
theorem zf_ld {tc o n : Nat} {i : Int} (ho : sh[o]? = some (tc, n)) (h1 : 0 ≤ n32 i) (h2 : n32 i < n) : zm_ld tc i o (sh, D) = some (D o (n32 i).toNat) := by
  unfold zm_ld
  simp only [ho]
  rw [if_pos ⟨by trivial, by simp [zm_inb, h1, h2]⟩]
theorem zf_sto {tc o n : Nat} {i z : Int} (ho : sh[o]? = some (tc, n)) (h1 : 0 ≤ n32 i) (h2 : n32 i < n) : zm_stt tc i o z (sh, D) = some (sh, zm_up D o (n32 i).toNat z) := by
  unfold zm_stt
  simp only [ho]
  rw [if_pos ⟨by trivial, by simp [zm_inb, h1, h2]⟩]
theorem zf_iald {o n : Nat} {i : Int} (hi : zm_ins M pc = some (.iaload, 1)) (ho : sh[o]? = some (20, n)) (h1 : 0 ≤ n32 i) (h2 : n32 i < n) : zf_ev X d M (pc, loc, vI i :: vR o :: st, sh, D) = zf_ev X d M (pc + 1, loc, vI (D o (n32 i).toNat) :: st, sh, D) := by
  refine zf_1 hi rfl ?_
  show (match zm_ld 20 i o (sh, D) with
      | some z => zn (pc + 1) loc (vI z :: st) (sh, D)
      | none => none) = _
  rw [zf_ld ho h1 h2]
theorem zf_xald {i : Int} (hi : zm_ins M pc = some (.iaload, 1)) (h1 : 0 ≤ n32 i) (h2 : n32 i < X.1) : zf_ev X d M (pc, loc, vI i :: vX 1000 :: st, h) = zf_ev X d M (pc + 1, loc, vI (X.2 (n32 i).toNat) :: st, h) := by
  refine zf_1 hi rfl ?_
  show (if (1000 : Nat) = 1000 ∧ zm_inb i X.1 = true then zn (pc + 1) loc (vI (X.2 (n32 i).toNat) :: st) h else none) = _
  rw [if_pos ⟨by trivial, by simp [zm_inb, h1, h2]⟩]
theorem zf_bald {o n : Nat} {i : Int} (hi : zm_ins M pc = some (.baload, 1)) (ho : sh[o]? = some (21, n)) (h1 : 0 ≤ n32 i) (h2 : n32 i < n) : zf_ev X d M (pc, loc, vI i :: vR o :: st, sh, D) = zf_ev X d M (pc + 1, loc, vI (D o (n32 i).toNat) :: st, sh, D) := by
  refine zf_1 hi rfl ?_
  show (match zm_ld 21 i o (sh, D) with
      | some z => zn (pc + 1) loc (vI z :: st) (sh, D)
      | none => match zm_ld 22 i o (sh, D) with
        | some z => zn (pc + 1) loc (vI z :: st) (sh, D)
        | none => none) = _
  rw [zf_ld ho h1 h2]
theorem zf_zald {o n : Nat} {i : Int} (hi : zm_ins M pc = some (.baload, 1)) (ho : sh[o]? = some (22, n)) (h1 : 0 ≤ n32 i) (h2 : n32 i < n) : zf_ev X d M (pc, loc, vI i :: vR o :: st, sh, D) = zf_ev X d M (pc + 1, loc, vI (D o (n32 i).toNat) :: st, sh, D) := by
  refine zf_1 hi rfl ?_
  show (match zm_ld 21 i o (sh, D) with
      | some z => zn (pc + 1) loc (vI z :: st) (sh, D)
      | none => match zm_ld 22 i o (sh, D) with
        | some z => zn (pc + 1) loc (vI z :: st) (sh, D)
        | none => none) = _
  rw [show zm_ld 21 i o (sh, D) = none by simp [zm_ld, ho], zf_ld ho h1 h2]
theorem zf_lald {o n : Nat} {i : Int} (hi : zm_ins M pc = some (.laload, 1)) (ho : sh[o]? = some (23, n)) (h1 : 0 ≤ n32 i) (h2 : n32 i < n) : zf_ev X d M (pc, loc, vI i :: vR o :: st, sh, D) = zf_ev X d M (pc + 1, loc, vL (D o (n32 i).toNat) :: st, sh, D) := by
  refine zf_1 hi rfl ?_
  show (match zm_ld 23 i o (sh, D) with
      | some z => zn (pc + 1) loc (vL z :: st) (sh, D)
      | none => none) = _
  rw [zf_ld ho h1 h2]
theorem zf_iast {o n : Nat} {i z : Int} (hi : zm_ins M pc = some (.iastore, 1)) (ho : sh[o]? = some (20, n)) (h1 : 0 ≤ n32 i) (h2 : n32 i < n) : zf_ev X d M (pc, loc, vI z :: vI i :: vR o :: st, sh, D) = zf_ev X d M (pc + 1, loc, st, sh, zm_up D o (n32 i).toNat z) := by
  refine zf_1 hi rfl ?_
  show (match zm_stt 20 i o z (sh, D) with
      | some h' => zn (pc + 1) loc st h'
      | none => none) = _
  rw [zf_sto ho h1 h2]
theorem zf_last {o n : Nat} {i z : Int} (hi : zm_ins M pc = some (.lastore, 1)) (ho : sh[o]? = some (23, n)) (h1 : 0 ≤ n32 i) (h2 : n32 i < n) : zf_ev X d M (pc, loc, vL z :: vI i :: vR o :: st, sh, D) = zf_ev X d M (pc + 1, loc, st, sh, zm_up D o (n32 i).toNat z) := by
  refine zf_1 hi rfl ?_
  show (match zm_stt 23 i o z (sh, D) with
      | some h' => zn (pc + 1) loc st h'
      | none => none) = _
  rw [zf_sto ho h1 h2]
theorem zf_bast {o n : Nat} {i z : Int} (hi : zm_ins M pc = some (.bastore, 1)) (ho : sh[o]? = some (21, n)) (h1 : 0 ≤ n32 i) (h2 : n32 i < n) : zf_ev X d M (pc, loc, vI z :: vI i :: vR o :: st, sh, D) = zf_ev X d M (pc + 1, loc, st, sh, zm_up D o (n32 i).toNat (zm_i2b z)) := by
  refine zf_1 hi rfl ?_
  show (match zm_stt 21 i o (zm_i2b z) (sh, D) with
      | some h' => zn (pc + 1) loc st h'
      | none => match zm_stt 22 i o (zm_z1 z) (sh, D) with
        | some h' => zn (pc + 1) loc st h'
        | none => none) = _
  rw [zf_sto ho h1 h2]
theorem zf_zast {o n : Nat} {i z : Int} (hi : zm_ins M pc = some (.bastore, 1)) (ho : sh[o]? = some (22, n)) (h1 : 0 ≤ n32 i) (h2 : n32 i < n) : zf_ev X d M (pc, loc, vI z :: vI i :: vR o :: st, sh, D) = zf_ev X d M (pc + 1, loc, st, sh, zm_up D o (n32 i).toNat (zm_z1 z)) := by
  refine zf_1 hi rfl ?_
  show (match zm_stt 21 i o (zm_i2b z) (sh, D) with
      | some h' => zn (pc + 1) loc st h'
      | none => match zm_stt 22 i o (zm_z1 z) (sh, D) with
        | some h' => zn (pc + 1) loc st h'
        | none => none) = _
  rw [show zm_stt 21 i o (zm_i2b z) (sh, D) = none by simp [zm_stt, ho], zf_sto ho h1 h2]
theorem zf_alen {o t n : Nat} (hi : zm_ins M pc = some (.arraylength, 1)) (ho : sh[o]? = some (t, n)) (h1 : 20 ≤ t) (h2 : t ≤ 23) : zf_ev X d M (pc, loc, vR o :: st, sh, D) = zf_ev X d M (pc + 1, loc, vI n :: st, sh, D) := by
  refine zf_1 hi rfl ?_
  show (match sh[o]? with
      | some (t, n) => if 20 ≤ t ∧ t ≤ 23 then zn (pc + 1) loc (vI n :: st) (sh, D) else none
      | none => none) = _
  rw [ho]
  simp only
  rw [if_pos ⟨h1, h2⟩]
theorem zf_div {a b : Int} (hi : zm_ins M pc = some (.idiv, 1)) (hb : n32 b ≠ 0) : zf_ev X d M (pc, loc, vI b :: vI a :: st, h) = zf_ev X d M (pc + 1, loc, vI ((n32 a).tdiv (n32 b)) :: st, h) := by
  refine zf_1 hi rfl ?_
  show (match (if n32 b = 0 then none else some ((n32 a).tdiv (n32 b))) with
      | some z => zn (pc + 1) loc (vI z :: st) h
      | none => none) = _
  rw [if_neg hb]
theorem zf_rem {a b : Int} (hi : zm_ins M pc = some (.irem, 1)) (hb : n32 b ≠ 0) : zf_ev X d M (pc, loc, vI b :: vI a :: st, h) = zf_ev X d M (pc + 1, loc, vI ((n32 a).tmod (n32 b)) :: st, h) := by
  refine zf_1 hi rfl ?_
  show (match (if n32 b = 0 then none else some ((n32 a).tmod (n32 b))) with
      | some z => zn (pc + 1) loc (vI z :: st) h
      | none => none) = _
  rw [if_neg hb]
theorem zf_ldiv {a b : Int} (hi : zm_ins M pc = some (.ldiv, 1)) (hb : n64 b ≠ 0) : zf_ev X d M (pc, loc, vL b :: vL a :: st, h) = zf_ev X d M (pc + 1, loc, vL ((n64 a).tdiv (n64 b)) :: st, h) := by
  refine zf_1 hi rfl ?_
  show (match (if n64 b = 0 then none else some ((n64 a).tdiv (n64 b))) with
      | some z => zn (pc + 1) loc (vL z :: st) h
      | none => none) = _
  rw [if_neg hb]
theorem zf_lrem {a b : Int} (hi : zm_ins M pc = some (.lrem, 1)) (hb : n64 b ≠ 0) : zf_ev X d M (pc, loc, vL b :: vL a :: st, h) = zf_ev X d M (pc + 1, loc, vL ((n64 a).tmod (n64 b)) :: st, h) := by
  refine zf_1 hi rfl ?_
  show (match (if n64 b = 0 then none else some ((n64 a).tmod (n64 b))) with
      | some z => zn (pc + 1) loc (vL z :: st) h
      | none => none) = _
  rw [if_neg hb]
/-- a store into the locals, none of whose neighbours is a long -/
theorem zf_s1 {i : Nat} {v : ZV} (hi : i < loc.length) (hn : i = 0 ∨ ∃ w, loc[i - 1]? = some w ∧ zm_isL w = false) : zm_s1 loc i v = some (loc.set i v) := by
  unfold zm_s1
  rw [if_pos hi]
  match i, hi, hn with
  | 0, _, _ => rfl
  | j + 1, hi, hn =>
    simp only
    rcases hn with q | ⟨w, q1, q2⟩
    · cases q
    · simp only [Nat.add_sub_cancel] at q1
      rw [q1]
      rcases w with z | z | z | z | z
      · rfl
      · simp [zm_isL] at q2
      · rfl
      · rfl
      · rfl
theorem zf_s2 {i : Nat} {v : ZV} (hi : i + 1 < loc.length) (hn : i = 0 ∨ ∃ w, loc[i - 1]? = some w ∧ zm_isL w = false) : zm_s2 loc i v = some ((loc.set i v).set (i + 1) vJ) := by
  unfold zm_s2
  rw [if_pos hi, zf_s1 (by omega) hn]
  rfl
theorem zf_ist {i : Nat} {z : Int} {ins : Instr} {n : Nat} (hi : zm_ins M pc = some (ins, n)) (hins : (ins = .istore i ∧ n = 2) ∨ (∃ k : Fin 4, (k : Nat) = i ∧ ins = .istore_n k ∧ n = 1)) (hl : i < loc.length) (hn : i = 0 ∨ ∃ w, loc[i - 1]? = some w ∧ zm_isL w = false) : zf_ev X d M (pc, loc, vI z :: st, h) = zf_ev X d M (pc + n, loc.set i (vI z), st, h) := by
  rcases hins with ⟨rfl, rfl⟩ | ⟨k, rfl, rfl, rfl⟩
  · refine zf_1 hi rfl ?_
    show (match zm_s1 loc i (vI z) with
      | some l => zn (pc + 2) l st h
      | none => none) = _
    rw [zf_s1 hl hn]
  · refine zf_1 hi rfl ?_
    show (match zm_s1 loc k (vI z) with
      | some l => zn (pc + 1) l st h
      | none => none) = _
    rw [zf_s1 hl hn]
theorem zf_lst {i : Nat} {z : Int} {ins : Instr} {n : Nat} (hi : zm_ins M pc = some (ins, n)) (hins : (ins = .lstore i ∧ n = 2) ∨ (∃ k : Fin 4, (k : Nat) = i ∧ ins = .lstore_n k ∧ n = 1)) (hl : i + 1 < loc.length) (hn : i = 0 ∨ ∃ w, loc[i - 1]? = some w ∧ zm_isL w = false) : zf_ev X d M (pc, loc, vL z :: st, h) = zf_ev X d M (pc + n, (loc.set i (vL z)).set (i + 1) vJ, st, h) := by
  rcases hins with ⟨rfl, rfl⟩ | ⟨k, rfl, rfl, rfl⟩
  · refine zf_1 hi rfl ?_
    show (match zm_s2 loc i (vL z) with
      | some l => zn (pc + 2) l st h
      | none => none) = _
    rw [zf_s2 hl hn]
  · refine zf_1 hi rfl ?_
    show (match zm_s2 loc k (vL z) with
      | some l => zn (pc + 1) l st h
      | none => none) = _
    rw [zf_s2 hl hn]
theorem zf_ast {i o : Nat} {ins : Instr} {n : Nat} (hi : zm_ins M pc = some (ins, n)) (hins : (ins = .astore i ∧ n = 2) ∨ (∃ k : Fin 4, (k : Nat) = i ∧ ins = .astore_n k ∧ n = 1)) (hl : i < loc.length) (hn : i = 0 ∨ ∃ w, loc[i - 1]? = some w ∧ zm_isL w = false) : zf_ev X d M (pc, loc, vR o :: st, h) = zf_ev X d M (pc + n, loc.set i (vR o), st, h) := by
  rcases hins with ⟨rfl, rfl⟩ | ⟨k, rfl, rfl, rfl⟩
  · refine zf_1 hi rfl ?_
    show (match zm_s1 loc i (vR o) with
      | some l => zn (pc + 2) l st h
      | none => none) = _
    rw [zf_s1 hl hn]
  · refine zf_1 hi rfl ?_
    show (match zm_s1 loc k (vR o) with
      | some l => zn (pc + 1) l st h
      | none => none) = _
    rw [zf_s1 hl hn]
theorem zf_iinc {i : Nat} {z n : Int} (hi : zm_ins M pc = some (.iinc i n, 3)) (hl : loc[i]? = some (vI z)) (hn : i = 0 ∨ ∃ w, loc[i - 1]? = some w ∧ zm_isL w = false) : zf_ev X d M (pc, loc, st, h) = zf_ev X d M (pc + 3, loc.set i (vI (z + n)), st, h) := by
  refine zf_1 hi rfl ?_
  show (match loc[i]? with
    | some (.inl z) => match zm_s1 loc i (vI (z + n)) with
      | some l => zn (pc + 3) l st h
      | none => none
    | _ => none) = _
  rw [hl]
  simp only
  rw [zf_s1 (List.getElem?_eq_some_iff.mp hl).1 hn]
/-- a call -/
theorem zf_stp_call {i kind tgt : Nat} {y : MethodName} {ins : Instr} {ra : List ZV} (hi : zm_ins M pc = some (ins, 3)) (hins : (ins = .invokevirtual i ∧ kind = 0) ∨ (ins = .invokestatic i ∧ kind = 1) ∨ (ins = .invokespecial i ∧ kind = 2)) (hl : zm_find zm_lkT (zm_oc M) i = some (kind, tgt, y)) (hn : zm_cn2 kind tgt = ra.length) (ht : tgt ≤ 317) (hj : zm_noJ ra = true)
    (hf : (zm_fl ra.reverse).length ≤ zm_ml tgt) (hc : zm_csum st ≤ 8) (hr : kind = 1 ∨ zm_rcv tgt ra.reverse h = true) : zm_stp X M (pc, loc, ra ++ st, h) = some (.inr (.inl (tgt, ra.reverse, st))) := by
  have hk2 : kind ≤ 2 := by rcases hins with ⟨-, q⟩ | ⟨-, q⟩ | ⟨-, q⟩ <;> omega
  have hcall : zm_call kind tgt (ra ++ st) h = some (.inr (.inl (tgt, ra.reverse, st))) := by
    unfold zm_call
    rw [hn, List.take_left, List.drop_left, if_pos]
    refine ⟨?_, hr⟩
    simp only [zm_cok, List.take_left, List.drop_left, Bool.and_eq_true, decide_eq_true_eq]
    exact ⟨⟨⟨⟨by simp, ht⟩, hc⟩, hj⟩, hf⟩
  have hinv : ∀ op, op = kind → zm_inv X M pc i op loc (ra ++ st) h = some (.inr (.inl (tgt, ra.reverse, st))) := fun op ho => by
    unfold zm_inv
    rw [hl]
    simp only
    rw [if_pos hk2, if_pos ho.symm]
    exact hcall
  rcases hins with ⟨rfl, rfl⟩ | ⟨rfl, rfl⟩ | ⟨rfl, rfl⟩
  · exact zf_stp hi rfl (hinv 0 rfl)
  · exact zf_stp hi rfl (hinv 1 rfl)
  · exact zf_stp hi rfl (hinv 2 rfl)
theorem zf_inv {i kind tgt : Nat} {y : MethodName} {ins : Instr} {ra en : List ZV} (hi : zm_ins M pc = some (ins, 3)) (hins : (ins = .invokevirtual i ∧ kind = 0) ∨ (ins = .invokestatic i ∧ kind = 1) ∨ (ins = .invokespecial i ∧ kind = 2)) (hl : zm_find zm_lkT (zm_oc M) i = some (kind, tgt, y)) (hn : zm_cn2 kind tgt = ra.length) (ht : tgt ≤ 317) (hj : zm_noJ ra = true)
    (hf : (zm_fl ra.reverse).length ≤ zm_ml tgt) (hen : zm_en (zm_ml tgt) ra.reverse = en) (hc : zm_csum st ≤ 8) (hr : kind = 1 ∨ zm_rcv tgt ra.reverse h = true) : zf_ev X (d + 1) M (pc, loc, ra ++ st, h) = zf_k X (d + 1) M pc loc st (zf_ev X d tgt (0, en, [], h)) := by
  rw [zf_call (zf_stp_call hi hins hl hn ht hj hf hc hr), hen]
theorem zf_rcv {tgt o ci nf : Nat} {r : List ZV} (h1 : zm_oc tgt = ci) (h2 : zm_nF ci = nf) (ho : sh[o]? = some (ci, nf)) : zm_rcv tgt (vR o :: r) (sh, D) = true := by
  simp only [zm_rcv, h1, h2]
  exact decide_eq_true ho
theorem zf_k1 {out : List ZV} : zf_k X d M pc loc st (some (some out, h)) = zf_ev X d M (pc + 3, loc, out ++ st, h) := rfl
end ZI
section ZI2
variable {X : Nat × (Nat → Int)} {d M pc : Nat} {loc st : List ZV} {h : ZH} {sh : List (Nat × Nat)} {D : Nat → Nat → Int}
theorem zf_sw_out {dflt lo hi : Int} {offs : Array Int} {len tgt : Nat} {a : Int} (hi0 : zm_ins M pc = some (.tableswitch dflt lo hi offs, len)) (h0 : decide (0 ≤ (pc : Int) + dflt) = true) (ha : n32 a < lo ∨ hi < n32 a) (ht : zm_tgt pc dflt = tgt) : zf_ev X d M (pc, loc, vI a :: st, h) = zf_ev X d M (tgt, loc, st, h) := by
  refine zf_1 hi0 rfl ?_
  show (if n32 a < lo ∨ hi < n32 a then zm_jmp pc dflt loc st h else match offs[(n32 a - lo).toNat]? with
      | some off => zm_jmp pc off loc st h
      | none => none) = _
  rw [if_pos ha]
  unfold zm_jmp
  rw [if_pos (of_decide_eq_true h0), ht]
theorem zf_sw_in {dflt lo hi off : Int} {offs : Array Int} {len tgt : Nat} {a z : Int} (hi0 : zm_ins M pc = some (.tableswitch dflt lo hi offs, len)) (h0 : decide (0 ≤ (pc : Int) + off) = true) (q : Nat) (ha : n32 a = z) (h1 : decide (lo ≤ z ∧ z ≤ hi) = true) (h2 : decide ((z - lo).toNat = q) = true) (ho : offs[q]? = some off) (ht : zm_tgt pc off = tgt) : zf_ev X d M (pc, loc, vI a :: st, h) = zf_ev X d M (tgt, loc, st, h) := by
  refine zf_1 hi0 rfl ?_
  show (if n32 a < lo ∨ hi < n32 a then zm_jmp pc dflt loc st h else match offs[(n32 a - lo).toNat]? with
      | some off => zm_jmp pc off loc st h
      | none => none) = _
  have h1 := of_decide_eq_true h1
  rw [if_neg (by omega), ha, of_decide_eq_true h2, ho]
  simp only
  unfold zm_jmp
  rw [if_pos (of_decide_eq_true h0), ht]
theorem zf_newa {t : ArrayType} {n : Int} (hi : zm_ins M pc = some (.newarray t, 2)) (ht1 : 20 ≤ zm_at_code t) (ht2 : zm_at_code t ≤ 23) (h1 : 0 ≤ n32 n) (h2 : n32 n ≤ 100000) (h30 : zm_no30 sh = true) : zf_ev X d M (pc, loc, vI n :: st, sh, D) = zf_ev X d M (pc + 2, loc, vR sh.length :: st, sh ++ [(zm_at_code t, (n32 n).toNat)], fun a b => if a = sh.length then 0 else D a b) := by
  refine zf_1 hi rfl ?_
  show (if (20 ≤ zm_at_code t ∧ zm_at_code t ≤ 23 ∧ 0 ≤ n32 n ∧ n32 n ≤ 100000) ∧ zm_no30 sh = true then zn (pc + 2) loc (vR sh.length :: st) (sh ++ [(zm_at_code t, (n32 n).toNat)], fun a b => if a = sh.length then 0 else D a b) else none) = _
  rw [if_pos ⟨⟨ht1, ht2, h1, h2⟩, h30⟩]
theorem zf_new {i ci nf : Nat} (hi : zm_ins M pc = some (.new i, 3)) (hf : zm_find zm_ckT (zm_oc M) i = some ci) (hn : zm_nF ci = nf) (h30 : zm_no30 sh = true) : zf_ev X d M (pc, loc, st, sh, D) = zf_ev X d M (pc + 3, loc, vR sh.length :: st, sh ++ [(ci, nf)], fun a b => if a = sh.length then zm_df (zm_tyF ci b) else D a b) := by
  refine zf_1 hi rfl ?_
  show (match zm_find zm_ckT (zm_oc M) i with
    | some ci => if zm_no30 sh = true then zn (pc + 3) loc (vR sh.length :: st) (sh ++ [(ci, zm_nF ci)], fun a b => if a = sh.length then zm_df (zm_tyF ci b) else D a b) else none
    | none => if M = 164 ∧ st = [] ∧ pc = 74 then some (.inr (.inr none)) else none) = _
  rw [hf]
  simp only
  rw [hn, if_pos h30]
theorem zf_obj {i t o : Nat} {y : MethodName} (hl : zm_find zm_lkT (zm_oc M) i = some (3, t, y)) (hc : zm_csum st ≤ 8) : zm_ex X M (pc, loc, vR o :: st, h) (.invokespecial i) = some (.inl (pc + 3, loc, st, h)) := by
  show zm_inv X M pc i 2 loc (vR o :: st) h = _
  unfold zm_inv
  rw [hl]
  simp only
  rw [if_neg (by decide), if_pos trivial, if_pos hc]
theorem zf_csum2 {a b : Int} (hc : zm_csum st ≤ 8) : zm_csum (vI b :: vI a :: st) ≤ 10 := by
  simp [zm_csum, zm_cat, zm_isL] at hc ⊢
  omega
theorem zf_m4 {i t : Nat} {y : MethodName} {a b : Int} (hl : zm_find zm_lkT (zm_oc M) i = some (4, t, y)) (hc : zm_csum st ≤ 8) : zm_ex X M (pc, loc, vI b :: vI a :: st, h) (.invokestatic i) = some (.inl (pc + 3, loc, vI (if n32 a < n32 b then b else a) :: st, h)) := by
  show zm_inv X M pc i 1 loc (vI b :: vI a :: st) h = _
  unfold zm_inv
  rw [hl]
  simp only
  rw [if_neg (by decide), if_pos trivial, if_pos (zf_csum2 hc)]
  rfl
theorem zf_m5 {i t : Nat} {y : MethodName} {a b : Int} (hl : zm_find zm_lkT (zm_oc M) i = some (5, t, y)) (hc : zm_csum st ≤ 8) : zm_ex X M (pc, loc, vI b :: vI a :: st, h) (.invokestatic i) = some (.inl (pc + 3, loc, vI (if n32 b < n32 a then b else a) :: st, h)) := by
  show zm_inv X M pc i 1 loc (vI b :: vI a :: st) h = _
  unfold zm_inv
  rw [hl]
  simp only
  rw [if_neg (by decide), if_pos trivial, if_pos (zf_csum2 hc)]
  rfl
theorem zf_m6 {i t : Nat} {y : MethodName} {a : Int} (hl : zm_find zm_lkT (zm_oc M) i = some (6, t, y)) (hc : zm_csum st ≤ 8) : zm_ex X M (pc, loc, vI a :: st, h) (.invokestatic i) = some (.inl (pc + 3, loc, vI (if 0 ≤ n32 a then a else 0 - a) :: st, h)) := by
  show zm_inv X M pc i 1 loc (vI a :: st) h = _
  unfold zm_inv
  rw [hl]
  simp only
  rw [if_neg (by decide), if_pos trivial, if_pos hc]
theorem zf_m7 {i t a b na nb : Nat} {y : MethodName} {n dp sp : Int} (hl : zm_find zm_lkT (zm_oc M) i = some (7, t, y)) (ha : sh[a]? = some (20, na)) (hb : sh[b]? = some (20, nb)) (h1 : 0 ≤ n32 n) (h2 : 0 ≤ n32 dp) (h3 : 0 ≤ n32 sp) (h4 : (n32 sp).toNat + (n32 n).toNat ≤ na) (h5 : (n32 dp).toNat + (n32 n).toNat ≤ nb) (hc : zm_csum st ≤ 8) :
    zm_ex X M (pc, loc, vI n :: vI dp :: vR b :: vI sp :: vR a :: st, sh, D) (.invokestatic i) = some (.inl (pc + 3, loc, st, sh, zm_cp D a (n32 sp).toNat b (n32 dp).toNat (n32 n).toNat)) := by
  show zm_inv X M pc i 1 loc (vI n :: vI dp :: vR b :: vI sp :: vR a :: st) (sh, D) = _
  unfold zm_inv
  rw [hl]
  simp only
  rw [if_neg (by decide), if_pos trivial, ha, hb]
  simp only
  rw [if_pos ⟨trivial, trivial, h1, h2, h3, h4, h5, hc⟩]
theorem zf_m8 {i t q : Nat} {y : MethodName} {cs : List Int} (hl : zm_find zm_lkT (zm_oc M) i = some (8, t, y)) (hq : zm_chars[q]? = some cs) (hc : zm_csum st ≤ 8) : zm_ex X M (pc, loc, vX q :: st, h) (.invokevirtual i) = some (.inl (pc + 3, loc, vI cs.length :: st, h)) := by
  show zm_inv X M pc i 0 loc (vX q :: st) h = _
  unfold zm_inv
  rw [hl]
  simp only
  rw [if_neg (by decide), if_pos trivial, hq]
  simp only
  rw [if_pos hc]
theorem zf_m9 {i t q : Nat} {y : MethodName} {cs : List Int} {j : Int} (hl : zm_find zm_lkT (zm_oc M) i = some (9, t, y)) (hq : zm_chars[q]? = some cs) (h1 : 0 ≤ n32 j) (h2 : n32 j < cs.length) (hc : zm_csum st ≤ 8) : zm_ex X M (pc, loc, vI j :: vX q :: st, h) (.invokevirtual i) = some (.inl (pc + 3, loc, vI (cs.getD (n32 j).toNat 0) :: st, h)) := by
  show zm_inv X M pc i 0 loc (vI j :: vX q :: st) h = _
  unfold zm_inv
  rw [hl]
  simp only
  rw [if_neg (by decide), if_pos trivial, hq]
  simp only
  rw [if_pos ⟨hc, by simp [zm_inb, h1, h2]⟩]
end ZI2

/-! the heap in the shape that it has from the prologue on; E holds what is no reference, by whole numbers -/
def zSh : List (Nat × Nat) := [(10, 13), (7, 10), (9, 8), (21, 900), (23, 10), (22, 7), (5, 5), (20, 624), (20, 117), (4, 7), (0, 1), (20, 18), (20, 4), (23, 4), (23, 7), (6, 12), (20, 39), (20, 6), (20, 6), (20, 144), (20, 144), (2, 11), (20, 7), (20, 7), (20, 125), (20, 125), (20, 12), (20, 7), (8, 4), (20, 6), (20, 4), (20, 6), (20, 6), (1, 7), (0, 1), (20, 18), (20, 4), (20, 6), (20, 4), (20, 6), (3, 16), (20, 39), (20, 6), (20, 6), (20, 3), (20, 3), (20, 5), (20, 5), (20, 5), (20, 4), (3, 16), (20, 39), (20, 6), (20, 6), (20, 3), (20, 3), (20, 5), (20, 5), (20, 5), (20, 4), (11, 38), (20, 900), (20, 8), (20, 171), (20, 171), (20, 39), (20, 624), (20, 117), (20, 7), (20, 8), (20, 4), (20, 6), (23, 8), (20, 144), (20, 144), (20, 12), (20, 6), (23, 1)]
def zRf (p q a b : Nat) : Option Nat := if a = 0 then (if b = 0 then some 2 else if b = 1 then some 1 else if b = 2 then some 6 else if b = 3 then some 9 else if b = 4 then some 15 else if b = 5 then some 21 else if b = 6 then some 28 else if b = 7 then some 33 else if b = 8 then some p else if b = 9 then some q else none) else if a = 1 then (if b = 0 then some 2 else if b = 1 then some 4 else if b = 2 then some 5 else none) else if a = 2 then (if b = 0 then some 3 else none) else if a = 6 then (if b = 0 then some 7 else if b = 1 then some 8 else none) else if a = 9 then (if b = 0 then some 10 else if b = 1 then some 12 else if b = 2 then some 13 else if b = 3 then some 14 else none) else if a = 10 then (if b = 0 then some 11 else none) else if a = 15 then (if b = 0 then some 16 else if b = 1 then some 17 else if b = 2 then some 18 else if b = 3 then some 19 else if b = 4 then some 20 else none) else if a = 21 then (if b = 0 then some 22 else if b = 1 then some 23 else if b = 2 then some 24 else if b = 3 then some 25 else if b = 4 then some 26 else if b = 5 then some 27 else none) else if a = 28 then (if b = 0 then some 29 else if b = 1 then some 30 else if b = 2 then some 31 else if b = 3 then some 32 else none) else if a = 33 then (if b = 0 then some 34 else if b = 1 then some 36 else if b = 2 then some 37 else if b = 3 then some 38 else if b = 4 then some 39 else none) else if a = 34 then (if b = 0 then some 35 else none) else if a = 40 then (if b = 0 then some 41 else if b = 1 then some 42 else if b = 2 then some 43 else if b = 3 then some 44 else if b = 4 then some 45 else if b = 5 then some 46 else if b = 6 then some 47 else if b = 7 then some 48 else if b = 8 then some 49 else none) else if a = 50 then (if b = 0 then some 51 else if b = 1 then some 52 else if b = 2 then some 53 else if b = 3 then some 54 else if b = 4 then some 55 else if b = 5 then some 56 else if b = 6 then some 57 else if b = 7 then some 58 else if b = 8 then some 59 else none) else if a = 60 then (if b = 1 then some 61 else if b = 12 then some 62 else if b = 15 then some 63 else if b = 16 then some 64 else if b = 17 then some 65 else if b = 18 then some 66 else if b = 19 then some 67 else if b = 22 then some 68 else if b = 23 then some 69 else if b = 24 then some 70 else if b = 25 then some 71 else if b = 27 then some 72 else if b = 30 then some 73 else if b = 31 then some 74 else if b = 33 then some 75 else if b = 36 then some 76 else none) else none
def zD (p q : Nat) (E : Nat → Int → Int) : Nat → Nat → Int := fun a b => match zRf p q a b with
  | some r => (r : Int)
  | none => E a b
def zH (t : List (Nat × Nat)) (p q : Nat) (E : Nat → Int → Int) : ZH := (zSh ++ t, zD p q E)
def zu (E : Nat → Int → Int) (o : Nat) (k z : Int) : Nat → Int → Int := fun a b => if a = o ∧ b = k then z else E a b
def zcp (E : Nat → Int → Int) (a : Nat) (sp : Int) (b : Nat) (dp n : Int) : Nat → Int → Int := fun x k => if x = b ∧ dp ≤ k ∧ k < dp + n then E a (sp + (k - dp)) else E x k
def zg {α : Type} (P : Prop) [Decidable P] (x : Option α) : Option α := if P then x else none
theorem zg_pos {α : Type} {P : Prop} [Decidable P] {x : Option α} (h : P) : zg P x = x := if_pos h
theorem zg_c {α : Type} {P : Prop} [Decidable P] {x y : Option α} (h : x = y) : zg P x = zg P y := by rw [h]
theorem zf_ite {α : Type} {P : Prop} [Decidable P] {a b a' b' : α} (h1 : a = a') (h2 : b = b') : (if P then a else b) = if P then a' else b' := by rw [h1, h2]
theorem zf_sw {α : Type} {P : Prop} [Decidable P] {x a b : α} (h1 : P → x = a) (h2 : ¬ P → x = b) : x = if P then a else b := by
  by_cases h : P
  · rw [if_pos h]; exact h1 h
  · rw [if_neg h]; exact h2 h
theorem zu_same {E : Nat → Int → Int} {o : Nat} {k z : Int} : zu E o k z o k = z := if_pos ⟨rfl, rfl⟩
theorem zu_ne {E : Nat → Int → Int} {o a : Nat} {k z b : Int} (h : a ≠ o ∨ b ≠ k) : zu E o k z a b = E a b := if_neg (fun q => by rcases h with h | h; exact h q.1; exact h q.2)
theorem zSh_app {t : List (Nat × Nat)} {o : Nat} {s : Nat × Nat} (h : zSh[o]? = some s) : (zSh ++ t)[o]? = some s := by
  rw [List.getElem?_append_left (List.getElem?_eq_some_iff.mp h).1]
  exact h
theorem zD_n {p q a b : Nat} {E : Nat → Int → Int} (h : zRf p q a b = none) : zD p q E a b = E a b := by
  simp only [zD, h]
theorem zD_r {p q a b r : Nat} {E : Nat → Int → Int} (h : zRf p q a b = some r) : zD p q E a b = r := by
  simp only [zD, h]
theorem zD_up {p q a b : Nat} {E : Nat → Int → Int} {z : Int} (h : zRf p q a b = none) : zm_up (zD p q E) a b z = zD p q (zu E a b z) := by
  funext x y
  unfold zm_up
  by_cases e : x = a ∧ y = b
  · rw [if_pos e]
    obtain ⟨rfl, rfl⟩ := e
    rw [zD_n h]
    exact zu_same.symm
  · rw [if_neg e]
    unfold zD
    cases zRf p q x y with
    | some r => rfl
    | none =>
      show E x y = zu E a b z x y
      rw [zu_ne]
      by_cases e1 : x = a
      · right
        intro e2
        exact e ⟨e1, by omega⟩
      · exact Or.inl e1
theorem zRf_arr_all : ∀ a, a < 78 → ∀ n, zSh[a]? = some (20, n) → ∀ p q b, zRf p q a b = none := by
  intro a ha n h p q b
  have h2 : (zSh[a]?).map (fun s => s.1) = some 20 := by rw [h]; rfl
  clear h
  have key : ∀ a, a < 78 → ((zSh[a]?).map (fun s => s.1) != some 20 || !([0, 1, 2, 6, 9, 10, 15, 21, 28, 33, 34, 40, 50, 60].contains a)) = true := by decide +kernel
  have k2 := key a ha
  rw [h2] at k2
  simp at k2
  unfold zRf
  simp only [k2, if_false]
theorem zra_v {a n : Nat} (h : zSh[a]? = some (20, n)) (p q b : Nat) : zRf p q a b = none := by
  refine zRf_arr_all a ?_ n h p q b
  have := (List.getElem?_eq_some_iff.mp h).1
  exact this
/-- a hall's places -/
def zo (o : Nat) : Prop := o = 40 ∨ o = 50
def zbo (o : Nat) : Prop := o = 10 ∨ o = 34
theorem zsh_h {o : Nat} (h : zo o) : zSh[o]? = some (3, 16) := by rcases h with rfl | rfl <;> rfl
theorem zsh_b {o : Nat} (h : zbo o) : zSh[o]? = some (0, 1) := by rcases h with rfl | rfl <;> rfl
theorem zsh_b1 {o : Nat} (h : zbo o) : zSh[o + 1]? = some (20, 18) := by rcases h with rfl | rfl <;> rfl
theorem zrf_b0 {o p q : Nat} (h : zbo o) : zRf p q o 0 = some (o + 1) := by rcases h with rfl | rfl <;> rfl

theorem zsh_h1 {o : Nat} (h : zo o) : zSh[o + 1]? = some (20, 39) := by rcases h with rfl | rfl <;> rfl
theorem zrf_h0 {o p q : Nat} (h : zo o) : zRf p q o 0 = some (o + 1) := by rcases h with rfl | rfl <;> rfl
theorem zsh_h2 {o : Nat} (h : zo o) : zSh[o + 2]? = some (20, 6) := by rcases h with rfl | rfl <;> rfl
theorem zrf_h1 {o p q : Nat} (h : zo o) : zRf p q o 1 = some (o + 2) := by rcases h with rfl | rfl <;> rfl
theorem zsh_h3 {o : Nat} (h : zo o) : zSh[o + 3]? = some (20, 6) := by rcases h with rfl | rfl <;> rfl
theorem zrf_h2 {o p q : Nat} (h : zo o) : zRf p q o 2 = some (o + 3) := by rcases h with rfl | rfl <;> rfl
theorem zsh_h4 {o : Nat} (h : zo o) : zSh[o + 4]? = some (20, 3) := by rcases h with rfl | rfl <;> rfl
theorem zrf_h3 {o p q : Nat} (h : zo o) : zRf p q o 3 = some (o + 4) := by rcases h with rfl | rfl <;> rfl
theorem zsh_h5 {o : Nat} (h : zo o) : zSh[o + 5]? = some (20, 3) := by rcases h with rfl | rfl <;> rfl
theorem zrf_h4 {o p q : Nat} (h : zo o) : zRf p q o 4 = some (o + 5) := by rcases h with rfl | rfl <;> rfl
theorem zsh_h6 {o : Nat} (h : zo o) : zSh[o + 6]? = some (20, 5) := by rcases h with rfl | rfl <;> rfl
theorem zrf_h5 {o p q : Nat} (h : zo o) : zRf p q o 5 = some (o + 6) := by rcases h with rfl | rfl <;> rfl
theorem zsh_h7 {o : Nat} (h : zo o) : zSh[o + 7]? = some (20, 5) := by rcases h with rfl | rfl <;> rfl
theorem zrf_h6 {o p q : Nat} (h : zo o) : zRf p q o 6 = some (o + 7) := by rcases h with rfl | rfl <;> rfl
theorem zsh_h8 {o : Nat} (h : zo o) : zSh[o + 8]? = some (20, 5) := by rcases h with rfl | rfl <;> rfl
theorem zrf_h7 {o p q : Nat} (h : zo o) : zRf p q o 7 = some (o + 8) := by rcases h with rfl | rfl <;> rfl
theorem zsh_h9 {o : Nat} (h : zo o) : zSh[o + 9]? = some (20, 4) := by rcases h with rfl | rfl <;> rfl
theorem zrf_h8 {o p q : Nat} (h : zo o) : zRf p q o 8 = some (o + 9) := by rcases h with rfl | rfl <;> rfl
theorem zrn_h9 {o p q : Nat} (h : zo o) : zRf p q o 9 = none := by rcases h with rfl | rfl <;> rfl
theorem zrn_h10 {o p q : Nat} (h : zo o) : zRf p q o 10 = none := by rcases h with rfl | rfl <;> rfl
theorem zrn_h11 {o p q : Nat} (h : zo o) : zRf p q o 11 = none := by rcases h with rfl | rfl <;> rfl
theorem zrn_h12 {o p q : Nat} (h : zo o) : zRf p q o 12 = none := by rcases h with rfl | rfl <;> rfl
theorem zrn_h13 {o p q : Nat} (h : zo o) : zRf p q o 13 = none := by rcases h with rfl | rfl <;> rfl
theorem zrn_h14 {o p q : Nat} (h : zo o) : zRf p q o 14 = none := by rcases h with rfl | rfl <;> rfl
theorem zrn_h15 {o p q : Nat} (h : zo o) : zRf p q o 15 = none := by rcases h with rfl | rfl <;> rfl
section ZJ
variable {X : Nat × (Nat → Int)} {d M pc : Nat} {loc st : List ZV} {h : ZH} {t : List (Nat × Nat)} {p q : Nat} {E : Nat → Int → Int}
theorem zf_none {c : ZC} (h : zm_stp X M c = none) : zf_ev X d M c = none := by
  cases e : zf_ev X d M c with
  | none => rfl
  | some r =>
    obtain ⟨n, hn⟩ := zf_ev_to e
    cases n with
    | zero => cases hn
    | succ n =>
      rw [zm_go, h] at hn
      cases hn
theorem zd_geti {i ci k nf o : Nat} (hi : zm_ins M pc = some (.getfield i, 3)) (hf : zm_find zm_fkT (zm_oc M) i = some (ci, k)) (hn : zm_nF ci = nf) (hty : ∀ z, zm_fv (zm_tyF ci k) z = vI z) (hs : zSh[o]? = some (ci, nf)) (hr : zRf p q o k = none) : zf_ev X d M (pc, loc, vR o :: st, zH t p q E) = zf_ev X d M (pc + 3, loc, vI (E o k) :: st, zH t p q E) :=
  zf_get hi hf hn (by rw [zD_n hr, hty]) (zSh_app hs)
theorem zd_getl {i ci k nf o : Nat} (hi : zm_ins M pc = some (.getfield i, 3)) (hf : zm_find zm_fkT (zm_oc M) i = some (ci, k)) (hn : zm_nF ci = nf) (hty : ∀ z, zm_fv (zm_tyF ci k) z = vL z) (hs : zSh[o]? = some (ci, nf)) (hr : zRf p q o k = none) : zf_ev X d M (pc, loc, vR o :: st, zH t p q E) = zf_ev X d M (pc + 3, loc, vL (E o k) :: st, zH t p q E) :=
  zf_get hi hf hn (by rw [zD_n hr, hty]) (zSh_app hs)
theorem zd_getr {i ci k nf o r : Nat} (hi : zm_ins M pc = some (.getfield i, 3)) (hf : zm_find zm_fkT (zm_oc M) i = some (ci, k)) (hn : zm_nF ci = nf) (hty : ∀ z, zm_fv (zm_tyF ci k) z = zf_rf z) (hs : zSh[o]? = some (ci, nf)) (hr : zRf p q o k = some r) : zf_ev X d M (pc, loc, vR o :: st, zH t p q E) = zf_ev X d M (pc + 3, loc, vR r :: st, zH t p q E) :=
  zf_get hi hf hn (by rw [zD_r hr, hty, zf_rf_n]) (zSh_app hs)
theorem zd_put {i ci k nf o : Nat} {v : ZV} {z : Int} (hi : zm_ins M pc = some (.putfield i, 3)) (hf : zm_find zm_fkT (zm_oc M) i = some (ci, k)) (hn : zm_nF ci = nf) (hfin : (!zm_fin ci k || zm_isI M ci) = true) (hz : zm_fi (zm_tyF ci k) v = some z) (hs : zSh[o]? = some (ci, nf)) (hr : zRf p q o k = none) : zf_ev X d M (pc, loc, v :: vR o :: st, zH t p q E) = zf_ev X d M (pc + 3, loc, st, zH t p q (zu E o k z)) := by
  refine (zf_put hi hf hn hfin hz (zSh_app hs)).trans ?_
  rw [zD_up hr]
  rfl
theorem zd_putz {i ci k nf o : Nat} {z : Int} (hi : zm_ins M pc = some (.putfield i, 3)) (hf : zm_find zm_fkT (zm_oc M) i = some (ci, k)) (hn : zm_nF ci = nf) (hfin : (!zm_fin ci k || zm_isI M ci) = true) (hty : zm_tyF ci k = .boolean) (hs : zSh[o]? = some (ci, nf)) (hr : zRf p q o k = none) : zf_ev X d M (pc, loc, vI z :: vR o :: st, zH t p q E) = zg (n32 z = 0 ∨ n32 z = 1) (zf_ev X d M (pc + 3, loc, st, zH t p q (zu E o k z))) := by
  by_cases hz : n32 z = 0 ∨ n32 z = 1
  · rw [zg_pos hz]
    exact zd_put hi hf hn hfin (by rw [hty]; exact if_pos hz) hs hr
  · unfold zg
    rw [if_neg hz]
    refine zf_none ?_
    have hs2 : (zSh ++ t)[o]? = some (ci, nf) := zSh_app hs
    refine zf_stp hi rfl ?_
    show zm_ex3 X M pc loc (vI z :: vR o :: st) (zH t p q E) (.putfield i) = none
    simp only [zm_ex3, hf, zH, hs2, hn]
    simp only [hty, zm_fi, if_neg hz]
    split <;> rfl
theorem zd_putp {i z : Nat} (hi : zm_ins M pc = some (.putfield i, 3)) (hf : zm_find zm_fkT (zm_oc M) i = some (10, 8)) (hfin : (!zm_fin 10 8 || zm_isI M 10) = true) : zf_ev X d M (pc, loc, vR z :: vR 0 :: st, zH t p q E) = zf_ev X d M (pc + 3, loc, st, zH t z q E) := by
  refine (zf_put hi hf rfl hfin (z := (z : Int)) rfl (zSh_app (t := t) (o := 0) (s := (10, 13)) rfl)).trans ?_
  have e : zm_up (zD p q E) 0 8 (z : Int) = zD z q E := by
    funext a b
    unfold zm_up
    by_cases h : a = 0 ∧ b = 8
    · rw [if_pos h]; obtain ⟨rfl, rfl⟩ := h; rfl
    · rw [if_neg h]
      unfold zD zRf
      by_cases h1 : a = 0
      · by_cases h2 : b = 8
        · exact absurd ⟨h1, h2⟩ h
        · simp only [h1, h2, if_false]
      · simp only [h1, if_false]
  rw [e]
  rfl
theorem zd_putq {i z : Nat} (hi : zm_ins M pc = some (.putfield i, 3)) (hf : zm_find zm_fkT (zm_oc M) i = some (10, 9)) (hfin : (!zm_fin 10 9 || zm_isI M 10) = true) : zf_ev X d M (pc, loc, vR z :: vR 0 :: st, zH t p q E) = zf_ev X d M (pc + 3, loc, st, zH t p z E) := by
  refine (zf_put hi hf rfl hfin (z := (z : Int)) rfl (zSh_app (t := t) (o := 0) (s := (10, 13)) rfl)).trans ?_
  have e : zm_up (zD p q E) 0 9 (z : Int) = zD p z E := by
    funext a b
    unfold zm_up
    by_cases h : a = 0 ∧ b = 9
    · rw [if_pos h]; obtain ⟨rfl, rfl⟩ := h; rfl
    · rw [if_neg h]
      unfold zD zRf
      by_cases h1 : a = 0
      · by_cases h2 : b = 9
        · exact absurd ⟨h1, h2⟩ h
        · simp only [h1, h2, if_false]
      · simp only [h1, if_false]
  rw [e]
  rfl
theorem zd_ldN {tc o n : Nat} {i : Int} (hs : zSh[o]? = some (tc, n)) (h : ¬ (0 ≤ n32 i ∧ n32 i < n)) (tc' : Nat) : zm_ld tc' i o (zH t p q E) = none := by
  simp only [zm_ld, zH, zSh_app hs]
  rw [if_neg]
  rintro ⟨-, h2⟩
  unfold zm_inb at h2
  rw [Bool.and_eq_true, decide_eq_true_eq, decide_eq_true_eq] at h2
  exact h h2
theorem zd_stN {tc o n : Nat} {i z : Int} (hs : zSh[o]? = some (tc, n)) (h : ¬ (0 ≤ n32 i ∧ n32 i < n)) (tc' : Nat) : zm_stt tc' i o z (zH t p q E) = none := by
  simp only [zm_stt, zH, zSh_app hs]
  rw [if_neg]
  rintro ⟨-, h2⟩
  unfold zm_inb at h2
  rw [Bool.and_eq_true, decide_eq_true_eq, decide_eq_true_eq] at h2
  exact h h2
theorem zd_nn {z : Int} (h : 0 ≤ z) : ((z.toNat : Nat) : Int) = z := Int.toNat_of_nonneg h
theorem zd_iald {o n : Nat} {i : Int} (hi : zm_ins M pc = some (.iaload, 1)) (hs : zSh[o]? = some (20, n)) (hr : ∀ b, zRf p q o b = none) : zf_ev X d M (pc, loc, vI i :: vR o :: st, zH t p q E) = zg (0 ≤ n32 i ∧ n32 i < n) (zf_ev X d M (pc + 1, loc, vI (E o (n32 i)) :: st, zH t p q E)) := by
  by_cases h : 0 ≤ n32 i ∧ n32 i < n
  · rw [zg_pos h]
    refine (zf_iald hi (zSh_app hs) h.1 h.2).trans ?_
    rw [zD_n (hr _), zd_nn h.1]
    rfl
  · unfold zg
    rw [if_neg h]
    refine zf_none (zf_stp hi rfl ?_)
    show zm_ex3 X M pc loc (vI i :: vR o :: st) (zH t p q E) .iaload = none
    simp only [zm_ex3, zd_ldN hs h]
theorem zd_bald {o n : Nat} {i : Int} (hi : zm_ins M pc = some (.baload, 1)) (hs : zSh[o]? = some (21, n)) (hr : ∀ b, zRf p q o b = none) : zf_ev X d M (pc, loc, vI i :: vR o :: st, zH t p q E) = zg (0 ≤ n32 i ∧ n32 i < n) (zf_ev X d M (pc + 1, loc, vI (E o (n32 i)) :: st, zH t p q E)) := by
  by_cases h : 0 ≤ n32 i ∧ n32 i < n
  · rw [zg_pos h]
    refine (zf_bald hi (zSh_app hs) h.1 h.2).trans ?_
    rw [zD_n (hr _), zd_nn h.1]
    rfl
  · unfold zg
    rw [if_neg h]
    refine zf_none (zf_stp hi rfl ?_)
    show zm_ex3 X M pc loc (vI i :: vR o :: st) (zH t p q E) .baload = none
    simp only [zm_ex3, zd_ldN hs h]
theorem zd_zald {o n : Nat} {i : Int} (hi : zm_ins M pc = some (.baload, 1)) (hs : zSh[o]? = some (22, n)) (hr : ∀ b, zRf p q o b = none) : zf_ev X d M (pc, loc, vI i :: vR o :: st, zH t p q E) = zg (0 ≤ n32 i ∧ n32 i < n) (zf_ev X d M (pc + 1, loc, vI (E o (n32 i)) :: st, zH t p q E)) := by
  by_cases h : 0 ≤ n32 i ∧ n32 i < n
  · rw [zg_pos h]
    refine (zf_zald hi (zSh_app hs) h.1 h.2).trans ?_
    rw [zD_n (hr _), zd_nn h.1]
    rfl
  · unfold zg
    rw [if_neg h]
    refine zf_none (zf_stp hi rfl ?_)
    show zm_ex3 X M pc loc (vI i :: vR o :: st) (zH t p q E) .baload = none
    simp only [zm_ex3, zd_ldN hs h]
theorem zd_lald {o n : Nat} {i : Int} (hi : zm_ins M pc = some (.laload, 1)) (hs : zSh[o]? = some (23, n)) (hr : ∀ b, zRf p q o b = none) : zf_ev X d M (pc, loc, vI i :: vR o :: st, zH t p q E) = zg (0 ≤ n32 i ∧ n32 i < n) (zf_ev X d M (pc + 1, loc, vL (E o (n32 i)) :: st, zH t p q E)) := by
  by_cases h : 0 ≤ n32 i ∧ n32 i < n
  · rw [zg_pos h]
    refine (zf_lald hi (zSh_app hs) h.1 h.2).trans ?_
    rw [zD_n (hr _), zd_nn h.1]
    rfl
  · unfold zg
    rw [if_neg h]
    refine zf_none (zf_stp hi rfl ?_)
    show zm_ex3 X M pc loc (vI i :: vR o :: st) (zH t p q E) .laload = none
    simp only [zm_ex3, zd_ldN hs h]
theorem zd_upn {o : Nat} {i z : Int} (h : 0 ≤ i) (hr : ∀ b, zRf p q o b = none) : zm_up (zD p q E) o i.toNat z = zD p q (zu E o i z) := by
  rw [zD_up (hr _), zd_nn h]
theorem zd_iast {o n : Nat} {i z : Int} (hi : zm_ins M pc = some (.iastore, 1)) (hs : zSh[o]? = some (20, n)) (hr : ∀ b, zRf p q o b = none) : zf_ev X d M (pc, loc, vI z :: vI i :: vR o :: st, zH t p q E) = zg (0 ≤ n32 i ∧ n32 i < n) (zf_ev X d M (pc + 1, loc, st, zH t p q (zu E o (n32 i) z))) := by
  by_cases h : 0 ≤ n32 i ∧ n32 i < n
  · rw [zg_pos h]
    refine (zf_iast hi (zSh_app hs) h.1 h.2).trans ?_
    rw [zd_upn h.1 hr]
    rfl
  · unfold zg
    rw [if_neg h]
    refine zf_none (zf_stp hi rfl ?_)
    show zm_ex3 X M pc loc (vI z :: vI i :: vR o :: st) (zH t p q E) .iastore = none
    simp only [zm_ex3, zd_stN hs h]
theorem zd_last {o n : Nat} {i z : Int} (hi : zm_ins M pc = some (.lastore, 1)) (hs : zSh[o]? = some (23, n)) (hr : ∀ b, zRf p q o b = none) : zf_ev X d M (pc, loc, vL z :: vI i :: vR o :: st, zH t p q E) = zg (0 ≤ n32 i ∧ n32 i < n) (zf_ev X d M (pc + 1, loc, st, zH t p q (zu E o (n32 i) z))) := by
  by_cases h : 0 ≤ n32 i ∧ n32 i < n
  · rw [zg_pos h]
    refine (zf_last hi (zSh_app hs) h.1 h.2).trans ?_
    rw [zd_upn h.1 hr]
    rfl
  · unfold zg
    rw [if_neg h]
    refine zf_none (zf_stp hi rfl ?_)
    show zm_ex3 X M pc loc (vL z :: vI i :: vR o :: st) (zH t p q E) .lastore = none
    simp only [zm_ex3, zd_stN hs h]
theorem zd_bast {o n : Nat} {i z : Int} (hi : zm_ins M pc = some (.bastore, 1)) (hs : zSh[o]? = some (21, n)) (hr : ∀ b, zRf p q o b = none) : zf_ev X d M (pc, loc, vI z :: vI i :: vR o :: st, zH t p q E) = zg (0 ≤ n32 i ∧ n32 i < n) (zf_ev X d M (pc + 1, loc, st, zH t p q (zu E o (n32 i) (zm_i2b z)))) := by
  by_cases h : 0 ≤ n32 i ∧ n32 i < n
  · rw [zg_pos h]
    refine (zf_bast hi (zSh_app hs) h.1 h.2).trans ?_
    rw [zd_upn h.1 hr]
    rfl
  · unfold zg
    rw [if_neg h]
    refine zf_none (zf_stp hi rfl ?_)
    show zm_ex3 X M pc loc (vI z :: vI i :: vR o :: st) (zH t p q E) .bastore = none
    simp only [zm_ex3, zd_stN hs h]
theorem zd_zast {o n : Nat} {i z : Int} (hi : zm_ins M pc = some (.bastore, 1)) (hs : zSh[o]? = some (22, n)) (hr : ∀ b, zRf p q o b = none) : zf_ev X d M (pc, loc, vI z :: vI i :: vR o :: st, zH t p q E) = zg (0 ≤ n32 i ∧ n32 i < n) (zf_ev X d M (pc + 1, loc, st, zH t p q (zu E o (n32 i) (zm_z1 z)))) := by
  by_cases h : 0 ≤ n32 i ∧ n32 i < n
  · rw [zg_pos h]
    refine (zf_zast hi (zSh_app hs) h.1 h.2).trans ?_
    rw [zd_upn h.1 hr]
    rfl
  · unfold zg
    rw [if_neg h]
    refine zf_none (zf_stp hi rfl ?_)
    show zm_ex3 X M pc loc (vI z :: vI i :: vR o :: st) (zH t p q E) .bastore = none
    simp only [zm_ex3, zd_stN hs h]
theorem zd_alen {o t' n : Nat} (hi : zm_ins M pc = some (.arraylength, 1)) (hs : zSh[o]? = some (t', n)) (h1 : 20 ≤ t') (h2 : t' ≤ 23) : zf_ev X d M (pc, loc, vR o :: st, zH t p q E) = zf_ev X d M (pc + 1, loc, vI n :: st, zH t p q E) := zf_alen hi (zSh_app hs) h1 h2
theorem zd_div {a b : Int} (hi : zm_ins M pc = some (.idiv, 1)) : zf_ev X d M (pc, loc, vI b :: vI a :: st, h) = zg (n32 b ≠ 0) (zf_ev X d M (pc + 1, loc, vI ((n32 a).tdiv (n32 b)) :: st, h)) := by
  by_cases hb : n32 b ≠ 0
  · rw [zg_pos hb]; exact zf_div hi hb
  · unfold zg
    rw [if_neg hb]
    refine zf_none (zf_stp hi rfl ?_)
    show zm_ex2 pc loc (vI b :: vI a :: st) h .idiv = none
    simp only [zm_ex2, zm_i2]
    rw [if_pos (by simpa using hb)]
theorem zd_rem {a b : Int} (hi : zm_ins M pc = some (.irem, 1)) : zf_ev X d M (pc, loc, vI b :: vI a :: st, h) = zg (n32 b ≠ 0) (zf_ev X d M (pc + 1, loc, vI ((n32 a).tmod (n32 b)) :: st, h)) := by
  by_cases hb : n32 b ≠ 0
  · rw [zg_pos hb]; exact zf_rem hi hb
  · unfold zg
    rw [if_neg hb]
    refine zf_none (zf_stp hi rfl ?_)
    show zm_ex2 pc loc (vI b :: vI a :: st) h .irem = none
    simp only [zm_ex2, zm_i2]
    rw [if_pos (by simpa using hb)]
theorem zd_ldiv {a b : Int} (hi : zm_ins M pc = some (.ldiv, 1)) : zf_ev X d M (pc, loc, vL b :: vL a :: st, h) = zg (n64 b ≠ 0) (zf_ev X d M (pc + 1, loc, vL ((n64 a).tdiv (n64 b)) :: st, h)) := by
  by_cases hb : n64 b ≠ 0
  · rw [zg_pos hb]; exact zf_ldiv hi hb
  · unfold zg
    rw [if_neg hb]
    refine zf_none (zf_stp hi rfl ?_)
    show zm_ex2 pc loc (vL b :: vL a :: st) h .ldiv = none
    simp only [zm_ex2, zm_j2]
    rw [if_pos (by simpa using hb)]
theorem zd_lrem {a b : Int} (hi : zm_ins M pc = some (.lrem, 1)) : zf_ev X d M (pc, loc, vL b :: vL a :: st, h) = zg (n64 b ≠ 0) (zf_ev X d M (pc + 1, loc, vL ((n64 a).tmod (n64 b)) :: st, h)) := by
  by_cases hb : n64 b ≠ 0
  · rw [zg_pos hb]; exact zf_lrem hi hb
  · unfold zg
    rw [if_neg hb]
    refine zf_none (zf_stp hi rfl ?_)
    show zm_ex2 pc loc (vL b :: vL a :: st) h .lrem = none
    simp only [zm_ex2, zm_j2]
    rw [if_pos (by simpa using hb)]
theorem zd_zret {z : Int} (hi : zm_ins M pc = some (.ireturn, 1)) (hrt : zm_rt M = some .boolean) : zf_ev X d M (pc, loc, [vI z], h) = zg (n32 z = 0 ∨ n32 z = 1) (some (some [vI z], h)) := by
  by_cases hz : n32 z = 0 ∨ n32 z = 1
  · rw [zg_pos hz]
    refine zf_ret (zf_stp hi rfl ?_)
    show zm_ex3 X M pc loc [vI z] h .ireturn = _
    simp only [zm_ex3, hrt, if_pos hz]
  · unfold zg
    rw [if_neg hz]
    refine zf_none (zf_stp hi rfl ?_)
    show zm_ex3 X M pc loc [vI z] h .ireturn = none
    simp only [zm_ex3, hrt, if_neg hz]
theorem zd_m7 {i t' a b na nb : Nat} {y : MethodName} {n dp sp : Int} (hi : zm_ins M pc = some (.invokestatic i, 3)) (hl : zm_find zm_lkT (zm_oc M) i = some (7, t', y)) (ha : zSh[a]? = some (20, na)) (hb : zSh[b]? = some (20, nb)) (hc : zm_csum st ≤ 8) : zf_ev X d M (pc, loc, vI n :: vI dp :: vR b :: vI sp :: vR a :: st, zH t p q E) = zg (0 ≤ n32 n ∧ 0 ≤ n32 dp ∧ 0 ≤ n32 sp ∧ n32 sp + n32 n ≤ na ∧ n32 dp + n32 n ≤ nb) (zf_ev X d M (pc + 3, loc, st, zH t p q (zcp E a (n32 sp) b (n32 dp) (n32 n)))) := by
  by_cases h : 0 ≤ n32 n ∧ 0 ≤ n32 dp ∧ 0 ≤ n32 sp ∧ n32 sp + n32 n ≤ na ∧ n32 dp + n32 n ≤ nb
  · rw [zg_pos h]
    obtain ⟨h1, h2, h3, h4, h5⟩ := h
    refine (zf_1 hi rfl (zf_m7 hl (zSh_app ha) (zSh_app hb) h1 h2 h3 (by omega) (by omega) hc)).trans ?_
    have e : zm_cp (zD p q E) a (n32 sp).toNat b (n32 dp).toNat (n32 n).toNat = zD p q (zcp E a (n32 sp) b (n32 dp) (n32 n)) := by
      funext x k
      unfold zm_cp
      by_cases c : x = b ∧ (n32 dp).toNat ≤ k ∧ k < (n32 dp).toNat + (n32 n).toNat
      · rw [if_pos c]
        obtain ⟨rfl, c1, c2⟩ := c
        rw [zD_n (zra_v ha _ _ _), zD_n (zra_v hb _ _ _)]
        unfold zcp
        rw [if_pos ⟨rfl, by omega, by omega⟩]
        congr 1
        omega
      · rw [if_neg c]
        unfold zD
        cases zRf p q x k with
        | some r => rfl
        | none =>
          show E x k = zcp E a (n32 sp) b (n32 dp) (n32 n) x k
          unfold zcp
          rw [if_neg]
          rintro ⟨c1, c2, c3⟩
          exact c ⟨c1, by omega, by omega⟩
    rw [e]
    rfl
  · unfold zg
    rw [if_neg h]
    refine zf_none (zf_stp hi rfl ?_)
    show zm_inv X M pc i 1 loc _ (zH t p q E) = none
    have ha2 : (zH t p q E).1[a]? = some (20, na) := zSh_app ha
    have hb2 : (zH t p q E).1[b]? = some (20, nb) := zSh_app hb
    simp only [zm_inv, hl, ha2, hb2]
    rw [if_neg (by decide), if_pos trivial, if_neg]
    rintro ⟨-, -, h1, h2, h3, h4, h5, -⟩
    exact h ⟨h1, h2, h3, by omega, by omega⟩
theorem zd_m9 {i t' w : Nat} {y : MethodName} {cs : List Int} {j : Int} (hi : zm_ins M pc = some (.invokevirtual i, 3)) (hl : zm_find zm_lkT (zm_oc M) i = some (9, t', y)) (hq : zm_chars[w]? = some cs) (hc : zm_csum st ≤ 8) : zf_ev X d M (pc, loc, vI j :: vX w :: st, h) = zg (0 ≤ n32 j ∧ n32 j < cs.length) (zf_ev X d M (pc + 3, loc, vI (cs.getD (n32 j).toNat 0) :: st, h)) := by
  by_cases h0 : 0 ≤ n32 j ∧ n32 j < cs.length
  · rw [zg_pos h0]
    exact zf_1 hi rfl (zf_m9 hl hq h0.1 h0.2 hc)
  · unfold zg
    rw [if_neg h0]
    refine zf_none (zf_stp hi rfl ?_)
    show zm_inv X M pc i 0 loc _ h = none
    simp only [zm_inv, hl, hq]
    rw [if_neg (by decide), if_pos trivial, if_neg]
    rintro ⟨-, h2⟩
    unfold zm_inb at h2
    rw [Bool.and_eq_true, decide_eq_true_eq, decide_eq_true_eq] at h2
    exact h0 h2
theorem zd_inv {i kind tgt : Nat} {y : MethodName} {ins : Instr} {ra en : List ZV} {o ci nf : Nat} {r : List ZV} (hi : zm_ins M pc = some (ins, 3)) (hins : (ins = .invokevirtual i ∧ kind = 0) ∨ (ins = .invokestatic i ∧ kind = 1) ∨ (ins = .invokespecial i ∧ kind = 2)) (hl : zm_find zm_lkT (zm_oc M) i = some (kind, tgt, y)) (hn : zm_cn2 kind tgt = ra.length) (ht : tgt ≤ 317) (hj : zm_noJ ra = true)
    (hf : (zm_fl ra.reverse).length ≤ zm_ml tgt) (hen : zm_en (zm_ml tgt) ra.reverse = en) (hc : zm_csum st ≤ 8) (hra : ra.reverse = vR o :: r) (h1 : zm_oc tgt = ci) (h2 : zm_nF ci = nf) (hs : zSh[o]? = some (ci, nf)) : zf_ev X (d + 1) M (pc, loc, ra ++ st, zH t p q E) = zf_k X (d + 1) M pc loc st (zf_ev X d tgt (0, en, [], zH t p q E)) :=
  zf_inv hi hins hl hn ht hj hf hen hc (Or.inr (by rw [hra]; exact zf_rcv h1 h2 (zSh_app hs)))
end ZJ
theorem zm_chars_get {w : Nat} (h : w < 22) : zm_chars[w]? = some (zm_chars.getD w []) := by
  have h2 : w < zm_chars.length := h
  rw [List.getD_eq_getElem?_getD, List.getElem?_eq_getElem h2]
  rfl
theorem n32_id {z : Int} (h1 : -2147483648 ≤ z) (h2 : z < 2147483648) : n32 z = z := by
  unfold n32
  exact Int32.toInt_ofInt_of_le h1 h2


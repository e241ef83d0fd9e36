/-! the class's hall -/
section CA
variable {X : Nat × (Nat → Int)} {d : Nat} {t : List (Nat × Nat)} {p q : Nat} {E : Nat → Int → Int} {B : Int → Int} {n k : Int} {o : Nat} {f L : Int → Int}
theorem T20_a (ho : zo o) : ∀ (j : Nat) (i : Int) (E : Nat → Int → Int), 0 ≤ i → i + j = 39 → ∃ F, zf_ev X d 20 (37, [vR o, vI i], [], zH t p q E) = zf_ev X d 20 (58, [vR o, vI 0], [], zH t p q F) ∧ (∀ c, i ≤ c → c < 39 → F (o + 1) c = 0) ∧ (∀ x y, (x ≠ o + 1 ∨ y < i) → F x y = E x y) := by
  intro j
  induction j with
  | zero =>
    intro i E h1 h2
    refine ⟨E, ?_, fun c a b => by omega, fun x y _ => rfl⟩
    rw [L20_37 ho]
    simp (disch := omega) only [n32_id, zg_pos, if_pos, if_neg, zu_same, zu_ne, if_true, if_false, ne_eq, not_true_eq_false, not_false_eq_true, true_or, or_true, true_and, and_true, zg_true, fa_b_f, fa_b_t]
  | succ j ih =>
    intro i E h1 h2
    obtain ⟨F, f1, f2, f3⟩ := ih (i + 1) (zu E (o + 1) i 0) (by omega) (by omega)
    refine ⟨F, ?_, fun c a b => ?_, fun x y u => by rw [f3 x y (by omega), zu_ne (by omega)]⟩
    · rw [L20_37 ho]
      simp (disch := omega) only [n32_id, zg_pos, if_pos, if_neg, zu_same, zu_ne, if_true, if_false, ne_eq, not_true_eq_false, not_false_eq_true, true_or, or_true, true_and, and_true, zg_true, fa_b_f, fa_b_t]
      exact f1
    · by_cases e : c = i
      · rw [e, f3 _ _ (by omega), zu_same]
      · exact f2 c (by omega) b
theorem T20_b (ho : zo o) : ∀ (j : Nat) (i : Int) (E : Nat → Int → Int), 0 ≤ i → i + j = 7 → ∃ F, zf_ev X d 20 (58, [vR o, vI i], [], zH t p q E) = some (some [], zH t p q F) ∧ (∀ c, i ≤ c → c < 7 → F (o + 1) (18 + c) = 3) ∧ (∀ x y, (x ≠ o + 1 ∨ y < 18 + i ∨ 24 < y) → F x y = E x y) := by
  intro j
  induction j with
  | zero =>
    intro i E h1 h2
    refine ⟨E, ?_, fun c a b => by omega, fun x y _ => rfl⟩
    rw [L20_58 ho]
    simp (disch := omega) only [n32_id, zg_pos, if_pos, if_neg, zu_same, zu_ne, if_true, if_false, ne_eq, not_true_eq_false, not_false_eq_true, true_or, or_true, true_and, and_true, zg_true, fa_b_f, fa_b_t]
  | succ j ih =>
    intro i E h1 h2
    obtain ⟨F, f1, f2, f3⟩ := ih (i + 1) (zu E (o + 1) (18 + i) 3) (by omega) (by omega)
    refine ⟨F, ?_, fun c a b => ?_, fun x y u => by rw [f3 x y (by omega), zu_ne (by omega)]⟩
    · rw [L20_58 ho]
      simp (disch := omega) only [n32_id, zg_pos, if_pos, if_neg, zu_same, zu_ne, if_true, if_false, ne_eq, not_true_eq_false, not_false_eq_true, true_or, or_true, true_and, and_true, zg_true, fa_b_f, fa_b_t]
      exact f1
    · by_cases e : c = i
      · rw [e, f3 _ _ (by omega), zu_same]
      · exact f2 c (by omega) b
theorem T20 (ho : zo o) : ∃ F, zf_ev X d 20 (0, [vR o, vJ], [], zH t p q E) = some (some [], zH t p q F) ∧ (∀ c, 9 ≤ c → c ≤ 15 → F o c = 0) ∧ (∀ c, 0 ≤ c → c < 39 → F (o + 1) c = if 18 ≤ c ∧ c ≤ 24 then 3 else 0) ∧ (∀ x y, x ≠ o → x ≠ o + 1 → F x y = E x y) := by
  obtain ⟨F, f1, f2, f3⟩ := T20_a (X := X) (d := d) (t := t) (p := p) (q := q) ho 39 0 (zu (zu (zu (zu (zu (zu (zu E o 9 0) o 10 0) o 11 0) o 12 0) o 13 0) o 14 0) o 15 0) (by omega) (by omega)
  obtain ⟨G, g1, g2, g3⟩ := T20_b (X := X) (d := d) (t := t) (p := p) (q := q) ho 7 0 F (by omega) (by omega)
  refine ⟨G, ?_, fun c a b => ?_, fun c a b => ?_, fun x y u v => ?_⟩
  · rw [L20_0 ho, f1, g1]
  · rw [g3 _ _ (by omega), f3 _ _ (by omega)]
    by_cases e15 : c = 15
    · rw [e15, zu_same]
    rw [zu_ne (by omega)]
    by_cases e14 : c = 14
    · rw [e14, zu_same]
    rw [zu_ne (by omega)]
    by_cases e13 : c = 13
    · rw [e13, zu_same]
    rw [zu_ne (by omega)]
    by_cases e12 : c = 12
    · rw [e12, zu_same]
    rw [zu_ne (by omega)]
    by_cases e11 : c = 11
    · rw [e11, zu_same]
    rw [zu_ne (by omega)]
    by_cases e10 : c = 10
    · rw [e10, zu_same]
    rw [zu_ne (by omega), show c = 9 by omega, zu_same]
  · by_cases e : 18 ≤ c ∧ c ≤ 24
    · rw [if_pos e]
      have := g2 (c - 18) (by omega) (by omega)
      rw [show 18 + (c - 18) = c by omega] at this
      exact this
    · rw [if_neg e, g3 _ _ (by omega)]
      exact f2 c a b
  · rw [g3 _ _ (by omega), f3 _ _ (by omega), zu_ne (by omega), zu_ne (by omega), zu_ne (by omega), zu_ne (by omega), zu_ne (by omega), zu_ne (by omega), zu_ne (by omega)]
theorem T77_a (ho : zo o) {x1 : Int} {j4 : ZV} : ∀ (j : Nat) (i : Int) (E : Nat → Int → Int), 0 ≤ i → i + j = 7 → ∃ F x3, zf_ev X (d + 6) 77 (26, [vR 1, vI x1, vR o, vI i, j4], [], zH t p q E) = zf_k X (d + 6) 77 50 [vR 1, vI x1, vR o, vI x3, j4] [] (zf_ev X (d + 5) 108 (0, [vR 2, vI x1], [], zH t p q F)) ∧ (∀ c, i ≤ c → c < 7 → F 5 c = 0) ∧ (∀ x y, (x ≠ 5 ∨ y < i) → F x y = E x y) := by
  intro j
  induction j with
  | zero =>
    intro i E h1 h2
    refine ⟨E, i, ?_, fun c a b => by omega, fun x y _ => rfl⟩
    rw [L77_26 ho]
    simp (disch := omega) only [n32_id, zg_pos, if_pos, if_neg, zu_same, zu_ne, if_true, if_false, ne_eq, not_true_eq_false, not_false_eq_true, true_or, or_true, true_and, and_true, zg_true, fa_b_f, fa_b_t]
  | succ j ih =>
    intro i E h1 h2
    obtain ⟨F, x3, f1, f2, f3⟩ := ih (i + 1) (zu E 5 i 0) (by omega) (by omega)
    have ez : zm_z1 0 = 0 := by decide
    refine ⟨F, x3, ?_, fun c a b => ?_, fun x y u => by rw [f3 x y (by omega), zu_ne (by omega)]⟩
    · rw [L77_26 ho]
      simp (disch := omega) only [n32_id, zg_pos, if_pos, if_neg, zu_same, zu_ne, if_true, if_false, ne_eq, not_true_eq_false, not_false_eq_true, true_or, or_true, true_and, and_true, zg_true, fa_b_f, fa_b_t, ez]
      exact f1
    · by_cases e : c = i
      · rw [e, f3 _ _ (by omega), zu_same]
      · exact f2 c (by omega) b
/-- a state of the reader that may go on -/
def pJ (n : Int) (x : PT) : Prop := pg n 0 x.1 ∧ ∀ k, x.1 = .inr k → pI x.2.1
theorem pJ_line (hk : 0 ≤ k ∧ k ≤ n) (hI : pI f) : pJ n (pl_line B n f L k) := ⟨(pg_line hk.1 hk.2).mono (by omega), fun k2 h => pI_line hI h⟩
theorem T77_x (ho : zo o) {x : PT} {x3 x4 : Int} {j1 : ZV} (hJ : pJ n x) (hS : zSC B n o x E) (h : 900 ≤ x4 ∧ x4 ≤ 1000 ∨ (0 ≤ x4 ∧ x4 ≤ 1000 ∧ x3 = 0)) : ∃ F, zf_ev X (d + 6) 77 (62, [vR 1, j1, vR o, vI x3, vI x4], [], zH t p q E) = some (some [], zH t p q F) ∧ zSC B n o (pl_end B n x) F ∧ zFH o E F := by
  have hp2 : o = 40 ∨ o = 50 := ho
  have e0 : zf_ev X (d + 6) 77 (62, [vR 1, j1, vR o, vI x3, vI x4], [], zH t p q E) = (if n32 (E 1 8) ≠ 0 then some (some [], zH t p q E) else if n32 (E o 12) ≠ 0 then some (some [], zH t p q E) else zf_k X (d + 6) 77 140 [vR 1, j1, vR o, vI x3, vI x4] [] (zf_ev X (d + 5) 78 (0, [vR 1, vI 6, vI (E 2 5)], [], zH t p q E))) := by
    rw [L77_62 ho]
    by_cases g : 900 ≤ x4
    · rw [if_pos (by rw [n32_id (by omega) (by omega), n32_id (by omega) (by omega)]; exact g)]
    · have h3 : x3 = 0 := by omega
      subst h3
      rw [if_neg (by rw [n32_id (by omega) (by omega), n32_id (by omega) (by omega)]; exact g), if_pos (by decide)]
  obtain ⟨s, f, L⟩ := x
  cases s with
  | inl u =>
    have hS : E 1 8 = u.1 ∧ E 1 9 = u.2 := hS
    have hJ : 1 ≤ u.1 ∧ u.1 ≤ 6 ∧ 0 ≤ u.2 ∧ u.2 ≤ n := hJ.1
    refine ⟨E, ?_, hS, fun x y _ _ _ _ _ => rfl⟩
    rw [e0, if_pos (by rw [hS.1, n32_id (by omega) (by omega)]; omega)]
  | inr k =>
    have hS : zT0 B n k E ∧ zHC f E o ∧ zNm L (f 3 + f 4) E := hS
    have hI : pI f := hJ.2 k rfl
    have i1 := hI.1
    unfold pI1 at i1
    have h12 := hS.2.1.1.2.2.2.1
    by_cases g : f 3 = 0
    · have hp : pl_end B n (.inr k, f, L) = (.inl (6, tk_a B n k), f, L) := if_pos g
      rw [hp]
      refine ⟨zu (zu E 1 8 6) 1 9 (tk_a B n k), ?_, ⟨by rw [zu_ne (by omega), zu_same], zu_same⟩, fun x y u1 u2 u3 u4 u5 => by rw [zu_ne (by omega), zu_ne (by omega)]⟩
      rw [e0, if_neg (by rw [hS.1.2]; decide), if_neg (by rw [h12, g]; decide), hS.1.1.2.2.1.2.2.2, L78_0, L77_k140]
    · have hp : pl_end B n (.inr k, f, L) = (.inr k, f, L) := if_neg g
      rw [hp]
      refine ⟨E, ?_, hS, fun x y _ _ _ _ _ => rfl⟩
      rw [e0, if_neg (by rw [hS.1.2]; decide), if_pos (by rw [h12, n32_id (by omega) (by omega)]; exact g)]
theorem T77_l (ho : zo o) : ∀ (j : Nat) (x : PT) (x4 : Int) (j1 : ZV) (E : Nat → Int → Int), pJ n x → zSC B n o x E → 0 ≤ x4 → x4 + j = 900 → ∃ F, zf_ev X (d + 6) 77 (62, [vR 1, j1, vR o, vI (ps_b x.1), vI x4], [], zH t p q E) = some (some [], zH t p q F) ∧ zSC B n o (pl_end B n (pl_loop B n j x)) F ∧ zFH o E F := by
  have hp2 : o = 40 ∨ o = 50 := ho
  intro j
  induction j with
  | zero =>
    intro x x4 j1 E hJ hS h1 h2
    exact T77_x ho hJ hS (by omega)
  | succ j ih =>
    intro x x4 j1 E hJ hS h1 h2
    obtain ⟨s, f, L⟩ := x
    cases s with
    | inl u => exact T77_x (x := (.inl u, f, L)) ho hJ hS (Or.inr ⟨h1, by omega, rfl⟩)
    | inr k =>
      have hS0 := hS
      have hS : zT0 B n k E ∧ zHC f E o ∧ zNm L (f 3 + f 4) E := hS
      have hI : pI f := hJ.2 k rfl
      have hk := hS.1.1.2.1
      have hkc := tk_kc_r (t := tk_k B n k)
      have h4 := hS.1.1.2.2.1.2.2.1
      have hl : pl_loop B n (j + 1) (.inr k, f, L) = (if tk_k B n k = 0 then (.inr k, f, L) else if tk_k B n k = 59 then pl_loop B n j (pl_line B n f L (tk_e B n k)) else (.inl (1, tk_a B n k), f, L)) := rfl
      have e0 : zf_ev X (d + 6) 77 (62, [vR 1, j1, vR o, vI 1, vI x4], [], zH t p q E) = (if tk_k B n k ≠ 0 then zf_k X (d + 6) 77 90 [vR 1, j1, vR o, vI 1, vI x4] [] (zf_ev X (d + 5) 91 (0, [vR 1], [], zH t p q E)) else zf_ev X (d + 6) 77 (62, [vR 1, j1, vR o, vI 0, vI (x4 + 1)], [], zH t p q E)) := by
        rw [L77_62 ho, if_neg (by rw [n32_id (by omega) (by omega), n32_id (by omega) (by omega)]; omega), if_neg (by decide), h4, n32_id (by omega) (by omega)]
        by_cases g : tk_k B n k = 0
        · rw [if_neg (by rw [tk_kc_0.mpr g]; decide), if_neg (fun h => h g)]
        · rw [if_pos (mt tk_kc_0.mp g), if_pos g]
      rw [hl]
      show ∃ F, zf_ev X (d + 6) 77 (62, [vR 1, j1, vR o, vI 1, vI x4], [], zH t p q E) = _ ∧ _
      by_cases g : tk_k B n k = 0
      · rw [if_pos g, e0, if_neg (fun h => h g)]
        exact T77_x (x := (.inr k, f, L)) ho hJ hS0 (Or.inr ⟨by omega, by omega, rfl⟩)
      · rw [if_neg g, e0, if_pos g]
        obtain ⟨t1, t2⟩ := T91 (X := X) (d := d + 3) (t := t) (p := p) (q := q) hS.1
        by_cases g2 : tk_k B n k = 59
        · rw [if_pos g2]
          obtain ⟨F, f1, f2, f3⟩ := t1 g2
          have hC2 : zHC f F o := hS.2.1.fr ho (fun x y u => f3 x y (by omega) (by omega)) (f3 _ _ (by omega) (by omega))
          have hN2 : zNm L (f 3 + f 4) F := hS.2.2.fr (f3 _ _ (by omega) (by omega)) (fun b => f3 _ _ (by omega) (by omega))
          obtain ⟨G, q1, q2, q3⟩ := T79 (X := X) (d := d) (t := t) (p := p) (q := q) ho hI hC2 hN2 f2
          obtain ⟨H, y1, y2, y3⟩ := ih (pl_line B n f L (tk_e B n k)) (x4 + 1) j1 G (pJ_line f2.1.2.1 hI) q2 (by omega) (by omega)
          refine ⟨H, ?_, y2, ((f3.H ho).tr q3).tr y3⟩
          rw [f1, L77_k90 ho, if_neg (by decide), q1, L77_k98 ho, ← y1]
          cases (pl_line B n f L (tk_e B n k)).1 with
          | inl u => rw [ps_b_l, if_pos (by decide)]
          | inr k2 => rw [ps_b_r, if_neg (by decide)]
        · rw [if_neg g2]
          obtain ⟨F, f1, f2, f3⟩ := t2 g2
          have := tk_a_r (B := B) hk.2
          obtain ⟨H, y1, y2, y3⟩ := T77_x (X := X) (d := d) (t := t) (p := p) (q := q) (x := (.inl (1, tk_a B n k), f, L)) (x3 := 0) (x4 := x4 + 1) (j1 := j1) (E := F) (B := B) (n := n) ho ⟨⟨(by decide : (1 : Int) ≤ 1), (by decide : (1 : Int) ≤ 6), by omega, by omega⟩, fun k h => (by cases h)⟩ f2 (Or.inr ⟨by omega, by omega, rfl⟩)
          refine ⟨H, ?_, y2, (f3.H ho).tr y3⟩
          rw [f1, L77_k90 ho, if_pos (by decide), y1]
theorem T77 (ho : zo o) (hB : zBC B n E) (h1 : n ≤ E 2 1 ∧ E 2 1 ≤ 900) : ∃ F, zf_ev X (d + 6) 77 (0, [vR 1, vI n, vR o, vJ, vJ], [], zH t p q E) = some (some [], zH t p q F) ∧ zSC B n o (pl_all B n) F ∧ (∀ x y, x ≠ 1 → (x ≠ 2 ∨ y < 2) → x ≠ 4 → x ≠ 5 → (x < o ∨ o + 9 ≤ x) → F x y = E x y) := by
  have hp2 : o = 40 ∨ o = 50 := ho
  have hn := hB.1
  obtain ⟨C, c1, c2, c3, c4⟩ := T20 (X := X) (d := d + 5) (t := t) (p := p) (q := q) (E := E) ho
  obtain ⟨F, x3, f1, f2, f3⟩ := T77_a (X := X) (d := d) (t := t) (p := p) (q := q) (x1 := n) (j4 := vJ) ho 7 0 (zu (zu (zu (zu C 1 3 0) 1 4 0) 1 8 0) 1 9 (-1)) (by omega) (by omega)
  have eF : ∀ x y, x ≠ 5 → x ≠ 1 → F x y = C x y := fun x y u v => by rw [f3 x y (by omega), zu_ne (by omega), zu_ne (by omega), zu_ne (by omega), zu_ne (by omega)]
  obtain ⟨G, g1, g2, g3⟩ := T108 (X := X) (d := d + 3) (t := t) (p := p) (q := q) (B := B) (n := n) (E := F) (hB.fr (fun b => by rw [eF _ _ (by omega) (by omega), c4 _ _ (by omega) (by omega)])) (by rw [eF _ _ (by omega) (by omega), c4 _ _ (by omega) (by omega)]; exact h1)
  have z : ∀ k, (k < 8 ∨ 14 < k) → pl_f0 k = 0 := fun k h => if_neg (by omega)
  have z3 : ∀ k, 8 ≤ k → k ≤ 14 → pl_f0 k = 3 := fun k h1 h2 => if_pos ⟨h1, h2⟩
  have w : ∀ c, 9 ≤ c → c ≤ 15 → G o c = 0 := fun c a b => by
    rw [g3 _ _ (by omega), eF _ _ (by omega) (by omega)]
    exact c2 c a b
  have w1 : ∀ c, 0 ≤ c → c < 39 → G (o + 1) c = if 18 ≤ c ∧ c ≤ 24 then 3 else 0 := fun c a b => by
    rw [g3 _ _ (by omega), eF _ _ (by omega) (by omega)]
    exact c3 c a b
  have hT : zT0 B n 0 G := ⟨g2, by rw [g3 _ _ (by omega), f3 _ _ (by omega), zu_ne (by omega), zu_same]⟩
  have hC : zHC pl_f0 G o := by
    refine ⟨⟨?_, ?_, ?_, ?_, ?_, ?_, ?_⟩, ?_, fun r a b => ⟨?_, ?_⟩, fun s a b => ⟨?_, ?_⟩, fun m a b => ⟨?_, ?_, ?_⟩, fun c a b => ?_, fun m a b => ?_, fun m a b => ?_, fun m a b => ?_⟩
    · rw [w 9 (by omega) (by omega), z _ (by omega)]
    · rw [w 10 (by omega) (by omega), z _ (by omega)]
    · rw [w 11 (by omega) (by omega), z _ (by omega)]
    · rw [w 12 (by omega) (by omega), z _ (by omega)]
    · rw [w 13 (by omega) (by omega), z _ (by omega)]
    · rw [w 14 (by omega) (by omega), z _ (by omega)]
    · rw [w 15 (by omega) (by omega), z _ (by omega)]
    · rw [g3 _ _ (by omega), f3 _ _ (by omega), zu_ne (by omega), zu_ne (by omega), zu_same, z _ (by omega)]
    · rw [w1 _ (by omega) (by omega), if_pos (by omega), z3 _ (by omega) (by omega)]
    · rw [g3 _ _ (by omega), f2 r (by omega) (by omega), z _ (by omega)]
    · rw [w1 _ (by omega) (by omega), if_neg (by omega), z _ (by omega)]
    · rw [w1 _ (by omega) (by omega), if_neg (by omega), z _ (by omega)]
    · rw [w1 _ (by omega) (by omega), if_neg (by omega), z _ (by omega)]
    · rw [w1 _ (by omega) (by omega), if_neg (by omega), z _ (by omega)]
    · rw [w1 _ (by omega) (by omega), if_neg (by omega), z _ (by omega)]
    · rw [w1 _ (by omega) (by omega), if_neg (by omega)]
    · rw [z 4 (by omega)] at b; omega
    · rw [z 5 (by omega)] at b; omega
    · rw [z 6 (by omega)] at b; omega
  have hN : zNm (fun _ => 0) (pl_f0 3 + pl_f0 4) G := by
    rw [z 3 (by omega), z 4 (by omega)]
    exact ⟨by rw [g3 _ _ (by omega), f3 _ _ (by omega), zu_ne (by omega), zu_ne (by omega), zu_ne (by omega), zu_same]; rfl, fun i a b => by omega⟩
  obtain ⟨H, q1, q2, q3⟩ := T79 (X := X) (d := d) (t := t) (p := p) (q := q) ho pI_f0 hC hN hT
  obtain ⟨K, k1, k2, k3⟩ := T77_l (X := X) (d := d) (t := t) (p := p) (q := q) ho 900 (pl_line B n pl_f0 (fun _ => 0) 0) 0 (vI n) H (pJ_line (by omega) pI_f0) q2 (by omega) (by omega)
  refine ⟨K, ?_, k2, fun x y u1 u2 u3 u4 u5 => ?_⟩
  · rw [L77_0 ho, c1, L77_k1 ho, f1, g1, L77_k50 ho, q1, L77_k55 ho, k1]
  · by_cases e : x = 2
    · rw [k3 x y u1 (by omega) u3 u4 u5, q3 x y u1 (by omega) u3 u4 u5, g3 x y (by omega), eF x y u4 u1, c4 x y (by omega) (by omega)]
    · rw [k3 x y u1 (by omega) u3 u4 u5, q3 x y u1 (by omega) u3 u4 u5, g3 x y (by omega), eF x y u4 u1, c4 x y (by omega) (by omega)]
end CA

/-! the reference's rests -/
section R2
variable {X : Nat × (Nat → Int)} {d : Nat} {t : List (Nat × Nat)} {p q : Nat} {E : Nat → Int → Int} {V : Int → Fin 65537} {o : Nat}
theorem T272_in (hV : zV V) {s x k0 : Int} {j5 j6 j7 : ZV} (hs : 0 ≤ s ∧ s < ((V (3)).val : Int)) (hx : 0 ≤ x ∧ x < ((V (3)).val : Int)) (hsx : s ≠ x) (hk0 : 0 ≤ k0 ∧ k0 < ((V (0)).val : Int)) : ∀ (k : Nat) (i : Int) (E : Nat → Int → Int), zR V E → zRs V E 73 74 s x k0 i → 0 ≤ i → i + k = ((V (0)).val : Int) →
    ∃ F j4, zf_ev X (d + 6) 272 (15, [vR 60, vI s, vI x, vI k0, vI i, j5, j6, j7], [], zH t p q E) = zf_ev X (d + 6) 272 (2, [vR 60, vI s, vI x, vI (k0 + 1), j4, j5, j6, j7], [], zH t p q F) ∧ zRs V F 73 74 s x (k0 + 1) 0 ∧ (∀ a9 b9, a9 ≠ 68 → a9 ≠ 69 → a9 ≠ 70 → a9 ≠ 73 → a9 ≠ 74 → F a9 b9 = E a9 b9) := by
  have hc := hV.cols
  have hkk := hV.spks
  intro k
  induction k with
  | zero =>
    intro i E hR hz h1 h2
    have e : i = ((V (0)).val : Int) := by omega
    refine ⟨E, vI i, ?_, (e ▸ hz).row, fun a b _ _ _ _ _ => rfl⟩
    rw [L272_15]
    simp (disch := omega) only [n32_id, zg_pos, if_pos, if_neg, zu_same, zu_ne, if_true, if_false, ne_eq, not_true_eq_false, not_false_eq_true, true_or, or_true, true_and, and_true, zg_true, fa_b_f, fa_b_t, hR.r]
  | succ k ih =>
    intro i E hR hz h1 h2
    obtain ⟨G, g1, g2, g3⟩ := T269 (X := X) (d := d) (t := t) (p := p) (q := q) hR hV hs hx hsx hk0 (e := i) (by omega)
    have e1 := g3 s hs.1 (by omega)
    have e2 := g3 x hx.1 (by omega)
    have e3 : zu G 73 (12 * k0 + i) (sp_gm V s k0 x i s) 70 x = sp_gm V s k0 x i x := by rw [zu_ne (by omega)]; exact e2
    have e4 : 12 * k0 + i = k0 * 12 + i := by omega
    have hR2 : zR V (zu (zu G 73 (12 * k0 + i) (sp_gm V s k0 x i s)) 74 (12 * k0 + i) (sp_gm V s k0 x i x)) := hR.fr (fun b => by rw [zu_ne (by omega), zu_ne (by omega), g2 _ _ (by omega) (by omega) (by omega)]) (fun b => by rw [zu_ne (by omega), zu_ne (by omega), g2 _ _ (by omega) (by omega) (by omega)])
    obtain ⟨F, j4, f1, f2, f3⟩ := ih (i + 1) _ hR2 (hz.add hV hk0 (by omega) (fun b w => by rw [zu_ne (by omega), zu_ne (by omega), g2 _ _ (by omega) (by omega) (by omega)]) (fun b w => by rw [zu_ne (by omega), zu_ne (by omega), g2 _ _ (by omega) (by omega) (by omega)]) (by rw [e4, zu_ne (by omega), zu_same]) (by rw [e4, zu_same])) (by omega) (by omega)
    refine ⟨F, j4, ?_, f2, fun a b y1 y2 y3 y4 y5 => by rw [f3 a b y1 y2 y3 y4 y5, zu_ne (Or.inl y5), zu_ne (Or.inl y4), g2 a b y1 y2 y3]⟩
    rw [L272_15]
    simp (disch := omega) only [n32_id, zg_pos, if_pos, if_neg, zu_same, zu_ne, if_true, if_false, ne_eq, not_true_eq_false, not_false_eq_true, true_or, or_true, true_and, and_true, zg_true, fa_b_f, fa_b_t, hR.r]
    rw [g1, L272_k32]
    simp (disch := omega) only [n32_id, zg_pos, if_pos, if_neg, zu_same, zu_ne, if_true, if_false, ne_eq, not_true_eq_false, not_false_eq_true, true_or, or_true, true_and, and_true, zg_true, fa_b_f, fa_b_t, e1, e2]
    exact f1
theorem T272_out (hV : zV V) {s x : Int} {j5 j6 j7 : ZV} (hs : 0 ≤ s ∧ s < ((V (3)).val : Int)) (hx : 0 ≤ x ∧ x < ((V (3)).val : Int)) (hsx : s ≠ x) : ∀ (k : Nat) (i : Int) (E : Nat → Int → Int) (j4 : ZV), zR V E → zRs V E 73 74 s x i 0 → 0 ≤ i → i + k = ((V (0)).val : Int) →
    ∃ F, zf_ev X (d + 6) 272 (2, [vR 60, vI s, vI x, vI i, j4, j5, j6, j7], [], zH t p q E) = zf_ev X (d + 6) 272 (94, [vR 60, vI s, vI x, vI 0, vI 0, j5, j6, j7], [], zH t p q F) ∧ zRs V F 73 74 s x ((V (0)).val : Int) 0 ∧ F 60 32 = -2 ∧ (∀ a9 b9, (a9 ≠ 60 ∨ b9 ≠ 32) → a9 ≠ 68 → a9 ≠ 69 → a9 ≠ 70 → a9 ≠ 73 → a9 ≠ 74 → F a9 b9 = E a9 b9) := by
  have hc := hV.cols
  intro k
  induction k with
  | zero =>
    intro i E j4 hR hz h1 h2
    have e : i = ((V (0)).val : Int) := by omega
    refine ⟨zu E 60 32 (-2), ?_, (e ▸ hz).fr (fun b => zu_ne (by omega)) (fun b => zu_ne (by omega)), zu_same, fun a b y _ _ _ _ _ => zu_ne y⟩
    rw [L272_2]
    simp (disch := omega) only [n32_id, zg_pos, if_pos, if_neg, zu_same, zu_ne, if_true, if_false, ne_eq, not_true_eq_false, not_false_eq_true, true_or, or_true, true_and, and_true, zg_true, fa_b_f, fa_b_t, hR.r]
  | succ k ih =>
    intro i E j4 hR hz h1 h2
    obtain ⟨G, a4, g1, g2, g3⟩ := T272_in (X := X) (d := d) (t := t) (p := p) (q := q) hV (j5 := j5) (j6 := j6) (j7 := j7) hs hx hsx (k0 := i) (by omega) (((V (0)).val : Int)).toNat 0 E hR hz (by omega) (by omega)
    obtain ⟨F, f1, f2, f3, f4⟩ := ih (i + 1) G a4 (hR.fr (fun b => g3 _ _ (by omega) (by omega) (by omega) (by omega) (by omega)) (fun b => g3 _ _ (by omega) (by omega) (by omega) (by omega) (by omega))) g2 (by omega) (by omega)
    refine ⟨F, ?_, f2, f3, fun a b y0 y1 y2 y3 y4 y5 => by rw [f4 a b y0 y1 y2 y3 y4 y5, g3 a b y1 y2 y3 y4 y5]⟩
    rw [L272_2]
    simp (disch := omega) only [n32_id, zg_pos, if_pos, if_neg, zu_same, zu_ne, if_true, if_false, ne_eq, not_true_eq_false, not_false_eq_true, true_or, or_true, true_and, and_true, zg_true, fa_b_f, fa_b_t, hR.r, g1]
    exact f1
theorem T272_c (hR : zR V E) (hV : zV V) {s x k0 i0 n : Int} {j1 j2 : ZV} (hj : zm_isL j2 = false) (hz : zRs V E 73 74 s x ((V (0)).val : Int) 0) (hk : 0 ≤ k0 ∧ k0 < ((V (0)).val : Int)) (hi : 0 ≤ i0 ∧ i0 < ((V (0)).val : Int)) : ∀ (k : Nat) (i : Int) (b : Bool), 0 ≤ i → i + k = ((V (0)).val : Int) → zf_ev X (d + 6) 272 (125, [vR 60, j1, j2, vI n, vI k0, vI i0, vI (fa_b b), vI i], [], zH t p q E) = zf_ev X (d + 6) 272 (125, [vR 60, j1, j2, vI n, vI k0, vI i0, vI (fa_b (b && fa_all (fun c => decide (sp_gm V s c x i0 s ≤ sp_gm V s k0 x i0 s) && decide (sp_gm V s k0 x c x ≤ sp_gm V s k0 x i0 x)) k i)), vI ((V (0)).val : Int)], [], zH t p q E) := by
  have hc := hV.cols
  intro k
  induction k with
  | zero =>
    intro i b h1 h2
    have e : i = ((V (0)).val : Int) := by omega
    rw [e, show fa_all (fun c => decide (sp_gm V s c x i0 s ≤ sp_gm V s k0 x i0 s) && decide (sp_gm V s k0 x c x ≤ sp_gm V s k0 x i0 x)) 0 ((V (0)).val : Int) = true from rfl, Bool.and_true]
  | succ k ih =>
    intro i b h1 h2
    have i0' := ih (i + 1) false (by omega) (by omega)
    have i1' := ih (i + 1) true (by omega) (by omega)
    rw [fa_b_f] at i0'
    rw [fa_b_t] at i1'
    have e1 : E 73 (12 * i + i0) = sp_gm V s i x i0 s := by rw [show 12 * i + i0 = i * 12 + i0 by omega]; exact (hz i i0 h1 (by omega) hi.1 hi.2 (by omega)).1
    have e2 : E 74 (12 * k0 + i) = sp_gm V s k0 x i x := by rw [show 12 * k0 + i = k0 * 12 + i by omega]; exact (hz k0 i hk.1 hk.2 h1 (by omega) (by omega)).2
    have e3 : E 73 (12 * k0 + i0) = sp_gm V s k0 x i0 s := by rw [show 12 * k0 + i0 = k0 * 12 + i0 by omega]; exact (hz k0 i0 hk.1 hk.2 hi.1 hi.2 (by omega)).1
    have e4 : E 74 (12 * k0 + i0) = sp_gm V s k0 x i0 x := by rw [show 12 * k0 + i0 = k0 * 12 + i0 by omega]; exact (hz k0 i0 hk.1 hk.2 hi.1 hi.2 (by omega)).2
    have r1 := sp_gm_r hV (s := s) (c := i) (x := x) (e := i0) (y := s)
    have r2 := sp_gm_r hV (s := s) (c := k0) (x := x) (e := i) (y := x)
    have r3 := sp_gm_r hV (s := s) (c := k0) (x := x) (e := i0) (y := s)
    have r4 := sp_gm_r hV (s := s) (c := k0) (x := x) (e := i0) (y := x)
    rw [L272_125 hj]
    unfold fa_all
    cases b
    · simp (disch := omega) only [n32_id, zg_pos, if_pos, if_neg, zu_same, zu_ne, if_true, if_false, ne_eq, not_true_eq_false, not_false_eq_true, true_or, or_true, true_and, and_true, zg_true, fa_b_f, fa_b_t, hR.r]
      rw [i0']
      simp
    · by_cases w1 : sp_gm V s i x i0 s ≤ sp_gm V s k0 x i0 s
      · by_cases w2 : sp_gm V s k0 x i x ≤ sp_gm V s k0 x i0 x
        · simp (disch := omega) only [n32_id, zg_pos, if_pos, if_neg, zu_same, zu_ne, if_true, if_false, ne_eq, not_true_eq_false, not_false_eq_true, true_or, or_true, true_and, and_true, zg_true, fa_b_f, fa_b_t, hR.r, e1, e2, e3, e4]
          rw [i1']
          simp [w1, w2]
        · simp (disch := omega) only [n32_id, zg_pos, if_pos, if_neg, zu_same, zu_ne, if_true, if_false, ne_eq, not_true_eq_false, not_false_eq_true, true_or, or_true, true_and, and_true, zg_true, fa_b_f, fa_b_t, hR.r, e1, e2, e3, e4]
          rw [i0']
          simp [w2]
      · simp (disch := omega) only [n32_id, zg_pos, if_pos, if_neg, zu_same, zu_ne, if_true, if_false, ne_eq, not_true_eq_false, not_false_eq_true, true_or, or_true, true_and, and_true, zg_true, fa_b_f, fa_b_t, hR.r, e1, e3]
        rw [i0']
        simp [w1]
theorem T272_i (hV : zV V) {s x k0 : Int} {j1 j2 : ZV} (hj : zm_isL j2 = false) (hk0 : 0 ≤ k0 ∧ k0 < ((V (0)).val : Int)) : ∀ (k : Nat) (i : Int) (a : Int × Int) (E : Nat → Int → Int) (j6 j7 : ZV), zR V E → zRs V E 73 74 s x ((V (0)).val : Int) 0 → E 60 32 = a.1 → 0 ≤ i → i + k = ((V (0)).val : Int) → 0 ≤ a.2 → a.2 ≤ 144 - k →
    ∃ F j5 j6' j7', zf_ev X (d + 6) 272 (108, [vR 60, j1, j2, vI a.2, vI k0, vI i, j6, j7], [], zH t p q E) = zf_ev X (d + 6) 272 (94, [vR 60, j1, j2, vI (sp_ri (fun i => sp_isr V s x k0 i) (fun i => 100 * k0 + i) k i a).2, vI (k0 + 1), j5, j6', j7'], [], zH t p q F) ∧ F 60 32 = (sp_ri (fun i => sp_isr V s x k0 i) (fun i => 100 * k0 + i) k i a).1 ∧ (∀ a9 b9, (a9 ≠ 60 ∨ b9 ≠ 32) → F a9 b9 = E a9 b9) := by
  have hc := hV.cols
  intro k
  induction k with
  | zero =>
    intro i a E j6 j7 hR hz h32 h1 h2 h3 h4
    refine ⟨E, vI i, j6, j7, ?_, h32, fun a b _ => rfl⟩
    rw [L272_108]
    simp (disch := omega) only [n32_id, zg_pos, if_pos, if_neg, zu_same, zu_ne, if_true, if_false, ne_eq, not_true_eq_false, not_false_eq_true, true_or, or_true, true_and, and_true, zg_true, fa_b_f, fa_b_t, hR.r]
    rfl
  | succ k ih =>
    intro i a E j6 j7 hR hz h32 h1 h2 h3 h4
    have ec := T272_c (X := X) (d := d) (t := t) (p := p) (q := q) hR hV (n := a.2) (j1 := j1) hj hz hk0 (i0 := i) (by omega) (((V (0)).val : Int)).toNat 0 true (by omega) (by omega)
    have es : (true && fa_all (fun c => decide (sp_gm V s c x i s ≤ sp_gm V s k0 x i s) && decide (sp_gm V s k0 x c x ≤ sp_gm V s k0 x i x)) (((V (0)).val : Int)).toNat 0) = sp_isr V s x k0 i := Bool.true_and _
    rw [es, fa_b_t] at ec
    unfold sp_ri
    cases hm : sp_isr V s x k0 i
    · rw [hm, fa_b_f] at ec
      obtain ⟨F, j5, a6, a7, f1, f2, f3⟩ := ih (i + 1) a E (vI 0) (vI ((V (0)).val : Int)) hR hz h32 (by omega) (by omega) h3 (by omega)
      refine ⟨F, j5, a6, a7, ?_, f2, f3⟩
      rw [L272_108]
      simp (disch := omega) only [n32_id, zg_pos, if_pos, if_neg, zu_same, zu_ne, if_true, if_false, ne_eq, not_true_eq_false, not_false_eq_true, true_or, or_true, true_and, and_true, zg_true, fa_b_f, fa_b_t, hR.r]
      rw [ec, L272_125 hj]
      simp (disch := omega) only [n32_id, zg_pos, if_pos, if_neg, zu_same, zu_ne, if_true, if_false, ne_eq, not_true_eq_false, not_false_eq_true, true_or, or_true, true_and, and_true, zg_true, fa_b_f, fa_b_t, hR.r]
      exact f1
    · rw [hm, fa_b_t] at ec
      by_cases w : a.2 = 0
      · obtain ⟨F, j5, a6, a7, f1, f2, f3⟩ := ih (i + 1) (100 * k0 + i, a.2 + 1) (zu E 60 32 (100 * k0 + i)) (vI 1) (vI ((V (0)).val : Int)) (hR.fr (fun b => zu_ne (by omega)) (fun b => zu_ne (by omega))) (hz.fr (fun b => zu_ne (by omega)) (fun b => zu_ne (by omega))) zu_same (by omega) (by omega) (show 0 ≤ a.2 + 1 by omega) (show a.2 + 1 ≤ 144 - (k : Int) by omega)
        refine ⟨F, j5, a6, a7, ?_, ?_, fun a b y => by rw [f3 a b y, zu_ne y]⟩
        · rw [L272_108]
          simp (disch := omega) only [n32_id, zg_pos, if_pos, if_neg, zu_same, zu_ne, if_true, if_false, ne_eq, not_true_eq_false, not_false_eq_true, true_or, or_true, true_and, and_true, zg_true, fa_b_f, fa_b_t, hR.r]
          rw [ec, L272_125 hj]
          simp (disch := omega) only [n32_id, zg_pos, if_pos, if_neg, zu_same, zu_ne, if_true, if_false, ne_eq, not_true_eq_false, not_false_eq_true, true_or, or_true, true_and, and_true, zg_true, fa_b_f, fa_b_t, hR.r]
          exact f1
        · simp only [if_true, if_pos w]
          exact f2
      · obtain ⟨F, j5, a6, a7, f1, f2, f3⟩ := ih (i + 1) (a.1, a.2 + 1) E (vI 1) (vI ((V (0)).val : Int)) hR hz h32 (by omega) (by omega) (show 0 ≤ a.2 + 1 by omega) (show a.2 + 1 ≤ 144 - (k : Int) by omega)
        refine ⟨F, j5, a6, a7, ?_, ?_, f3⟩
        · rw [L272_108]
          simp (disch := omega) only [n32_id, zg_pos, if_pos, if_neg, zu_same, zu_ne, if_true, if_false, ne_eq, not_true_eq_false, not_false_eq_true, true_or, or_true, true_and, and_true, zg_true, fa_b_f, fa_b_t, hR.r]
          rw [ec, L272_125 hj]
          simp (disch := omega) only [n32_id, zg_pos, if_pos, if_neg, zu_same, zu_ne, if_true, if_false, ne_eq, not_true_eq_false, not_false_eq_true, true_or, or_true, true_and, and_true, zg_true, fa_b_f, fa_b_t, hR.r]
          exact f1
        · simp only [if_true, if_neg w]
          exact f2
theorem T272_o (hV : zV V) {s x : Int} {j1 j2 : ZV} (hj : zm_isL j2 = false) : ∀ (k : Nat) (i : Int) (a : Int × Int) (E : Nat → Int → Int) (j5 j6 j7 : ZV), zR V E → zRs V E 73 74 s x ((V (0)).val : Int) 0 → E 60 32 = a.1 → 0 ≤ i → i + k = ((V (0)).val : Int) → 0 ≤ a.2 → a.2 ≤ 12 * i →
    ∃ F, zf_ev X (d + 6) 272 (94, [vR 60, j1, j2, vI a.2, vI i, j5, j6, j7], [], zH t p q E) = some (some [vI ((sp_ro (fun k i => sp_isr V s x k i) (fun k i => 100 * k + i) (((V (0)).val : Int)).toNat k i a).2)], zH t p q F) ∧ F 60 32 = (sp_ro (fun k i => sp_isr V s x k i) (fun k i => 100 * k + i) (((V (0)).val : Int)).toNat k i a).1 ∧ (∀ a9 b9, (a9 ≠ 60 ∨ b9 ≠ 32) → F a9 b9 = E a9 b9) := by
  have hc := hV.cols
  intro k
  induction k with
  | zero =>
    intro i a E j5 j6 j7 hR hz h32 h1 h2 h3 h4
    refine ⟨E, ?_, h32, fun a b _ => rfl⟩
    rw [L272_94]
    simp (disch := omega) only [n32_id, zg_pos, if_pos, if_neg, zu_same, zu_ne, if_true, if_false, ne_eq, not_true_eq_false, not_false_eq_true, true_or, or_true, true_and, and_true, zg_true, fa_b_f, fa_b_t, hR.r]
    rfl
  | succ k ih =>
    intro i a E j5 j6 j7 hR hz h32 h1 h2 h3 h4
    obtain ⟨G, a5, a6, a7, g1, g2, g3⟩ := T272_i (X := X) (d := d) (t := t) (p := p) (q := q) hV (s := s) (x := x) (k0 := i) (j1 := j1) hj (by omega) (((V (0)).val : Int)).toNat 0 a E j6 j7 hR hz h32 (by omega) (by omega) h3 (by omega)
    have b := sp_ri_r (b := fun y => sp_isr V s x i y) (l := fun y => 100 * i + y) (((V (0)).val : Int)).toNat 0 a h3
    obtain ⟨F, f1, f2, f3⟩ := ih (i + 1) _ G a5 a6 a7 (hR.fr (fun b => g3 _ _ (by omega)) (fun b => g3 _ _ (by omega))) (hz.fr (fun b => g3 _ _ (by omega)) (fun b => g3 _ _ (by omega))) g2 (by omega) (by omega) b.1 (by omega)
    refine ⟨F, ?_, f2, fun a b y => by rw [f3 a b y, g3 a b y]⟩
    rw [L272_94]
    simp (disch := omega) only [n32_id, zg_pos, if_pos, if_neg, zu_same, zu_ne, if_true, if_false, ne_eq, not_true_eq_false, not_false_eq_true, true_or, or_true, true_and, and_true, zg_true, fa_b_f, fa_b_t, hR.r, g1]
    exact f1
theorem T272 (hR : zR V E) (hV : zV V) {s x : Int} (hs : 0 ≤ s ∧ s < ((V (3)).val : Int)) (hx : 0 ≤ x ∧ x < ((V (3)).val : Int)) (hsx : s ≠ x) : ∃ F, zf_ev X (d + 6) 272 (0, [vR 60, vI s, vI x, vJ, vJ, vJ, vJ, vJ], [], zH t p q E) = some (some [vI ((sp_rests V s x).2)], zH t p q F) ∧ F 60 32 = (sp_rests V s x).1 ∧ (∀ a9 b9, (a9 ≠ 60 ∨ b9 ≠ 32) → a9 ≠ 68 → a9 ≠ 69 → a9 ≠ 70 → a9 ≠ 73 → a9 ≠ 74 → F a9 b9 = E a9 b9) := by
  have hc := hV.cols
  obtain ⟨G, g1, g2, g3, g4⟩ := T272_out (X := X) (d := d) (t := t) (p := p) (q := q) hV (j5 := vJ) (j6 := vJ) (j7 := vJ) hs hx hsx (((V (0)).val : Int)).toNat 0 E vJ hR (fun k' i' w1 w2 w3 w4 w5 => by omega) (by omega) (by omega)
  obtain ⟨F, f1, f2, f3⟩ := T272_o (X := X) (d := d) (t := t) (p := p) (q := q) hV (s := s) (x := x) (j1 := vI s) (j2 := vI x) rfl (((V (0)).val : Int)).toNat 0 (-2, 0) G vJ vJ vJ (hR.fr (fun b => g4 _ _ (by omega) (by omega) (by omega) (by omega) (by omega) (by omega)) (fun b => g4 _ _ (by omega) (by omega) (by omega) (by omega) (by omega) (by omega))) g2 g3 (by omega) (by omega) (by decide) (by decide)
  refine ⟨F, ?_, f2, fun a b y1 y2 y3 y4 y5 y6 => by rw [f3 a b y1, g4 a b y1 y2 y3 y4 y5 y6]⟩
  rw [L272_0, g1]
  exact f1
theorem Q273 (hG : zG V E p) {s x : Int} (h1 : 0 ≤ s) (h2 : s < ((V (3)).val : Int)) (h3 : 0 ≤ x) (h4 : x < ((V (3)).val : Int)) (h5 : s ≠ x) : ∃ F, zf_ev X (d + 7) 273 (0, [vR 60, vI s, vI x], [], zH t p q E) = some (some [vI ((sp_rests V s x).2)], zH t p q F) ∧ F 60 11 = 0 ∧ F 60 0 = 0 ∧ zFM E F := by
  obtain ⟨hV, -, h142⟩ := hG.yes (by omega)
  have hR2 := hG.R2
  obtain ⟨F, f1, f2, f3⟩ := T272 (X := X) (d := d) (t := t) (p := p) (q := q) hR2 hV ⟨h1, h2⟩ ⟨h3, h4⟩ h5
  have hf : zFM (zg0 E) F := fun a b g1 g2 => f3 a b (by omega) (by omega) (by omega) (by omega) (by omega) (by omega)
  refine ⟨F, ?_, by rw [f3 _ _ (by omega) (by omega) (by omega) (by omega) (by omega) (by omega)]; rfl, by rw [f3 _ _ (by omega) (by omega) (by omega) (by omega) (by omega) (by omega)]; rfl, zFM.g0.tr hf⟩
  simp (disch := omega) only [n32_id, zg_pos, if_pos, if_neg, zu_same, zu_ne, if_true, if_false, ne_eq, not_true_eq_false, not_false_eq_true, true_or, or_true, true_and, and_true, zg_true, fa_b_f, fa_b_t, L273_0, L273_k1, L273_k7, L273_k16, L273_k24, T177, T270t hR2 h142 hV, f1]
theorem Q273n (hG : zG V E p) {s x : Int} (b1 : -2147483648 ≤ s ∧ s < 2147483648) (b2 : -2147483648 ≤ x ∧ x < 2147483648) (h : (s < 0 ∨ ((V (3)).val : Int) ≤ s) ∨ (x < 0 ∨ ((V (3)).val : Int) ≤ x) ∨ s = x) : ∃ F, zf_ev X (d + 7) 273 (0, [vR 60, vI s, vI x], [], zH t p q E) = some (some [vI (-1)], zH t p q F) ∧ F 60 11 = 1 ∧ F 60 0 = 0 ∧ zFM E F := by
  have hR2 := hG.R2
  refine RQ_no (F := E) ?_
  simp (disch := omega) only [n32_id, zg_pos, if_pos, if_neg, zu_same, zu_ne, if_true, if_false, ne_eq, not_true_eq_false, not_false_eq_true, true_or, or_true, true_and, and_true, zg_true, fa_b_f, fa_b_t, L273_0, L273_k1, L273_k7, L273_k16, L273_k24, T177, T270f hR2 hG.h15, L178_0]
theorem Q274 (hG : zG V E p) {s x : Int} (h1 : 0 ≤ s) (h2 : s < ((V (3)).val : Int)) (h3 : 0 ≤ x) (h4 : x < ((V (3)).val : Int)) (h5 : s ≠ x) : ∃ F, zf_ev X (d + 7) 274 (0, [vR 60, vI s, vI x], [], zH t p q E) = some (some [vI ((sp_rests V s x).1)], zH t p q F) ∧ F 60 11 = 0 ∧ F 60 0 = 0 ∧ zFM E F := by
  obtain ⟨hV, -, h142⟩ := hG.yes (by omega)
  have hR2 := hG.R2
  obtain ⟨F, f1, f2, f3⟩ := T272 (X := X) (d := d) (t := t) (p := p) (q := q) hR2 hV ⟨h1, h2⟩ ⟨h3, h4⟩ h5
  have hf : zFM (zg0 E) F := fun a b g1 g2 => f3 a b (by omega) (by omega) (by omega) (by omega) (by omega) (by omega)
  refine ⟨F, ?_, by rw [f3 _ _ (by omega) (by omega) (by omega) (by omega) (by omega) (by omega)]; rfl, by rw [f3 _ _ (by omega) (by omega) (by omega) (by omega) (by omega) (by omega)]; rfl, zFM.g0.tr hf⟩
  simp (disch := omega) only [n32_id, zg_pos, if_pos, if_neg, zu_same, zu_ne, if_true, if_false, ne_eq, not_true_eq_false, not_false_eq_true, true_or, or_true, true_and, and_true, zg_true, fa_b_f, fa_b_t, L274_0, L274_k1, L274_k7, L274_k15, L274_k22, T177, T270t hR2 h142 hV, f1, f2]
theorem Q274n (hG : zG V E p) {s x : Int} (b1 : -2147483648 ≤ s ∧ s < 2147483648) (b2 : -2147483648 ≤ x ∧ x < 2147483648) (h : (s < 0 ∨ ((V (3)).val : Int) ≤ s) ∨ (x < 0 ∨ ((V (3)).val : Int) ≤ x) ∨ s = x) : ∃ F, zf_ev X (d + 7) 274 (0, [vR 60, vI s, vI x], [], zH t p q E) = some (some [vI (-1)], zH t p q F) ∧ F 60 11 = 1 ∧ F 60 0 = 0 ∧ zFM E F := by
  have hR2 := hG.R2
  refine RQ_no (F := E) ?_
  simp (disch := omega) only [n32_id, zg_pos, if_pos, if_neg, zu_same, zu_ne, if_true, if_false, ne_eq, not_true_eq_false, not_false_eq_true, true_or, or_true, true_and, and_true, zg_true, fa_b_f, fa_b_t, L274_0, L274_k1, L274_k7, L274_k15, L274_k22, T177, T270f hR2 hG.h15, L178_0]
end R2

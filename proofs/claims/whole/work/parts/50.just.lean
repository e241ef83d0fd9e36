/-! just: how many count for a speaker -/
def sp_sq (c : Int) (f : Int → Int) : Int → Int := fun j => if j = 0 then f 0 * (200 - c) else f j * (200 - c) + f (j - 1) * c
def sp_spr (g : Int → Int) : Nat → Int → (Int → Int) → (Int → Int)
  | 0, _, f => f
  | k + 1, m, f => sp_spr g k (m + 1) (sp_sq (g m) f)
theorem sp_sq_r {c : Int} {f : Int → Int} {B : Int} (hc : 0 ≤ c ∧ c ≤ 200) (hf : ∀ j, 0 ≤ f j ∧ f j ≤ B) : ∀ j, 0 ≤ sp_sq c f j ∧ sp_sq c f j ≤ B * 200 := by
  intro j
  have h0 := hf j
  have h1 := hf (j - 1)
  have p1 := Int.mul_nonneg h0.1 (show (0 : Int) ≤ 200 - c by omega)
  have p2 := Int.mul_nonneg h1.1 hc.1
  have q1 := Int.mul_le_mul_of_nonneg_right h0.2 (show (0 : Int) ≤ 200 - c by omega)
  have q2 := Int.mul_le_mul_of_nonneg_right h1.2 hc.1
  have e : B * (200 - c) = B * 200 - B * c := Int.mul_sub _ _ _
  have hB : 0 ≤ B * c := Int.mul_nonneg (by omega) hc.1
  unfold sp_sq
  by_cases g : j = 0
  · subst g
    rw [if_pos rfl]
    omega
  · rw [if_neg g]
    omega
theorem sp_spr_r {g : Int → Int} : ∀ (k : Nat) (m : Int) (f : Int → Int) (B : Int), (∀ j, 0 ≤ f j ∧ f j ≤ B) → (∀ j, m ≤ j → j < m + k → 0 ≤ g j ∧ g j ≤ 200) → ∀ j, 0 ≤ sp_spr g k m f j ∧ sp_spr g k m f j ≤ B * 200 ^ k := by
  intro k
  induction k with
  | zero =>
    intro m f B hf hg j
    have := hf j
    unfold sp_spr
    rw [Int.pow_zero, Int.mul_one]
    exact this
  | succ k ih =>
    intro m f B hf hg j
    have h := ih (m + 1) (sp_sq (g m) f) (B * 200) (sp_sq_r (hg m (by omega) (by omega)) hf) (fun i a b => hg i (by omega) (by omega)) j
    unfold sp_spr
    rw [Int.pow_succ, Int.mul_comm (200 ^ k), ← Int.mul_assoc]
    exact h
def sp_j0 : Int → Int := fun j => if j = 0 then 1 else 0
def sp_just (V : Int → Fin 65537) (s many : Int) : Int := sp_spr (fun m => sp_cnow V m s) (((V (4)).val : Int)).toNat 0 sp_j0 many
section JU
variable {X : Nat × (Nat → Int)} {d : Nat} {t : List (Nat × Nat)} {p q : Nat} {E : Nat → Int → Int} {V : Int → Fin 65537} {o : Nat}
theorem sp_just_r (hV : zV V) {s many : Int} : 0 ≤ sp_just V s many ∧ sp_just V s many ≤ sp_pow ((V (4)).val : Int) := by
  have h := sp_spr_r (g := fun m => sp_cnow V m s) (((V (4)).val : Int)).toNat 0 sp_j0 1 (fun j => by unfold sp_j0; split <;> omega) (fun j a b => sp_chance_r hV a (by omega)) many
  rw [Int.one_mul] at h
  exact h
theorem T53_in (ho : zo o) {s m c : Int} {f : Int → Int} : ∀ (k : Nat) (i : Int) (E : Nat → Int → Int), i = k → k ≤ 6 → (∀ j, 0 ≤ j → j ≤ i → E 14 j = f j) → (∀ j, i < j → j ≤ 6 → E 14 j = sp_sq c f j) →
    ∃ F j6, zf_ev X (d + 5) 53 (51, [vR 9, vR o, vI s, vI m, vL c, vJ, vI i], [], zH t p q E) = zf_ev X (d + 5) 53 (30, [vR 9, vR o, vI s, vI (m + 1), vL c, vJ, j6], [], zH t p q F) ∧ (∀ j, 0 ≤ j → j ≤ 6 → F 14 j = sp_sq c f j) ∧ (∀ a9 b9, a9 ≠ 14 → F a9 b9 = E a9 b9) := by
  intro k
  induction k with
  | zero =>
    intro i E hi hk h1 h2
    have h0 : i = 0 := by omega
    subst h0
    have e0 := h1 0 (by omega) (by omega)
    refine ⟨zu E 14 0 (f 0 * (200 - c)), vI 0, ?_, fun j a b => ?_, fun a b g => zu_ne (Or.inl g)⟩
    · rw [L53_51 ho rfl]
      simp (disch := omega) only [n32_id, zg_pos, if_pos, if_neg, zu_same, zu_ne, if_true, if_false, ne_eq, not_true_eq_false, not_false_eq_true, true_or, or_true, true_and, and_true, zg_true, fa_b_f, fa_b_t, e0]
    · by_cases g : j = 0
      · rw [g, zu_same]
        unfold sp_sq
        rw [if_pos rfl]
      · rw [zu_ne (Or.inr g)]
        exact h2 j (by omega) b
  | succ k ih =>
    intro i E hi hk h1 h2
    have e1 := h1 i (by omega) (by omega)
    have e2 := h1 (i - 1) (by omega) (by omega)
    have e3 : sp_sq c f i = f i * (200 - c) + f (i - 1) * c := by unfold sp_sq; rw [if_neg (by omega)]
    obtain ⟨F, j6, f1, f2, f3⟩ := ih (i + -1) (zu E 14 i (f i * (200 - c) + f (i - 1) * c)) (by omega) (by omega) (fun j a b => by rw [zu_ne (by omega)]; exact h1 j a (by omega)) (fun j a b => by
      by_cases g : j = i
      · rw [g, zu_same, e3]
      · rw [zu_ne (Or.inr g)]
        exact h2 j (by omega) b)
    refine ⟨F, j6, ?_, f2, fun a b g => by rw [f3 a b g, zu_ne (Or.inl g)]⟩
    rw [L53_51 ho rfl]
    simp (disch := omega) only [n32_id, zg_pos, if_pos, if_neg, zu_same, zu_ne, if_true, if_false, ne_eq, not_true_eq_false, not_false_eq_true, true_or, or_true, true_and, and_true, zg_true, fa_b_f, fa_b_t, e1, e2]
    exact f1
theorem T53_loop (ho : zo o) (hV : zV V) {s : Int} (hs : 0 ≤ s ∧ s < 4) : ∀ (k : Nat) (m : Int) (f : Int → Int) (E : Nat → Int → Int) (j4 j5 j6 : ZV), zC V E o → 0 ≤ m → m + k = ((V (4)).val : Int) → (∀ j, 0 ≤ j → j ≤ 6 → E 14 j = f j) →
    ∃ F, zf_ev X (d + 5) 53 (30, [vR 9, vR o, vI s, vI m, j4, j5, j6], [], zH t p q E) = some (some [], zH t p q F) ∧ (∀ j, 0 ≤ j → j ≤ 6 → F 14 j = sp_spr (fun m => sp_cnow V m s) k m f j) ∧ (∀ a9 b9, a9 ≠ 14 → F a9 b9 = E a9 b9) := by
  have hm := hV.mems
  have ho2 : o = 40 ∨ o = 50 := ho
  intro k
  induction k with
  | zero =>
    intro m f E j4 j5 j6 hC h1 h2 h3
    refine ⟨E, ?_, h3, fun a b _ => rfl⟩
    rw [L53_30 ho]
    simp (disch := omega) only [n32_id, zg_pos, if_pos, if_neg, zu_same, zu_ne, if_true, if_false, ne_eq, not_true_eq_false, not_false_eq_true, true_or, or_true, true_and, and_true, zg_true, fa_b_f, fa_b_t, hC.mems]
  | succ k ih =>
    intro m f E j4 j5 j6 hC h1 h2 h3
    have b : 0 ≤ sp_cnow V m s ∧ sp_cnow V m s ≤ 200 := sp_chance_r hV h1 (by omega)
    obtain ⟨F, a6, f1, f2, f3⟩ := T53_in (X := X) (d := d) (t := t) (p := p) (q := q) ho (s := s) (m := m) (c := sp_cnow V m s) (f := f) 6 6 E rfl (by omega) h3 (fun j a b => by omega)
    obtain ⟨G, g1, g2, g3⟩ := ih (m + 1) (sp_sq (sp_cnow V m s) f) F (vL (sp_cnow V m s)) vJ a6 (hC.fr (fun a b _ _ => f3 a b (by omega))) (by omega) (by omega) f2
    refine ⟨G, ?_, g2, fun a b g => by rw [g3 a b g, f3 a b g]⟩
    rw [L53_30 ho]
    simp (disch := omega) only [n32_id, zg_pos, if_pos, if_neg, zu_same, zu_ne, if_true, if_false, ne_eq, not_true_eq_false, not_false_eq_true, true_or, or_true, true_and, and_true, zg_true, fa_b_f, fa_b_t, hC.mems, T46 ho hC hV]
    rw [L53_k41 ho]
    simp (disch := omega) only [n32_id, zg_pos, if_pos, if_neg, zu_same, zu_ne, if_true, if_false, ne_eq, not_true_eq_false, not_false_eq_true, true_or, or_true, true_and, and_true, zg_true, fa_b_f, fa_b_t, f1]
    exact g1
theorem T53_a (ho : zo o) {s : Int} : ∀ (k : Nat) (i : Int) (E : Nat → Int → Int) (j4 j5 j6 : ZV), 1 ≤ i → i + k = 7 → zf_ev X (d + 5) 53 (2, [vR 9, vR o, vI s, vI i, j4, j5, j6], [], zH t p q E) = zf_ev X (d + 5) 53 (30, [vR 9, vR o, vI s, vI 0, j4, j5, j6], [], zH t p q (zu (zfill E 14 i 7 (fun _ => 0)) 14 0 1)) := by
  intro k
  induction k with
  | zero =>
    intro i E j4 j5 j6 h1 h2
    rw [L53_2 ho, zfill_nil (by omega)]
    simp (disch := omega) only [n32_id, zg_pos, if_pos, if_neg, zu_same, zu_ne, if_true, if_false, ne_eq, not_true_eq_false, not_false_eq_true, true_or, or_true, true_and, and_true, zg_true, fa_b_f, fa_b_t]
  | succ k ih =>
    intro i E j4 j5 j6 h1 h2
    rw [L53_2 ho]
    simp (disch := omega) only [n32_id, zg_pos, if_pos, if_neg, zu_same, zu_ne, if_true, if_false, ne_eq, not_true_eq_false, not_false_eq_true, true_or, or_true, true_and, and_true, zg_true, fa_b_f, fa_b_t]
    rw [ih _ _ _ _ _ (by omega) (by omega), zfill_stepc (by omega)]
theorem T53 (ho : zo o) (hC : zC V E o) (hV : zV V) {s : Int} (hs : 0 ≤ s ∧ s < 4) : ∃ F, zf_ev X (d + 5) 53 (0, [vR 9, vR o, vI s, vJ, vJ, vJ, vJ], [], zH t p q E) = some (some [], zH t p q F) ∧ (∀ j, 0 ≤ j → j ≤ 6 → F 14 j = sp_just V s j) ∧ (∀ a9 b9, a9 ≠ 14 → F a9 b9 = E a9 b9) := by
  have ho2 : o = 40 ∨ o = 50 := ho
  obtain ⟨F, f1, f2, f3⟩ := T53_loop (X := X) (d := d) (t := t) (p := p) (q := q) ho hV hs (((V (4)).val : Int)).toNat 0 sp_j0 (zu (zfill E 14 1 7 (fun _ => 0)) 14 0 1) vJ vJ vJ (hC.fr (fun a b _ _ => by rw [zu_ne (by omega), zfill_ne (by omega)])) (by omega) (by omega) (fun j a b => by
    unfold sp_j0
    by_cases g : j = 0
    · rw [g, zu_same, if_pos rfl]
    · rw [zu_ne (Or.inr g), zfill_in (by omega) (by omega), if_neg g])
  refine ⟨F, ?_, f2, fun a b g => by rw [f3 a b g, zu_ne (Or.inl g), zfill_ne g]⟩
  rw [L53_0 ho, T53_a ho 6 1 E _ _ _ (by omega) (by omega)]
  exact f1
theorem Q131 (hG : zG V E p) {s many l : Int} (h3 : 0 ≤ s) (h4 : s < ((V (3)).val : Int)) (h5 : 0 ≤ many) (h6 : many ≤ 6) (hl : -2147483648 ≤ l ∧ l < 2147483648) : ∃ F, zf_ev X (d + 6) 131 (0, [vR 0, vI s, vI many, vI l], [], zH t p q E) = some (some [vL (sp_low (sp_just V s many) (sp_pow ((V (4)).val : Int)) l)], zH t p q F) ∧ F 0 10 = 0 ∧ zFC E F := by
  obtain ⟨hV, -, -⟩ := hG.yes (by omega)
  obtain ⟨hp, hC, hR, -⟩ := hG
  have hk := hV.spks
  have hm := hV.mems
  have hp2 : p = 40 ∨ p = 50 := hp
  have hC2 : zC V (zu E 0 10 0) p := hC.fco hp zFC.u
  have hr := sp_just_r hV (s := s) (many := many)
  have hr2 := sp_pow_r hV
  obtain ⟨F, f1, f2, f3⟩ := T53 (X := X) (d := d) (t := t) (p := p) (q := q) hp hC2 hV (s := s) (by omega)
  have hC3 : zC V F p := hC2.fr (fun a b _ _ => f3 a b (by omega))
  have e := f2 many h5 h6
  refine ⟨F, ?_, by rw [f3 _ _ (by omega)]; exact zu_same, fun a b g1 g2 g3 g4 => by rw [f3 a b (by omega), zu_ne g4]⟩
  simp (disch := omega) only [n32_id, zg_pos, if_pos, if_neg, zu_same, zu_ne, if_true, if_false, ne_eq, not_true_eq_false, not_false_eq_true, true_or, or_true, true_and, and_true, zg_true, fa_b_f, fa_b_t, L131_0 hp, L131_k6, L131_k9 hp, L131_k31, L131_k45 hp, L131_k64, L131_k68, T22t hp hC, T168t, f1, e, hC3.mems, T48, T49]
theorem Q131n (hG : zG V E p) {s many l : Int} (h1 : -2147483648 ≤ s ∧ s < 2147483648) (h : s < 0 ∨ ((V (3)).val : Int) ≤ s) : ∃ F, zf_ev X (d + 6) 131 (0, [vR 0, vI s, vI many, vI l], [], zH t p q E) = some (some [vL (-1)], zH t p q F) ∧ F 0 10 = 1 ∧ zFC E F := by
  obtain ⟨hp, hC, hR, -⟩ := hG
  refine ⟨zu E 0 10 1, ?_, zu_same, zFC.u⟩
  simp (disch := omega) only [n32_id, zg_pos, if_pos, if_neg, zu_same, zu_ne, if_true, if_false, ne_eq, not_true_eq_false, not_false_eq_true, true_or, or_true, true_and, and_true, zg_true, fa_b_f, fa_b_t, L131_0 hp, L131_k6, L131_k9 hp, L131_k31, L131_k45 hp, L131_k64, L131_k68, T22f hp hC, T168f]
theorem Q131m (hG : zG V E p) {s many l : Int} (h3 : 0 ≤ s) (h4 : s < ((V (3)).val : Int)) (h1 : -2147483648 ≤ many ∧ many < 2147483648) (h : many < 0 ∨ 6 < many) : ∃ F, zf_ev X (d + 6) 131 (0, [vR 0, vI s, vI many, vI l], [], zH t p q E) = some (some [vL (-1)], zH t p q F) ∧ F 0 10 = 2 ∧ zFC E F := by
  obtain ⟨hp, hC, hR, -⟩ := hG
  refine ⟨zu (zu E 0 10 0) 0 10 2, ?_, zu_same, zFC.u.tr zFC.u⟩
  by_cases g : many < 0
  · simp (disch := omega) only [n32_id, zg_pos, if_pos, if_neg, zu_same, zu_ne, if_true, if_false, ne_eq, not_true_eq_false, not_false_eq_true, true_or, or_true, true_and, and_true, zg_true, fa_b_f, fa_b_t, L131_0 hp, L131_k6, L131_k9 hp, L131_k31, L131_k45 hp, L131_k64, L131_k68, T22t hp hC, T168t, L167_0]
  · simp (disch := omega) only [n32_id, zg_pos, if_pos, if_neg, zu_same, zu_ne, if_true, if_false, ne_eq, not_true_eq_false, not_false_eq_true, true_or, or_true, true_and, and_true, zg_true, fa_b_f, fa_b_t, L131_0 hp, L131_k6, L131_k9 hp, L131_k31, L131_k45 hp, L131_k64, L131_k68, T22t hp hC, T168t, L167_0]
theorem T258_in {s many l m c : Int} {f : Int → Int} : ∀ (k : Nat) (i : Int) (E : Nat → Int → Int), i = k → k ≤ 6 → (∀ j, 0 ≤ j → j ≤ i → E 72 j = f j) → (∀ j, i < j → j ≤ 6 → E 72 j = sp_sq c f j) →
    ∃ F j7, zf_ev X (d + 5) 258 (97, [vR 60, vI s, vI many, vI l, vI m, vL c, vJ, vI i], [], zH t p q E) = zf_ev X (d + 5) 258 (72, [vR 60, vI s, vI many, vI l, vI (m + 1), vL c, vJ, j7], [], zH t p q F) ∧ (∀ j, 0 ≤ j → j ≤ 6 → F 72 j = sp_sq c f j) ∧ (∀ a9 b9, a9 ≠ 72 → F a9 b9 = E a9 b9) := by
  intro k
  induction k with
  | zero =>
    intro i E hi hk h1 h2
    have h0 : i = 0 := by omega
    subst h0
    have e0 := h1 0 (by omega) (by omega)
    refine ⟨zu E 72 0 (f 0 * (200 - c)), vI 0, ?_, fun j a b => ?_, fun a b g => zu_ne (Or.inl g)⟩
    · rw [L258_97 rfl]
      simp (disch := omega) only [n32_id, zg_pos, if_pos, if_neg, zu_same, zu_ne, if_true, if_false, ne_eq, not_true_eq_false, not_false_eq_true, true_or, or_true, true_and, and_true, zg_true, fa_b_f, fa_b_t, e0]
    · by_cases g : j = 0
      · rw [g, zu_same]
        unfold sp_sq
        rw [if_pos rfl]
      · rw [zu_ne (Or.inr g)]
        exact h2 j (by omega) b
  | succ k ih =>
    intro i E hi hk h1 h2
    have e1 := h1 i (by omega) (by omega)
    have e2 := h1 (i - 1) (by omega) (by omega)
    have e3 : sp_sq c f i = f i * (200 - c) + f (i - 1) * c := by unfold sp_sq; rw [if_neg (by omega)]
    obtain ⟨F, j7, f1, f2, f3⟩ := ih (i + -1) (zu E 72 i (f i * (200 - c) + f (i - 1) * c)) (by omega) (by omega) (fun j a b => by rw [zu_ne (by omega)]; exact h1 j a (by omega)) (fun j a b => by
      by_cases g : j = i
      · rw [g, zu_same, e3]
      · rw [zu_ne (Or.inr g)]
        exact h2 j (by omega) b)
    refine ⟨F, j7, ?_, f2, fun a b g => by rw [f3 a b g, zu_ne (Or.inl g)]⟩
    rw [L258_97 rfl]
    simp (disch := omega) only [n32_id, zg_pos, if_pos, if_neg, zu_same, zu_ne, if_true, if_false, ne_eq, not_true_eq_false, not_false_eq_true, true_or, or_true, true_and, and_true, zg_true, fa_b_f, fa_b_t, e1, e2]
    exact f1
theorem T258_loop (hV : zV V) {s many l : Int} (hs : 0 ≤ s ∧ s < 4) : ∀ (k : Nat) (m : Int) (f : Int → Int) (E : Nat → Int → Int) (j5 j6 j7 : ZV), zR V E → 0 ≤ m → m + k = ((V (4)).val : Int) → (∀ j, 0 ≤ j → j ≤ 6 → E 72 j = f j) →
    ∃ F a5 a6 a7, zf_ev X (d + 5) 258 (72, [vR 60, vI s, vI many, vI l, vI m, j5, j6, j7], [], zH t p q E) = zf_ev X (d + 5) 258 (72, [vR 60, vI s, vI many, vI l, vI ((V (4)).val : Int), a5, a6, a7], [], zH t p q F) ∧ (∀ j, 0 ≤ j → j ≤ 6 → F 72 j = sp_spr (fun m => sp_cnow V m s) k m f j) ∧ (∀ a9 b9, a9 ≠ 68 → a9 ≠ 69 → a9 ≠ 72 → F a9 b9 = E a9 b9) := by
  have hm := hV.mems
  intro k
  induction k with
  | zero =>
    intro m f E j5 j6 j7 hR h1 h2 h3
    refine ⟨E, j5, j6, j7, ?_, h3, fun a b _ _ _ => rfl⟩
    rw [show ((V (4)).val : Int) = m by omega]
  | succ k ih =>
    intro m f E j5 j6 j7 hR h1 h2 h3
    have b : 0 ≤ sp_cnow V m s ∧ sp_cnow V m s ≤ 200 := sp_chance_r hV h1 (by omega)
    obtain ⟨F, a7, f1, f2, f3⟩ := T258_in (X := X) (d := d) (t := t) (p := p) (q := q) (s := s) (many := many) (l := l) (m := m) (c := sp_cnow V m s) (f := f) 6 6 (zP V (zA V E)) rfl (by omega) (fun j a b => by rw [zP_ne (by omega), zA_ne (by omega)]; exact h3 j a b) (fun j a b => by omega)
    obtain ⟨G, b5, b6, b7, g1, g2, g3⟩ := ih (m + 1) (sp_sq (sp_cnow V m s) f) F (vL (sp_cnow V m s)) vJ a7 (hR.A.P.fr (fun b => f3 _ _ (by omega)) (fun b => f3 _ _ (by omega))) (by omega) (by omega) f2
    refine ⟨G, b5, b6, b7, ?_, g2, fun a b y1 y2 y3 => by rw [g3 a b y1 y2 y3, f3 a b y3, zP_ne y2, zA_ne y1]⟩
    rw [L258_72]
    simp (disch := omega) only [n32_id, zg_pos, if_pos, if_neg, zu_same, zu_ne, if_true, if_false, ne_eq, not_true_eq_false, not_false_eq_true, true_or, or_true, true_and, and_true, zg_true, fa_b_f, fa_b_t, hR.r, T252 hR hV]
    rw [L258_k87]
    simp (disch := omega) only [n32_id, zg_pos, if_pos, if_neg, zu_same, zu_ne, if_true, if_false, ne_eq, not_true_eq_false, not_false_eq_true, true_or, or_true, true_and, and_true, zg_true, fa_b_f, fa_b_t, f1]
    exact g1
theorem T258_a {s many l : Int} : ∀ (k : Nat) (i : Int) (E : Nat → Int → Int) (j5 j6 j7 : ZV), 0 ≤ i → i + k = 8 → zf_ev X (d + 5) 258 (39, [vR 60, vI s, vI many, vI l, vI i, j5, j6, j7], [], zH t p q E) = zf_ev X (d + 5) 258 (72, [vR 60, vI s, vI many, vI l, vI 0, j5, j6, j7], [], zH t p q (zfill E 72 i 8 sp_j0)) := by
  intro k
  induction k with
  | zero =>
    intro i E j5 j6 j7 h1 h2
    rw [L258_39, zfill_nil (by omega)]
    simp (disch := omega) only [n32_id, zg_pos, if_pos, if_neg, zu_same, zu_ne, if_true, if_false, ne_eq, not_true_eq_false, not_false_eq_true, true_or, or_true, true_and, and_true, zg_true, fa_b_f, fa_b_t]
  | succ k ih =>
    intro i E j5 j6 j7 h1 h2
    rw [L258_39]
    by_cases g : i = 0
    · simp (disch := omega) only [n32_id, zg_pos, if_pos, if_neg, zu_same, zu_ne, if_true, if_false, ne_eq, not_true_eq_false, not_false_eq_true, true_or, or_true, true_and, and_true, zg_true, fa_b_f, fa_b_t]
      rw [ih _ _ _ _ _ (by omega) (by omega), zfill_step (by omega)]
      unfold sp_j0
      rw [if_pos g]
    · simp (disch := omega) only [n32_id, zg_pos, if_pos, if_neg, zu_same, zu_ne, if_true, if_false, ne_eq, not_true_eq_false, not_false_eq_true, true_or, or_true, true_and, and_true, zg_true, fa_b_f, fa_b_t]
      rw [ih _ _ _ _ _ (by omega) (by omega), zfill_step (by omega)]
      unfold sp_j0
      rw [if_neg g]
theorem Q258 (hG : zG V E p) {s many l : Int} (h3 : 0 ≤ s) (h4 : s < ((V (3)).val : Int)) (h5 : 0 ≤ many) (h6 : many ≤ 6) (hl : -2147483648 ≤ l ∧ l < 2147483648) : ∃ F, zf_ev X (d + 5) 258 (0, [vR 60, vI s, vI many, vI l, vJ, vJ, vJ, vJ], [], zH t p q E) = some (some [vL (sp_low (sp_just V s many) (sp_pow ((V (4)).val : Int)) l)], zH t p q F) ∧ F 60 11 = 0 ∧ F 60 0 = 0 ∧ zFM E F := by
  obtain ⟨hV, -, h142⟩ := hG.yes (by omega)
  have hk := hV.spks
  have hm := hV.mems
  have hR2 := hG.R2
  have hr := sp_just_r hV (s := s) (many := many)
  have hr2 := sp_pow_r hV
  obtain ⟨F, a5, a6, a7, f1, f2, f3⟩ := T258_loop (X := X) (d := d) (t := t) (p := p) (q := q) hV (s := s) (many := many) (l := l) (by omega) (((V (4)).val : Int)).toNat 0 sp_j0 (zfill (zg0 E) 72 0 8 sp_j0) vJ vJ vJ (hR2.fr (fun b => zfill_ne (by omega)) (fun b => zfill_ne (by omega))) (by omega) (by omega) (fun j a b => zfill_in a (by omega))
  have hf : zFM (zg0 E) F := fun a b g1 g2 => by rw [f3 a b (by omega) (by omega) (by omega), zfill_ne (by omega)]
  have hR3 : zR V F := hR2.fm hf
  have e : F 72 many = sp_just V s many := f2 many h5 h6
  refine ⟨F, ?_, by rw [f3 _ _ (by omega) (by omega) (by omega), zfill_ne (by omega)]; rfl, by rw [f3 _ _ (by omega) (by omega) (by omega), zfill_ne (by omega)]; rfl, zFM.g0.tr hf⟩
  simp (disch := omega) only [n32_id, zg_pos, if_pos, if_neg, zu_same, zu_ne, if_true, if_false, ne_eq, not_true_eq_false, not_false_eq_true, true_or, or_true, true_and, and_true, zg_true, fa_b_f, fa_b_t, L258_0, L258_k1, L258_k6, L258_k14, L258_k23, L258_k31, L258_k87, L258_k175, L258_k179, T177, T214t hR2 h142, T180t]
  rw [T258_a 8 0 _ _ _ _ (by omega) (by omega), f1, L258_72]
  simp (disch := omega) only [n32_id, zg_pos, if_pos, if_neg, zu_same, zu_ne, if_true, if_false, ne_eq, not_true_eq_false, not_false_eq_true, true_or, or_true, true_and, and_true, zg_true, fa_b_f, fa_b_t, hR3.r, e, T255]
  rw [L258_k175, T184 hr.1 (by omega) hr2.1 (by omega) hl, L258_k179]
theorem Q258n (hG : zG V E p) {s many l : Int} (h1 : -2147483648 ≤ s ∧ s < 2147483648) (h : s < 0 ∨ ((V (3)).val : Int) ≤ s) : ∃ F, zf_ev X (d + 5) 258 (0, [vR 60, vI s, vI many, vI l, vJ, vJ, vJ, vJ], [], zH t p q E) = some (some [vL (-1)], zH t p q F) ∧ F 60 11 = 1 ∧ F 60 0 = 0 ∧ zFM E F := by
  have hR2 := hG.R2
  refine RQ_noL (F := E) ?_
  simp (disch := omega) only [n32_id, zg_pos, if_pos, if_neg, zu_same, zu_ne, if_true, if_false, ne_eq, not_true_eq_false, not_false_eq_true, true_or, or_true, true_and, and_true, zg_true, fa_b_f, fa_b_t, L258_0, L258_k1, L258_k6, L258_k14, L258_k23, L258_k31, L258_k87, L258_k175, L258_k179, T177, T214f hR2 hG.h14, L178_0]
theorem Q258m (hG : zG V E p) {s many l : Int} (h3 : 0 ≤ s) (h4 : s < ((V (3)).val : Int)) (h1 : -2147483648 ≤ many ∧ many < 2147483648) (h : many < 0 ∨ 6 < many) : ∃ F, zf_ev X (d + 5) 258 (0, [vR 60, vI s, vI many, vI l, vJ, vJ, vJ, vJ], [], zH t p q E) = some (some [vL (-1)], zH t p q F) ∧ F 60 11 = 2 ∧ F 60 0 = 0 ∧ zFM E F := by
  obtain ⟨-, -, h142⟩ := hG.yes (by omega)
  have hR2 := hG.R2
  refine RQ_noL (F := E) ?_
  simp (disch := omega) only [n32_id, zg_pos, if_pos, if_neg, zu_same, zu_ne, if_true, if_false, ne_eq, not_true_eq_false, not_false_eq_true, true_or, or_true, true_and, and_true, zg_true, fa_b_f, fa_b_t, L258_0, L258_k1, L258_k6, L258_k14, L258_k23, L258_k31, L258_k87, L258_k175, L258_k179, T177, T214t hR2 h142, T180f, L178_0]
end JU

/-! the reference's airs -/
section F3
variable {X : Nat × (Nat → Int)} {d : Nat} {t : List (Nat × Nat)} {p q : Nat} {E : Nat → Int → Int} {V : Int → Fin 65537} {o : Nat}
theorem T275_loop (hR : zR V E) (hV : zV V) : ∀ (k : Nat) (i : Int), 1 ≤ i → i + k = ((V (1)).val : Int) + 1 → zf_ev X d 275 (4, [vR 60, vI (sp_u V i), vI i], [], zH t p q E) = some (some [vI (sp_K V)], zH t p q E) := by
  have hr := hV.rows
  intro k
  induction k with
  | zero =>
    intro i h1 h2
    rw [L275_4]
    simp (disch := omega) only [n32_id, zg_pos, if_pos, if_neg, zu_same, zu_ne, if_true, if_false, ne_eq, not_true_eq_false, not_false_eq_true, true_or, or_true, true_and, and_true, zg_true, fa_b_f, fa_b_t, hR.r]
    rw [show i = ((V (1)).val : Int) + 1 by omega]
    rfl
  | succ k ih =>
    intro i h1 h2
    have ih2 := ih (i + 1) (by omega) (by omega)
    have hs := sp_u_s (V := V) h1
    rw [L275_4]
    by_cases g : ((V (200 + i)).val : Int) = 7
    · rw [show sp_isu V i = true from decide_eq_true g, if_pos rfl] at hs
      rw [hs] at ih2
      simp (disch := omega) only [n32_id, zg_pos, if_pos, if_neg, zu_same, zu_ne, if_true, if_false, ne_eq, not_true_eq_false, not_false_eq_true, true_or, or_true, true_and, and_true, zg_true, fa_b_f, fa_b_t, hR.r, hR.s]
      exact ih2
    · rw [show sp_isu V i = false from decide_eq_false g, if_neg (by decide)] at hs
      rw [hs] at ih2
      simp (disch := omega) only [n32_id, zg_pos, if_pos, if_neg, zu_same, zu_ne, if_true, if_false, ne_eq, not_true_eq_false, not_false_eq_true, true_or, or_true, true_and, and_true, zg_true, fa_b_f, fa_b_t, hR.r, hR.s]
      exact ih2
theorem T275 (hR : zR V E) (hV : zV V) : zf_ev X d 275 (0, [vR 60, vJ, vJ], [], zH t p q E) = some (some [vI (sp_K V)], zH t p q E) := by
  rw [L275_0]
  exact T275_loop hR hV (((V (1)).val : Int)).toNat 1 (by omega) (by omega)
theorem T276_loop {j0 : ZV} (hj : zm_isL j0 = false) : ∀ (k : Nat) (z : Int), k ≤ 6 → zf_ev X (d + 1) 276 (7, [j0, vI z, vI (k : Int)], [], zH t p q E) = some (some [vI (z * 5 ^ k)], zH t p q E) := by
  intro k
  induction k with
  | zero =>
    intro z h
    rw [L276_7 hj]
    simp (disch := omega) only [n32_id, zg_pos, if_pos, if_neg, zu_same, zu_ne, if_true, if_false, ne_eq, not_true_eq_false, not_false_eq_true, true_or, or_true, true_and, and_true, zg_true, fa_b_f, fa_b_t]
    simp
  | succ k ih =>
    intro z h
    have e : ((k + 1 : Nat) : Int) + -1 = (k : Int) := by omega
    rw [L276_7 hj]
    simp (disch := omega) only [n32_id, zg_pos, if_pos, if_neg, zu_same, zu_ne, if_true, if_false, ne_eq, not_true_eq_false, not_false_eq_true, true_or, or_true, true_and, and_true, zg_true, fa_b_f, fa_b_t]
    rw [e, ih _ (by omega), Int.pow_succ, Int.mul_assoc, Int.mul_comm 5]
theorem T276 (hR : zR V E) (hV : zV V) (hK : sp_K V ≤ 3) : zf_ev X (d + 1) 276 (0, [vR 60, vJ, vJ], [], zH t p q E) = some (some [vI (sp_p5 V)], zH t p q E) := by
  have h0 := sp_K_0 (V := V)
  have e : sp_K V = ((sp_K V).toNat : Int) := by omega
  rw [L276_0, T275 hR hV, L276_k3, e, T276_loop rfl _ _ (by omega), Int.one_mul]
  rfl
theorem T277_loop (hV : zV V) (hK : sp_K V ≤ 3) {x : Int} {j1 : ZV} (hj : zm_isL j1 = false) (hx : 0 ≤ x ∧ x < 125) : ∀ (k : Nat) (E : Nat → Int → Int), zR V E → (k : Int) ≤ ((V (1)).val : Int) → (∀ r, 0 ≤ r → r < 7 → E 68 r = if (k : Int) < r then sp_aR V x r else sp_air V r) →
    ∃ F, zf_ev X (d + 1) 277 (13, [vR 60, j1, vI (x.tdiv (5 ^ (sp_K V - sp_u V ((k : Int) + 1)).toNat)), vI (k : Int)], [], zH t p q E) = some (some [], zH t p q F) ∧ (∀ r, 1 ≤ r → r < 7 → F 68 r = sp_aR V x r) ∧ (∀ a9 b9, a9 ≠ 68 → F a9 b9 = E a9 b9) := by
  have hr := hV.rows
  intro k
  induction k with
  | zero =>
    intro E hR hk hB
    refine ⟨E, ?_, fun r a b => by rw [hB r (by omega) b, if_pos (by omega)], fun a b _ => rfl⟩
    rw [L277_13 hj]
    simp (disch := omega) only [n32_id, zg_pos, if_pos, if_neg, zu_same, zu_ne, if_true, if_false, ne_eq, not_true_eq_false, not_false_eq_true, true_or, or_true, true_and, and_true, zg_true, fa_b_f, fa_b_t]
  | succ k ih =>
    intro E hR hk hB
    have e0 : ((k + 1 : Nat) : Int) + -1 = (k : Int) := by omega
    have hu := sp_u_le (V := V) (r := (k : Int) + 1) (by omega) (by omega)
    have hu0 := sp_u_0 (V := V) (r := (k : Int) + 1)
    have hs := sp_u_s (V := V) (r := (k : Int) + 1) (by omega)
    have hsk : ((k + 1 : Nat) : Int) + 1 = (k : Int) + 1 + 1 := by omega
    have hck : ((k + 1 : Nat) : Int) = (k : Int) + 1 := by omega
    rw [hsk]
    cases hq : sp_isu V ((k : Int) + 1)
    · have g : ¬ ((V (200 + ((k : Int) + 1))).val : Int) = 7 := of_decide_eq_false hq
      rw [hq, if_neg (by decide), Int.add_zero] at hs
      obtain ⟨F, f1, f2, f3⟩ := ih E hR (by omega) (fun r a b => by
        rw [hB r a b]
        by_cases g1 : r = (k : Int) + 1
        · rw [if_neg (by omega), if_pos (by omega), g1]
          unfold sp_aR
          rw [hq, if_neg (fun z => by cases z.2)]
        · by_cases g2 : (k : Int) < r
          · rw [if_pos (by omega), if_pos g2]
          · rw [if_neg (by omega), if_neg g2])
      refine ⟨F, ?_, f2, f3⟩
      rw [L277_13 hj, e0, hck, hs]
      simp (disch := omega) only [n32_id, zg_pos, if_pos, if_neg, zu_same, zu_ne, if_true, if_false, ne_eq, not_true_eq_false, not_false_eq_true, true_or, or_true, true_and, and_true, zg_true, fa_b_f, fa_b_t, hR.s]
      exact f1
    · have g : ((V (200 + ((k : Int) + 1))).val : Int) = 7 := of_decide_eq_true hq
      rw [hq, if_pos rfl] at hs hu
      have hv : 0 ≤ sp_K V - sp_u V ((k : Int) + 1 + 1) ∧ sp_K V - sp_u V ((k : Int) + 1 + 1) < 3 := by omega
      have hd := sp_dg0 ⟨x.toNat, by omega⟩ ⟨(sp_K V - sp_u V ((k : Int) + 1 + 1)).toNat, by omega⟩
      simp only [Int.toNat_of_nonneg hx.1, Int.toNat_of_nonneg hv.1] at hd
      obtain ⟨d1, d2, d3⟩ := hd
      have d1' : (x.tdiv (5 ^ (sp_K V - sp_u V ((k : Int) + 1 + 1)).toNat)).tdiv 5 = x.tdiv (5 ^ (sp_K V - sp_u V ((k : Int) + 1)).toNat) := by
        rw [d1, show (sp_K V - sp_u V ((k : Int) + 1)).toNat = (sp_K V - sp_u V ((k : Int) + 1 + 1)).toNat + 1 by omega]
      have ea : sp_aR V x ((k : Int) + 1) = (x.tdiv (5 ^ (sp_K V - sp_u V ((k : Int) + 1 + 1)).toNat)).tmod 5 - 2 := by
        unfold sp_aR
        rw [if_pos ⟨⟨by omega, by omega⟩, hq⟩, show sp_K V - 1 - sp_u V ((k : Int) + 1) = sp_K V - sp_u V ((k : Int) + 1 + 1) by omega]
        rfl
      obtain ⟨F, f1, f2, f3⟩ := ih (zu E 68 ((k : Int) + 1) ((x.tdiv (5 ^ (sp_K V - sp_u V ((k : Int) + 1 + 1)).toNat)).tmod 5 - 2)) (hR.fr (fun b => zu_ne (by omega)) (fun b => zu_ne (by omega))) (by omega) (fun r a b => by
        by_cases g1 : r = (k : Int) + 1
        · rw [g1, zu_same, if_pos (by omega), ea]
        · rw [zu_ne (Or.inr g1), hB r a b]
          by_cases g2 : (k : Int) < r
          · rw [if_pos (by omega), if_pos g2]
          · rw [if_neg (by omega), if_neg g2])
      refine ⟨F, ?_, f2, fun a b y => by rw [f3 a b y, zu_ne (Or.inl y)]⟩
      rw [L277_13 hj, e0, hck]
      simp (disch := omega) only [n32_id, zg_pos, if_pos, if_neg, zu_same, zu_ne, if_true, if_false, ne_eq, not_true_eq_false, not_false_eq_true, true_or, or_true, true_and, and_true, zg_true, fa_b_f, fa_b_t, hR.s, d1']
      exact f1
/-- the airs laid by a code -/
theorem T277 (hR : zR V E) (hV : zV V) (hK : sp_K V ≤ 3) {x : Int} (hx : 0 ≤ x ∧ x < 125) : ∃ F, zf_ev X (d + 1) 277 (0, [vR 60, vI x, vJ, vJ], [], zH t p q E) = some (some [], zH t p q F) ∧ (∀ r, 1 ≤ r → r < 7 → F 68 r = sp_aR V x r) ∧ (∀ a9 b9, a9 ≠ 68 → F a9 b9 = E a9 b9) := by
  have hr := hV.rows
  have e0 : ((((V (1)).val : Int)).toNat : Int) = ((V (1)).val : Int) := by omega
  obtain ⟨F, f1, f2, f3⟩ := T277_loop (X := X) (d := d) (t := t) (p := p) (q := q) hV hK (x := x) (j1 := vI x) rfl hx (((V (1)).val : Int)).toNat (zA V E) hR.A (by omega) (fun r a b => by
    rw [zA_in a b]
    by_cases g : ((((V (1)).val : Int)).toNat : Int) < r
    · rw [if_pos g]
      unfold sp_aR
      rw [if_neg (fun z => by have := z.1.2; omega)]
    · rw [if_neg g])
  have e1 : x.tdiv (5 ^ (sp_K V - sp_u V (((((V (1)).val : Int)).toNat : Int) + 1)).toNat) = x := by
    rw [e0, show sp_K V - sp_u V (((V (1)).val : Int) + 1) = 0 from Int.sub_self _]
    show x.tdiv 1 = x
    exact Int.tdiv_one x
  rw [e1, e0] at f1
  refine ⟨F, ?_, f2, fun a b y => by rw [f3 a b y, zA_ne y]⟩
  rw [L277_0, T219 hR, L277_k1]
  simp (disch := omega) only [n32_id, zg_pos, if_pos, if_neg, zu_same, zu_ne, if_true, if_false, ne_eq, not_true_eq_false, not_false_eq_true, true_or, or_true, true_and, and_true, zg_true, fa_b_f, fa_b_t, hR.A.r]
  exact f1
theorem T278_loop (hR : zR V E) (hV : zV V) {a : Int → Int} (ha : ∀ k, 1 ≤ k → k < 7 → E 68 k = a k ∧ -100 ≤ a k ∧ a k ≤ 100) : ∀ (k : Nat) (f : Int), 0 ≤ f → f + k = ((V (6)).val : Int) → zf_ev X (d + 2) 278 (2, [vR 60, vI f], [], zH t p q E) = some (some [vI (sp_wf V a k f)], zH t p q E) := by
  have hf := hV.flts
  have hr := hV.rows
  have hc := hV.cols
  intro k
  induction k with
  | zero =>
    intro f h1 h2
    rw [L278_2]
    simp (disch := omega) only [n32_id, zg_pos, if_pos, if_neg, zu_same, zu_ne, if_true, if_false, ne_eq, not_true_eq_false, not_false_eq_true, true_or, or_true, true_and, and_true, zg_true, fa_b_f, fa_b_t, hR.r]
    rfl
  | succ k ih =>
    intro f h1 h2
    have hq := hV.flt f h1 (by omega)
    have hb := sp_col_r (a := a) (n := ((V (0)).val : Int)) (fold := 0) (far := ((V (66 + 3 * f + 1)).val : Int)) (seat := ((V (66 + 3 * f)).val : Int)) (by omega) (by omega) (by omega)
    rw [L278_2]
    simp (disch := omega) only [n32_id, zg_pos, if_pos, if_neg, zu_same, zu_ne, if_true, if_false, ne_eq, not_true_eq_false, not_false_eq_true, true_or, or_true, true_and, and_true, zg_true, fa_b_f, fa_b_t, hR.r]
    rw [T221 hR hV ha (by omega) (by omega) (by omega), L278_k39]
    unfold sp_wf
    by_cases g : sp_col a ((V (0)).val : Int) 0 ((V (66 + 3 * f)).val : Int) ((V (66 + 3 * f + 1)).val : Int) = ((V (66 + 3 * f + 2)).val : Int)
    · simp (disch := omega) only [n32_id, zg_pos, if_pos, if_neg, zu_same, zu_ne, if_true, if_false, ne_eq, not_true_eq_false, not_false_eq_true, true_or, or_true, true_and, and_true, zg_true, fa_b_f, fa_b_t, hR.r]
      exact ih _ (by omega) (by omega)
    · simp (disch := omega) only [n32_id, zg_pos, if_pos, if_neg, zu_same, zu_ne, if_true, if_false, ne_eq, not_true_eq_false, not_false_eq_true, true_or, or_true, true_and, and_true, zg_true, fa_b_f, fa_b_t, hR.r]
theorem T278 (hR : zR V E) (hV : zV V) {a : Int → Int} (ha : ∀ k, 1 ≤ k → k < 7 → E 68 k = a k ∧ -100 ≤ a k ∧ a k ≤ 100) : zf_ev X (d + 2) 278 (0, [vR 60, vJ], [], zH t p q E) = some (some [vI (sp_wf0 V a)], zH t p q E) := by
  rw [L278_0]
  exact T278_loop hR hV ha _ _ (by omega) (by omega)
theorem T279 (hR : zR V E) (hV : zV V) (hK : sp_K V ≤ 3) {x : Int} (hx : 0 ≤ x ∧ x < 125) : ∃ F, zf_ev X (d + 3) 279 (0, [vR 60, vI x], [], zH t p q E) = some (some [vI (fa_b (sp_fit V (sp_aR V x)))], zH t p q F) ∧ (∀ r, 1 ≤ r → r < 7 → F 68 r = sp_aR V x r ∧ -100 ≤ sp_aR V x r ∧ sp_aR V x r ≤ 100) ∧ (∀ a9 b9, a9 ≠ 68 → F a9 b9 = E a9 b9) := by
  have hf := hV.flts
  obtain ⟨F, f1, f2, f3⟩ := T277 (X := X) (d := d + 1) (t := t) (p := p) (q := q) hR hV hK hx
  have hR2 : zR V F := hR.fr (fun b => f3 _ _ (by omega)) (fun b => f3 _ _ (by omega))
  have ha : ∀ r, 1 ≤ r → r < 7 → F 68 r = sp_aR V x r ∧ -100 ≤ sp_aR V x r ∧ sp_aR V x r ≤ 100 := fun r a b => by
    have := sp_aR_r hV hK hx (r := r) (by omega)
    exact ⟨f2 r a b, by omega, by omega⟩
  have hw := sp_wf_r (V := V) (a := sp_aR V x) (((V (6)).val : Int)).toNat 0 (by omega)
  have hw : sp_wf0 V (sp_aR V x) = -2 ∨ 0 ≤ sp_wf0 V (sp_aR V x) ∧ sp_wf0 V (sp_aR V x) < 0 + ((((V (6)).val : Int)).toNat : Int) := hw
  refine ⟨F, ?_, ha, f3⟩
  rw [L279_0, f1, L279_k2, T278 hR2 hV ha, L279_k6]
  unfold sp_fit
  by_cases g : sp_wf0 V (sp_aR V x) = -2
  · simp (disch := omega) only [n32_id, zg_pos, if_pos, if_neg, zu_same, zu_ne, if_true, if_false, ne_eq, not_true_eq_false, not_false_eq_true, true_or, or_true, true_and, and_true, zg_true, fa_b_f, fa_b_t]
    rw [decide_eq_true g]
    rfl
  · simp (disch := omega) only [n32_id, zg_pos, if_pos, if_neg, zu_same, zu_ne, if_true, if_false, ne_eq, not_true_eq_false, not_false_eq_true, true_or, or_true, true_and, and_true, zg_true, fa_b_f, fa_b_t]
    rw [decide_eq_false g]
    rfl
theorem T280_loop (hV : zV V) (hK : sp_K V ≤ 3) : ∀ (k : Nat) (x z : Int) (E : Nat → Int → Int), zR V E → 0 ≤ x → x + k = sp_p5 V →
    ∃ F, zf_ev X (d + 4) 280 (4, [vR 60, vI z, vI x], [], zH t p q E) = some (some [vI (z + sp_psum (fun y => fa_b (sp_fit V (sp_aR V y))) k x)], zH t p q F) ∧ (∀ a9 b9, a9 ≠ 68 → F a9 b9 = E a9 b9) := by
  have hp := sp_p5_r hK
  intro k
  induction k with
  | zero =>
    intro x z E hR h1 h2
    refine ⟨E, ?_, fun a b _ => rfl⟩
    rw [L280_4, T276 hR hV hK, L280_k6]
    simp (disch := omega) only [n32_id, zg_pos, if_pos, if_neg, zu_same, zu_ne, if_true, if_false, ne_eq, not_true_eq_false, not_false_eq_true, true_or, or_true, true_and, and_true, zg_true, fa_b_f, fa_b_t]
    simp [sp_psum]
  | succ k ih =>
    intro x z E hR h1 h2
    obtain ⟨G, g1, g2, g3⟩ := T279 (X := X) (d := d) (t := t) (p := p) (q := q) hR hV hK (x := x) (by omega)
    have hR2 : zR V G := hR.fr (fun b => g3 _ _ (by omega)) (fun b => g3 _ _ (by omega))
    have c0 : sp_psum (fun y => fa_b (sp_fit V (sp_aR V y))) (k + 1) x = fa_b (sp_fit V (sp_aR V x)) + sp_psum (fun y => fa_b (sp_fit V (sp_aR V y))) k (x + 1) := rfl
    obtain ⟨F, f1, f2⟩ := ih (x + 1) (z + fa_b (sp_fit V (sp_aR V x))) G hR2 (by omega) (by omega)
    refine ⟨F, ?_, fun a b y => by rw [f2 a b y, g3 a b y]⟩
    rw [L280_4, T276 hR hV hK, L280_k6]
    simp (disch := omega) only [n32_id, zg_pos, if_pos, if_neg, zu_same, zu_ne, if_true, if_false, ne_eq, not_true_eq_false, not_false_eq_true, true_or, or_true, true_and, and_true, zg_true, fa_b_f, fa_b_t]
    rw [g1, L280_k15, c0, ← Int.add_assoc]
    cases hq : sp_fit V (sp_aR V x)
    · rw [hq] at f1
      rw [fa_b_f] at f1 ⊢
      simp (disch := omega) only [n32_id, zg_pos, if_pos, if_neg, zu_same, zu_ne, if_true, if_false, ne_eq, not_true_eq_false, not_false_eq_true, true_or, or_true, true_and, and_true, zg_true, fa_b_f, fa_b_t]
      exact f1
    · rw [hq] at f1
      rw [fa_b_t] at f1 ⊢
      simp (disch := omega) only [n32_id, zg_pos, if_pos, if_neg, zu_same, zu_ne, if_true, if_false, ne_eq, not_true_eq_false, not_false_eq_true, true_or, or_true, true_and, and_true, zg_true, fa_b_f, fa_b_t]
      exact f1
theorem T280 (hR : zR V E) (hV : zV V) (hK : sp_K V ≤ 3) : ∃ F, zf_ev X (d + 4) 280 (0, [vR 60, vJ, vJ], [], zH t p q E) = some (some [vI (sp_L V (sp_p5 V))], zH t p q F) ∧ (∀ a9 b9, a9 ≠ 68 → F a9 b9 = E a9 b9) := by
  have hp := sp_p5_r hK
  obtain ⟨F, f1, f2⟩ := T280_loop (X := X) (d := d) (t := t) (p := p) (q := q) hV hK (sp_p5 V).toNat 0 0 E hR (by omega) (by omega)
  refine ⟨F, ?_, f2⟩
  rw [L280_0, f1, sp_sum_CR hK (fun a => fa_b (sp_fit V a)), Int.zero_add]
  rfl
theorem T283_loop (hV : zV V) (hK : sp_K V ≤ 3) {r : Int} (hr : 1 ≤ r ∧ r ≤ ((V (1)).val : Int)) (hq : sp_isu V r = true) : ∀ (k : Nat) (x : Int) (E : Nat → Int → Int), zR V E → 0 ≤ x → x + k = sp_p5 V →
    ∃ F, zf_ev X (d + 4) 283 (4, [vR 60, vI r, vI (sp_five (fun j => fa_any (fun y => sp_fit V (sp_aR V y) && decide (sp_aR V y r + 2 = j)) x.toNat 0)), vI x], [], zH t p q E) = some (some [vI (sp_five (fun j => fa_any (fun y => sp_fit V (sp_aR V y) && decide (sp_aR V y r + 2 = j)) (sp_p5 V).toNat 0))], zH t p q F) ∧ (∀ a9 b9, a9 ≠ 68 → F a9 b9 = E a9 b9) := by
  have hp := sp_p5_r hK
  have hrr := hV.rows
  intro k
  induction k with
  | zero =>
    intro x E hR h1 h2
    refine ⟨E, ?_, fun a b _ => rfl⟩
    rw [L283_4, T276 hR hV hK, L283_k6]
    simp (disch := omega) only [n32_id, zg_pos, if_pos, if_neg, zu_same, zu_ne, if_true, if_false, ne_eq, not_true_eq_false, not_false_eq_true, true_or, or_true, true_and, and_true, zg_true, fa_b_f, fa_b_t]
    rw [show x = sp_p5 V by omega]
  | succ k ih =>
    intro x E hR h1 h2
    obtain ⟨G, g1, g2, g3⟩ := T279 (X := X) (d := d) (t := t) (p := p) (q := q) hR hV hK (x := x) (by omega)
    have hR2 : zR V G := hR.fr (fun b => g3 _ _ (by omega)) (fun b => g3 _ _ (by omega))
    have hu := sp_u_lt hr.1 hr.2 hq
    have e68 := (g2 r hr.1 (by omega)).1
    have hb : -2 ≤ sp_aR V x r ∧ sp_aR V x r ≤ 2 := by
      unfold sp_aR
      rw [if_pos ⟨hr, hq⟩]
      exact sp_dg_r (by omega) (by omega)
    have es : (fun j => fa_any (fun y => sp_fit V (sp_aR V y) && decide (sp_aR V y r + 2 = j)) (x + 1).toNat 0) = fun j => fa_any (fun y => sp_fit V (sp_aR V y) && decide (sp_aR V y r + 2 = j)) x.toNat 0 || (sp_fit V (sp_aR V x) && decide (sp_aR V x r + 2 = j)) := by
      funext j
      rw [show (x + 1).toNat = x.toNat + 1 by omega, fa_any_snoc, show (0 : Int) + ((x.toNat : Nat) : Int) = x by omega]
    obtain ⟨F, f1, f2⟩ := ih (x + 1) G hR2 (by omega) (by omega)
    refine ⟨F, ?_, fun a b y => by rw [f2 a b y, g3 a b y]⟩
    rw [es] at f1
    rw [L283_4, T276 hR hV hK, L283_k6]
    simp (disch := omega) only [n32_id, zg_pos, if_pos, if_neg, zu_same, zu_ne, if_true, if_false, ne_eq, not_true_eq_false, not_false_eq_true, true_or, or_true, true_and, and_true, zg_true, fa_b_f, fa_b_t]
    rw [g1, L283_k15]
    cases hf : sp_fit V (sp_aR V x)
    · simp only [hf, Bool.false_and, Bool.or_false] at f1
      simp (disch := omega) only [n32_id, zg_pos, if_pos, if_neg, zu_same, zu_ne, if_true, if_false, ne_eq, not_true_eq_false, not_false_eq_true, true_or, or_true, true_and, and_true, zg_true, fa_b_f, fa_b_t, sp_five_or0]
      exact f1
    · simp only [hf, Bool.true_and] at f1
      rw [fa_b_t]
      simp (disch := omega) only [n32_id, zg_pos, if_pos, if_neg, zu_same, zu_ne, if_true, if_false, ne_eq, not_true_eq_false, not_false_eq_true, true_or, or_true, true_and, and_true, zg_true, fa_b_f, fa_b_t, e68, sp_five_or]
      exact f1
theorem T283 (hR : zR V E) (hV : zV V) (hK : sp_K V ≤ 3) {r : Int} (hr : 1 ≤ r ∧ r ≤ ((V (1)).val : Int)) (hq : sp_isu V r = true) : ∃ F, zf_ev X (d + 4) 283 (0, [vR 60, vI r, vJ, vJ], [], zH t p q E) = some (some [vI (sp_five (sp_see V r (sp_p5 V)))], zH t p q F) ∧ (∀ a9 b9, a9 ≠ 68 → F a9 b9 = E a9 b9) := by
  have hp := sp_p5_r hK
  obtain ⟨F, f1, f2⟩ := T283_loop (X := X) (d := d) (t := t) (p := p) (q := q) hV hK hr hq (sp_p5 V).toNat 0 E hR (by omega) (by omega)
  have e : (fun j => fa_any (fun y => sp_fit V (sp_aR V y) && decide (sp_aR V y r + 2 = j)) (sp_p5 V).toNat 0) = sp_see V r (sp_p5 V) := by
    funext j
    exact sp_any_CR hK (fun a => sp_fit V a && decide (a r + 2 = j))
  rw [e] at f1
  refine ⟨F, ?_, f2⟩
  rw [L283_0]
  exact f1
theorem T286_a {seat far : Int} {j4 : ZV} : ∀ (k : Nat) (i : Int) (E : Nat → Int → Int), 0 ≤ i → i + k = 12 → zf_ev X (d + 4) 286 (2, [vR 60, vI seat, vI far, vI i, j4], [], zH t p q E) = zf_ev X (d + 4) 286 (23, [vR 60, vI seat, vI far, vI 0, j4], [], zH t p q (zfill E 75 i 12 (fun _ => 0))) := by
  intro k
  induction k with
  | zero =>
    intro i E h1 h2
    rw [L286_2, zfill_nil (by omega)]
    simp (disch := omega) only [n32_id, zg_pos, if_pos, if_neg, zu_same, zu_ne, if_true, if_false, ne_eq, not_true_eq_false, not_false_eq_true, true_or, or_true, true_and, and_true, zg_true, fa_b_f, fa_b_t]
  | succ k ih =>
    intro i E h1 h2
    rw [L286_2]
    simp (disch := omega) only [n32_id, zg_pos, if_pos, if_neg, zu_same, zu_ne, if_true, if_false, ne_eq, not_true_eq_false, not_false_eq_true, true_or, or_true, true_and, and_true, zg_true, fa_b_f, fa_b_t]
    rw [ih _ _ (by omega) (by omega), zfill_stepc (by omega)]
theorem T286_b (hV : zV V) (hK : sp_K V ≤ 3) {seat far : Int} {j4 : ZV} (hs : 0 ≤ seat ∧ seat < ((V (0)).val : Int)) (hfar : 1 ≤ far ∧ far ≤ ((V (1)).val : Int)) : ∀ (k : Nat) (x : Int) (E : Nat → Int → Int), zR V E → 0 ≤ x → x + k = sp_p5 V →
    ∃ F, zf_ev X (d + 4) 286 (23, [vR 60, vI seat, vI far, vI x, j4], [], zH t p q E) = zf_ev X (d + 4) 286 (66, [vR 60, vI seat, vI far, vI 0, vI 0], [], zH t p q F) ∧ (∀ c, 0 ≤ c → c < 12 → F 75 c = E 75 c + sp_psum (fun y => if sp_fit V (sp_aR V y) = true then (if sp_colL (sp_aR V y) ((V (0)).val : Int) 0 far.toNat 1 seat = c then 1 else 0) else 0) k x) ∧ (∀ a9 b9, a9 ≠ 68 → a9 ≠ 75 → F a9 b9 = E a9 b9) := by
  have hp := sp_p5_r hK
  have hc := hV.cols
  have hrr := hV.rows
  intro k
  induction k with
  | zero =>
    intro x E hR h1 h2
    refine ⟨E, ?_, fun c _ _ => by simp [sp_psum], fun a b _ _ => rfl⟩
    rw [L286_23, T276 hR hV hK, L286_k25]
    simp (disch := omega) only [n32_id, zg_pos, if_pos, if_neg, zu_same, zu_ne, if_true, if_false, ne_eq, not_true_eq_false, not_false_eq_true, true_or, or_true, true_and, and_true, zg_true, fa_b_f, fa_b_t]
  | succ k ih =>
    intro x E hR h1 h2
    obtain ⟨G, g1, g2, g3⟩ := T279 (X := X) (d := d) (t := t) (p := p) (q := q) hR hV hK (x := x) (by omega)
    have hR2 : zR V G := hR.fr (fun b => g3 _ _ (by omega)) (fun b => g3 _ _ (by omega))
    have c0 : ∀ c, sp_psum (fun y => if sp_fit V (sp_aR V y) = true then (if sp_colL (sp_aR V y) ((V (0)).val : Int) 0 far.toNat 1 seat = c then (1 : Int) else 0) else 0) (k + 1) x = (if sp_fit V (sp_aR V x) = true then (if sp_colL (sp_aR V x) ((V (0)).val : Int) 0 far.toNat 1 seat = c then 1 else 0) else 0) + sp_psum (fun y => if sp_fit V (sp_aR V y) = true then (if sp_colL (sp_aR V y) ((V (0)).val : Int) 0 far.toNat 1 seat = c then 1 else 0) else 0) k (x + 1) := fun c => rfl
    cases hf : sp_fit V (sp_aR V x)
    · rw [hf, fa_b_f] at g1
      obtain ⟨F, f1, f2, f3⟩ := ih (x + 1) G hR2 (by omega) (by omega)
      refine ⟨F, ?_, fun c a b => ?_, fun a b y1 y2 => by rw [f3 a b y1 y2, g3 a b y1]⟩
      · rw [L286_23, T276 hR hV hK, L286_k25]
        simp (disch := omega) only [n32_id, zg_pos, if_pos, if_neg, zu_same, zu_ne, if_true, if_false, ne_eq, not_true_eq_false, not_false_eq_true, true_or, or_true, true_and, and_true, zg_true, fa_b_f, fa_b_t]
        rw [g1, L286_k33]
        simp (disch := omega) only [n32_id, zg_pos, if_pos, if_neg, zu_same, zu_ne, if_true, if_false, ne_eq, not_true_eq_false, not_false_eq_true, true_or, or_true, true_and, and_true, zg_true, fa_b_f, fa_b_t]
        exact f1
      · rw [f2 c a b, g3 _ _ (by omega), c0, hf, if_neg (by decide)]
        omega
    · rw [hf, fa_b_t] at g1
      have hb := sp_col_r (a := sp_aR V x) (n := ((V (0)).val : Int)) (fold := 0) (far := far) (seat := seat) (by omega) hs.1 hs.2
      have ec : sp_col (sp_aR V x) ((V (0)).val : Int) 0 seat far = sp_colL (sp_aR V x) ((V (0)).val : Int) 0 far.toNat 1 seat := sp_col_0
      obtain ⟨F, f1, f2, f3⟩ := ih (x + 1) (zu G 75 (sp_col (sp_aR V x) ((V (0)).val : Int) 0 seat far) (G 75 (sp_col (sp_aR V x) ((V (0)).val : Int) 0 seat far) + 1)) (hR2.fr (fun b => zu_ne (by omega)) (fun b => zu_ne (by omega))) (by omega) (by omega)
      refine ⟨F, ?_, fun c a b => ?_, fun a b y1 y2 => by rw [f3 a b y1 y2, zu_ne (Or.inl y2), g3 a b y1]⟩
      · rw [L286_23, T276 hR hV hK, L286_k25]
        simp (disch := omega) only [n32_id, zg_pos, if_pos, if_neg, zu_same, zu_ne, if_true, if_false, ne_eq, not_true_eq_false, not_false_eq_true, true_or, or_true, true_and, and_true, zg_true, fa_b_f, fa_b_t]
        rw [g1, L286_k33]
        simp (disch := omega) only [n32_id, zg_pos, if_pos, if_neg, zu_same, zu_ne, if_true, if_false, ne_eq, not_true_eq_false, not_false_eq_true, true_or, or_true, true_and, and_true, zg_true, fa_b_f, fa_b_t]
        rw [T221 hR2 hV g2 (by omega) hs (by omega), L286_k47]
        simp (disch := omega) only [n32_id, zg_pos, if_pos, if_neg, zu_same, zu_ne, if_true, if_false, ne_eq, not_true_eq_false, not_false_eq_true, true_or, or_true, true_and, and_true, zg_true, fa_b_f, fa_b_t]
        exact f1
      · rw [f2 c a b, c0, hf, if_pos rfl, ← ec]
        by_cases g : sp_col (sp_aR V x) ((V (0)).val : Int) 0 seat far = c
        · rw [if_pos g, g, zu_same, g3 _ _ (by omega)]
          omega
        · rw [if_neg g, zu_ne (Or.inr (fun z => g z.symm)), g3 _ _ (by omega)]
          omega
theorem T286_c {w : Int → Int} {j1 j2 : ZV} (hj : zm_isL j2 = false) (hw : ∀ c, 0 ≤ c → c < 12 → E 75 c = w c ∧ 0 ≤ w c ∧ w c ≤ 125) : ∀ (k : Nat) (i z : Int), 0 ≤ i → i + k = 12 → 0 ≤ z → z ≤ 125 → zf_ev X (d + 4) 286 (66, [vR 60, j1, j2, vI z, vI i], [], zH t p q E) = some (some [vI (sp_mx w k i z)], zH t p q E) := by
  intro k
  induction k with
  | zero =>
    intro i z h1 h2 h3 h4
    rw [L286_66 hj]
    simp (disch := omega) only [n32_id, zg_pos, if_pos, if_neg, zu_same, zu_ne, if_true, if_false, ne_eq, not_true_eq_false, not_false_eq_true, true_or, or_true, true_and, and_true, zg_true, fa_b_f, fa_b_t]
    rfl
  | succ k ih =>
    intro i z h1 h2 h3 h4
    obtain ⟨e, b1, b2⟩ := hw i h1 (by omega)
    rw [L286_66 hj]
    unfold sp_mx
    by_cases g : z < w i
    · simp (disch := omega) only [n32_id, zg_pos, if_pos, if_neg, zu_same, zu_ne, if_true, if_false, ne_eq, not_true_eq_false, not_false_eq_true, true_or, or_true, true_and, and_true, zg_true, fa_b_f, fa_b_t, e]
      exact ih _ _ (by omega) (by omega) b1 b2
    · simp (disch := omega) only [n32_id, zg_pos, if_pos, if_neg, zu_same, zu_ne, if_true, if_false, ne_eq, not_true_eq_false, not_false_eq_true, true_or, or_true, true_and, and_true, zg_true, fa_b_f, fa_b_t, e]
      exact ih _ _ (by omega) (by omega) h3 h4
theorem sp_lc_r (hK : sp_K V ≤ 3) {seat r c : Int} : 0 ≤ sp_lc V seat r c ∧ sp_lc V seat r c ≤ 125 := by
  have hp := sp_p5_r hK
  have := sp_psum_b (f := fun x => if sp_fit V (sp_aC V x) = true then (if sp_colL (sp_aC V x) ((V (0)).val : Int) 0 r.toNat 1 seat = c then (1 : Int) else 0) else 0) (sp_p5 V).toNat 0 (fun j _ _ => by
    split
    · split <;> omega
    · omega)
  unfold sp_lc
  omega
theorem T286 (hR : zR V E) (hV : zV V) (hK : sp_K V ≤ 3) {seat far : Int} (hs : 0 ≤ seat ∧ seat < ((V (0)).val : Int)) (hfar : 1 ≤ far ∧ far ≤ ((V (1)).val : Int)) : ∃ F, zf_ev X (d + 4) 286 (0, [vR 60, vI seat, vI far, vJ, vJ], [], zH t p q E) = some (some [vI (sp_lv V seat far)], zH t p q F) ∧ (∀ a9 b9, a9 ≠ 68 → a9 ≠ 75 → F a9 b9 = E a9 b9) := by
  have hp := sp_p5_r hK
  obtain ⟨F, f1, f2, f3⟩ := T286_b (X := X) (d := d) (t := t) (p := p) (q := q) hV hK (j4 := vJ) hs hfar (sp_p5 V).toNat 0 (zfill E 75 0 12 (fun _ => 0)) (hR.fr (fun b => zfill_ne (by omega)) (fun b => zfill_ne (by omega))) (by omega) (by omega)
  refine ⟨F, ?_, fun a b y1 y2 => by rw [f3 a b y1 y2, zfill_ne y2]⟩
  rw [L286_0, T286_a 12 0 E (by omega) (by omega), f1, T286_c (w := fun c => sp_lc V seat far c) rfl (fun c a b => by
    have := sp_lc_r (V := V) hK (seat := seat) (r := far) (c := c)
    refine ⟨?_, this⟩
    rw [f2 c a b, zfill_in a b, sp_sum_CR hK (fun a => if sp_fit V a = true then (if sp_colL a ((V (0)).val : Int) 0 far.toNat 1 seat = c then (1 : Int) else 0) else 0), Int.zero_add]
    rfl) 12 0 0 (by omega) (by omega) (by omega) (by omega)]
  rfl
/-- best and leftThen of the reference while throws are tried -/
def zTr (E : Nat → Int → Int) (b : Int) (a : Int × Int) : Prop := (b = -2 ∧ a.1 = -2 ∧ a.2 = -126 ∧ E 60 34 = -2) ∨ (0 ≤ b ∧ b ≤ 1000 ∧ a.1 = b ∧ E 60 34 = -a.2)
theorem T287_r (hV : zV V) (hK : sp_K V ≤ 3) {seat : Int} (hs : 0 ≤ seat ∧ seat < ((V (0)).val : Int)) : ∀ (k : Nat) (r b : Int) (a : Int × Int) (E : Nat → Int → Int) (j4 : ZV), zR V E → zTr E b a → 1 ≤ r → r + k = ((V (1)).val : Int) + 1 → -126 ≤ a.2 → a.2 ≤ 0 →
    ∃ F b' j3' j4', zf_ev X (d + 5) 287 (30, [vR 60, vI b, vI seat, vI r, j4], [], zH t p q E) = zf_ev X (d + 5) 287 (11, [vR 60, vI b', vI (seat + 1), j3', j4'], [], zH t p q F) ∧ zTr F b' (sp_in (fun r => - sp_lv V seat r) (fun r => 10 * seat + r) k r a) ∧ (∀ a9 b9, (a9 ≠ 60 ∨ b9 ≠ 34) → a9 ≠ 68 → a9 ≠ 75 → F a9 b9 = E a9 b9) := by
  have hrr := hV.rows
  have hcl := hV.cols
  intro k
  induction k with
  | zero =>
    intro r b a E j4 hR hT h1 h2 h3 h4
    refine ⟨E, b, vI r, j4, ?_, hT, fun a b _ _ _ => rfl⟩
    rw [L287_30]
    simp (disch := omega) only [n32_id, zg_pos, if_pos, if_neg, zu_same, zu_ne, if_true, if_false, ne_eq, not_true_eq_false, not_false_eq_true, true_or, or_true, true_and, and_true, zg_true, fa_b_f, fa_b_t, hR.r]
  | succ k ih =>
    intro r b a E j4 hR hT h1 h2 h3 h4
    have hlv := sp_lv_r (V := V) hK (seat := seat) (r := r)
    obtain ⟨G, g1, g2⟩ := T286 (X := X) (d := d) (t := t) (p := p) (q := q) hR hV hK hs (far := r) (by omega)
    have hR2 : zR V G := hR.fr (fun b => g2 _ _ (by omega) (by omega)) (fun b => g2 _ _ (by omega) (by omega))
    have e34 : G 60 34 = E 60 34 := g2 _ _ (by omega) (by omega)
    unfold sp_in
    by_cases gw : a.2 < - sp_lv V seat r
    · rw [if_pos gw]
      obtain ⟨F, b', j3', j4', f1, f2, f3⟩ := ih (r + 1) (10 * seat + r) (10 * seat + r, - sp_lv V seat r) (zu G 60 34 (sp_lv V seat r)) (vI (sp_lv V seat r)) (hR2.fr (fun b => zu_ne (by omega)) (fun b => zu_ne (by omega))) (Or.inr ⟨by omega, by omega, rfl, by rw [zu_same]; show _ = - - sp_lv V seat r; omega⟩) (by omega) (by omega) (show -126 ≤ - sp_lv V seat r by omega) (show - sp_lv V seat r ≤ 0 by omega)
      refine ⟨F, b', j3', j4', ?_, f2, fun x y y1 y2 y3 => by rw [f3 x y y1 y2 y3, zu_ne y1, g2 x y y2 y3]⟩
      rw [L287_30]
      simp (disch := omega) only [n32_id, zg_pos, if_pos, if_neg, zu_same, zu_ne, if_true, if_false, ne_eq, not_true_eq_false, not_false_eq_true, true_or, or_true, true_and, and_true, zg_true, fa_b_f, fa_b_t, hR.r, g1]
      rw [L287_k43]
      rcases hT with ⟨t1, t2, t3, t4⟩ | ⟨t1, t2, t3, t4⟩
      · simp (disch := omega) only [n32_id, zg_pos, if_pos, if_neg, zu_same, zu_ne, if_true, if_false, ne_eq, not_true_eq_false, not_false_eq_true, true_or, or_true, true_and, and_true, zg_true, fa_b_f, fa_b_t]
        exact f1
      · simp (disch := omega) only [n32_id, zg_pos, if_pos, if_neg, zu_same, zu_ne, if_true, if_false, ne_eq, not_true_eq_false, not_false_eq_true, true_or, or_true, true_and, and_true, zg_true, fa_b_f, fa_b_t, e34, t4]
        exact f1
    · rw [if_neg gw]
      rcases hT with ⟨t1, t2, t3, t4⟩ | ⟨t1, t2, t3, t4⟩
      · omega
      · obtain ⟨F, b', j3', j4', f1, f2, f3⟩ := ih (r + 1) b a G (vI (sp_lv V seat r)) hR2 (Or.inr ⟨t1, t2, t3, by rw [e34]; exact t4⟩) (by omega) (by omega) h3 h4
        refine ⟨F, b', j3', j4', ?_, f2, fun x y y1 y2 y3 => by rw [f3 x y y1 y2 y3, g2 x y y2 y3]⟩
        rw [L287_30]
        simp (disch := omega) only [n32_id, zg_pos, if_pos, if_neg, zu_same, zu_ne, if_true, if_false, ne_eq, not_true_eq_false, not_false_eq_true, true_or, or_true, true_and, and_true, zg_true, fa_b_f, fa_b_t, hR.r, g1]
        rw [L287_k43]
        simp (disch := omega) only [n32_id, zg_pos, if_pos, if_neg, zu_same, zu_ne, if_true, if_false, ne_eq, not_true_eq_false, not_false_eq_true, true_or, or_true, true_and, and_true, zg_true, fa_b_f, fa_b_t, e34, t4]
        exact f1
theorem T287_s (hV : zV V) (hK : sp_K V ≤ 3) (hL : 0 < sp_L V (sp_p5 V)) : ∀ (k : Nat) (s b : Int) (a : Int × Int) (E : Nat → Int → Int) (j3 j4 : ZV), zR V E → zTr E b a → 0 ≤ s → s + k = ((V (0)).val : Int) → -126 ≤ a.2 → a.2 ≤ 0 →
    ∃ F b', zf_ev X (d + 5) 287 (11, [vR 60, vI b, vI s, j3, j4], [], zH t p q E) = some (some [vI (b')], zH t p q F) ∧ zTr F b' (sp_out (fun seat r => - sp_lv V seat r) (fun seat r => 10 * seat + r) (((V (1)).val : Int)).toNat 1 k s a) ∧ (∀ a9 b9, (a9 ≠ 60 ∨ b9 ≠ 34) → a9 ≠ 68 → a9 ≠ 75 → F a9 b9 = E a9 b9) := by
  have hrr := hV.rows
  have hcl := hV.cols
  have hp := sp_p5_r hK
  have hLr := sp_L_r (V := V) (n := sp_p5 V) (by omega)
  intro k
  induction k with
  | zero =>
    intro s b a E j3 j4 hR hT h1 h2 h3 h4
    refine ⟨E, b, ?_, hT, fun a b _ _ _ => rfl⟩
    rw [L287_11]
    simp (disch := omega) only [n32_id, zg_pos, if_pos, if_neg, zu_same, zu_ne, if_true, if_false, ne_eq, not_true_eq_false, not_false_eq_true, true_or, or_true, true_and, and_true, zg_true, fa_b_f, fa_b_t, hR.r]
  | succ k ih =>
    intro s b a E j3 j4 hR hT h1 h2 h3 h4
    obtain ⟨H, y1, y2⟩ := T280 (X := X) (d := d) (t := t) (p := p) (q := q) hR hV hK
    have hR1 : zR V H := hR.fr (fun b => y2 _ _ (by omega)) (fun b => y2 _ _ (by omega))
    have hT1 : zTr H b a := by unfold zTr at hT ⊢; rw [y2 _ _ (by omega)]; exact hT
    obtain ⟨G, b2, a3, a4, g1, g2, g3⟩ := T287_r (X := X) (d := d) (t := t) (p := p) (q := q) hV hK (seat := s) (by omega) (((V (1)).val : Int)).toNat 1 b a H j4 hR1 hT1 (by omega) (by omega) h3 h4
    have bb := sp_in_r (w := fun r => - sp_lv V s r) (l := fun r => 10 * s + r) (lo := -126) (hi := 0) (((V (1)).val : Int)).toNat 1 a (fun j _ _ => by have := sp_lv_r (V := V) hK (seat := s) (r := j); omega) h3 h4
    obtain ⟨F, b', f1, f2, f3⟩ := ih (s + 1) b2 _ G a3 a4 (hR1.fr (fun b => g3 _ _ (by omega) (by omega) (by omega)) (fun b => g3 _ _ (by omega) (by omega) (by omega))) g2 (by omega) (by omega) bb.1 bb.2
    refine ⟨F, b', ?_, f2, fun x y z1 z2 z3 => by rw [f3 x y z1 z2 z3, g3 x y z1 z2 z3, y2 x y z2]⟩
    rw [L287_11]
    simp (disch := omega) only [n32_id, zg_pos, if_pos, if_neg, zu_same, zu_ne, if_true, if_false, ne_eq, not_true_eq_false, not_false_eq_true, true_or, or_true, true_and, and_true, zg_true, fa_b_f, fa_b_t, hR.r, y1]
    rw [L287_k22]
    simp (disch := omega) only [n32_id, zg_pos, if_pos, if_neg, zu_same, zu_ne, if_true, if_false, ne_eq, not_true_eq_false, not_false_eq_true, true_or, or_true, true_and, and_true, zg_true, fa_b_f, fa_b_t]
    rw [g1]
    exact f1
def sv_throw (V : Int → Fin 65537) : Int := if sp_L V (sp_p5 V) = 0 then -2 else (sp_thr V).1
def sv_leaves (V : Int → Fin 65537) : Int := if sp_L V (sp_p5 V) = 0 then -2 else -(sp_thr V).2
theorem T287 (hR : zR V E) (hV : zV V) (hK : sp_K V ≤ 3) : ∃ F, zf_ev X (d + 5) 287 (0, [vR 60, vJ, vJ, vJ, vJ], [], zH t p q E) = some (some [vI (sv_throw V)], zH t p q F) ∧ F 60 34 = sv_leaves V ∧ (∀ a9 b9, (a9 ≠ 60 ∨ b9 ≠ 34) → a9 ≠ 68 → a9 ≠ 75 → F a9 b9 = E a9 b9) := by
  have hcl := hV.cols
  have hp := sp_p5_r hK
  have hLr := sp_L_r (V := V) (n := sp_p5 V) (by omega)
  have hr := sp_thr_r hV hK
  have hR0 : zR V (zu E 60 34 (-2)) := hR.fr (fun b => zu_ne (by omega)) (fun b => zu_ne (by omega))
  by_cases hz : sp_L V (sp_p5 V) = 0
  · obtain ⟨H, y1, y2⟩ := T280 (X := X) (d := d) (t := t) (p := p) (q := q) hR0 hV hK
    refine ⟨H, ?_, ?_, fun a b z1 z2 z3 => by rw [y2 a b z2, zu_ne z1]⟩
    · rw [L287_0, L287_11]
      simp (disch := omega) only [n32_id, zg_pos, if_pos, if_neg, zu_same, zu_ne, if_true, if_false, ne_eq, not_true_eq_false, not_false_eq_true, true_or, or_true, true_and, and_true, zg_true, fa_b_f, fa_b_t, hR.r, hR0.r, y1]
      rw [L287_k22]
      unfold sv_throw
      simp (disch := omega) only [n32_id, zg_pos, if_pos, if_neg, zu_same, zu_ne, if_true, if_false, ne_eq, not_true_eq_false, not_false_eq_true, true_or, or_true, true_and, and_true, zg_true, fa_b_f, fa_b_t]
    · rw [y2 _ _ (by omega), zu_same]
      unfold sv_leaves
      rw [if_pos hz]
  · obtain ⟨F, b', f1, f2, f3⟩ := T287_s (X := X) (d := d) (t := t) (p := p) (q := q) hV hK (by omega) (((V (0)).val : Int)).toNat 0 (-2) (-2, -126) (zu E 60 34 (-2)) vJ vJ hR0 (Or.inl ⟨rfl, rfl, rfl, zu_same⟩) (by omega) (by omega) (by decide) (by decide)
    have e : b' = (sp_thr V).1 ∧ F 60 34 = -(sp_thr V).2 := by
      unfold sp_thr at hr ⊢
      rcases f2 with ⟨t1, t2, t3, t4⟩ | ⟨t1, t2, t3, t4⟩
      · omega
      · exact ⟨t3.symm, t4⟩
    refine ⟨F, ?_, ?_, fun a b z1 z2 z3 => by rw [f3 a b z1 z2 z3, zu_ne z1]⟩
    · rw [L287_0, f1, e.1]
      unfold sv_throw
      rw [if_neg hz]
    · rw [e.2]
      unfold sv_leaves
      rw [if_neg hz]
end F3

/-! the reference's sessions -/
section S2
variable {X : Nat × (Nat → Int)} {d : Nat} {t : List (Nat × Nat)} {p q : Nat} {E : Nat → Int → Int} {V : Int → Fin 65537} {o : Nat}
theorem T297_t (hV : zV V) (hR : zR V E) (hS : zS (sp_C V) (sp_R V) ((V (3)).val : Int) E) {i e : Int} {j2 : ZV} (h1 : 0 ≤ i) (h2 : i < ((V (4)).val : Int)) (he : -1 ≤ e ∧ e ≤ 1) : zf_k X (d + 3) 297 87 [vR 60, vI i, j2, vI e] [vR 60, vI i, vR 60, vI i, vR 76] (zf_ev X (d + 2) 227 (0, [vR 60, vI i], [], zH t p q E)) = zf_k X (d + 3) 297 100 [vR 60, vI i, j2, vI e] [vI i, vR 76] (some (some [vI (sp_bal V i e)], zH t p q (zA V E))) := by
  have hcl := hV.cols
  have hrw := hV.rows
  have hd := sp_d_r hV h1 h2
  have hw := sp_wall_r (n := ((V (0)).val : Int)) (c := sp_dc V i + e) (by omega)
  rw [T227 hR hV h1 h2, L297_k87, T218 hR.A hV (by omega) (by omega), L297_k92, T228 hR.A hV h1 h2, L297_k97, T232 hR.A hV hS.A h1 h2 (by omega) (by omega)]
  rfl
theorem T297_loop (hV : zV V) {x : Int} (hx : 0 ≤ x ∧ x ≤ 65536) : ∀ (k : Nat) (i : Int) (E : Nat → Int → Int) (j2 j3 : ZV), zR V E → zS (sp_C V) (sp_R V) ((V (3)).val : Int) E → 0 ≤ i → i + k = ((V (4)).val : Int) → E 60 37 = sp_dw x i.toNat → (∀ j, 0 ≤ j → j < i → E 76 j = sp_sv V x j) → (∀ s, 0 ≤ s → s < 4 → 0 ≤ E 70 s ∧ E 70 s ≤ i) →
    ∃ F a2 a3, zf_ev X (d + 3) 297 (10, [vR 60, vI i, j2, j3], [], zH t p q E) = zf_ev X (d + 3) 297 (10, [vR 60, vI ((V (4)).val : Int), a2, a3], [], zH t p q F) ∧ F 60 37 = sp_sx V x ∧ (∀ j, 0 ≤ j → j < ((V (4)).val : Int) → F 76 j = sp_sv V x j) ∧ (∀ s, 0 ≤ s → s < 4 → F 70 s = E 70 s + sp_cnt (sp_sv V x) s k i) ∧ (∀ a9 b9, (a9 ≠ 60 ∨ b9 ≠ 37) → a9 ≠ 68 → a9 ≠ 70 → a9 ≠ 76 → F a9 b9 = E a9 b9) := by
  have hm := hV.mems
  have hk := hV.spks
  intro k
  induction k with
  | zero =>
    intro i E j2 j3 hR hS h1 h2 h6 h76 h70
    have e : i = ((V (4)).val : Int) := by omega
    subst e
    exact ⟨E, j2, j3, rfl, h6, h76, fun s _ _ => by simp [sp_cnt], fun a b _ _ _ _ => rfl⟩
  | succ k ih =>
    intro i E j2 j3 hR hS h1 h2 h6 h76 h70
    have hq := hV.mem i h1 (by omega)
    have hd := sp_dw_r hx i.toNat
    have r1 := sp_nx_r hd.1
    have r2 := tmod_r (a := sp_nx (sp_dw x i.toNat)) (b := 200) r1.1 (by omega)
    have er := sp_er_r (e := ((V (30 + 5 * i + 4)).val : Int)) (n := (sp_nx (sp_dw x i.toNat)).tmod 200)
    have hv := sp_sv_r hV (x := x) (m := i)
    have e0 : (75 * sp_dw x i.toNat + 74).tmod 65537 = sp_nx (sp_dw x i.toNat) := rfl
    have e1 : sp_bal V i (sp_er ((V (30 + 5 * i + 4)).val : Int) ((sp_nx (sp_dw x i.toNat)).tmod 200)) = sp_sv V x i := rfl
    have e2 : (i + 1).toNat = i.toNat + 1 := by omega
    have hR1 : zR V (zu E 60 37 (sp_nx (sp_dw x i.toNat))) := hR.fr (fun b => zu_ne (by omega)) (fun b => zu_ne (by omega))
    have hS1 : zS (sp_C V) (sp_R V) ((V (3)).val : Int) (zu E 60 37 (sp_nx (sp_dw x i.toNat))) := hS.fr (fun b => zu_ne (by omega))
    have c0 : ∀ s, sp_cnt (sp_sv V x) s (k + 1) i = (if sp_sv V x i = s then 1 else 0) + sp_cnt (sp_sv V x) s k (i + 1) := fun s => rfl
    have head : zf_ev X (d + 3) 297 (10, [vR 60, vI i, j2, j3], [], zH t p q E) = zf_k X (d + 3) 297 100 [vR 60, vI i, vI ((sp_nx (sp_dw x i.toNat)).tmod 200), vI (sp_er ((V (30 + 5 * i + 4)).val : Int) ((sp_nx (sp_dw x i.toNat)).tmod 200))] [vI i, vR 76] (some (some [vI (sp_sv V x i)], zH t p q (zA V (zu E 60 37 (sp_nx (sp_dw x i.toNat)))))) := by
      rw [L297_10]
      simp (disch := omega) only [n32_id, zg_pos, if_pos, if_neg, zu_same, zu_ne, if_true, if_false, ne_eq, not_true_eq_false, not_false_eq_true, true_or, or_true, true_and, and_true, zg_true, fa_b_f, fa_b_t, hR.r, h6, e0]
      rw [T226 hR1 h1 (by omega), L297_k50]
      by_cases g1 : (sp_nx (sp_dw x i.toNat)).tmod 200 < ((V (30 + 5 * i + 4)).val : Int)
      · have e3 : sp_er ((V (30 + 5 * i + 4)).val : Int) ((sp_nx (sp_dw x i.toNat)).tmod 200) = -1 := if_pos g1
        simp (disch := omega) only [n32_id, zg_pos, if_pos, if_neg, zu_same, zu_ne, if_true, if_false, ne_eq, not_true_eq_false, not_false_eq_true, true_or, or_true, true_and, and_true, zg_true, fa_b_f, fa_b_t]
        rw [T297_t hV hR1 hS1 h1 (by omega) (by omega), ← e1, e3]
      · simp (disch := omega) only [n32_id, zg_pos, if_pos, if_neg, zu_same, zu_ne, if_true, if_false, ne_eq, not_true_eq_false, not_false_eq_true, true_or, or_true, true_and, and_true, zg_true, fa_b_f, fa_b_t]
        rw [T226 hR1 h1 (by omega), L297_k64 rfl]
        by_cases g2 : (sp_nx (sp_dw x i.toNat)).tmod 200 < 2 * ((V (30 + 5 * i + 4)).val : Int)
        · have e3 : sp_er ((V (30 + 5 * i + 4)).val : Int) ((sp_nx (sp_dw x i.toNat)).tmod 200) = 1 := (if_neg g1).trans (if_pos g2)
          simp (disch := omega) only [n32_id, zg_pos, if_pos, if_neg, zu_same, zu_ne, if_true, if_false, ne_eq, not_true_eq_false, not_false_eq_true, true_or, or_true, true_and, and_true, zg_true, fa_b_f, fa_b_t]
          rw [T297_t hV hR1 hS1 h1 (by omega) (by omega), ← e1, e3]
        · have e3 : sp_er ((V (30 + 5 * i + 4)).val : Int) ((sp_nx (sp_dw x i.toNat)).tmod 200) = 0 := (if_neg g1).trans (if_neg g2)
          simp (disch := omega) only [n32_id, zg_pos, if_pos, if_neg, zu_same, zu_ne, if_true, if_false, ne_eq, not_true_eq_false, not_false_eq_true, true_or, or_true, true_and, and_true, zg_true, fa_b_f, fa_b_t]
          rw [T297_t hV hR1 hS1 h1 (by omega) (by omega), ← e1, e3]
    rcases hv with hv | hv
    · obtain ⟨F, a2, a3, f1, f2, f3, f4, f6⟩ := ih (i + 1) (zu (zA V (zu E 60 37 (sp_nx (sp_dw x i.toNat)))) 76 i (sp_sv V x i)) (vI ((sp_nx (sp_dw x i.toNat)).tmod 200)) (vI (sp_er ((V (30 + 5 * i + 4)).val : Int) ((sp_nx (sp_dw x i.toNat)).tmod 200))) (hR1.A.fr (fun b => zu_ne (by omega)) (fun b => zu_ne (by omega))) (hS1.A.fr (fun b => zu_ne (by omega))) (by omega) (by omega) (by rw [zu_ne (by omega), zA_ne (by omega), zu_same, e2]; rfl) (fun j a b => by
        by_cases g : j = i
        · rw [g, zu_same]
        · rw [zu_ne (by omega), zA_ne (by omega), zu_ne (by omega)]
          exact h76 j a (by omega)) (fun s a b => by rw [zu_ne (by omega), zA_ne (by omega), zu_ne (by omega)]; have := h70 s a b; omega)
      refine ⟨F, a2, a3, ?_, f2, f3, fun s a b => ?_, fun a b y1 y2 y3 y4 => by rw [f6 a b y1 y2 y3 y4, zu_ne (Or.inl y4), zA_ne y2, zu_ne y1]⟩
      · rw [head, L297_k100]
        simp (disch := omega) only [n32_id, zg_pos, if_pos, if_neg, zu_same, zu_ne, if_true, if_false, ne_eq, not_true_eq_false, not_false_eq_true, true_or, or_true, true_and, and_true, zg_true, fa_b_f, fa_b_t]
        exact f1
      · rw [f4 s a b, c0, if_neg (by omega), zu_ne (by omega), zA_ne (by omega), zu_ne (by omega)]
        omega
    · have h5 := h70 (sp_sv V x i) hv.1 (by omega)
      have e70 : zA V (zu E 60 37 (sp_nx (sp_dw x i.toNat))) 70 (sp_sv V x i) = E 70 (sp_sv V x i) := by rw [zA_ne (by omega), zu_ne (by omega)]
      obtain ⟨F, a2, a3, f1, f2, f3, f4, f6⟩ := ih (i + 1) (zu (zu (zA V (zu E 60 37 (sp_nx (sp_dw x i.toNat)))) 76 i (sp_sv V x i)) 70 (sp_sv V x i) (E 70 (sp_sv V x i) + 1)) (vI ((sp_nx (sp_dw x i.toNat)).tmod 200)) (vI (sp_er ((V (30 + 5 * i + 4)).val : Int) ((sp_nx (sp_dw x i.toNat)).tmod 200))) (hR1.A.fr (fun b => by rw [zu_ne (by omega), zu_ne (by omega)]) (fun b => by rw [zu_ne (by omega), zu_ne (by omega)])) (hS1.A.fr (fun b => by rw [zu_ne (by omega), zu_ne (by omega)])) (by omega) (by omega) (by rw [zu_ne (by omega), zu_ne (by omega), zA_ne (by omega), zu_same, e2]; rfl) (fun j a b => by
        rw [zu_ne (by omega)]
        by_cases g : j = i
        · rw [g, zu_same]
        · rw [zu_ne (by omega), zA_ne (by omega), zu_ne (by omega)]
          exact h76 j a (by omega)) (fun s a b => by
        have := h70 s a b
        by_cases g : s = sp_sv V x i
        · rw [g, zu_same]; omega
        · rw [zu_ne (Or.inr g), zu_ne (by omega), zA_ne (by omega), zu_ne (by omega)]; omega)
      refine ⟨F, a2, a3, ?_, f2, f3, fun s a b => ?_, fun a b y1 y2 y3 y4 => by rw [f6 a b y1 y2 y3 y4, zu_ne (Or.inl y3), zu_ne (Or.inl y4), zA_ne y2, zu_ne y1]⟩
      · rw [head, L297_k100]
        simp (disch := omega) only [n32_id, zg_pos, if_pos, if_neg, zu_same, zu_ne, if_true, if_false, ne_eq, not_true_eq_false, not_false_eq_true, true_or, or_true, true_and, and_true, zg_true, fa_b_f, fa_b_t, e70]
        exact f1
      · rw [f4 s a b, c0]
        by_cases g : sp_sv V x i = s
        · rw [if_pos g, g, zu_same]
          omega
        · rw [if_neg g, zu_ne (Or.inr (fun z => g z.symm)), zu_ne (by omega), zA_ne (by omega), zu_ne (by omega)]
          omega
theorem T297 (hR : zR V E) (hV : zV V) {x : Int} (hx : 0 ≤ x ∧ x ≤ 65536) (h6 : E 60 37 = x) : ∃ F, zf_ev X (d + 3) 297 (0, [vR 60, vJ, vJ, vJ], [], zH t p q E) = some (some [vI (sp_sw V x)], zH t p q F) ∧ F 60 37 = sp_sx V x ∧ (∀ j, 0 ≤ j → j < ((V (4)).val : Int) → F 76 j = sp_sv V x j) ∧ F 70 0 + F 70 1 + F 70 2 + F 70 3 = sp_s2 V x ∧ (∀ a9 b9, (a9 ≠ 60 ∨ b9 ≠ 37) → a9 ≠ 68 → a9 ≠ 69 → a9 ≠ 70 → a9 ≠ 76 → F a9 b9 = E a9 b9) := by
  have hm := hV.mems
  have hk := hV.spks
  have hR1 : zR V (zfill (zP V E) 70 0 4 (fun _ => 0)) := hR.P.fr (fun b => zfill_ne (by omega)) (fun b => zfill_ne (by omega))
  obtain ⟨F, a2, a3, f1, f2, f3, f4, f5⟩ := T297_loop (X := X) (d := d) (t := t) (p := p) (q := q) hV hx (((V (4)).val : Int)).toNat 0 (zfill (zP V E) 70 0 4 (fun _ => 0)) vJ vJ hR1 ((zS_P hV).fr (fun b => zfill_ne (by omega))) (by omega) (by omega) (by rw [zfill_ne (by omega), zP_ne (by omega)]; exact h6) (fun j a b => by omega) (fun s a b => by rw [zfill_in a b]; omega)
  have hR2 : zR V F := hR1.fr (fun b => f5 _ _ (by omega) (by omega) (by omega) (by omega)) (fun b => f5 _ _ (by omega) (by omega) (by omega) (by omega))
  have e70 : ∀ s, 0 ≤ s → s < 4 → F 70 s = sp_cn (sp_sv V x) ((V (4)).val : Int) s := fun s a b => by
    rw [f4 s a b, zfill_in a b]
    unfold sp_cn
    omega
  have e235 := T235 (X := X) (d := d + 2) (t := t) (p := p) (q := q) hR2 hV (w := sp_cn (sp_sv V x) ((V (4)).val : Int)) (fun s a b => by
    have := sp_cn_r (f := sp_sv V x) (n := ((V (4)).val : Int)) (s := s) (by omega)
    exact ⟨e70 s a b, by omega, by omega⟩)
  refine ⟨F, ?_, f2, f3, ?_, fun a b y1 y2 y3 y4 y5 => by rw [f5 a b y1 y2 y4 y5, zfill_ne y4, zP_ne y3]⟩
  · rw [L297_0, T230 hR, L297_k1, T234, L297_k5, f1, L297_10]
    simp (disch := omega) only [n32_id, zg_pos, if_pos, if_neg, zu_same, zu_ne, if_true, if_false, ne_eq, not_true_eq_false, not_false_eq_true, true_or, or_true, true_and, and_true, zg_true, fa_b_f, fa_b_t, hR2.r]
    rw [e235, L297_k135]
    rfl
  · rw [e70 0 (by omega) (by omega), e70 1 (by omega) (by omega), e70 2 (by omega) (by omega), e70 3 (by omega) (by omega)]
    exact sp_nn4 (((V (4)).val : Int)).toNat 0 (fun j a b => by have := sp_sv_r hV (x := x) (m := j); omega)
theorem T298t {x n : Int} (h1 : 0 ≤ x) (h2 : x ≤ 65536) (h3 : 1 ≤ n) (h4 : n ≤ 90) : zf_ev X (d + 1) 298 (0, [vR 60, vI 1, vI x, vI n], [], zH t p q E) = some (some [vI 0], zH t p q (zu E 60 37 x)) := by
  simp (disch := omega) only [n32_id, zg_pos, if_pos, if_neg, zu_same, zu_ne, if_true, if_false, ne_eq, not_true_eq_false, not_false_eq_true, true_or, or_true, true_and, and_true, zg_true, fa_b_f, fa_b_t, L298_0, L298_k18, L298_k28, T180t]
theorem T298n {x n : Int} : zf_ev X (d + 1) 298 (0, [vR 60, vI 0, vI x, vI n], [], zH t p q E) = some (some [vI 1], zH t p q (zu E 60 37 x)) := by
  simp (disch := omega) only [n32_id, zg_pos, if_pos, if_neg, zu_same, zu_ne, if_true, if_false, ne_eq, not_true_eq_false, not_false_eq_true, true_or, or_true, true_and, and_true, zg_true, fa_b_f, fa_b_t, L298_0, L298_k18, L298_k28]
theorem T298f {x n : Int} (h1 : -2147483648 ≤ x ∧ x < 2147483648) (h2 : -2147483648 ≤ n ∧ n < 2147483648) (h : (x < 0 ∨ 65536 < x) ∨ n < 1 ∨ 90 < n) : zf_ev X (d + 1) 298 (0, [vR 60, vI 1, vI x, vI n], [], zH t p q E) = some (some [vI 2], zH t p q (zu E 60 37 x)) := by
  by_cases g : x < 0 ∨ 65536 < x
  · simp (disch := omega) only [n32_id, zg_pos, if_pos, if_neg, zu_same, zu_ne, if_true, if_false, ne_eq, not_true_eq_false, not_false_eq_true, true_or, or_true, true_and, and_true, zg_true, fa_b_f, fa_b_t, L298_0, L298_k18, L298_k28, T180f]
  · simp (disch := omega) only [n32_id, zg_pos, if_pos, if_neg, zu_same, zu_ne, if_true, if_false, ne_eq, not_true_eq_false, not_false_eq_true, true_or, or_true, true_and, and_true, zg_true, fa_b_f, fa_b_t, L298_0, L298_k18, L298_k28, T180t, T180f]
theorem T299_loop (hV : zV V) {s n : Int} {j2 j4 : ZV} (hj : zm_isL j4 = false) (hs : 0 ≤ s ∧ s < 4) (hn : 0 ≤ n ∧ n ≤ 1000) : ∀ (k : Nat) (i x z : Int) (E : Nat → Int → Int), zR V E → E 60 37 = x → 0 ≤ x ∧ x ≤ 65536 → 0 ≤ i → i + k = n →
    ∃ F, zf_ev X (d + 4) 299 (35, [vR 60, vI s, j2, vI n, j4, vI z, vI i], [], zH t p q E) = some (some [vI (z + sp_many (sp_s1 V s) (sp_sx V) k x)], zH t p q F) ∧ (∀ a9 b9, (a9 ≠ 60 ∨ b9 ≠ 37) → a9 ≠ 68 → a9 ≠ 69 → a9 ≠ 70 → a9 ≠ 76 → F a9 b9 = E a9 b9) := by
  have hk := hV.spks
  intro k
  induction k with
  | zero =>
    intro i x z E hR h6 hx h1 h2
    refine ⟨E, ?_, fun a b _ _ _ _ _ => rfl⟩
    rw [L299_35]
    simp (disch := omega) only [n32_id, zg_pos, if_pos, if_neg, zu_same, zu_ne, if_true, if_false, ne_eq, not_true_eq_false, not_false_eq_true, true_or, or_true, true_and, and_true, zg_true, fa_b_f, fa_b_t]
    simp [sp_many]
  | succ k ih =>
    intro i x z E hR h6 hx h1 h2
    have hw := sp_sw_r hV (x := x)
    obtain ⟨G, g1, g2, g3, g4, g5⟩ := T297 (X := X) (d := d) (t := t) (p := p) (q := q) hR hV hx h6
    have hR2 : zR V G := hR.fr (fun b => g5 _ _ (by omega) (by omega) (by omega) (by omega) (by omega)) (fun b => g5 _ _ (by omega) (by omega) (by omega) (by omega) (by omega))
    have c0 : sp_many (sp_s1 V s) (sp_sx V) (k + 1) x = sp_s1 V s x + sp_many (sp_s1 V s) (sp_sx V) k (sp_sx V x) := rfl
    by_cases g : sp_sw V x = s
    · obtain ⟨F, f1, f2⟩ := ih (i + 1) (sp_sx V x) (z + 1) G hR2 g2 (sp_sx_r hx) (by omega) (by omega)
      refine ⟨F, ?_, fun a b y1 y2 y3 y4 y5 => by rw [f2 a b y1 y2 y3 y4 y5, g5 a b y1 y2 y3 y4 y5]⟩
      rw [L299_35]
      simp (disch := omega) only [n32_id, zg_pos, if_pos, if_neg, zu_same, zu_ne, if_true, if_false, ne_eq, not_true_eq_false, not_false_eq_true, true_or, or_true, true_and, and_true, zg_true, fa_b_f, fa_b_t]
      rw [g1, L299_k44 hj]
      simp (disch := omega) only [n32_id, zg_pos, if_pos, if_neg, zu_same, zu_ne, if_true, if_false, ne_eq, not_true_eq_false, not_false_eq_true, true_or, or_true, true_and, and_true, zg_true, fa_b_f, fa_b_t]
      rw [f1, c0, show sp_s1 V s x = 1 from if_pos g, Int.add_assoc]
    · obtain ⟨F, f1, f2⟩ := ih (i + 1) (sp_sx V x) (z + 0) G hR2 g2 (sp_sx_r hx) (by omega) (by omega)
      refine ⟨F, ?_, fun a b y1 y2 y3 y4 y5 => by rw [f2 a b y1 y2 y3 y4 y5, g5 a b y1 y2 y3 y4 y5]⟩
      rw [L299_35]
      simp (disch := omega) only [n32_id, zg_pos, if_pos, if_neg, zu_same, zu_ne, if_true, if_false, ne_eq, not_true_eq_false, not_false_eq_true, true_or, or_true, true_and, and_true, zg_true, fa_b_f, fa_b_t]
      rw [g1, L299_k44 hj]
      simp (disch := omega) only [n32_id, zg_pos, if_pos, if_neg, zu_same, zu_ne, if_true, if_false, ne_eq, not_true_eq_false, not_false_eq_true, true_or, or_true, true_and, and_true, zg_true, fa_b_f, fa_b_t]
      rw [f1, c0, show sp_s1 V s x = 0 from if_neg g, Int.add_assoc]
theorem T300_loop (hV : zV V) {n : Int} {j1 j3 : ZV} (hj : zm_isL j3 = false) (hn : 0 ≤ n ∧ n ≤ 1000) : ∀ (k : Nat) (i x z : Int) (E : Nat → Int → Int), zR V E → E 60 37 = x → 0 ≤ x ∧ x ≤ 65536 → 0 ≤ i → i + k = n →
    ∃ F, zf_ev X (d + 4) 300 (31, [vR 60, j1, vI n, j3, vI z, vI i], [], zH t p q E) = some (some [vI (z + sp_many (sp_s2 V) (sp_sx V) k x)], zH t p q F) ∧ (∀ a9 b9, (a9 ≠ 60 ∨ b9 ≠ 37) → a9 ≠ 68 → a9 ≠ 69 → a9 ≠ 70 → a9 ≠ 76 → F a9 b9 = E a9 b9) := by
  have hk := hV.spks
  intro k
  induction k with
  | zero =>
    intro i x z E hR h6 hx h1 h2
    refine ⟨E, ?_, fun a b _ _ _ _ _ => rfl⟩
    rw [L300_31]
    simp (disch := omega) only [n32_id, zg_pos, if_pos, if_neg, zu_same, zu_ne, if_true, if_false, ne_eq, not_true_eq_false, not_false_eq_true, true_or, or_true, true_and, and_true, zg_true, fa_b_f, fa_b_t]
    simp [sp_many]
  | succ k ih =>
    intro i x z E hR h6 hx h1 h2
    obtain ⟨G, g1, g2, g3, g4, g5⟩ := T297 (X := X) (d := d) (t := t) (p := p) (q := q) hR hV hx h6
    have hR2 : zR V G := hR.fr (fun b => g5 _ _ (by omega) (by omega) (by omega) (by omega) (by omega)) (fun b => g5 _ _ (by omega) (by omega) (by omega) (by omega) (by omega))
    have c0 : sp_many (sp_s2 V) (sp_sx V) (k + 1) x = sp_s2 V x + sp_many (sp_s2 V) (sp_sx V) k (sp_sx V x) := rfl
    obtain ⟨F, f1, f2⟩ := ih (i + 1) (sp_sx V x) (z + (G 70 0 + G 70 1 + G 70 2 + G 70 3)) G hR2 g2 (sp_sx_r hx) (by omega) (by omega)
    refine ⟨F, ?_, fun a b y1 y2 y3 y4 y5 => by rw [f2 a b y1 y2 y3 y4 y5, g5 a b y1 y2 y3 y4 y5]⟩
    rw [L300_31]
    simp (disch := omega) only [n32_id, zg_pos, if_pos, if_neg, zu_same, zu_ne, if_true, if_false, ne_eq, not_true_eq_false, not_false_eq_true, true_or, or_true, true_and, and_true, zg_true, fa_b_f, fa_b_t]
    rw [g1, L300_k38 hj]
    simp (disch := omega) only [n32_id, zg_pos, if_pos, if_neg, zu_same, zu_ne, if_true, if_false, ne_eq, not_true_eq_false, not_false_eq_true, true_or, or_true, true_and, and_true, zg_true, fa_b_f, fa_b_t]
    rw [f1, c0, g4, Int.add_assoc]
theorem T301_loop (hV : zV V) {m n : Int} {j2 j4 : ZV} (hj : zm_isL j4 = false) (hm : 0 ≤ m ∧ m < ((V (4)).val : Int)) (hn : 0 ≤ n ∧ n ≤ 1000) : ∀ (k : Nat) (i x z : Int) (E : Nat → Int → Int) (j7 : ZV), zR V E → E 60 37 = x → 0 ≤ x ∧ x ≤ 65536 → 0 ≤ i → i + k = n →
    ∃ F, zf_ev X (d + 4) 301 (35, [vR 60, vI m, j2, vI n, j4, vI z, vI i, j7], [], zH t p q E) = some (some [vI (z + sp_many (sp_s3 V m) (sp_sx V) k x)], zH t p q F) ∧ (∀ a9 b9, (a9 ≠ 60 ∨ b9 ≠ 37) → a9 ≠ 68 → a9 ≠ 69 → a9 ≠ 70 → a9 ≠ 76 → F a9 b9 = E a9 b9) := by
  have hk := hV.spks
  have hmm := hV.mems
  intro k
  induction k with
  | zero =>
    intro i x z E j7 hR h6 hx h1 h2
    refine ⟨E, ?_, fun a b _ _ _ _ _ => rfl⟩
    rw [L301_35]
    simp (disch := omega) only [n32_id, zg_pos, if_pos, if_neg, zu_same, zu_ne, if_true, if_false, ne_eq, not_true_eq_false, not_false_eq_true, true_or, or_true, true_and, and_true, zg_true, fa_b_f, fa_b_t]
    simp [sp_many]
  | succ k ih =>
    intro i x z E j7 hR h6 hx h1 h2
    have hw := sp_sw_r hV (x := x)
    have hv := sp_sv_r hV (x := x) (m := m)
    obtain ⟨G, g1, g2, g3, g4, g5⟩ := T297 (X := X) (d := d) (t := t) (p := p) (q := q) hR hV hx h6
    have e76 := g3 m hm.1 hm.2
    have hR2 : zR V G := hR.fr (fun b => g5 _ _ (by omega) (by omega) (by omega) (by omega) (by omega)) (fun b => g5 _ _ (by omega) (by omega) (by omega) (by omega) (by omega))
    have c0 : sp_many (sp_s3 V m) (sp_sx V) (k + 1) x = sp_s3 V m x + sp_many (sp_s3 V m) (sp_sx V) k (sp_sx V x) := rfl
    by_cases g : 0 ≤ sp_sw V x ∧ sp_sv V x m = sp_sw V x
    · obtain ⟨F, f1, f2⟩ := ih (i + 1) (sp_sx V x) (z + 1) G (vI (sp_sw V x)) hR2 g2 (sp_sx_r hx) (by omega) (by omega)
      refine ⟨F, ?_, fun a b y1 y2 y3 y4 y5 => by rw [f2 a b y1 y2 y3 y4 y5, g5 a b y1 y2 y3 y4 y5]⟩
      rw [L301_35]
      simp (disch := omega) only [n32_id, zg_pos, if_pos, if_neg, zu_same, zu_ne, if_true, if_false, ne_eq, not_true_eq_false, not_false_eq_true, true_or, or_true, true_and, and_true, zg_true, fa_b_f, fa_b_t]
      rw [g1, L301_k42 hj]
      simp (disch := omega) only [n32_id, zg_pos, if_pos, if_neg, zu_same, zu_ne, if_true, if_false, ne_eq, not_true_eq_false, not_false_eq_true, true_or, or_true, true_and, and_true, zg_true, fa_b_f, fa_b_t, e76]
      rw [f1, c0, show sp_s3 V m x = 1 from if_pos g, Int.add_assoc]
    · obtain ⟨F, f1, f2⟩ := ih (i + 1) (sp_sx V x) (z + 0) G (vI (sp_sw V x)) hR2 g2 (sp_sx_r hx) (by omega) (by omega)
      refine ⟨F, ?_, fun a b y1 y2 y3 y4 y5 => by rw [f2 a b y1 y2 y3 y4 y5, g5 a b y1 y2 y3 y4 y5]⟩
      rw [L301_35]
      simp (disch := omega) only [n32_id, zg_pos, if_pos, if_neg, zu_same, zu_ne, if_true, if_false, ne_eq, not_true_eq_false, not_false_eq_true, true_or, or_true, true_and, and_true, zg_true, fa_b_f, fa_b_t]
      rw [g1, L301_k42 hj]
      by_cases g6 : sp_sw V x < 0
      · simp (disch := omega) only [n32_id, zg_pos, if_pos, if_neg, zu_same, zu_ne, if_true, if_false, ne_eq, not_true_eq_false, not_false_eq_true, true_or, or_true, true_and, and_true, zg_true, fa_b_f, fa_b_t]
        rw [f1, c0, show sp_s3 V m x = 0 from if_neg g, Int.add_assoc]
      · simp (disch := omega) only [n32_id, zg_pos, if_pos, if_neg, zu_same, zu_ne, if_true, if_false, ne_eq, not_true_eq_false, not_false_eq_true, true_or, or_true, true_and, and_true, zg_true, fa_b_f, fa_b_t, e76]
        rw [f1, c0, show sp_s3 V m x = 0 from if_neg g, Int.add_assoc]
theorem zR.u37 (hR : zR V E) {x : Int} : zR V (zu E 60 37 x) := hR.fr (fun b => zu_ne (by omega)) (fun b => zu_ne (by omega))
theorem zFM.u37 {x : Int} : zFM E (zu E 60 37 x) := fun a b _ g => zu_ne (by omega)
theorem RQ_no7 {F : Nat → Int → Int} {M : Nat} {loc : List ZV} {n x : Int} (h : zf_ev X d M (0, loc, [], zH t p q E) = some (some [vI (-1)], zH t p q (zu (zu (zg0 E) 60 37 x) 60 11 n))) : ∃ F, zf_ev X d M (0, loc, [], zH t p q E) = some (some [vI (-1)], zH t p q F) ∧ F 60 11 = n ∧ F 60 0 = 0 ∧ zFM E F := ⟨_, h, zu_same, (zu_ne (by omega)).trans ((zu_ne (by omega)).trans rfl), zFM.g0.tr (zFM.u37.tr zFM.u11)⟩
theorem Q299 (hG : zG V E p) {s x n : Int} (h1 : 0 ≤ s) (h2 : s < ((V (3)).val : Int)) (h3 : 0 ≤ x) (h4 : x ≤ 65536) (h5 : 1 ≤ n) (h6 : n ≤ 90) : ∃ F, zf_ev X (d + 4) 299 (0, [vR 60, vI s, vI x, vI n, vJ, vJ, vJ], [], zH t p q E) = some (some [vI (sp_many (sp_s1 V s) (sp_sx V) n.toNat x)], zH t p q F) ∧ F 60 11 = 0 ∧ F 60 0 = 0 ∧ zFM E F := by
  obtain ⟨hV, -, h142⟩ := hG.yes (by omega)
  have hk := hV.spks
  have hR2 := hG.R2
  obtain ⟨F, f1, f2⟩ := T299_loop (X := X) (d := d) (t := t) (p := p) (q := q) hV (s := s) (n := n) (j2 := vI x) (j4 := vI 0) rfl (by omega) (by omega) n.toNat 0 x 0 (zu (zg0 E) 60 37 x) hR2.u37 zu_same (by omega) (by omega) (by omega)
  have hf : zFM (zg0 E) F := zFM.u37.tr (fun a b g1 g2 => f2 a b (by omega) (by omega) (by omega) (by omega) (by omega))
  refine ⟨F, ?_, by rw [f2 _ _ (by omega) (by omega) (by omega) (by omega) (by omega), zu_ne (by omega)]; rfl, by rw [f2 _ _ (by omega) (by omega) (by omega) (by omega) (by omega), zu_ne (by omega)]; rfl, zFM.g0.tr hf⟩
  simp (disch := omega) only [n32_id, zg_pos, if_pos, if_neg, zu_same, zu_ne, if_true, if_false, ne_eq, not_true_eq_false, not_false_eq_true, true_or, or_true, true_and, and_true, zg_true, fa_b_f, fa_b_t, L299_0, L299_k1, L299_k7, L299_k12, L299_k25, T177, T214t hR2 h142, T298t]
  rw [f1, Int.zero_add]
theorem Q299n (hG : zG V E p) {s x n : Int} (b1 : -2147483648 ≤ s ∧ s < 2147483648) (h : s < 0 ∨ ((V (3)).val : Int) ≤ s) : ∃ F, zf_ev X (d + 4) 299 (0, [vR 60, vI s, vI x, vI n, vJ, vJ, vJ], [], zH t p q E) = some (some [vI (-1)], zH t p q F) ∧ F 60 11 = 1 ∧ F 60 0 = 0 ∧ zFM E F := by
  have hR2 := hG.R2
  refine RQ_no7 (F := E) (x := x) ?_
  simp (disch := omega) only [n32_id, zg_pos, if_pos, if_neg, zu_same, zu_ne, if_true, if_false, ne_eq, not_true_eq_false, not_false_eq_true, true_or, or_true, true_and, and_true, zg_true, fa_b_f, fa_b_t, L299_0, L299_k1, L299_k7, L299_k12, L299_k25, T177, T214f hR2 hG.h14, T298n, L178_0]
theorem Q299m (hG : zG V E p) {s x n : Int} (h1 : 0 ≤ s) (h2 : s < ((V (3)).val : Int)) (b2 : -2147483648 ≤ x ∧ x < 2147483648) (b3 : -2147483648 ≤ n ∧ n < 2147483648) (h : (x < 0 ∨ 65536 < x) ∨ n < 1 ∨ 90 < n) : ∃ F, zf_ev X (d + 4) 299 (0, [vR 60, vI s, vI x, vI n, vJ, vJ, vJ], [], zH t p q E) = some (some [vI (-1)], zH t p q F) ∧ F 60 11 = 2 ∧ F 60 0 = 0 ∧ zFM E F := by
  obtain ⟨hV, -, h142⟩ := hG.yes (by omega)
  have hR2 := hG.R2
  refine RQ_no7 (F := E) (x := x) ?_
  simp (disch := omega) only [n32_id, zg_pos, if_pos, if_neg, zu_same, zu_ne, if_true, if_false, ne_eq, not_true_eq_false, not_false_eq_true, true_or, or_true, true_and, and_true, zg_true, fa_b_f, fa_b_t, L299_0, L299_k1, L299_k7, L299_k12, L299_k25, T177, T214t hR2 h142, T298f, L178_0]
theorem Q300 (hG : zG V E p) {x n : Int} (h2 : 0 < ((V (3)).val : Int)) (h3 : 0 ≤ x) (h4 : x ≤ 65536) (h5 : 1 ≤ n) (h6 : n ≤ 90) : ∃ F, zf_ev X (d + 4) 300 (0, [vR 60, vI x, vI n, vJ, vJ, vJ], [], zH t p q E) = some (some [vI (sp_many (sp_s2 V) (sp_sx V) n.toNat x)], zH t p q F) ∧ F 60 11 = 0 ∧ F 60 0 = 0 ∧ zFM E F := by
  obtain ⟨hV, -, h142⟩ := hG.yes (by omega)
  have hk := hV.spks
  have hR2 := hG.R2
  obtain ⟨F, f1, f2⟩ := T300_loop (X := X) (d := d) (t := t) (p := p) (q := q) hV (n := n) (j1 := vI x) (j3 := vI 0) rfl (by omega) n.toNat 0 x 0 (zu (zg0 E) 60 37 x) hR2.u37 zu_same (by omega) (by omega) (by omega)
  have hf : zFM (zg0 E) F := zFM.u37.tr (fun a b g1 g2 => f2 a b (by omega) (by omega) (by omega) (by omega) (by omega))
  refine ⟨F, ?_, by rw [f2 _ _ (by omega) (by omega) (by omega) (by omega) (by omega), zu_ne (by omega)]; rfl, by rw [f2 _ _ (by omega) (by omega) (by omega) (by omega) (by omega), zu_ne (by omega)]; rfl, zFM.g0.tr hf⟩
  simp (disch := omega) only [n32_id, zg_pos, if_pos, if_neg, zu_same, zu_ne, if_true, if_false, ne_eq, not_true_eq_false, not_false_eq_true, true_or, or_true, true_and, and_true, zg_true, fa_b_f, fa_b_t, L300_0, L300_k1, L300_k11, L300_k21, T177, h142, T298t]
  rw [f1, Int.zero_add]
theorem Q300n (hG : zG V E p) {x n : Int} (h : ((V (3)).val : Int) ≤ 0) : ∃ F, zf_ev X (d + 4) 300 (0, [vR 60, vI x, vI n, vJ, vJ, vJ], [], zH t p q E) = some (some [vI (-1)], zH t p q F) ∧ F 60 11 = 1 ∧ F 60 0 = 0 ∧ zFM E F := by
  have h142 := hG.not h
  refine RQ_no7 (F := E) (x := x) ?_
  simp (disch := omega) only [n32_id, zg_pos, if_pos, if_neg, zu_same, zu_ne, if_true, if_false, ne_eq, not_true_eq_false, not_false_eq_true, true_or, or_true, true_and, and_true, zg_true, fa_b_f, fa_b_t, L300_0, L300_k1, L300_k11, L300_k21, T177, h142, T298n, L178_0]
theorem Q300m (hG : zG V E p) {x n : Int} (h2 : 0 < ((V (3)).val : Int)) (b2 : -2147483648 ≤ x ∧ x < 2147483648) (b3 : -2147483648 ≤ n ∧ n < 2147483648) (h : (x < 0 ∨ 65536 < x) ∨ n < 1 ∨ 90 < n) : ∃ F, zf_ev X (d + 4) 300 (0, [vR 60, vI x, vI n, vJ, vJ, vJ], [], zH t p q E) = some (some [vI (-1)], zH t p q F) ∧ F 60 11 = 2 ∧ F 60 0 = 0 ∧ zFM E F := by
  obtain ⟨hV, -, h142⟩ := hG.yes (by omega)
  refine RQ_no7 (F := E) (x := x) ?_
  simp (disch := omega) only [n32_id, zg_pos, if_pos, if_neg, zu_same, zu_ne, if_true, if_false, ne_eq, not_true_eq_false, not_false_eq_true, true_or, or_true, true_and, and_true, zg_true, fa_b_f, fa_b_t, L300_0, L300_k1, L300_k11, L300_k21, T177, h142, T298f, L178_0]
theorem Q301 (hG : zG V E p) {m x n : Int} (h1 : 0 ≤ m) (h2 : m < ((V (4)).val : Int)) (h3 : 0 ≤ x) (h4 : x ≤ 65536) (h5 : 1 ≤ n) (h6 : n ≤ 90) : ∃ F, zf_ev X (d + 4) 301 (0, [vR 60, vI m, vI x, vI n, vJ, vJ, vJ, vJ], [], zH t p q E) = some (some [vI (sp_many (sp_s3 V m) (sp_sx V) n.toNat x)], zH t p q F) ∧ F 60 11 = 0 ∧ F 60 0 = 0 ∧ zFM E F := by
  obtain ⟨hV, -, h142⟩ := hG.yes (by omega)
  have hR2 := hG.R2
  obtain ⟨F, f1, f2⟩ := T301_loop (X := X) (d := d) (t := t) (p := p) (q := q) hV (m := m) (n := n) (j2 := vI x) (j4 := vI 0) rfl ⟨h1, h2⟩ (by omega) n.toNat 0 x 0 (zu (zg0 E) 60 37 x) vJ hR2.u37 zu_same (by omega) (by omega) (by omega)
  have hf : zFM (zg0 E) F := zFM.u37.tr (fun a b g1 g2 => f2 a b (by omega) (by omega) (by omega) (by omega) (by omega))
  refine ⟨F, ?_, by rw [f2 _ _ (by omega) (by omega) (by omega) (by omega) (by omega), zu_ne (by omega)]; rfl, by rw [f2 _ _ (by omega) (by omega) (by omega) (by omega) (by omega), zu_ne (by omega)]; rfl, zFM.g0.tr hf⟩
  simp (disch := omega) only [n32_id, zg_pos, if_pos, if_neg, zu_same, zu_ne, if_true, if_false, ne_eq, not_true_eq_false, not_false_eq_true, true_or, or_true, true_and, and_true, zg_true, fa_b_f, fa_b_t, L301_0, L301_k1, L301_k7, L301_k12, L301_k25, T177, T215t hR2 h142, T298t]
  rw [f1, Int.zero_add]
theorem Q301n (hG : zG V E p) {m x n : Int} (b1 : -2147483648 ≤ m ∧ m < 2147483648) (h : m < 0 ∨ ((V (4)).val : Int) ≤ m) : ∃ F, zf_ev X (d + 4) 301 (0, [vR 60, vI m, vI x, vI n, vJ, vJ, vJ, vJ], [], zH t p q E) = some (some [vI (-1)], zH t p q F) ∧ F 60 11 = 1 ∧ F 60 0 = 0 ∧ zFM E F := by
  have hR2 := hG.R2
  refine RQ_no7 (F := E) (x := x) ?_
  simp (disch := omega) only [n32_id, zg_pos, if_pos, if_neg, zu_same, zu_ne, if_true, if_false, ne_eq, not_true_eq_false, not_false_eq_true, true_or, or_true, true_and, and_true, zg_true, fa_b_f, fa_b_t, L301_0, L301_k1, L301_k7, L301_k12, L301_k25, T177, T215f hR2 hG.h14, T298n, L178_0]
theorem Q301m (hG : zG V E p) {m x n : Int} (h1 : 0 ≤ m) (h2 : m < ((V (4)).val : Int)) (b2 : -2147483648 ≤ x ∧ x < 2147483648) (b3 : -2147483648 ≤ n ∧ n < 2147483648) (h : (x < 0 ∨ 65536 < x) ∨ n < 1 ∨ 90 < n) : ∃ F, zf_ev X (d + 4) 301 (0, [vR 60, vI m, vI x, vI n, vJ, vJ, vJ, vJ], [], zH t p q E) = some (some [vI (-1)], zH t p q F) ∧ F 60 11 = 2 ∧ F 60 0 = 0 ∧ zFM E F := by
  obtain ⟨hV, -, h142⟩ := hG.yes (by omega)
  have hR2 := hG.R2
  refine RQ_no7 (F := E) (x := x) ?_
  simp (disch := omega) only [n32_id, zg_pos, if_pos, if_neg, zu_same, zu_ne, if_true, if_false, ne_eq, not_true_eq_false, not_false_eq_true, true_or, or_true, true_and, and_true, zg_true, fa_b_f, fa_b_t, L301_0, L301_k1, L301_k7, L301_k12, L301_k25, T177, T215t hR2 h142, T298f, L178_0]
end S2

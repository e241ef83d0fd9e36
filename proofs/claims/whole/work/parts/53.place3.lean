/-! the reference's places; games -/
section P3
variable {X : Nat × (Nat → Int)} {d : Nat} {t : List (Nat × Nat)} {p q : Nat} {E : Nat → Int → Int} {V : Int → Fin 65537} {C R : Int → Int} {o : Nat}
theorem T265_loop (hR : zR V E) (hV : zV V) {c r but : Int} (hc : -2147483648 ≤ c ∧ c < 2147483648) (hr : -2147483648 ≤ r ∧ r < 2147483648) (hb : -1 ≤ but ∧ but < 4) : ∀ (k : Nat) (i : Int) (b : Bool), 0 ≤ i → i + k = ((V (3)).val : Int) → zf_ev X (d + 1) 265 (11, [vR 60, vI c, vI r, vI but, vI (fa_b b), vI i], [], zH t p q E) = some (some [vI (fa_b (b || fa_any (fun s => decide (s ≠ but) && (decide (sp_C V s = c) && decide (sp_R V s = r))) k i))], zH t p q E) := by
  have hk := hV.spks
  intro k
  induction k with
  | zero =>
    intro i b h1 h2
    rw [L265_11]
    have e : fa_any (fun s => decide (s ≠ but) && (decide (sp_C V s = c) && decide (sp_R V s = r))) 0 i = false := rfl
    rw [e, Bool.or_false]
    cases b
    · simp (disch := omega) only [n32_id, zg_pos, if_pos, if_neg, zu_same, zu_ne, if_true, if_false, ne_eq, not_true_eq_false, not_false_eq_true, true_or, or_true, true_and, and_true, zg_true, fa_b_f, fa_b_t, hR.r]
    · simp (disch := omega) only [n32_id, zg_pos, if_pos, if_neg, zu_same, zu_ne, if_true, if_false, ne_eq, not_true_eq_false, not_false_eq_true, true_or, or_true, true_and, and_true, zg_true, fa_b_f, fa_b_t, hR.r]
  | succ k ih =>
    intro i b h1 h2
    have i0 := ih (i + 1) false (by omega) (by omega)
    have i1 := ih (i + 1) true (by omega) (by omega)
    rw [fa_b_f] at i0
    rw [fa_b_t] at i1
    have e : fa_any (fun s => decide (s ≠ but) && (decide (sp_C V s = c) && decide (sp_R V s = r))) (k + 1) i = ((decide (i ≠ but) && (decide (sp_C V i = c) && decide (sp_R V i = r))) || fa_any (fun s => decide (s ≠ but) && (decide (sp_C V s = c) && decide (sp_R V s = r))) k (i + 1)) := rfl
    have e1 : ((V (200 + (7 + 2 * i))).val : Int) = sp_C V i := rfl
    have e2 : ((V (200 + (7 + 2 * i + 1))).val : Int) = sp_R V i := rfl
    have b1 : 0 ≤ sp_C V i ∧ sp_C V i ≤ 65536 := by unfold sp_C; omega
    have b2 : 0 ≤ sp_R V i ∧ sp_R V i ≤ 65536 := by unfold sp_R; omega
    rw [L265_11, e]
    cases b
    · by_cases g1 : i = but
      · simp (disch := omega) only [n32_id, zg_pos, if_pos, if_neg, zu_same, zu_ne, if_true, if_false, ne_eq, not_true_eq_false, not_false_eq_true, true_or, or_true, true_and, and_true, zg_true, fa_b_f, fa_b_t, hR.r]
        rw [i0]
        simp [g1]
      · by_cases g2 : sp_C V i = c
        · by_cases g3 : sp_R V i = r
          · simp (disch := omega) only [n32_id, zg_pos, if_pos, if_neg, zu_same, zu_ne, if_true, if_false, ne_eq, not_true_eq_false, not_false_eq_true, true_or, or_true, true_and, and_true, zg_true, fa_b_f, fa_b_t, hR.r, hR.s, e1, e2]
            rw [i1]
            simp [g1, g2, g3]
          · simp (disch := omega) only [n32_id, zg_pos, if_pos, if_neg, zu_same, zu_ne, if_true, if_false, ne_eq, not_true_eq_false, not_false_eq_true, true_or, or_true, true_and, and_true, zg_true, fa_b_f, fa_b_t, hR.r, hR.s, e1, e2]
            rw [i0]
            simp [g1, g2, g3]
        · simp (disch := omega) only [n32_id, zg_pos, if_pos, if_neg, zu_same, zu_ne, if_true, if_false, ne_eq, not_true_eq_false, not_false_eq_true, true_or, or_true, true_and, and_true, zg_true, fa_b_f, fa_b_t, hR.r, hR.s, e1, e2]
          rw [i0]
          simp [g1, g2]
    · simp (disch := omega) only [n32_id, zg_pos, if_pos, if_neg, zu_same, zu_ne, if_true, if_false, ne_eq, not_true_eq_false, not_false_eq_true, true_or, or_true, true_and, and_true, zg_true, fa_b_f, fa_b_t, hR.r]
      rw [i1]
      simp
theorem T265 (hR : zR V E) (hV : zV V) {c r but : Int} (hc : -2147483648 ≤ c ∧ c < 2147483648) (hr : -2147483648 ≤ r ∧ r < 2147483648) (hb : -1 ≤ but ∧ but < 4) : zf_ev X (d + 1) 265 (0, [vR 60, vI c, vI r, vI but, vJ, vJ], [], zH t p q E) = some (some [vI (fa_b (sp_taken V c r but))], zH t p q E) := by
  rw [L265_0, T229 hR hV hc hr, L265_k3, T265_loop hR hV hc hr hb (((V (3)).val : Int)).toNat 0 _ (by omega) (by omega)]
  rfl
/-- all throw -/
theorem T236a (hV : zV V) (hR : zR V E) (hS : zS C R ((V (3)).val : Int) E) : ∃ F, zf_ev X (d + 4) 236 (0, [vR 60, vI (zm_ishl 1 ((V (4)).val : Int) - 1), vJ, vJ], [], zH t p q E) = some (some [], zH t p q F) ∧ (∀ a9 b9, a9 ≠ 68 → a9 ≠ 70 → F a9 b9 = E a9 b9) ∧ ∀ s, 0 ≤ s → s < 4 → F 70 s = sp_cn (sp_vote V C R) ((V (4)).val : Int) s := by
  have hm := hV.mems
  obtain ⟨F, f1, f2, f3⟩ := T236 (X := X) (d := d) (t := t) (p := p) (q := q) (S := zm_ishl 1 ((V (4)).val : Int) - 1) hV hR hS
  refine ⟨F, f1, f2, fun s a b => ?_⟩
  rw [f3 s a b]
  refine sp_cn_c (fun j g1 g2 => ?_)
  unfold sp_some
  rw [sp_bit_all (by omega) hm g1 g2]
  simp
theorem T266_in (hV : zV V) (hD : zDs V) {s r : Int} (hs : 0 ≤ s ∧ s < ((V (3)).val : Int)) (hr : 1 ≤ r ∧ r ≤ ((V (1)).val : Int)) : ∀ (k : Nat) (i : Int) (a : Int × Int) (E : Nat → Int → Int), zR V E → E 60 29 = a.2 → 0 ≤ i → i + k = ((V (0)).val : Int) → -1 ≤ a.2 → a.2 ≤ 6 →
    ∃ F j4, zf_ev X (d + 5) 266 (23, [vR 60, vI s, vI a.1, vI r, vI i], [], zH t p q E) = zf_ev X (d + 5) 266 (10, [vR 60, vI s, vI (sp_in (fun c => sp_pw V s c r) (fun c => 10 * c + r) k i a).1, vI (r + 1), j4], [], zH t p q F) ∧ F 60 29 = (sp_in (fun c => sp_pw V s c r) (fun c => 10 * c + r) k i a).2 ∧ (∀ a9 b9, (a9 ≠ 60 ∨ b9 ≠ 29) → a9 ≠ 68 → a9 ≠ 69 → a9 ≠ 70 → F a9 b9 = E a9 b9) := by
  have hcl := hV.cols
  have hk := hV.spks
  have hrw := hV.rows
  intro k
  induction k with
  | zero =>
    intro i a E hR hB h1 h2 h3 h4
    refine ⟨E, vI i, ?_, hB, fun a b _ _ _ _ => rfl⟩
    rw [L266_23]
    simp (disch := omega) only [n32_id, zg_pos, if_pos, if_neg, zu_same, zu_ne, if_true, if_false, ne_eq, not_true_eq_false, not_false_eq_true, true_or, or_true, true_and, and_true, zg_true, fa_b_f, fa_b_t, hR.r]
    rfl
  | succ k ih =>
    intro i a E hR hB h1 h2 h3 h4
    have hw := sp_pw_r hV (s := s) (c := i) (r := r)
    have hv := sp_pv_r hV (s := s) (c := i) (r := r)
    have et := sp_taken_may hV hD (c := i) (r := r) hs.1 hs.2
    unfold sp_in
    cases hm : sp_may V s i r
    · rw [hm] at et
      have ew : sp_pw V s i r = -1 := by unfold sp_pw; rw [hm]; rfl
      obtain ⟨F, j4, f1, f2, f3⟩ := ih (i + 1) a E hR hB (by omega) (by omega) h3 h4
      refine ⟨F, j4, ?_, ?_, f3⟩
      · rw [L266_23]
        simp (disch := omega) only [n32_id, zg_pos, if_pos, if_neg, zu_same, zu_ne, if_true, if_false, ne_eq, not_true_eq_false, not_false_eq_true, true_or, or_true, true_and, and_true, zg_true, fa_b_f, fa_b_t, hR.r]
        rw [T265 hR hV (by omega) (by omega) (by omega), L266_k39, fa_b_id, et]
        simp (disch := omega) only [n32_id, zg_pos, if_pos, if_neg, zu_same, zu_ne, if_true, if_false, ne_eq, not_true_eq_false, not_false_eq_true, true_or, or_true, true_and, and_true, zg_true, fa_b_f, fa_b_t, Bool.not_false, f1, ew]
      · simp only [ew]
        rw [if_neg (by omega)]
        exact f2
    · rw [hm] at et
      have ew : sp_pw V s i r = sp_pv V s i r := by unfold sp_pw; rw [hm]; rfl
      have hR1 : zR V (zu (zu (zP V E) 69 (2 * s) i) 69 (2 * s + 1) r) := hR.P.fr (fun b => by rw [zu_ne (by omega), zu_ne (by omega)]) (fun b => by rw [zu_ne (by omega), zu_ne (by omega)])
      have hS1 : zS (sp_mv (sp_C V) s i) (sp_mv (sp_R V) s r) ((V (3)).val : Int) (zu (zu (zP V E) 69 (2 * s) i) 69 (2 * s + 1) r) := fun x u v => by
        obtain ⟨⟨q1, q2⟩, q3, q4⟩ := zS_P (E := E) hV x u v
        by_cases g : x = s
        · subst g
          refine ⟨⟨?_, ?_⟩, ?_, ?_⟩
          · rw [zu_ne (by omega), zu_same, sp_mv_s]
          · rw [zu_same, sp_mv_s]
          · rw [sp_mv_s]; omega
          · rw [sp_mv_s]; omega
        · refine ⟨⟨?_, ?_⟩, ?_, ?_⟩
          · rw [zu_ne (by omega), zu_ne (by omega), sp_mv_n g, q1]
          · rw [zu_ne (by omega), zu_ne (by omega), sp_mv_n g, q2]
          · rw [sp_mv_n g]; exact q3
          · rw [sp_mv_n g]; exact q4
      obtain ⟨G, g1, g2, g3⟩ := T236a (X := X) (d := d) (t := t) (p := p) (q := q) hV hR1 hS1
      have e70 : G 70 s = sp_pv V s i r := g3 s hs.1 (by omega)
      have e29 : G 60 29 = a.2 := by rw [g2 _ _ (by omega) (by omega), zu_ne (by omega), zu_ne (by omega), zP_ne (by omega)]; exact hB
      have hR2 : zR V G := hR1.fr (fun b => g2 _ _ (by omega) (by omega)) (fun b => g2 _ _ (by omega) (by omega))
      have hfr : ∀ x y, (x ≠ 60 ∨ y ≠ 29) → x ≠ 68 → x ≠ 69 → x ≠ 70 → G x y = E x y := fun x y y1 y2 y3 y4 => by rw [g2 x y y2 y4, zu_ne (Or.inl y3), zu_ne (Or.inl y3), zP_ne y3]
      by_cases gw : a.2 < sp_pv V s i r
      · obtain ⟨F, j4, f1, f2, f3⟩ := ih (i + 1) (10 * i + r, sp_pv V s i r) (zu G 60 29 (sp_pv V s i r)) (hR2.fr (fun b => zu_ne (by omega)) (fun b => zu_ne (by omega))) zu_same (by omega) (by omega) (by omega) (by omega)
        refine ⟨F, j4, ?_, ?_, fun x y y1 y2 y3 y4 => by rw [f3 x y y1 y2 y3 y4, zu_ne y1, hfr x y y1 y2 y3 y4]⟩
        · rw [L266_23]
          simp (disch := omega) only [n32_id, zg_pos, if_pos, if_neg, zu_same, zu_ne, if_true, if_false, ne_eq, not_true_eq_false, not_false_eq_true, true_or, or_true, true_and, and_true, zg_true, fa_b_f, fa_b_t, hR.r]
          rw [T265 hR hV (by omega) (by omega) (by omega), L266_k39, fa_b_id, et]
          simp (disch := omega) only [n32_id, zg_pos, if_pos, if_neg, zu_same, zu_ne, if_true, if_false, ne_eq, not_true_eq_false, not_false_eq_true, true_or, or_true, true_and, and_true, zg_true, fa_b_f, fa_b_t, Bool.not_true, T230 hR]
          rw [L266_k49]
          simp (disch := omega) only [n32_id, zg_pos, if_pos, if_neg, zu_same, zu_ne, if_true, if_false, ne_eq, not_true_eq_false, not_false_eq_true, true_or, or_true, true_and, and_true, zg_true, fa_b_f, fa_b_t, T237 hR1]
          rw [L266_k75, g1, L266_k78]
          simp (disch := omega) only [n32_id, zg_pos, if_pos, if_neg, zu_same, zu_ne, if_true, if_false, ne_eq, not_true_eq_false, not_false_eq_true, true_or, or_true, true_and, and_true, zg_true, fa_b_f, fa_b_t, e70, e29, f1, ew]
        · simp only [ew]
          rw [if_pos gw]
          exact f2
      · obtain ⟨F, j4, f1, f2, f3⟩ := ih (i + 1) a G hR2 e29 (by omega) (by omega) h3 h4
        refine ⟨F, j4, ?_, ?_, fun x y y1 y2 y3 y4 => by rw [f3 x y y1 y2 y3 y4, hfr x y y1 y2 y3 y4]⟩
        · rw [L266_23]
          simp (disch := omega) only [n32_id, zg_pos, if_pos, if_neg, zu_same, zu_ne, if_true, if_false, ne_eq, not_true_eq_false, not_false_eq_true, true_or, or_true, true_and, and_true, zg_true, fa_b_f, fa_b_t, hR.r]
          rw [T265 hR hV (by omega) (by omega) (by omega), L266_k39, fa_b_id, et]
          simp (disch := omega) only [n32_id, zg_pos, if_pos, if_neg, zu_same, zu_ne, if_true, if_false, ne_eq, not_true_eq_false, not_false_eq_true, true_or, or_true, true_and, and_true, zg_true, fa_b_f, fa_b_t, Bool.not_true, T230 hR]
          rw [L266_k49]
          simp (disch := omega) only [n32_id, zg_pos, if_pos, if_neg, zu_same, zu_ne, if_true, if_false, ne_eq, not_true_eq_false, not_false_eq_true, true_or, or_true, true_and, and_true, zg_true, fa_b_f, fa_b_t, T237 hR1]
          rw [L266_k75, g1, L266_k78]
          simp (disch := omega) only [n32_id, zg_pos, if_pos, if_neg, zu_same, zu_ne, if_true, if_false, ne_eq, not_true_eq_false, not_false_eq_true, true_or, or_true, true_and, and_true, zg_true, fa_b_f, fa_b_t, e70, e29, f1, ew]
        · simp only [ew]
          rw [if_neg gw]
          exact f2
theorem T266_out (hV : zV V) (hD : zDs V) {s : Int} (hs : 0 ≤ s ∧ s < ((V (3)).val : Int)) : ∀ (k : Nat) (i : Int) (a : Int × Int) (E : Nat → Int → Int) (j4 : ZV), zR V E → E 60 29 = a.2 → 1 ≤ i → i + k = ((V (1)).val : Int) + 1 → -1 ≤ a.2 → a.2 ≤ 6 →
    ∃ F, zf_ev X (d + 5) 266 (10, [vR 60, vI s, vI a.1, vI i, j4], [], zH t p q E) = some (some [vI ((sp_out (fun r c => sp_pw V s c r) (fun r c => 10 * c + r) (((V (0)).val : Int)).toNat 0 k i a).1)], zH t p q F) ∧ F 60 29 = (sp_out (fun r c => sp_pw V s c r) (fun r c => 10 * c + r) (((V (0)).val : Int)).toNat 0 k i a).2 ∧ (∀ a9 b9, (a9 ≠ 60 ∨ b9 ≠ 29) → a9 ≠ 68 → a9 ≠ 69 → a9 ≠ 70 → F a9 b9 = E a9 b9) := by
  have hrw := hV.rows
  have hcl := hV.cols
  intro k
  induction k with
  | zero =>
    intro i a E j4 hR hB h1 h2 h3 h4
    refine ⟨E, ?_, hB, fun a b _ _ _ _ => rfl⟩
    rw [L266_10]
    simp (disch := omega) only [n32_id, zg_pos, if_pos, if_neg, zu_same, zu_ne, if_true, if_false, ne_eq, not_true_eq_false, not_false_eq_true, true_or, or_true, true_and, and_true, zg_true, fa_b_f, fa_b_t, hR.r]
    rfl
  | succ k ih =>
    intro i a E j4 hR hB h1 h2 h3 h4
    obtain ⟨F, a4, f1, f2, f3⟩ := T266_in (X := X) (d := d) (t := t) (p := p) (q := q) hV hD hs (r := i) (by omega) (((V (0)).val : Int)).toNat 0 a E hR hB (by omega) (by omega) h3 h4
    have b := sp_in_r (w := fun c => sp_pw V s c i) (l := fun c => 10 * c + i) (lo := -1) (hi := 6) (((V (0)).val : Int)).toNat 0 a (fun j _ _ => sp_pw_r hV) h3 h4
    obtain ⟨G, g1, g2, g3⟩ := ih (i + 1) _ F a4 (hR.fr (fun b => f3 _ _ (by omega) (by omega) (by omega) (by omega)) (fun b => f3 _ _ (by omega) (by omega) (by omega) (by omega))) f2 (by omega) (by omega) b.1 b.2
    refine ⟨G, ?_, g2, fun a b y1 y2 y3 y4 => by rw [g3 a b y1 y2 y3 y4, f3 a b y1 y2 y3 y4]⟩
    rw [L266_10]
    simp (disch := omega) only [n32_id, zg_pos, if_pos, if_neg, zu_same, zu_ne, if_true, if_false, ne_eq, not_true_eq_false, not_false_eq_true, true_or, or_true, true_and, and_true, zg_true, fa_b_f, fa_b_t, hR.r, f1]
    exact g1
theorem T266 (hR : zR V E) (hV : zV V) (hD : zDs V) {s : Int} (hs : 0 ≤ s ∧ s < ((V (3)).val : Int)) : ∃ F, zf_ev X (d + 5) 266 (0, [vR 60, vI s, vJ, vJ, vJ], [], zH t p q E) = some (some [vI ((sp_place V s).1)], zH t p q F) ∧ F 60 29 = (sp_place V s).2 ∧ (∀ a9 b9, (a9 ≠ 60 ∨ b9 ≠ 29) → a9 ≠ 68 → a9 ≠ 69 → a9 ≠ 70 → F a9 b9 = E a9 b9) := by
  have hrw := hV.rows
  obtain ⟨F, f1, f2, f3⟩ := T266_out (X := X) (d := d) (t := t) (p := p) (q := q) hV hD hs (((V (1)).val : Int)).toNat 1 (-2, -1) (zu E 60 29 (-1)) vJ (hR.fr (fun b => zu_ne (by omega)) (fun b => zu_ne (by omega))) zu_same (by omega) (by omega) (by decide) (by decide)
  refine ⟨F, ?_, f2, fun a b y1 y2 y3 y4 => by rw [f3 a b y1 y2 y3 y4, zu_ne y1]⟩
  rw [L266_0]
  exact f1
theorem Q267 (hG : zG V E p) (hD : zDs V) {s : Int} (h3 : 0 ≤ s) (h4 : s < ((V (3)).val : Int)) : ∃ F, zf_ev X (d + 6) 267 (0, [vR 60, vI s], [], zH t p q E) = some (some [vI ((sp_place V s).1)], zH t p q F) ∧ F 60 11 = 0 ∧ F 60 0 = 0 ∧ zFM E F := by
  obtain ⟨hV, -, h142⟩ := hG.yes (by omega)
  have hR2 := hG.R2
  obtain ⟨F, f1, f2, f3⟩ := T266 (X := X) (d := d) (t := t) (p := p) (q := q) hR2 hV hD ⟨h3, h4⟩
  have hf : zFM (zg0 E) F := fun a b g1 g2 => f3 a b (by omega) (by omega) (by omega) (by omega)
  refine ⟨F, ?_, by rw [f3 _ _ (by omega) (by omega) (by omega) (by omega)]; rfl, by rw [f3 _ _ (by omega) (by omega) (by omega) (by omega)]; rfl, zFM.g0.tr hf⟩
  simp (disch := omega) only [n32_id, zg_pos, if_pos, if_neg, zu_same, zu_ne, if_true, if_false, ne_eq, not_true_eq_false, not_false_eq_true, true_or, or_true, true_and, and_true, zg_true, fa_b_f, fa_b_t, L267_0, L267_k1, L267_k6, L267_k14, L267_k22, T177, T214t hR2 h142, f1]
theorem Q267n (hG : zG V E p) {s : Int} (h1 : -2147483648 ≤ s ∧ s < 2147483648) (h : s < 0 ∨ ((V (3)).val : Int) ≤ s) : ∃ F, zf_ev X (d + 6) 267 (0, [vR 60, vI s], [], zH t p q E) = some (some [vI (-1)], zH t p q F) ∧ F 60 11 = 1 ∧ F 60 0 = 0 ∧ zFM E F := by
  have hR2 := hG.R2
  refine RQ_no (F := E) ?_
  simp (disch := omega) only [n32_id, zg_pos, if_pos, if_neg, zu_same, zu_ne, if_true, if_false, ne_eq, not_true_eq_false, not_false_eq_true, true_or, or_true, true_and, and_true, zg_true, fa_b_f, fa_b_t, L267_0, L267_k1, L267_k6, L267_k14, L267_k22, T177, T214f hR2 hG.h14, L178_0]
theorem Q268 (hG : zG V E p) (hD : zDs V) {s : Int} (h3 : 0 ≤ s) (h4 : s < ((V (3)).val : Int)) : ∃ F, zf_ev X (d + 6) 268 (0, [vR 60, vI s], [], zH t p q E) = some (some [vI ((sp_place V s).2)], zH t p q F) ∧ F 60 11 = 0 ∧ F 60 0 = 0 ∧ zFM E F := by
  obtain ⟨hV, -, h142⟩ := hG.yes (by omega)
  have hR2 := hG.R2
  obtain ⟨F, f1, f2, f3⟩ := T266 (X := X) (d := d) (t := t) (p := p) (q := q) hR2 hV hD ⟨h3, h4⟩
  have hf : zFM (zg0 E) F := fun a b g1 g2 => f3 a b (by omega) (by omega) (by omega) (by omega)
  refine ⟨F, ?_, by rw [f3 _ _ (by omega) (by omega) (by omega) (by omega)]; rfl, by rw [f3 _ _ (by omega) (by omega) (by omega) (by omega)]; rfl, zFM.g0.tr hf⟩
  simp (disch := omega) only [n32_id, zg_pos, if_pos, if_neg, zu_same, zu_ne, if_true, if_false, ne_eq, not_true_eq_false, not_false_eq_true, true_or, or_true, true_and, and_true, zg_true, fa_b_f, fa_b_t, L268_0, L268_k1, L268_k6, L268_k14, L268_k20, T177, T214t hR2 h142, f1, f2]
theorem Q268n (hG : zG V E p) {s : Int} (h1 : -2147483648 ≤ s ∧ s < 2147483648) (h : s < 0 ∨ ((V (3)).val : Int) ≤ s) : ∃ F, zf_ev X (d + 6) 268 (0, [vR 60, vI s], [], zH t p q E) = some (some [vI (-1)], zH t p q F) ∧ F 60 11 = 1 ∧ F 60 0 = 0 ∧ zFM E F := by
  have hR2 := hG.R2
  refine RQ_no (F := E) ?_
  simp (disch := omega) only [n32_id, zg_pos, if_pos, if_neg, zu_same, zu_ne, if_true, if_false, ne_eq, not_true_eq_false, not_false_eq_true, true_or, or_true, true_and, and_true, zg_true, fa_b_f, fa_b_t, L268_0, L268_k1, L268_k6, L268_k14, L268_k20, T177, T214f hR2 hG.h14, L178_0]
/-! two who stand against each other -/
theorem T173t (hp : zo p) (hC : zC V E p) (hV : zV V) {s x : Int} (h1 : 0 ≤ s) (h2 : s < ((V (3)).val : Int)) (h3 : 0 ≤ x) (h4 : x < ((V (3)).val : Int)) (h5 : s ≠ x) : zf_ev X (d + 1) 173 (0, [vR 0, vI s, vI x], [], zH t p q E) = some (some [vI 1], zH t p q E) := by
  have hk := hV.spks
  simp (disch := omega) only [n32_id, zg_pos, if_pos, if_neg, zu_same, zu_ne, if_true, if_false, ne_eq, not_true_eq_false, not_false_eq_true, true_or, or_true, true_and, and_true, zg_true, fa_b_f, fa_b_t, L173_0 hp, L173_k10 hp, L173_k21, T22t hp hC]
theorem T173f (hp : zo p) (hC : zC V E p) {s x : Int} (h1 : -2147483648 ≤ s ∧ s < 2147483648) (h2 : -2147483648 ≤ x ∧ x < 2147483648) (h : (s < 0 ∨ ((V (3)).val : Int) ≤ s) ∨ (x < 0 ∨ ((V (3)).val : Int) ≤ x) ∨ s = x) : zf_ev X (d + 1) 173 (0, [vR 0, vI s, vI x], [], zH t p q E) = some (some [vI 0], zH t p q E) := by
  by_cases g : s = x
  · simp (disch := omega) only [n32_id, zg_pos, if_pos, if_neg, zu_same, zu_ne, if_true, if_false, ne_eq, not_true_eq_false, not_false_eq_true, true_or, or_true, true_and, and_true, zg_true, fa_b_f, fa_b_t, L173_0 hp, L173_k10 hp, L173_k21]
  · by_cases g1 : s < 0 ∨ ((V (3)).val : Int) ≤ s
    · simp (disch := omega) only [n32_id, zg_pos, if_pos, if_neg, zu_same, zu_ne, if_true, if_false, ne_eq, not_true_eq_false, not_false_eq_true, true_or, or_true, true_and, and_true, zg_true, fa_b_f, fa_b_t, L173_0 hp, L173_k10 hp, L173_k21, T22f hp hC]
    · simp (disch := omega) only [n32_id, zg_pos, if_pos, if_neg, zu_same, zu_ne, if_true, if_false, ne_eq, not_true_eq_false, not_false_eq_true, true_or, or_true, true_and, and_true, zg_true, fa_b_f, fa_b_t, L173_0 hp, L173_k10 hp, L173_k21, T22t hp hC, T22f hp hC]
theorem T270t (hR : zR V E) (h14 : E 60 14 = 1) (hV : zV V) {s x : Int} (h1 : 0 ≤ s) (h2 : s < ((V (3)).val : Int)) (h3 : 0 ≤ x) (h4 : x < ((V (3)).val : Int)) (h5 : s ≠ x) : zf_ev X (d + 2) 270 (0, [vR 60, vI s, vI x], [], zH t p q E) = some (some [vI 1], zH t p q E) := by
  have hk := hV.spks
  simp (disch := omega) only [n32_id, zg_pos, if_pos, if_neg, zu_same, zu_ne, if_true, if_false, ne_eq, not_true_eq_false, not_false_eq_true, true_or, or_true, true_and, and_true, zg_true, fa_b_f, fa_b_t, L270_0, L270_k2, L270_k10, T214t hR h14]
theorem T270f (hG : zR V E) (h14 : E 60 14 = 1 ∨ E 60 14 = 0 ∧ ((V (3)).val : Int) = 0) {s x : Int} (h1 : -2147483648 ≤ s ∧ s < 2147483648) (h2 : -2147483648 ≤ x ∧ x < 2147483648) (h : (s < 0 ∨ ((V (3)).val : Int) ≤ s) ∨ (x < 0 ∨ ((V (3)).val : Int) ≤ x) ∨ s = x) : zf_ev X (d + 2) 270 (0, [vR 60, vI s, vI x], [], zH t p q E) = some (some [vI 0], zH t p q E) := by
  have h15 : E 60 14 = 1 ∨ E 60 14 = 0 := by omega
  by_cases g1 : s < 0 ∨ ((V (3)).val : Int) ≤ s
  · simp (disch := omega) only [n32_id, zg_pos, if_pos, if_neg, zu_same, zu_ne, if_true, if_false, ne_eq, not_true_eq_false, not_false_eq_true, true_or, or_true, true_and, and_true, zg_true, fa_b_f, fa_b_t, L270_0, L270_k2, L270_k10, T214f hG h15]
  · have h16 : E 60 14 = 1 := by omega
    by_cases g2 : x < 0 ∨ ((V (3)).val : Int) ≤ x
    · simp (disch := omega) only [n32_id, zg_pos, if_pos, if_neg, zu_same, zu_ne, if_true, if_false, ne_eq, not_true_eq_false, not_false_eq_true, true_or, or_true, true_and, and_true, zg_true, fa_b_f, fa_b_t, L270_0, L270_k2, L270_k10, T214t hG h16, T214f hG h15]
    · simp (disch := omega) only [n32_id, zg_pos, if_pos, if_neg, zu_same, zu_ne, if_true, if_false, ne_eq, not_true_eq_false, not_false_eq_true, true_or, or_true, true_and, and_true, zg_true, fa_b_f, fa_b_t, L270_0, L270_k2, L270_k10, T214t hG h16]
def sp_gC (V : Int → Fin 65537) (s c x e : Int) : Int → Int := sp_mv (sp_mv (sp_C V) s c) x e
def sp_gm (V : Int → Fin 65537) (s c x e y : Int) : Int := sp_cn (sp_vote V (sp_gC V s c x e) (sp_R V)) ((V (4)).val : Int) y
theorem sp_gm_r (hV : zV V) {s c x e y : Int} : 0 ≤ sp_gm V s c x e y ∧ sp_gm V s c x e y ≤ 6 := by
  have hm := hV.mems
  have := sp_cn_r (f := sp_vote V (sp_gC V s c x e) (sp_R V)) (n := ((V (4)).val : Int)) (s := y) (by omega)
  unfold sp_gm
  omega
/-- Places' cells in a game -/
def zGm (V : Int → Fin 65537) (E : Nat → Int → Int) (s x n : Int) : Prop := zGa V E ((V (4)).val : Int) n ∧ E 15 6 = ((V (3)).val : Int) ∧ (∀ y, 0 ≤ y → y < 4 → E 16 (29 + y) = sp_R V y) ∧ (∀ y, 0 ≤ y → y < 4 → y ≠ s → y ≠ x → E 16 (25 + y) = sp_C V y)
theorem T67g (hV : zV V) {s x n c e y : Int} (hg : zGm V E s x n) (hs : 0 ≤ s ∧ s < ((V (3)).val : Int)) (hx : 0 ≤ x ∧ x < ((V (3)).val : Int)) (hsx : s ≠ x) (hc : 0 ≤ c ∧ c < ((V (0)).val : Int)) (he : 0 ≤ e ∧ e < ((V (0)).val : Int)) (h1 : E 16 (25 + s) = c) (h2 : E 16 (25 + x) = e) (hy : 0 ≤ y ∧ y < 4) : zf_ev X (d + 1) 67 (0, [vR 15, vI y, vJ, vJ], [], zH t p q E) = some (some [vI (sp_gm V s c x e y)], zH t p q E) := by
  have hk := hV.spks
  have hcl := hV.cols
  have hrw := hV.rows
  obtain ⟨g1, g2, g3, g4⟩ := hg
  have hb : ∀ z, 0 ≤ z → z < ((V (3)).val : Int) → 0 ≤ sp_C V z ∧ sp_C V z ≤ 1000 ∧ 0 ≤ sp_R V z ∧ sp_R V z ≤ 1000 := fun z u v => by
    have := hV.spk z u v
    unfold sp_C sp_R
    omega
  exact T67 hV g1 g2 hy (fun z u v => by
    have := hb z u v
    unfold sp_gC
    by_cases w1 : z = x
    · rw [w1, sp_mv_s, h2]; omega
    · rw [sp_mv_n w1]
      by_cases w2 : z = s
      · rw [w2, sp_mv_s, h1]; omega
      · rw [sp_mv_n w2, g4 z u (by omega) w2 w1]; omega) (fun z u v => by
    have := hb z u v
    rw [g3 z u (by omega)]; omega)
theorem T269 (hR : zR V E) (hV : zV V) {s x c e : Int} (hs : 0 ≤ s ∧ s < ((V (3)).val : Int)) (hx : 0 ≤ x ∧ x < ((V (3)).val : Int)) (hsx : s ≠ x) (hc : 0 ≤ c ∧ c < ((V (0)).val : Int)) (he : 0 ≤ e ∧ e < ((V (0)).val : Int)) : ∃ F, zf_ev X (d + 5) 269 (0, [vR 60, vI s, vI c, vI x, vI e], [], zH t p q E) = some (some [], zH t p q F) ∧ (∀ a9 b9, a9 ≠ 68 → a9 ≠ 69 → a9 ≠ 70 → F a9 b9 = E a9 b9) ∧ ∀ y, 0 ≤ y → y < 4 → F 70 y = sp_gm V s c x e y := by
  have hk := hV.spks
  have hcl := hV.cols
  have hR1 : zR V (zu (zu (zP V E) 69 (2 * s) c) 69 (2 * x) e) := hR.P.fr (fun b => by rw [zu_ne (by omega), zu_ne (by omega)]) (fun b => by rw [zu_ne (by omega), zu_ne (by omega)])
  have hS1 : zS (sp_gC V s c x e) (sp_R V) ((V (3)).val : Int) (zu (zu (zP V E) 69 (2 * s) c) 69 (2 * x) e) := fun y u v => by
    obtain ⟨⟨q1, q2⟩, q3, q4⟩ := zS_P (E := E) hV y u v
    unfold sp_gC
    refine ⟨⟨?_, ?_⟩, ?_, q4⟩
    · by_cases w1 : y = x
      · rw [w1, sp_mv_s, zu_same]
      · rw [sp_mv_n w1, zu_ne (by omega)]
        by_cases w2 : y = s
        · rw [w2, sp_mv_s, zu_same]
        · rw [sp_mv_n w2, zu_ne (by omega), q1]
    · rw [zu_ne (by omega), zu_ne (by omega), q2]
    · by_cases w1 : y = x
      · rw [w1, sp_mv_s]; omega
      · rw [sp_mv_n w1]
        by_cases w2 : y = s
        · rw [w2, sp_mv_s]; omega
        · rw [sp_mv_n w2]; exact q3
  obtain ⟨G, g1, g2, g3⟩ := T236a (X := X) (d := d) (t := t) (p := p) (q := q) hV hR1 hS1
  refine ⟨G, ?_, fun a b y1 y2 y3 => by rw [g2 a b y1 y3, zu_ne (Or.inl y2), zu_ne (Or.inl y2), zP_ne y2], g3⟩
  rw [L269_0, T230 hR, L269_k1]
  simp (disch := omega) only [n32_id, zg_pos, if_pos, if_neg, zu_same, zu_ne, if_true, if_false, ne_eq, not_true_eq_false, not_false_eq_true, true_or, or_true, true_and, and_true, zg_true, fa_b_f, fa_b_t, T237 hR1]
  rw [L269_k25, g1, L269_k28]
theorem zGm_of {n : Int} (hD : zGa V E ((V (4)).val : Int) n) (h6 : E 15 6 = ((V (3)).val : Int)) (h : ∀ x, 0 ≤ x → x < 4 → E 16 (25 + x) = sp_C V x ∧ E 16 (29 + x) = sp_R V x) {s x : Int} : zGm V E s x n := ⟨hD, h6, fun y u v => (h y u v).2, fun y u v _ _ => (h y u v).1⟩
theorem zGm.u {s x n y c : Int} (h : zGm V E s x n) (hy : y = s ∨ y = x) (h0 : 0 ≤ y ∧ y < 4) : zGm V (zu E 16 (25 + y) c) s x n := by
  obtain ⟨g1, g2, g3, g4⟩ := h
  refine ⟨g1.fr (zu_ne (by omega)) (fun b => zu_ne (by omega)) (fun b => zu_ne (by omega)), (zu_ne (by omega)).trans g2, fun z u v => (zu_ne (by omega)).trans (g3 z u v), fun z u v w1 w2 => (zu_ne (by omega)).trans (g4 z u v w1 w2)⟩
theorem Q139 (hG : zG V E p) {s c x e l : Int} (h1 : 0 ≤ s) (h2 : s < ((V (3)).val : Int)) (h3 : 0 ≤ x) (h4 : x < ((V (3)).val : Int)) (h5 : s ≠ x) (h6 : 0 ≤ c) (h7 : c < ((V (0)).val : Int)) (h8 : 0 ≤ e) (h9 : e < ((V (0)).val : Int)) (hl : -2147483648 ≤ l ∧ l < 2147483648) : ∃ F, zf_ev X (d + 4) 139 (0, [vR 0, vI s, vI c, vI x, vI e, vI l, vJ], [], zH t p q E) = some (some [vI (sp_gm V s c x e (if l = 0 then s else x))], zH t p q F) ∧ F 0 10 = 0 ∧ zFC E F := by
  obtain ⟨hV, -, -⟩ := hG.yes (by omega)
  obtain ⟨hp, hC, hR, -⟩ := hG
  have hk := hV.spks
  have hC2 : zC V (zu E 0 10 0) p := hC.fco hp zFC.u
  obtain ⟨G, n, g1, g2, g3, g4, g5⟩ := T65 (X := X) (d := d) (t := t) (p := p) (q := q) hp hC2 hV
  have hg : zGm V (zu (zu G 16 (25 + s) c) 16 (25 + x) e) s x n := ((zGm_of g2 g3 g4).u (Or.inl rfl) (by omega)).u (Or.inr rfl) (by omega)
  have e1 : zu (zu G 16 (25 + s) c) 16 (25 + x) e 16 (25 + s) = c := by rw [zu_ne (by omega), zu_same]
  have e2 : zu (zu G 16 (25 + s) c) 16 (25 + x) e 16 (25 + x) = e := zu_same
  refine ⟨zu (zu G 16 (25 + s) c) 16 (25 + x) e, ?_, ?_, fun a b y1 y2 y3 y4 => ?_⟩
  · by_cases g : l = 0
    · simp (disch := omega) only [n32_id, zg_pos, if_pos, if_neg, zu_same, zu_ne, if_true, if_false, ne_eq, not_true_eq_false, not_false_eq_true, true_or, or_true, true_and, and_true, zg_true, fa_b_f, fa_b_t, L139_0 hp, L139_k5 hp, L139_k17, L139_k34, L139_k50 hp, L139_k66, L139_k110, T24t hp hC, T173t hp hC hV, T168t, g1, T67g hV hg ⟨h1, h2⟩ ⟨h3, h4⟩ h5 ⟨h6, h7⟩ ⟨h8, h9⟩ e1 e2]
    · simp (disch := omega) only [n32_id, zg_pos, if_pos, if_neg, zu_same, zu_ne, if_true, if_false, ne_eq, not_true_eq_false, not_false_eq_true, true_or, or_true, true_and, and_true, zg_true, fa_b_f, fa_b_t, L139_0 hp, L139_k5 hp, L139_k17, L139_k34, L139_k50 hp, L139_k66, L139_k110, T24t hp hC, T173t hp hC hV, T168t, g1, T67g hV hg ⟨h1, h2⟩ ⟨h3, h4⟩ h5 ⟨h6, h7⟩ ⟨h8, h9⟩ e1 e2]
  · rw [zu_ne (by omega), zu_ne (by omega), g5 _ _ (by omega) (by omega) (by omega) (by omega) (by omega)]
    exact zu_same
  · rw [zu_ne (by omega), zu_ne (by omega), g5 a b (by omega) (by omega) (by omega) (by omega) (by omega), zu_ne y4]
theorem Q139n (hG : zG V E p) {s c x e l : Int} (b1 : -2147483648 ≤ s ∧ s < 2147483648) (b2 : -2147483648 ≤ c ∧ c < 2147483648) (b3 : -2147483648 ≤ x ∧ x < 2147483648) (b4 : -2147483648 ≤ e ∧ e < 2147483648) (h : ((s < 0 ∨ ((V (3)).val : Int) ≤ s) ∨ (x < 0 ∨ ((V (3)).val : Int) ≤ x) ∨ s = x) ∨ (c < 0 ∨ ((V (0)).val : Int) ≤ c) ∨ e < 0 ∨ ((V (0)).val : Int) ≤ e) : ∃ F, zf_ev X (d + 4) 139 (0, [vR 0, vI s, vI c, vI x, vI e, vI l, vJ], [], zH t p q E) = some (some [vI (-1)], zH t p q F) ∧ F 0 10 = 1 ∧ zFC E F := by
  have hG2 := hG
  obtain ⟨hp, hC, hR, -⟩ := hG
  refine ⟨zu E 0 10 1, ?_, zu_same, zFC.u⟩
  by_cases g : (s < 0 ∨ ((V (3)).val : Int) ≤ s) ∨ (x < 0 ∨ ((V (3)).val : Int) ≤ x) ∨ s = x
  · by_cases g1 : c < 0 ∨ ((V (0)).val : Int) ≤ c
    · simp (disch := omega) only [n32_id, zg_pos, if_pos, if_neg, zu_same, zu_ne, if_true, if_false, ne_eq, not_true_eq_false, not_false_eq_true, true_or, or_true, true_and, and_true, zg_true, fa_b_f, fa_b_t, L139_0 hp, L139_k5 hp, L139_k17, L139_k34, L139_k50 hp, L139_k66, L139_k110, T24f hp hC, T173f hp hC, T168f]
    · by_cases g2 : e < 0 ∨ ((V (0)).val : Int) ≤ e
      · simp (disch := omega) only [n32_id, zg_pos, if_pos, if_neg, zu_same, zu_ne, if_true, if_false, ne_eq, not_true_eq_false, not_false_eq_true, true_or, or_true, true_and, and_true, zg_true, fa_b_f, fa_b_t, L139_0 hp, L139_k5 hp, L139_k17, L139_k34, L139_k50 hp, L139_k66, L139_k110, T24t hp hC, T24f hp hC, T173f hp hC, T168f]
      · simp (disch := omega) only [n32_id, zg_pos, if_pos, if_neg, zu_same, zu_ne, if_true, if_false, ne_eq, not_true_eq_false, not_false_eq_true, true_or, or_true, true_and, and_true, zg_true, fa_b_f, fa_b_t, L139_0 hp, L139_k5 hp, L139_k17, L139_k34, L139_k50 hp, L139_k66, L139_k110, T24t hp hC, T173f hp hC, T168f]
  · obtain ⟨hV, -, -⟩ := hG2.yes (by omega)
    by_cases g1 : c < 0 ∨ ((V (0)).val : Int) ≤ c
    · simp (disch := omega) only [n32_id, zg_pos, if_pos, if_neg, zu_same, zu_ne, if_true, if_false, ne_eq, not_true_eq_false, not_false_eq_true, true_or, or_true, true_and, and_true, zg_true, fa_b_f, fa_b_t, L139_0 hp, L139_k5 hp, L139_k17, L139_k34, L139_k50 hp, L139_k66, L139_k110, T24f hp hC, T173t hp hC hV, T168f]
    · simp (disch := omega) only [n32_id, zg_pos, if_pos, if_neg, zu_same, zu_ne, if_true, if_false, ne_eq, not_true_eq_false, not_false_eq_true, true_or, or_true, true_and, and_true, zg_true, fa_b_f, fa_b_t, L139_0 hp, L139_k5 hp, L139_k17, L139_k34, L139_k50 hp, L139_k66, L139_k110, T24t hp hC, T24f hp hC, T173t hp hC hV, T168f]
theorem zG.h15 (hG : zG V E p) : zg0 E 60 14 = 1 ∨ zg0 E 60 14 = 0 ∧ ((V (3)).val : Int) = 0 := by
  obtain ⟨hp, hC, hR, ⟨hV, h14⟩ | ⟨hz, h14⟩⟩ := hG
  · left; rw [zFM.g0.e14]; exact h14
  · right
    rw [zFM.g0.e14]
    exact ⟨h14, (zG.no hz).2.2.2.1⟩
theorem Q271 (hG : zG V E p) {s c x e l : Int} (h1 : 0 ≤ s) (h2 : s < ((V (3)).val : Int)) (h3 : 0 ≤ x) (h4 : x < ((V (3)).val : Int)) (h5 : s ≠ x) (h6 : 0 ≤ c) (h7 : c < ((V (0)).val : Int)) (h8 : 0 ≤ e) (h9 : e < ((V (0)).val : Int)) (hl : -2147483648 ≤ l ∧ l < 2147483648) : ∃ F, zf_ev X (d + 6) 271 (0, [vR 60, vI s, vI c, vI x, vI e, vI l], [], zH t p q E) = some (some [vI (sp_gm V s c x e (if l = 0 then s else x))], zH t p q F) ∧ F 60 11 = 0 ∧ F 60 0 = 0 ∧ zFM E F := by
  obtain ⟨hV, -, h142⟩ := hG.yes (by omega)
  have hk := hV.spks
  have hR2 := hG.R2
  obtain ⟨F, f1, f2, f3⟩ := T269 (X := X) (d := d) (t := t) (p := p) (q := q) hR2 hV ⟨h1, h2⟩ ⟨h3, h4⟩ h5 ⟨h6, h7⟩ ⟨h8, h9⟩
  have hf : zFM (zg0 E) F := fun a b g1 g2 => f2 a b (by omega) (by omega) (by omega)
  refine ⟨F, ?_, by rw [f2 _ _ (by omega) (by omega) (by omega)]; rfl, by rw [f2 _ _ (by omega) (by omega) (by omega)]; rfl, zFM.g0.tr hf⟩
  by_cases g : l = 0
  · simp (disch := omega) only [n32_id, zg_pos, if_pos, if_neg, zu_same, zu_ne, if_true, if_false, ne_eq, not_true_eq_false, not_false_eq_true, true_or, or_true, true_and, and_true, zg_true, fa_b_f, fa_b_t, L271_0, L271_k1, L271_k7, L271_k15, L271_k24, L271_k32, L271_k42, T177, T270t hR2 h142 hV, T216t hR2 h142, f1, f3]
  · simp (disch := omega) only [n32_id, zg_pos, if_pos, if_neg, zu_same, zu_ne, if_true, if_false, ne_eq, not_true_eq_false, not_false_eq_true, true_or, or_true, true_and, and_true, zg_true, fa_b_f, fa_b_t, L271_0, L271_k1, L271_k7, L271_k15, L271_k24, L271_k32, L271_k42, T177, T270t hR2 h142 hV, T216t hR2 h142, f1, f3]
theorem Q271n (hG : zG V E p) {s c x e l : Int} (b1 : -2147483648 ≤ s ∧ s < 2147483648) (b2 : -2147483648 ≤ c ∧ c < 2147483648) (b3 : -2147483648 ≤ x ∧ x < 2147483648) (b4 : -2147483648 ≤ e ∧ e < 2147483648) (h : ((s < 0 ∨ ((V (3)).val : Int) ≤ s) ∨ (x < 0 ∨ ((V (3)).val : Int) ≤ x) ∨ s = x) ∨ (c < 0 ∨ ((V (0)).val : Int) ≤ c) ∨ e < 0 ∨ ((V (0)).val : Int) ≤ e) : ∃ F, zf_ev X (d + 6) 271 (0, [vR 60, vI s, vI c, vI x, vI e, vI l], [], zH t p q E) = some (some [vI (-1)], zH t p q F) ∧ F 60 11 = 1 ∧ F 60 0 = 0 ∧ zFM E F := by
  have hR2 := hG.R2
  refine RQ_no (F := E) ?_
  by_cases g : (s < 0 ∨ ((V (3)).val : Int) ≤ s) ∨ (x < 0 ∨ ((V (3)).val : Int) ≤ x) ∨ s = x
  · simp (disch := omega) only [n32_id, zg_pos, if_pos, if_neg, zu_same, zu_ne, if_true, if_false, ne_eq, not_true_eq_false, not_false_eq_true, true_or, or_true, true_and, and_true, zg_true, fa_b_f, fa_b_t, L271_0, L271_k1, L271_k7, L271_k15, L271_k24, L271_k32, L271_k42, T177, T270f hR2 hG.h15, L178_0]
  · obtain ⟨hV, -, h142⟩ := hG.yes (by omega)
    by_cases g1 : c < 0 ∨ ((V (0)).val : Int) ≤ c
    · simp (disch := omega) only [n32_id, zg_pos, if_pos, if_neg, zu_same, zu_ne, if_true, if_false, ne_eq, not_true_eq_false, not_false_eq_true, true_or, or_true, true_and, and_true, zg_true, fa_b_f, fa_b_t, L271_0, L271_k1, L271_k7, L271_k15, L271_k24, L271_k32, L271_k42, T177, T270t hR2 h142 hV, T216f hR2 hG.h14, L178_0]
    · simp (disch := omega) only [n32_id, zg_pos, if_pos, if_neg, zu_same, zu_ne, if_true, if_false, ne_eq, not_true_eq_false, not_false_eq_true, true_or, or_true, true_and, and_true, zg_true, fa_b_f, fa_b_t, L271_0, L271_k1, L271_k7, L271_k15, L271_k24, L271_k32, L271_k42, T177, T270t hR2 h142 hV, T216t hR2 h142, T216f hR2 hG.h14, L178_0]
end P3

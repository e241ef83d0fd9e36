/-! airs, could, surely, toThrow, throwLeaves, judge -/
section FQ
variable {X : Nat × (Nat → Int)} {d : Nat} {t : List (Nat × Nat)} {p q : Nat} {E : Nat → Int → Int} {V : Int → Fin 65537} {o : Nat}
theorem T29_loop (ho : zo o) (hC : zC V E o) (hV : zV V) : ∀ (k : Nat) (i : Int), 1 ≤ i → i + k = ((V (1)).val : Int) + 1 → zf_ev X d 29 (4, [vR o, vI (sp_u V i), vI i], [], zH t p q E) = some (some [vI (sp_K V)], zH t p q E) := by
  have hr := hV.rows
  intro k
  induction k with
  | zero =>
    intro i h1 h2
    rw [L29_4 ho]
    simp (disch := omega) only [n32_id, zg_pos, if_pos, if_neg, zu_same, zu_ne, if_true, if_false, ne_eq, not_true_eq_false, not_false_eq_true, true_or, or_true, true_and, and_true, zg_true, fa_b_f, fa_b_t, hC.rows]
    rw [show i = ((V (1)).val : Int) + 1 by omega]
    rfl
  | succ k ih =>
    intro i h1 h2
    have ih2 := ih (i + 1) (by omega) (by omega)
    have hs := sp_u_s (V := V) h1
    rw [L29_4 ho]
    by_cases g : ((V (200 + i)).val : Int) = 7
    · rw [show sp_isu V i = true from decide_eq_true g, if_pos rfl] at hs
      rw [hs] at ih2
      simp (disch := omega) only [n32_id, zg_pos, if_pos, if_neg, zu_same, zu_ne, if_true, if_false, ne_eq, not_true_eq_false, not_false_eq_true, true_or, or_true, true_and, and_true, zg_true, fa_b_f, fa_b_t, hC.rows, hC.air]
      exact ih2
    · rw [show sp_isu V i = false from decide_eq_false g, if_neg (by decide), Int.add_zero] at hs
      rw [hs] at ih2
      simp (disch := omega) only [n32_id, zg_pos, if_pos, if_neg, zu_same, zu_ne, if_true, if_false, ne_eq, not_true_eq_false, not_false_eq_true, true_or, or_true, true_and, and_true, zg_true, fa_b_f, fa_b_t, hC.rows, hC.air]
      exact ih2
theorem T29 (ho : zo o) (hC : zC V E o) (hV : zV V) : zf_ev X d 29 (0, [vR o, vJ, vJ], [], zH t p q E) = some (some [vI (sp_K V)], zH t p q E) := by
  rw [L29_0 ho]
  exact T29_loop ho hC hV (((V (1)).val : Int)).toNat 1 (by omega) (by omega)
theorem T171n (hp : zo p) (hC : zC V E p) {r : Int} (h0 : -2147483648 ≤ r ∧ r < 2147483648) (h : r < 1 ∨ ((V (1)).val : Int) < r) : zf_ev X (d + 1) 171 (0, [vR 0, vI r, vJ], [], zH t p q E) = some (some [vI 0], zH t p q (zu E 0 10 1)) := by
  simp (disch := omega) only [n32_id, zg_pos, if_pos, if_neg, zu_same, zu_ne, if_true, if_false, ne_eq, not_true_eq_false, not_false_eq_true, true_or, or_true, true_and, and_true, zg_true, fa_b_f, fa_b_t, L171_0 hp, L171_k6, L171_k9 hp, T25f hp hC, T168f]
theorem T171k (hp : zo p) (hC : zC V E p) (hV : zV V) {r : Int} (h1 : 1 ≤ r) (h2 : r ≤ ((V (1)).val : Int)) (h : ¬ ((V (200 + r)).val : Int) = 7) : zf_ev X (d + 1) 171 (0, [vR 0, vI r, vJ], [], zH t p q E) = some (some [vI 0], zH t p q (zu E 0 10 5)) := by
  have hr := hV.rows
  have hp2 : p = 40 ∨ p = 50 := hp
  simp (disch := omega) only [n32_id, zg_pos, if_pos, if_neg, zu_same, zu_ne, if_true, if_false, ne_eq, not_true_eq_false, not_false_eq_true, true_or, or_true, true_and, and_true, zg_true, fa_b_f, fa_b_t, L171_0 hp, L171_k6, L171_k9 hp, T25t hp hC, T168t, hC.air, zu_zu]
theorem T171u (hp : zo p) (hC : zC V E p) (hV : zV V) {r : Int} (h1 : 1 ≤ r) (h2 : r ≤ ((V (1)).val : Int)) (h : ((V (200 + r)).val : Int) = 7) : zf_ev X (d + 1) 171 (0, [vR 0, vI r, vJ], [], zH t p q E) = some (some [vI 1], zH t p q (zu E 0 10 0)) := by
  have hr := hV.rows
  have hp2 : p = 40 ∨ p = 50 := hp
  simp (disch := omega) only [n32_id, zg_pos, if_pos, if_neg, zu_same, zu_ne, if_true, if_false, ne_eq, not_true_eq_false, not_false_eq_true, true_or, or_true, true_and, and_true, zg_true, fa_b_f, fa_b_t, L171_0 hp, L171_k6, L171_k9 hp, T25t hp hC, T168t, hC.air, zu_zu]
theorem T172n (hp : zo p) (hC : zC V E p) (h : ((V (3)).val : Int) ≤ 0) : zf_ev X (d + 1) 172 (0, [vR 0, vJ], [], zH t p q E) = some (some [vI 0], zH t p q (zu E 0 10 1)) := by
  simp (disch := omega) only [n32_id, zg_pos, if_pos, if_neg, zu_same, zu_ne, if_true, if_false, ne_eq, not_true_eq_false, not_false_eq_true, true_or, or_true, true_and, and_true, zg_true, fa_b_f, fa_b_t, L172_0 hp, L172_k5, L172_k8 hp, L172_k20, T21f hp hC, T168f]
theorem T172k (hp : zo p) (hC : zC V E p) (hV : zV V) (h : sp_K V = 0) : zf_ev X (d + 1) 172 (0, [vR 0, vJ], [], zH t p q E) = some (some [vI 0], zH t p q (zu E 0 10 6)) := by
  have hk := hV.spks
  have hC2 : zC V (zu E 0 10 0) p := hC.fco hp zFC.u
  simp (disch := omega) only [n32_id, zg_pos, if_pos, if_neg, zu_same, zu_ne, if_true, if_false, ne_eq, not_true_eq_false, not_false_eq_true, true_or, or_true, true_and, and_true, zg_true, fa_b_f, fa_b_t, L172_0 hp, L172_k5, L172_k8 hp, L172_k20, T21t hp hC, T168t, T29 hp hC2 hV, zu_zu]
theorem T172u (hp : zo p) (hC : zC V E p) (hV : zV V) (hK : sp_K V ≤ 3) (h : 0 < sp_K V) : zf_ev X (d + 1) 172 (0, [vR 0, vJ], [], zH t p q E) = some (some [vI 1], zH t p q (zu E 0 10 0)) := by
  have hk := hV.spks
  have hC2 : zC V (zu E 0 10 0) p := hC.fco hp zFC.u
  simp (disch := omega) only [n32_id, zg_pos, if_pos, if_neg, zu_same, zu_ne, if_true, if_false, ne_eq, not_true_eq_false, not_false_eq_true, true_or, or_true, true_and, and_true, zg_true, fa_b_f, fa_b_t, L172_0 hp, L172_k5, L172_k8 hp, L172_k20, T21t hp hC, T168t, T29 hp hC2 hV, zu_zu]
theorem Q142 (hG : zG V E p) (hK : sp_K V ≤ 3) (h1 : 0 < ((V (3)).val : Int)) : ∃ F, zf_ev X (d + 3) 142 (0, [vR 0], [], zH t p q E) = some (some [vI (sp_L V (sp_p5 V))], zH t p q F) ∧ F 0 10 = 0 ∧ zFC E F := by
  obtain ⟨hV, -, -⟩ := hG.yes (by omega)
  obtain ⟨hp, hC, hR, -⟩ := hG
  have hC2 : zC V (zu E 0 10 0) p := hC.fco hp zFC.u
  obtain ⟨F, f1, f2, f3, f4⟩ := T10 (X := X) (d := d) (t := t) (p := p) (q := q) hp hC2 hV hK
  have e := f3.1
  refine ⟨F, ?_, by rw [f4 _ _ (by omega) (by omega) (by omega) (by omega) (by omega) (by omega)]; exact zu_same, fun a b y1 y2 y3 y4 => by rw [f4 a b (by omega) (by omega) (by omega) (by omega) (by omega) (by omega), zu_ne y4]⟩
  simp (disch := omega) only [n32_id, zg_pos, if_pos, if_neg, zu_same, zu_ne, if_true, if_false, ne_eq, not_true_eq_false, not_false_eq_true, true_or, or_true, true_and, and_true, zg_true, fa_b_f, fa_b_t, L142_0 hp, L142_k5, L142_k8 hp, L142_k24, T21t hp hC, T168t, f1, e]
theorem Q142n (hG : zG V E p) (h1 : ((V (3)).val : Int) ≤ 0) : ∃ F, zf_ev X (d + 3) 142 (0, [vR 0], [], zH t p q E) = some (some [vI (-1)], zH t p q F) ∧ F 0 10 = 1 ∧ zFC E F := by
  obtain ⟨hp, hC, hR, -⟩ := hG
  refine ⟨zu E 0 10 1, ?_, zu_same, zFC.u⟩
  simp (disch := omega) only [n32_id, zg_pos, if_pos, if_neg, zu_same, zu_ne, if_true, if_false, ne_eq, not_true_eq_false, not_false_eq_true, true_or, or_true, true_and, and_true, zg_true, fa_b_f, fa_b_t, L142_0 hp, L142_k5, L142_k8 hp, L142_k24, T21f hp hC, T168f]
theorem Q143 (hG : zG V E p) (hK : sp_K V ≤ 3) {r : Int} (h1 : 1 ≤ r) (h2 : r ≤ ((V (1)).val : Int)) (h : ((V (200 + r)).val : Int) = 7) : ∃ F, zf_ev X (d + 3) 143 (0, [vR 0, vI r], [], zH t p q E) = some (some [vI (sp_five (sp_see V r (sp_p5 V)))], zH t p q F) ∧ F 0 10 = 0 ∧ zFC E F := by
  obtain ⟨hV, -, -⟩ := hG.yes (by omega)
  obtain ⟨hp, hC, hR, -⟩ := hG
  have hr := hV.rows
  have hC2 : zC V (zu E 0 10 0) p := hC.fco hp zFC.u
  obtain ⟨F, f1, f2, f3, f4⟩ := T10 (X := X) (d := d) (t := t) (p := p) (q := q) hp hC2 hV hK
  have e := f3.2.2.2 r h1 h2 (decide_eq_true h)
  refine ⟨F, ?_, by rw [f4 _ _ (by omega) (by omega) (by omega) (by omega) (by omega) (by omega)]; exact zu_same, fun a b y1 y2 y3 y4 => by rw [f4 a b (by omega) (by omega) (by omega) (by omega) (by omega) (by omega), zu_ne y4]⟩
  simp (disch := omega) only [n32_id, zg_pos, if_pos, if_neg, zu_same, zu_ne, if_true, if_false, ne_eq, not_true_eq_false, not_false_eq_true, true_or, or_true, true_and, and_true, zg_true, fa_b_f, fa_b_t, L143_0, L143_k2 hp, L143_k18, T171u hp hC hV, f1, e]
theorem Q143n (hG : zG V E p) {r : Int} (h0 : -2147483648 ≤ r ∧ r < 2147483648) (h : r < 1 ∨ ((V (1)).val : Int) < r) : ∃ F, zf_ev X (d + 3) 143 (0, [vR 0, vI r], [], zH t p q E) = some (some [vI (-1)], zH t p q F) ∧ F 0 10 = 1 ∧ zFC E F := by
  obtain ⟨hp, hC, hR, -⟩ := hG
  refine ⟨zu E 0 10 1, ?_, zu_same, zFC.u⟩
  simp (disch := omega) only [n32_id, zg_pos, if_pos, if_neg, zu_same, zu_ne, if_true, if_false, ne_eq, not_true_eq_false, not_false_eq_true, true_or, or_true, true_and, and_true, zg_true, fa_b_f, fa_b_t, L143_0, L143_k2 hp, L143_k18, T171n hp hC]
theorem Q143k (hG : zG V E p) {r : Int} (h1 : 1 ≤ r) (h2 : r ≤ ((V (1)).val : Int)) (h : ¬ ((V (200 + r)).val : Int) = 7) : ∃ F, zf_ev X (d + 3) 143 (0, [vR 0, vI r], [], zH t p q E) = some (some [vI (-1)], zH t p q F) ∧ F 0 10 = 5 ∧ zFC E F := by
  obtain ⟨hV, -, -⟩ := hG.yes (by omega)
  obtain ⟨hp, hC, hR, -⟩ := hG
  refine ⟨zu E 0 10 5, ?_, zu_same, zFC.u⟩
  simp (disch := omega) only [n32_id, zg_pos, if_pos, if_neg, zu_same, zu_ne, if_true, if_false, ne_eq, not_true_eq_false, not_false_eq_true, true_or, or_true, true_and, and_true, zg_true, fa_b_f, fa_b_t, L143_0, L143_k2 hp, L143_k18, T171k hp hC hV]
theorem Q144 (hG : zG V E p) (hK : sp_K V ≤ 3) {r : Int} (h1 : 1 ≤ r) (h2 : r ≤ ((V (1)).val : Int)) (h : ((V (200 + r)).val : Int) = 7) : ∃ F, zf_ev X (d + 3) 144 (0, [vR 0, vI r], [], zH t p q E) = some (some [vI (sp_only (sp_five (sp_see V r (sp_p5 V))) 5 0)], zH t p q F) ∧ F 0 10 = 0 ∧ zFC E F := by
  obtain ⟨hV, -, -⟩ := hG.yes (by omega)
  obtain ⟨hp, hC, hR, -⟩ := hG
  have hr := hV.rows
  have hC2 : zC V (zu E 0 10 0) p := hC.fco hp zFC.u
  obtain ⟨F, f1, f2, f3, f4⟩ := T10 (X := X) (d := d) (t := t) (p := p) (q := q) hp hC2 hV hK
  have e := f3.2.2.2 r h1 h2 (decide_eq_true h)
  have e16 := T16_loop (X := X) (d := d + 2) (t := t) (p := p) (q := q) (r := r) (by omega) e sp_five_r 5 0 (by omega) (by omega)
  refine ⟨F, ?_, by rw [f4 _ _ (by omega) (by omega) (by omega) (by omega) (by omega) (by omega)]; exact zu_same, fun a b y1 y2 y3 y4 => by rw [f4 a b (by omega) (by omega) (by omega) (by omega) (by omega) (by omega), zu_ne y4]⟩
  simp (disch := omega) only [n32_id, zg_pos, if_pos, if_neg, zu_same, zu_ne, if_true, if_false, ne_eq, not_true_eq_false, not_false_eq_true, true_or, or_true, true_and, and_true, zg_true, fa_b_f, fa_b_t, L144_0, L144_k2 hp, L144_k18, L144_k26, T171u hp hC hV, f1, L16_0, e16]
theorem Q144n (hG : zG V E p) {r : Int} (h0 : -2147483648 ≤ r ∧ r < 2147483648) (h : r < 1 ∨ ((V (1)).val : Int) < r) : ∃ F, zf_ev X (d + 3) 144 (0, [vR 0, vI r], [], zH t p q E) = some (some [vI (-1)], zH t p q F) ∧ F 0 10 = 1 ∧ zFC E F := by
  obtain ⟨hp, hC, hR, -⟩ := hG
  refine ⟨zu E 0 10 1, ?_, zu_same, zFC.u⟩
  simp (disch := omega) only [n32_id, zg_pos, if_pos, if_neg, zu_same, zu_ne, if_true, if_false, ne_eq, not_true_eq_false, not_false_eq_true, true_or, or_true, true_and, and_true, zg_true, fa_b_f, fa_b_t, L144_0, L144_k2 hp, L144_k18, L144_k26, T171n hp hC]
theorem Q144k (hG : zG V E p) {r : Int} (h1 : 1 ≤ r) (h2 : r ≤ ((V (1)).val : Int)) (h : ¬ ((V (200 + r)).val : Int) = 7) : ∃ F, zf_ev X (d + 3) 144 (0, [vR 0, vI r], [], zH t p q E) = some (some [vI (-1)], zH t p q F) ∧ F 0 10 = 5 ∧ zFC E F := by
  obtain ⟨hV, -, -⟩ := hG.yes (by omega)
  obtain ⟨hp, hC, hR, -⟩ := hG
  refine ⟨zu E 0 10 5, ?_, zu_same, zFC.u⟩
  simp (disch := omega) only [n32_id, zg_pos, if_pos, if_neg, zu_same, zu_ne, if_true, if_false, ne_eq, not_true_eq_false, not_false_eq_true, true_or, or_true, true_and, and_true, zg_true, fa_b_f, fa_b_t, L144_0, L144_k2 hp, L144_k18, L144_k26, T171k hp hC hV]
theorem Q145 (hG : zG V E p) (hK : sp_K V ≤ 3) (h1 : 0 < ((V (3)).val : Int)) (h : 0 < sp_K V) : ∃ F, zf_ev X (d + 4) 145 (0, [vR 0], [], zH t p q E) = some (some [vI (sv_throw V)], zH t p q F) ∧ F 0 10 = 0 ∧ zFC E F := by
  obtain ⟨hV, -, -⟩ := hG.yes (by omega)
  obtain ⟨hp, hC, hR, -⟩ := hG
  have hp5 := sp_p5_r hK
  have hLr := sp_L_r (V := V) (n := sp_p5 V) (by omega)
  have hC2 : zC V (zu E 0 10 0) p := hC.fco hp zFC.u
  obtain ⟨F, f1, f2, f3, f4, f5⟩ := T17 (X := X) (d := d) (t := t) (p := p) (q := q) hp hC2 hV hK
  refine ⟨F, ?_, by rw [f5 _ _ (by omega)]; exact zu_same, fun a b y1 y2 y3 y4 => by rw [f5 a b (by omega), zu_ne y4]⟩
  unfold sv_throw
  by_cases g : sp_L V (sp_p5 V) = 0
  · simp (disch := omega) only [n32_id, zg_pos, if_pos, if_neg, zu_same, zu_ne, if_true, if_false, ne_eq, not_true_eq_false, not_false_eq_true, true_or, or_true, true_and, and_true, zg_true, fa_b_f, fa_b_t, L145_0, L145_k1 hp, L145_k17, T172u hp hC hV hK, f1, f2]
  · simp (disch := omega) only [n32_id, zg_pos, if_pos, if_neg, zu_same, zu_ne, if_true, if_false, ne_eq, not_true_eq_false, not_false_eq_true, true_or, or_true, true_and, and_true, zg_true, fa_b_f, fa_b_t, L145_0, L145_k1 hp, L145_k17, T172u hp hC hV hK, f1, f2, f4]
theorem Q145n (hG : zG V E p) (h1 : ((V (3)).val : Int) ≤ 0) : ∃ F, zf_ev X (d + 4) 145 (0, [vR 0], [], zH t p q E) = some (some [vI (-1)], zH t p q F) ∧ F 0 10 = 1 ∧ zFC E F := by
  obtain ⟨hp, hC, hR, -⟩ := hG
  refine ⟨zu E 0 10 1, ?_, zu_same, zFC.u⟩
  simp (disch := omega) only [n32_id, zg_pos, if_pos, if_neg, zu_same, zu_ne, if_true, if_false, ne_eq, not_true_eq_false, not_false_eq_true, true_or, or_true, true_and, and_true, zg_true, fa_b_f, fa_b_t, L145_0, L145_k1 hp, L145_k17, T172n hp hC]
theorem Q145k (hG : zG V E p) (h1 : 0 < ((V (3)).val : Int)) (h : sp_K V = 0) : ∃ F, zf_ev X (d + 4) 145 (0, [vR 0], [], zH t p q E) = some (some [vI (-1)], zH t p q F) ∧ F 0 10 = 6 ∧ zFC E F := by
  obtain ⟨hV, -, -⟩ := hG.yes (by omega)
  obtain ⟨hp, hC, hR, -⟩ := hG
  refine ⟨zu E 0 10 6, ?_, zu_same, zFC.u⟩
  simp (disch := omega) only [n32_id, zg_pos, if_pos, if_neg, zu_same, zu_ne, if_true, if_false, ne_eq, not_true_eq_false, not_false_eq_true, true_or, or_true, true_and, and_true, zg_true, fa_b_f, fa_b_t, L145_0, L145_k1 hp, L145_k17, T172k hp hC hV]
theorem Q146 (hG : zG V E p) (hK : sp_K V ≤ 3) (h1 : 0 < ((V (3)).val : Int)) (h : 0 < sp_K V) : ∃ F, zf_ev X (d + 4) 146 (0, [vR 0], [], zH t p q E) = some (some [vI (sv_leaves V)], zH t p q F) ∧ F 0 10 = 0 ∧ zFC E F := by
  obtain ⟨hV, -, -⟩ := hG.yes (by omega)
  obtain ⟨hp, hC, hR, -⟩ := hG
  have hp5 := sp_p5_r hK
  have hLr := sp_L_r (V := V) (n := sp_p5 V) (by omega)
  have hC2 : zC V (zu E 0 10 0) p := hC.fco hp zFC.u
  obtain ⟨F, f1, f2, f3, f4, f5⟩ := T17 (X := X) (d := d) (t := t) (p := p) (q := q) hp hC2 hV hK
  refine ⟨F, ?_, by rw [f5 _ _ (by omega)]; exact zu_same, fun a b y1 y2 y3 y4 => by rw [f5 a b (by omega), zu_ne y4]⟩
  unfold sv_leaves
  by_cases g : sp_L V (sp_p5 V) = 0
  · simp (disch := omega) only [n32_id, zg_pos, if_pos, if_neg, zu_same, zu_ne, if_true, if_false, ne_eq, not_true_eq_false, not_false_eq_true, true_or, or_true, true_and, and_true, zg_true, fa_b_f, fa_b_t, L146_0, L146_k1 hp, L146_k17, T172u hp hC hV hK, f1, f2]
  · simp (disch := omega) only [n32_id, zg_pos, if_pos, if_neg, zu_same, zu_ne, if_true, if_false, ne_eq, not_true_eq_false, not_false_eq_true, true_or, or_true, true_and, and_true, zg_true, fa_b_f, fa_b_t, L146_0, L146_k1 hp, L146_k17, T172u hp hC hV hK, f1, f2, f3]
theorem Q146n (hG : zG V E p) (h1 : ((V (3)).val : Int) ≤ 0) : ∃ F, zf_ev X (d + 4) 146 (0, [vR 0], [], zH t p q E) = some (some [vI (-1)], zH t p q F) ∧ F 0 10 = 1 ∧ zFC E F := by
  obtain ⟨hp, hC, hR, -⟩ := hG
  refine ⟨zu E 0 10 1, ?_, zu_same, zFC.u⟩
  simp (disch := omega) only [n32_id, zg_pos, if_pos, if_neg, zu_same, zu_ne, if_true, if_false, ne_eq, not_true_eq_false, not_false_eq_true, true_or, or_true, true_and, and_true, zg_true, fa_b_f, fa_b_t, L146_0, L146_k1 hp, L146_k17, T172n hp hC]
theorem Q146k (hG : zG V E p) (h1 : 0 < ((V (3)).val : Int)) (h : sp_K V = 0) : ∃ F, zf_ev X (d + 4) 146 (0, [vR 0], [], zH t p q E) = some (some [vI (-1)], zH t p q F) ∧ F 0 10 = 6 ∧ zFC E F := by
  obtain ⟨hV, -, -⟩ := hG.yes (by omega)
  obtain ⟨hp, hC, hR, -⟩ := hG
  refine ⟨zu E 0 10 6, ?_, zu_same, zFC.u⟩
  simp (disch := omega) only [n32_id, zg_pos, if_pos, if_neg, zu_same, zu_ne, if_true, if_false, ne_eq, not_true_eq_false, not_false_eq_true, true_or, or_true, true_and, and_true, zg_true, fa_b_f, fa_b_t, L146_0, L146_k1 hp, L146_k17, T172k hp hC hV]
theorem T147_loop (hp : zo p) (hC : zC V E p) (hV : zV V) : ∀ (k : Nat) (f : Int) (j2 : ZV), 0 ≤ f → f + k = ((V (6)).val : Int) → zf_ev X (d + 2) 147 (18, [vR 0, vI f, j2], [], zH t p q E) = some (some [vI (sp_wf V (sp_air V) k f)], zH t p q E) := by
  have hf := hV.flts
  have hr := hV.rows
  have hc := hV.cols
  intro k
  induction k with
  | zero =>
    intro f j2 h1 h2
    rw [L147_18 hp]
    simp (disch := omega) only [n32_id, zg_pos, if_pos, if_neg, zu_same, zu_ne, if_true, if_false, ne_eq, not_true_eq_false, not_false_eq_true, true_or, or_true, true_and, and_true, zg_true, fa_b_f, fa_b_t, hC.flts]
    rfl
  | succ k ih =>
    intro f j2 h1 h2
    have hq := hV.flt f h1 (by omega)
    have hb := sp_col_r (a := sp_air V) (n := ((V (0)).val : Int)) (fold := 0) (far := ((V (66 + 3 * f + 1)).val : Int)) (seat := ((V (66 + 3 * f)).val : Int)) (by omega) (by omega) (by omega)
    rw [L147_18 hp]
    simp (disch := omega) only [n32_id, zg_pos, if_pos, if_neg, zu_same, zu_ne, if_true, if_false, ne_eq, not_true_eq_false, not_false_eq_true, true_or, or_true, true_and, and_true, zg_true, fa_b_f, fa_b_t, hC.flts, hC.fs, hC.fr']
    rw [T32 hp hC hV (by omega) (by omega) (by omega), L147_k52 hp]
    unfold sp_wf
    by_cases g : sp_col (sp_air V) ((V (0)).val : Int) 0 ((V (66 + 3 * f)).val : Int) ((V (66 + 3 * f + 1)).val : Int) = ((V (66 + 3 * f + 2)).val : Int)
    · simp (disch := omega) only [n32_id, zg_pos, if_pos, if_neg, zu_same, zu_ne, if_true, if_false, ne_eq, not_true_eq_false, not_false_eq_true, true_or, or_true, true_and, and_true, zg_true, fa_b_f, fa_b_t, hC.fc]
      exact ih _ _ (by omega) (by omega)
    · simp (disch := omega) only [n32_id, zg_pos, if_pos, if_neg, zu_same, zu_ne, if_true, if_false, ne_eq, not_true_eq_false, not_false_eq_true, true_or, or_true, true_and, and_true, zg_true, fa_b_f, fa_b_t, hC.fc]
theorem Q147 (hG : zG V E p) (h1 : 0 < ((V (3)).val : Int)) : ∃ F, zf_ev X (d + 2) 147 (0, [vR 0, vJ, vJ], [], zH t p q E) = some (some [vI (sp_wf0 V (sp_air V))], zH t p q F) ∧ F 0 10 = 0 ∧ zFC E F := by
  obtain ⟨hV, -, -⟩ := hG.yes (by omega)
  obtain ⟨hp, hC, hR, -⟩ := hG
  have hC2 : zC V (zu E 0 10 0) p := hC.fco hp zFC.u
  refine ⟨zu E 0 10 0, ?_, zu_same, zFC.u⟩
  simp (disch := omega) only [n32_id, zg_pos, if_pos, if_neg, zu_same, zu_ne, if_true, if_false, ne_eq, not_true_eq_false, not_false_eq_true, true_or, or_true, true_and, and_true, zg_true, fa_b_f, fa_b_t, L147_0 hp, L147_k5, L147_k8, L147_k52 hp, T21t hp hC, T168t]
  rw [T147_loop hp hC2 hV (((V (6)).val : Int)).toNat 0 _ (by omega) (by omega)]
  rfl
theorem Q147n (hG : zG V E p) (h1 : ((V (3)).val : Int) ≤ 0) : ∃ F, zf_ev X (d + 2) 147 (0, [vR 0, vJ, vJ], [], zH t p q E) = some (some [vI (-1)], zH t p q F) ∧ F 0 10 = 1 ∧ zFC E F := by
  obtain ⟨hp, hC, hR, -⟩ := hG
  refine ⟨zu E 0 10 1, ?_, zu_same, zFC.u⟩
  simp (disch := omega) only [n32_id, zg_pos, if_pos, if_neg, zu_same, zu_ne, if_true, if_false, ne_eq, not_true_eq_false, not_false_eq_true, true_or, or_true, true_and, and_true, zg_true, fa_b_f, fa_b_t, L147_0 hp, L147_k5, L147_k8, L147_k52 hp, T21f hp hC, T168f]
/-! the reference's -/
theorem T282n (hR : zR V E) (h14 : E 60 14 = 1 ∨ E 60 14 = 0) {r : Int} (h0 : -2147483648 ≤ r ∧ r < 2147483648) (h : r < 1 ∨ ((V (1)).val : Int) < r) : zf_ev X (d + 2) 282 (0, [vR 60, vI r], [], zH t p q E) = some (some [vI 1], zH t p q E) := by
  simp (disch := omega) only [n32_id, zg_pos, if_pos, if_neg, zu_same, zu_ne, if_true, if_false, ne_eq, not_true_eq_false, not_false_eq_true, true_or, or_true, true_and, and_true, zg_true, fa_b_f, fa_b_t, L282_0, L282_k2, T217f hR h14]
theorem T282k (hR : zR V E) (h14 : E 60 14 = 1) (hV : zV V) {r : Int} (h1 : 1 ≤ r) (h2 : r ≤ ((V (1)).val : Int)) (h : ¬ ((V (200 + r)).val : Int) = 7) : zf_ev X (d + 2) 282 (0, [vR 60, vI r], [], zH t p q E) = some (some [vI 5], zH t p q E) := by
  have hr := hV.rows
  simp (disch := omega) only [n32_id, zg_pos, if_pos, if_neg, zu_same, zu_ne, if_true, if_false, ne_eq, not_true_eq_false, not_false_eq_true, true_or, or_true, true_and, and_true, zg_true, fa_b_f, fa_b_t, L282_0, L282_k2, T217t hR h14, hR.s]
theorem T282u (hR : zR V E) (h14 : E 60 14 = 1) (hV : zV V) {r : Int} (h1 : 1 ≤ r) (h2 : r ≤ ((V (1)).val : Int)) (h : ((V (200 + r)).val : Int) = 7) : zf_ev X (d + 2) 282 (0, [vR 60, vI r], [], zH t p q E) = some (some [vI 0], zH t p q E) := by
  have hr := hV.rows
  simp (disch := omega) only [n32_id, zg_pos, if_pos, if_neg, zu_same, zu_ne, if_true, if_false, ne_eq, not_true_eq_false, not_false_eq_true, true_or, or_true, true_and, and_true, zg_true, fa_b_f, fa_b_t, L282_0, L282_k2, T217t hR h14, hR.s]
theorem Q281 (hG : zG V E p) (hK : sp_K V ≤ 3) (h1 : 0 < ((V (3)).val : Int)) : ∃ F, zf_ev X (d + 5) 281 (0, [vR 60], [], zH t p q E) = some (some [vI (sp_L V (sp_p5 V))], zH t p q F) ∧ F 60 11 = 0 ∧ F 60 0 = 0 ∧ zFM E F := by
  obtain ⟨hV, -, h142⟩ := hG.yes (by omega)
  have hR2 := hG.R2
  obtain ⟨F, f1, f2⟩ := T280 (X := X) (d := d) (t := t) (p := p) (q := q) hR2 hV hK
  have hf : zFM (zg0 E) F := fun a b g1 g2 => f2 a b (by omega)
  refine ⟨F, ?_, by rw [f2 _ _ (by omega)]; rfl, by rw [f2 _ _ (by omega)]; rfl, zFM.g0.tr hf⟩
  simp (disch := omega) only [n32_id, zg_pos, if_pos, if_neg, zu_same, zu_ne, if_true, if_false, ne_eq, not_true_eq_false, not_false_eq_true, true_or, or_true, true_and, and_true, zg_true, fa_b_f, fa_b_t, L281_0, L281_k1, L281_k12, L281_k20, T177, h142, f1]
theorem Q281n (hG : zG V E p) (h1 : ((V (3)).val : Int) ≤ 0) : ∃ F, zf_ev X (d + 5) 281 (0, [vR 60], [], zH t p q E) = some (some [vI (-1)], zH t p q F) ∧ F 60 11 = 1 ∧ F 60 0 = 0 ∧ zFM E F := by
  have h142 := hG.not h1
  refine RQ_no (F := E) ?_
  simp (disch := omega) only [n32_id, zg_pos, if_pos, if_neg, zu_same, zu_ne, if_true, if_false, ne_eq, not_true_eq_false, not_false_eq_true, true_or, or_true, true_and, and_true, zg_true, fa_b_f, fa_b_t, L281_0, L281_k1, L281_k12, L281_k20, T177, h142, L178_0]
theorem Q284 (hG : zG V E p) (hK : sp_K V ≤ 3) {r : Int} (h1 : 1 ≤ r) (h2 : r ≤ ((V (1)).val : Int)) (h : ((V (200 + r)).val : Int) = 7) : ∃ F, zf_ev X (d + 5) 284 (0, [vR 60, vI r], [], zH t p q E) = some (some [vI (sp_five (sp_see V r (sp_p5 V)))], zH t p q F) ∧ F 60 11 = 0 ∧ F 60 0 = 0 ∧ zFM E F := by
  obtain ⟨hV, -, h142⟩ := hG.yes (by omega)
  have hR2 := hG.R2
  obtain ⟨F, f1, f2⟩ := T283 (X := X) (d := d) (t := t) (p := p) (q := q) hR2 hV hK ⟨h1, h2⟩ (decide_eq_true h)
  have hf : zFM (zg0 E) F := fun a b g1 g2 => f2 a b (by omega)
  refine ⟨F, ?_, by rw [f2 _ _ (by omega)]; rfl, by rw [f2 _ _ (by omega)]; rfl, zFM.g0.tr hf⟩
  simp (disch := omega) only [n32_id, zg_pos, if_pos, if_neg, zu_same, zu_ne, if_true, if_false, ne_eq, not_true_eq_false, not_false_eq_true, true_or, or_true, true_and, and_true, zg_true, fa_b_f, fa_b_t, L284_0, L284_k1, L284_k6, L284_k15, L284_k18, L284_k26, T177, T282u hR2 h142 hV, f1]
theorem Q284n (hG : zG V E p) {r : Int} (h0 : -2147483648 ≤ r ∧ r < 2147483648) (h : r < 1 ∨ ((V (1)).val : Int) < r) : ∃ F, zf_ev X (d + 5) 284 (0, [vR 60, vI r], [], zH t p q E) = some (some [vI (-1)], zH t p q F) ∧ F 60 11 = 1 ∧ F 60 0 = 0 ∧ zFM E F := by
  have hR2 := hG.R2
  refine RQ_no (F := E) ?_
  simp (disch := omega) only [n32_id, zg_pos, if_pos, if_neg, zu_same, zu_ne, if_true, if_false, ne_eq, not_true_eq_false, not_false_eq_true, true_or, or_true, true_and, and_true, zg_true, fa_b_f, fa_b_t, L284_0, L284_k1, L284_k6, L284_k15, L284_k18, L284_k26, T177, T282n hR2 hG.h14, L178_0]
theorem Q284k (hG : zG V E p) {r : Int} (h1 : 1 ≤ r) (h2 : r ≤ ((V (1)).val : Int)) (h : ¬ ((V (200 + r)).val : Int) = 7) : ∃ F, zf_ev X (d + 5) 284 (0, [vR 60, vI r], [], zH t p q E) = some (some [vI (-1)], zH t p q F) ∧ F 60 11 = 5 ∧ F 60 0 = 0 ∧ zFM E F := by
  obtain ⟨hV, -, h142⟩ := hG.yes (by omega)
  have hR2 := hG.R2
  refine RQ_no (F := E) ?_
  simp (disch := omega) only [n32_id, zg_pos, if_pos, if_neg, zu_same, zu_ne, if_true, if_false, ne_eq, not_true_eq_false, not_false_eq_true, true_or, or_true, true_and, and_true, zg_true, fa_b_f, fa_b_t, L284_0, L284_k1, L284_k6, L284_k15, L284_k18, L284_k26, T177, T282k hR2 h142 hV, L178_0]
theorem T285_loop {s : Int} {j0 j1 : ZV} (hs : 0 ≤ s ∧ s ≤ 31) : ∀ (k : Nat) (j : Int), 0 ≤ j → j + k = 5 → zf_ev X (d + 5) 285 (30, [j0, j1, vI s, vI j], [], zH t p q E) = some (some [vI (sp_only s k j)], zH t p q E) := by
  intro k
  induction k with
  | zero =>
    intro j h1 h2
    rw [L285_30]
    simp (disch := omega) only [n32_id, zg_pos, if_pos, if_neg, zu_same, zu_ne, if_true, if_false, ne_eq, not_true_eq_false, not_false_eq_true, true_or, or_true, true_and, and_true, zg_true, fa_b_f, fa_b_t]
    rfl
  | succ k ih =>
    intro j h1 h2
    have hb := zm_shl_r (M := j) h1 (by omega)
    rw [L285_30]
    unfold sp_only
    by_cases g : s = zm_ishl 1 j
    · simp (disch := omega) only [n32_id, zg_pos, if_pos, if_neg, zu_same, zu_ne, if_true, if_false, ne_eq, not_true_eq_false, not_false_eq_true, true_or, or_true, true_and, and_true, zg_true, fa_b_f, fa_b_t]
    · simp (disch := omega) only [n32_id, zg_pos, if_pos, if_neg, zu_same, zu_ne, if_true, if_false, ne_eq, not_true_eq_false, not_false_eq_true, true_or, or_true, true_and, and_true, zg_true, fa_b_f, fa_b_t]
      exact ih _ (by omega) (by omega)
theorem Q285 (hG : zG V E p) (hK : sp_K V ≤ 3) {r : Int} (h1 : 1 ≤ r) (h2 : r ≤ ((V (1)).val : Int)) (h : ((V (200 + r)).val : Int) = 7) : ∃ F, zf_ev X (d + 5) 285 (0, [vR 60, vI r, vJ, vJ], [], zH t p q E) = some (some [vI (sp_only (sp_five (sp_see V r (sp_p5 V))) 5 0)], zH t p q F) ∧ F 60 11 = 0 ∧ F 60 0 = 0 ∧ zFM E F := by
  obtain ⟨hV, -, h142⟩ := hG.yes (by omega)
  have hR2 := hG.R2
  obtain ⟨F, f1, f2⟩ := T283 (X := X) (d := d) (t := t) (p := p) (q := q) hR2 hV hK ⟨h1, h2⟩ (decide_eq_true h)
  have hf : zFM (zg0 E) F := fun a b g1 g2 => f2 a b (by omega)
  refine ⟨F, ?_, by rw [f2 _ _ (by omega)]; rfl, by rw [f2 _ _ (by omega)]; rfl, zFM.g0.tr hf⟩
  simp (disch := omega) only [n32_id, zg_pos, if_pos, if_neg, zu_same, zu_ne, if_true, if_false, ne_eq, not_true_eq_false, not_false_eq_true, true_or, or_true, true_and, and_true, zg_true, fa_b_f, fa_b_t, L285_0, L285_k1, L285_k6, L285_k15, L285_k18, T177, T282u hR2 h142 hV, f1]
  rw [L285_k24 rfl, T285_loop sp_five_r 5 0 (by omega) (by omega)]
theorem Q285n (hG : zG V E p) {r : Int} (h0 : -2147483648 ≤ r ∧ r < 2147483648) (h : r < 1 ∨ ((V (1)).val : Int) < r) : ∃ F, zf_ev X (d + 5) 285 (0, [vR 60, vI r, vJ, vJ], [], zH t p q E) = some (some [vI (-1)], zH t p q F) ∧ F 60 11 = 1 ∧ F 60 0 = 0 ∧ zFM E F := by
  have hR2 := hG.R2
  refine RQ_no (F := E) ?_
  simp (disch := omega) only [n32_id, zg_pos, if_pos, if_neg, zu_same, zu_ne, if_true, if_false, ne_eq, not_true_eq_false, not_false_eq_true, true_or, or_true, true_and, and_true, zg_true, fa_b_f, fa_b_t, L285_0, L285_k1, L285_k6, L285_k15, L285_k18, T177, T282n hR2 hG.h14, L178_0]
theorem Q285k (hG : zG V E p) {r : Int} (h1 : 1 ≤ r) (h2 : r ≤ ((V (1)).val : Int)) (h : ¬ ((V (200 + r)).val : Int) = 7) : ∃ F, zf_ev X (d + 5) 285 (0, [vR 60, vI r, vJ, vJ], [], zH t p q E) = some (some [vI (-1)], zH t p q F) ∧ F 60 11 = 5 ∧ F 60 0 = 0 ∧ zFM E F := by
  obtain ⟨hV, -, h142⟩ := hG.yes (by omega)
  have hR2 := hG.R2
  refine RQ_no (F := E) ?_
  simp (disch := omega) only [n32_id, zg_pos, if_pos, if_neg, zu_same, zu_ne, if_true, if_false, ne_eq, not_true_eq_false, not_false_eq_true, true_or, or_true, true_and, and_true, zg_true, fa_b_f, fa_b_t, L285_0, L285_k1, L285_k6, L285_k15, L285_k18, T177, T282k hR2 h142 hV, L178_0]
theorem T288n (h14 : E 60 14 = 0) : zf_ev X (d + 1) 288 (0, [vR 60], [], zH t p q E) = some (some [vI 1], zH t p q E) := by
  simp (disch := omega) only [n32_id, zg_pos, if_pos, if_neg, zu_same, zu_ne, if_true, if_false, ne_eq, not_true_eq_false, not_false_eq_true, true_or, or_true, true_and, and_true, zg_true, fa_b_f, fa_b_t, L288_0, L288_k12, h14]
theorem T288k (hR : zR V E) (h14 : E 60 14 = 1) (hV : zV V) (h : sp_K V = 0) : zf_ev X (d + 1) 288 (0, [vR 60], [], zH t p q E) = some (some [vI 6], zH t p q E) := by
  simp (disch := omega) only [n32_id, zg_pos, if_pos, if_neg, zu_same, zu_ne, if_true, if_false, ne_eq, not_true_eq_false, not_false_eq_true, true_or, or_true, true_and, and_true, zg_true, fa_b_f, fa_b_t, L288_0, L288_k12, h14, T275 hR hV]
theorem T288u (hR : zR V E) (h14 : E 60 14 = 1) (hV : zV V) (hK : sp_K V ≤ 3) (h : 0 < sp_K V) : zf_ev X (d + 1) 288 (0, [vR 60], [], zH t p q E) = some (some [vI 0], zH t p q E) := by
  simp (disch := omega) only [n32_id, zg_pos, if_pos, if_neg, zu_same, zu_ne, if_true, if_false, ne_eq, not_true_eq_false, not_false_eq_true, true_or, or_true, true_and, and_true, zg_true, fa_b_f, fa_b_t, L288_0, L288_k12, h14, T275 hR hV]
theorem Q289 (hG : zG V E p) (hK : sp_K V ≤ 3) (h1 : 0 < ((V (3)).val : Int)) (h : 0 < sp_K V) : ∃ F, zf_ev X (d + 6) 289 (0, [vR 60], [], zH t p q E) = some (some [vI (sv_throw V)], zH t p q F) ∧ F 60 11 = 0 ∧ F 60 0 = 0 ∧ zFM E F := by
  obtain ⟨hV, -, h142⟩ := hG.yes (by omega)
  have hR2 := hG.R2
  obtain ⟨F, f1, f2, f3⟩ := T287 (X := X) (d := d) (t := t) (p := p) (q := q) hR2 hV hK
  have hf : zFM (zg0 E) F := fun a b g1 g2 => f3 a b (by omega) (by omega) (by omega)
  refine ⟨F, ?_, by rw [f3 _ _ (by omega) (by omega) (by omega)]; rfl, by rw [f3 _ _ (by omega) (by omega) (by omega)]; rfl, zFM.g0.tr hf⟩
  simp (disch := omega) only [n32_id, zg_pos, if_pos, if_neg, zu_same, zu_ne, if_true, if_false, ne_eq, not_true_eq_false, not_false_eq_true, true_or, or_true, true_and, and_true, zg_true, fa_b_f, fa_b_t, L289_0, L289_k1, L289_k5, L289_k13, L289_k16, L289_k23, T177, T288u hR2 h142 hV hK, f1]
theorem Q289n (hG : zG V E p) (h1 : ((V (3)).val : Int) ≤ 0) : ∃ F, zf_ev X (d + 6) 289 (0, [vR 60], [], zH t p q E) = some (some [vI (-1)], zH t p q F) ∧ F 60 11 = 1 ∧ F 60 0 = 0 ∧ zFM E F := by
  have h142 := hG.not h1
  refine RQ_no (F := E) ?_
  simp (disch := omega) only [n32_id, zg_pos, if_pos, if_neg, zu_same, zu_ne, if_true, if_false, ne_eq, not_true_eq_false, not_false_eq_true, true_or, or_true, true_and, and_true, zg_true, fa_b_f, fa_b_t, L289_0, L289_k1, L289_k5, L289_k13, L289_k16, L289_k23, T177, T288n h142, L178_0]
theorem Q289k (hG : zG V E p) (h1 : 0 < ((V (3)).val : Int)) (h : sp_K V = 0) : ∃ F, zf_ev X (d + 6) 289 (0, [vR 60], [], zH t p q E) = some (some [vI (-1)], zH t p q F) ∧ F 60 11 = 6 ∧ F 60 0 = 0 ∧ zFM E F := by
  obtain ⟨hV, -, h142⟩ := hG.yes (by omega)
  have hR2 := hG.R2
  refine RQ_no (F := E) ?_
  simp (disch := omega) only [n32_id, zg_pos, if_pos, if_neg, zu_same, zu_ne, if_true, if_false, ne_eq, not_true_eq_false, not_false_eq_true, true_or, or_true, true_and, and_true, zg_true, fa_b_f, fa_b_t, L289_0, L289_k1, L289_k5, L289_k13, L289_k16, L289_k23, T177, T288k hR2 h142 hV, L178_0]
theorem Q290 (hG : zG V E p) (hK : sp_K V ≤ 3) (h1 : 0 < ((V (3)).val : Int)) (h : 0 < sp_K V) : ∃ F, zf_ev X (d + 6) 290 (0, [vR 60], [], zH t p q E) = some (some [vI (sv_leaves V)], zH t p q F) ∧ F 60 11 = 0 ∧ F 60 0 = 0 ∧ zFM E F := by
  obtain ⟨hV, -, h142⟩ := hG.yes (by omega)
  have hR2 := hG.R2
  obtain ⟨F, f1, f2, f3⟩ := T287 (X := X) (d := d) (t := t) (p := p) (q := q) hR2 hV hK
  have hf : zFM (zg0 E) F := fun a b g1 g2 => f3 a b (by omega) (by omega) (by omega)
  refine ⟨F, ?_, by rw [f3 _ _ (by omega) (by omega) (by omega)]; rfl, by rw [f3 _ _ (by omega) (by omega) (by omega)]; rfl, zFM.g0.tr hf⟩
  simp (disch := omega) only [n32_id, zg_pos, if_pos, if_neg, zu_same, zu_ne, if_true, if_false, ne_eq, not_true_eq_false, not_false_eq_true, true_or, or_true, true_and, and_true, zg_true, fa_b_f, fa_b_t, L290_0, L290_k1, L290_k5, L290_k13, L290_k16, L290_k21, T177, T288u hR2 h142 hV hK, f1, f2]
theorem Q290n (hG : zG V E p) (h1 : ((V (3)).val : Int) ≤ 0) : ∃ F, zf_ev X (d + 6) 290 (0, [vR 60], [], zH t p q E) = some (some [vI (-1)], zH t p q F) ∧ F 60 11 = 1 ∧ F 60 0 = 0 ∧ zFM E F := by
  have h142 := hG.not h1
  refine RQ_no (F := E) ?_
  simp (disch := omega) only [n32_id, zg_pos, if_pos, if_neg, zu_same, zu_ne, if_true, if_false, ne_eq, not_true_eq_false, not_false_eq_true, true_or, or_true, true_and, and_true, zg_true, fa_b_f, fa_b_t, L290_0, L290_k1, L290_k5, L290_k13, L290_k16, L290_k21, T177, T288n h142, L178_0]
theorem Q290k (hG : zG V E p) (h1 : 0 < ((V (3)).val : Int)) (h : sp_K V = 0) : ∃ F, zf_ev X (d + 6) 290 (0, [vR 60], [], zH t p q E) = some (some [vI (-1)], zH t p q F) ∧ F 60 11 = 6 ∧ F 60 0 = 0 ∧ zFM E F := by
  obtain ⟨hV, -, h142⟩ := hG.yes (by omega)
  have hR2 := hG.R2
  refine RQ_no (F := E) ?_
  simp (disch := omega) only [n32_id, zg_pos, if_pos, if_neg, zu_same, zu_ne, if_true, if_false, ne_eq, not_true_eq_false, not_false_eq_true, true_or, or_true, true_and, and_true, zg_true, fa_b_f, fa_b_t, L290_0, L290_k1, L290_k5, L290_k13, L290_k16, L290_k21, T177, T288k hR2 h142 hV, L178_0]
theorem Q291 (hG : zG V E p) (h1 : 0 < ((V (3)).val : Int)) : ∃ F, zf_ev X (d + 3) 291 (0, [vR 60], [], zH t p q E) = some (some [vI (sp_wf0 V (sp_air V))], zH t p q F) ∧ F 60 11 = 0 ∧ F 60 0 = 0 ∧ zFM E F := by
  obtain ⟨hV, -, h142⟩ := hG.yes (by omega)
  have hR2 := hG.R2
  refine ⟨zA V (zg0 E), ?_, by rw [zA_ne (by omega)]; rfl, by rw [zA_ne (by omega)]; rfl, zFM.g0.tr zFM.A⟩
  simp (disch := omega) only [n32_id, zg_pos, if_pos, if_neg, zu_same, zu_ne, if_true, if_false, ne_eq, not_true_eq_false, not_false_eq_true, true_or, or_true, true_and, and_true, zg_true, fa_b_f, fa_b_t, L291_0, L291_k1, L291_k13, L291_k18, L291_k22, T177, h142, T219 hR2, T278 hR2.A hV (zA_ok hV)]
theorem Q291n (hG : zG V E p) (h1 : ((V (3)).val : Int) ≤ 0) : ∃ F, zf_ev X (d + 3) 291 (0, [vR 60], [], zH t p q E) = some (some [vI (-1)], zH t p q F) ∧ F 60 11 = 1 ∧ F 60 0 = 0 ∧ zFM E F := by
  have h142 := hG.not h1
  refine RQ_no (F := E) ?_
  simp (disch := omega) only [n32_id, zg_pos, if_pos, if_neg, zu_same, zu_ne, if_true, if_false, ne_eq, not_true_eq_false, not_false_eq_true, true_or, or_true, true_and, and_true, zg_true, fa_b_f, fa_b_t, L291_0, L291_k1, L291_k13, L291_k18, L291_k22, T177, h142, L178_0]
end FQ

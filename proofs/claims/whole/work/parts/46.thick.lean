/-! the thickest place; the best by two loops -/
def sp_cb (b : Int → Bool) : Nat → Int → Int
  | 0, _ => 0
  | k + 1, i => (if b i = true then 1 else 0) + sp_cb b k (i + 1)
theorem sp_cb_r {b : Int → Bool} : ∀ (k : Nat) (i : Int), 0 ≤ sp_cb b k i ∧ sp_cb b k i ≤ k := by
  intro k
  induction k with
  | zero => intro i; exact ⟨Int.le_refl 0, Int.le_refl 0⟩
  | succ k ih =>
    intro i
    have := ih (i + 1)
    unfold sp_cb
    split <;> omega
/-- (best, most) behind k more of a row of values w with labels l -/
def sp_in (w l : Int → Int) : Nat → Int → Int × Int → Int × Int
  | 0, _, a => a
  | k + 1, i, a => sp_in w l k (i + 1) (if a.2 < w i then (l i, w i) else a)
def sp_out (w l : Int → Int → Int) (n : Nat) (b : Int) : Nat → Int → Int × Int → Int × Int
  | 0, _, a => a
  | k + 1, i, a => sp_out w l n b k (i + 1) (sp_in (w i) (l i) n b a)
theorem sp_in_r {w l : Int → Int} {lo hi : Int} : ∀ (k : Nat) (i : Int) (a : Int × Int), (∀ j, i ≤ j → j < i + k → lo ≤ w j ∧ w j ≤ hi) → lo ≤ a.2 → a.2 ≤ hi → lo ≤ (sp_in w l k i a).2 ∧ (sp_in w l k i a).2 ≤ hi := by
  intro k
  induction k with
  | zero => intro i a _ h1 h2; exact ⟨h1, h2⟩
  | succ k ih =>
    intro i a h h1 h2
    have h3 := h i (by omega) (by omega)
    unfold sp_in
    split
    · exact ih _ _ (fun j a b => h j (by omega) (by omega)) h3.1 h3.2
    · exact ih _ _ (fun j a b => h j (by omega) (by omega)) h1 h2
def sp_at (V : Int → Fin 65537) (c r : Int) : Int := sp_cb (fun m => decide (sp_dc V m = c) && decide (sp_dr V m = r)) (((V (4)).val : Int)).toNat 0
theorem sp_at_r {V : Int → Fin 65537} {c r : Int} (hV : zV V) : 0 ≤ sp_at V c r ∧ sp_at V c r ≤ 6 := by
  have h := sp_cb_r (b := fun m => decide (sp_dc V m = c) && decide (sp_dr V m = r)) (((V (4)).val : Int)).toNat 0
  have hm := hV.mems
  unfold sp_at
  omega
def sv_thick (V : Int → Fin 65537) : Int := (sp_out (fun r c => sp_at V c r) (fun r c => 10 * c + r) (((V (0)).val : Int)).toNat 0 (((V (1)).val : Int)).toNat 1 (-2, 0)).1
section TH
variable {X : Nat × (Nat → Int)} {d : Nat} {t : List (Nat × Nat)} {p q : Nat} {E : Nat → Int → Int} {V : Int → Fin 65537} {o : Nat}
theorem T66 {n c r : Int} (hn : E 15 5 = n) (h1 : 0 ≤ n) (h2 : n < 6) : zf_ev X d 66 (0, [vR 15, vI c, vI r], [], zH t p q E) = some (some [], zH t p q (zu (zu (zu E 17 n c) 18 n r) 15 5 (n + 1))) := by
  rw [L66_0]
  simp (disch := omega) only [n32_id, zg_pos, if_pos, if_neg, zu_same, zu_ne, if_true, if_false, ne_eq, not_true_eq_false, not_false_eq_true, true_or, or_true, true_and, and_true, zg_true, fa_b_f, fa_b_t, hn]
/-- the darts that Places has gathered: n of them -/
def zDa (E : Nat → Int → Int) (n : Int) (f g : Int → Int) : Prop := E 15 5 = n ∧ ∀ i, 0 ≤ i → i < n → E 17 i = f i ∧ E 18 i = g i
theorem zDa.add {n : Int} {f g : Int → Int} (h : zDa E n f g) (h1 : 0 ≤ n) : zDa (zu (zu (zu E 17 n (f n)) 18 n (g n)) 15 5 (n + 1)) (n + 1) f g := by
  refine ⟨zu_same, fun i a b => ⟨?_, ?_⟩⟩
  · rw [zu_ne (by omega), zu_ne (by omega)]
    by_cases e : i = n
    · rw [e, zu_same]
    · rw [zu_ne (by omega)]
      exact (h.2 i a (by omega)).1
  · rw [zu_ne (by omega)]
    by_cases e : i = n
    · rw [e, zu_same]
    · rw [zu_ne (by omega), zu_ne (by omega)]
      exact (h.2 i a (by omega)).2
theorem T68_a (ho : zo o) (hV : zV V) : ∀ (k : Nat) (i : Int) (E : Nat → Int → Int) (j3 j4 j5 j6 : ZV), zC V E o → zDa E i (sp_dc V) (sp_dr V) → 0 ≤ i → i + k = ((V (4)).val : Int) →
    ∃ F, zf_ev X (d + 3) 68 (7, [vR 15, vR o, vI i, j3, j4, j5, j6], [], zH t p q E) = zf_ev X (d + 3) 68 (43, [vR 15, vR o, vI (-2), vI 0, vI 1, j5, j6], [], zH t p q F) ∧ zDa F ((V (4)).val : Int) (sp_dc V) (sp_dr V) ∧ (∀ a9 b9, (a9 ≠ 15 ∨ b9 ≠ 5) → a9 ≠ 17 → a9 ≠ 18 → F a9 b9 = E a9 b9) := by
  have hm := hV.mems
  have ho2 : o = 40 ∨ o = 50 := ho
  intro k
  induction k with
  | zero =>
    intro i E j3 j4 j5 j6 hC hD h1 h2
    refine ⟨E, ?_, ?_, fun a b _ _ _ => rfl⟩
    · rw [L68_7 ho]
      simp (disch := omega) only [n32_id, zg_pos, if_pos, if_neg, zu_same, zu_ne, if_true, if_false, ne_eq, not_true_eq_false, not_false_eq_true, true_or, or_true, true_and, and_true, zg_true, fa_b_f, fa_b_t, hC.mems]
    · rw [show ((V (4)).val : Int) = i by omega]
      exact hD
  | succ k ih =>
    intro i E j3 j4 j5 j6 hC hD h1 h2
    obtain ⟨F, f1, f2, f3⟩ := ih (i + 1) (zu (zu (zu E 17 i (sp_dc V i)) 18 i (sp_dr V i)) 15 5 (i + 1)) j3 j4 j5 j6 (hC.fr (fun a b g1 g2 => by rw [zu_ne (by omega), zu_ne (by omega), zu_ne (by omega)])) (hD.add h1) (by omega) (by omega)
    refine ⟨F, ?_, f2, fun a b g1 g2 g3 => by rw [f3 a b g1 g2 g3, zu_ne g1, zu_ne (Or.inl g3), zu_ne (Or.inl g2)]⟩
    rw [L68_7 ho]
    simp (disch := omega) only [n32_id, zg_pos, if_pos, if_neg, zu_same, zu_ne, if_true, if_false, ne_eq, not_true_eq_false, not_false_eq_true, true_or, or_true, true_and, and_true, zg_true, fa_b_f, fa_b_t, hC.mems, T34 ho hC hV]
    rw [L68_k18 ho, T35 ho hC hV h1 (by omega), L68_k23 ho, T66 hD.1 h1 (by omega), L68_k26 ho, f1]
theorem T69_loop {n c r : Int} {f g : Int → Int} (hD : zDa E n f g) (hn : 0 ≤ n ∧ n ≤ 6) (hc : -1000 ≤ c ∧ c ≤ 1000) (hr : -1000 ≤ r ∧ r ≤ 1000) (hf : ∀ i, 0 ≤ i → i < n → -1000 ≤ f i ∧ f i ≤ 1000 ∧ -1000 ≤ g i ∧ g i ≤ 1000) : ∀ (k : Nat) (i z : Int), 0 ≤ i → i + k = n → zf_ev X d 69 (5, [vR 15, vI c, vI r, vI z, vI i], [], zH t p q E) = some (some [vI (z + sp_cb (fun m => decide (f m = c) && decide (g m = r)) k i)], zH t p q E) := by
  intro k
  induction k with
  | zero =>
    intro i z h1 h2
    have e := hD.1
    rw [L69_5]
    simp (disch := omega) only [n32_id, zg_pos, if_pos, if_neg, zu_same, zu_ne, if_true, if_false, ne_eq, not_true_eq_false, not_false_eq_true, true_or, or_true, true_and, and_true, zg_true, fa_b_f, fa_b_t, e]
    simp [sp_cb]
  | succ k ih =>
    intro i z h1 h2
    have e := hD.1
    obtain ⟨e1, e2⟩ := hD.2 i h1 (by omega)
    have b := hf i h1 (by omega)
    rw [L69_5]
    unfold sp_cb
    by_cases w : f i = c
    · by_cases w2 : g i = r
      · simp (disch := omega) only [n32_id, zg_pos, if_pos, if_neg, zu_same, zu_ne, if_true, if_false, ne_eq, not_true_eq_false, not_false_eq_true, true_or, or_true, true_and, and_true, zg_true, fa_b_f, fa_b_t, e, e1, e2]
        rw [ih _ _ (by omega) (by omega)]
        simp [w, w2, Int.add_assoc]
      · simp (disch := omega) only [n32_id, zg_pos, if_pos, if_neg, zu_same, zu_ne, if_true, if_false, ne_eq, not_true_eq_false, not_false_eq_true, true_or, or_true, true_and, and_true, zg_true, fa_b_f, fa_b_t, e, e1, e2]
        rw [ih _ _ (by omega) (by omega)]
        simp [w, w2]
    · simp (disch := omega) only [n32_id, zg_pos, if_pos, if_neg, zu_same, zu_ne, if_true, if_false, ne_eq, not_true_eq_false, not_false_eq_true, true_or, or_true, true_and, and_true, zg_true, fa_b_f, fa_b_t, e, e1, e2]
      rw [ih _ _ (by omega) (by omega)]
      simp [w]
theorem T69 (hV : zV V) (hD : zDa E ((V (4)).val : Int) (sp_dc V) (sp_dr V)) {c r : Int} (hc : -1000 ≤ c ∧ c ≤ 1000) (hr : -1000 ≤ r ∧ r ≤ 1000) : zf_ev X d 69 (0, [vR 15, vI c, vI r, vJ, vJ], [], zH t p q E) = some (some [vI (sp_at V c r)], zH t p q E) := by
  have hm := hV.mems
  have h1 := hV.cols
  have h2 := hV.rows
  rw [L69_0, T69_loop hD (by omega) hc hr (fun i a b => by have := sp_d_r hV a b; omega) (((V (4)).val : Int)).toNat 0 0 (by omega) (by omega)]
  simp [sp_at]
theorem T68_c (ho : zo o) (hC : zC V E o) (hV : zV V) (hD : zDa E ((V (4)).val : Int) (sp_dc V) (sp_dr V)) {r : Int} (hr : 1 ≤ r ∧ r ≤ 6) : ∀ (k : Nat) (i : Int) (a : Int × Int) (j6 : ZV), 0 ≤ i → i + k = ((V (0)).val : Int) → 0 ≤ a.2 → a.2 ≤ 6 →
    ∃ j5' j6', zf_ev X (d + 3) 68 (55, [vR 15, vR o, vI a.1, vI a.2, vI r, vI i, j6], [], zH t p q E) = zf_ev X (d + 3) 68 (43, [vR 15, vR o, vI (sp_in (fun c => sp_at V c r) (fun c => 10 * c + r) k i a).1, vI (sp_in (fun c => sp_at V c r) (fun c => 10 * c + r) k i a).2, vI (r + 1), j5', j6'], [], zH t p q E) := by
  have hc := hV.cols
  intro k
  induction k with
  | zero =>
    intro i a j6 h1 h2 h3 h4
    refine ⟨vI i, j6, ?_⟩
    rw [L68_55 ho]
    simp (disch := omega) only [n32_id, zg_pos, if_pos, if_neg, zu_same, zu_ne, if_true, if_false, ne_eq, not_true_eq_false, not_false_eq_true, true_or, or_true, true_and, and_true, zg_true, fa_b_f, fa_b_t, hC.cols]
    rfl
  | succ k ih =>
    intro i a j6 h1 h2 h3 h4
    have b := sp_at_r (c := i) (r := r) hV
    rw [L68_55 ho]
    simp (disch := omega) only [n32_id, zg_pos, if_pos, if_neg, zu_same, zu_ne, if_true, if_false, ne_eq, not_true_eq_false, not_false_eq_true, true_or, or_true, true_and, and_true, zg_true, fa_b_f, fa_b_t, hC.cols, T69 hV hD]
    rw [L68_k69 ho]
    unfold sp_in
    by_cases w : a.2 < sp_at V i r
    · simp (disch := omega) only [n32_id, zg_pos, if_pos, if_neg, zu_same, zu_ne, if_true, if_false, ne_eq, not_true_eq_false, not_false_eq_true, true_or, or_true, true_and, and_true, zg_true, fa_b_f, fa_b_t]
      exact ih (i + 1) (10 * i + r, sp_at V i r) _ (by omega) (by omega) b.1 b.2
    · simp (disch := omega) only [n32_id, zg_pos, if_pos, if_neg, zu_same, zu_ne, if_true, if_false, ne_eq, not_true_eq_false, not_false_eq_true, true_or, or_true, true_and, and_true, zg_true, fa_b_f, fa_b_t]
      exact ih (i + 1) a _ (by omega) (by omega) h3 h4
theorem T68_r (ho : zo o) (hC : zC V E o) (hV : zV V) (hD : zDa E ((V (4)).val : Int) (sp_dc V) (sp_dr V)) : ∀ (k : Nat) (r : Int) (a : Int × Int) (j5 j6 : ZV), 1 ≤ r → r + k = ((V (1)).val : Int) + 1 → 0 ≤ a.2 → a.2 ≤ 6 →
    zf_ev X (d + 3) 68 (43, [vR 15, vR o, vI a.1, vI a.2, vI r, j5, j6], [], zH t p q E) = some (some [vI ((sp_out (fun r c => sp_at V c r) (fun r c => 10 * c + r) (((V (0)).val : Int)).toNat 0 k r a).1)], zH t p q E) := by
  have hr := hV.rows
  have hc := hV.cols
  intro k
  induction k with
  | zero =>
    intro r a j5 j6 h1 h2 h3 h4
    rw [L68_43 ho]
    simp (disch := omega) only [n32_id, zg_pos, if_pos, if_neg, zu_same, zu_ne, if_true, if_false, ne_eq, not_true_eq_false, not_false_eq_true, true_or, or_true, true_and, and_true, zg_true, fa_b_f, fa_b_t, hC.rows]
    rfl
  | succ k ih =>
    intro r a j5 j6 h1 h2 h3 h4
    obtain ⟨j5', j6', e⟩ := T68_c (X := X) (d := d) (t := t) (p := p) (q := q) ho hC hV hD (r := r) (by omega) (((V (0)).val : Int)).toNat 0 a j6 (by omega) (by omega) h3 h4
    rw [L68_43 ho]
    simp (disch := omega) only [n32_id, zg_pos, if_pos, if_neg, zu_same, zu_ne, if_true, if_false, ne_eq, not_true_eq_false, not_false_eq_true, true_or, or_true, true_and, and_true, zg_true, fa_b_f, fa_b_t, hC.rows]
    rw [e]
    have b := sp_in_r (w := fun c => sp_at V c r) (l := fun c => 10 * c + r) (lo := 0) (hi := 6) (((V (0)).val : Int)).toNat 0 a (fun j _ _ => sp_at_r hV) h3 h4
    exact ih (r + 1) _ _ _ (by omega) (by omega) b.1 b.2
theorem T68 (ho : zo o) (hC : zC V E o) (hV : zV V) : ∃ F, zf_ev X (d + 3) 68 (0, [vR 15, vR o, vJ, vJ, vJ, vJ, vJ], [], zH t p q E) = some (some [vI (sv_thick V)], zH t p q F) ∧ (∀ a9 b9, (a9 ≠ 15 ∨ b9 ≠ 5) → a9 ≠ 17 → a9 ≠ 18 → F a9 b9 = E a9 b9) := by
  have ho2 : o = 40 ∨ o = 50 := ho
  obtain ⟨F, f1, f2, f3⟩ := T68_a (X := X) (d := d) (t := t) (p := p) (q := q) ho hV (((V (4)).val : Int)).toNat 0 (zu E 15 5 0) vJ vJ vJ vJ (hC.fr (fun a b _ _ => zu_ne (by omega))) ⟨zu_same, fun i a b => by omega⟩ (by omega) (by omega)
  refine ⟨F, ?_, fun a b g1 g2 g3 => by rw [f3 a b g1 g2 g3, zu_ne g1]⟩
  have hC2 : zC V F o := hC.fr (fun a b g1 g2 => by rw [f3 a b (by omega) (by omega) (by omega), zu_ne (by omega)])
  rw [L68_0 ho, f1]
  exact T68_r ho hC2 hV f2 (((V (1)).val : Int)).toNat 1 (-2, 0) vJ vJ (by omega) (by omega) (by decide) (by decide)
theorem Q128 (hG : zG V E p) (h1 : 0 < ((V (3)).val : Int)) : ∃ F, zf_ev X (d + 4) 128 (0, [vR 0], [], zH t p q E) = some (some [vI (sv_thick V)], zH t p q F) ∧ F 0 10 = 0 ∧ zFC E F := by
  obtain ⟨hV, -, -⟩ := hG.yes (by omega)
  obtain ⟨hp, hC, hR, -⟩ := hG
  have hC2 : zC V (zu E 0 10 0) p := hC.fco hp zFC.u
  obtain ⟨F, f1, f2⟩ := T68 (X := X) (d := d) (t := t) (p := p) (q := q) hp hC2 hV
  refine ⟨F, ?_, by rw [f2 _ _ (by omega) (by omega) (by omega)]; exact zu_same, fun a b g1 g2 g3 g4 => by rw [f2 a b (by omega) (by omega) (by omega), zu_ne g4]⟩
  simp (disch := omega) only [n32_id, zg_pos, if_pos, if_neg, zu_same, zu_ne, if_true, if_false, ne_eq, not_true_eq_false, not_false_eq_true, true_or, or_true, true_and, and_true, zg_true, fa_b_f, fa_b_t, L128_0 hp, L128_k5, L128_k8 hp, L128_k24, T21t hp hC, T168t, f1]
theorem Q128n (hG : zG V E p) (h1 : ((V (3)).val : Int) ≤ 0) : ∃ F, zf_ev X (d + 4) 128 (0, [vR 0], [], zH t p q E) = some (some [vI (-1)], zH t p q F) ∧ F 0 10 = 1 ∧ zFC E F := by
  obtain ⟨hp, hC, hR, -⟩ := hG
  refine ⟨zu E 0 10 1, ?_, zu_same, zFC.u⟩
  simp (disch := omega) only [n32_id, zg_pos, if_pos, if_neg, zu_same, zu_ne, if_true, if_false, ne_eq, not_true_eq_false, not_false_eq_true, true_or, or_true, true_and, and_true, zg_true, fa_b_f, fa_b_t, L128_0 hp, L128_k5, L128_k8 hp, L128_k24, T21f hp hC, T168f]
/-- the reference's -/
theorem T249_m (hV : zV V) {best most r c : Int} (hr : 1 ≤ r ∧ r ≤ 6) (hc : 0 ≤ c ∧ c < 12) : ∀ (k : Nat) (i z : Int) (E : Nat → Int → Int), zR V E → 0 ≤ i → i + k = ((V (4)).val : Int) → 0 ≤ z → z ≤ i →
    ∃ F, zf_ev X (d + 3) 249 (54, [vR 60, vI best, vI most, vI r, vI c, vI z, vI i], [], zH t p q E) = zf_ev X (d + 3) 249 (54, [vR 60, vI best, vI most, vI r, vI c, vI (z + sp_cb (fun m => decide (sp_dc V m = c) && decide (sp_dr V m = r)) k i), vI ((V (4)).val : Int)], [], zH t p q F) ∧ (∀ a9 b9, a9 ≠ 68 → F a9 b9 = E a9 b9) := by
  have hm := hV.mems
  have h1 := hV.cols
  have h2 := hV.rows
  intro k
  induction k with
  | zero =>
    intro i z E hR g1 g2 g3 g4
    refine ⟨E, ?_, fun a b _ => rfl⟩
    rw [show ((V (4)).val : Int) = i by omega]
    simp [sp_cb]
  | succ k ih =>
    intro i z E hR g1 g2 g3 g4
    have b := sp_d_r hV g1 (m := i) (by omega)
    unfold sp_cb
    by_cases w : sp_dc V i = c
    · by_cases w2 : sp_dr V i = r
      · obtain ⟨F, f1, f2⟩ := ih (i + 1) (z + 1) (zA V E) hR.A (by omega) (by omega) (by omega) (by omega)
        refine ⟨F, ?_, fun a b g => by rw [f2 a b g, zA_ne g]⟩
        rw [L249_54]
        simp (disch := omega) only [n32_id, zg_pos, if_pos, if_neg, zu_same, zu_ne, if_true, if_false, ne_eq, not_true_eq_false, not_false_eq_true, true_or, or_true, true_and, and_true, zg_true, fa_b_f, fa_b_t, hR.r, T227 hR hV]
        rw [L249_k70]
        simp (disch := omega) only [n32_id, zg_pos, if_pos, if_neg, zu_same, zu_ne, if_true, if_false, ne_eq, not_true_eq_false, not_false_eq_true, true_or, or_true, true_and, and_true, zg_true, fa_b_f, fa_b_t, T228 hR.A hV]
        rw [L249_k81]
        simp (disch := omega) only [n32_id, zg_pos, if_pos, if_neg, zu_same, zu_ne, if_true, if_false, ne_eq, not_true_eq_false, not_false_eq_true, true_or, or_true, true_and, and_true, zg_true, fa_b_f, fa_b_t, f1]
        simp [w, w2, Int.add_assoc]
      · obtain ⟨F, f1, f2⟩ := ih (i + 1) (z + 0) (zA V E) hR.A (by omega) (by omega) (by omega) (by omega)
        refine ⟨F, ?_, fun a b g => by rw [f2 a b g, zA_ne g]⟩
        rw [L249_54]
        simp (disch := omega) only [n32_id, zg_pos, if_pos, if_neg, zu_same, zu_ne, if_true, if_false, ne_eq, not_true_eq_false, not_false_eq_true, true_or, or_true, true_and, and_true, zg_true, fa_b_f, fa_b_t, hR.r, T227 hR hV]
        rw [L249_k70]
        simp (disch := omega) only [n32_id, zg_pos, if_pos, if_neg, zu_same, zu_ne, if_true, if_false, ne_eq, not_true_eq_false, not_false_eq_true, true_or, or_true, true_and, and_true, zg_true, fa_b_f, fa_b_t, T228 hR.A hV]
        rw [L249_k81]
        simp (disch := omega) only [n32_id, zg_pos, if_pos, if_neg, zu_same, zu_ne, if_true, if_false, ne_eq, not_true_eq_false, not_false_eq_true, true_or, or_true, true_and, and_true, zg_true, fa_b_f, fa_b_t, f1]
        simp [w, w2]
    · obtain ⟨F, f1, f2⟩ := ih (i + 1) (z + 0) (zA V E) hR.A (by omega) (by omega) (by omega) (by omega)
      refine ⟨F, ?_, fun a b g => by rw [f2 a b g, zA_ne g]⟩
      rw [L249_54]
      simp (disch := omega) only [n32_id, zg_pos, if_pos, if_neg, zu_same, zu_ne, if_true, if_false, ne_eq, not_true_eq_false, not_false_eq_true, true_or, or_true, true_and, and_true, zg_true, fa_b_f, fa_b_t, hR.r, T227 hR hV]
      rw [L249_k70]
      simp (disch := omega) only [n32_id, zg_pos, if_pos, if_neg, zu_same, zu_ne, if_true, if_false, ne_eq, not_true_eq_false, not_false_eq_true, true_or, or_true, true_and, and_true, zg_true, fa_b_f, fa_b_t, f1]
      simp [w]
theorem T249_c (hV : zV V) {r : Int} (hr : 1 ≤ r ∧ r ≤ 6) : ∀ (k : Nat) (i : Int) (a : Int × Int) (E : Nat → Int → Int) (j5 j6 : ZV), zR V E → 0 ≤ i → i + k = ((V (0)).val : Int) → 0 ≤ a.2 → a.2 ≤ 6 →
    ∃ F j4' j5' j6', zf_ev X (d + 3) 249 (37, [vR 60, vI a.1, vI a.2, vI r, vI i, j5, j6], [], zH t p q E) = zf_ev X (d + 3) 249 (24, [vR 60, vI (sp_in (fun c => sp_at V c r) (fun c => 10 * c + r) k i a).1, vI (sp_in (fun c => sp_at V c r) (fun c => 10 * c + r) k i a).2, vI (r + 1), j4', j5', j6'], [], zH t p q F) ∧ (∀ a9 b9, a9 ≠ 68 → F a9 b9 = E a9 b9) := by
  have hc := hV.cols
  have hm := hV.mems
  intro k
  induction k with
  | zero =>
    intro i a E j5 j6 hR h1 h2 h3 h4
    refine ⟨E, vI i, j5, j6, ?_, fun a b _ => rfl⟩
    rw [L249_37]
    simp (disch := omega) only [n32_id, zg_pos, if_pos, if_neg, zu_same, zu_ne, if_true, if_false, ne_eq, not_true_eq_false, not_false_eq_true, true_or, or_true, true_and, and_true, zg_true, fa_b_f, fa_b_t, hR.r]
    rfl
  | succ k ih =>
    intro i a E j5 j6 hR h1 h2 h3 h4
    have b := sp_at_r (c := i) (r := r) hV
    obtain ⟨F, f1, f2⟩ := T249_m (X := X) (d := d) (t := t) (p := p) (q := q) hV (best := a.1) (most := a.2) hr (c := i) (by omega) (((V (4)).val : Int)).toNat 0 0 E hR (by omega) (by omega) (by omega) (by omega)
    have hR2 : zR V F := hR.fr (fun b => f2 _ _ (by omega)) (fun b => f2 _ _ (by omega))
    have e0 : 0 + sp_cb (fun m => decide (sp_dc V m = i) && decide (sp_dr V m = r)) (((V (4)).val : Int)).toNat 0 = sp_at V i r := by rw [Int.zero_add]; rfl
    rw [e0] at f1
    by_cases w : a.2 < sp_at V i r
    · obtain ⟨H, j4', j5', j6', g1, g2⟩ := ih (i + 1) (10 * i + r, sp_at V i r) F (vI (sp_at V i r)) (vI ((V (4)).val : Int)) hR2 (by omega) (by omega) b.1 b.2
      refine ⟨H, j4', j5', j6', ?_, fun a b g => by rw [g2 a b g, f2 a b g]⟩
      rw [L249_37]
      simp (disch := omega) only [n32_id, zg_pos, if_pos, if_neg, zu_same, zu_ne, if_true, if_false, ne_eq, not_true_eq_false, not_false_eq_true, true_or, or_true, true_and, and_true, zg_true, fa_b_f, fa_b_t, hR.r, f1]
      rw [L249_54]
      simp (disch := omega) only [n32_id, zg_pos, if_pos, if_neg, zu_same, zu_ne, if_true, if_false, ne_eq, not_true_eq_false, not_false_eq_true, true_or, or_true, true_and, and_true, zg_true, fa_b_f, fa_b_t, hR2.r]
      unfold sp_in
      rw [if_pos w]
      exact g1
    · obtain ⟨H, j4', j5', j6', g1, g2⟩ := ih (i + 1) a F (vI (sp_at V i r)) (vI ((V (4)).val : Int)) hR2 (by omega) (by omega) h3 h4
      refine ⟨H, j4', j5', j6', ?_, fun a b g => by rw [g2 a b g, f2 a b g]⟩
      rw [L249_37]
      simp (disch := omega) only [n32_id, zg_pos, if_pos, if_neg, zu_same, zu_ne, if_true, if_false, ne_eq, not_true_eq_false, not_false_eq_true, true_or, or_true, true_and, and_true, zg_true, fa_b_f, fa_b_t, hR.r, f1]
      rw [L249_54]
      simp (disch := omega) only [n32_id, zg_pos, if_pos, if_neg, zu_same, zu_ne, if_true, if_false, ne_eq, not_true_eq_false, not_false_eq_true, true_or, or_true, true_and, and_true, zg_true, fa_b_f, fa_b_t, hR2.r]
      unfold sp_in
      rw [if_neg w]
      exact g1
theorem T249_r (hV : zV V) : ∀ (k : Nat) (r : Int) (a : Int × Int) (E : Nat → Int → Int) (j4 j5 j6 : ZV), zR V E → 1 ≤ r → r + k = ((V (1)).val : Int) + 1 → 0 ≤ a.2 → a.2 ≤ 6 →
    ∃ F, zf_ev X (d + 3) 249 (24, [vR 60, vI a.1, vI a.2, vI r, j4, j5, j6], [], zH t p q E) = some (some [vI ((sp_out (fun r c => sp_at V c r) (fun r c => 10 * c + r) (((V (0)).val : Int)).toNat 0 k r a).1)], zH t p q F) ∧ (∀ a9 b9, a9 ≠ 68 → F a9 b9 = E a9 b9) := by
  have hr := hV.rows
  have hc := hV.cols
  intro k
  induction k with
  | zero =>
    intro r a E j4 j5 j6 hR h1 h2 h3 h4
    refine ⟨E, ?_, fun a b _ => rfl⟩
    rw [L249_24]
    simp (disch := omega) only [n32_id, zg_pos, if_pos, if_neg, zu_same, zu_ne, if_true, if_false, ne_eq, not_true_eq_false, not_false_eq_true, true_or, or_true, true_and, and_true, zg_true, fa_b_f, fa_b_t, hR.r]
    rfl
  | succ k ih =>
    intro r a E j4 j5 j6 hR h1 h2 h3 h4
    obtain ⟨F, j4', j5', j6', f1, f2⟩ := T249_c (X := X) (d := d) (t := t) (p := p) (q := q) hV (r := r) (by omega) (((V (0)).val : Int)).toNat 0 a E j5 j6 hR (by omega) (by omega) h3 h4
    have hR2 : zR V F := hR.fr (fun b => f2 _ _ (by omega)) (fun b => f2 _ _ (by omega))
    have b := sp_in_r (w := fun c => sp_at V c r) (l := fun c => 10 * c + r) (lo := 0) (hi := 6) (((V (0)).val : Int)).toNat 0 a (fun j _ _ => sp_at_r hV) h3 h4
    obtain ⟨H, g1, g2⟩ := ih (r + 1) _ F j4' j5' j6' hR2 (by omega) (by omega) b.1 b.2
    refine ⟨H, ?_, fun a b g => by rw [g2 a b g, f2 a b g]⟩
    rw [L249_24]
    simp (disch := omega) only [n32_id, zg_pos, if_pos, if_neg, zu_same, zu_ne, if_true, if_false, ne_eq, not_true_eq_false, not_false_eq_true, true_or, or_true, true_and, and_true, zg_true, fa_b_f, fa_b_t, hR.r, f1]
    exact g1
theorem Q249 (hG : zG V E p) (h1 : 0 < ((V (3)).val : Int)) : ∃ F, zf_ev X (d + 3) 249 (0, [vR 60, vJ, vJ, vJ, vJ, vJ, vJ], [], zH t p q E) = some (some [vI (sv_thick V)], zH t p q F) ∧ F 60 11 = 0 ∧ F 60 0 = 0 ∧ zFM E F := by
  obtain ⟨hV, -, h142⟩ := hG.yes (by omega)
  have hR2 := hG.R2
  have hr := hV.rows
  obtain ⟨F, f1, f2⟩ := T249_r (X := X) (d := d) (t := t) (p := p) (q := q) hV (((V (1)).val : Int)).toNat 1 (-2, 0) (zg0 E) vJ vJ vJ hR2 (by omega) (by omega) (by decide) (by decide)
  have hf : zFM (zg0 E) F := fun a b g1 g2 => f2 a b (by omega)
  refine ⟨F, ?_, by rw [f2 _ _ (by omega)]; rfl, by rw [f2 _ _ (by omega)]; rfl, zFM.g0.tr hf⟩
  simp (disch := omega) only [n32_id, zg_pos, if_pos, if_neg, zu_same, zu_ne, if_true, if_false, ne_eq, not_true_eq_false, not_false_eq_true, true_or, or_true, true_and, and_true, zg_true, fa_b_f, fa_b_t, L249_0, L249_k1, L249_k13, L249_k70, L249_k81, T177, h142, f1]
  rfl
theorem Q249n (hG : zG V E p) (h1 : ((V (3)).val : Int) ≤ 0) : ∃ F, zf_ev X (d + 3) 249 (0, [vR 60, vJ, vJ, vJ, vJ, vJ, vJ], [], zH t p q E) = some (some [vI (-1)], zH t p q F) ∧ F 60 11 = 1 ∧ F 60 0 = 0 ∧ zFM E F := by
  have h142 := hG.not h1
  refine RQ_no (F := E) ?_
  simp (disch := omega) only [n32_id, zg_pos, if_pos, if_neg, zu_same, zu_ne, if_true, if_false, ne_eq, not_true_eq_false, not_false_eq_true, true_or, or_true, true_and, and_true, zg_true, fa_b_f, fa_b_t, L249_0, L249_k1, L249_k13, L249_k70, L249_k81, T177, h142, L178_0]
end TH

/-! sessions by draws -/
def sp_nx (x : Int) : Int := (75 * x + 74).tmod 65537
def sp_er (e n : Int) : Int := if n < e then -1 else if n < 2 * e then 1 else 0
def sp_dw (x : Int) : Nat → Int
  | 0 => x
  | k + 1 => sp_nx (sp_dw x k)
theorem sp_nx_r {x : Int} (h : 0 ≤ x) : 0 ≤ sp_nx x ∧ sp_nx x < 65537 := tmod_r (by omega) (by omega)
theorem sp_dw_r {x : Int} (h : 0 ≤ x ∧ x ≤ 65536) : ∀ k, 0 ≤ sp_dw x k ∧ sp_dw x k ≤ 65536 := by
  intro k
  induction k with
  | zero => exact h
  | succ k ih =>
    have := sp_nx_r ih.1
    unfold sp_dw
    omega
theorem sp_er_r {e n : Int} : -1 ≤ sp_er e n ∧ sp_er e n ≤ 1 := by
  unfold sp_er
  split
  · omega
  · split <;> omega
def sp_sv (V : Int → Fin 65537) (x m : Int) : Int := sp_bal V m (sp_er ((V (30 + 5 * m + 4)).val : Int) ((sp_dw x (m.toNat + 1)).tmod 200))
def sp_sw (V : Int → Fin 65537) (x : Int) : Int := sp_win (sp_cn (sp_sv V x) ((V (4)).val : Int)) ((V (3)).val : Int)
def sp_sx (V : Int → Fin 65537) (x : Int) : Int := sp_dw x (((V (4)).val : Int)).toNat
def sp_many (g f : Int → Int) : Nat → Int → Int
  | 0, _ => 0
  | k + 1, x => g x + sp_many g f k (f x)
def sp_s1 (V : Int → Fin 65537) (s x : Int) : Int := if sp_sw V x = s then 1 else 0
def sp_s2 (V : Int → Fin 65537) (x : Int) : Int := sp_nn (sp_sv V x) (((V (4)).val : Int)).toNat 0
def sp_s3 (V : Int → Fin 65537) (m x : Int) : Int := if 0 ≤ sp_sw V x ∧ sp_sv V x m = sp_sw V x then 1 else 0
section SE
variable {X : Nat × (Nat → Int)} {d : Nat} {t : List (Nat × Nat)} {p q : Nat} {E : Nat → Int → Int} {V : Int → Fin 65537} {o : Nat}
theorem sp_sv_r (hV : zV V) {x m : Int} : sp_sv V x m = -2 ∨ 0 ≤ sp_sv V x m ∧ sp_sv V x m < ((V (3)).val : Int) := sp_bal_r hV
theorem sp_sw_r (hV : zV V) {x : Int} : sp_sw V x = -2 ∨ 0 ≤ sp_sw V x ∧ sp_sw V x < ((V (3)).val : Int) := sp_win_r (by have := hV.spks; omega)
theorem T8 {x e : Int} (hx : E 33 6 = x) (h1 : 0 ≤ x ∧ x ≤ 65536) (he : 0 ≤ e ∧ e ≤ 100) : zf_ev X d 8 (0, [vR 33, vI e, vJ], [], zH t p q E) = some (some [vI (sp_er e ((sp_nx x).tmod 200))], zH t p q (zu E 33 6 (sp_nx x))) := by
  have e0 : (75 * x + 74).tmod 65537 = sp_nx x := rfl
  have r1 := sp_nx_r h1.1
  have r2 := tmod_r (a := sp_nx x) (b := 200) r1.1 (by omega)
  rw [L8_0]
  unfold sp_er
  by_cases g1 : (sp_nx x).tmod 200 < e
  · simp (disch := omega) only [n32_id, zg_pos, if_pos, if_neg, zu_same, zu_ne, if_true, if_false, ne_eq, not_true_eq_false, not_false_eq_true, true_or, or_true, true_and, and_true, zg_true, fa_b_f, fa_b_t, hx, e0]
  · by_cases g2 : (sp_nx x).tmod 200 < 2 * e
    · simp (disch := omega) only [n32_id, zg_pos, if_pos, if_neg, zu_same, zu_ne, if_true, if_false, ne_eq, not_true_eq_false, not_false_eq_true, true_or, or_true, true_and, and_true, zg_true, fa_b_f, fa_b_t, hx, e0]
    · simp (disch := omega) only [n32_id, zg_pos, if_pos, if_neg, zu_same, zu_ne, if_true, if_false, ne_eq, not_true_eq_false, not_false_eq_true, true_or, or_true, true_and, and_true, zg_true, fa_b_f, fa_b_t, hx, e0]
theorem T6_b (ho : zo o) (hV : zV V) {x : Int} (hx : 0 ≤ x ∧ x ≤ 65536) : ∀ (k : Nat) (i : Int) (E : Nat → Int → Int), zC V E o → zBl V E 35 ((V (4)).val : Int) → 0 ≤ i → i + k = ((V (4)).val : Int) → E 33 6 = sp_dw x i.toNat → (∀ j, 0 ≤ j → j < i → E 37 j = sp_sv V x j) → (∀ s, 0 ≤ s → s < 4 → 0 ≤ E 36 s ∧ E 36 s ≤ i) →
    ∃ F, zf_ev X (d + 1) 6 (22, [vR 33, vR o, vI i], [], zH t p q E) = zf_ev X (d + 1) 6 (22, [vR 33, vR o, vI ((V (4)).val : Int)], [], zH t p q F) ∧ F 33 6 = sp_sx V x ∧ (∀ j, 0 ≤ j → j < ((V (4)).val : Int) → F 37 j = sp_sv V x j) ∧ (∀ s, 0 ≤ s → s < 4 → F 36 s = E 36 s + sp_cnt (sp_sv V x) s k i) ∧ F 33 5 = E 33 5 + sp_nn (sp_sv V x) k i ∧ (∀ a9 b9, (a9 ≠ 33 ∨ b9 ≠ 5) → (a9 ≠ 33 ∨ b9 ≠ 6) → a9 ≠ 36 → a9 ≠ 37 → F a9 b9 = E a9 b9) := by
  have hm := hV.mems
  have hk := hV.spks
  have ho2 : o = 40 ∨ o = 50 := ho
  intro k
  induction k with
  | zero =>
    intro i E hC hB h1 h2 h6 h37 h36
    have e : i = ((V (4)).val : Int) := by omega
    subst e
    exact ⟨E, rfl, h6, h37, fun s _ _ => by simp [sp_cnt], by simp [sp_nn], fun a b _ _ _ _ => rfl⟩
  | succ k ih =>
    intro i E hC hB h1 h2 h6 h37 h36
    have hq := hV.mem i h1 (by omega)
    have hd := sp_dw_r hx i.toNat
    have r1 := sp_nx_r hd.1
    have er := sp_er_r (e := ((V (30 + 5 * i + 4)).val : Int)) (n := (sp_nx (sp_dw x i.toNat)).tmod 200)
    have hv := sp_sv_r hV (x := x) (m := i)
    have e1 : sp_bal V i (sp_er ((V (30 + 5 * i + 4)).val : Int) ((sp_nx (sp_dw x i.toNat)).tmod 200)) = sp_sv V x i := rfl
    have e2 : (i + 1).toNat = i.toNat + 1 := by omega
    have e8 := T8 (X := X) (d := d) (t := t) (p := p) (q := q) (E := E) (e := ((V (30 + 5 * i + 4)).val : Int)) h6 hd (by omega)
    have hB1 : zBl V (zu E 33 6 (sp_nx (sp_dw x i.toNat))) 35 ((V (4)).val : Int) := hB.fr (fun b => zu_ne (by omega))
    have c0 : ∀ s, sp_cnt (sp_sv V x) s (k + 1) i = (if sp_sv V x i = s then 1 else 0) + sp_cnt (sp_sv V x) s k (i + 1) := fun s => rfl
    have c1 : sp_nn (sp_sv V x) (k + 1) i = (if sp_sv V x i = -2 then 0 else 1) + sp_nn (sp_sv V x) k (i + 1) := rfl
    rcases hv with hv | hv
    · obtain ⟨F, f1, f2, f3, f4, f5, f6⟩ := ih (i + 1) (zu (zu E 33 6 (sp_nx (sp_dw x i.toNat))) 37 i (sp_sv V x i)) (hC.fr (fun a b _ _ => by rw [zu_ne (by omega), zu_ne (by omega)])) (hB1.fr (fun b => zu_ne (by omega))) (by omega) (by omega) (by rw [zu_ne (by omega), zu_same, e2]; rfl) (fun j a b => by
        by_cases g : j = i
        · rw [g, zu_same]
        · rw [zu_ne (by omega), zu_ne (by omega)]
          exact h37 j a (by omega)) (fun s a b => by rw [zu_ne (by omega), zu_ne (by omega)]; have := h36 s a b; omega)
      refine ⟨F, ?_, f2, f3, fun s a b => ?_, ?_, fun a b y1 y2 y3 y4 => by rw [f6 a b y1 y2 y3 y4, zu_ne (Or.inl y4), zu_ne y2]⟩
      · rw [L6_22 ho]
        simp (disch := omega) only [n32_id, zg_pos, if_pos, if_neg, zu_same, zu_ne, if_true, if_false, ne_eq, not_true_eq_false, not_false_eq_true, true_or, or_true, true_and, and_true, zg_true, fa_b_f, fa_b_t, hC.mems, hC.errs, e8]
        rw [L6_k47 ho, T2 (b := 34) (Or.inr rfl) hV hB1 h1 (by omega) er, e1, L6_k50 ho]
        simp (disch := omega) only [n32_id, zg_pos, if_pos, if_neg, zu_same, zu_ne, if_true, if_false, ne_eq, not_true_eq_false, not_false_eq_true, true_or, or_true, true_and, and_true, zg_true, fa_b_f, fa_b_t]
        exact f1
      · rw [f4 s a b, c0, if_neg (by omega), zu_ne (by omega), zu_ne (by omega)]
        omega
      · rw [f5, c1, if_pos hv, zu_ne (by omega), zu_ne (by omega)]
        omega
    · have h5 := h36 (sp_sv V x i) hv.1 (by omega)
      obtain ⟨F, f1, f2, f3, f4, f5, f6⟩ := ih (i + 1) (zu (zu (zu (zu E 33 6 (sp_nx (sp_dw x i.toNat))) 37 i (sp_sv V x i)) 36 (sp_sv V x i) (E 36 (sp_sv V x i) + 1)) 33 5 (E 33 5 + 1)) (hC.fr (fun a b _ _ => by rw [zu_ne (by omega), zu_ne (by omega), zu_ne (by omega), zu_ne (by omega)])) (hB1.fr (fun b => by rw [zu_ne (by omega), zu_ne (by omega), zu_ne (by omega)])) (by omega) (by omega) (by rw [zu_ne (by omega), zu_ne (by omega), zu_ne (by omega), zu_same, e2]; rfl) (fun j a b => by
        rw [zu_ne (by omega), zu_ne (by omega)]
        by_cases g : j = i
        · rw [g, zu_same]
        · rw [zu_ne (by omega), zu_ne (by omega)]
          exact h37 j a (by omega)) (fun s a b => by
        rw [zu_ne (by omega)]
        have := h36 s a b
        by_cases g : s = sp_sv V x i
        · rw [g, zu_same]; omega
        · rw [zu_ne (Or.inr g), zu_ne (by omega), zu_ne (by omega)]; omega)
      refine ⟨F, ?_, f2, f3, fun s a b => ?_, ?_, fun a b y1 y2 y3 y4 => by rw [f6 a b y1 y2 y3 y4, zu_ne y1, zu_ne (Or.inl y3), zu_ne (Or.inl y4), zu_ne y2]⟩
      · rw [L6_22 ho]
        simp (disch := omega) only [n32_id, zg_pos, if_pos, if_neg, zu_same, zu_ne, if_true, if_false, ne_eq, not_true_eq_false, not_false_eq_true, true_or, or_true, true_and, and_true, zg_true, fa_b_f, fa_b_t, hC.mems, hC.errs, e8]
        rw [L6_k47 ho, T2 (b := 34) (Or.inr rfl) hV hB1 h1 (by omega) er, e1, L6_k50 ho]
        simp (disch := omega) only [n32_id, zg_pos, if_pos, if_neg, zu_same, zu_ne, if_true, if_false, ne_eq, not_true_eq_false, not_false_eq_true, true_or, or_true, true_and, and_true, zg_true, fa_b_f, fa_b_t]
        exact f1
      · rw [f4 s a b, c0, zu_ne (by omega)]
        by_cases g : sp_sv V x i = s
        · rw [if_pos g, g, zu_same]
          omega
        · rw [if_neg g, zu_ne (Or.inr (fun z => g z.symm)), zu_ne (by omega), zu_ne (by omega)]
          omega
      · rw [f5, c1, if_neg (by omega), zu_same]
        omega
theorem T6_a (ho : zo o) : ∀ (k : Nat) (i : Int) (E : Nat → Int → Int), 0 ≤ i → i + k = 4 → zf_ev X (d + 1) 6 (2, [vR 33, vR o, vI i], [], zH t p q E) = zf_ev X (d + 1) 6 (22, [vR 33, vR o, vI 0], [], zH t p q (zfill E 36 i 4 (fun _ => 0))) := by
  intro k
  induction k with
  | zero =>
    intro i E h1 h2
    rw [L6_2 ho, zfill_nil (by omega)]
    simp (disch := omega) only [n32_id, zg_pos, if_pos, if_neg, zu_same, zu_ne, if_true, if_false, ne_eq, not_true_eq_false, not_false_eq_true, true_or, or_true, true_and, and_true, zg_true, fa_b_f, fa_b_t]
  | succ k ih =>
    intro i E h1 h2
    rw [L6_2 ho]
    simp (disch := omega) only [n32_id, zg_pos, if_pos, if_neg, zu_same, zu_ne, if_true, if_false, ne_eq, not_true_eq_false, not_false_eq_true, true_or, or_true, true_and, and_true, zg_true, fa_b_f, fa_b_t]
    rw [ih _ _ (by omega) (by omega), zfill_stepc (by omega)]
theorem T7_loop {M w : Int} {f : Int → Int} (hM : 0 ≤ M ∧ M ≤ 6) (hw : 0 ≤ w ∧ w < 4) (hf : ∀ j, 0 ≤ j → j < M → -2 ≤ f j ∧ f j < 4) : ∀ (k : Nat) (i : Int) (E : Nat → Int → Int), (∀ j, 0 ≤ j → j < M → E 37 j = f j) → 0 ≤ i → i + k = M →
    ∃ F, zf_ev X d 7 (2, [vR 33, vI M, vI w, vI i], [], zH t p q E) = some (some [], zH t p q F) ∧ (∀ j, F 39 j = E 39 j + (if (i ≤ j ∧ j < M) ∧ f j = w then 1 else 0)) ∧ (∀ a9 b9, a9 ≠ 39 → F a9 b9 = E a9 b9) := by
  intro k
  induction k with
  | zero =>
    intro i E h37 h1 h2
    refine ⟨E, ?_, fun j => by rw [if_neg (by omega)]; omega, fun a b _ => rfl⟩
    rw [L7_2]
    simp (disch := omega) only [n32_id, zg_pos, if_pos, if_neg, zu_same, zu_ne, if_true, if_false, ne_eq, not_true_eq_false, not_false_eq_true, true_or, or_true, true_and, and_true, zg_true, fa_b_f, fa_b_t]
  | succ k ih =>
    intro i E h37 h1 h2
    have e := h37 i h1 (by omega)
    have b := hf i h1 (by omega)
    by_cases g : f i = w
    · obtain ⟨F, f1, f2, f3⟩ := ih (i + 1) (zu E 39 i (E 39 i + 1)) (fun j a b => by rw [zu_ne (by omega)]; exact h37 j a b) (by omega) (by omega)
      refine ⟨F, ?_, fun j => ?_, fun a b y => by rw [f3 a b y, zu_ne (Or.inl y)]⟩
      · rw [L7_2]
        simp (disch := omega) only [n32_id, zg_pos, if_pos, if_neg, zu_same, zu_ne, if_true, if_false, ne_eq, not_true_eq_false, not_false_eq_true, true_or, or_true, true_and, and_true, zg_true, fa_b_f, fa_b_t, e]
        exact f1
      · rw [f2 j]
        by_cases g2 : j = i
        · subst g2
          rw [zu_same, if_neg (by omega), if_pos ⟨⟨by omega, by omega⟩, g⟩]
          omega
        · rw [zu_ne (Or.inr g2)]
          by_cases g3 : (i + 1 ≤ j ∧ j < M) ∧ f j = w
          · rw [if_pos g3, if_pos ⟨⟨by omega, g3.1.2⟩, g3.2⟩]
          · rw [if_neg g3, if_neg (fun z => g3 ⟨⟨by omega, z.1.2⟩, z.2⟩)]
    · obtain ⟨F, f1, f2, f3⟩ := ih (i + 1) E h37 (by omega) (by omega)
      refine ⟨F, ?_, fun j => ?_, f3⟩
      · rw [L7_2]
        simp (disch := omega) only [n32_id, zg_pos, if_pos, if_neg, zu_same, zu_ne, if_true, if_false, ne_eq, not_true_eq_false, not_false_eq_true, true_or, or_true, true_and, and_true, zg_true, fa_b_f, fa_b_t, e]
        exact f1
      · rw [f2 j]
        by_cases g3 : (i + 1 ≤ j ∧ j < M) ∧ f j = w
        · rw [if_pos g3, if_pos ⟨⟨by omega, g3.1.2⟩, g3.2⟩]
        · rw [if_neg g3, if_neg]
          rintro ⟨⟨z1, z2⟩, z3⟩
          by_cases g4 : j = i
          · rw [g4] at z3; exact g z3
          · exact g3 ⟨⟨by omega, z2⟩, z3⟩
theorem T6 (ho : zo o) (hC : zC V E o) (hV : zV V) {x : Int} (hx : 0 ≤ x ∧ x ≤ 65536) (hB : zBl V E 35 ((V (4)).val : Int)) (h6 : E 33 6 = x) : ∃ F, zf_ev X (d + 1) 6 (0, [vR 33, vR o, vJ], [], zH t p q E) = some (some [vI (sp_sw V x)], zH t p q F) ∧ F 33 6 = sp_sx V x ∧ F 33 5 = E 33 5 + sp_s2 V x ∧ (∀ s, 0 ≤ s → s < 4 → F 38 s = E 38 s + sp_s1 V s x) ∧ (∀ m, 0 ≤ m → m < ((V (4)).val : Int) → F 39 m = E 39 m + sp_s3 V m x) ∧ (∀ a9 b9, (a9 ≠ 33 ∨ b9 ≠ 5) → (a9 ≠ 33 ∨ b9 ≠ 6) → a9 ≠ 36 → a9 ≠ 37 → a9 ≠ 38 → a9 ≠ 39 → F a9 b9 = E a9 b9) := by
  have hm := hV.mems
  have hk := hV.spks
  have ho2 : o = 40 ∨ o = 50 := ho
  obtain ⟨F, f1, f2, f3, f4, f5, f6⟩ := T6_b (X := X) (d := d) (t := t) (p := p) (q := q) ho hV hx (((V (4)).val : Int)).toNat 0 (zfill E 36 0 4 (fun _ => 0)) (hC.fr (fun a b _ _ => zfill_ne (by omega))) (hB.fr (fun b => zfill_ne (by omega))) (by omega) (by omega) (by rw [zfill_ne (by omega)]; exact h6) (fun j a b => by omega) (fun s a b => by rw [zfill_in a b]; omega)
  have hC2 : zC V F o := hC.fr (fun a b _ _ => by rw [f6 a b (by omega) (by omega) (by omega) (by omega), zfill_ne (by omega)])
  have e36 : ∀ s, 0 ≤ s → s < 4 → F 36 s = sp_cn (sp_sv V x) ((V (4)).val : Int) s := fun s a b => by
    rw [f4 s a b, zfill_in a b]
    unfold sp_cn
    omega
  have e43 := T43 (X := X) (d := d) (t := t) (p := p) (q := q) (E := F) (a := 36) (n := 4) rfl (w := sp_cn (sp_sv V x) ((V (4)).val : Int)) (N := ((V (3)).val : Int)) (by omega) (fun s a b => by
    have := sp_cn_r (f := sp_sv V x) (n := ((V (4)).val : Int)) (s := s) (by omega)
    exact ⟨e36 s a (by omega), by omega, by omega⟩)
  have e43 : zf_ev X d 43 (0, [vR 36, vI (((V (3)).val : Int)), vJ, vJ, vJ], [], zH t p q F) = some (some [vI (sp_sw V x)], zH t p q F) := e43
  have hfr : ∀ a b, (a ≠ 33 ∨ b ≠ 5) → (a ≠ 33 ∨ b ≠ 6) → a ≠ 36 → a ≠ 37 → F a b = E a b := fun a b y1 y2 y3 y4 => by rw [f6 a b y1 y2 y3 y4, zfill_ne y3]
  have f5' : F 33 5 = E 33 5 + sp_s2 V x := by rw [f5, zfill_ne (by omega)]; rfl
  rcases sp_sw_r hV (x := x) with hw | hw
  · refine ⟨F, ?_, f2, f5', fun s a b => ?_, fun m a b => ?_, fun a b y1 y2 y3 y4 y5 y6 => hfr a b y1 y2 y3 y4⟩
    · rw [L6_0 ho, T6_a ho 4 0 E (by omega) (by omega), f1, L6_22 ho]
      simp (disch := omega) only [n32_id, zg_pos, if_pos, if_neg, zu_same, zu_ne, if_true, if_false, ne_eq, not_true_eq_false, not_false_eq_true, true_or, or_true, true_and, and_true, zg_true, fa_b_f, fa_b_t, hC2.mems, hC2.spks, e43]
      rw [L6_k102 ho]
      simp (disch := omega) only [n32_id, zg_pos, if_pos, if_neg, zu_same, zu_ne, if_true, if_false, ne_eq, not_true_eq_false, not_false_eq_true, true_or, or_true, true_and, and_true, zg_true, fa_b_f, fa_b_t]
    · unfold sp_s1
      rw [hfr _ _ (by omega) (by omega) (by omega) (by omega), if_neg (by omega)]
      omega
    · unfold sp_s3
      rw [hfr _ _ (by omega) (by omega) (by omega) (by omega), if_neg (by omega)]
      omega
  · obtain ⟨G, g1, g2, g3⟩ := T7_loop (X := X) (d := d) (t := t) (p := p) (q := q) (M := ((V (4)).val : Int)) (w := sp_sw V x) (f := sp_sv V x) (by omega) (by omega) (fun j a b => by have := sp_sv_r hV (x := x) (m := j); omega) (((V (4)).val : Int)).toNat 0 (zu F 38 (sp_sw V x) (F 38 (sp_sw V x) + 1)) (fun j a b => by rw [zu_ne (by omega)]; exact f3 j a b) (by omega) (by omega)
    refine ⟨G, ?_, ?_, ?_, fun s a b => ?_, fun m a b => ?_, fun a b y1 y2 y3 y4 y5 y6 => ?_⟩
    · rw [L6_0 ho, T6_a ho 4 0 E (by omega) (by omega), f1, L6_22 ho]
      simp (disch := omega) only [n32_id, zg_pos, if_pos, if_neg, zu_same, zu_ne, if_true, if_false, ne_eq, not_true_eq_false, not_false_eq_true, true_or, or_true, true_and, and_true, zg_true, fa_b_f, fa_b_t, hC2.mems, hC2.spks, e43]
      rw [L6_k102 ho]
      simp (disch := omega) only [n32_id, zg_pos, if_pos, if_neg, zu_same, zu_ne, if_true, if_false, ne_eq, not_true_eq_false, not_false_eq_true, true_or, or_true, true_and, and_true, zg_true, fa_b_f, fa_b_t, hC2.mems]
      rw [L7_0, g1, L6_k126]
    · rw [g3 _ _ (by omega), zu_ne (by omega)]; exact f2
    · rw [g3 _ _ (by omega), zu_ne (by omega)]; exact f5'
    · rw [g3 _ _ (by omega)]
      unfold sp_s1
      by_cases g : sp_sw V x = s
      · rw [if_pos g, g, zu_same, hfr _ _ (by omega) (by omega) (by omega) (by omega)]
      · rw [if_neg g, zu_ne (Or.inr (fun z => g z.symm)), hfr _ _ (by omega) (by omega) (by omega) (by omega)]
        omega
    · rw [g2 m, zu_ne (by omega), hfr _ _ (by omega) (by omega) (by omega) (by omega)]
      unfold sp_s3
      by_cases g : sp_sv V x m = sp_sw V x
      · rw [if_pos ⟨⟨a, b⟩, g⟩, if_pos ⟨hw.1, g⟩]
      · rw [if_neg (fun z => g z.2), if_neg (fun z => g z.2)]
    · rw [g3 a b y6, zu_ne (Or.inl y5), hfr a b y1 y2 y3 y4]
theorem T5_a {j1 j2 : ZV} (hj : zm_isL j2 = false) : ∀ (k : Nat) (i : Int) (E : Nat → Int → Int), 0 ≤ i → i + k = 4 → zf_ev X (d + 4) 5 (20, [vR 33, j1, j2, vI i], [], zH t p q E) = zf_ev X (d + 4) 5 (40, [vR 33, j1, j2, vI 0], [], zH t p q (zfill E 38 i 4 (fun _ => 0))) := by
  intro k
  induction k with
  | zero =>
    intro i E h1 h2
    rw [L5_20 hj, zfill_nil (by omega)]
    simp (disch := omega) only [n32_id, zg_pos, if_pos, if_neg, zu_same, zu_ne, if_true, if_false, ne_eq, not_true_eq_false, not_false_eq_true, true_or, or_true, true_and, and_true, zg_true, fa_b_f, fa_b_t]
  | succ k ih =>
    intro i E h1 h2
    rw [L5_20 hj]
    simp (disch := omega) only [n32_id, zg_pos, if_pos, if_neg, zu_same, zu_ne, if_true, if_false, ne_eq, not_true_eq_false, not_false_eq_true, true_or, or_true, true_and, and_true, zg_true, fa_b_f, fa_b_t]
    rw [ih _ _ (by omega) (by omega), zfill_stepc (by omega)]
theorem T5_b {j1 j2 : ZV} (hj : zm_isL j2 = false) : ∀ (k : Nat) (i : Int) (E : Nat → Int → Int), 0 ≤ i → i + k = 6 → zf_ev X (d + 4) 5 (40, [vR 33, j1, j2, vI i], [], zH t p q E) = some (some [], zH t p q (zfill E 39 i 6 (fun _ => 0))) := by
  intro k
  induction k with
  | zero =>
    intro i E h1 h2
    rw [L5_40 hj, zfill_nil (by omega)]
    simp (disch := omega) only [n32_id, zg_pos, if_pos, if_neg, zu_same, zu_ne, if_true, if_false, ne_eq, not_true_eq_false, not_false_eq_true, true_or, or_true, true_and, and_true, zg_true, fa_b_f, fa_b_t]
  | succ k ih =>
    intro i E h1 h2
    rw [L5_40 hj]
    simp (disch := omega) only [n32_id, zg_pos, if_pos, if_neg, zu_same, zu_ne, if_true, if_false, ne_eq, not_true_eq_false, not_false_eq_true, true_or, or_true, true_and, and_true, zg_true, fa_b_f, fa_b_t]
    rw [ih _ _ (by omega) (by omega), zfill_stepc (by omega)]
theorem T5 (ho : zo o) (hC : zC V E o) (hV : zV V) {x : Int} : ∃ F, zf_ev X (d + 4) 5 (0, [vR 33, vR o, vI x, vJ], [], zH t p q E) = some (some [], zH t p q F) ∧ zBl V F 35 ((V (4)).val : Int) ∧ F 33 6 = x ∧ F 33 5 = 0 ∧ (∀ s, 0 ≤ s → s < 4 → F 38 s = 0) ∧ (∀ m, 0 ≤ m → m < 6 → F 39 m = 0) ∧ (∀ a9 b9, (a9 ≠ 33 ∨ b9 ≠ 5) → (a9 ≠ 33 ∨ b9 ≠ 6) → a9 ≠ 35 → a9 ≠ 38 → a9 ≠ 39 → F a9 b9 = E a9 b9) := by
  obtain ⟨F, f1, f2, f3⟩ := T1 (X := X) (d := d) (t := t) (p := p) (q := q) (b := 34) (Or.inr rfl) ho hC hV
  refine ⟨zfill (zfill (zu (zu F 33 6 x) 33 5 0) 38 0 4 (fun _ => 0)) 39 0 6 (fun _ => 0), ?_, f2.fr (fun b => by rw [zfill_ne (by omega), zfill_ne (by omega), zu_ne (by omega), zu_ne (by omega)]), ?_, ?_, fun s a b => ?_, fun m a b => zfill_in a b, fun a b y1 y2 y3 y4 y5 => by rw [zfill_ne y5, zfill_ne y4, zu_ne y1, zu_ne y2, f3 a b y3]⟩
  · rw [L5_0 ho, f1, L5_k5, T5_a rfl 4 0 _ (by omega) (by omega), T5_b rfl 6 0 _ (by omega) (by omega)]
  · rw [zfill_ne (by omega), zfill_ne (by omega), zu_ne (by omega), zu_same]
  · rw [zfill_ne (by omega), zfill_ne (by omega), zu_same]
  · rw [zfill_ne (by omega), zfill_in a b]
theorem sp_sx_r {x : Int} (hx : 0 ≤ x ∧ x ≤ 65536) : 0 ≤ sp_sx V x ∧ sp_sx V x ≤ 65536 := sp_dw_r hx _
theorem T4_loop (ho : zo o) (hV : zV V) {n : Int} {j2 : ZV} (hn : 0 ≤ n ∧ n ≤ 1000) : ∀ (k : Nat) (i x : Int) (E : Nat → Int → Int), zC V E o → zBl V E 35 ((V (4)).val : Int) → E 33 6 = x → 0 ≤ x ∧ x ≤ 65536 → 0 ≤ i → i + k = n →
    ∃ F, zf_ev X (d + 5) 4 (9, [vR 33, vR o, j2, vI n, vI i], [], zH t p q E) = some (some [], zH t p q F) ∧ F 33 5 = E 33 5 + sp_many (sp_s2 V) (sp_sx V) k x ∧ (∀ s, 0 ≤ s → s < 4 → F 38 s = E 38 s + sp_many (sp_s1 V s) (sp_sx V) k x) ∧ (∀ m, 0 ≤ m → m < ((V (4)).val : Int) → F 39 m = E 39 m + sp_many (sp_s3 V m) (sp_sx V) k x) ∧ (∀ a9 b9, (a9 ≠ 33 ∨ b9 ≠ 5) → (a9 ≠ 33 ∨ b9 ≠ 6) → a9 ≠ 36 → a9 ≠ 37 → a9 ≠ 38 → a9 ≠ 39 → F a9 b9 = E a9 b9) := by
  have ho2 : o = 40 ∨ o = 50 := ho
  intro k
  induction k with
  | zero =>
    intro i x E hC hB h6 hx h1 h2
    refine ⟨E, ?_, by simp [sp_many], fun s _ _ => by simp [sp_many], fun m _ _ => by simp [sp_many], fun a b _ _ _ _ _ _ => rfl⟩
    rw [L4_9 ho]
    simp (disch := omega) only [n32_id, zg_pos, if_pos, if_neg, zu_same, zu_ne, if_true, if_false, ne_eq, not_true_eq_false, not_false_eq_true, true_or, or_true, true_and, and_true, zg_true, fa_b_f, fa_b_t]
  | succ k ih =>
    intro i x E hC hB h6 hx h1 h2
    obtain ⟨G, g1, g2, g3, g4, g5, g6⟩ := T6 (X := X) (d := d + 3) (t := t) (p := p) (q := q) ho hC hV hx hB h6
    obtain ⟨F, f1, f2, f3, f4, f5⟩ := ih (i + 1) (sp_sx V x) G (hC.fr (fun a b _ _ => g6 a b (by omega) (by omega) (by omega) (by omega) (by omega) (by omega))) (hB.fr (fun b => g6 _ _ (by omega) (by omega) (by omega) (by omega) (by omega) (by omega))) g2 (sp_sx_r hx) (by omega) (by omega)
    refine ⟨F, ?_, ?_, fun s a b => ?_, fun m a b => ?_, fun a b y1 y2 y3 y4 y5 y6 => by rw [f5 a b y1 y2 y3 y4 y5 y6, g6 a b y1 y2 y3 y4 y5 y6]⟩
    · rw [L4_9 ho]
      simp (disch := omega) only [n32_id, zg_pos, if_pos, if_neg, zu_same, zu_ne, if_true, if_false, ne_eq, not_true_eq_false, not_false_eq_true, true_or, or_true, true_and, and_true, zg_true, fa_b_f, fa_b_t]
      rw [g1, L4_k17 ho]
      exact f1
    · rw [f2, g3]; simp only [sp_many]; omega
    · rw [f3 s a b, g4 s a b]; simp only [sp_many]; omega
    · rw [f4 m a b, g5 m a b]; simp only [sp_many]; omega
theorem T4 (ho : zo o) (hC : zC V E o) (hV : zV V) {x n : Int} (hx : 0 ≤ x ∧ x ≤ 65536) (hn : 0 ≤ n ∧ n ≤ 1000) : ∃ F, zf_ev X (d + 5) 4 (0, [vR 33, vR o, vI x, vI n, vJ], [], zH t p q E) = some (some [], zH t p q F) ∧ F 33 5 = sp_many (sp_s2 V) (sp_sx V) n.toNat x ∧ (∀ s, 0 ≤ s → s < 4 → F 38 s = sp_many (sp_s1 V s) (sp_sx V) n.toNat x) ∧ (∀ m, 0 ≤ m → m < ((V (4)).val : Int) → F 39 m = sp_many (sp_s3 V m) (sp_sx V) n.toNat x) ∧ (∀ a9 b9, (a9 < 33 ∨ 39 < a9) → F a9 b9 = E a9 b9) := by
  have hm := hV.mems
  have ho2 : o = 40 ∨ o = 50 := ho
  obtain ⟨G, g1, g2, g3, g4, g5, g6, g7⟩ := T5 (X := X) (d := d) (t := t) (p := p) (q := q) ho hC hV (x := x)
  obtain ⟨F, f1, f2, f3, f4, f5⟩ := T4_loop (X := X) (d := d) (t := t) (p := p) (q := q) ho hV (j2 := vI x) hn n.toNat 0 x G (hC.fr (fun a b _ _ => g7 a b (by omega) (by omega) (by omega) (by omega) (by omega))) g2 g3 hx (by omega) (by omega)
  refine ⟨F, ?_, by rw [f2, g4]; omega, fun s a b => by rw [f3 s a b, g5 s a b]; omega, fun m a b => by rw [f4 m a b, g6 m a (by omega)]; omega, fun a b y => by rw [f5 a b (by omega) (by omega) (by omega) (by omega) (by omega) (by omega), g7 a b (by omega) (by omega) (by omega) (by omega) (by omega)]⟩
  rw [L4_0 ho, g1, L4_k3 ho]
  exact f1
theorem T169t {v l h : Int} (h1 : l ≤ v) (h2 : v ≤ h) (h3 : -2147483648 ≤ l) (h4 : h < 2147483648) : zf_ev X d 169 (0, [vR 0, vI v, vI l, vI h, vJ], [], zH t p q E) = some (some [vI 1], zH t p q (zu E 0 10 0)) := by simp (disch := omega) only [n32_id, zg_pos, if_pos, if_neg, zu_same, zu_ne, if_true, if_false, ne_eq, not_true_eq_false, not_false_eq_true, true_or, or_true, true_and, and_true, zg_true, fa_b_f, fa_b_t, L169_0]
theorem T169f {v l h : Int} (h1 : v < l ∨ h < v) (h3 : -2147483648 ≤ l ∧ l < 2147483648) (h4 : -2147483648 ≤ h ∧ h < 2147483648) (h5 : -2147483648 ≤ v ∧ v < 2147483648) : zf_ev X d 169 (0, [vR 0, vI v, vI l, vI h, vJ], [], zH t p q E) = some (some [vI 0], zH t p q (zu E 0 10 2)) := by
  by_cases g : v < l <;> simp (disch := omega) only [n32_id, zg_pos, if_pos, if_neg, zu_same, zu_ne, if_true, if_false, ne_eq, not_true_eq_false, not_false_eq_true, true_or, or_true, true_and, and_true, zg_true, fa_b_f, fa_b_t, L169_0]
theorem zu_zu {o : Nat} {k a b : Int} : zu (zu E o k a) o k b = zu E o k b := by
  funext x y
  unfold zu
  split <;> rfl
theorem T170t {x n : Int} (h1 : 0 ≤ x) (h2 : x ≤ 65536) (h3 : 1 ≤ n) (h4 : n ≤ 90) : zf_ev X (d + 1) 170 (0, [vR 0, vI x, vI n], [], zH t p q E) = some (some [vI 1], zH t p q (zu E 0 10 0)) := by
  simp (disch := omega) only [n32_id, zg_pos, if_pos, if_neg, zu_same, zu_ne, if_true, if_false, ne_eq, not_true_eq_false, not_false_eq_true, true_or, or_true, true_and, and_true, zg_true, fa_b_f, fa_b_t, L170_0, L170_k6, L170_k17, T169t, zu_zu]
theorem T170f {x n : Int} (h1 : -2147483648 ≤ x ∧ x < 2147483648) (h2 : -2147483648 ≤ n ∧ n < 2147483648) (h : (x < 0 ∨ 65536 < x) ∨ n < 1 ∨ 90 < n) : zf_ev X (d + 1) 170 (0, [vR 0, vI x, vI n], [], zH t p q E) = some (some [vI 0], zH t p q (zu E 0 10 2)) := by
  by_cases g : x < 0 ∨ 65536 < x
  · simp (disch := omega) only [n32_id, zg_pos, if_pos, if_neg, zu_same, zu_ne, if_true, if_false, ne_eq, not_true_eq_false, not_false_eq_true, true_or, or_true, true_and, and_true, zg_true, fa_b_f, fa_b_t, L170_0, L170_k6, L170_k17, T169f]
  · simp (disch := omega) only [n32_id, zg_pos, if_pos, if_neg, zu_same, zu_ne, if_true, if_false, ne_eq, not_true_eq_false, not_false_eq_true, true_or, or_true, true_and, and_true, zg_true, fa_b_f, fa_b_t, L170_0, L170_k6, L170_k17, T169t, T169f, zu_zu]
/-- sessions, darts, lucky -/
theorem Q151 (hG : zG V E p) {s x n : Int} (h1 : 0 ≤ s) (h2 : s < ((V (3)).val : Int)) (h3 : 0 ≤ x) (h4 : x ≤ 65536) (h5 : 1 ≤ n) (h6 : n ≤ 90) : ∃ F, zf_ev X (d + 6) 151 (0, [vR 0, vI s, vI x, vI n], [], zH t p q E) = some (some [vI (sp_many (sp_s1 V s) (sp_sx V) n.toNat x)], zH t p q F) ∧ F 0 10 = 0 ∧ zFC E F := by
  obtain ⟨hV, -, -⟩ := hG.yes (by omega)
  obtain ⟨hp, hC, hR, -⟩ := hG
  have hk := hV.spks
  have hC2 : zC V (zu E 0 10 0) p := hC.fco hp zFC.u
  obtain ⟨F, f1, f2, f3, f4, f5⟩ := T4 (X := X) (d := d) (t := t) (p := p) (q := q) hp hC2 hV (x := x) (n := n) (by omega) (by omega)
  refine ⟨F, ?_, by rw [f5 _ _ (by omega)]; exact zu_same, fun a b g1 g2 g3 g4 => by rw [f5 a b (by omega), zu_ne g4]⟩
  simp (disch := omega) only [n32_id, zg_pos, if_pos, if_neg, zu_same, zu_ne, if_true, if_false, ne_eq, not_true_eq_false, not_false_eq_true, true_or, or_true, true_and, and_true, zg_true, fa_b_f, fa_b_t, L151_0 hp, L151_k6, L151_k9, L151_k18 hp, L151_k36, T22t hp hC, T168t, T170t, zu_zu, f1, f3]
theorem Q151n (hG : zG V E p) {s x n : Int} (b1 : -2147483648 ≤ s ∧ s < 2147483648) (h : s < 0 ∨ ((V (3)).val : Int) ≤ s) : ∃ F, zf_ev X (d + 6) 151 (0, [vR 0, vI s, vI x, vI n], [], zH t p q E) = some (some [vI (-1)], zH t p q F) ∧ F 0 10 = 1 ∧ zFC E F := by
  obtain ⟨hp, hC, hR, -⟩ := hG
  refine ⟨zu E 0 10 1, ?_, zu_same, zFC.u⟩
  simp (disch := omega) only [n32_id, zg_pos, if_pos, if_neg, zu_same, zu_ne, if_true, if_false, ne_eq, not_true_eq_false, not_false_eq_true, true_or, or_true, true_and, and_true, zg_true, fa_b_f, fa_b_t, L151_0 hp, L151_k6, L151_k9, L151_k18 hp, L151_k36, T22f hp hC, T168f]
theorem Q151m (hG : zG V E p) {s x n : Int} (h1 : 0 ≤ s) (h2 : s < ((V (3)).val : Int)) (b2 : -2147483648 ≤ x ∧ x < 2147483648) (b3 : -2147483648 ≤ n ∧ n < 2147483648) (h : (x < 0 ∨ 65536 < x) ∨ n < 1 ∨ 90 < n) : ∃ F, zf_ev X (d + 6) 151 (0, [vR 0, vI s, vI x, vI n], [], zH t p q E) = some (some [vI (-1)], zH t p q F) ∧ F 0 10 = 2 ∧ zFC E F := by
  obtain ⟨hp, hC, hR, -⟩ := hG
  refine ⟨zu E 0 10 2, ?_, zu_same, zFC.u⟩
  simp (disch := omega) only [n32_id, zg_pos, if_pos, if_neg, zu_same, zu_ne, if_true, if_false, ne_eq, not_true_eq_false, not_false_eq_true, true_or, or_true, true_and, and_true, zg_true, fa_b_f, fa_b_t, L151_0 hp, L151_k6, L151_k9, L151_k18 hp, L151_k36, T22t hp hC, T168t, T170f, zu_zu]
theorem Q152 (hG : zG V E p) {x n : Int} (h2 : 0 < ((V (3)).val : Int)) (h3 : 0 ≤ x) (h4 : x ≤ 65536) (h5 : 1 ≤ n) (h6 : n ≤ 90) : ∃ F, zf_ev X (d + 6) 152 (0, [vR 0, vI x, vI n], [], zH t p q E) = some (some [vI (sp_many (sp_s2 V) (sp_sx V) n.toNat x)], zH t p q F) ∧ F 0 10 = 0 ∧ zFC E F := by
  obtain ⟨hV, -, -⟩ := hG.yes (by omega)
  obtain ⟨hp, hC, hR, -⟩ := hG
  have hC2 : zC V (zu E 0 10 0) p := hC.fco hp zFC.u
  obtain ⟨F, f1, f2, f3, f4, f5⟩ := T4 (X := X) (d := d) (t := t) (p := p) (q := q) hp hC2 hV (x := x) (n := n) (by omega) (by omega)
  refine ⟨F, ?_, by rw [f5 _ _ (by omega)]; exact zu_same, fun a b g1 g2 g3 g4 => by rw [f5 a b (by omega), zu_ne g4]⟩
  simp (disch := omega) only [n32_id, zg_pos, if_pos, if_neg, zu_same, zu_ne, if_true, if_false, ne_eq, not_true_eq_false, not_false_eq_true, true_or, or_true, true_and, and_true, zg_true, fa_b_f, fa_b_t, L152_0 hp, L152_k5, L152_k8, L152_k17 hp, L152_k35, T21t hp hC, T168t, T170t, zu_zu, f1, f2]
theorem Q152n (hG : zG V E p) {x n : Int} (h : ((V (3)).val : Int) ≤ 0) : ∃ F, zf_ev X (d + 6) 152 (0, [vR 0, vI x, vI n], [], zH t p q E) = some (some [vI (-1)], zH t p q F) ∧ F 0 10 = 1 ∧ zFC E F := by
  obtain ⟨hp, hC, hR, -⟩ := hG
  refine ⟨zu E 0 10 1, ?_, zu_same, zFC.u⟩
  simp (disch := omega) only [n32_id, zg_pos, if_pos, if_neg, zu_same, zu_ne, if_true, if_false, ne_eq, not_true_eq_false, not_false_eq_true, true_or, or_true, true_and, and_true, zg_true, fa_b_f, fa_b_t, L152_0 hp, L152_k5, L152_k8, L152_k17 hp, L152_k35, T21f hp hC, T168f]
theorem Q152m (hG : zG V E p) {x n : Int} (h2 : 0 < ((V (3)).val : Int)) (b2 : -2147483648 ≤ x ∧ x < 2147483648) (b3 : -2147483648 ≤ n ∧ n < 2147483648) (h : (x < 0 ∨ 65536 < x) ∨ n < 1 ∨ 90 < n) : ∃ F, zf_ev X (d + 6) 152 (0, [vR 0, vI x, vI n], [], zH t p q E) = some (some [vI (-1)], zH t p q F) ∧ F 0 10 = 2 ∧ zFC E F := by
  obtain ⟨hp, hC, hR, -⟩ := hG
  refine ⟨zu E 0 10 2, ?_, zu_same, zFC.u⟩
  simp (disch := omega) only [n32_id, zg_pos, if_pos, if_neg, zu_same, zu_ne, if_true, if_false, ne_eq, not_true_eq_false, not_false_eq_true, true_or, or_true, true_and, and_true, zg_true, fa_b_f, fa_b_t, L152_0 hp, L152_k5, L152_k8, L152_k17 hp, L152_k35, T21t hp hC, T168t, T170f, zu_zu]
theorem Q153 (hG : zG V E p) {m x n : Int} (h1 : 0 ≤ m) (h2 : m < ((V (4)).val : Int)) (h3 : 0 ≤ x) (h4 : x ≤ 65536) (h5 : 1 ≤ n) (h6 : n ≤ 90) : ∃ F, zf_ev X (d + 6) 153 (0, [vR 0, vI m, vI x, vI n], [], zH t p q E) = some (some [vI (sp_many (sp_s3 V m) (sp_sx V) n.toNat x)], zH t p q F) ∧ F 0 10 = 0 ∧ zFC E F := by
  obtain ⟨hV, -, -⟩ := hG.yes (by omega)
  obtain ⟨hp, hC, hR, -⟩ := hG
  have hm := hV.mems
  have hC2 : zC V (zu E 0 10 0) p := hC.fco hp zFC.u
  obtain ⟨F, f1, f2, f3, f4, f5⟩ := T4 (X := X) (d := d) (t := t) (p := p) (q := q) hp hC2 hV (x := x) (n := n) (by omega) (by omega)
  refine ⟨F, ?_, by rw [f5 _ _ (by omega)]; exact zu_same, fun a b g1 g2 g3 g4 => by rw [f5 a b (by omega), zu_ne g4]⟩
  simp (disch := omega) only [n32_id, zg_pos, if_pos, if_neg, zu_same, zu_ne, if_true, if_false, ne_eq, not_true_eq_false, not_false_eq_true, true_or, or_true, true_and, and_true, zg_true, fa_b_f, fa_b_t, L153_0 hp, L153_k6, L153_k9, L153_k18 hp, L153_k36, T23t hp hC, T168t, T170t, zu_zu, f1, f4]
theorem Q153n (hG : zG V E p) {m x n : Int} (b1 : -2147483648 ≤ m ∧ m < 2147483648) (h : m < 0 ∨ ((V (4)).val : Int) ≤ m) : ∃ F, zf_ev X (d + 6) 153 (0, [vR 0, vI m, vI x, vI n], [], zH t p q E) = some (some [vI (-1)], zH t p q F) ∧ F 0 10 = 1 ∧ zFC E F := by
  obtain ⟨hp, hC, hR, -⟩ := hG
  refine ⟨zu E 0 10 1, ?_, zu_same, zFC.u⟩
  simp (disch := omega) only [n32_id, zg_pos, if_pos, if_neg, zu_same, zu_ne, if_true, if_false, ne_eq, not_true_eq_false, not_false_eq_true, true_or, or_true, true_and, and_true, zg_true, fa_b_f, fa_b_t, L153_0 hp, L153_k6, L153_k9, L153_k18 hp, L153_k36, T23f hp hC, T168f]
theorem Q153m (hG : zG V E p) {m x n : Int} (h1 : 0 ≤ m) (h2 : m < ((V (4)).val : Int)) (b2 : -2147483648 ≤ x ∧ x < 2147483648) (b3 : -2147483648 ≤ n ∧ n < 2147483648) (h : (x < 0 ∨ 65536 < x) ∨ n < 1 ∨ 90 < n) : ∃ F, zf_ev X (d + 6) 153 (0, [vR 0, vI m, vI x, vI n], [], zH t p q E) = some (some [vI (-1)], zH t p q F) ∧ F 0 10 = 2 ∧ zFC E F := by
  obtain ⟨hp, hC, hR, -⟩ := hG
  refine ⟨zu E 0 10 2, ?_, zu_same, zFC.u⟩
  simp (disch := omega) only [n32_id, zg_pos, if_pos, if_neg, zu_same, zu_ne, if_true, if_false, ne_eq, not_true_eq_false, not_false_eq_true, true_or, or_true, true_and, and_true, zg_true, fa_b_f, fa_b_t, L153_0 hp, L153_k6, L153_k9, L153_k18 hp, L153_k36, T23t hp hC, T168t, T170f, zu_zu]
end SE

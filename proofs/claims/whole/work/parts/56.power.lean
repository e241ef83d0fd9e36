/-! power -/
def sp_psum (f : Int → Int) : Nat → Int → Int
  | 0, _ => 0
  | k + 1, i => f i + sp_psum f k (i + 1)
theorem sp_psum_r {f : Int → Int} (h : ∀ j, 0 ≤ f j ∧ f j ≤ 1) : ∀ (k : Nat) (i : Int), 0 ≤ sp_psum f k i ∧ sp_psum f k i ≤ k := by
  intro k
  induction k with
  | zero => intro i; exact ⟨Int.le_refl 0, Int.le_refl 0⟩
  | succ k ih =>
    intro i
    have := ih (i + 1)
    have := h i
    unfold sp_psum
    omega
theorem sp_bit_or0 : ∀ (S : Fin 64) (m j : Fin 6), sp_bit (zm_ior (S.val : Int) (zm_ishl 1 (m.val : Int))) (j.val : Int) = (sp_bit (S.val : Int) (j.val : Int) || decide ((j.val : Int) = (m.val : Int))) := by decide +kernel
theorem zm_bit0 : ∀ (S : Fin 64) (m : Fin 6), zm_iand (zm_ishr (S.val : Int) (m.val : Int)) 1 = fa_b (sp_bit (S.val : Int) (m.val : Int)) := by decide +kernel
theorem sp_bit_or {S m j : Int} (h1 : 0 ≤ S ∧ S < 64) (h2 : 0 ≤ m ∧ m < 6) (h3 : 0 ≤ j ∧ j < 6) : sp_bit (zm_ior S (zm_ishl 1 m)) j = (sp_bit S j || decide (j = m)) := by
  have h := sp_bit_or0 ⟨S.toNat, by omega⟩ ⟨m.toNat, by omega⟩ ⟨j.toNat, by omega⟩
  simp only [Int.toNat_of_nonneg h1.1, Int.toNat_of_nonneg h2.1, Int.toNat_of_nonneg h3.1] at h
  exact h
theorem zm_bit {S m : Int} (h1 : 0 ≤ S ∧ S < 64) (h2 : 0 ≤ m ∧ m < 6) : zm_iand (zm_ishr S m) 1 = fa_b (sp_bit S m) := by
  have h := zm_bit0 ⟨S.toNat, by omega⟩ ⟨m.toNat, by omega⟩
  simp only [Int.toNat_of_nonneg h1.1, Int.toNat_of_nonneg h2.1] at h
  exact h
theorem zm_shl_r {M : Int} (h1 : 0 ≤ M) (h2 : M ≤ 6) : 1 ≤ zm_ishl 1 M ∧ zm_ishl 1 M ≤ 64 := by
  have e1 : M = 0 ∨ M = 1 ∨ M = 2 ∨ M = 3 ∨ M = 4 ∨ M = 5 ∨ M = 6 := by omega
  rcases e1 with rfl | rfl | rfl | rfl | rfl | rfl | rfl <;> decide
theorem sp_cnt_upd {g g' : Int → Int} {m s : Int} (hs : 0 ≤ s) (hm : g m = -2) : ∀ (k : Nat) (i : Int), (∀ j, i ≤ j → j < i + k → j ≠ m → g' j = g j) → sp_cnt g' s k i = sp_cnt g s k i + (if (i ≤ m ∧ m < i + k) ∧ g' m = s then 1 else 0) := by
  intro k
  induction k with
  | zero =>
    intro i h
    rw [if_neg (by omega)]
    rfl
  | succ k ih =>
    intro i h
    have h2 := ih (i + 1) (fun j a b c => h j (by omega) (by omega) c)
    have e1 : sp_cnt g' s (k + 1) i = (if g' i = s then 1 else 0) + sp_cnt g' s k (i + 1) := rfl
    have e2 : sp_cnt g s (k + 1) i = (if g i = s then 1 else 0) + sp_cnt g s k (i + 1) := rfl
    rw [e1, e2, h2]
    by_cases w : i = m
    · subst w
      rw [hm, if_neg (show ¬ ((-2 : Int) = s) by omega), if_neg (show ¬ ((i + 1 ≤ i ∧ i < i + 1 + (k : Int)) ∧ g' i = s) by omega)]
      by_cases w2 : g' i = s
      · rw [if_pos w2, if_pos ⟨⟨by omega, by omega⟩, w2⟩]
        omega
      · rw [if_neg w2, if_neg (fun z => w2 z.2)]
        omega
    · rw [h i (by omega) (by omega) w]
      by_cases w2 : (i + 1 ≤ m ∧ m < i + 1 + (k : Int)) ∧ g' m = s
      · have w3 : (i ≤ m ∧ m < i + ((k + 1 : Nat) : Int)) ∧ g' m = s := ⟨⟨by omega, by omega⟩, w2.2⟩
        rw [if_pos w2, if_pos w3]
        omega
      · have w3 : ¬ ((i ≤ m ∧ m < i + ((k + 1 : Nat) : Int)) ∧ g' m = s) := fun z => w2 ⟨⟨by omega, by omega⟩, z.2⟩
        rw [if_neg w2, if_neg w3]
        omega
theorem sp_cn_or {f : Int → Int} {M S m s : Int} (hM : M ≤ 6) (hS : 0 ≤ S ∧ S < 64) (hm : 0 ≤ m ∧ m < M) (hb : sp_bit S m = false) (hs : 0 ≤ s) : sp_cn (sp_some (zm_ior S (zm_ishl 1 m)) f) M s = sp_bump (sp_cn (sp_some S f) M) (f m) s := by
  have e1 : sp_some S f m = -2 := by unfold sp_some; rw [hb]; rfl
  have e2 : sp_some (zm_ior S (zm_ishl 1 m)) f m = f m := by
    unfold sp_some
    rw [sp_bit_or hS (by omega) (by omega)]
    simp
  unfold sp_cn
  rw [sp_cnt_upd (g := sp_some S f) (m := m) hs e1 M.toNat 0 (fun j a b c => by
    unfold sp_some
    rw [sp_bit_or hS (by omega) (by omega)]
    simp [c]), e2]
  unfold sp_bump
  by_cases g : f m = s
  · rw [if_pos ⟨⟨by omega, by omega⟩, g⟩, if_pos ⟨by omega, g.symm⟩]
  · rw [if_neg (fun z => g z.2), if_neg (fun z => g z.2.symm)]
    show sp_cnt (sp_some S f) s M.toNat 0 + 0 = sp_cnt (sp_some S f) s M.toNat 0
    omega
def sp_vn (V : Int → Fin 65537) : Int → Int := sp_vote V (sp_C V) (sp_R V)
def sp_pS (V : Int → Fin 65537) (m S : Int) : Int := if sp_bit S m = true then 0 else if sp_win (sp_bump (sp_cn (sp_some S (sp_vn V)) ((V (4)).val : Int)) (sp_vn V m)) ((V (3)).val : Int) = sp_win (sp_cn (sp_some S (sp_vn V)) ((V (4)).val : Int)) ((V (3)).val : Int) then 0 else 1
def sp_power (V : Int → Fin 65537) (m : Int) : Int := sp_psum (sp_pS V m) (zm_ishl 1 ((V (4)).val : Int)).toNat 0
section PW
variable {X : Nat × (Nat → Int)} {d : Nat} {t : List (Nat × Nat)} {p q : Nat} {E : Nat → Int → Int} {V : Int → Fin 65537} {o : Nat}
theorem sp_pS_r {m S : Int} : 0 ≤ sp_pS V m S ∧ sp_pS V m S ≤ 1 := by
  unfold sp_pS
  split
  · omega
  · split <;> omega
theorem sp_power_r (hV : zV V) {m : Int} : 0 ≤ sp_power V m ∧ sp_power V m ≤ 64 := by
  have hm := hV.mems
  have h := zm_shl_r (M := ((V (4)).val : Int)) (by omega) hm
  have := sp_psum_r (f := sp_pS V m) (fun j => sp_pS_r) (zm_ishl 1 ((V (4)).val : Int)).toNat 0
  unfold sp_power
  omega
theorem sp_power_0 {m : Int} (h : sp_vn V m = -2) : sp_power V m = 0 := by
  have e : ∀ S, sp_pS V m S = 0 := by
    intro S
    have e1 : sp_bump (sp_cn (sp_some S (sp_vn V)) ((V (4)).val : Int)) (sp_vn V m) = sp_cn (sp_some S (sp_vn V)) ((V (4)).val : Int) := by
      funext s
      unfold sp_bump
      rw [if_neg (by omega)]
    unfold sp_pS
    rw [e1, if_pos rfl]
    split <;> rfl
  have : ∀ (k : Nat) (i : Int), sp_psum (sp_pS V m) k i = 0 := by
    intro k
    induction k with
    | zero => intro i; rfl
    | succ k ih => intro i; unfold sp_psum; rw [e, ih]; rfl
  exact this _ _
theorem T100_loop (ho : zo o) (hV : zV V) : ∀ (k : Nat) (i : Int) (E : Nat → Int → Int), zC V E o → (∀ m, 0 ≤ m → m < i → E 29 m = sp_vn V m) → 0 ≤ i → i + k = ((V (4)).val : Int) →
    ∃ F, zf_ev X (d + 4) 100 (2, [vR 28, vR o, vI i], [], zH t p q E) = some (some [], zH t p q F) ∧ (∀ m, 0 ≤ m → m < ((V (4)).val : Int) → F 29 m = sp_vn V m) ∧ (∀ a9 b9, a9 ≠ 29 → F a9 b9 = E a9 b9) := by
  have hm := hV.mems
  have ho2 : o = 40 ∨ o = 50 := ho
  intro k
  induction k with
  | zero =>
    intro i E hC hB h1 h2
    refine ⟨E, ?_, fun m a b => hB m a (by omega), fun a b _ => rfl⟩
    rw [L100_2 ho]
    simp (disch := omega) only [n32_id, zg_pos, if_pos, if_neg, zu_same, zu_ne, if_true, if_false, ne_eq, not_true_eq_false, not_false_eq_true, true_or, or_true, true_and, and_true, zg_true, fa_b_f, fa_b_t, hC.mems]
  | succ k ih =>
    intro i E hC hB h1 h2
    obtain ⟨F, f1, f2, f3⟩ := ih (i + 1) (zu E 29 i (sp_vn V i)) (hC.fr (fun a b _ _ => zu_ne (by omega))) (fun m a b => by
      by_cases g : m = i
      · rw [g, zu_same]
      · rw [zu_ne (Or.inr g)]
        exact hB m a (by omega)) (by omega) (by omega)
    refine ⟨F, ?_, f2, fun a b g => by rw [f3 a b g, zu_ne (Or.inl g)]⟩
    rw [L100_2 ho]
    simp (disch := omega) only [n32_id, zg_pos, if_pos, if_neg, zu_same, zu_ne, if_true, if_false, ne_eq, not_true_eq_false, not_false_eq_true, true_or, or_true, true_and, and_true, zg_true, fa_b_f, fa_b_t, hC.mems, T40 ho hC hV]
    rw [L100_k17 ho]
    simp (disch := omega) only [n32_id, zg_pos, if_pos, if_neg, zu_same, zu_ne, if_true, if_false, ne_eq, not_true_eq_false, not_false_eq_true, true_or, or_true, true_and, and_true, zg_true, fa_b_f, fa_b_t]
    exact f1
theorem T100 (ho : zo o) (hC : zC V E o) (hV : zV V) : ∃ F, zf_ev X (d + 4) 100 (0, [vR 28, vR o, vJ], [], zH t p q E) = some (some [], zH t p q F) ∧ (∀ m, 0 ≤ m → m < ((V (4)).val : Int) → F 29 m = sp_vn V m) ∧ (∀ a9 b9, a9 ≠ 29 → F a9 b9 = E a9 b9) := by
  obtain ⟨F, f1, f2, f3⟩ := T100_loop (X := X) (d := d) (t := t) (p := p) (q := q) ho hV (((V (4)).val : Int)).toNat 0 E hC (fun m a b => by omega) (by omega) (by omega)
  refine ⟨F, ?_, f2, f3⟩
  rw [L100_0 ho]
  exact f1
theorem sp_vn_r (hV : zV V) {m : Int} : sp_vn V m = -2 ∨ 0 ≤ sp_vn V m ∧ sp_vn V m < ((V (3)).val : Int) := sp_vote_r hV
theorem T102_b (ho : zo o) (hV : zV V) {S : Int} (hS : 0 ≤ S ∧ S < 64) : ∀ (k : Nat) (i : Int) (E : Nat → Int → Int), zC V E o → (∀ m, 0 ≤ m → m < ((V (4)).val : Int) → E 29 m = sp_vn V m) → 0 ≤ i → i + k = ((V (4)).val : Int) → (∀ s, 0 ≤ s → s < ((V (3)).val : Int) → 0 ≤ E 30 s ∧ E 30 s ≤ i) →
    ∃ F, zf_ev X d 102 (25, [vR 28, vR o, vI S, vI i], [], zH t p q E) = some (some [], zH t p q F) ∧ (∀ s, 0 ≤ s → s < ((V (3)).val : Int) → F 30 s = E 30 s + sp_cnt (sp_some S (sp_vn V)) s k i) ∧ (∀ a9 b9, a9 ≠ 30 → F a9 b9 = E a9 b9) := by
  have hm := hV.mems
  have hk := hV.spks
  have ho2 : o = 40 ∨ o = 50 := ho
  intro k
  induction k with
  | zero =>
    intro i E hC hB h1 h2 h3
    refine ⟨E, ?_, fun s _ _ => by simp [sp_cnt], fun a b _ => rfl⟩
    rw [L102_25 ho]
    simp (disch := omega) only [n32_id, zg_pos, if_pos, if_neg, zu_same, zu_ne, if_true, if_false, ne_eq, not_true_eq_false, not_false_eq_true, true_or, or_true, true_and, and_true, zg_true, fa_b_f, fa_b_t, hC.mems]
  | succ k ih =>
    intro i E hC hB h1 h2 h3
    have e0 : ∀ s, sp_cnt (sp_some S (sp_vn V)) s (k + 1) i = (if sp_some S (sp_vn V) i = s then 1 else 0) + sp_cnt (sp_some S (sp_vn V)) s k (i + 1) := fun s => rfl
    have eb := zm_bit hS (m := i) (by omega)
    have hv := sp_vn_r hV (m := i)
    have e29 := hB i h1 (by omega)
    have eb2 := fa_b_01 (sp_bit S i)
    cases hb : sp_bit S i
    · rw [hb, fa_b_f] at eb
      have e1 : sp_some S (sp_vn V) i = -2 := by unfold sp_some; rw [hb]; rfl
      obtain ⟨F, f1, f2, f3⟩ := ih (i + 1) E hC hB (by omega) (by omega) (fun s a b => by have := h3 s a b; omega)
      refine ⟨F, ?_, fun s a b => ?_, f3⟩
      · rw [L102_25 ho]
        simp (disch := omega) only [n32_id, zg_pos, if_pos, if_neg, zu_same, zu_ne, if_true, if_false, ne_eq, not_true_eq_false, not_false_eq_true, true_or, or_true, true_and, and_true, zg_true, fa_b_f, fa_b_t, hC.mems, eb]
        exact f1
      · rw [f2 s a b, e0, e1, if_neg (by omega)]
        omega
    · rw [hb, fa_b_t] at eb
      have e1 : sp_some S (sp_vn V) i = sp_vn V i := by unfold sp_some; rw [hb]; rfl
      rcases hv with hv | hv
      · obtain ⟨F, f1, f2, f3⟩ := ih (i + 1) E hC hB (by omega) (by omega) (fun s a b => by have := h3 s a b; omega)
        refine ⟨F, ?_, fun s a b => ?_, f3⟩
        · rw [L102_25 ho]
          simp (disch := omega) only [n32_id, zg_pos, if_pos, if_neg, zu_same, zu_ne, if_true, if_false, ne_eq, not_true_eq_false, not_false_eq_true, true_or, or_true, true_and, and_true, zg_true, fa_b_f, fa_b_t, hC.mems, eb, e29]
          exact f1
        · rw [f2 s a b, e0, e1, if_neg (by omega)]
          omega
      · have h30 := h3 (sp_vn V i) hv.1 hv.2
        obtain ⟨F, f1, f2, f3⟩ := ih (i + 1) (zu E 30 (sp_vn V i) (E 30 (sp_vn V i) + 1)) (hC.fr (fun a b _ _ => zu_ne (by omega))) (fun m a b => by rw [zu_ne (by omega)]; exact hB m a b) (by omega) (by omega) (fun s a b => by
          have := h3 s a b
          unfold zu
          split <;> omega)
        refine ⟨F, ?_, fun s a b => ?_, fun a b g => by rw [f3 a b g, zu_ne (Or.inl g)]⟩
        · rw [L102_25 ho]
          simp (disch := omega) only [n32_id, zg_pos, if_pos, if_neg, zu_same, zu_ne, if_true, if_false, ne_eq, not_true_eq_false, not_false_eq_true, true_or, or_true, true_and, and_true, zg_true, fa_b_f, fa_b_t, hC.mems, eb, e29]
          exact f1
        · rw [f2 s a b, e0, e1]
          unfold zu
          by_cases g : sp_vn V i = s
          · rw [if_pos ⟨rfl, g.symm⟩, if_pos g, g]
            omega
          · rw [if_neg (fun z => g z.2.symm), if_neg g]
            omega
theorem T102_a (ho : zo o) (hV : zV V) {S : Int} : ∀ (k : Nat) (i : Int) (E : Nat → Int → Int), zC V E o → 0 ≤ i → i + k = ((V (3)).val : Int) →
    zf_ev X d 102 (2, [vR 28, vR o, vI S, vI i], [], zH t p q E) = zf_ev X d 102 (25, [vR 28, vR o, vI S, vI 0], [], zH t p q (zfill E 30 i ((V (3)).val : Int) (fun _ => 0))) := by
  have hk := hV.spks
  have ho2 : o = 40 ∨ o = 50 := ho
  intro k
  induction k with
  | zero =>
    intro i E hC h1 h2
    rw [L102_2 ho, zfill_nil (by omega)]
    simp (disch := omega) only [n32_id, zg_pos, if_pos, if_neg, zu_same, zu_ne, if_true, if_false, ne_eq, not_true_eq_false, not_false_eq_true, true_or, or_true, true_and, and_true, zg_true, fa_b_f, fa_b_t, hC.spks]
  | succ k ih =>
    intro i E hC h1 h2
    rw [L102_2 ho]
    simp (disch := omega) only [n32_id, zg_pos, if_pos, if_neg, zu_same, zu_ne, if_true, if_false, ne_eq, not_true_eq_false, not_false_eq_true, true_or, or_true, true_and, and_true, zg_true, fa_b_f, fa_b_t, hC.spks]
    rw [ih _ (zu E 30 i 0) (hC.fr (fun a b _ _ => zu_ne (by omega))) (by omega) (by omega), zfill_stepc (by omega)]
theorem T102 (ho : zo o) (hC : zC V E o) (hV : zV V) (hB : ∀ m, 0 ≤ m → m < ((V (4)).val : Int) → E 29 m = sp_vn V m) {S : Int} (hS : 0 ≤ S ∧ S < 64) : ∃ F, zf_ev X d 102 (0, [vR 28, vR o, vI S, vJ], [], zH t p q E) = some (some [], zH t p q F) ∧ (∀ s, 0 ≤ s → s < ((V (3)).val : Int) → F 30 s = sp_cn (sp_some S (sp_vn V)) ((V (4)).val : Int) s) ∧ (∀ a9 b9, a9 ≠ 30 → F a9 b9 = E a9 b9) := by
  have hk := hV.spks
  have ho2 : o = 40 ∨ o = 50 := ho
  obtain ⟨F, f1, f2, f3⟩ := T102_b (X := X) (d := d) (t := t) (p := p) (q := q) ho hV hS (((V (4)).val : Int)).toNat 0 (zfill E 30 0 ((V (3)).val : Int) (fun _ => 0)) (hC.fr (fun a b _ _ => zfill_ne (by omega))) (fun m a b => by rw [zfill_ne (by omega)]; exact hB m a b) (by omega) (by omega) (fun s a b => by rw [zfill_in a b]; omega)
  refine ⟨F, ?_, fun s a b => ?_, fun a b g => by rw [f3 a b g, zfill_ne g]⟩
  · rw [L102_0 ho, T102_a ho hV (((V (3)).val : Int)).toNat 0 E hC (by omega) (by omega)]
    exact f1
  · rw [f2 s a b, zfill_in a b]
    unfold sp_cn
    omega
theorem sp_bump_r {W : Int → Int} {v s : Int} : W s ≤ sp_bump W v s ∧ sp_bump W v s ≤ W s + 1 := by
  unfold sp_bump
  split <;> omega
theorem T101_loop (ho : zo o) (hV : zV V) {m : Int} (h1 : 0 ≤ m) (h2 : m < ((V (4)).val : Int)) (hv : 0 ≤ sp_vn V m ∧ sp_vn V m < ((V (3)).val : Int)) : ∀ (k : Nat) (S z : Int) (E : Nat → Int → Int) (j5 : ZV), zC V E o → (∀ m, 0 ≤ m → m < ((V (4)).val : Int) → E 29 m = sp_vn V m) → 0 ≤ S → S + k = zm_ishl 1 ((V (4)).val : Int) →
    ∃ F, zf_ev X (d + 1) 101 (16, [vR 28, vR o, vI m, vI z, vI S, j5], [], zH t p q E) = some (some [vI (z + sp_psum (sp_pS V m) k S)], zH t p q F) ∧ (∀ a9 b9, a9 ≠ 30 → F a9 b9 = E a9 b9) := by
  have hm := hV.mems
  have hk := hV.spks
  have hsh := zm_shl_r (M := ((V (4)).val : Int)) (by omega) hm
  have ho2 : o = 40 ∨ o = 50 := ho
  intro k
  induction k with
  | zero =>
    intro S z E j5 hC hB g1 g2
    refine ⟨E, ?_, fun a b _ => rfl⟩
    rw [L101_16 ho]
    simp (disch := omega) only [n32_id, zg_pos, if_pos, if_neg, zu_same, zu_ne, if_true, if_false, ne_eq, not_true_eq_false, not_false_eq_true, true_or, or_true, true_and, and_true, zg_true, fa_b_f, fa_b_t, hC.mems]
    simp [sp_psum]
  | succ k ih =>
    intro S z E j5 hC hB g1 g2
    have hS : 0 ≤ S ∧ S < 64 := by omega
    have eb := zm_bit hS (m := m) (by omega)
    have e0 : sp_psum (sp_pS V m) (k + 1) S = sp_pS V m S + sp_psum (sp_pS V m) k (S + 1) := rfl
    cases hb : sp_bit S m
    · rw [hb, fa_b_f] at eb
      obtain ⟨F, f1, f2, f3⟩ := T102 (X := X) (d := d) (t := t) (p := p) (q := q) ho hC hV hB hS
      have hC2 : zC V F o := hC.fr (fun a b _ _ => f3 a b (by omega))
      have hB2 : ∀ m, 0 ≤ m → m < ((V (4)).val : Int) → F 29 m = sp_vn V m := fun m a b => by rw [f3 _ _ (by omega)]; exact hB m a b
      have e29 := hB2 m h1 h2
      have e30 := f2 (sp_vn V m) hv.1 hv.2
      have hW : ∀ s, 0 ≤ sp_cn (sp_some S (sp_vn V)) ((V (4)).val : Int) s ∧ sp_cn (sp_some S (sp_vn V)) ((V (4)).val : Int) s ≤ 6 := fun s => by
        have := sp_cn_r (f := sp_some S (sp_vn V)) (n := ((V (4)).val : Int)) (s := s) (by omega)
        omega
      have hWv := hW (sp_vn V m)
      have hC3 : zC V (zu F 30 (sp_vn V m) (sp_cn (sp_some S (sp_vn V)) ((V (4)).val : Int) (sp_vn V m) + 1)) o := hC2.fr (fun a b _ _ => zu_ne (by omega))
      have hB3 : ∀ m', 0 ≤ m' → m' < ((V (4)).val : Int) → zu F 30 (sp_vn V m) (sp_cn (sp_some S (sp_vn V)) ((V (4)).val : Int) (sp_vn V m) + 1) 29 m' = sp_vn V m' := fun m' a b => by rw [zu_ne (by omega)]; exact hB2 m' a b
      have w1 := T43 (X := X) (d := d) (t := t) (p := p) (q := q) (E := F) (a := 30) (n := 4) rfl (w := sp_cn (sp_some S (sp_vn V)) ((V (4)).val : Int)) (N := ((V (3)).val : Int)) (by omega) (fun s a b => by have := hW s; exact ⟨f2 s a b, by omega, by omega⟩)
      have w2 := T43 (X := X) (d := d) (t := t) (p := p) (q := q) (E := zu F 30 (sp_vn V m) (sp_cn (sp_some S (sp_vn V)) ((V (4)).val : Int) (sp_vn V m) + 1)) (a := 30) (n := 4) rfl (w := sp_bump (sp_cn (sp_some S (sp_vn V)) ((V (4)).val : Int)) (sp_vn V m)) (N := ((V (3)).val : Int)) (by omega) (fun s a b => by
        have h5 := hW s
        have h6 := sp_bump_r (W := sp_cn (sp_some S (sp_vn V)) ((V (4)).val : Int)) (v := sp_vn V m) (s := s)
        refine ⟨?_, by omega, by omega⟩
        unfold sp_bump zu
        by_cases g : s = sp_vn V m
        · rw [if_pos ⟨rfl, g⟩, if_pos ⟨hv.1, g⟩, g]
        · rw [if_neg (fun z => g z.2), if_neg (fun z => g z.2)]
          exact f2 s a b)
      have r1 := sp_win_r (w := sp_cn (sp_some S (sp_vn V)) ((V (4)).val : Int)) (n := ((V (3)).val : Int)) (by omega)
      have r2 := sp_win_r (w := sp_bump (sp_cn (sp_some S (sp_vn V)) ((V (4)).val : Int)) (sp_vn V m)) (n := ((V (3)).val : Int)) (by omega)
      by_cases gw : sp_win (sp_bump (sp_cn (sp_some S (sp_vn V)) ((V (4)).val : Int)) (sp_vn V m)) ((V (3)).val : Int) = sp_win (sp_cn (sp_some S (sp_vn V)) ((V (4)).val : Int)) ((V (3)).val : Int)
      · have e1 : sp_pS V m S = 0 := by unfold sp_pS; rw [hb, if_neg (by decide), if_pos gw]
        obtain ⟨G, y1, y2⟩ := ih (S + 1) z _ (vI (sp_win (sp_cn (sp_some S (sp_vn V)) ((V (4)).val : Int)) ((V (3)).val : Int))) hC3 hB3 (by omega) (by omega)
        refine ⟨G, ?_, fun a b g => by rw [y2 a b g, zu_ne (Or.inl g), f3 a b g]⟩
        rw [L101_16 ho]
        simp (disch := omega) only [n32_id, zg_pos, if_pos, if_neg, zu_same, zu_ne, if_true, if_false, ne_eq, not_true_eq_false, not_false_eq_true, true_or, or_true, true_and, and_true, zg_true, fa_b_f, fa_b_t, hC.mems, eb]
        rw [f1, L101_k40 ho, hC2.spks, w1, L101_k51 ho]
        simp (disch := omega) only [n32_id, zg_pos, if_pos, if_neg, zu_same, zu_ne, if_true, if_false, ne_eq, not_true_eq_false, not_false_eq_true, true_or, or_true, true_and, and_true, zg_true, fa_b_f, fa_b_t, e29, e30, hC2.spks]
        rw [w2, L101_k79 ho]
        simp (disch := omega) only [n32_id, zg_pos, if_pos, if_neg, zu_same, zu_ne, if_true, if_false, ne_eq, not_true_eq_false, not_false_eq_true, true_or, or_true, true_and, and_true, zg_true, fa_b_f, fa_b_t]
        rw [y1, e0, e1, Int.zero_add]
      · have e1 : sp_pS V m S = 1 := by unfold sp_pS; rw [hb, if_neg (by decide), if_neg gw]
        obtain ⟨G, y1, y2⟩ := ih (S + 1) (z + 1) _ (vI (sp_win (sp_cn (sp_some S (sp_vn V)) ((V (4)).val : Int)) ((V (3)).val : Int))) hC3 hB3 (by omega) (by omega)
        refine ⟨G, ?_, fun a b g => by rw [y2 a b g, zu_ne (Or.inl g), f3 a b g]⟩
        rw [L101_16 ho]
        simp (disch := omega) only [n32_id, zg_pos, if_pos, if_neg, zu_same, zu_ne, if_true, if_false, ne_eq, not_true_eq_false, not_false_eq_true, true_or, or_true, true_and, and_true, zg_true, fa_b_f, fa_b_t, hC.mems, eb]
        rw [f1, L101_k40 ho, hC2.spks, w1, L101_k51 ho]
        simp (disch := omega) only [n32_id, zg_pos, if_pos, if_neg, zu_same, zu_ne, if_true, if_false, ne_eq, not_true_eq_false, not_false_eq_true, true_or, or_true, true_and, and_true, zg_true, fa_b_f, fa_b_t, e29, e30, hC2.spks]
        rw [w2, L101_k79 ho]
        simp (disch := omega) only [n32_id, zg_pos, if_pos, if_neg, zu_same, zu_ne, if_true, if_false, ne_eq, not_true_eq_false, not_false_eq_true, true_or, or_true, true_and, and_true, zg_true, fa_b_f, fa_b_t]
        rw [y1, e0, e1, Int.add_assoc]
    · rw [hb, fa_b_t] at eb
      have e1 : sp_pS V m S = 0 := by unfold sp_pS; rw [hb, if_pos rfl]
      obtain ⟨G, y1, y2⟩ := ih (S + 1) z E j5 hC hB (by omega) (by omega)
      refine ⟨G, ?_, y2⟩
      rw [L101_16 ho]
      simp (disch := omega) only [n32_id, zg_pos, if_pos, if_neg, zu_same, zu_ne, if_true, if_false, ne_eq, not_true_eq_false, not_false_eq_true, true_or, or_true, true_and, and_true, zg_true, fa_b_f, fa_b_t, hC.mems, eb]
      rw [y1, e0, e1, Int.zero_add]
theorem T101 (ho : zo o) (hC : zC V E o) (hV : zV V) (hB : ∀ m, 0 ≤ m → m < ((V (4)).val : Int) → E 29 m = sp_vn V m) {m : Int} (h1 : 0 ≤ m) (h2 : m < ((V (4)).val : Int)) : ∃ F, zf_ev X (d + 1) 101 (0, [vR 28, vR o, vI m, vJ, vJ, vJ], [], zH t p q E) = some (some [vI (sp_power V m)], zH t p q F) ∧ (∀ a9 b9, a9 ≠ 30 → F a9 b9 = E a9 b9) := by
  have hm := hV.mems
  have hk := hV.spks
  have hsh := zm_shl_r (M := ((V (4)).val : Int)) (by omega) hm
  have e29 := hB m h1 h2
  rcases sp_vn_r hV (m := m) with hv | hv
  · refine ⟨E, ?_, fun a b _ => rfl⟩
    rw [L101_0 ho, sp_power_0 hv]
    simp (disch := omega) only [n32_id, zg_pos, if_pos, if_neg, zu_same, zu_ne, if_true, if_false, ne_eq, not_true_eq_false, not_false_eq_true, true_or, or_true, true_and, and_true, zg_true, fa_b_f, fa_b_t, e29]
  · obtain ⟨F, f1, f2⟩ := T101_loop (X := X) (d := d) (t := t) (p := p) (q := q) ho hV h1 h2 hv (zm_ishl 1 ((V (4)).val : Int)).toNat 0 0 E vJ hC hB (by omega) (by omega)
    refine ⟨F, ?_, f2⟩
    rw [L101_0 ho]
    simp (disch := omega) only [n32_id, zg_pos, if_pos, if_neg, zu_same, zu_ne, if_true, if_false, ne_eq, not_true_eq_false, not_false_eq_true, true_or, or_true, true_and, and_true, zg_true, fa_b_f, fa_b_t, e29]
    rw [f1, Int.zero_add]
    rfl
theorem Q148 (hG : zG V E p) {m : Int} (h1 : 0 ≤ m) (h2 : m < ((V (4)).val : Int)) : ∃ F, zf_ev X (d + 6) 148 (0, [vR 0, vI m], [], zH t p q E) = some (some [vI (sp_power V m)], zH t p q F) ∧ F 0 10 = 0 ∧ zFC E F := by
  obtain ⟨hV, -, -⟩ := hG.yes (by omega)
  obtain ⟨hp, hC, hR, -⟩ := hG
  have hp2 : p = 40 ∨ p = 50 := hp
  have hC2 : zC V (zu E 0 10 0) p := hC.fco hp zFC.u
  obtain ⟨F, f1, f2, f3⟩ := T100 (X := X) (d := d) (t := t) (p := p) (q := q) hp hC2 hV
  have hC3 : zC V F p := hC2.fr (fun a b _ _ => f3 a b (by omega))
  obtain ⟨G, g1, g2⟩ := T101 (X := X) (d := d + 3) (t := t) (p := p) (q := q) hp hC3 hV f2 h1 h2
  refine ⟨G, ?_, by rw [g2 _ _ (by omega), f3 _ _ (by omega)]; exact zu_same, fun a b y1 y2 y3 y4 => by rw [g2 a b (by omega), f3 a b (by omega), zu_ne y4]⟩
  have ho := hp
  simp (disch := omega) only [n32_id, zg_pos, if_pos, if_neg, zu_same, zu_ne, if_true, if_false, ne_eq, not_true_eq_false, not_false_eq_true, true_or, or_true, true_and, and_true, zg_true, fa_b_f, fa_b_t, L148_0 hp, L148_k6, L148_k9 hp, L148_k26, L98_0 ho, L98_k2 ho, L98_k8, T23t hp hC, T168t, f1, g1]
theorem Q148n (hG : zG V E p) {m : Int} (h0 : -2147483648 ≤ m ∧ m < 2147483648) (h : m < 0 ∨ ((V (4)).val : Int) ≤ m) : ∃ F, zf_ev X (d + 6) 148 (0, [vR 0, vI m], [], zH t p q E) = some (some [vI (-1)], zH t p q F) ∧ F 0 10 = 1 ∧ zFC E F := by
  obtain ⟨hp, hC, hR, -⟩ := hG
  refine ⟨zu E 0 10 1, ?_, zu_same, zFC.u⟩
  simp (disch := omega) only [n32_id, zg_pos, if_pos, if_neg, zu_same, zu_ne, if_true, if_false, ne_eq, not_true_eq_false, not_false_eq_true, true_or, or_true, true_and, and_true, zg_true, fa_b_f, fa_b_t, L148_0 hp, L148_k6, L148_k9 hp, L148_k26, T23f hp hC, T168f]
theorem T99_loop (ho : zo o) (hV : zV V) : ∀ (k : Nat) (i best most : Int) (E : Nat → Int → Int) (j5 : ZV), zC V E o → (∀ m, 0 ≤ m → m < ((V (4)).val : Int) → E 29 m = sp_vn V m) → 0 ≤ i → i + k = ((V (4)).val : Int) → 0 ≤ most → most ≤ 64 →
    ∃ F, zf_ev X (d + 5) 99 (13, [vR 28, vR o, vI best, vI most, vI i, j5], [], zH t p q E) = some (some [vI (sp_first (sp_power V) k i best most)], zH t p q F) ∧ (∀ a9 b9, a9 ≠ 30 → F a9 b9 = E a9 b9) := by
  have hm := hV.mems
  have ho2 : o = 40 ∨ o = 50 := ho
  intro k
  induction k with
  | zero =>
    intro i best most E j5 hC hB h1 h2 h3 h4
    refine ⟨E, ?_, fun a b _ => rfl⟩
    rw [L99_13 ho]
    simp (disch := omega) only [n32_id, zg_pos, if_pos, if_neg, zu_same, zu_ne, if_true, if_false, ne_eq, not_true_eq_false, not_false_eq_true, true_or, or_true, true_and, and_true, zg_true, fa_b_f, fa_b_t, hC.mems]
    rfl
  | succ k ih =>
    intro i best most E j5 hC hB h1 h2 h3 h4
    have r := sp_power_r hV (m := i)
    obtain ⟨F, f1, f2⟩ := T101 (X := X) (d := d + (5 - 1 - 1)) (t := t) (p := p) (q := q) ho hC hV hB (m := i) h1 (by omega)
    have hC2 : zC V F o := hC.fr (fun a b _ _ => f2 a b (by omega))
    have hB2 : ∀ m, 0 ≤ m → m < ((V (4)).val : Int) → F 29 m = sp_vn V m := fun m a b => by rw [f2 _ _ (by omega)]; exact hB m a b
    unfold sp_first
    by_cases g : most < sp_power V i
    · obtain ⟨G, g1, g2⟩ := ih (i + 1) i (sp_power V i) F (vI (sp_power V i)) hC2 hB2 (by omega) (by omega) (by omega) (by omega)
      refine ⟨G, ?_, fun a b y => by rw [g2 a b y, f2 a b y]⟩
      rw [L99_13 ho]
      simp (disch := omega) only [n32_id, zg_pos, if_pos, if_neg, zu_same, zu_ne, if_true, if_false, ne_eq, not_true_eq_false, not_false_eq_true, true_or, or_true, true_and, and_true, zg_true, fa_b_f, fa_b_t, hC.mems]
      rw [f1, L99_k26 ho]
      simp (disch := omega) only [n32_id, zg_pos, if_pos, if_neg, zu_same, zu_ne, if_true, if_false, ne_eq, not_true_eq_false, not_false_eq_true, true_or, or_true, true_and, and_true, zg_true, fa_b_f, fa_b_t]
      exact g1
    · obtain ⟨G, g1, g2⟩ := ih (i + 1) best most F (vI (sp_power V i)) hC2 hB2 (by omega) (by omega) (by omega) (by omega)
      refine ⟨G, ?_, fun a b y => by rw [g2 a b y, f2 a b y]⟩
      rw [L99_13 ho]
      simp (disch := omega) only [n32_id, zg_pos, if_pos, if_neg, zu_same, zu_ne, if_true, if_false, ne_eq, not_true_eq_false, not_false_eq_true, true_or, or_true, true_and, and_true, zg_true, fa_b_f, fa_b_t, hC.mems]
      rw [f1, L99_k26 ho]
      simp (disch := omega) only [n32_id, zg_pos, if_pos, if_neg, zu_same, zu_ne, if_true, if_false, ne_eq, not_true_eq_false, not_false_eq_true, true_or, or_true, true_and, and_true, zg_true, fa_b_f, fa_b_t]
      exact g1
theorem Q149 (hG : zG V E p) (h1 : 0 < ((V (3)).val : Int)) : ∃ F, zf_ev X (d + 6) 149 (0, [vR 0], [], zH t p q E) = some (some [vI (sp_win (sp_power V) ((V (4)).val : Int))], zH t p q F) ∧ F 0 10 = 0 ∧ zFC E F := by
  obtain ⟨hV, -, -⟩ := hG.yes (by omega)
  obtain ⟨hp, hC, hR, -⟩ := hG
  have hp2 : p = 40 ∨ p = 50 := hp
  have hC2 : zC V (zu E 0 10 0) p := hC.fco hp zFC.u
  obtain ⟨F, f1, f2, f3⟩ := T100 (X := X) (d := d) (t := t) (p := p) (q := q) hp hC2 hV
  have hC3 : zC V F p := hC2.fr (fun a b _ _ => f3 a b (by omega))
  obtain ⟨G, g1, g2⟩ := T99_loop (X := X) (d := d) (t := t) (p := p) (q := q) hp hV (((V (4)).val : Int)).toNat 0 (-2) 0 F vJ hC3 f2 (by omega) (by omega) (by omega) (by omega)
  refine ⟨G, ?_, by rw [g2 _ _ (by omega), f3 _ _ (by omega)]; exact zu_same, fun a b y1 y2 y3 y4 => by rw [g2 a b (by omega), f3 a b (by omega), zu_ne y4]⟩
  simp (disch := omega) only [n32_id, zg_pos, if_pos, if_neg, zu_same, zu_ne, if_true, if_false, ne_eq, not_true_eq_false, not_false_eq_true, true_or, or_true, true_and, and_true, zg_true, fa_b_f, fa_b_t, L149_0 hp, L149_k5, L149_k8 hp, L149_k24, T21t hp hC, T168t]
  rw [L99_0 hp, f1, L99_k2 hp, g1, L149_k24]
  rfl
theorem Q149n (hG : zG V E p) (h1 : ((V (3)).val : Int) ≤ 0) : ∃ F, zf_ev X (d + 6) 149 (0, [vR 0], [], zH t p q E) = some (some [vI (-1)], zH t p q F) ∧ F 0 10 = 1 ∧ zFC E F := by
  obtain ⟨hp, hC, hR, -⟩ := hG
  refine ⟨zu E 0 10 1, ?_, zu_same, zFC.u⟩
  simp (disch := omega) only [n32_id, zg_pos, if_pos, if_neg, zu_same, zu_ne, if_true, if_false, ne_eq, not_true_eq_false, not_false_eq_true, true_or, or_true, true_and, and_true, zg_true, fa_b_f, fa_b_t, L149_0 hp, L149_k5, L149_k8 hp, L149_k24, T21f hp hC, T168f]
/-! the reference's -/
theorem T292_loop (hV : zV V) {m : Int} (h1 : 0 ≤ m) (h2 : m < ((V (4)).val : Int)) : ∀ (k : Nat) (S z : Int) (E : Nat → Int → Int) (j4 : ZV), zR V E → zS (sp_C V) (sp_R V) ((V (3)).val : Int) E → 0 ≤ S → S + k = zm_ishl 1 ((V (4)).val : Int) →
    ∃ F, zf_ev X (d + 5) 292 (8, [vR 60, vI m, vI z, vI S, j4], [], zH t p q E) = some (some [vI (z + sp_psum (sp_pS V m) k S)], zH t p q F) ∧ (∀ a9 b9, a9 ≠ 68 → a9 ≠ 70 → F a9 b9 = E a9 b9) := by
  have hm := hV.mems
  have hk := hV.spks
  have hsh := zm_shl_r (M := ((V (4)).val : Int)) (by omega) hm
  intro k
  induction k with
  | zero =>
    intro S z E j4 hR hS g1 g2
    refine ⟨E, ?_, fun a b _ _ => rfl⟩
    rw [L292_8, T237 hR, L292_k10]
    simp (disch := omega) only [n32_id, zg_pos, if_pos, if_neg, zu_same, zu_ne, if_true, if_false, ne_eq, not_true_eq_false, not_false_eq_true, true_or, or_true, true_and, and_true, zg_true, fa_b_f, fa_b_t]
    simp [sp_psum]
  | succ k ih =>
    intro S z E j4 hR hSp g1 g2
    have hS : 0 ≤ S ∧ S < 64 := by omega
    have e0 : sp_psum (sp_pS V m) (k + 1) S = sp_pS V m S + sp_psum (sp_pS V m) k (S + 1) := rfl
    cases hb : sp_bit S m
    · obtain ⟨F, f1, f2, f3⟩ := T236 (X := X) (d := d) (t := t) (p := p) (q := q) (S := S) hV hR hSp
      have hR2 : zR V F := hR.fr (fun b => f2 _ _ (by omega) (by omega)) (fun b => f2 _ _ (by omega) (by omega))
      have hS2 : zS (sp_C V) (sp_R V) ((V (3)).val : Int) F := hSp.fr (fun b => f2 _ _ (by omega) (by omega))
      obtain ⟨G, y1, y2, y3⟩ := T236 (X := X) (d := d) (t := t) (p := p) (q := q) (S := zm_ior S (zm_ishl 1 m)) hV hR2 hS2
      have hR3 : zR V G := hR2.fr (fun b => y2 _ _ (by omega) (by omega)) (fun b => y2 _ _ (by omega) (by omega))
      have hS3 : zS (sp_C V) (sp_R V) ((V (3)).val : Int) G := hS2.fr (fun b => y2 _ _ (by omega) (by omega))
      have w1 := T235 (X := X) (d := d + 4) (t := t) (p := p) (q := q) hR2 hV (w := sp_cn (sp_some S (sp_vn V)) ((V (4)).val : Int)) (fun s a b => by
        have := sp_cn_r (f := sp_some S (sp_vn V)) (n := ((V (4)).val : Int)) (s := s) (by omega)
        exact ⟨f3 s a b, by omega, by omega⟩)
      have w2 := T235 (X := X) (d := d + 4) (t := t) (p := p) (q := q) hR3 hV (w := sp_cn (sp_some (zm_ior S (zm_ishl 1 m)) (sp_vn V)) ((V (4)).val : Int)) (fun s a b => by
        have := sp_cn_r (f := sp_some (zm_ior S (zm_ishl 1 m)) (sp_vn V)) (n := ((V (4)).val : Int)) (s := s) (by omega)
        exact ⟨y3 s a b, by omega, by omega⟩)
      have ew : sp_win (sp_cn (sp_some (zm_ior S (zm_ishl 1 m)) (sp_vn V)) ((V (4)).val : Int)) ((V (3)).val : Int) = sp_win (sp_bump (sp_cn (sp_some S (sp_vn V)) ((V (4)).val : Int)) (sp_vn V m)) ((V (3)).val : Int) := sp_win_c (fun j a b => sp_cn_or hm hS ⟨h1, h2⟩ hb a)
      rw [ew] at w2
      have r1 := sp_win_r (w := sp_cn (sp_some S (sp_vn V)) ((V (4)).val : Int)) (n := ((V (3)).val : Int)) (by omega)
      have r2 := sp_win_r (w := sp_bump (sp_cn (sp_some S (sp_vn V)) ((V (4)).val : Int)) (sp_vn V m)) (n := ((V (3)).val : Int)) (by omega)
      by_cases gw : sp_win (sp_bump (sp_cn (sp_some S (sp_vn V)) ((V (4)).val : Int)) (sp_vn V m)) ((V (3)).val : Int) = sp_win (sp_cn (sp_some S (sp_vn V)) ((V (4)).val : Int)) ((V (3)).val : Int)
      · have e1 : sp_pS V m S = 0 := by unfold sp_pS; rw [hb, if_neg (by decide), if_pos gw]
        obtain ⟨H, x1, x2⟩ := ih (S + 1) (z + 0) G (vI (sp_win (sp_cn (sp_some S (sp_vn V)) ((V (4)).val : Int)) ((V (3)).val : Int))) hR3 hS3 (by omega) (by omega)
        refine ⟨H, ?_, fun a b u v => by rw [x2 a b u v, y2 a b u v, f2 a b u v]⟩
        rw [L292_8, T237 hR, L292_k10]
        simp (disch := omega) only [n32_id, zg_pos, if_pos, if_neg, zu_same, zu_ne, if_true, if_false, ne_eq, not_true_eq_false, not_false_eq_true, true_or, or_true, true_and, and_true, zg_true, fa_b_f, fa_b_t, T181]
        rw [L292_k18, fa_b_id, hb]
        simp (disch := omega) only [n32_id, zg_pos, if_pos, if_neg, zu_same, zu_ne, if_true, if_false, ne_eq, not_true_eq_false, not_false_eq_true, true_or, or_true, true_and, and_true, zg_true, fa_b_f, fa_b_t, f1]
        rw [L292_k29, w1, L292_k33, y1, L292_k44, w2, L292_k49]
        simp (disch := omega) only [n32_id, zg_pos, if_pos, if_neg, zu_same, zu_ne, if_true, if_false, ne_eq, not_true_eq_false, not_false_eq_true, true_or, or_true, true_and, and_true, zg_true, fa_b_f, fa_b_t]
        rw [x1, e0, e1, Int.zero_add, Int.add_zero]
      · have e1 : sp_pS V m S = 1 := by unfold sp_pS; rw [hb, if_neg (by decide), if_neg gw]
        obtain ⟨H, x1, x2⟩ := ih (S + 1) (z + 1) G (vI (sp_win (sp_cn (sp_some S (sp_vn V)) ((V (4)).val : Int)) ((V (3)).val : Int))) hR3 hS3 (by omega) (by omega)
        refine ⟨H, ?_, fun a b u v => by rw [x2 a b u v, y2 a b u v, f2 a b u v]⟩
        rw [L292_8, T237 hR, L292_k10]
        simp (disch := omega) only [n32_id, zg_pos, if_pos, if_neg, zu_same, zu_ne, if_true, if_false, ne_eq, not_true_eq_false, not_false_eq_true, true_or, or_true, true_and, and_true, zg_true, fa_b_f, fa_b_t, T181]
        rw [L292_k18, fa_b_id, hb]
        simp (disch := omega) only [n32_id, zg_pos, if_pos, if_neg, zu_same, zu_ne, if_true, if_false, ne_eq, not_true_eq_false, not_false_eq_true, true_or, or_true, true_and, and_true, zg_true, fa_b_f, fa_b_t, f1]
        rw [L292_k29, w1, L292_k33, y1, L292_k44, w2, L292_k49]
        simp (disch := omega) only [n32_id, zg_pos, if_pos, if_neg, zu_same, zu_ne, if_true, if_false, ne_eq, not_true_eq_false, not_false_eq_true, true_or, or_true, true_and, and_true, zg_true, fa_b_f, fa_b_t]
        rw [x1, e0, e1, Int.add_assoc]
    · have e1 : sp_pS V m S = 0 := by unfold sp_pS; rw [hb, if_pos rfl]
      obtain ⟨H, x1, x2⟩ := ih (S + 1) z E j4 hR hSp (by omega) (by omega)
      refine ⟨H, ?_, x2⟩
      rw [L292_8, T237 hR, L292_k10]
      simp (disch := omega) only [n32_id, zg_pos, if_pos, if_neg, zu_same, zu_ne, if_true, if_false, ne_eq, not_true_eq_false, not_false_eq_true, true_or, or_true, true_and, and_true, zg_true, fa_b_f, fa_b_t, T181]
      rw [L292_k18, fa_b_id, hb, fa_b_t, if_neg (by decide), x1, e0, e1, Int.zero_add]
theorem T292 (hR : zR V E) (hV : zV V) {m : Int} (h1 : 0 ≤ m) (h2 : m < ((V (4)).val : Int)) : ∃ F, zf_ev X (d + 5) 292 (0, [vR 60, vI m, vJ, vJ, vJ], [], zH t p q E) = some (some [vI (sp_power V m)], zH t p q F) ∧ (∀ a9 b9, a9 ≠ 68 → a9 ≠ 69 → a9 ≠ 70 → F a9 b9 = E a9 b9) := by
  have hm := hV.mems
  have hsh := zm_shl_r (M := ((V (4)).val : Int)) (by omega) hm
  obtain ⟨F, f1, f2⟩ := T292_loop (X := X) (d := d) (t := t) (p := p) (q := q) hV h1 h2 (zm_ishl 1 ((V (4)).val : Int)).toNat 0 0 (zP V E) vJ hR.P (zS_P hV) (by omega) (by omega)
  refine ⟨F, ?_, fun a b y1 y2 y3 => by rw [f2 a b y1 y3, zP_ne y2]⟩
  rw [L292_0, T230 hR, L292_k1, f1, Int.zero_add]
  rfl
theorem Q293 (hG : zG V E p) {m : Int} (h1 : 0 ≤ m) (h2 : m < ((V (4)).val : Int)) : ∃ F, zf_ev X (d + 6) 293 (0, [vR 60, vI m], [], zH t p q E) = some (some [vI (sp_power V m)], zH t p q F) ∧ F 60 11 = 0 ∧ F 60 0 = 0 ∧ zFM E F := by
  obtain ⟨hV, -, h142⟩ := hG.yes (by omega)
  have hR2 := hG.R2
  obtain ⟨F, f1, f2⟩ := T292 (X := X) (d := d) (t := t) (p := p) (q := q) hR2 hV h1 h2
  have hf : zFM (zg0 E) F := fun a b g1 g2 => f2 a b (by omega) (by omega) (by omega)
  refine ⟨F, ?_, by rw [f2 _ _ (by omega) (by omega) (by omega)]; rfl, by rw [f2 _ _ (by omega) (by omega) (by omega)]; rfl, zFM.g0.tr hf⟩
  simp (disch := omega) only [n32_id, zg_pos, if_pos, if_neg, zu_same, zu_ne, if_true, if_false, ne_eq, not_true_eq_false, not_false_eq_true, true_or, or_true, true_and, and_true, zg_true, fa_b_f, fa_b_t, L293_0, L293_k1, L293_k6, L293_k14, L293_k22, T177, T215t hR2 h142, f1]
theorem Q293n (hG : zG V E p) {m : Int} (h0 : -2147483648 ≤ m ∧ m < 2147483648) (h : m < 0 ∨ ((V (4)).val : Int) ≤ m) : ∃ F, zf_ev X (d + 6) 293 (0, [vR 60, vI m], [], zH t p q E) = some (some [vI (-1)], zH t p q F) ∧ F 60 11 = 1 ∧ F 60 0 = 0 ∧ zFM E F := by
  have hR2 := hG.R2
  refine RQ_no (F := E) ?_
  simp (disch := omega) only [n32_id, zg_pos, if_pos, if_neg, zu_same, zu_ne, if_true, if_false, ne_eq, not_true_eq_false, not_false_eq_true, true_or, or_true, true_and, and_true, zg_true, fa_b_f, fa_b_t, L293_0, L293_k1, L293_k6, L293_k14, L293_k22, T177, T215f hR2 hG.h14, L178_0]
theorem T294_loop (hV : zV V) : ∀ (k : Nat) (i best most : Int) (E : Nat → Int → Int) (j4 : ZV), zR V E → 0 ≤ i → i + k = ((V (4)).val : Int) → 0 ≤ most → most ≤ 64 →
    ∃ F, zf_ev X (d + 6) 294 (24, [vR 60, vI best, vI most, vI i, j4], [], zH t p q E) = some (some [vI (sp_first (sp_power V) k i best most)], zH t p q F) ∧ (∀ a9 b9, a9 ≠ 68 → a9 ≠ 69 → a9 ≠ 70 → F a9 b9 = E a9 b9) := by
  have hm := hV.mems
  intro k
  induction k with
  | zero =>
    intro i best most E j4 hR h1 h2 h3 h4
    refine ⟨E, ?_, fun a b _ _ _ => rfl⟩
    rw [L294_24]
    simp (disch := omega) only [n32_id, zg_pos, if_pos, if_neg, zu_same, zu_ne, if_true, if_false, ne_eq, not_true_eq_false, not_false_eq_true, true_or, or_true, true_and, and_true, zg_true, fa_b_f, fa_b_t, hR.r]
    rfl
  | succ k ih =>
    intro i best most E j4 hR h1 h2 h3 h4
    have r := sp_power_r hV (m := i)
    obtain ⟨F, f1, f2⟩ := T292 (X := X) (d := d) (t := t) (p := p) (q := q) hR hV (m := i) h1 (by omega)
    have hR2 : zR V F := hR.fr (fun b => f2 _ _ (by omega) (by omega) (by omega)) (fun b => f2 _ _ (by omega) (by omega) (by omega))
    unfold sp_first
    by_cases g : most < sp_power V i
    · obtain ⟨G, g1, g2⟩ := ih (i + 1) i (sp_power V i) F (vI (sp_power V i)) hR2 (by omega) (by omega) (by omega) (by omega)
      refine ⟨G, ?_, fun a b y1 y2 y3 => by rw [g2 a b y1 y2 y3, f2 a b y1 y2 y3]⟩
      rw [L294_24]
      simp (disch := omega) only [n32_id, zg_pos, if_pos, if_neg, zu_same, zu_ne, if_true, if_false, ne_eq, not_true_eq_false, not_false_eq_true, true_or, or_true, true_and, and_true, zg_true, fa_b_f, fa_b_t, hR.r, f1]
      rw [L294_k36]
      simp (disch := omega) only [n32_id, zg_pos, if_pos, if_neg, zu_same, zu_ne, if_true, if_false, ne_eq, not_true_eq_false, not_false_eq_true, true_or, or_true, true_and, and_true, zg_true, fa_b_f, fa_b_t]
      exact g1
    · obtain ⟨G, g1, g2⟩ := ih (i + 1) best most F (vI (sp_power V i)) hR2 (by omega) (by omega) (by omega) (by omega)
      refine ⟨G, ?_, fun a b y1 y2 y3 => by rw [g2 a b y1 y2 y3, f2 a b y1 y2 y3]⟩
      rw [L294_24]
      simp (disch := omega) only [n32_id, zg_pos, if_pos, if_neg, zu_same, zu_ne, if_true, if_false, ne_eq, not_true_eq_false, not_false_eq_true, true_or, or_true, true_and, and_true, zg_true, fa_b_f, fa_b_t, hR.r, f1]
      rw [L294_k36]
      simp (disch := omega) only [n32_id, zg_pos, if_pos, if_neg, zu_same, zu_ne, if_true, if_false, ne_eq, not_true_eq_false, not_false_eq_true, true_or, or_true, true_and, and_true, zg_true, fa_b_f, fa_b_t]
      exact g1
theorem Q294 (hG : zG V E p) (h1 : 0 < ((V (3)).val : Int)) : ∃ F, zf_ev X (d + 6) 294 (0, [vR 60, vJ, vJ, vJ, vJ], [], zH t p q E) = some (some [vI (sp_win (sp_power V) ((V (4)).val : Int))], zH t p q F) ∧ F 60 11 = 0 ∧ F 60 0 = 0 ∧ zFM E F := by
  obtain ⟨hV, -, h142⟩ := hG.yes (by omega)
  have hR2 := hG.R2
  obtain ⟨F, f1, f2⟩ := T294_loop (X := X) (d := d) (t := t) (p := p) (q := q) hV (((V (4)).val : Int)).toNat 0 (-2) 0 (zg0 E) vJ hR2 (by omega) (by omega) (by omega) (by omega)
  have hf : zFM (zg0 E) F := fun a b g1 g2 => f2 a b (by omega) (by omega) (by omega)
  refine ⟨F, ?_, by rw [f2 _ _ (by omega) (by omega) (by omega)]; rfl, by rw [f2 _ _ (by omega) (by omega) (by omega)]; rfl, zFM.g0.tr hf⟩
  simp (disch := omega) only [n32_id, zg_pos, if_pos, if_neg, zu_same, zu_ne, if_true, if_false, ne_eq, not_true_eq_false, not_false_eq_true, true_or, or_true, true_and, and_true, zg_true, fa_b_f, fa_b_t, L294_0, L294_k1, L294_k13, L294_k36, T177, h142, f1]
  rfl
theorem Q294n (hG : zG V E p) (h1 : ((V (3)).val : Int) ≤ 0) : ∃ F, zf_ev X (d + 6) 294 (0, [vR 60, vJ, vJ, vJ, vJ], [], zH t p q E) = some (some [vI (-1)], zH t p q F) ∧ F 60 11 = 1 ∧ F 60 0 = 0 ∧ zFM E F := by
  have h142 := hG.not h1
  refine RQ_no (F := E) ?_
  simp (disch := omega) only [n32_id, zg_pos, if_pos, if_neg, zu_same, zu_ne, if_true, if_false, ne_eq, not_true_eq_false, not_false_eq_true, true_or, or_true, true_and, and_true, zg_true, fa_b_f, fa_b_t, L294_0, L294_k1, L294_k13, L294_k36, T177, h142, L178_0]
end PW

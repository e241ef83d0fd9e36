/-! the rake -/
def sp_clr (S m : Int) : Int := zm_iand S (zm_ixor (zm_ishl 1 m) (-1))
def sp_pc (S : Int) : Int := sp_cb (fun j => sp_bit S j) 6 0
theorem sp_clr0 : ∀ (S : Fin 64) (m : Fin 6), sp_bit (S.val : Int) (m.val : Int) = true → (0 ≤ sp_clr (S.val : Int) (m.val : Int) ∧ sp_clr (S.val : Int) (m.val : Int) < 64) ∧ sp_pc (sp_clr (S.val : Int) (m.val : Int)) + 1 = sp_pc (S.val : Int) ∧ ∀ j : Fin 6, sp_bit (S.val : Int) (j.val : Int) = false → sp_bit (sp_clr (S.val : Int) (m.val : Int)) (j.val : Int) = false := by decide +kernel
theorem sp_pc0 : ∀ S : Fin 64, sp_pc (S.val : Int) = 0 → (S.val : Int) = 0 := by decide +kernel
theorem sp_bz0 : ∀ S : Fin 64, (S.val : Int) ≠ 0 → fa_any (fun j => sp_bit (S.val : Int) j) 6 0 = true := by decide +kernel
theorem sp_clr_ok {S m : Int} (h1 : 0 ≤ S ∧ S < 64) (h2 : 0 ≤ m ∧ m < 6) (hb : sp_bit S m = true) : (0 ≤ sp_clr S m ∧ sp_clr S m < 64) ∧ sp_pc (sp_clr S m) + 1 = sp_pc S ∧ ∀ j, 0 ≤ j → j < 6 → sp_bit S j = false → sp_bit (sp_clr S m) j = false := by
  have h := sp_clr0 ⟨S.toNat, by omega⟩ ⟨m.toNat, by omega⟩
  simp only [Int.toNat_of_nonneg h1.1, Int.toNat_of_nonneg h2.1] at h
  obtain ⟨g1, g2, g3⟩ := h hb
  refine ⟨g1, g2, fun j a b c => ?_⟩
  have h4 := g3 ⟨j.toNat, by omega⟩
  simp only [Int.toNat_of_nonneg a] at h4
  exact h4 c
theorem sp_pc_0 {S : Int} (h1 : 0 ≤ S ∧ S < 64) (h : sp_pc S ≤ 0) : S = 0 := by
  have h2 := sp_pc0 ⟨S.toNat, by omega⟩
  simp only [Int.toNat_of_nonneg h1.1] at h2
  have := sp_cb_r (b := fun j => sp_bit S j) 6 0
  exact h2 (by unfold sp_pc at *; omega)
theorem sp_bz {S : Int} (h1 : 0 ≤ S ∧ S < 64) (h : S ≠ 0) : ∃ j, 0 ≤ j ∧ j < 6 ∧ sp_bit S j = true := by
  have h2 := sp_bz0 ⟨S.toNat, by omega⟩
  simp only [Int.toNat_of_nonneg h1.1] at h2
  obtain ⟨j, a, b, c⟩ := (fa_any_t 6 0).mp (h2 h)
  exact ⟨j, a, by omega, c⟩
/-- the least of w over those of which b says so -/
def sp_mn (b : Int → Bool) (w : Int → Int) : Nat → Int → Int → Int
  | 0, _, z => z
  | k + 1, i, z => sp_mn b w k (i + 1) (if b i = true then (if w i < z then w i else z) else z)
theorem sp_mn_le {b : Int → Bool} {w : Int → Int} : ∀ (k : Nat) (i z : Int), sp_mn b w k i z ≤ z ∧ ∀ j, i ≤ j → j < i + k → b j = true → sp_mn b w k i z ≤ w j := by
  intro k
  induction k with
  | zero => intro i z; exact ⟨Int.le_refl _, fun j a b => by omega⟩
  | succ k ih =>
    intro i z
    unfold sp_mn
    have h := ih (i + 1) (if b i = true then (if w i < z then w i else z) else z)
    have h2 : (if b i = true then (if w i < z then w i else z) else z) ≤ z := by
      split
      · split <;> omega
      · omega
    refine ⟨by omega, fun j x y c => ?_⟩
    by_cases e : j = i
    · subst e
      have h3 : (if b j = true then (if w j < z then w j else z) else z) ≤ w j := by
        rw [if_pos c]
        split <;> omega
      omega
    · exact h.2 j (by omega) (by omega) c
theorem sp_mn_ge {b : Int → Bool} {w : Int → Int} {B : Int} : ∀ (k : Nat) (i z : Int), B ≤ z → (∀ j, i ≤ j → j < i + k → b j = true → B ≤ w j) → B ≤ sp_mn b w k i z := by
  intro k
  induction k with
  | zero => intro i z h _; exact h
  | succ k ih =>
    intro i z h hw
    unfold sp_mn
    refine ih _ _ ?_ (fun j x y c => hw j (by omega) (by omega) c)
    split
    next c =>
      have := hw i (by omega) (by omega) c
      split <;> omega
    · exact h
theorem sp_mn_none {b : Int → Bool} {w : Int → Int} : ∀ (k : Nat) (i z : Int), (∀ j, i ≤ j → j < i + k → b j = false) → sp_mn b w k i z = z := by
  intro k
  induction k with
  | zero => intro i z _; rfl
  | succ k ih =>
    intro i z h
    unfold sp_mn
    rw [h i (by omega) (by omega), if_neg (by decide)]
    exact ih _ _ (fun j x y => h j (by omega) (by omega))
theorem sp_mn_c {b : Int → Bool} {w u : Int → Int} : ∀ (k : Nat) (i z : Int), (∀ j, i ≤ j → j < i + k → b j = true → w j = u j) → sp_mn b w k i z = sp_mn b u k i z := by
  intro k
  induction k with
  | zero => intro i z _; rfl
  | succ k ih =>
    intro i z h
    unfold sp_mn
    have e : (if b i = true then (if w i < z then w i else z) else z) = (if b i = true then (if u i < z then u i else z) else z) := by
      by_cases c : b i = true
      · rw [if_pos c, if_pos c, h i (by omega) (by omega) c]
      · rw [if_neg c, if_neg c]
    rw [e]
    exact ih _ _ (fun j x y c => h j (by omega) (by omega) c)
def sp_st (C R : Int → Int) : Nat → Int → Int → Int → Int
  | 0, c, r, _ => c + r
  | k + 1, c, r, S => if S = 0 then c + r else sp_mn (fun j => sp_bit S j) (fun j => sp_abs (c - C j) + sp_abs (r - R j) + sp_st C R k (C j) (R j) (sp_clr S j)) 6 0 2147483647
theorem sp_st_s {C R : Int → Int} {k : Nat} {c r S : Int} : sp_st C R (k + 1) c r S = if S = 0 then c + r else sp_mn (fun j => sp_bit S j) (fun j => sp_abs (c - C j) + sp_abs (r - R j) + sp_st C R k (C j) (R j) (sp_clr S j)) 6 0 2147483647 := rfl
def sp_rk (V : Int → Fin 65537) : Int := sp_st (sp_dc V) (sp_dr V) 6 0 0 (zm_ishl 1 ((V (4)).val : Int) - 1)
theorem sp_abs_r {z B : Int} (h1 : -B ≤ z) (h2 : z ≤ B) : 0 ≤ sp_abs z ∧ sp_abs z ≤ B := by
  unfold sp_abs
  split <;> omega
theorem sp_abs_s {a b : Int} : sp_abs (a - b) = sp_abs (b - a) := by
  unfold sp_abs
  split <;> split <;> omega
theorem sp_bit_hi {M : Int} (h1 : 0 ≤ M) (h2 : M ≤ 6) {m : Int} (h3 : M ≤ m) (h4 : m < 6) : sp_bit (zm_ishl 1 M - 1) m = false := by
  have e1 : M = 0 ∨ M = 1 ∨ M = 2 ∨ M = 3 ∨ M = 4 ∨ M = 5 ∨ M = 6 := by omega
  have e2 : m = 0 ∨ m = 1 ∨ m = 2 ∨ m = 3 ∨ m = 4 ∨ m = 5 := by omega
  rcases e1 with rfl | rfl | rfl | rfl | rfl | rfl | rfl <;> rcases e2 with rfl | rfl | rfl | rfl | rfl | rfl <;> first | decide | omega
theorem sp_st_r {C R : Int → Int} {M : Int} (hM : M ≤ 6) (hC : ∀ j, 0 ≤ j → j < M → 0 ≤ C j ∧ C j ≤ 11 ∧ 0 ≤ R j ∧ R j ≤ 6) : ∀ (k : Nat) (c r S : Int), k ≤ 6 → (0 ≤ c ∧ c ≤ 11) → (0 ≤ r ∧ r ≤ 6) → 0 ≤ S ∧ S < 64 → (∀ j, M ≤ j → j < 6 → sp_bit S j = false) → sp_pc S ≤ k → 0 ≤ sp_st C R k c r S ∧ sp_st C R k c r S ≤ 17 * (k + 1) := by
  intro k
  induction k with
  | zero =>
    intro c r S hk hc hr hS hb hp
    unfold sp_st
    omega
  | succ k ih =>
    intro c r S hk hc hr hS hb hp
    unfold sp_st
    by_cases g : S = 0
    · rw [if_pos g]
      omega
    · rw [if_neg g]
      have key : ∀ j, 0 ≤ j → j < 6 → sp_bit S j = true → 0 ≤ sp_abs (c - C j) + sp_abs (r - R j) + sp_st C R k (C j) (R j) (sp_clr S j) ∧ sp_abs (c - C j) + sp_abs (r - R j) + sp_st C R k (C j) (R j) (sp_clr S j) ≤ 17 * (((k + 1 : Nat) : Int) + 1) := by
        intro j a b cc
        have hj : j < M := by
          by_cases w : j < M
          · exact w
          · have := hb j (by omega) b
            rw [cc] at this
            cases this
        have hq := hC j a hj
        obtain ⟨o1, o2, o3⟩ := sp_clr_ok hS ⟨a, b⟩ cc
        have := ih (C j) (R j) (sp_clr S j) (by omega) (by omega) (by omega) o1 (fun i x y => o3 i (by have := hj; omega) y (hb i x y)) (by omega)
        have a1 := sp_abs_r (z := c - C j) (B := 11) (by omega) (by omega)
        have a2 := sp_abs_r (z := r - R j) (B := 6) (by omega) (by omega)
        omega
      obtain ⟨j, a, b, cc⟩ := sp_bz hS g
      have h1 := (sp_mn_le (b := fun j => sp_bit S j) (w := fun j => sp_abs (c - C j) + sp_abs (r - R j) + sp_st C R k (C j) (R j) (sp_clr S j)) 6 0 2147483647).2 j a (by omega) cc
      have h2 := sp_mn_ge (b := fun j => sp_bit S j) (w := fun j => sp_abs (c - C j) + sp_abs (r - R j) + sp_st C R k (C j) (R j) (sp_clr S j)) (B := 0) 6 0 2147483647 (by omega) (fun i x y z => (key i x (by omega) z).1)
      have := key j a b cc
      omega
section RK
variable {X : Nat × (Nat → Int)} {d : Nat} {t : List (Nat × Nat)} {p q : Nat} {E : Nat → Int → Int} {V : Int → Fin 65537} {o : Nat}
theorem sp_d_b (hV : zV V) : ∀ j, 0 ≤ j → j < ((V (4)).val : Int) → 0 ≤ sp_dc V j ∧ sp_dc V j ≤ 11 ∧ 0 ≤ sp_dr V j ∧ sp_dr V j ≤ 6 := fun j a b => by
  have := sp_d_r hV a b
  have := hV.cols
  have := hV.rows
  omega
theorem T104 (hV : zV V) (hE : ∀ j, 0 ≤ j → j < ((V (4)).val : Int) → E 31 j = sp_dc V j ∧ E 32 j = sp_dr V j) : ∀ (k : Nat) (c r S : Int), k ≤ 6 → (0 ≤ c ∧ c ≤ 11) → (0 ≤ r ∧ r ≤ 6) → 0 ≤ S ∧ S < 64 → (∀ j, ((V (4)).val : Int) ≤ j → j < 6 → sp_bit S j = false) → sp_pc S ≤ k → zf_ev X (d + 1 + k) 104 (0, [vR 28, vI c, vI r, vI S, vJ, vJ, vJ, vJ], [], zH t p q E) = some (some [vI (sp_st (sp_dc V) (sp_dr V) k c r S)], zH t p q E) := by
  have hm := hV.mems
  intro k
  induction k with
  | zero =>
    intro c r S hk hc hr hS hb hp
    have e := sp_pc_0 hS (by omega)
    show zf_ev X (d + 1) 104 _ = _
    rw [L104_0]
    simp (disch := omega) only [n32_id, zg_pos, if_pos, if_neg, zu_same, zu_ne, if_true, if_false, ne_eq, not_true_eq_false, not_false_eq_true, true_or, or_true, true_and, and_true, zg_true, fa_b_f, fa_b_t]
    rfl
  | succ k ih =>
    intro c r S hk hc hr hS hb hp
    by_cases g : S = 0
    · show zf_ev X (d + 1 + k + 1) 104 _ = _
      rw [L104_0]
      simp (disch := omega) only [n32_id, zg_pos, if_pos, if_neg, zu_same, zu_ne, if_true, if_false, ne_eq, not_true_eq_false, not_false_eq_true, true_or, or_true, true_and, and_true, zg_true, fa_b_f, fa_b_t]
      rw [sp_st_s, if_pos g]
    · have loop : ∀ (n : Nat) (i z : Int) (j6 j7 : ZV), 0 ≤ i → i + n = 6 → 0 ≤ z → z ≤ 2147483647 → zf_ev X (d + 1 + k + 1) 104 (15, [vR 28, vI c, vI r, vI S, vI z, vI i, j6, j7], [], zH t p q E) = some (some [vI (sp_mn (fun j => sp_bit S j) (fun j => sp_abs (c - sp_dc V j) + sp_abs (r - sp_dr V j) + sp_st (sp_dc V) (sp_dr V) k (sp_dc V j) (sp_dr V j) (sp_clr S j)) n i z)], zH t p q E) := by
        intro n
        induction n with
        | zero =>
          intro i z j6 j7 h1 h2 h3 h4
          rw [L104_15]
          simp (disch := omega) only [n32_id, zg_pos, if_pos, if_neg, zu_same, zu_ne, if_true, if_false, ne_eq, not_true_eq_false, not_false_eq_true, true_or, or_true, true_and, and_true, zg_true, fa_b_f, fa_b_t]
          rfl
        | succ n ihn =>
          intro i z j6 j7 h1 h2 h3 h4
          have eb := zm_bit hS (m := i) (by omega)
          have eu : sp_mn (fun j => sp_bit S j) (fun j => sp_abs (c - sp_dc V j) + sp_abs (r - sp_dr V j) + sp_st (sp_dc V) (sp_dr V) k (sp_dc V j) (sp_dr V j) (sp_clr S j)) (n + 1) i z = sp_mn (fun j => sp_bit S j) (fun j => sp_abs (c - sp_dc V j) + sp_abs (r - sp_dr V j) + sp_st (sp_dc V) (sp_dr V) k (sp_dc V j) (sp_dr V j) (sp_clr S j)) n (i + 1) (if sp_bit S i = true then (if sp_abs (c - sp_dc V i) + sp_abs (r - sp_dr V i) + sp_st (sp_dc V) (sp_dr V) k (sp_dc V i) (sp_dr V i) (sp_clr S i) < z then sp_abs (c - sp_dc V i) + sp_abs (r - sp_dr V i) + sp_st (sp_dc V) (sp_dr V) k (sp_dc V i) (sp_dr V i) (sp_clr S i) else z) else z) := rfl
          rw [eu]
          cases hbi : sp_bit S i
          · rw [hbi, fa_b_f] at eb
            rw [L104_15]
            simp (disch := omega) only [n32_id, zg_pos, if_pos, if_neg, zu_same, zu_ne, if_true, if_false, ne_eq, not_true_eq_false, not_false_eq_true, true_or, or_true, true_and, and_true, zg_true, fa_b_f, fa_b_t, eb]
            rw [if_neg (by decide)]
            exact ihn _ _ _ _ (by omega) (by omega) h3 h4
          · rw [hbi, fa_b_t] at eb
            have hi : i < ((V (4)).val : Int) := by
              by_cases w : i < ((V (4)).val : Int)
              · exact w
              · have := hb i (by omega) (by omega)
                rw [hbi] at this
                cases this
            have hq := sp_d_b hV i h1 hi
            obtain ⟨o1, o2, o3⟩ := sp_clr_ok hS ⟨h1, by omega⟩ hbi
            have e1 := (hE i h1 hi).1
            have e2 := (hE i h1 hi).2
            have hst := sp_st_r (C := sp_dc V) (R := sp_dr V) hm (sp_d_b hV) k (sp_dc V i) (sp_dr V i) (sp_clr S i) (by omega) (by omega) (by omega) o1 (fun i' x y => o3 i' (by omega) y (hb i' x y)) (by omega)
            have hcall := ih (sp_dc V i) (sp_dr V i) (sp_clr S i) (by omega) (by omega) (by omega) o1 (fun i' x y => o3 i' (by omega) y (hb i' x y)) (by omega)
            have a1 := sp_abs_r (z := c - sp_dc V i) (B := 11) (by omega) (by omega)
            have a2 := sp_abs_r (z := r - sp_dr V i) (B := 6) (by omega) (by omega)
            have f1 : (if 0 ≤ c - sp_dc V i then c - sp_dc V i else 0 - (c - sp_dc V i)) = sp_abs (c - sp_dc V i) := rfl
            have f2 : (if 0 ≤ r - sp_dr V i then r - sp_dr V i else 0 - (r - sp_dr V i)) = sp_abs (r - sp_dr V i) := rfl
            have f3 : zm_iand S (zm_ixor (zm_ishl 1 i) (-1)) = sp_clr S i := rfl
            rw [L104_15]
            simp (disch := omega) only [n32_id, zg_pos, zu_same, zu_ne, eb, e1, e2]
            rw [if_neg (by omega), if_neg (by omega), f1, f2, f3, hcall, L104_k82, n32_id (by omega) (by omega), n32_id (by omega) (by omega), if_pos trivial]
            refine ihn _ _ _ _ (by omega) (by omega) ?_ ?_
            · split <;> omega
            · split <;> omega
      show zf_ev X (d + 1 + k + 1) 104 _ = _
      rw [L104_0]
      simp (disch := omega) only [n32_id, zg_pos, if_pos, if_neg, zu_same, zu_ne, if_true, if_false, ne_eq, not_true_eq_false, not_false_eq_true, true_or, or_true, true_and, and_true, zg_true, fa_b_f, fa_b_t]
      rw [loop 6 0 2147483647 _ _ (by omega) (by omega) (by omega) (by omega), sp_st_s, if_neg g]
theorem T103_loop (ho : zo o) (hV : zV V) : ∀ (k : Nat) (i : Int) (E : Nat → Int → Int), zC V E o → (∀ j, 0 ≤ j → j < i → E 31 j = sp_dc V j ∧ E 32 j = sp_dr V j) → 0 ≤ i → i + k = ((V (4)).val : Int) →
    ∃ F, zf_ev X (d + 8) 103 (2, [vR 28, vR o, vI i], [], zH t p q E) = some (some [vI (sp_rk V)], zH t p q F) ∧ (∀ a9 b9, a9 ≠ 31 → a9 ≠ 32 → F a9 b9 = E a9 b9) := by
  have hm := hV.mems
  have ho2 : o = 40 ∨ o = 50 := ho
  have hsh := zm_shl_r (M := ((V (4)).val : Int)) (by omega) hm
  intro k
  induction k with
  | zero =>
    intro i E hC hE h1 h2
    refine ⟨E, ?_, fun a b _ _ => rfl⟩
    have hp := sp_cb_r (b := fun j => sp_bit (zm_ishl 1 ((V (4)).val : Int) - 1) j) 6 0
    have e := T104 (X := X) (d := d) (t := t) (p := p) (q := q) (E := E) hV (fun j a b => hE j a (by omega)) 6 0 0 (zm_ishl 1 ((V (4)).val : Int) - 1) (by omega) (by omega) (by omega) (by omega) (fun j a b => sp_bit_hi (by omega) hm a b) (by unfold sp_pc; omega)
    have e : zf_ev X (d + 7) 104 (0, [vR 28, vI 0, vI 0, vI (zm_ishl 1 ((V (4)).val : Int) - 1), vJ, vJ, vJ, vJ], [], zH t p q E) = some (some [vI (sp_rk V)], zH t p q E) := e
    rw [L103_2 ho]
    simp (disch := omega) only [n32_id, zg_pos, if_pos, if_neg, zu_same, zu_ne, if_true, if_false, ne_eq, not_true_eq_false, not_false_eq_true, true_or, or_true, true_and, and_true, zg_true, fa_b_f, fa_b_t, hC.mems]
    rw [e, L103_k49]
  | succ k ih =>
    intro i E hC hE h1 h2
    have hC1 : zC V (zu E 31 i (sp_dc V i)) o := hC.fr (fun a b _ _ => zu_ne (by omega))
    obtain ⟨F, f1, f2⟩ := ih (i + 1) (zu (zu E 31 i (sp_dc V i)) 32 i (sp_dr V i)) (hC1.fr (fun a b _ _ => zu_ne (by omega))) (fun j a b => by
      by_cases g : j = i
      · rw [g, zu_ne (by omega), zu_same, zu_same]
        exact ⟨rfl, rfl⟩
      · rw [zu_ne (by omega), zu_ne (by omega), zu_ne (by omega), zu_ne (by omega)]
        exact hE j a (by omega)) (by omega) (by omega)
    refine ⟨F, ?_, fun a b y1 y2 => by rw [f2 a b y1 y2, zu_ne (Or.inl y2), zu_ne (Or.inl y1)]⟩
    rw [L103_2 ho]
    simp (disch := omega) only [n32_id, zg_pos, if_pos, if_neg, zu_same, zu_ne, if_true, if_false, ne_eq, not_true_eq_false, not_false_eq_true, true_or, or_true, true_and, and_true, zg_true, fa_b_f, fa_b_t, hC.mems, T34 ho hC hV]
    rw [L103_k17 ho]
    simp (disch := omega) only [n32_id, zg_pos, if_pos, if_neg, zu_same, zu_ne, if_true, if_false, ne_eq, not_true_eq_false, not_false_eq_true, true_or, or_true, true_and, and_true, zg_true, fa_b_f, fa_b_t, T35 ho hC1 hV]
    rw [L103_k28 ho]
    simp (disch := omega) only [n32_id, zg_pos, if_pos, if_neg, zu_same, zu_ne, if_true, if_false, ne_eq, not_true_eq_false, not_false_eq_true, true_or, or_true, true_and, and_true, zg_true, fa_b_f, fa_b_t]
    exact f1
theorem Q150 (hG : zG V E p) (h1 : 0 < ((V (3)).val : Int)) : ∃ F, zf_ev X (d + 9) 150 (0, [vR 0], [], zH t p q E) = some (some [vI (sp_rk V)], zH t p q F) ∧ F 0 10 = 0 ∧ zFC E F := by
  obtain ⟨hV, -, -⟩ := hG.yes (by omega)
  obtain ⟨hp, hC, hR, -⟩ := hG
  have hC2 : zC V (zu E 0 10 0) p := hC.fco hp zFC.u
  obtain ⟨F, f1, f2⟩ := T103_loop (X := X) (d := d) (t := t) (p := p) (q := q) hp hV (((V (4)).val : Int)).toNat 0 (zu E 0 10 0) hC2 (fun j a b => by omega) (by omega) (by omega)
  refine ⟨F, ?_, by rw [f2 _ _ (by omega) (by omega)]; exact zu_same, fun a b y1 y2 y3 y4 => by rw [f2 a b (by omega) (by omega), zu_ne y4]⟩
  simp (disch := omega) only [n32_id, zg_pos, if_pos, if_neg, zu_same, zu_ne, if_true, if_false, ne_eq, not_true_eq_false, not_false_eq_true, true_or, or_true, true_and, and_true, zg_true, fa_b_f, fa_b_t, L150_0 hp, L150_k5, L150_k8 hp, L150_k24, T21t hp hC, T168t]
  rw [L103_0 hp, f1, L150_k24]
theorem Q150n (hG : zG V E p) (h1 : ((V (3)).val : Int) ≤ 0) : ∃ F, zf_ev X (d + 9) 150 (0, [vR 0], [], zH t p q E) = some (some [vI (-1)], zH t p q F) ∧ F 0 10 = 1 ∧ zFC E F := by
  obtain ⟨hp, hC, hR, -⟩ := hG
  refine ⟨zu E 0 10 1, ?_, zu_same, zFC.u⟩
  simp (disch := omega) only [n32_id, zg_pos, if_pos, if_neg, zu_same, zu_ne, if_true, if_false, ne_eq, not_true_eq_false, not_false_eq_true, true_or, or_true, true_and, and_true, zg_true, fa_b_f, fa_b_t, L150_0 hp, L150_k5, L150_k8 hp, L150_k24, T21f hp hC, T168f]
/-! the reference's -/
def sp_mi (a b : Int) : Int := if a < b then a else b
theorem sp_mi_le {a b : Int} : sp_mi a b ≤ a ∧ sp_mi a b ≤ b ∧ (sp_mi a b = a ∨ sp_mi a b = b) := by
  unfold sp_mi
  split <;> omega
theorem T295 (hV : zV V) : ∀ (k : Nat) (c r S s L : Int) (E : Nat → Int → Int), k ≤ 6 → (0 ≤ c ∧ c ≤ 11) → (0 ≤ r ∧ r ≤ 6) → 0 ≤ S ∧ S < 64 → (∀ j, ((V (4)).val : Int) ≤ j → j < 6 → sp_bit S j = false) → sp_pc S ≤ k → zR V E → (∀ j, 0 ≤ j → j < ((V (4)).val : Int) → E 71 j = sp_dc V j) → E 60 35 = L → 0 ≤ L → L ≤ 1000000 → 0 ≤ s → s + 17 * (k + 1) ≤ 1000 →
    ∃ F, zf_ev X (d + k + 2) 295 (0, [vR 60, vI S, vI c, vI r, vI s, vJ], [], zH t p q E) = some (some [], zH t p q F) ∧ F 60 35 = sp_mi (s + sp_st (sp_dc V) (sp_dr V) k c r S) L ∧ (∀ a9 b9, (a9 ≠ 60 ∨ b9 ≠ 35) → F a9 b9 = E a9 b9) := by
  have hm := hV.mems
  intro k
  induction k with
  | zero =>
    intro c r S s L E hk hc hr hS hb hp hR hD hL h1 h2 h3 h4
    have e := sp_pc_0 hS (by omega)
    subst e
    have es : sp_st (sp_dc V) (sp_dr V) 0 c r 0 = c + r := rfl
    rw [es]
    show ∃ F, zf_ev X (d + 2) 295 _ = _ ∧ _
    by_cases g1 : s < L
    · by_cases g2 : L ≤ s + c + r
      · refine ⟨zu E 60 35 L, ?_, ?_, fun a b y => zu_ne y⟩
        · rw [L295_0]
          simp (disch := omega) only [n32_id, zg_pos, if_pos, if_neg, zu_same, zu_ne, if_true, if_false, ne_eq, not_true_eq_false, not_false_eq_true, true_or, or_true, true_and, and_true, zg_true, fa_b_f, fa_b_t, hL]
        · rw [zu_same]
          unfold sp_mi
          rw [if_neg (by omega)]
      · refine ⟨zu E 60 35 (s + c + r), ?_, ?_, fun a b y => zu_ne y⟩
        · rw [L295_0]
          simp (disch := omega) only [n32_id, zg_pos, if_pos, if_neg, zu_same, zu_ne, if_true, if_false, ne_eq, not_true_eq_false, not_false_eq_true, true_or, or_true, true_and, and_true, zg_true, fa_b_f, fa_b_t, hL]
        · rw [zu_same]
          unfold sp_mi
          rw [if_pos (by omega)]
          omega
    · refine ⟨E, ?_, ?_, fun a b y => rfl⟩
      · rw [L295_0]
        simp (disch := omega) only [n32_id, zg_pos, if_pos, if_neg, zu_same, zu_ne, if_true, if_false, ne_eq, not_true_eq_false, not_false_eq_true, true_or, or_true, true_and, and_true, zg_true, fa_b_f, fa_b_t, hL]
      · rw [hL]
        unfold sp_mi
        rw [if_neg (by omega)]
  | succ k ih =>
    intro c r S s L E hk hc hr hS hb hp hR hD hL h1 h2 h3 h4
    have hst0 := sp_st_r (C := sp_dc V) (R := sp_dr V) hm (sp_d_b hV) (k + 1) c r S hk hc hr hS hb hp
    have hd2 : d + (k + 1) + 2 = d + k + 2 + 1 := by omega
    rw [hd2]
    by_cases g1 : s < L
    · by_cases g : S = 0
      · have es : sp_st (sp_dc V) (sp_dr V) (k + 1) c r S = c + r := by rw [sp_st_s, if_pos g]
        rw [es]
        by_cases g2 : L ≤ s + c + r
        · refine ⟨zu E 60 35 L, ?_, ?_, fun a b y => zu_ne y⟩
          · rw [L295_0]
            simp (disch := omega) only [n32_id, zg_pos, if_pos, if_neg, zu_same, zu_ne, if_true, if_false, ne_eq, not_true_eq_false, not_false_eq_true, true_or, or_true, true_and, and_true, zg_true, fa_b_f, fa_b_t, hL]
          · rw [zu_same]
            unfold sp_mi
            rw [if_neg (by omega)]
        · refine ⟨zu E 60 35 (s + c + r), ?_, ?_, fun a b y => zu_ne y⟩
          · rw [L295_0]
            simp (disch := omega) only [n32_id, zg_pos, if_pos, if_neg, zu_same, zu_ne, if_true, if_false, ne_eq, not_true_eq_false, not_false_eq_true, true_or, or_true, true_and, and_true, zg_true, fa_b_f, fa_b_t, hL]
          · rw [zu_same]
            unfold sp_mi
            rw [if_pos (by omega)]
            omega
      · have es : sp_st (sp_dc V) (sp_dr V) (k + 1) c r S = sp_mn (fun j => sp_bit S j) (fun j => sp_abs (c - sp_dc V j) + sp_abs (r - sp_dr V j) + sp_st (sp_dc V) (sp_dr V) k (sp_dc V j) (sp_dr V j) (sp_clr S j)) 6 0 2147483647 := by rw [sp_st_s, if_neg g]
        have loop : ∀ (n : Nat) (i z : Int) (E : Nat → Int → Int), zR V E → (∀ j, 0 ≤ j → j < ((V (4)).val : Int) → E 71 j = sp_dc V j) → 0 ≤ i → i + n = ((V (4)).val : Int) → 0 ≤ z → z ≤ 2147483647 → E 60 35 = sp_mi (s + z) L →
            ∃ F, zf_ev X (d + k + 2 + 1) 295 (48, [vR 60, vI S, vI c, vI r, vI s, vI i], [], zH t p q E) = some (some [], zH t p q F) ∧ F 60 35 = sp_mi (s + sp_mn (fun j => sp_bit S j) (fun j => sp_abs (c - sp_dc V j) + sp_abs (r - sp_dr V j) + sp_st (sp_dc V) (sp_dr V) k (sp_dc V j) (sp_dr V j) (sp_clr S j)) (n + (6 - (((V (4)).val : Int)).toNat)) i z) L ∧ (∀ a9 b9, (a9 ≠ 60 ∨ b9 ≠ 35) → F a9 b9 = E a9 b9) := by
          intro n
          induction n with
          | zero =>
            intro i z E hR hD y1 y2 y3 y4 hz
            refine ⟨E, ?_, ?_, fun a b y => rfl⟩
            · rw [L295_48]
              simp (disch := omega) only [n32_id, zg_pos, if_pos, if_neg, zu_same, zu_ne, if_true, if_false, ne_eq, not_true_eq_false, not_false_eq_true, true_or, or_true, true_and, and_true, zg_true, fa_b_f, fa_b_t, hR.r]
            · rw [sp_mn_none _ _ _ (fun j a b => hb j (by omega) (by omega))]
              exact hz
          | succ n ihn =>
            intro i z E hR hD y1 y2 y3 y4 hz
            have eu : n + 1 + (6 - (((V (4)).val : Int)).toNat) = n + (6 - (((V (4)).val : Int)).toNat) + 1 := by omega
            have hlz := sp_mi_le (a := s + z) (b := L)
            rw [eu]
            unfold sp_mn
            cases hbi : sp_bit S i
            · obtain ⟨F, f1, f2, f3⟩ := ihn (i + 1) z E hR hD (by omega) (by omega) y3 y4 hz
              refine ⟨F, ?_, ?_, f3⟩
              · rw [L295_48]
                simp (disch := omega) only [n32_id, zg_pos, if_pos, if_neg, zu_same, zu_ne, if_true, if_false, ne_eq, not_true_eq_false, not_false_eq_true, true_or, or_true, true_and, and_true, zg_true, fa_b_f, fa_b_t, hR.r, T181]
                rw [L295_k62, fa_b_id, hbi, fa_b_f, if_neg (by decide)]
                exact f1
              · rw [if_neg (by decide)]
                exact f2
            · have hi : i < ((V (4)).val : Int) := by omega
              have hq := sp_d_b hV i y1 hi
              have hrw := hV.rows
              obtain ⟨o1, o2, o3⟩ := sp_clr_ok hS ⟨y1, by omega⟩ hbi
              have hst := sp_st_r (C := sp_dc V) (R := sp_dr V) hm (sp_d_b hV) k (sp_dc V i) (sp_dr V i) (sp_clr S i) (by omega) (by omega) (by omega) o1 (fun i' x y => o3 i' (by omega) y (hb i' x y)) (by omega)
              have a1 := sp_abs_r (z := c - sp_dc V i) (B := 11) (by omega) (by omega)
              have a2 := sp_abs_r (z := r - sp_dr V i) (B := 6) (by omega) (by omega)
              have s1 : sp_abs (sp_dc V i - c) = sp_abs (c - sp_dc V i) := sp_abs_s
              have s2 : sp_abs (sp_dr V i - r) = sp_abs (r - sp_dr V i) := sp_abs_s
              have e71 := hD i y1 hi
              have f3 : zm_iand S (zm_ixor (zm_ishl 1 i) (-1)) = sp_clr S i := rfl
              obtain ⟨G, g5, g6, g7⟩ := ih (sp_dc V i) (sp_dr V i) (sp_clr S i) (s + sp_abs (c - sp_dc V i) + sp_abs (r - sp_dr V i)) (sp_mi (s + z) L) E (by omega) (by omega) (by omega) o1 (fun i' x y => o3 i' (by omega) y (hb i' x y)) (by omega) hR hD hz (by omega) (by omega) (by omega) (by omega)
              obtain ⟨F, f1, f2, f4⟩ := ihn (i + 1) (if sp_abs (c - sp_dc V i) + sp_abs (r - sp_dr V i) + sp_st (sp_dc V) (sp_dr V) k (sp_dc V i) (sp_dr V i) (sp_clr S i) < z then sp_abs (c - sp_dc V i) + sp_abs (r - sp_dr V i) + sp_st (sp_dc V) (sp_dr V) k (sp_dc V i) (sp_dr V i) (sp_clr S i) else z) G (hR.fr (fun b => g7 _ _ (by omega)) (fun b => g7 _ _ (by omega))) (fun j a b => by rw [g7 _ _ (by omega)]; exact hD j a b) (by omega) (by omega) (by split <;> omega) (by split <;> omega) (by
                rw [g6]
                unfold sp_mi
                split <;> split <;> split <;> omega)
              refine ⟨F, ?_, ?_, fun a b y => by rw [f4 a b y, g7 a b y]⟩
              · rw [L295_48]
                simp (disch := omega) only [n32_id, zg_pos, if_pos, if_neg, zu_same, zu_ne, if_true, if_false, ne_eq, not_true_eq_false, not_false_eq_true, true_or, or_true, true_and, and_true, zg_true, fa_b_f, fa_b_t, hR.r, T181]
                rw [L295_k62, fa_b_id, hbi, fa_b_t, if_pos (by decide)]
                simp (disch := omega) only [n32_id, zg_pos, zu_same, zu_ne, e71]
                rw [T228 hR hV y1 hi, L295_k90]
                simp (disch := omega) only [n32_id, zg_pos, zu_same, zu_ne, e71]
                rw [T182 (by omega) (by omega), L295_k103, T228 hR hV y1 hi, L295_k110, T182 (by omega) (by omega), L295_k114, s1, s2, f3, g5, L295_k118]
                exact f1
              · rw [if_pos rfl]
                exact f2
        obtain ⟨F, f1, f2, f3⟩ := loop (((V (4)).val : Int)).toNat 0 2147483647 E hR hD (by omega) (by omega) (by omega) (by omega) (by rw [hL]; unfold sp_mi; rw [if_neg (by omega)])
        refine ⟨F, ?_, ?_, f3⟩
        · rw [L295_0]
          simp (disch := omega) only [n32_id, zg_pos, if_pos, if_neg, zu_same, zu_ne, if_true, if_false, ne_eq, not_true_eq_false, not_false_eq_true, true_or, or_true, true_and, and_true, zg_true, fa_b_f, fa_b_t, hL]
          exact f1
        · rw [f2, es, show (((V (4)).val : Int)).toNat + (6 - (((V (4)).val : Int)).toNat) = 6 by omega]
    · refine ⟨E, ?_, ?_, fun a b y => rfl⟩
      · rw [L295_0]
        simp (disch := omega) only [n32_id, zg_pos, if_pos, if_neg, zu_same, zu_ne, if_true, if_false, ne_eq, not_true_eq_false, not_false_eq_true, true_or, or_true, true_and, and_true, zg_true, fa_b_f, fa_b_t, hL]
      · rw [hL]
        unfold sp_mi
        rw [if_neg (by omega)]
theorem T296_loop (hV : zV V) : ∀ (k : Nat) (i : Int) (E : Nat → Int → Int), zR V E → (∀ j, 0 ≤ j → j < i → E 71 j = sp_dc V j) → E 60 35 = 1000000 → 0 ≤ i → i + k = ((V (4)).val : Int) →
    ∃ F, zf_ev X (d + 9) 296 (26, [vR 60, vI i], [], zH t p q E) = some (some [vI (sp_rk V)], zH t p q F) ∧ (∀ a9 b9, (a9 ≠ 60 ∨ b9 ≠ 35) → a9 ≠ 68 → a9 ≠ 71 → F a9 b9 = E a9 b9) := by
  have hm := hV.mems
  have hsh := zm_shl_r (M := ((V (4)).val : Int)) (by omega) hm
  intro k
  induction k with
  | zero =>
    intro i E hR hD hL h1 h2
    have hp := sp_cb_r (b := fun j => sp_bit (zm_ishl 1 ((V (4)).val : Int) - 1) j) 6 0
    have hbh : ∀ j, ((V (4)).val : Int) ≤ j → j < 6 → sp_bit (zm_ishl 1 ((V (4)).val : Int) - 1) j = false := fun j a b => sp_bit_hi (by omega) hm a b
    have hst := sp_st_r (C := sp_dc V) (R := sp_dr V) hm (sp_d_b hV) 6 0 0 (zm_ishl 1 ((V (4)).val : Int) - 1) (by omega) (by omega) (by omega) (by omega) hbh (by unfold sp_pc; omega)
    obtain ⟨F, f1, f2, f3⟩ := T295 (X := X) (d := d) (t := t) (p := p) (q := q) hV 6 0 0 (zm_ishl 1 ((V (4)).val : Int) - 1) 0 1000000 E (by omega) (by omega) (by omega) (by omega) hbh (by unfold sp_pc; omega) hR (fun j a b => hD j a (by omega)) hL (by omega) (by omega) (by omega) (by omega)
    have e : F 60 35 = sp_rk V := by
      rw [f2]
      unfold sp_mi sp_rk
      rw [if_pos (by omega)]
      omega
    refine ⟨F, ?_, fun a b y1 y2 y3 => f3 a b y1⟩
    rw [L296_26]
    simp (disch := omega) only [n32_id, zg_pos, if_pos, if_neg, zu_same, zu_ne, if_true, if_false, ne_eq, not_true_eq_false, not_false_eq_true, true_or, or_true, true_and, and_true, zg_true, fa_b_f, fa_b_t, hR.r, T237 hR]
    rw [L296_k55, f1, L296_k61, e]
  | succ k ih =>
    intro i E hR hD hL h1 h2
    obtain ⟨F, f1, f2⟩ := ih (i + 1) (zu (zA V E) 71 i (sp_dc V i)) (hR.A.fr (fun b => zu_ne (by omega)) (fun b => zu_ne (by omega))) (fun j a b => by
      by_cases g : j = i
      · rw [g, zu_same]
      · rw [zu_ne (Or.inr g), zA_ne (by omega)]
        exact hD j a (by omega)) (by rw [zu_ne (by omega), zA_ne (by omega)]; exact hL) (by omega) (by omega)
    refine ⟨F, ?_, fun a b y1 y2 y3 => by rw [f2 a b y1 y2 y3, zu_ne (Or.inl y3), zA_ne y2]⟩
    rw [L296_26]
    simp (disch := omega) only [n32_id, zg_pos, if_pos, if_neg, zu_same, zu_ne, if_true, if_false, ne_eq, not_true_eq_false, not_false_eq_true, true_or, or_true, true_and, and_true, zg_true, fa_b_f, fa_b_t, hR.r, T227 hR hV]
    rw [L296_k43]
    simp (disch := omega) only [n32_id, zg_pos, if_pos, if_neg, zu_same, zu_ne, if_true, if_false, ne_eq, not_true_eq_false, not_false_eq_true, true_or, or_true, true_and, and_true, zg_true, fa_b_f, fa_b_t]
    exact f1
theorem Q296 (hG : zG V E p) (h1 : 0 < ((V (3)).val : Int)) : ∃ F, zf_ev X (d + 9) 296 (0, [vR 60, vJ], [], zH t p q E) = some (some [vI (sp_rk V)], zH t p q F) ∧ F 60 11 = 0 ∧ F 60 0 = 0 ∧ zFM E F := by
  obtain ⟨hV, -, h142⟩ := hG.yes (by omega)
  have hR2 := hG.R2
  obtain ⟨F, f1, f2⟩ := T296_loop (X := X) (d := d) (t := t) (p := p) (q := q) hV (((V (4)).val : Int)).toNat 0 (zu (zg0 E) 60 35 1000000) (hR2.fr (fun b => zu_ne (by omega)) (fun b => zu_ne (by omega))) (fun j a b => by omega) zu_same (by omega) (by omega)
  have hf : zFM (zg0 E) F := fun a b g1 g2 => by rw [f2 a b (by omega) (by omega) (by omega), zu_ne (by omega)]
  refine ⟨F, ?_, by rw [f2 _ _ (by omega) (by omega) (by omega), zu_ne (by omega)]; rfl, by rw [f2 _ _ (by omega) (by omega) (by omega), zu_ne (by omega)]; rfl, zFM.g0.tr hf⟩
  simp (disch := omega) only [n32_id, zg_pos, if_pos, if_neg, zu_same, zu_ne, if_true, if_false, ne_eq, not_true_eq_false, not_false_eq_true, true_or, or_true, true_and, and_true, zg_true, fa_b_f, fa_b_t, L296_0, L296_k1, L296_k13, L296_k43, L296_k55, L296_k61, T177, h142, f1]
theorem Q296n (hG : zG V E p) (h1 : ((V (3)).val : Int) ≤ 0) : ∃ F, zf_ev X (d + 9) 296 (0, [vR 60, vJ], [], zH t p q E) = some (some [vI (-1)], zH t p q F) ∧ F 60 11 = 1 ∧ F 60 0 = 0 ∧ zFM E F := by
  have h142 := hG.not h1
  refine RQ_no (F := E) ?_
  simp (disch := omega) only [n32_id, zg_pos, if_pos, if_neg, zu_same, zu_ne, if_true, if_false, ne_eq, not_true_eq_false, not_false_eq_true, true_or, or_true, true_and, and_true, zg_true, fa_b_f, fa_b_t, L296_0, L296_k1, L296_k13, L296_k43, L296_k55, L296_k61, T177, h142, L178_0]
end RK

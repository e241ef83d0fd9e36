/-! the class's Hall -/
section CH
variable {X : Nat × (Nat → Int)} {d : Nat} {t : List (Nat × Nat)} {p q : Nat} {E : Nat → Int → Int} {V : Int → Fin 65537} {o : Nat}
theorem zC.seat (h : zC V E o) : ∀ m, 0 ≤ m → m < 6 → E (o + 1) (0 + m) = ((V (200 + (19 + 3 * m + 1))).val : Int) := h.2.1
theorem zC.fold (h : zC V E o) : ∀ m, 0 ≤ m → m < 6 → E (o + 1) (6 + m) = ((V (200 + (19 + 3 * m))).val : Int) := h.2.2.1
theorem zC.far (h : zC V E o) : ∀ m, 0 ≤ m → m < 6 → E (o + 1) (12 + m) = ((V (200 + (19 + 3 * m + 2))).val : Int) := h.2.2.2.1
theorem zC.air (h : zC V E o) : ∀ k, 0 ≤ k → k < 7 → E (o + 1) (18 + k) = ((V (200 + k)).val : Int) := h.2.2.2.2.1
theorem zC.sc (h : zC V E o) : ∀ s, 0 ≤ s → s < 4 → E (o + 1) (25 + s) = ((V (200 + (7 + 2 * s))).val : Int) := h.2.2.2.2.2.1
theorem zC.sr (h : zC V E o) : ∀ s, 0 ≤ s → s < 4 → E (o + 1) (29 + s) = ((V (200 + (7 + 2 * s + 1))).val : Int) := h.2.2.2.2.2.2.1
theorem zC.won (h : zC V E o) : ∀ s, 0 ≤ s → s < 4 → E (o + 1) (33 + s) = ((V (200 + (15 + s))).val : Int) := h.2.2.2.2.2.2.2.1
theorem zC.held (h : zC V E o) : E (o + 1) 37 = ((V (200 + 37)).val : Int) := h.2.2.2.2.2.2.2.2.1.1
theorem zC.seed (h : zC V E o) : E (o + 1) 38 = ((V (200 + 38)).val : Int) := h.2.2.2.2.2.2.2.2.1.2
theorem zC.sharp (h : zC V E o) : ∀ m, 0 ≤ m → m < ((V (4)).val : Int) → E (o + 2) m = ((V (30 + 5 * m + 3)).val : Int) := fun m a b => (h.2.2.2.2.2.2.2.2.2.1 m a b).1
theorem zC.errs (h : zC V E o) : ∀ m, 0 ≤ m → m < ((V (4)).val : Int) → E (o + 3) m = ((V (30 + 5 * m + 4)).val : Int) := fun m a b => (h.2.2.2.2.2.2.2.2.2.1 m a b).2
theorem zC.lc (h : zC V E o) : ∀ i, 0 ≤ i → i < ((V (5)).val : Int) → E (o + 4) i = ((V (60 + 2 * i)).val : Int) := fun m a b => (h.2.2.2.2.2.2.2.2.2.2.1 m a b).1
theorem zC.lr (h : zC V E o) : ∀ i, 0 ≤ i → i < ((V (5)).val : Int) → E (o + 5) i = ((V (60 + 2 * i + 1)).val : Int) := fun m a b => (h.2.2.2.2.2.2.2.2.2.2.1 m a b).2
theorem zC.fs (h : zC V E o) : ∀ i, 0 ≤ i → i < ((V (6)).val : Int) → E (o + 6) i = ((V (66 + 3 * i)).val : Int) := fun m a b => (h.2.2.2.2.2.2.2.2.2.2.2 m a b).1
theorem zC.fr' (h : zC V E o) : ∀ i, 0 ≤ i → i < ((V (6)).val : Int) → E (o + 7) i = ((V (66 + 3 * i + 1)).val : Int) := fun m a b => (h.2.2.2.2.2.2.2.2.2.2.2 m a b).2.1
theorem zC.fc (h : zC V E o) : ∀ i, 0 ≤ i → i < ((V (6)).val : Int) → E (o + 8) i = ((V (66 + 3 * i + 2)).val : Int) := fun m a b => (h.2.2.2.2.2.2.2.2.2.2.2 m a b).2.2
theorem zC.cols (h : zC V E o) : E o 9 = ((V (0)).val : Int) := h.1.1
theorem zC.rows (h : zC V E o) : E o 10 = ((V (1)).val : Int) := h.1.2.1
theorem zC.nose (h : zC V E o) : E o 11 = ((V (2)).val : Int) := h.1.2.2.1
theorem zC.spks (h : zC V E o) : E o 12 = ((V (3)).val : Int) := h.1.2.2.2.1
theorem zC.mems (h : zC V E o) : E o 13 = ((V (4)).val : Int) := h.1.2.2.2.2.1
theorem zC.lmps (h : zC V E o) : E o 14 = ((V (5)).val : Int) := h.1.2.2.2.2.2.1
theorem zC.flts (h : zC V E o) : E o 15 = ((V (6)).val : Int) := h.1.2.2.2.2.2.2
theorem zV.cols (h : zV V) : 3 ≤ ((V (0)).val : Int) ∧ ((V (0)).val : Int) ≤ 12 := h.1
theorem zV.rows (h : zV V) : 1 ≤ ((V (1)).val : Int) ∧ ((V (1)).val : Int) ≤ 6 := h.2.1
theorem zV.nose (h : zV V) : ((V (2)).val : Int) ≤ 9 := h.2.2.1
theorem zV.spks (h : zV V) : 1 ≤ ((V (3)).val : Int) ∧ ((V (3)).val : Int) ≤ 4 := h.2.2.2.1
theorem zV.mems (h : zV V) : ((V (4)).val : Int) ≤ 6 := h.2.2.2.2.1
theorem zV.lmps (h : zV V) : ((V (5)).val : Int) ≤ 3 := h.2.2.2.2.2.1
theorem zV.flts (h : zV V) : ((V (6)).val : Int) ≤ 5 := h.2.2.2.2.2.2.1
theorem zV.air (h : zV V) : ∀ k, 0 ≤ k → k < 7 → ((V (200 + k)).val : Int) ≤ 7 := h.2.2.2.2.2.2.2.1
theorem zV.spk (h : zV V) : ∀ s, 0 ≤ s → s < ((V (3)).val : Int) → ((V (200 + (7 + 2 * s))).val : Int) < ((V (0)).val : Int) ∧ 1 ≤ ((V (200 + (7 + 2 * s + 1))).val : Int) ∧ ((V (200 + (7 + 2 * s + 1))).val : Int) ≤ ((V (1)).val : Int) := h.2.2.2.2.2.2.2.2.1
theorem zV.mem (h : zV V) : ∀ m, 0 ≤ m → m < ((V (4)).val : Int) → ((V (200 + (19 + 3 * m))).val : Int) ≤ 3 ∧ ((V (200 + (19 + 3 * m + 1))).val : Int) < ((V (0)).val : Int) ∧ 1 ≤ ((V (200 + (19 + 3 * m + 2))).val : Int) ∧ ((V (200 + (19 + 3 * m + 2))).val : Int) ≤ ((V (1)).val : Int) ∧ ((V (30 + 5 * m + 3)).val : Int) ≤ 9 ∧ ((V (30 + 5 * m + 4)).val : Int) ≤ 100 := h.2.2.2.2.2.2.2.2.2.1
theorem zV.lmp (h : zV V) : ∀ i, 0 ≤ i → i < ((V (5)).val : Int) → ((V (60 + 2 * i)).val : Int) < ((V (0)).val : Int) ∧ 1 ≤ ((V (60 + 2 * i + 1)).val : Int) ∧ ((V (60 + 2 * i + 1)).val : Int) ≤ ((V (1)).val : Int) := h.2.2.2.2.2.2.2.2.2.2.1
theorem zV.flt (h : zV V) : ∀ f, 0 ≤ f → f < ((V (6)).val : Int) → ((V (66 + 3 * f)).val : Int) < ((V (0)).val : Int) ∧ 1 ≤ ((V (66 + 3 * f + 1)).val : Int) ∧ ((V (66 + 3 * f + 1)).val : Int) ≤ ((V (1)).val : Int) ∧ ((V (66 + 3 * f + 2)).val : Int) < ((V (0)).val : Int) := h.2.2.2.2.2.2.2.2.2.2.2
theorem sp_air_r (hV : zV V) {k : Int} (h1 : 0 ≤ k) (h2 : k < 7) : -3 ≤ sp_air V k ∧ sp_air V k ≤ 3 := by
  have := hV.air k h1 h2
  unfold sp_air
  split <;> omega
theorem T30 (ho : zo o) (hC : zC V E o) {k : Int} (h1 : 0 ≤ k) (h2 : k < 7) : zf_ev X d 30 (0, [vR o, vI k, vJ], [], zH t p q E) = some (some [vI (sp_air V k)], zH t p q E) := by
  have c := hC.air k h1 h2
  rw [L30_0 ho]
  simp (disch := omega) only [n32_id, zg_pos, zu_same, zu_ne, c]
  unfold sp_air
  by_cases h : ((V (200 + k)).val : Int) = 7 <;> simp [h]
theorem T31 (ho : zo o) (hC : zC V E o) (hV : zV V) {c : Int} (h1 : -100000 ≤ c) (h2 : c ≤ 100000) : zf_ev X d 31 (0, [vR o, vI c], [], zH t p q E) = some (some [vI (sp_wall ((V (0)).val : Int) c)], zH t p q E) := by
  have hc := hV.cols
  rw [L31_0 ho, hC.cols]
  unfold sp_wall
  by_cases q1 : c < ((V (0)).val : Int) - 1
  · by_cases q2 : 0 < c
    · simp (disch := omega) only [n32_id, zg_pos, if_pos, if_neg, zu_same, zu_ne, if_true, if_false, ne_eq, not_true_eq_false, not_false_eq_true, true_or, or_true, true_and, and_true, zg_true, fa_b_f, fa_b_t]
    · by_cases q3 : c = 0
      · subst q3; simp (disch := omega) only [n32_id, zg_pos, if_pos, if_neg, zu_same, zu_ne, if_true, if_false, ne_eq, not_true_eq_false, not_false_eq_true, true_or, or_true, true_and, and_true, zg_true, fa_b_f, fa_b_t]
      · simp (disch := omega) only [n32_id, zg_pos, if_pos, if_neg, zu_same, zu_ne, if_true, if_false, ne_eq, not_true_eq_false, not_false_eq_true, true_or, or_true, true_and, and_true, zg_true, fa_b_f, fa_b_t]
  · simp (disch := omega) only [n32_id, zg_pos, if_pos, if_neg, zu_same, zu_ne, if_true, if_false, ne_eq, not_true_eq_false, not_false_eq_true, true_or, or_true, true_and, and_true, zg_true, fa_b_f, fa_b_t]
    by_cases q3 : c = ((V (0)).val : Int) - 1
    · rw [if_neg (by omega), q3]
    · simp (disch := omega) only [n32_id, zg_pos, if_pos, if_neg, zu_same, zu_ne, if_true, if_false, ne_eq, not_true_eq_false, not_false_eq_true, true_or, or_true, true_and, and_true, zg_true, fa_b_f, fa_b_t]
theorem T33 {fold far : Int} (h1 : 0 ≤ fold ∧ fold ≤ 3) (h2 : 0 ≤ far ∧ far ≤ 100) : zf_ev X d 33 (0, [vI fold, vI far], [], zH t p q E) = some (some [vI (sp_row fold far)], zH t p q E) := by
  have := (zt_td2 far).1 (by omega)
  rw [L33_0]
  unfold sp_row
  by_cases h : fold = 3
  · subst h
    simp (disch := omega) only [n32_id, zg_pos, zu_same, zu_ne]
    simp
  · simp (disch := omega) only [n32_id, zg_pos, zu_same, zu_ne]
    simp [h]
theorem T32_loop (ho : zo o) (hC : zC V E o) (hV : zV V) {fold far : Int} (hf : 0 ≤ fold ∧ fold ≤ 3) (hfar : 0 ≤ far ∧ far < 7) : ∀ (k : Nat) (i c : Int) (j2 j6 : ZV), 1 ≤ i → i + k = far + 1 → 0 ≤ c → c < ((V (0)).val : Int) →
    zf_ev X (d + 1) 32 (13, [vR o, vI fold, j2, vI far, vI c, vI i, j6], [], zH t p q E) = some (some [vI (if fold = 2 then ((V (0)).val : Int) - 1 - sp_colL (sp_air V) ((V (0)).val : Int) fold k i c else sp_colL (sp_air V) ((V (0)).val : Int) fold k i c)], zH t p q E) := by
  have hc := hV.cols
  intro k
  induction k with
  | zero =>
    intro i c j2 j6 h1 h2 h3 h4
    rw [L32_13 ho]
    simp (disch := omega) only [n32_id, zg_pos, if_pos, if_neg, zu_same, zu_ne, if_true, if_false, ne_eq, not_true_eq_false, not_false_eq_true, true_or, or_true, true_and, and_true, zg_true, fa_b_f, fa_b_t, hC.cols]
    by_cases h : fold = 2
    · subst h
      simp [sp_colL]
    · simp [h, sp_colL]
  | succ k ih =>
    intro i c j2 j6 h1 h2 h3 h4
    have ha := sp_air_r hV (k := i) (by omega) (by omega)
    have ht := zt_td2 (sp_air V i)
    rw [L32_13 ho]
    simp (disch := omega) only [n32_id, zg_pos, if_pos, if_neg, zu_same, zu_ne, if_true, if_false, ne_eq, not_true_eq_false, not_false_eq_true, true_or, or_true, true_and, and_true, zg_true, fa_b_f, fa_b_t, T30 ho hC]
    rw [L32_k22 ho]
    unfold sp_colL
    by_cases h : fold = 1
    · simp (disch := omega) only [n32_id, zg_pos, if_pos, if_neg, zu_same, zu_ne, if_true, if_false, ne_eq, not_true_eq_false, not_false_eq_true, true_or, or_true, true_and, and_true, zg_true, fa_b_f, fa_b_t, T31 ho hC hV]
      rw [L32_k45 ho, ih _ _ _ _ (by omega) (by omega) (sp_wall_r (by omega)).1 (sp_wall_r (by omega)).2, if_neg (by omega)]
    · simp (disch := omega) only [n32_id, zg_pos, if_pos, if_neg, zu_same, zu_ne, if_true, if_false, ne_eq, not_true_eq_false, not_false_eq_true, true_or, or_true, true_and, and_true, zg_true, fa_b_f, fa_b_t, T31 ho hC hV]
      rw [L32_k45 ho, ih _ _ _ _ (by omega) (by omega) (sp_wall_r (by omega)).1 (sp_wall_r (by omega)).2]
theorem T32 (ho : zo o) (hC : zC V E o) (hV : zV V) {fold seat far : Int} (hf : 0 ≤ fold ∧ fold ≤ 3) (hs : 0 ≤ seat ∧ seat < ((V (0)).val : Int)) (hfar : 0 ≤ far ∧ far < 7) : zf_ev X (d + 1) 32 (0, [vR o, vI fold, vI seat, vI far, vJ, vJ, vJ], [], zH t p q E) = some (some [vI (sp_col (sp_air V) ((V (0)).val : Int) fold seat far)], zH t p q E) := by
  rw [L32_0 ho]
  unfold sp_col
  by_cases h : fold = 3
  · simp (disch := omega) only [n32_id, zg_pos, if_pos, if_neg, zu_same, zu_ne, if_true, if_false, ne_eq, not_true_eq_false, not_false_eq_true, true_or, or_true, true_and, and_true, zg_true, fa_b_f, fa_b_t]
  · simp (disch := omega) only [n32_id, zg_pos, if_pos, if_neg, zu_same, zu_ne, if_true, if_false, ne_eq, not_true_eq_false, not_false_eq_true, true_or, or_true, true_and, and_true, zg_true, fa_b_f, fa_b_t]
    rw [T32_loop ho hC hV hf hfar far.toNat 1 seat _ _ (by omega) (by omega) (by omega) (by omega)]
theorem T34 (ho : zo o) (hC : zC V E o) (hV : zV V) {m : Int} (h1 : 0 ≤ m) (h2 : m < ((V (4)).val : Int)) : zf_ev X (d + 2) 34 (0, [vR o, vI m], [], zH t p q E) = some (some [vI (sp_dc V m)], zH t p q E) := by
  have hm := hV.mems
  have q := hV.mem m h1 h2
  have hr := hV.rows
  rw [L34_0 ho]
  simp (disch := omega) only [n32_id, zg_pos, if_pos, if_neg, zu_same, zu_ne, if_true, if_false, ne_eq, not_true_eq_false, not_false_eq_true, true_or, or_true, true_and, and_true, zg_true, fa_b_f, fa_b_t, hC.seat, hC.fold, hC.far]
  rw [T32 ho hC hV (by omega) (by omega) (by omega), L34_k27]
  rfl
theorem T35 (ho : zo o) (hC : zC V E o) (hV : zV V) {m : Int} (h1 : 0 ≤ m) (h2 : m < ((V (4)).val : Int)) : zf_ev X (d + 1) 35 (0, [vR o, vI m], [], zH t p q E) = some (some [vI (sp_dr V m)], zH t p q E) := by
  have hm := hV.mems
  have q := hV.mem m h1 h2
  have hr := hV.rows
  rw [L35_0 ho]
  simp (disch := omega) only [n32_id, zg_pos, if_pos, if_neg, zu_same, zu_ne, if_true, if_false, ne_eq, not_true_eq_false, not_false_eq_true, true_or, or_true, true_and, and_true, zg_true, fa_b_f, fa_b_t, hC.fold, hC.far]
  rw [T33 (by omega) (by omega), L35_k18]
  rfl
theorem T27_loop (ho : zo o) (hC : zC V E o) (hV : zV V) {c r : Int} (hc : -2147483648 ≤ c ∧ c < 2147483648) (hr : -2147483648 ≤ r ∧ r < 2147483648) : ∀ (k : Nat) (i : Int), 0 ≤ i → i + k = ((V (5)).val : Int) → zf_ev X d 27 (2, [vR o, vI c, vI r, vI i], [], zH t p q E) = some (some [vI (fa_b (fa_any (fun i => decide (((V (60 + 2 * i)).val : Int) = c ∧ ((V (60 + 2 * i + 1)).val : Int) = r)) k i))], zH t p q E) := by
  have hl := hV.lmps
  intro k
  induction k with
  | zero =>
    intro i h1 h2
    rw [L27_2 ho]
    simp (disch := omega) only [n32_id, zg_pos, if_pos, if_neg, zu_same, zu_ne, if_true, if_false, ne_eq, not_true_eq_false, not_false_eq_true, true_or, or_true, true_and, and_true, zg_true, fa_b_f, fa_b_t, hC.lmps]
    rfl
  | succ k ih =>
    intro i h1 h2
    have ih2 := ih (i + 1) (by omega) (by omega)
    rw [L27_2 ho]
    simp (disch := omega) only [n32_id, zg_pos, if_pos, if_neg, zu_same, zu_ne, if_true, if_false, ne_eq, not_true_eq_false, not_false_eq_true, true_or, or_true, true_and, and_true, zg_true, fa_b_f, fa_b_t, hC.lmps, hC.lc, hC.lr, fa_any]
    by_cases q1 : ((V (60 + 2 * i)).val : Int) = c
    · by_cases q2 : ((V (60 + 2 * i + 1)).val : Int) = r
      · simp [q1, q2, fa_b]
      · simp [q1, q2, ih2]
    · simp [q1, ih2]
theorem T27 (ho : zo o) (hC : zC V E o) (hV : zV V) {c r : Int} (hc : -2147483648 ≤ c ∧ c < 2147483648) (hr : -2147483648 ≤ r ∧ r < 2147483648) : zf_ev X d 27 (0, [vR o, vI c, vI r, vJ], [], zH t p q E) = some (some [vI (fa_b (sp_lamp V c r))], zH t p q E) := by
  rw [L27_0 ho]
  exact T27_loop ho hC hV hc hr _ _ (by omega) (by omega)
theorem T28_loop (ho : zo o) (hC : zC V E o) (hV : zV V) {c r : Int} (hc : -2147483648 ≤ c ∧ c < 2147483648) (hr : -2147483648 ≤ r ∧ r < 2147483648) : ∀ (k : Nat) (i : Int), 0 ≤ i → i + k = ((V (3)).val : Int) → zf_ev X d 28 (2, [vR o, vI c, vI r, vI i], [], zH t p q E) = some (some [vI (fa_b (fa_any (fun s => decide (((V (200 + (7 + 2 * s))).val : Int) = c ∧ ((V (200 + (7 + 2 * s + 1))).val : Int) = r)) k i))], zH t p q E) := by
  have hl := hV.spks
  intro k
  induction k with
  | zero =>
    intro i h1 h2
    rw [L28_2 ho]
    simp (disch := omega) only [n32_id, zg_pos, if_pos, if_neg, zu_same, zu_ne, if_true, if_false, ne_eq, not_true_eq_false, not_false_eq_true, true_or, or_true, true_and, and_true, zg_true, fa_b_f, fa_b_t, hC.spks]
    rfl
  | succ k ih =>
    intro i h1 h2
    have ih2 := ih (i + 1) (by omega) (by omega)
    rw [L28_2 ho]
    simp (disch := omega) only [n32_id, zg_pos, if_pos, if_neg, zu_same, zu_ne, if_true, if_false, ne_eq, not_true_eq_false, not_false_eq_true, true_or, or_true, true_and, and_true, zg_true, fa_b_f, fa_b_t, hC.spks, hC.sc, hC.sr, fa_any]
    by_cases q1 : ((V (200 + (7 + 2 * i))).val : Int) = c
    · by_cases q2 : ((V (200 + (7 + 2 * i + 1))).val : Int) = r
      · simp [q1, q2, fa_b]
      · simp [q1, q2, ih2]
    · simp [q1, ih2]
theorem T28 (ho : zo o) (hC : zC V E o) (hV : zV V) {c r : Int} (hc : -2147483648 ≤ c ∧ c < 2147483648) (hr : -2147483648 ≤ r ∧ r < 2147483648) : zf_ev X d 28 (0, [vR o, vI c, vI r, vJ], [], zH t p q E) = some (some [vI (fa_b (sp_spk V c r))], zH t p q E) := by
  rw [L28_0 ho]
  exact T28_loop ho hC hV hc hr _ _ (by omega) (by omega)
/-- the nearest by cells of any row of cells -/
theorem T37_loop {a n : Nat} (ha : zSh[a]? = some (20, n)) (hn : 33 ≤ n) {C R : Int → Int} {N c r : Int} (hN : 0 ≤ N ∧ N ≤ 4) (hc : -1000 ≤ c ∧ c ≤ 1000) (hr : -1000 ≤ r ∧ r ≤ 1000) (h1 : ∀ s, 0 ≤ s → s < N → E a (25 + s) = C s ∧ -1000 ≤ C s ∧ C s ≤ 100000) (h2 : ∀ s, 0 ≤ s → s < N → E a (29 + s) = R s ∧ -1000 ≤ R s ∧ R s ≤ 100000) :
    ∀ (k : Nat) (i best least : Int) (j7 : ZV), 0 ≤ i → i + k = N → -2147483648 ≤ least → least ≤ 2147483647 → zf_ev X d 37 (10, [vR a, vI N, vI c, vI r, vI best, vI least, vI i, j7], [], zH t p q E) = some (some [vI (sp_near (sp_dist C R c r) k i best least)], zH t p q E) := by
  intro k
  induction k with
  | zero =>
    intro i best least j7 g1 g2 g3 g4
    rw [L37_10 ha]
    simp (disch := omega) only [n32_id, zg_pos, if_pos, if_neg, zu_same, zu_ne, if_true, if_false, ne_eq, not_true_eq_false, not_false_eq_true, true_or, or_true, true_and, and_true, zg_true, fa_b_f, fa_b_t]
    rfl
  | succ k ih =>
    intro i best least j7 g1 g2 g3 g4
    have b1 := h1 i (by omega) (by omega)
    have b2 := h2 i (by omega) (by omega)
    have e1 : E a (25 + i) = C i := b1.1
    have e2 : E a (29 + i) = R i := b2.1
    have d1 : 0 ≤ sp_abs (C i - c) ∧ sp_abs (C i - c) ≤ 200000 := by unfold sp_abs; split <;> omega
    have d2 : 0 ≤ sp_abs (R i - r) ∧ sp_abs (R i - r) ≤ 200000 := by unfold sp_abs; split <;> omega
    rw [L37_10 ha]
    simp (disch := omega) only [n32_id, zg_pos, zu_same, zu_ne, e1, e2]
    rw [if_neg (by omega)]
    have f1 : (if 0 ≤ C i - c then C i - c else 0 - (C i - c)) = sp_abs (C i - c) := rfl
    have f2 : (if 0 ≤ R i - r then R i - r else 0 - (R i - r)) = sp_abs (R i - r) := rfl
    rw [f1, f2]
    unfold sp_near
    have f3 : sp_dist C R c r i = sp_abs (C i - c) + sp_abs (R i - r) := rfl
    rw [f3]
    by_cases w : sp_abs (C i - c) + sp_abs (R i - r) < least
    · rw [if_neg (by omega), if_pos w]
      exact ih _ _ _ _ (by omega) (by omega) (by omega) (by omega)
    · rw [if_pos (by omega), if_neg w]
      exact ih _ _ _ _ (by omega) (by omega) (by omega) (by omega)
theorem T37 {a n : Nat} (ha : zSh[a]? = some (20, n)) (hn : 33 ≤ n) {C R : Int → Int} {N c r : Int} (hN : 1 ≤ N ∧ N ≤ 4) (hc : -1000 ≤ c ∧ c ≤ 1000) (hr : -1000 ≤ r ∧ r ≤ 1000) (h1 : ∀ s, 0 ≤ s → s < N → E a (25 + s) = C s ∧ -1000 ≤ C s ∧ C s ≤ 100000) (h2 : ∀ s, 0 ≤ s → s < N → E a (29 + s) = R s ∧ -1000 ≤ R s ∧ R s ≤ 100000) :
    zf_ev X d 37 (0, [vR a, vI N, vI c, vI r, vJ, vJ, vJ, vJ], [], zH t p q E) = some (some [vI (sp_nearest C R N c r)], zH t p q E) := by
  rw [L37_0 ha, T37_loop ha hn (by omega) hc hr h1 h2 N.toNat 0 0 2147483647 vJ (by omega) (by omega) (by omega) (by omega)]
  have b1 := h1 0 (by omega) (by omega)
  have b2 := h2 0 (by omega) (by omega)
  have d1 : 0 ≤ sp_abs (C 0 - c) ∧ sp_abs (C 0 - c) ≤ 200000 := by unfold sp_abs; split <;> omega
  have d2 : 0 ≤ sp_abs (R 0 - r) ∧ sp_abs (R 0 - r) ≤ 200000 := by unfold sp_abs; split <;> omega
  have e : N.toNat = (N.toNat - 1) + 1 := by omega
  unfold sp_nearest
  rw [e, sp_near_big (b := 2147483647) (c := 1000000)]
  · show sp_abs (C 0 - c) + sp_abs (R 0 - r) < _
    omega
  · show sp_abs (C 0 - c) + sp_abs (R 0 - r) < _
    omega
theorem T36 (ho : zo o) (hC : zC V E o) (hV : zV V) {c r : Int} (hc : -1000 ≤ c ∧ c ≤ 1000) (hr : -1000 ≤ r ∧ r ≤ 1000) : zf_ev X (d + 1) 36 (0, [vR o, vI c, vI r], [], zH t p q E) = some (some [vI (sp_nearest (sp_C V) (sp_R V) ((V (3)).val : Int) c r)], zH t p q E) := by
  have hs := hV.spks
  rw [L36_0 ho, hC.spks, T37 (zsh_h1 ho) (by omega) (C := sp_C V) (R := sp_R V) hs hc hr (fun s a b => ⟨hC.sc s a (by omega), by unfold sp_C; omega, by unfold sp_C; omega⟩) (fun s a b => ⟨hC.sr s a (by omega), by unfold sp_R; omega, by unfold sp_R; omega⟩), L36_k10]
theorem T38 (ho : zo o) (hC : zC V E o) (hV : zV V) {m c r : Int} (h1 : 0 ≤ m) (h2 : m < ((V (4)).val : Int)) (hc : -1000 ≤ c ∧ c ≤ 1000) (hr : -1000 ≤ r ∧ r ≤ 1000) : zf_ev X (d + 1) 38 (0, [vR o, vI m, vI c, vI r], [], zH t p q E) = some (some [vI (fa_b (sp_count V m c r))], zH t p q E) := by
  have hm := hV.mems
  rw [L38_0 ho]
  simp (disch := omega) only [n32_id, zg_pos, zu_same, zu_ne, hC.sharp, hC.nose]
  unfold sp_count
  by_cases w : ((V (30 + 5 * m + 3)).val : Int) ≤ ((V (2)).val : Int)
  · rw [if_neg (by omega), T27 ho hC hV (by omega) (by omega), L38_k16, fa_b_id]
    cases sp_lamp V c r <;> simp [w, fa_b]
  · rw [if_pos (by omega)]
    simp [w, fa_b]
theorem T39 (ho : zo o) (hC : zC V E o) (hV : zV V) {m c r : Int} (h1 : 0 ≤ m) (h2 : m < ((V (4)).val : Int)) (hc : -1000 ≤ c ∧ c ≤ 1000) (hr : -1000 ≤ r ∧ r ≤ 1000) : zf_ev X (d + 2) 39 (0, [vR o, vI m, vI c, vI r], [], zH t p q E) = some (some [vI (sp_voteAt V (sp_C V) (sp_R V) m c r)], zH t p q E) := by
  rw [L39_0 ho, T38 ho hC hV h1 h2 hc hr, L39_k4 ho, fa_b_id]
  unfold sp_voteAt
  cases w : sp_count V m c r
  · simp [fa_b]
  · simp only [fa_b]
    rw [if_neg (by simp), T36 ho hC hV hc hr, L39_k13]
    simp
theorem T40 (ho : zo o) (hC : zC V E o) (hV : zV V) {m : Int} (h1 : 0 ≤ m) (h2 : m < ((V (4)).val : Int)) : zf_ev X (d + 3) 40 (0, [vR o, vI m], [], zH t p q E) = some (some [vI (sp_vote V (sp_C V) (sp_R V) m)], zH t p q E) := by
  have hq := hV.mem m h1 h2
  have hv := hV.cols
  have hw := hV.rows
  have b1 : 0 ≤ sp_dc V m ∧ sp_dc V m < ((V (0)).val : Int) := sp_col_r (by omega) (by omega) (by omega)
  have b2 : 1 ≤ sp_dr V m ∧ sp_dr V m ≤ ((V (1)).val : Int) := sp_row_r (by omega) (by omega)
  rw [L40_0 ho, T34 ho hC hV h1 h2, L40_k4 ho, T35 ho hC hV h1 h2, L40_k9 ho, T39 ho hC hV h1 h2 (by omega) (by omega), L40_k12]
  rfl
end CH

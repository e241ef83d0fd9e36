/-! odds: chances in parts of 200, lowest terms -/
theorem n64_id {z : Int} (h1 : -9223372036854775808 ≤ z) (h2 : z < 9223372036854775808) : n64 z = z := by
  unfold n64
  exact Int64.toInt_ofInt_of_le h1 h2
theorem zm_lcmp0 {y : Int} (h1 : 0 ≤ y) (h2 : y < 9223372036854775808) : zm_lcmp y 0 = if y = 0 then 0 else 1 := by
  unfold zm_lcmp
  rw [n64_id (by omega) (by omega), n64_id (by omega) (by omega)]
  by_cases h : y = 0
  · rw [if_neg (by omega), if_pos h, if_pos h]
  · rw [if_pos (by omega), if_neg h]
def sp_parts (V : Int → Fin 65537) (m e : Int) : Int := if e = 0 then 200 - 2 * ((V (30 + 5 * m + 4)).val : Int) else ((V (30 + 5 * m + 4)).val : Int)
def sp_g (V : Int → Fin 65537) (C R : Int → Int) (m s c r e : Int) : Int := if sp_voteAt V C R m (sp_wall ((V (0)).val : Int) (c + e)) r = s then sp_parts V m e else 0
def sp_ch (V : Int → Fin 65537) (C R : Int → Int) (m s c r : Int) : Int := 0 + sp_g V C R m s c r (-1) + sp_g V C R m s c r 0 + sp_g V C R m s c r 1
def sp_chance (V : Int → Fin 65537) (m s fold seat far : Int) : Int := sp_ch V (sp_C V) (sp_R V) m s (sp_col (sp_air V) ((V (0)).val : Int) fold seat far) (sp_row fold far)
theorem sp_parts_r {V : Int → Fin 65537} (hV : zV V) {m e : Int} (h1 : 0 ≤ m) (h2 : m < ((V (4)).val : Int)) : 0 ≤ sp_parts V m e ∧ sp_parts V m e ≤ 200 := by
  have := hV.mem m h1 h2
  unfold sp_parts
  split <;> omega
theorem sp_g_r {V : Int → Fin 65537} {C R : Int → Int} (hV : zV V) {m s c r e : Int} (h1 : 0 ≤ m) (h2 : m < ((V (4)).val : Int)) : 0 ≤ sp_g V C R m s c r e ∧ sp_g V C R m s c r e ≤ sp_parts V m e := by
  have := sp_parts_r hV (e := e) h1 h2
  unfold sp_g
  split <;> omega
theorem sp_ch_r {V : Int → Fin 65537} {C R : Int → Int} (hV : zV V) {m s c r : Int} (h1 : 0 ≤ m) (h2 : m < ((V (4)).val : Int)) : 0 ≤ sp_ch V C R m s c r ∧ sp_ch V C R m s c r ≤ 200 := by
  have a1 := sp_g_r (C := C) (R := R) (s := s) (c := c) (r := r) (e := -1) hV h1 h2
  have a2 := sp_g_r (C := C) (R := R) (s := s) (c := c) (r := r) (e := 0) hV h1 h2
  have a3 := sp_g_r (C := C) (R := R) (s := s) (c := c) (r := r) (e := 1) hV h1 h2
  have b1 : sp_parts V m (-1) = ((V (30 + 5 * m + 4)).val : Int) := rfl
  have b2 : sp_parts V m 0 = 200 - 2 * ((V (30 + 5 * m + 4)).val : Int) := rfl
  have b3 : sp_parts V m 1 = ((V (30 + 5 * m + 4)).val : Int) := rfl
  unfold sp_ch
  omega
def sp_cnow (V : Int → Fin 65537) (m s : Int) : Int := sp_chance V m s ((V (200 + (19 + 3 * m))).val : Int) ((V (200 + (19 + 3 * m + 1))).val : Int) ((V (200 + (19 + 3 * m + 2))).val : Int)
/-! lowest terms -/
def sp_eu : Nat → Int → Int → Int
  | 0, a, _ => a
  | n + 1, a, b => if b = 0 then a else sp_eu n b (a.tmod b)
theorem gcd_em {a b : Int} (h1 : 0 ≤ a) (h2 : 0 < b) : Int.gcd (a % b) b = Int.gcd a b := by
  obtain ⟨m, rfl⟩ := Int.eq_ofNat_of_zero_le h1
  obtain ⟨n, rfl⟩ := Int.eq_ofNat_of_zero_le (Int.le_of_lt h2)
  rw [← Int.natCast_emod]
  show Nat.gcd (m % n) n = Nat.gcd m n
  rw [← Nat.gcd_rec, Nat.gcd_comm]
theorem sp_eu_gcd : ∀ (k n : Nat) (a b : Int), 0 ≤ a → 0 ≤ b → b < 2 ^ k → 2 * k + 1 ≤ n → sp_eu n a b = Int.gcd a b := by
  intro k
  induction k with
  | zero =>
    intro n a b h1 h2 h3 h4
    have hb : b = 0 := by omega
    subst hb
    cases n with
    | zero => omega
    | succ n =>
      unfold sp_eu
      rw [if_pos rfl, Int.gcd_zero_right]
      omega
  | succ k ih =>
    intro n a b h1 h2 h3 h4
    cases n with
    | zero => omega
    | succ n =>
      cases n with
      | zero => omega
      | succ n =>
        unfold sp_eu
        by_cases hb : b = 0
        · rw [if_pos hb, hb, Int.gcd_zero_right]
          omega
        · rw [if_neg hb]
          have e1 : a.tmod b = a % b := Int.tmod_eq_emod_of_nonneg h1
          have r1 : 0 ≤ a % b := Int.emod_nonneg _ hb
          have r2 : a % b < b := Int.emod_lt_of_pos _ (by omega)
          have g1 : Int.gcd a b = Int.gcd b (a % b) := by
            rw [Int.gcd_comm b, gcd_em h1 (by omega)]
          rw [e1]
          unfold sp_eu
          by_cases hr : a % b = 0
          · rw [if_pos hr, g1, hr, Int.gcd_zero_right]
            omega
          · rw [if_neg hr]
            have e2 : b.tmod (a % b) = b % (a % b) := Int.tmod_eq_emod_of_nonneg h2
            have r3 : 0 ≤ b % (a % b) := Int.emod_nonneg _ hr
            have r4 : b % (a % b) < a % b := Int.emod_lt_of_pos _ (by omega)
            have r5 : b % (a % b) ≤ b - (a % b) := by
              have hd := Int.emod_add_mul_ediv b (a % b)
              have hq : 1 ≤ b / (a % b) := Int.le_ediv_of_mul_le (by omega) (by omega)
              have : (a % b) * 1 ≤ (a % b) * (b / (a % b)) := Int.mul_le_mul_of_nonneg_left hq r1
              omega
            have g2 : Int.gcd b (a % b) = Int.gcd (a % b) (b % (a % b)) := by
              rw [Int.gcd_comm (a % b), gcd_em h2 (by omega)]
            rw [e2, ih n _ _ r1 r3 (by rw [Int.pow_succ] at h3; omega) (by omega), g1, g2]
def sp_low (up down l : Int) : Int := (if l = 0 then up else down) / (Int.gcd up down : Int)
section OD
variable {X : Nat × (Nat → Int)} {d : Nat} {t : List (Nat × Nat)} {p q : Nat} {E : Nat → Int → Int} {V : Int → Fin 65537} {C R : Int → Int} {o : Nat}
theorem tmod_r {a b : Int} (h1 : 0 ≤ a) (h2 : 0 < b) : 0 ≤ a.tmod b ∧ a.tmod b < b := by
  rw [Int.tmod_eq_emod_of_nonneg h1]
  exact ⟨Int.emod_nonneg _ (by omega), Int.emod_lt_of_pos _ h2⟩
theorem T50_loop : ∀ (k : Nat) (n a b : Int) (j0 j1 j2 j3 j5 j7 j9 j10 : ZV), zm_isL j3 = false → 0 ≤ n → n + k = 100 → 0 ≤ a → a < 9223372036854775808 → 0 ≤ b → b < 9223372036854775808 → zf_ev X d 50 (9, [j0, j1, j2, j3, vL a, j5, vL b, j7, vI n, j9, j10], [], zH t p q E) = some (some [vL (sp_eu k a b)], zH t p q E) := by
  intro k
  induction k with
  | zero =>
    intro n a b j0 j1 j2 j3 j5 j7 j9 j10 hj h1 h2 h3 h4 h5 h6
    rw [L50_9 hj]
    simp (disch := omega) only [n32_id, zg_pos, if_pos, if_neg, zu_same, zu_ne, if_true, if_false, ne_eq, not_true_eq_false, not_false_eq_true, true_or, or_true, true_and, and_true, zg_true, fa_b_f, fa_b_t]
    rfl
  | succ k ih =>
    intro n a b j0 j1 j2 j3 j5 j7 j9 j10 hj h1 h2 h3 h4 h5 h6
    rw [L50_9 hj]
    unfold sp_eu
    by_cases hb : b = 0
    · simp (disch := omega) only [n32_id, zg_pos, if_pos, if_neg, zu_same, zu_ne, if_true, if_false, ne_eq, not_true_eq_false, not_false_eq_true, true_or, or_true, true_and, and_true, zg_true, fa_b_f, fa_b_t, zm_lcmp0]
    · have := tmod_r h3 (b := b) (by omega)
      simp (disch := omega) only [n32_id, zg_pos, if_pos, if_neg, zu_same, zu_ne, if_true, if_false, ne_eq, not_true_eq_false, not_false_eq_true, true_or, or_true, true_and, and_true, zg_true, fa_b_f, fa_b_t, zm_lcmp0, n64_id]
      exact ih _ _ _ _ _ _ _ _ _ _ _ hj (by omega) (by omega) (by omega) (by omega) (by omega) (by omega)
theorem T50 {a b : Int} (h1 : 0 ≤ a) (h2 : a < 9223372036854775808) (h3 : 0 ≤ b) (h4 : b ≤ 70000000000000) : zf_ev X d 50 (0, [vL a, vJ, vL b, vJ, vJ, vJ, vJ, vJ, vJ, vJ, vJ], [], zH t p q E) = some (some [vL (Int.gcd a b : Int)], zH t p q E) := by
  rw [L50_0, T50_loop 100 0 a b _ _ _ _ _ _ _ _ rfl (by omega) (by omega) h1 h2 h3 (by omega), sp_eu_gcd 46 100 a b h1 h3 (by omega) (by omega)]
theorem gcd_r {a b : Int} (h1 : 0 ≤ a) (h3 : 0 < b) : 0 < (Int.gcd a b : Int) ∧ (Int.gcd a b : Int) ≤ b := by
  constructor
  · have : 0 < Int.gcd a b := Int.gcd_pos_of_ne_zero_right _ (by omega)
    omega
  · exact Int.le_of_dvd h3 (Int.gcd_dvd_right _ _)
theorem T49 {a b l : Int} (h1 : 0 ≤ a) (h2 : a < 9223372036854775808) (h3 : 0 < b) (h4 : b ≤ 70000000000000) (hl : -2147483648 ≤ l ∧ l < 2147483648) : zf_ev X (d + 1) 49 (0, [vL a, vJ, vL b, vJ, vI l, vJ, vJ, vJ, vJ], [], zH t p q E) = some (some [vL (sp_low a b l)], zH t p q E) := by
  have g := gcd_r h1 h3
  rw [L49_0, T50 h1 h2 (by omega) h4, L49_k2]
  unfold sp_low
  by_cases w : l = 0
  · simp (disch := omega) only [n32_id, zg_pos, if_pos, if_neg, zu_same, zu_ne, if_true, if_false, ne_eq, not_true_eq_false, not_false_eq_true, true_or, or_true, true_and, and_true, zg_true, fa_b_f, fa_b_t, zm_lcmp0, n64_id]
    rw [Int.tdiv_eq_ediv_of_nonneg h1]
  · simp (disch := omega) only [n32_id, zg_pos, if_pos, if_neg, zu_same, zu_ne, if_true, if_false, ne_eq, not_true_eq_false, not_false_eq_true, true_or, or_true, true_and, and_true, zg_true, fa_b_f, fa_b_t, zm_lcmp0, n64_id]
    rw [Int.tdiv_eq_ediv_of_nonneg (by omega)]
theorem T184_loop {a b l : Int} (h1 : 0 ≤ a) (h2 : a < 9223372036854775808) (h3 : 0 < b) (h4 : b < 9223372036854775808) (hl : -2147483648 ≤ l ∧ l < 2147483648) : ∀ (k : Nat) (x y : Int) (j1 j3 j6 j8 j9 j10 : ZV), zm_isL j8 = false → 0 ≤ x → x < 9223372036854775808 → 0 ≤ y → y < k → y < 9223372036854775808 → (Int.gcd x y : Int) = Int.gcd a b → zf_ev X d 184 (6, [vL a, j1, vL b, j3, vI l, vL x, j6, vL y, j8, j9, j10], [], zH t p q E) = some (some [vL (sp_low a b l)], zH t p q E) := by
  intro k
  induction k with
  | zero => intro x y j1 j3 j6 j8 j9 j10 hj g1 g2 g3 g4; omega
  | succ k ih =>
    intro x y j1 j3 j6 j8 j9 j10 hj g1 g2 g3 g4 g5 g6
    have g := gcd_r h1 h3
    rw [L184_6 hj]
    by_cases hy : y = 0
    · subst hy
      have e : x = (Int.gcd a b : Int) := by
        rw [Int.gcd_zero_right] at g6
        omega
      unfold sp_low
      by_cases w : l = 0
      · simp (disch := omega) only [n32_id, zg_pos, if_pos, if_neg, zu_same, zu_ne, if_true, if_false, ne_eq, not_true_eq_false, not_false_eq_true, true_or, or_true, true_and, and_true, zg_true, fa_b_f, fa_b_t, zm_lcmp0, n64_id]
        rw [Int.tdiv_eq_ediv_of_nonneg h1, e]
      · simp (disch := omega) only [n32_id, zg_pos, if_pos, if_neg, zu_same, zu_ne, if_true, if_false, ne_eq, not_true_eq_false, not_false_eq_true, true_or, or_true, true_and, and_true, zg_true, fa_b_f, fa_b_t, zm_lcmp0, n64_id]
        rw [Int.tdiv_eq_ediv_of_nonneg (by omega), e]
    · have r := tmod_r g1 (b := y) (by omega)
      simp (disch := omega) only [n32_id, zg_pos, if_pos, if_neg, zu_same, zu_ne, if_true, if_false, ne_eq, not_true_eq_false, not_false_eq_true, true_or, or_true, true_and, and_true, zg_true, fa_b_f, fa_b_t, zm_lcmp0, n64_id]
      refine ih _ _ _ _ _ _ _ _ rfl (by omega) (by omega) (by omega) (by omega) (by omega) ?_
      rw [← g6, Int.tmod_eq_emod_of_nonneg g1, Int.gcd_comm y, gcd_em g1 (by omega)]
theorem T184 {a b l : Int} (h1 : 0 ≤ a) (h2 : a < 9223372036854775808) (h3 : 0 < b) (h4 : b < 9223372036854775808) (hl : -2147483648 ≤ l ∧ l < 2147483648) : zf_ev X d 184 (0, [vL a, vJ, vL b, vJ, vI l, vJ, vJ, vJ, vJ, vJ, vJ], [], zH t p q E) = some (some [vL (sp_low a b l)], zH t p q E) := by
  rw [L184_0]
  exact T184_loop h1 h2 h3 h4 hl (a.toNat + 1) b a _ _ _ _ _ _ rfl (by omega) h4 h1 (by omega) h2 (by rw [Int.gcd_comm])
/-! the class's chances -/
theorem T44 (ho : zo o) (hC : zC V E o) (hV : zV V) {m e : Int} (h1 : 0 ≤ m) (h2 : m < ((V (4)).val : Int)) (he : -1 ≤ e ∧ e ≤ 1) : zf_ev X d 44 (0, [vR o, vI m, vI e], [], zH t p q E) = some (some [vI (sp_parts V m e)], zH t p q E) := by
  have hm := hV.mems
  rw [L44_0 ho]
  unfold sp_parts
  by_cases w : e = 0
  · simp (disch := omega) only [n32_id, zg_pos, if_pos, if_neg, zu_same, zu_ne, if_true, if_false, ne_eq, not_true_eq_false, not_false_eq_true, true_or, or_true, true_and, and_true, zg_true, fa_b_f, fa_b_t, hC.errs]
  · simp (disch := omega) only [n32_id, zg_pos, if_pos, if_neg, zu_same, zu_ne, if_true, if_false, ne_eq, not_true_eq_false, not_false_eq_true, true_or, or_true, true_and, and_true, zg_true, fa_b_f, fa_b_t, hC.errs]
theorem T45_step (ho : zo o) (hC : zC V E o) (hV : zV V) {m s c r z e : Int} (h1 : 0 ≤ m) (h2 : m < ((V (4)).val : Int)) (hs : 0 ≤ s ∧ s < 4) (hc : 0 ≤ c ∧ c < 12) (hr : 1 ≤ r ∧ r ≤ 6) (he : -1 ≤ e ∧ e ≤ 1) {j1 j2 j3 : ZV} : zf_ev X (d + 3) 45 (22, [vR o, j1, j2, j3, vI m, vI s, vI c, vI r, vI z, vI e], [], zH t p q E) = zf_ev X (d + 3) 45 (22, [vR o, j1, j2, j3, vI m, vI s, vI c, vI r, vI (z + sp_g V (sp_C V) (sp_R V) m s c r e), vI (e + 1)], [], zH t p q E) := by
  have hcl := hV.cols
  have hw := sp_wall_r (n := ((V (0)).val : Int)) (c := c + e) (by omega)
  have hv := sp_voteAt_r (C := sp_C V) (R := sp_R V) hV (m := m) (c := sp_wall ((V (0)).val : Int) (c + e)) (r := r)
  have hk := hV.spks
  rw [L45_22 ho]
  simp (disch := omega) only [n32_id, zg_pos, if_pos, if_neg, zu_same, zu_ne, if_true, if_false, ne_eq, not_true_eq_false, not_false_eq_true, true_or, or_true, true_and, and_true, zg_true, fa_b_f, fa_b_t, T31 ho hC hV]
  rw [L45_k37 ho, T39 ho hC hV h1 h2 (by omega) (by omega), L45_k42 ho]
  unfold sp_g
  by_cases w : sp_voteAt V (sp_C V) (sp_R V) m (sp_wall ((V (0)).val : Int) (c + e)) r = s
  · simp (disch := omega) only [n32_id, zg_pos, if_pos, if_neg, zu_same, zu_ne, if_true, if_false, ne_eq, not_true_eq_false, not_false_eq_true, true_or, or_true, true_and, and_true, zg_true, fa_b_f, fa_b_t, T44 ho hC hV]
    rw [L45_k57 ho]
  · simp (disch := omega) only [n32_id, zg_pos, if_pos, if_neg, zu_same, zu_ne, if_true, if_false, ne_eq, not_true_eq_false, not_false_eq_true, true_or, or_true, true_and, and_true, zg_true, fa_b_f, fa_b_t, Int.add_zero]
theorem T45 (ho : zo o) (hC : zC V E o) (hV : zV V) {fold seat far m s : Int} (h1 : 0 ≤ m) (h2 : m < ((V (4)).val : Int)) (hs : 0 ≤ s ∧ s < 4) (hf : 0 ≤ fold ∧ fold ≤ 3) (hse : 0 ≤ seat ∧ seat < ((V (0)).val : Int)) (hfar : 1 ≤ far ∧ far ≤ ((V (1)).val : Int)) : zf_ev X (d + 3) 45 (0, [vR o, vI fold, vI seat, vI far, vI m, vI s, vJ, vJ, vJ, vJ], [], zH t p q E) = some (some [vI (sp_chance V m s fold seat far)], zH t p q E) := by
  have hcl := hV.cols
  have hrw := hV.rows
  have b1 := sp_col_r (a := sp_air V) (n := ((V (0)).val : Int)) (fold := fold) (far := far) (by omega) hse.1 hse.2
  have b2 := sp_row_r (fold := fold) hfar.1 hfar.2
  rw [L45_0 ho, T32 ho hC hV hf hse (by omega), L45_k4 ho, T33 hf (by omega), L45_k11 ho]
  rw [T45_step ho hC hV h1 h2 hs (by omega) (by omega) (by omega), show (-1 : Int) + 1 = 0 from rfl, T45_step ho hC hV h1 h2 hs (by omega) (by omega) (by omega), show (0 : Int) + 1 = 1 from rfl, T45_step ho hC hV h1 h2 hs (by omega) (by omega) (by omega), L45_22 ho]
  simp (disch := omega) only [n32_id, zg_pos, if_pos, if_neg, zu_same, zu_ne, if_true, if_false, ne_eq, not_true_eq_false, not_false_eq_true, true_or, or_true, true_and, and_true, zg_true, fa_b_f, fa_b_t]
  rfl
theorem T46 (ho : zo o) (hC : zC V E o) (hV : zV V) {m s : Int} (h1 : 0 ≤ m) (h2 : m < ((V (4)).val : Int)) (hs : 0 ≤ s ∧ s < 4) : zf_ev X (d + 4) 46 (0, [vR o, vI m, vI s], [], zH t p q E) = some (some [vI (sp_cnow V m s)], zH t p q E) := by
  have hm := hV.mems
  have hq := hV.mem m h1 h2
  simp (disch := omega) only [n32_id, zg_pos, if_pos, if_neg, zu_same, zu_ne, if_true, if_false, ne_eq, not_true_eq_false, not_false_eq_true, true_or, or_true, true_and, and_true, zg_true, fa_b_f, fa_b_t, L46_0 ho, L46_k29, hC.seat, hC.fold, hC.far, T45 ho hC hV h1 h2 hs]
  rfl
/-! the reference's -/
theorem T250 (hR : zR V E) {m e : Int} (h1 : 0 ≤ m) (h2 : m < 6) (he : 0 ≤ e ∧ e ≤ 2) : zf_ev X (d + 1) 250 (0, [vR 60, vI m, vI e], [], zH t p q E) = some (some [vI (sp_parts V m (e - 1))], zH t p q E) := by
  unfold sp_parts
  by_cases w : e = 1
  · simp (disch := omega) only [n32_id, zg_pos, if_pos, if_neg, zu_same, zu_ne, if_true, if_false, ne_eq, not_true_eq_false, not_false_eq_true, true_or, or_true, true_and, and_true, zg_true, fa_b_f, fa_b_t, L250_0, L250_k11, L250_k21, T226 hR]
  · simp (disch := omega) only [n32_id, zg_pos, if_pos, if_neg, zu_same, zu_ne, if_true, if_false, ne_eq, not_true_eq_false, not_false_eq_true, true_or, or_true, true_and, and_true, zg_true, fa_b_f, fa_b_t, L250_0, L250_k11, L250_k21, T226 hR]
theorem T251_step (hR : zR V E) (hV : zV V) (hS : zS C R ((V (3)).val : Int) E) {m s c z e e' fold far : Int} (h1 : 0 ≤ m) (h2 : m < ((V (4)).val : Int)) (hs : 0 ≤ s ∧ s < 4) (hc : 0 ≤ c ∧ c < 12) (hf : 0 ≤ fold ∧ fold ≤ 3) (hfar : 1 ≤ far ∧ far ≤ ((V (1)).val : Int)) (he : 0 ≤ e ∧ e ≤ 2) (he' : e' = e - 1) {j4 : ZV} : zf_ev X (d + 3) 251 (25, [vR 60, vI m, vI s, vI fold, j4, vI far, vI c, vI z, vI e], [], zH t p q E) = zf_ev X (d + 3) 251 (25, [vR 60, vI m, vI s, vI fold, j4, vI far, vI c, vI (z + sp_g V C R m s c (sp_row fold far) e'), vI (e + 1)], [], zH t p q E) := by
  have hcl := hV.cols
  have hrw := hV.rows
  have hm := hV.mems
  have hw := sp_wall_r (n := ((V (0)).val : Int)) (c := c + e') (by omega)
  have b2 := sp_row_r (fold := fold) hfar.1 hfar.2
  have hv := sp_voteAt_r (C := C) (R := R) hV (m := m) (c := sp_wall ((V (0)).val : Int) (c + e')) (r := sp_row fold far)
  have hk := hV.spks
  rw [L251_25]
  rw [if_neg (by rw [n32_id (by omega) (by omega), n32_id (by omega) (by omega)]; omega), show c + e - 1 = c + e' by omega, T218 hR hV (by omega) (by omega), L251_k43, T220 hf (by omega), L251_k49, T232 hR hV hS h1 h2 (by omega) (by omega), L251_k52]
  unfold sp_g
  by_cases w : sp_voteAt V C R m (sp_wall ((V (0)).val : Int) (c + e')) (sp_row fold far) = s
  · simp (disch := omega) only [n32_id, zg_pos, if_pos, if_neg, zu_same, zu_ne, if_true, if_false, ne_eq, not_true_eq_false, not_false_eq_true, true_or, or_true, true_and, and_true, zg_true, fa_b_f, fa_b_t, T250 hR]
    rw [L251_k63, he']
  · simp (disch := omega) only [n32_id, zg_pos, if_pos, if_neg, zu_same, zu_ne, if_true, if_false, ne_eq, not_true_eq_false, not_false_eq_true, true_or, or_true, true_and, and_true, zg_true, fa_b_f, fa_b_t]
theorem T251 (hR : zR V E) (hV : zV V) {fold seat far m s : Int} (h1 : 0 ≤ m) (h2 : m < ((V (4)).val : Int)) (hs : 0 ≤ s ∧ s < 4) (hf : 0 ≤ fold ∧ fold ≤ 3) (hse : 0 ≤ seat ∧ seat < ((V (0)).val : Int)) (hfar : 1 ≤ far ∧ far ≤ ((V (1)).val : Int)) : zf_ev X (d + 3) 251 (0, [vR 60, vI m, vI s, vI fold, vI seat, vI far, vJ, vJ, vJ], [], zH t p q E) = some (some [vI (sp_chance V m s fold seat far)], zH t p q (zP V (zA V E))) := by
  have hcl := hV.cols
  have hrw := hV.rows
  have b1 := sp_col_r (a := sp_air V) (n := ((V (0)).val : Int)) (fold := fold) (far := far) (by omega) hse.1 hse.2
  have hR2 : zR V (zP V (zA V E)) := hR.A.P
  rw [L251_0, T219 hR, L251_k1, T230 hR.A, L251_k5, T221 hR2 hV (a := sp_air V) (fun k g1 g2 => by rw [zP_ne (by omega)]; exact zA_ok hV k g1 g2) hf hse (by omega), L251_k14]
  rw [T251_step hR2 hV (zS_P hV) h1 h2 hs (by omega) hf hfar (by omega) (e' := -1) rfl, show (0 : Int) + 1 = 1 from rfl, T251_step hR2 hV (zS_P hV) h1 h2 hs (by omega) hf hfar (by omega) (e' := 0) rfl, show (1 : Int) + 1 = 2 from rfl, T251_step hR2 hV (zS_P hV) h1 h2 hs (by omega) hf hfar (by omega) (e' := 1) rfl, L251_25]
  simp (disch := omega) only [n32_id, zg_pos, if_pos, if_neg, zu_same, zu_ne, if_true, if_false, ne_eq, not_true_eq_false, not_false_eq_true, true_or, or_true, true_and, and_true, zg_true, fa_b_f, fa_b_t]
  rfl
theorem T252 (hR : zR V E) (hV : zV V) {m s : Int} (h1 : 0 ≤ m) (h2 : m < ((V (4)).val : Int)) (hs : 0 ≤ s ∧ s < 4) : zf_ev X (d + 4) 252 (0, [vR 60, vI m, vI s], [], zH t p q E) = some (some [vI (sp_cnow V m s)], zH t p q (zP V (zA V E))) := by
  have hm := hV.mems
  have hq := hV.mem m h1 h2
  simp (disch := omega) only [n32_id, zg_pos, if_pos, if_neg, zu_same, zu_ne, if_true, if_false, ne_eq, not_true_eq_false, not_false_eq_true, true_or, or_true, true_and, and_true, zg_true, fa_b_f, fa_b_t, L252_0, L252_k5, L252_k10, L252_k15, L252_k18, T222 hR, T223 hR, T224 hR, T251 hR hV h1 h2 hs]
  rfl
end OD

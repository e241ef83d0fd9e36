/-! the reference: darts and votes -/
def zfill (E : Nat → Int → Int) (o : Nat) (lo hi : Int) (f : Int → Int) : Nat → Int → Int := fun a b => if a = o ∧ lo ≤ b ∧ b < hi then f b else E a b
theorem zfill_step {E : Nat → Int → Int} {o : Nat} {i hi z : Int} {f : Int → Int} (h : i < hi) (hz : z = f i) : zfill (zu E o i z) o (i + 1) hi f = zfill E o i hi f := by
  funext a b
  unfold zfill zu
  by_cases h1 : a = o ∧ i + 1 ≤ b ∧ b < hi
  · rw [if_pos h1, if_pos ⟨h1.1, by omega, h1.2.2⟩]
  · rw [if_neg h1]
    by_cases h2 : a = o ∧ b = i
    · rw [if_pos h2, if_pos ⟨h2.1, by omega, by omega⟩, hz, h2.2]
    · rw [if_neg h2, if_neg]
      rintro ⟨g1, g2, g3⟩
      by_cases g4 : b = i
      · exact h2 ⟨g1, g4⟩
      · exact h1 ⟨g1, by omega, g3⟩
theorem zfill_nil {E : Nat → Int → Int} {o : Nat} {lo hi : Int} {f : Int → Int} (h : hi ≤ lo) : zfill E o lo hi f = E := by
  funext a b
  unfold zfill
  rw [if_neg]
  rintro ⟨-, h1, h2⟩
  omega
theorem zfill_in {E : Nat → Int → Int} {o : Nat} {lo hi b : Int} {f : Int → Int} (h1 : lo ≤ b) (h2 : b < hi) : zfill E o lo hi f o b = f b := if_pos ⟨rfl, h1, h2⟩
theorem zfill_ne {E : Nat → Int → Int} {o a : Nat} {lo hi b : Int} {f : Int → Int} (h : a ≠ o) : zfill E o lo hi f a b = E a b := if_neg (fun q => h q.1)
theorem zfill_idem {E : Nat → Int → Int} {o : Nat} {lo hi : Int} {f : Int → Int} : zfill (zfill E o lo hi f) o lo hi f = zfill E o lo hi f := by
  funext a b
  unfold zfill
  split <;> rfl
def zA (V : Int → Fin 65537) (E : Nat → Int → Int) : Nat → Int → Int := zfill E 68 0 7 (sp_air V)
theorem zA_ne {V : Int → Fin 65537} {E : Nat → Int → Int} {a : Nat} {b : Int} (h : a ≠ 68) : zA V E a b = E a b := zfill_ne h
theorem zA_in {V : Int → Fin 65537} {E : Nat → Int → Int} {b : Int} (h1 : 0 ≤ b) (h2 : b < 7) : zA V E 68 b = sp_air V b := zfill_in h1 h2
theorem zA_idem {V : Int → Fin 65537} {E : Nat → Int → Int} : zA V (zA V E) = zA V E := zfill_idem
/-- where the speakers stand in the reference's spots -/
def zS (C R : Int → Int) (N : Int) (E : Nat → Int → Int) : Prop := ∀ s, 0 ≤ s → s < N → (E 69 (2 * s) = C s ∧ E 69 (2 * s + 1) = R s) ∧ (-1000 ≤ C s ∧ C s ≤ 100000) ∧ (-1000 ≤ R s ∧ R s ≤ 100000)
theorem zS.fr {C R : Int → Int} {N : Int} {E F : Nat → Int → Int} (h : zS C R N E) (h1 : ∀ b, F 69 b = E 69 b) : zS C R N F := fun s a b => ⟨⟨by rw [h1]; exact (h s a b).1.1, by rw [h1]; exact (h s a b).1.2⟩, (h s a b).2⟩
section RF
variable {X : Nat × (Nat → Int)} {d : Nat} {t : List (Nat × Nat)} {p q : Nat} {E : Nat → Int → Int} {V : Int → Fin 65537} {C R : Int → Int}
theorem zR.A (h : zR V E) : zR V (zA V E) := h.fr (fun b => zA_ne (by omega)) (fun b => zA_ne (by omega))
theorem zS.A {N : Int} (h : zS C R N E) : zS C R N (zA V E) := h.fr (fun b => zA_ne (by omega))
theorem zR.r (h : zR V E) : ∀ k, 0 ≤ k → k < 171 → E 63 k = ((V (k)).val : Int) := h.1
theorem zR.s (h : zR V E) : ∀ k, 0 ≤ k → k < 39 → E 65 k = ((V (200 + k)).val : Int) := h.2
theorem T218 (hR : zR V E) (hV : zV V) {c : Int} (h1 : -100000 ≤ c) (h2 : c ≤ 100000) : zf_ev X d 218 (0, [vR 60, vI c], [], zH t p q E) = some (some [vI (sp_wall ((V (0)).val : Int) c)], zH t p q E) := by
  have hc := hV.cols
  rw [L218_0]
  unfold sp_wall
  by_cases q1 : c < 0
  · simp (disch := omega) only [n32_id, zg_pos, if_pos, if_neg, zu_same, zu_ne, if_true, if_false, ne_eq, not_true_eq_false, not_false_eq_true, true_or, or_true, true_and, and_true, zg_true, fa_b_f, fa_b_t, hR.r]
  · by_cases q2 : c < ((V (0)).val : Int)
    · simp (disch := omega) only [n32_id, zg_pos, if_pos, if_neg, zu_same, zu_ne, if_true, if_false, ne_eq, not_true_eq_false, not_false_eq_true, true_or, or_true, true_and, and_true, zg_true, fa_b_f, fa_b_t, hR.r]
    · simp (disch := omega) only [n32_id, zg_pos, if_pos, if_neg, zu_same, zu_ne, if_true, if_false, ne_eq, not_true_eq_false, not_false_eq_true, true_or, or_true, true_and, and_true, zg_true, fa_b_f, fa_b_t, hR.r]
theorem T219_loop : ∀ (k : Nat) (i : Int) (E : Nat → Int → Int), zR V E → 0 ≤ i → i + k = 7 → zf_ev X d 219 (2, [vR 60, vI i], [], zH t p q E) = some (some [], zH t p q (zfill E 68 i 7 (sp_air V))) := by
  intro k
  induction k with
  | zero =>
    intro i E hR h1 h2
    rw [L219_2, zfill_nil (by omega)]
    simp (disch := omega) only [n32_id, zg_pos, if_pos, if_neg, zu_same, zu_ne, if_true, if_false, ne_eq, not_true_eq_false, not_false_eq_true, true_or, or_true, true_and, and_true, zg_true, fa_b_f, fa_b_t]
  | succ k ih =>
    intro i E hR h1 h2
    rw [L219_2]
    have e : sp_air V i = if ((V (200 + i)).val : Int) = 7 then 0 else ((V (200 + i)).val : Int) - 3 := rfl
    by_cases w : ((V (200 + i)).val : Int) = 7
    · rw [if_pos w] at e
      simp (disch := omega) only [n32_id, zg_pos, if_pos, if_neg, zu_same, zu_ne, if_true, if_false, ne_eq, not_true_eq_false, not_false_eq_true, true_or, or_true, true_and, and_true, zg_true, fa_b_f, fa_b_t, hR.s]
      rw [ih _ _ (hR.fr (fun b => zu_ne (by omega)) (fun b => zu_ne (by omega))) (by omega) (by omega), zfill_step (by omega) e.symm]
    · rw [if_neg w] at e
      simp (disch := omega) only [n32_id, zg_pos, if_pos, if_neg, zu_same, zu_ne, if_true, if_false, ne_eq, not_true_eq_false, not_false_eq_true, true_or, or_true, true_and, and_true, zg_true, fa_b_f, fa_b_t, hR.s]
      rw [ih _ _ (hR.fr (fun b => zu_ne (by omega)) (fun b => zu_ne (by omega))) (by omega) (by omega), zfill_step (by omega) e.symm]
theorem T219 (hR : zR V E) : zf_ev X d 219 (0, [vR 60, vJ], [], zH t p q E) = some (some [], zH t p q (zA V E)) := by
  rw [L219_0, T219_loop 7 0 E hR (by omega) (by omega)]
  rfl
theorem T220 {fold far : Int} (h1 : 0 ≤ fold ∧ fold ≤ 3) (h2 : 0 ≤ far ∧ far ≤ 100) : zf_ev X d 220 (0, [vI fold, vI far], [], zH t p q E) = some (some [vI (sp_row fold far)], zH t p q E) := by
  have := (zt_td2 far).1 (by omega)
  rw [L220_0]
  unfold sp_row
  by_cases h : fold = 3
  · by_cases h3 : 1 < far.tdiv 2
    · simp (disch := omega) only [n32_id, zg_pos, if_pos, if_neg, zu_same, zu_ne, if_true, if_false, ne_eq, not_true_eq_false, not_false_eq_true, true_or, or_true, true_and, and_true, zg_true, fa_b_f, fa_b_t]
    · by_cases h4 : far.tdiv 2 = 1
      · simp (disch := omega) only [n32_id, zg_pos, if_pos, if_neg, zu_same, zu_ne, if_true, if_false, ne_eq, not_true_eq_false, not_false_eq_true, true_or, or_true, true_and, and_true, zg_true, fa_b_f, fa_b_t]
        rw [h4]
      · simp (disch := omega) only [n32_id, zg_pos, if_pos, if_neg, zu_same, zu_ne, if_true, if_false, ne_eq, not_true_eq_false, not_false_eq_true, true_or, or_true, true_and, and_true, zg_true, fa_b_f, fa_b_t]
  · simp (disch := omega) only [n32_id, zg_pos, if_pos, if_neg, zu_same, zu_ne, if_true, if_false, ne_eq, not_true_eq_false, not_false_eq_true, true_or, or_true, true_and, and_true, zg_true, fa_b_f, fa_b_t]
theorem T221_loop {a : Int → Int} (hR : zR V E) (hV : zV V) (ha : ∀ k, 1 ≤ k → k < 7 → E 68 k = a k ∧ -100 ≤ a k ∧ a k ≤ 100) {fold far : Int} (hf : 0 ≤ fold ∧ fold ≤ 2) (hfar : 0 ≤ far ∧ far < 7) : ∀ (k : Nat) (i c : Int) (j2 : ZV), 1 ≤ i → i + k = far + 1 → 0 ≤ c → c < ((V (0)).val : Int) →
    zf_ev X (d + 1) 221 (6, [vR 60, vI fold, j2, vI far, vI c, vI i], [], zH t p q E) = some (some [vI (if fold = 2 then ((V (0)).val : Int) - 1 - sp_colL a ((V (0)).val : Int) fold k i c else sp_colL a ((V (0)).val : Int) fold k i c)], zH t p q E) := by
  have hc := hV.cols
  intro k
  induction k with
  | zero =>
    intro i c j2 h1 h2 h3 h4
    rw [L221_6]
    by_cases h : fold = 2
    · simp (disch := omega) only [n32_id, zg_pos, if_pos, if_neg, zu_same, zu_ne, if_true, if_false, ne_eq, not_true_eq_false, not_false_eq_true, true_or, or_true, true_and, and_true, zg_true, fa_b_f, fa_b_t, hR.r]
      rfl
    · simp (disch := omega) only [n32_id, zg_pos, if_pos, if_neg, zu_same, zu_ne, if_true, if_false, ne_eq, not_true_eq_false, not_false_eq_true, true_or, or_true, true_and, and_true, zg_true, fa_b_f, fa_b_t, hR.r]
      rfl
  | succ k ih =>
    intro i c j2 h1 h2 h3 h4
    have hb := ha i (by omega) (by omega)
    have e := hb.1
    have ht := zt_td2 (a i)
    rw [L221_6]
    unfold sp_colL
    by_cases h : fold = 1
    · simp (disch := omega) only [n32_id, zg_pos, if_pos, if_neg, zu_same, zu_ne, if_true, if_false, ne_eq, not_true_eq_false, not_false_eq_true, true_or, or_true, true_and, and_true, zg_true, fa_b_f, fa_b_t, e, T218 hR hV]
      rw [L221_k45, ih _ _ _ (by omega) (by omega) (sp_wall_r (by omega)).1 (sp_wall_r (by omega)).2, if_neg (by omega)]
    · simp (disch := omega) only [n32_id, zg_pos, if_pos, if_neg, zu_same, zu_ne, if_true, if_false, ne_eq, not_true_eq_false, not_false_eq_true, true_or, or_true, true_and, and_true, zg_true, fa_b_f, fa_b_t, e, T218 hR hV]
      rw [L221_k45, ih _ _ _ (by omega) (by omega) (sp_wall_r (by omega)).1 (sp_wall_r (by omega)).2]
theorem T221 {a : Int → Int} (hR : zR V E) (hV : zV V) (ha : ∀ k, 1 ≤ k → k < 7 → E 68 k = a k ∧ -100 ≤ a k ∧ a k ≤ 100) {fold seat far : Int} (hf : 0 ≤ fold ∧ fold ≤ 3) (hs : 0 ≤ seat ∧ seat < ((V (0)).val : Int)) (hfar : 1 ≤ far ∧ far < 7) : zf_ev X (d + 1) 221 (0, [vR 60, vI fold, vI seat, vI far, vJ, vJ], [], zH t p q E) = some (some [vI (sp_col a ((V (0)).val : Int) fold seat far)], zH t p q E) := by
  rw [L221_0]
  unfold sp_col
  by_cases h : fold = 3
  · rw [L221_6]
    simp (disch := omega) only [n32_id, zg_pos, if_pos, if_neg, zu_same, zu_ne, if_true, if_false, ne_eq, not_true_eq_false, not_false_eq_true, true_or, or_true, true_and, and_true, zg_true, fa_b_f, fa_b_t]
  · rw [T221_loop hR hV ha (by omega) (by omega) far.toNat 1 seat _ (by omega) (by omega) (by omega) (by omega), if_neg h]
theorem zA_ok (hV : zV V) : ∀ k, 1 ≤ k → k < 7 → zA V E 68 k = sp_air V k ∧ -100 ≤ sp_air V k ∧ sp_air V k ≤ 100 := fun k a b => ⟨zA_in (by omega) b, by have := sp_air_r hV (k := k) (by omega) b; omega, by have := sp_air_r hV (k := k) (by omega) b; omega⟩
theorem T222 (hR : zR V E) {m : Int} (h1 : 0 ≤ m) (h2 : m < 6) : zf_ev X d 222 (0, [vR 60, vI m], [], zH t p q E) = some (some [vI (((V (200 + (19 + 3 * m))).val : Int))], zH t p q E) := by
  rw [L222_0]
  simp (disch := omega) only [n32_id, zg_pos, if_pos, if_neg, zu_same, zu_ne, if_true, if_false, ne_eq, not_true_eq_false, not_false_eq_true, true_or, or_true, true_and, and_true, zg_true, fa_b_f, fa_b_t, hR.s]
theorem T223 (hR : zR V E) {m : Int} (h1 : 0 ≤ m) (h2 : m < 6) : zf_ev X d 223 (0, [vR 60, vI m], [], zH t p q E) = some (some [vI (((V (200 + (19 + 3 * m + 1))).val : Int))], zH t p q E) := by
  rw [L223_0]
  simp (disch := omega) only [n32_id, zg_pos, if_pos, if_neg, zu_same, zu_ne, if_true, if_false, ne_eq, not_true_eq_false, not_false_eq_true, true_or, or_true, true_and, and_true, zg_true, fa_b_f, fa_b_t, hR.s]
theorem T224 (hR : zR V E) {m : Int} (h1 : 0 ≤ m) (h2 : m < 6) : zf_ev X d 224 (0, [vR 60, vI m], [], zH t p q E) = some (some [vI (((V (200 + (19 + 3 * m + 2))).val : Int))], zH t p q E) := by
  rw [L224_0]
  simp (disch := omega) only [n32_id, zg_pos, if_pos, if_neg, zu_same, zu_ne, if_true, if_false, ne_eq, not_true_eq_false, not_false_eq_true, true_or, or_true, true_and, and_true, zg_true, fa_b_f, fa_b_t, hR.s]
theorem T225 (hR : zR V E) {m : Int} (h1 : 0 ≤ m) (h2 : m < 6) : zf_ev X d 225 (0, [vR 60, vI m], [], zH t p q E) = some (some [vI (((V (30 + 5 * m + 3)).val : Int))], zH t p q E) := by
  rw [L225_0]
  simp (disch := omega) only [n32_id, zg_pos, if_pos, if_neg, zu_same, zu_ne, if_true, if_false, ne_eq, not_true_eq_false, not_false_eq_true, true_or, or_true, true_and, and_true, zg_true, fa_b_f, fa_b_t, hR.r]
theorem T226 (hR : zR V E) {m : Int} (h1 : 0 ≤ m) (h2 : m < 6) : zf_ev X d 226 (0, [vR 60, vI m], [], zH t p q E) = some (some [vI (((V (30 + 5 * m + 4)).val : Int))], zH t p q E) := by
  rw [L226_0]
  simp (disch := omega) only [n32_id, zg_pos, if_pos, if_neg, zu_same, zu_ne, if_true, if_false, ne_eq, not_true_eq_false, not_false_eq_true, true_or, or_true, true_and, and_true, zg_true, fa_b_f, fa_b_t, hR.r]
theorem T227 (hR : zR V E) (hV : zV V) {m : Int} (h1 : 0 ≤ m) (h2 : m < ((V (4)).val : Int)) : zf_ev X (d + 2) 227 (0, [vR 60, vI m], [], zH t p q E) = some (some [vI (sp_dc V m)], zH t p q (zA V E)) := by
  have hm := hV.mems
  have hq := hV.mem m h1 h2
  have hr := hV.rows
  rw [L227_0, T219 hR, L227_k1, T222 hR.A h1 (by omega), L227_k7, T223 hR.A h1 (by omega), L227_k12, T224 hR.A h1 (by omega), L227_k17, T221 hR.A hV (zA_ok hV) (by omega) (by omega) (by omega), L227_k20]
  rfl
theorem T228 (hR : zR V E) (hV : zV V) {m : Int} (h1 : 0 ≤ m) (h2 : m < ((V (4)).val : Int)) : zf_ev X (d + 1) 228 (0, [vR 60, vI m], [], zH t p q E) = some (some [vI (sp_dr V m)], zH t p q E) := by
  have hm := hV.mems
  have hq := hV.mem m h1 h2
  have hr := hV.rows
  rw [L228_0, T222 hR h1 (by omega), L228_k2, T224 hR h1 (by omega), L228_k7, T220 (by omega) (by omega), L228_k10]
  rfl
theorem T229_loop (hR : zR V E) (hV : zV V) {c r : Int} (hc : -2147483648 ≤ c ∧ c < 2147483648) (hr : -2147483648 ≤ r ∧ r < 2147483648) : ∀ (k : Nat) (i : Int), 0 ≤ i → i + k = ((V (5)).val : Int) → zf_ev X d 229 (2, [vR 60, vI c, vI r, vI i], [], zH t p q E) = some (some [vI (fa_b (fa_any (fun i => decide (((V (60 + 2 * i)).val : Int) = c ∧ ((V (60 + 2 * i + 1)).val : Int) = r)) k i))], zH t p q E) := by
  have hl := hV.lmps
  intro k
  induction k with
  | zero =>
    intro i h1 h2
    rw [L229_2]
    simp (disch := omega) only [n32_id, zg_pos, if_pos, if_neg, zu_same, zu_ne, if_true, if_false, ne_eq, not_true_eq_false, not_false_eq_true, true_or, or_true, true_and, and_true, zg_true, fa_b_f, fa_b_t, hR.r]
    rfl
  | succ k ih =>
    intro i h1 h2
    have ih2 := ih (i + 1) (by omega) (by omega)
    rw [L229_2]
    simp (disch := omega) only [n32_id, zg_pos, if_pos, if_neg, zu_same, zu_ne, if_true, if_false, ne_eq, not_true_eq_false, not_false_eq_true, true_or, or_true, true_and, and_true, zg_true, fa_b_f, fa_b_t, hR.r, fa_any]
    by_cases q1 : ((V (60 + 2 * i)).val : Int) = c
    · by_cases q2 : ((V (60 + 2 * i + 1)).val : Int) = r
      · simp [q1, q2, fa_b]
      · simp [q1, q2, ih2]
    · simp [q1, ih2]
theorem T229 (hR : zR V E) (hV : zV V) {c r : Int} (hc : -2147483648 ≤ c ∧ c < 2147483648) (hr : -2147483648 ≤ r ∧ r < 2147483648) : zf_ev X d 229 (0, [vR 60, vI c, vI r, vJ], [], zH t p q E) = some (some [vI (fa_b (sp_lamp V c r))], zH t p q E) := by
  rw [L229_0]
  exact T229_loop hR hV hc hr _ _ (by omega) (by omega)
/-- copies between two rows -/
theorem T183_loop {a n b m : Nat} (ha : zSh[a]? = some (20, n)) (hb : zSh[b]? = some (20, m)) (hab : a ≠ b) {sp dp N : Int} (h1 : 0 ≤ sp) (h2 : 0 ≤ dp) (h3 : sp + N ≤ n) (h4 : dp + N ≤ m) (hn : n ≤ 1000) (hm : m ≤ 1000) : ∀ (k : Nat) (i : Int) (E : Nat → Int → Int), 0 ≤ i → i + k = N → zf_ev X d 183 (3, [vR a, vI sp, vR b, vI dp, vI N, vI i], [], zH t p q E) = some (some [], zH t p q (zfill E b (dp + i) (dp + N) (fun x => E a (sp + (x - dp))))) := by
  intro k
  induction k with
  | zero =>
    intro i E g1 g2
    rw [L183_3 ha hb, zfill_nil (by omega)]
    simp (disch := omega) only [n32_id, zg_pos, if_pos, if_neg, zu_same, zu_ne, if_true, if_false, ne_eq, not_true_eq_false, not_false_eq_true, true_or, or_true, true_and, and_true, zg_true, fa_b_f, fa_b_t]
  | succ k ih =>
    intro i E g1 g2
    rw [L183_3 ha hb]
    simp (disch := omega) only [n32_id, zg_pos, if_pos, if_neg, zu_same, zu_ne, if_true, if_false, ne_eq, not_true_eq_false, not_false_eq_true, true_or, or_true, true_and, and_true, zg_true, fa_b_f, fa_b_t]
    rw [ih _ _ (by omega) (by omega)]
    have e : (fun x => zu E b (dp + i) (E a (sp + i)) a (sp + (x - dp))) = fun x => E a (sp + (x - dp)) := by
      funext x
      exact zu_ne (Or.inl hab)
    rw [e, show dp + (i + 1) = dp + i + 1 by omega, zfill_step (by omega)]
    show E a (sp + i) = E a (sp + (dp + i - dp))
    congr 1
    omega
theorem T183 {a n b m : Nat} (ha : zSh[a]? = some (20, n)) (hb : zSh[b]? = some (20, m)) (hab : a ≠ b) {sp dp N : Int} (h0 : 0 ≤ N) (h1 : 0 ≤ sp) (h2 : 0 ≤ dp) (h3 : sp + N ≤ n) (h4 : dp + N ≤ m) (hn : n ≤ 1000) (hm : m ≤ 1000) : zf_ev X d 183 (0, [vR a, vI sp, vR b, vI dp, vI N, vJ], [], zH t p q E) = some (some [], zH t p q (zfill E b dp (dp + N) (fun x => E a (sp + (x - dp))))) := by
  rw [L183_0 ha hb, T183_loop ha hb hab h1 h2 h3 h4 hn hm N.toNat 0 E (by omega) (by omega), show dp + 0 = dp by omega]
def zP (V : Int → Fin 65537) (E : Nat → Int → Int) : Nat → Int → Int := zfill E 69 0 8 (fun b => ((V (200 + (7 + b))).val : Int))
theorem zP_ne {a : Nat} {b : Int} (h : a ≠ 69) : zP V E a b = E a b := zfill_ne h
theorem zR.P (h : zR V E) : zR V (zP V E) := h.fr (fun b => zP_ne (by omega)) (fun b => zP_ne (by omega))
theorem zV_eq {a b : Int} (h : a = b) : ((V (a)).val : Int) = ((V (b)).val : Int) := by rw [h]
theorem zS_P (hV : zV V) : zS (sp_C V) (sp_R V) ((V (3)).val : Int) (zP V E) := by
  have hs := hV.spks
  intro s h1 h2
  refine ⟨⟨?_, ?_⟩, ?_, ?_⟩
  · exact (zfill_in (by omega) (by omega)).trans rfl
  · exact (zfill_in (by omega) (by omega)).trans (zV_eq (by omega))
  · unfold sp_C; omega
  · unfold sp_R; omega
theorem T230 (hR : zR V E) : zf_ev X (d + 1) 230 (0, [vR 60], [], zH t p q E) = some (some [], zH t p q (zP V E)) := by
  rw [L230_0, T183 (a := 65) (b := 69) (n := 39) (m := 8) rfl rfl (by omega) (by omega) (by omega) (by omega) (by omega) (by omega) (by omega) (by omega), L230_k13]
  have e : zfill E 69 0 (0 + 8) (fun x => E 65 (7 + (x - 0))) = zP V E := by
    funext a b
    unfold zP zfill
    by_cases h : a = 69 ∧ 0 ≤ b ∧ b < 0 + 8
    · rw [if_pos h, if_pos ⟨h.1, h.2.1, by omega⟩]
      show E 65 (7 + (b - 0)) = _
      rw [show 7 + (b - 0) = 7 + b by omega, hR.s _ (by omega) (by omega)]
    · rw [if_neg h, if_neg (fun g => h ⟨g.1, g.2.1, by omega⟩)]
  rw [e]
theorem T182 {a b : Int} (h1 : -100000 ≤ a ∧ a ≤ 100000) (h2 : -100000 ≤ b ∧ b ≤ 100000) : zf_ev X d 182 (0, [vI a, vI b], [], zH t p q E) = some (some [vI (sp_abs (a - b))], zH t p q E) := by
  rw [L182_0]
  unfold sp_abs
  by_cases h : a ≤ b
  · by_cases h3 : a = b
    · subst h3
      simp (disch := omega) only [n32_id, zg_pos, if_pos, if_neg, zu_same, zu_ne, if_true, if_false, ne_eq, not_true_eq_false, not_false_eq_true, true_or, or_true, true_and, and_true, zg_true, fa_b_f, fa_b_t]
    · simp (disch := omega) only [n32_id, zg_pos, if_pos, if_neg, zu_same, zu_ne, if_true, if_false, ne_eq, not_true_eq_false, not_false_eq_true, true_or, or_true, true_and, and_true, zg_true, fa_b_f, fa_b_t]
      rw [show 0 - (a - b) = b - a by omega]
  · simp (disch := omega) only [n32_id, zg_pos, if_pos, if_neg, zu_same, zu_ne, if_true, if_false, ne_eq, not_true_eq_false, not_false_eq_true, true_or, or_true, true_and, and_true, zg_true, fa_b_f, fa_b_t]
theorem T231_loop (hR : zR V E) (hV : zV V) (hS : zS C R ((V (3)).val : Int) E) {c r : Int} (hc : -1000 ≤ c ∧ c ≤ 1000) (hr : -1000 ≤ r ∧ r ≤ 1000) : ∀ (k : Nat) (i best least : Int) (j6 : ZV), 0 ≤ i → i + k = ((V (3)).val : Int) → -2147483648 ≤ least → least ≤ 2147483647 → zf_ev X (d + 1) 231 (10, [vR 60, vI c, vI r, vI best, vI least, vI i, j6], [], zH t p q E) = some (some [vI (sp_near (sp_dist C R c r) k i best least)], zH t p q E) := by
  have hs := hV.spks
  intro k
  induction k with
  | zero =>
    intro i best least j6 g1 g2 g3 g4
    rw [L231_10]
    simp (disch := omega) only [n32_id, zg_pos, if_pos, if_neg, zu_same, zu_ne, if_true, if_false, ne_eq, not_true_eq_false, not_false_eq_true, true_or, or_true, true_and, and_true, zg_true, fa_b_f, fa_b_t, hR.r]
    rfl
  | succ k ih =>
    intro i best least j6 g1 g2 g3 g4
    obtain ⟨⟨e1, e2⟩, b1, b2⟩ := hS i (by omega) (by omega)
    have d1 : 0 ≤ sp_abs (C i - c) ∧ sp_abs (C i - c) ≤ 200000 := by unfold sp_abs; split <;> omega
    have d2 : 0 ≤ sp_abs (R i - r) ∧ sp_abs (R i - r) ≤ 200000 := by unfold sp_abs; split <;> omega
    rw [L231_10]
    simp (disch := omega) only [n32_id, zg_pos, if_pos, if_neg, zu_same, zu_ne, if_true, if_false, ne_eq, not_true_eq_false, not_false_eq_true, true_or, or_true, true_and, and_true, zg_true, fa_b_f, fa_b_t, hR.r, e1, T182]
    rw [L231_k31]
    simp (disch := omega) only [n32_id, zg_pos, if_pos, if_neg, zu_same, zu_ne, if_true, if_false, ne_eq, not_true_eq_false, not_false_eq_true, true_or, or_true, true_and, and_true, zg_true, fa_b_f, fa_b_t, e2, T182]
    rw [L231_k46]
    unfold sp_near
    have f3 : sp_dist C R c r i = sp_abs (C i - c) + sp_abs (R i - r) := rfl
    rw [f3]
    by_cases w : sp_abs (C i - c) + sp_abs (R i - r) < least
    · simp (disch := omega) only [n32_id, zg_pos, if_pos, if_neg, zu_same, zu_ne, if_true, if_false, ne_eq, not_true_eq_false, not_false_eq_true, true_or, or_true, true_and, and_true, zg_true, fa_b_f, fa_b_t]
      exact ih _ _ _ _ (by omega) (by omega) (by omega) (by omega)
    · simp (disch := omega) only [n32_id, zg_pos, if_pos, if_neg, zu_same, zu_ne, if_true, if_false, ne_eq, not_true_eq_false, not_false_eq_true, true_or, or_true, true_and, and_true, zg_true, fa_b_f, fa_b_t]
      exact ih _ _ _ _ (by omega) (by omega) (by omega) (by omega)
theorem T231 (hR : zR V E) (hV : zV V) (hS : zS C R ((V (3)).val : Int) E) {c r : Int} (hc : -1000 ≤ c ∧ c ≤ 1000) (hr : -1000 ≤ r ∧ r ≤ 1000) : zf_ev X (d + 1) 231 (0, [vR 60, vI c, vI r, vJ, vJ, vJ, vJ], [], zH t p q E) = some (some [vI (sp_nearest C R ((V (3)).val : Int) c r)], zH t p q E) := by
  rw [L231_0, T231_loop hR hV hS hc hr (((V (3)).val : Int)).toNat 0 0 1000000 _ (by omega) (by omega) (by omega) (by omega)]
  rfl
theorem T232 (hR : zR V E) (hV : zV V) (hS : zS C R ((V (3)).val : Int) E) {m c r : Int} (h1 : 0 ≤ m) (h2 : m < ((V (4)).val : Int)) (hc : -1000 ≤ c ∧ c ≤ 1000) (hr : -1000 ≤ r ∧ r ≤ 1000) : zf_ev X (d + 2) 232 (0, [vR 60, vI m, vI c, vI r], [], zH t p q E) = some (some [vI (sp_voteAt V C R m c r)], zH t p q E) := by
  have hm := hV.mems
  rw [L232_0, T225 hR h1 (by omega), L232_k2]
  simp (disch := omega) only [n32_id, zg_pos, zu_same, zu_ne, hR.r]
  unfold sp_voteAt sp_count
  by_cases w : ((V (30 + 5 * m + 3)).val : Int) ≤ ((V (2)).val : Int)
  · rw [if_neg (by omega), T229 hR hV (by omega) (by omega), L232_k17, fa_b_id]
    cases sp_lamp V c r
    · rw [show fa_b false = 0 from rfl, if_pos rfl, T231 hR hV hS hc hr, L232_k31]
      simp [w]
    · rw [show fa_b true = 1 from rfl, if_neg (by decide)]
      simp
  · rw [if_pos (by omega)]
    simp [w]
theorem sp_d_r (hV : zV V) {m : Int} (h1 : 0 ≤ m) (h2 : m < ((V (4)).val : Int)) : (0 ≤ sp_dc V m ∧ sp_dc V m < ((V (0)).val : Int)) ∧ 1 ≤ sp_dr V m ∧ sp_dr V m ≤ ((V (1)).val : Int) := by
  have hq := hV.mem m h1 h2
  have hv := hV.cols
  exact ⟨sp_col_r (by omega) (by omega) (by omega), sp_row_r (by omega) (by omega)⟩
theorem T233 (hR : zR V E) (hV : zV V) (hS : zS C R ((V (3)).val : Int) E) {m : Int} (h1 : 0 ≤ m) (h2 : m < ((V (4)).val : Int)) : zf_ev X (d + 3) 233 (0, [vR 60, vI m], [], zH t p q E) = some (some [vI (sp_vote V C R m)], zH t p q (zA V E)) := by
  have hv := hV.cols
  have hw := hV.rows
  have b := sp_d_r hV h1 h2
  rw [L233_0, T227 hR hV h1 h2, L233_k4, T228 hR.A hV h1 h2, L233_k9, T232 hR.A hV hS.A h1 h2 (by omega) (by omega), L233_k12]
  rfl
end RF

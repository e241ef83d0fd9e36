/-! places: the darts that count, gathered; where a speaker should stand; two who stand against each other -/
theorem sp_cnt_snoc {f : Int → Int} {s : Int} : ∀ (k : Nat) (i : Int), sp_cnt f s (k + 1) i = sp_cnt f s k i + (if f (i + k) = s then 1 else 0) := by
  intro k
  induction k with
  | zero =>
    intro i
    have e : i + ((0 : Nat) : Int) = i := by omega
    rw [e]
    show (if f i = s then 1 else 0) + 0 = 0 + _
    omega
  | succ k ih =>
    intro i
    have e1 : sp_cnt f s (k + 1 + 1) i = (if f i = s then 1 else 0) + sp_cnt f s (k + 1) (i + 1) := rfl
    have e2 : sp_cnt f s (k + 1) i = (if f i = s then 1 else 0) + sp_cnt f s k (i + 1) := rfl
    have e3 : i + 1 + (k : Int) = i + ((k + 1 : Nat) : Int) := by omega
    rw [e1, ih (i + 1), e2, e3]
    omega
theorem sp_in_ge {w l : Int → Int} : ∀ (k : Nat) (i : Int) (a : Int × Int), a.2 ≤ (sp_in w l k i a).2 ∧ ∀ j, i ≤ j → j < i + k → w j ≤ (sp_in w l k i a).2 := by
  intro k
  induction k with
  | zero => intro i a; exact ⟨Int.le_refl _, fun j a b => by omega⟩
  | succ k ih =>
    intro i a
    unfold sp_in
    by_cases g : a.2 < w i
    · rw [if_pos g]
      have h := ih (i + 1) (l i, w i)
      have h1 : w i ≤ (sp_in w l k (i + 1) (l i, w i)).2 := h.1
      refine ⟨by omega, fun j x y => ?_⟩
      by_cases e : j = i
      · rw [e]; exact h1
      · exact h.2 j (by omega) (by omega)
    · rw [if_neg g]
      have h := ih (i + 1) a
      refine ⟨h.1, fun j x y => ?_⟩
      by_cases e : j = i
      · rw [e]; omega
      · exact h.2 j (by omega) (by omega)
theorem sp_out_ge {w l : Int → Int → Int} {n : Nat} {b : Int} : ∀ (k : Nat) (i : Int) (a : Int × Int), a.2 ≤ (sp_out w l n b k i a).2 ∧ ∀ j x, i ≤ j → j < i + k → b ≤ x → x < b + n → w j x ≤ (sp_out w l n b k i a).2 := by
  intro k
  induction k with
  | zero => intro i a; exact ⟨Int.le_refl _, fun j x h1 h2 => by omega⟩
  | succ k ih =>
    intro i a
    unfold sp_out
    have h := ih (i + 1) (sp_in (w i) (l i) n b a)
    have h2 := sp_in_ge (w := w i) (l := l i) n b a
    refine ⟨by omega, fun j x g1 g2 g3 g4 => ?_⟩
    by_cases e : j = i
    · rw [e]
      have := h2.2 x g3 g4
      omega
    · exact h.2 j x (by omega) (by omega) g3 g4
def sp_mv (f : Int → Int) (s c : Int) : Int → Int := fun x => if x = s then c else f x
theorem sp_mv_s {f : Int → Int} {s c : Int} : sp_mv f s c s = c := if_pos rfl
theorem sp_mv_n {f : Int → Int} {s c x : Int} (h : x ≠ s) : sp_mv f s c x = f x := if_neg h
/-- the darts gathered, of the first m members n -/
def zGa (V : Int → Fin 65537) (E : Nat → Int → Int) (m n : Int) : Prop := (E 15 5 = n ∧ 0 ≤ n ∧ n ≤ m) ∧ (∀ i, 0 ≤ i → i < n → (0 ≤ E 17 i ∧ E 17 i < ((V (0)).val : Int)) ∧ 1 ≤ E 18 i ∧ E 18 i ≤ ((V (1)).val : Int)) ∧ ∀ (C R : Int → Int) (s : Int), 0 ≤ s → sp_cnt (fun i => sp_nearest C R ((V (3)).val : Int) (E 17 i) (E 18 i)) s n.toNat 0 = sp_cnt (sp_vote V C R) s m.toNat 0
theorem zGa.fr {V : Int → Fin 65537} {E F : Nat → Int → Int} {m n : Int} (h : zGa V E m n) (h1 : F 15 5 = E 15 5) (h2 : ∀ b, F 17 b = E 17 b) (h3 : ∀ b, F 18 b = E 18 b) : zGa V F m n := by
  refine ⟨⟨by rw [h1]; exact h.1.1, h.1.2⟩, fun i a b => by rw [h2, h3]; exact h.2.1 i a b, fun C R s hs => ?_⟩
  have e : (fun i => sp_nearest C R ((V (3)).val : Int) (F 17 i) (F 18 i)) = fun i => sp_nearest C R ((V (3)).val : Int) (E 17 i) (E 18 i) := by
    funext i
    rw [h2, h3]
  rw [e]
  exact h.2.2 C R s hs
theorem zGa.skip {V : Int → Fin 65537} {E : Nat → Int → Int} {m n : Int} (h : zGa V E m n) (h0 : 0 ≤ m) (hc : sp_count V m (sp_dc V m) (sp_dr V m) = false) : zGa V E (m + 1) n := by
  refine ⟨⟨h.1.1, h.1.2.1, by have := h.1.2.2; omega⟩, h.2.1, fun C R s hs => ?_⟩
  have em : (m + 1).toNat = m.toNat + 1 := by omega
  have e3 : sp_vote V C R m = -2 := by
    unfold sp_vote sp_voteAt
    rw [hc]
    rfl
  rw [h.2.2 C R s hs, em, sp_cnt_snoc, show (0 : Int) + (m.toNat : Int) = m by omega, e3, if_neg (by omega)]
  omega
theorem zGa.add {V : Int → Fin 65537} {E : Nat → Int → Int} {m n : Int} (hV : zV V) (h : zGa V E m n) (h0 : 0 ≤ m) (hm : m < ((V (4)).val : Int)) (hc : sp_count V m (sp_dc V m) (sp_dr V m) = true) : zGa V (zu (zu (zu E 17 n (sp_dc V m)) 18 n (sp_dr V m)) 15 5 (n + 1)) (m + 1) (n + 1) := by
  have hd := sp_d_r hV h0 hm
  have hn := h.1.2.1
  have a1 : ∀ i, i ≠ n → zu (zu (zu E 17 n (sp_dc V m)) 18 n (sp_dr V m)) 15 5 (n + 1) 17 i = E 17 i := fun i g => by rw [zu_ne (by omega), zu_ne (by omega), zu_ne (by omega)]
  have a2 : ∀ i, i ≠ n → zu (zu (zu E 17 n (sp_dc V m)) 18 n (sp_dr V m)) 15 5 (n + 1) 18 i = E 18 i := fun i g => by rw [zu_ne (by omega), zu_ne (by omega), zu_ne (by omega)]
  have b1 : zu (zu (zu E 17 n (sp_dc V m)) 18 n (sp_dr V m)) 15 5 (n + 1) 17 n = sp_dc V m := by rw [zu_ne (by omega), zu_ne (by omega), zu_same]
  have b2 : zu (zu (zu E 17 n (sp_dc V m)) 18 n (sp_dr V m)) 15 5 (n + 1) 18 n = sp_dr V m := by rw [zu_ne (by omega), zu_same]
  refine ⟨⟨zu_same, by omega, by have := h.1.2.2; omega⟩, fun i x y => ?_, fun C R s hs => ?_⟩
  · by_cases g : i = n
    · rw [g, b1, b2]
      exact hd
    · rw [a1 i g, a2 i g]
      exact h.2.1 i x (by omega)
  · have en : (n + 1).toNat = n.toNat + 1 := by omega
    have em : (m + 1).toNat = m.toNat + 1 := by omega
    have e3 : sp_vote V C R m = sp_nearest C R ((V (3)).val : Int) (sp_dc V m) (sp_dr V m) := by
      unfold sp_vote sp_voteAt
      rw [if_pos hc]
    have e4 : sp_cnt (fun i => sp_nearest C R ((V (3)).val : Int) (zu (zu (zu E 17 n (sp_dc V m)) 18 n (sp_dr V m)) 15 5 (n + 1) 17 i) (zu (zu (zu E 17 n (sp_dc V m)) 18 n (sp_dr V m)) 15 5 (n + 1) 18 i)) s n.toNat 0 = sp_cnt (sp_vote V C R) s m.toNat 0 := by
      rw [← h.2.2 C R s hs]
      refine sp_cnt_c _ _ (fun j x y => ?_)
      rw [a1 j (by omega), a2 j (by omega)]
    rw [en, em, sp_cnt_snoc, sp_cnt_snoc, show (0 : Int) + (n.toNat : Int) = n by omega, show (0 : Int) + (m.toNat : Int) = m by omega, e4, e3]
    rw [b1, b2]
section PL
variable {X : Nat × (Nat → Int)} {d : Nat} {t : List (Nat × Nat)} {p q : Nat} {E : Nat → Int → Int} {V : Int → Fin 65537} {C R : Int → Int} {o : Nat}
theorem T65_loop (ho : zo o) (hV : zV V) : ∀ (k : Nat) (i n : Int) (E : Nat → Int → Int) (j3 j4 : ZV), zC V E o → zGa V E i n → 0 ≤ i → i + k = ((V (4)).val : Int) →
    ∃ F n', zf_ev X (d + 3) 65 (30, [vR 15, vR o, vI i, j3, j4], [], zH t p q E) = some (some [], zH t p q F) ∧ zGa V F ((V (4)).val : Int) n' ∧ (∀ a9 b9, (a9 ≠ 15 ∨ b9 ≠ 5) → a9 ≠ 17 → a9 ≠ 18 → F a9 b9 = E a9 b9) := by
  have hm := hV.mems
  have hcl := hV.cols
  have hrw := hV.rows
  have ho2 : o = 40 ∨ o = 50 := ho
  intro k
  induction k with
  | zero =>
    intro i n E j3 j4 hC hD h1 h2
    refine ⟨E, n, ?_, ?_, fun a b _ _ _ => rfl⟩
    · rw [L65_30 ho]
      simp (disch := omega) only [n32_id, zg_pos, if_pos, if_neg, zu_same, zu_ne, if_true, if_false, ne_eq, not_true_eq_false, not_false_eq_true, true_or, or_true, true_and, and_true, zg_true, fa_b_f, fa_b_t, hC.mems]
    · rw [show ((V (4)).val : Int) = i by omega]
      exact hD
  | succ k ih =>
    intro i n E j3 j4 hC hD h1 h2
    have hd := sp_d_r hV h1 (m := i) (by omega)
    have hn := hD.1
    cases hc : sp_count V i (sp_dc V i) (sp_dr V i)
    · obtain ⟨F, n', f1, f2, f3⟩ := ih (i + 1) n E (vI (sp_dc V i)) (vI (sp_dr V i)) hC (hD.skip h1 hc) (by omega) (by omega)
      refine ⟨F, n', ?_, f2, f3⟩
      rw [L65_30 ho]
      simp (disch := omega) only [n32_id, zg_pos, if_pos, if_neg, zu_same, zu_ne, if_true, if_false, ne_eq, not_true_eq_false, not_false_eq_true, true_or, or_true, true_and, and_true, zg_true, fa_b_f, fa_b_t, hC.mems, T34 ho hC hV]
      rw [L65_k40 ho, T35 ho hC hV h1 (by omega), L65_k46 ho, T38 ho hC hV h1 (by omega) (by omega) (by omega), L65_k56 ho, fa_b_id, hc]
      simp (disch := omega) only [n32_id, zg_pos, if_pos, if_neg, zu_same, zu_ne, if_true, if_false, ne_eq, not_true_eq_false, not_false_eq_true, true_or, or_true, true_and, and_true, zg_true, fa_b_f, fa_b_t, f1]
    · obtain ⟨F, n', f1, f2, f3⟩ := ih (i + 1) (n + 1) (zu (zu (zu E 17 n (sp_dc V i)) 18 n (sp_dr V i)) 15 5 (n + 1)) (vI (sp_dc V i)) (vI (sp_dr V i)) (hC.fr (fun a b _ _ => by rw [zu_ne (by omega), zu_ne (by omega), zu_ne (by omega)])) (hD.add hV h1 (by omega) hc) (by omega) (by omega)
      refine ⟨F, n', ?_, f2, fun a b g1 g2 g3 => by rw [f3 a b g1 g2 g3, zu_ne g1, zu_ne (Or.inl g3), zu_ne (Or.inl g2)]⟩
      rw [L65_30 ho]
      simp (disch := omega) only [n32_id, zg_pos, if_pos, if_neg, zu_same, zu_ne, if_true, if_false, ne_eq, not_true_eq_false, not_false_eq_true, true_or, or_true, true_and, and_true, zg_true, fa_b_f, fa_b_t, hC.mems, T34 ho hC hV]
      rw [L65_k40 ho, T35 ho hC hV h1 (by omega), L65_k46 ho, T38 ho hC hV h1 (by omega) (by omega) (by omega), L65_k56 ho, fa_b_id, hc]
      simp (disch := omega) only [n32_id, zg_pos, if_pos, if_neg, zu_same, zu_ne, if_true, if_false, ne_eq, not_true_eq_false, not_false_eq_true, true_or, or_true, true_and, and_true, zg_true, fa_b_f, fa_b_t, T66 hD.1.1]
      rw [L65_k66 ho, f1]
theorem T65 (ho : zo o) (hC : zC V E o) (hV : zV V) : ∃ F n, zf_ev X (d + 3) 65 (0, [vR 15, vR o, vJ, vJ, vJ], [], zH t p q E) = some (some [], zH t p q F) ∧ zGa V F ((V (4)).val : Int) n ∧ F 15 6 = ((V (3)).val : Int) ∧ (∀ x, 0 ≤ x → x < 4 → F 16 (25 + x) = sp_C V x ∧ F 16 (29 + x) = sp_R V x) ∧ (∀ a9 b9, (a9 ≠ 15 ∨ b9 ≠ 5) → (a9 ≠ 15 ∨ b9 ≠ 6) → a9 ≠ 16 → a9 ≠ 17 → a9 ≠ 18 → F a9 b9 = E a9 b9) := by
  have ho2 : o = 40 ∨ o = 50 := ho
  have e0 : zcp E (o + 1) 0 16 0 39 o 12 = E o 12 := by unfold zcp; rw [if_neg (by omega)]
  have ec : ∀ a b, a ≠ 16 → zcp E (o + 1) 0 16 0 39 a b = E a b := fun a b g => by unfold zcp; rw [if_neg (by omega)]
  have e16 : ∀ b, 0 ≤ b → b < 39 → zcp E (o + 1) 0 16 0 39 16 b = E (o + 1) b := fun b g1 g2 => by
    unfold zcp
    rw [if_pos ⟨rfl, by omega, by omega⟩]
    congr 1
    omega
  obtain ⟨F, n, f1, f2, f3⟩ := T65_loop (X := X) (d := d) (t := t) (p := p) (q := q) ho hV (((V (4)).val : Int)).toNat 0 0 (zu (zu (zcp E (o + 1) 0 16 0 39) 15 6 (E o 12)) 15 5 0) vJ vJ (hC.fr (fun a b _ _ => by rw [zu_ne (by omega), zu_ne (by omega), ec a b (by omega)])) ⟨⟨zu_same, by omega, by omega⟩, fun i a b => by omega, fun C R s hs => rfl⟩ (by omega) (by omega)
  refine ⟨F, n, ?_, f2, ?_, fun x h1 h2 => ⟨?_, ?_⟩, fun a b g1 g2 g3 g4 g5 => by rw [f3 a b g1 g4 g5, zu_ne g1, zu_ne g2, ec a b g3]⟩
  · rw [L65_0 ho]
    simp (disch := omega) only [n32_id, zg_pos, if_pos, if_neg, zu_same, zu_ne, if_true, if_false, ne_eq, not_true_eq_false, not_false_eq_true, true_or, or_true, true_and, and_true, zg_true, fa_b_f, fa_b_t, e0]
    exact f1
  · rw [f3 _ _ (by omega) (by omega) (by omega), zu_ne (by omega), zu_same]
    exact hC.spks
  · rw [f3 _ _ (by omega) (by omega) (by omega), zu_ne (by omega), zu_ne (by omega), e16 _ (by omega) (by omega)]
    exact hC.sc x h1 h2
  · rw [f3 _ _ (by omega) (by omega) (by omega), zu_ne (by omega), zu_ne (by omega), e16 _ (by omega) (by omega)]
    exact hC.sr x h1 h2
theorem T67_loop (hV : zV V) {n s : Int} (hD : zGa V E ((V (4)).val : Int) n) (h6 : E 15 6 = ((V (3)).val : Int)) (hs : 0 ≤ s ∧ s < 4) (hc : ∀ x, 0 ≤ x → x < ((V (3)).val : Int) → E 16 (25 + x) = C x ∧ -1000 ≤ C x ∧ C x ≤ 100000) (hr : ∀ x, 0 ≤ x → x < ((V (3)).val : Int) → E 16 (29 + x) = R x ∧ -1000 ≤ R x ∧ R x ≤ 100000) : ∀ (k : Nat) (i z : Int), 0 ≤ i → i + k = n → zf_ev X (d + 1) 67 (4, [vR 15, vI s, vI z, vI i], [], zH t p q E) = some (some [vI (z + sp_cnt (fun i => sp_nearest C R ((V (3)).val : Int) (E 17 i) (E 18 i)) s k i)], zH t p q E) := by
  have hm := hV.mems
  have hk := hV.spks
  have hcl := hV.cols
  have hrw := hV.rows
  have e5 := hD.1.1
  have hn := hD.1.2
  intro k
  induction k with
  | zero =>
    intro i z h1 h2
    rw [L67_4]
    simp (disch := omega) only [n32_id, zg_pos, if_pos, if_neg, zu_same, zu_ne, if_true, if_false, ne_eq, not_true_eq_false, not_false_eq_true, true_or, or_true, true_and, and_true, zg_true, fa_b_f, fa_b_t, e5]
    simp [sp_cnt]
  | succ k ih =>
    intro i z h1 h2
    have hb := hD.2.1 i h1 (by omega)
    have hv := sp_nearest_r (C := C) (R := R) (n := ((V (3)).val : Int)) (c := E 17 i) (r := E 18 i) hk.1
    rw [L67_4]
    simp (disch := omega) only [n32_id, zg_pos, if_pos, if_neg, zu_same, zu_ne, if_true, if_false, ne_eq, not_true_eq_false, not_false_eq_true, true_or, or_true, true_and, and_true, zg_true, fa_b_f, fa_b_t, e5]
    rw [h6, T37 (a := 16) (n := 39) rfl (by omega) (C := C) (R := R) hk (by omega) (by omega) hc hr, L67_k32]
    unfold sp_cnt
    by_cases g : sp_nearest C R ((V (3)).val : Int) (E 17 i) (E 18 i) = s
    · simp (disch := omega) only [n32_id, zg_pos, if_pos, if_neg, zu_same, zu_ne, if_true, if_false, ne_eq, not_true_eq_false, not_false_eq_true, true_or, or_true, true_and, and_true, zg_true, fa_b_f, fa_b_t]
      rw [ih _ _ (by omega) (by omega)]
      simp [Int.add_assoc]
    · simp (disch := omega) only [n32_id, zg_pos, if_pos, if_neg, zu_same, zu_ne, if_true, if_false, ne_eq, not_true_eq_false, not_false_eq_true, true_or, or_true, true_and, and_true, zg_true, fa_b_f, fa_b_t]
      rw [ih _ _ (by omega) (by omega)]
      simp
theorem T67 (hV : zV V) {n s : Int} (hD : zGa V E ((V (4)).val : Int) n) (h6 : E 15 6 = ((V (3)).val : Int)) (hs : 0 ≤ s ∧ s < 4) (hc : ∀ x, 0 ≤ x → x < ((V (3)).val : Int) → E 16 (25 + x) = C x ∧ -1000 ≤ C x ∧ C x ≤ 100000) (hr : ∀ x, 0 ≤ x → x < ((V (3)).val : Int) → E 16 (29 + x) = R x ∧ -1000 ≤ R x ∧ R x ≤ 100000) : zf_ev X (d + 1) 67 (0, [vR 15, vI s, vJ, vJ], [], zH t p q E) = some (some [vI (sp_cn (sp_vote V C R) ((V (4)).val : Int) s)], zH t p q E) := by
  have hn := hD.1.2
  rw [L67_0, T67_loop hV hD h6 hs hc hr n.toNat 0 0 (by omega) (by omega), hD.2.2 C R s hs.1, Int.zero_add]
  rfl
/-! where a speaker should stand -/
def sp_may (V : Int → Fin 65537) (s c r : Int) : Bool := (decide (sp_C V s = c) && decide (sp_R V s = r)) || (!sp_lamp V c r && !sp_spk V c r)
def sp_pv (V : Int → Fin 65537) (s c r : Int) : Int := sp_cn (sp_vote V (sp_mv (sp_C V) s c) (sp_mv (sp_R V) s r)) ((V (4)).val : Int) s
def sp_pw (V : Int → Fin 65537) (s c r : Int) : Int := if sp_may V s c r = true then sp_pv V s c r else -1
def sp_place (V : Int → Fin 65537) (s : Int) : Int × Int := sp_out (fun r c => sp_pw V s c r) (fun r c => 10 * c + r) (((V (0)).val : Int)).toNat 0 (((V (1)).val : Int)).toNat 1 (-2, -1)
theorem sp_pv_r (hV : zV V) {s c r : Int} : 0 ≤ sp_pv V s c r ∧ sp_pv V s c r ≤ 6 := by
  have hm := hV.mems
  have := sp_cn_r (f := sp_vote V (sp_mv (sp_C V) s c) (sp_mv (sp_R V) s r)) (n := ((V (4)).val : Int)) (s := s) (by omega)
  unfold sp_pv
  omega
theorem sp_pw_r (hV : zV V) {s c r : Int} : -1 ≤ sp_pw V s c r ∧ sp_pw V s c r ≤ 6 := by
  have := sp_pv_r hV (s := s) (c := c) (r := r)
  unfold sp_pw
  split <;> omega
theorem sp_place_pos (hV : zV V) {s : Int} (h1 : 0 ≤ s) (h2 : s < ((V (3)).val : Int)) : 0 ≤ (sp_place V s).2 := by
  have hs := hV.spk s h1 h2
  have h := (sp_out_ge (w := fun r c => sp_pw V s c r) (l := fun r c => 10 * c + r) (n := (((V (0)).val : Int)).toNat) (b := 0) (((V (1)).val : Int)).toNat 1 (-2, -1)).2 (sp_R V s) (sp_C V s) hs.2.1 (by unfold sp_R; omega) (by unfold sp_C; omega) (by unfold sp_C; omega)
  have e : sp_pw V s (sp_C V s) (sp_R V s) = sp_pv V s (sp_C V s) (sp_R V s) := by
    unfold sp_pw
    rw [if_pos]
    unfold sp_may
    simp
  have := sp_pv_r hV (s := s) (c := sp_C V s) (r := sp_R V s)
  unfold sp_place
  omega
theorem T71 (ho : zo o) (hC : zC V E o) (hV : zV V) {s c r : Int} (hs : 0 ≤ s ∧ s < ((V (3)).val : Int)) (hc : 0 ≤ c ∧ c < ((V (0)).val : Int)) (hr : 1 ≤ r ∧ r ≤ ((V (1)).val : Int)) : zf_ev X (d + 1) 71 (0, [vR o, vI s, vI c, vI r, vJ], [], zH t p q E) = some (some [vI (fa_b (sp_may V s c r))], zH t p q E) := by
  have hk := hV.spks
  have hcl := hV.cols
  have hrw := hV.rows
  have e1 : E (o + 1) (25 + s) = sp_C V s := hC.sc s hs.1 (by omega)
  have e2 : E (o + 1) (29 + s) = sp_R V s := hC.sr s hs.1 (by omega)
  have hb := hV.spk s hs.1 hs.2
  have b1 : 0 ≤ sp_C V s ∧ sp_C V s < ((V (0)).val : Int) := by unfold sp_C; omega
  have b2 : 1 ≤ sp_R V s ∧ sp_R V s ≤ ((V (1)).val : Int) := by unfold sp_R; omega
  have key : zf_k X (d + 1) 71 41 [vR o, vI s, vI c, vI r, vI 0] [] (zf_ev X d 27 (0, [vR o, vI c, vI r, vJ], [], zH t p q E)) = some (some [vI (fa_b (!sp_lamp V c r && !sp_spk V c r))], zH t p q E) := by
    rw [T27 ho hC hV (by omega) (by omega), L71_k41 ho, fa_b_id]
    cases sp_lamp V c r
    · simp (disch := omega) only [n32_id, zg_pos, if_pos, if_neg, zu_same, zu_ne, if_true, if_false, ne_eq, not_true_eq_false, not_false_eq_true, true_or, or_true, true_and, and_true, zg_true, fa_b_f, fa_b_t, T28 ho hC hV]
      rw [L71_k50, fa_b_id]
      cases sp_spk V c r <;> simp [fa_b]
    · simp [fa_b]
  rw [L71_0 ho]
  unfold sp_may
  by_cases g1 : sp_C V s = c
  · by_cases g2 : sp_R V s = r
    · simp (disch := omega) only [n32_id, zg_pos, if_pos, if_neg, zu_same, zu_ne, if_true, if_false, ne_eq, not_true_eq_false, not_false_eq_true, true_or, or_true, true_and, and_true, zg_true, fa_b_f, fa_b_t, e1, e2]
      simp [g1, g2, fa_b]
    · simp (disch := omega) only [n32_id, zg_pos, if_pos, if_neg, zu_same, zu_ne, if_true, if_false, ne_eq, not_true_eq_false, not_false_eq_true, true_or, or_true, true_and, and_true, zg_true, fa_b_f, fa_b_t, e1, e2]
      simp only [g1, g2, decide_true, decide_false, Bool.and_false, Bool.false_or]
      exact key
  · simp (disch := omega) only [n32_id, zg_pos, if_pos, if_neg, zu_same, zu_ne, if_true, if_false, ne_eq, not_true_eq_false, not_false_eq_true, true_or, or_true, true_and, and_true, zg_true, fa_b_f, fa_b_t, e1, e2]
    simp only [g1, decide_false, Bool.false_and, Bool.false_or]
    exact key
end PL

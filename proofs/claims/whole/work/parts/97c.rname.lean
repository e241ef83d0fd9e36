/-! the reference's names and places -/
theorem fa_any_x {b : Int → Bool} : ∀ (k : Nat) (i : Int), fa_any b k i = true ↔ ∃ j, i ≤ j ∧ j < i + k ∧ b j = true := by
  intro k
  induction k with
  | zero => intro i; exact ⟨fun h => (by cases h), fun ⟨j, h1, h2, _⟩ => by omega⟩
  | succ k ih =>
    intro i
    show (b i || fa_any b k (i + 1)) = true ↔ _
    rw [Bool.or_eq_true, ih]
    constructor
    · rintro (h | ⟨j, h1, h2, h3⟩)
      · exact ⟨i, by omega, by omega, h⟩
      · exact ⟨j, by omega, by omega, h3⟩
    · rintro ⟨j, h1, h2, h3⟩
      by_cases e : j = i
      · rw [e] at h3; exact Or.inl h3
      · exact Or.inr ⟨j, by omega, by omega, h3⟩
def zNR (U : Int → Prop) (L : Int → Int) (m : Int) (E : Nat → Int → Int) : Prop := (∀ x, 0 ≤ x → x < 10 → (0 ≤ E 64 (81 + x) ∧ E 64 (81 + x) ≤ 8) ∧ (∀ i, 0 ≤ i → i < E 64 (81 + x) → 97 ≤ E 64 (91 + 8 * x + i) ∧ E 64 (91 + 8 * x + i) ≤ 122) ∧ (¬ U x → E 64 (81 + x) = 0)) ∧
  (∀ x, 0 ≤ x → x < 10 → 0 < E 64 (81 + x) → ∃ i, 0 ≤ i ∧ i < m ∧ L i = tk_pk (E 64) (E 64 (81 + x)).toNat (91 + 8 * x) 0) ∧
  (∀ i, 0 ≤ i → i < m → ∃ x, 0 ≤ x ∧ x < 10 ∧ 0 < E 64 (81 + x) ∧ L i = tk_pk (E 64) (E 64 (81 + x)).toNat (91 + 8 * x) 0) ∧
  (∀ k, 81 ≤ k → k < 171 → 0 ≤ E 64 k ∧ E 64 k ≤ 255)
theorem zNR.fr {U W : Int → Prop} {L : Int → Int} {m : Int} {E F : Nat → Int → Int} (h : zNR U L m E) (hU : ∀ x, 0 ≤ x → x < 10 → (U x ↔ W x)) (hf : ∀ k, 81 ≤ k → k < 171 → F 64 k = E 64 k) : zNR W L m F := by
  obtain ⟨h1, h2, h3, h4⟩ := h
  have e : ∀ x, 0 ≤ x → x < 10 → tk_pk (F 64) (F 64 (81 + x)).toNat (91 + 8 * x) 0 = tk_pk (E 64) (E 64 (81 + x)).toNat (91 + 8 * x) 0 := fun x a b => by
    have := (h1 x a b).1
    rw [hf (81 + x) (by omega) (by omega)]
    exact tk_pk_c _ _ _ _ (fun y u v => hf _ (by omega) (by omega))
  refine ⟨fun x a b => ⟨?_, fun i u v => ?_, fun g => ?_⟩, fun x a b g => ?_, fun i a b => ?_, fun k a b => ?_⟩
  · rw [hf _ (by omega) (by omega)]; exact (h1 x a b).1
  · have := (h1 x a b).1
    rw [hf _ (by omega) (by omega)] at v
    rw [hf _ (by omega) (by omega)]
    exact (h1 x a b).2.1 i u v
  · rw [hf _ (by omega) (by omega)]; exact (h1 x a b).2.2 (fun w => g ((hU x a b).mp w))
  · rw [hf _ (by omega) (by omega)] at g
    rw [e x a b]
    exact h2 x a b g
  · obtain ⟨x, u, v, w, z⟩ := h3 i a b
    exact ⟨x, u, v, by rw [hf _ (by omega) (by omega)]; exact w, by rw [e x u v]; exact z⟩
  · rw [hf _ a b]; exact h4 k a b
def zmt (E : Nat → Int → Int) (z x : Int) : Bool := (decide (0 < E 64 (81 + x)) && decide (E 64 (81 + x) = z)) && tk_al (fun i => E 64 (91 + 8 * x + i)) (E 62) z.toNat 0
section RN
variable {X : Nat × (Nat → Int)} {d : Nat} {t : List (Nat × Nat)} {p q : Nat} {E : Nat → Int → Int} {B : Int → Int} {n k P : Int} {U : Int → Prop} {L : Int → Int} {m : Int}
theorem zNR_mt (hN : zNR U L m E) (hT : zTR B n k E) (hm : 0 ≤ m) (h2 : tk_k B n k = 2) : fa_any (zmt E (tk_e B n k - tk_a B n k)) 10 0 = fa_any (fun i => decide (L i = tk_c B n k)) m.toNat 0 := by
  obtain ⟨-, -, -, u1, u2, u3⟩ := tk_word hT.2.1.2 h2
  obtain ⟨-, q2⟩ := hT.2.2.2.2 h2
  rw [Bool.eq_iff_iff, fa_any_x, fa_any_x]
  constructor
  · rintro ⟨x, a, b, c⟩
    unfold zmt at c
    rw [Bool.and_eq_true, Bool.and_eq_true, decide_eq_true_eq, decide_eq_true_eq, tk_al_i] at c
    obtain ⟨i, i1, i2, i3⟩ := hN.2.1 x a (by omega) c.1.1
    refine ⟨i, i1, by omega, decide_eq_true ?_⟩
    rw [i3, c.1.2]
    unfold tk_c
    refine tk_pk_c _ _ _ _ (fun y v w => ?_)
    rw [← q2 y v (by omega)]
    exact c.2 y v (by omega)
  · rintro ⟨i, a, b, c⟩
    have c : L i = tk_c B n k := of_decide_eq_true c
    obtain ⟨x, x1, x2, x3, x4⟩ := hN.2.2.1 i a (by omega)
    refine ⟨x, x1, by omega, ?_⟩
    rw [x4] at c
    unfold tk_c at c
    have hx := hN.1 x x1 x2
    obtain ⟨w1, w2⟩ := tk_pk_i _ _ _ _ (fun y v w => hx.2.1 y v (by omega)) (fun y v w => u3 y v (by omega)) c
    unfold zmt
    rw [Bool.and_eq_true, Bool.and_eq_true, decide_eq_true_eq, decide_eq_true_eq, tk_al_i]
    refine ⟨⟨x3, by omega⟩, fun y v w => ?_⟩
    rw [q2 y v (by omega)]
    exact w2 y v (by omega)
theorem T195_64 {x1 x2 z : Int} (hx : 0 ≤ x2 ∧ x2 < 10) (hz : 0 ≤ z ∧ z ≤ 8) (h8 : E 60 8 = z) (hl : ∀ i, 0 ≤ i → i < z → 0 ≤ E 62 i ∧ E 62 i ≤ 255) (hr : ∀ k, 81 ≤ k → k < 171 → 0 ≤ E 64 k ∧ E 64 k ≤ 255) : ∀ (j : Nat) (i : Int) (b : Bool), 0 ≤ i → i + j = z → ∃ i2, zf_ev X (d + 2) 195 (64, [vR 60, vI x1, vI x2, vI (fa_b b), vI i], [], zH t p q E) = if (b && tk_al (fun c => E 64 (91 + 8 * x2 + c)) (E 62) j i) = true then zf_k X (d + 2) 195 124 [vR 60, vI x1, vI x2, vI 1, vI i2] [] (zf_ev X (d + 1) 190 (0, [vR 60, vI 3, vI (E 60 4)], [], zH t p q E)) else zf_ev X (d + 2) 195 (14, [vR 60, vI x1, vI (x2 + 1), vI 0, vI i2], [], zH t p q E) := by
  intro j
  induction j with
  | zero =>
    intro i b h1 h2
    refine ⟨i, ?_⟩
    rw [L195_64, h8, if_pos (by rw [n32_id (by omega) (by omega), n32_id (by omega) (by omega)]; omega)]
    cases b
    · rw [fa_b_f, if_pos (by decide)]
      rfl
    · rw [fa_b_t, if_neg (by decide)]
      rfl
  | succ j ih =>
    intro i b h1 h2
    have e : tk_al (fun c => E 64 (91 + 8 * x2 + c)) (E 62) (j + 1) i = (decide (E 64 (91 + 8 * x2 + i) = E 62 i) && tk_al (fun c => E 64 (91 + 8 * x2 + c)) (E 62) j (i + 1)) := rfl
    have c1 := hl i h1 (by omega)
    have c2 := hr (91 + 8 * x2 + i) (by omega) (by omega)
    cases b
    · refine ⟨i, ?_⟩
      rw [L195_64, h8, if_neg (by rw [n32_id (by omega) (by omega), n32_id (by omega) (by omega)]; omega), fa_b_f, if_pos (by decide), if_pos (by decide)]
      rfl
    · by_cases g : E 64 (91 + 8 * x2 + i) = E 62 i
      · obtain ⟨i2, f1⟩ := ih (i + 1) true (by omega) (by omega)
        rw [fa_b_t] at f1
        refine ⟨i2, ?_⟩
        rw [L195_64, h8, if_neg (by rw [n32_id (by omega) (by omega), n32_id (by omega) (by omega)]; omega), fa_b_t, if_neg (by decide), n32_id (z := 91 + 8 * x2 + i) (by omega) (by omega), zg_pos (by omega), n32_id (z := i) (by omega) (by omega), zg_pos (by omega), if_neg (fun h => h (by rw [g])), f1, e, decide_eq_true g, Bool.true_and, Bool.true_and]
      · obtain ⟨i2, f1⟩ := ih (i + 1) false (by omega) (by omega)
        rw [fa_b_f] at f1
        refine ⟨i2, ?_⟩
        rw [L195_64, h8, if_neg (by rw [n32_id (by omega) (by omega), n32_id (by omega) (by omega)]; omega), fa_b_t, if_neg (by decide), n32_id (z := 91 + 8 * x2 + i) (by omega) (by omega), zg_pos (by omega), n32_id (z := i) (by omega) (by omega), zg_pos (by omega), if_pos (by rw [n32_id (by omega) (by omega), n32_id (by omega) (by omega)]; exact g), f1, e, decide_eq_false g]
        rfl
theorem T195_14 {x1 z : Int} (h0 : E 60 13 = 0) (hz : 1 ≤ z ∧ z ≤ 8) (h8 : E 60 8 = z) (hl : ∀ i, 0 ≤ i → i < z → 0 ≤ E 62 i ∧ E 62 i ≤ 255) (hr : ∀ k, 81 ≤ k → k < 171 → 0 ≤ E 64 k ∧ E 64 k ≤ 255) : ∀ (j : Nat) (x2 : Int) (j3 j4 : ZV), 0 ≤ x2 → x2 + j = 10 → ∃ k3 k4, zf_ev X (d + 2) 195 (14, [vR 60, vI x1, vI x2, j3, j4], [], zH t p q E) = if fa_any (zmt E z) j x2 = true then some (some [], zH t p q (zwr E 3 (E 60 4))) else zf_ev X (d + 2) 195 (143, [vR 60, vI x1, vI 0, k3, k4], [], zH t p q E) := by
  intro j
  induction j with
  | zero =>
    intro x2 j3 j4 h1 h2
    refine ⟨j3, j4, ?_⟩
    rw [L195_14, if_pos (by rw [n32_id (by omega) (by omega), n32_id (by omega) (by omega)]; omega), h0, if_pos (by decide)]
    rfl
  | succ j ih =>
    intro x2 j3 j4 h1 h2
    have e : fa_any (zmt E z) (j + 1) x2 = (zmt E z x2 || fa_any (zmt E z) j (x2 + 1)) := rfl
    have c1 := hr (81 + x2) (by omega) (by omega)
    have key : ∃ b : Bool, b = (decide (0 < E 64 (81 + x2)) && decide (E 64 (81 + x2) = z)) ∧ zf_ev X (d + 2) 195 (14, [vR 60, vI x1, vI x2, j3, j4], [], zH t p q E) = zf_ev X (d + 2) 195 (64, [vR 60, vI x1, vI x2, vI (fa_b b), vI 0], [], zH t p q E) := by
      refine ⟨_, rfl, ?_⟩
      rw [L195_14, if_neg (by rw [n32_id (by omega) (by omega), n32_id (by omega) (by omega)]; omega), h0, if_neg (fun h => h (by decide)), n32_id (z := 81 + x2) (by omega) (by omega), zg_pos (by omega), n32_id (z := E 64 (81 + x2)) (by omega) (by omega), h8, n32_id (z := z) (by omega) (by omega)]
      by_cases g1 : 0 < E 64 (81 + x2)
      · rw [if_neg (by omega), zg_pos (by omega), decide_eq_true g1, Bool.true_and]
        by_cases g2 : E 64 (81 + x2) = z
        · rw [if_neg (fun h => h g2), decide_eq_true g2]
          rfl
        · rw [if_pos g2, decide_eq_false g2]
          rfl
      · rw [if_pos (by omega), decide_eq_false g1, Bool.false_and]
        rfl
    obtain ⟨b, hb, e1⟩ := key
    obtain ⟨i2, e2⟩ := T195_64 (X := X) (d := d) (t := t) (p := p) (q := q) (x1 := x1) (x2 := x2) (by omega) (by omega) h8 hl hr z.toNat 0 b (by omega) (by omega)
    have hm : (b && tk_al (fun c => E 64 (91 + 8 * x2 + c)) (E 62) z.toNat 0) = zmt E z x2 := by
      rw [hb]
      rfl
    rw [hm] at e2
    by_cases g : zmt E z x2 = true
    · refine ⟨j3, j4, ?_⟩
      have w := (zwr_S (B := fun _ => 0) (n := 0) (P := 0) (E := E) (v := 3) (a := E 60 4)).1
      rw [e1, e2, if_pos g, T190 h0, L195_k124, L195_14, w, e, g, Bool.true_or, if_pos rfl]
      by_cases g3 : 10 ≤ x2 + 1
      · rw [if_pos (by rw [n32_id (by omega) (by omega), n32_id (by omega) (by omega)]; exact g3), if_neg (by decide)]
      · rw [if_neg (by rw [n32_id (by omega) (by omega), n32_id (by omega) (by omega)]; exact g3), if_pos (by decide), if_neg (by decide)]
    · obtain ⟨k3, k4, f1⟩ := ih (x2 + 1) (vI 0) (vI i2) (by omega) (by omega)
      refine ⟨k3, k4, ?_⟩
      rw [e1, e2, if_neg g, f1, e, bo_f g, Bool.false_or]
theorem T195_143 {x1 z : Int} (hx : 0 ≤ x1 ∧ x1 < 10) (hz : 1 ≤ z ∧ z ≤ 8) {k3 k4 : ZV} : ∀ (j : Nat) (i : Int) (E : Nat → Int → Int), E 60 8 = z → 0 ≤ i → i + j = z → ∃ F i2, zf_ev X (d + 2) 195 (143, [vR 60, vI x1, vI i, k3, k4], [], zH t p q E) = zf_k X (d + 2) 195 191 [vR 60, vI x1, vI i2, k3, k4] [] (zf_ev X (d + 1) 189 (0, [vR 60, vJ, vJ, vJ], [], zH t p q F)) ∧ F 64 (81 + x1) = z ∧ (∀ c, i ≤ c → c < z → F 64 (91 + 8 * x1 + c) = E 62 c) ∧ (∀ x y, (x ≠ 64 ∨ (y ≠ 81 + x1 ∧ (y < 91 + 8 * x1 + i ∨ 91 + 8 * x1 + z ≤ y))) → F x y = E x y) := by
  intro j
  induction j with
  | zero =>
    intro i E h8 h1 h2
    refine ⟨zu E 64 (81 + x1) z, i, ?_, zu_same, fun c a b => by omega, fun x y u => zu_ne (by omega)⟩
    rw [L195_143, h8, if_pos (by rw [n32_id (by omega) (by omega), n32_id (by omega) (by omega)]; omega), n32_id (by omega) (by omega), zg_pos (by omega)]
  | succ j ih =>
    intro i E h8 h1 h2
    obtain ⟨F, i2, f1, f2, f3, f4⟩ := ih (i + 1) (zu E 64 (91 + 8 * x1 + i) (E 62 i)) (by rw [zu_ne (by omega)]; exact h8) (by omega) (by omega)
    refine ⟨F, i2, ?_, f2, fun c a b => ?_, fun x y u => by rw [f4 x y (by omega), zu_ne (by omega)]⟩
    · rw [L195_143, h8, if_neg (by rw [n32_id (by omega) (by omega), n32_id (by omega) (by omega)]; omega), n32_id (z := i) (by omega) (by omega), zg_pos (by omega), n32_id (z := 91 + 8 * x1 + i) (by omega) (by omega), zg_pos (by omega), f1]
    · by_cases e : c = i
      · rw [e, f4 _ _ (by omega), zu_same]
      · rw [f3 c (by omega) b, zu_ne (by omega)]
theorem T195 {x1 : Int} (hx : 0 ≤ x1 ∧ x1 < 10) (hU : ¬ U x1) (hm : 0 ≤ m) (hN : zNR U L m E) (h : zS2 B n P (.inr k) E) : ∃ F, zf_ev X (d + 2) 195 (0, [vR 60, vI x1, vJ, vJ, vJ], [], zH t p q E) = some (some [], zH t p q F) ∧ zS2 B n P (ps_M B n L m (.inr k)) F ∧ (∀ k2, ps_M B n L m (.inr k) = .inr k2 → zNR (fun x => U x ∨ x = x1) (pv_M B n L m (.inr k)) (m + 1) F ∧ ∀ y, y < 81 → F 64 y = E 64 y) ∧ (∀ x y, (x ≠ 60 ∨ y < 4 ∨ 13 < y ∨ y = 11 ∨ y = 12) → x ≠ 62 → x ≠ 64 → F x y = E x y) := by
  have h2 : (E 60 13 = 0 ∧ E 60 9 = 0 ∧ E 60 10 = P) ∧ zTR B n k E := h
  obtain ⟨t1, t2⟩ := T194 (X := X) (d := d) (t := t) (p := p) (q := q) h
  have ha := h2.2.2.2.1.1
  by_cases g : tk_k B n k ≠ 2 ∨ tk_ls B n k ≠ 0
  · have hs : ps_M B n L m (.inr k) = .inl (1, tk_a B n k) := if_pos g
    have w := (zwr_S (B := B) (n := n) (P := P) (E := E) (v := 1) (a := tk_a B n k)).1
    rw [hs]
    refine ⟨zwr E 1 (tk_a B n k), ?_, zwr_S, fun k2 e => (by cases e), fun x y u v _ => zwr_B x y u v⟩
    rw [L195_0, h2.1.1, if_pos (by decide), t1 g, L195_k9, L195_14, w, if_neg (by decide), if_pos (by decide), if_neg (by decide)]
  · have hs : ps_M B n L m (.inr k) = (if fa_any (fun i => decide (L i = tk_c B n k)) m.toNat 0 = true then .inl (3, tk_a B n k) else .inr (tk_e B n k)) := if_neg g
    have hk2 : tk_k B n k = 2 := by omega
    obtain ⟨-, -, -, u1, u2, u3⟩ := tk_word h2.2.2.1.2 hk2
    obtain ⟨q1, q2⟩ := h2.2.2.2.2.2 hk2
    have hl : ∀ i, 0 ≤ i → i < tk_e B n k - tk_a B n k → 0 ≤ E 62 i ∧ E 62 i ≤ 255 := fun i a b => by
      have := u3 i a b
      rw [q2 i a b]
      omega
    obtain ⟨k3, k4, e1⟩ := T195_14 (X := X) (d := d) (t := t) (p := p) (q := q) (x1 := x1) h2.1.1 (by omega) q1 hl hN.2.2.2 10 0 vJ vJ (by omega) (by omega)
    rw [zNR_mt hN h2.2 hm hk2, ha] at e1
    have e0 : zf_ev X (d + 2) 195 (0, [vR 60, vI x1, vJ, vJ, vJ], [], zH t p q E) = zf_ev X (d + 2) 195 (14, [vR 60, vI x1, vI 0, vJ, vJ], [], zH t p q E) := by
      rw [L195_0, h2.1.1, if_pos (by decide), t2 g, L195_k9]
    by_cases g2 : fa_any (fun i => decide (L i = tk_c B n k)) m.toNat 0 = true
    · rw [if_pos g2] at hs e1
      rw [hs]
      refine ⟨zwr E 3 (tk_a B n k), ?_, zwr_S, fun k2 e => (by cases e), fun x y u v _ => zwr_B x y u v⟩
      rw [e0, e1]
    · rw [if_neg g2] at hs e1
      obtain ⟨F, i2, f1, f2, f3, f4⟩ := T195_143 (X := X) (d := d) (t := t) (p := p) (q := q) (x1 := x1) (z := tk_e B n k - tk_a B n k) (k3 := k3) (k4 := k4) hx (by omega) (tk_e B n k - tk_a B n k).toNat 0 E q1 (by omega) (by omega)
      have hSF : zS2 B n P (.inr k) F := h.fr (fun x y _ _ => f4 x y (by omega))
      obtain ⟨G, g3, g4, g5⟩ := zS2_next (X := X) (d := d) (t := t) (p := p) (q := q) hSF
      have hG : ∀ y, G 64 y = F 64 y := fun y => g5 _ _ (by omega) (by omega)
      rw [hs]
      refine ⟨G, ?_, g4, fun k2 _ => ⟨?_, fun y hy => by rw [hG, f4 _ _ (by omega)]⟩, fun x y u v w => by rw [g5 x y (by omega) v, f4 x y (by omega)]⟩
      · rw [e0, e1, f1, g3, L195_k191]
      · have c0 : G 64 (81 + x1) = tk_e B n k - tk_a B n k := by rw [hG, f2]
        have c1 : ∀ c, 0 ≤ c → c < tk_e B n k - tk_a B n k → G 64 (91 + 8 * x1 + c) = B (tk_a B n k + c) := fun c a b => by rw [hG, f3 c a b, q2 c a b]
        have c2 : ∀ y, y ≠ 81 + x1 → (y < 91 + 8 * x1 ∨ 91 + 8 * x1 + (tk_e B n k - tk_a B n k) ≤ y) → G 64 y = E 64 y := fun y a b => by rw [hG, f4 _ _ (by omega)]
        have pc1 : tk_pk (G 64) (G 64 (81 + x1)).toNat (91 + 8 * x1) 0 = tk_c B n k := by
          rw [c0]
          unfold tk_c
          exact tk_pk_c _ _ _ _ (fun y v w => c1 y v (by omega))
        obtain ⟨n1, n2, n3, n4⟩ := hN
        have n0 := (n1 x1 (by omega) (by omega)).2.2 hU
        have pc2 : ∀ x, 0 ≤ x → x < 10 → x ≠ x1 → tk_pk (G 64) (G 64 (81 + x)).toNat (91 + 8 * x) 0 = tk_pk (E 64) (E 64 (81 + x)).toNat (91 + 8 * x) 0 := fun x a b e => by
          have := (n1 x a b).1
          rw [c2 (81 + x) (by omega) (by omega)]
          exact tk_pk_c _ _ _ _ (fun y v w => c2 _ (by omega) (by omega))
        show zNR (fun x => U x ∨ x = x1) (pu L m (tk_c B n k)) (m + 1) G
        refine ⟨fun x a b => ?_, fun x a b w => ?_, fun i a b => ?_, fun y a b => ?_⟩
        · by_cases e : x = x1
          · rw [e, c0]
            refine ⟨by omega, fun i v w => ?_, fun w => absurd (Or.inr rfl) w⟩
            rw [c1 i v w]
            exact u3 i v w
          · have o1 := n1 x a b
            rw [c2 (81 + x) (by omega) (by omega)]
            refine ⟨o1.1, fun i v w => ?_, fun w => o1.2.2 (fun y => w (Or.inl y))⟩
            rw [c2 _ (by omega) (by omega)]
            exact o1.2.1 i v w
        · by_cases e : x = x1
          · refine ⟨m, hm, by omega, ?_⟩
            rw [pu_s, e, pc1]
          · rw [c2 (81 + x) (by omega) (by omega)] at w
            obtain ⟨i, i1, i3, i4⟩ := n2 x a b w
            refine ⟨i, i1, by omega, ?_⟩
            rw [pu_n (by omega), i4, pc2 x a b e]
        · by_cases e : i = m
          · refine ⟨x1, by omega, by omega, by rw [c0]; omega, ?_⟩
            rw [e, pu_s, pc1]
          · obtain ⟨x, y1, y2, y3, y4⟩ := n3 i a (by omega)
            have ex : x ≠ x1 := fun ex => by rw [ex, n0] at y3; omega
            refine ⟨x, y1, y2, ?_, ?_⟩
            · rw [c2 _ (by omega) (by omega)]; exact y3
            · rw [pu_n e, y4, pc2 x y1 y2 ex]
        · by_cases e : y = 81 + x1
          · rw [e, c0]; omega
          · by_cases e2 : y < 91 + 8 * x1 ∨ 91 + 8 * x1 + (tk_e B n k - tk_a B n k) ≤ y
            · rw [c2 y e e2]
              exact n4 y a b
            · have := c1 (y - (91 + 8 * x1)) (by omega) (by omega)
              rw [show 91 + 8 * x1 + (y - (91 + 8 * x1)) = y by omega] at this
              rw [this]
              have := u3 (y - (91 + 8 * x1)) (by omega) (by omega)
              omega
theorem T207_31 {f : Int → Int} (hI : pI f) (hH : ∀ k, 0 ≤ k → k < 81 → E 64 k = f k) {x1 c r : Int} (hc : -1 ≤ c ∧ c ≤ 1000) (hr : -1 ≤ r ∧ r ≤ 1000) : ∀ (j : Nat) (i : Int) (b : Bool), 0 ≤ i → i + j = f 3 → zf_ev X (d + 4) 207 (31, [vR 60, vI x1, vI c, vI r, vI (fa_b b), vI i], [], zH t p q E) = zf_ev X (d + 4) 207 (97, [vR 60, vI x1, vI c, vI r, vI (fa_b (b || fa_any (fun s => decide (f (22 + 2 * s) = c ∧ f (22 + 2 * s + 1) = r)) j i)), vI 0], [], zH t p q E) := by
  have i1 := hI.1
  unfold pI1 at i1
  have h3 := hH 3 (by omega) (by omega)
  intro j
  induction j with
  | zero =>
    intro i b h1 h2
    rw [L207_31, zg_pos (by decide), show n32 3 = 3 by decide, h3, if_pos (by rw [n32_id (by omega) (by omega), n32_id (by omega) (by omega)]; omega)]
    show _ = zf_ev X (d + 4) 207 (97, [vR 60, vI x1, vI c, vI r, vI (fa_b (b || false)), vI 0], [], zH t p q E)
    rw [Bool.or_false]
  | succ j ih =>
    intro i b h1 h2
    have e : fa_any (fun s => decide (f (22 + 2 * s) = c ∧ f (22 + 2 * s + 1) = r)) (j + 1) i = (decide (f (22 + 2 * i) = c ∧ f (22 + 2 * i + 1) = r) || fa_any (fun s => decide (f (22 + 2 * s) = c ∧ f (22 + 2 * s + 1) = r)) j (i + 1)) := rfl
    have c1 := hI.2.2.1 (22 + 2 * i) (by omega) (by omega)
    have c2 := hI.2.2.1 (22 + 2 * i + 1) (by omega) (by omega)
    rw [L207_31, zg_pos (by decide), show n32 3 = 3 by decide, h3, if_neg (by rw [n32_id (by omega) (by omega), n32_id (by omega) (by omega)]; omega), e]
    have it := ih (i + 1) true (by omega) (by omega)
    have iF := ih (i + 1) false (by omega) (by omega)
    rw [fa_b_t, Bool.true_or] at it
    rw [fa_b_f, Bool.false_or] at iF
    cases b
    · rw [fa_b_f, if_neg (fun h => h (by decide)), n32_id (z := 22 + 2 * i) (by omega) (by omega), zg_pos (by omega), hH _ (by omega) (by omega), n32_id (z := f (22 + 2 * i)) (by omega) (by omega), n32_id (z := c) (by omega) (by omega), Bool.false_or]
      by_cases g1 : f (22 + 2 * i) = c
      · rw [if_neg (fun h => h g1), n32_id (z := 22 + 2 * i + 1) (by omega) (by omega), zg_pos (by omega), hH _ (by omega) (by omega), n32_id (z := f (22 + 2 * i + 1)) (by omega) (by omega), n32_id (z := r) (by omega) (by omega)]
        by_cases g2 : f (22 + 2 * i + 1) = r
        · rw [if_neg (fun h => h g2), it, decide_eq_true ⟨g1, g2⟩, Bool.true_or]
        · rw [if_pos g2, iF, decide_eq_false (fun h => g2 h.2), Bool.false_or]
      · rw [if_pos g1, iF, decide_eq_false (fun h => g1 h.1), Bool.false_or]
    · rw [fa_b_t, if_pos (by decide), it, Bool.true_or]
theorem T207_97 {f : Int → Int} (hI : pI f) (hH : ∀ k, 0 ≤ k → k < 81 → E 64 k = f k) {x1 c r : Int} (hc : -1 ≤ c ∧ c ≤ 1000) (hr : -1 ≤ r ∧ r ≤ 1000) (h0 : E 60 13 = 0) : ∀ (j : Nat) (i : Int) (b : Bool), 0 ≤ i → i + j = f 5 → ∃ j4 j5, zf_ev X (d + 4) 207 (97, [vR 60, vI x1, vI c, vI r, vI (fa_b b), vI i], [], zH t p q E) = if (b || fa_any (fun s => decide (f (60 + 2 * s) = c ∧ f (60 + 2 * s + 1) = r)) j i) = true then zf_k X (d + 4) 207 171 [vR 60, vI x1, vI c, vI r, j4, j5] [] (zf_ev X (d + 3) 190 (0, [vR 60, vI 3, vI (E 60 4)], [], zH t p q E)) else zf_k X (d + 4) 207 183 [vR 60, vI x1, vI c, vI r, j4, j5] [] (zf_ev X (d + 3) 189 (0, [vR 60, vJ, vJ, vJ], [], zH t p q E)) := by
  have i1 := hI.1
  unfold pI1 at i1
  have h3 := hH 5 (by omega) (by omega)
  intro j
  induction j with
  | zero =>
    intro i b h1 h2
    refine ⟨vI (fa_b b), vI i, ?_⟩
    rw [L207_97, zg_pos (by decide), show n32 5 = 5 by decide, h3, if_pos (by rw [n32_id (by omega) (by omega), n32_id (by omega) (by omega)]; omega)]
    cases b
    · rw [fa_b_f, if_pos (by decide), h0, if_pos (by decide)]
      rfl
    · rw [fa_b_t, if_neg (by decide)]
      rfl
  | succ j ih =>
    intro i b h1 h2
    have e : fa_any (fun s => decide (f (60 + 2 * s) = c ∧ f (60 + 2 * s + 1) = r)) (j + 1) i = (decide (f (60 + 2 * i) = c ∧ f (60 + 2 * i + 1) = r) || fa_any (fun s => decide (f (60 + 2 * s) = c ∧ f (60 + 2 * s + 1) = r)) j (i + 1)) := rfl
    have c1 := hI.2.2.1 (60 + 2 * i) (by omega) (by omega)
    have c2 := hI.2.2.1 (60 + 2 * i + 1) (by omega) (by omega)
    obtain ⟨a4, a5, it⟩ := ih (i + 1) true (by omega) (by omega)
    obtain ⟨b4, b5, iF⟩ := ih (i + 1) false (by omega) (by omega)
    rw [fa_b_t, Bool.true_or] at it
    rw [fa_b_f, Bool.false_or] at iF
    rw [e]
    cases b
    · by_cases g1 : f (60 + 2 * i) = c
      · by_cases g2 : f (60 + 2 * i + 1) = r
        · refine ⟨a4, a5, ?_⟩
          rw [L207_97, zg_pos (by decide), show n32 5 = 5 by decide, h3, if_neg (by rw [n32_id (by omega) (by omega), n32_id (by omega) (by omega)]; omega), fa_b_f, if_neg (fun h => h (by decide)), n32_id (z := 60 + 2 * i) (by omega) (by omega), zg_pos (by omega), hH _ (by omega) (by omega), n32_id (z := f (60 + 2 * i)) (by omega) (by omega), n32_id (z := c) (by omega) (by omega), Bool.false_or, if_neg (fun h => h g1), n32_id (z := 60 + 2 * i + 1) (by omega) (by omega), zg_pos (by omega), hH _ (by omega) (by omega), n32_id (z := f (60 + 2 * i + 1)) (by omega) (by omega), n32_id (z := r) (by omega) (by omega), if_neg (fun h => h g2), it, decide_eq_true ⟨g1, g2⟩, Bool.true_or]
        · refine ⟨b4, b5, ?_⟩
          rw [L207_97, zg_pos (by decide), show n32 5 = 5 by decide, h3, if_neg (by rw [n32_id (by omega) (by omega), n32_id (by omega) (by omega)]; omega), fa_b_f, if_neg (fun h => h (by decide)), n32_id (z := 60 + 2 * i) (by omega) (by omega), zg_pos (by omega), hH _ (by omega) (by omega), n32_id (z := f (60 + 2 * i)) (by omega) (by omega), n32_id (z := c) (by omega) (by omega), Bool.false_or, if_neg (fun h => h g1), n32_id (z := 60 + 2 * i + 1) (by omega) (by omega), zg_pos (by omega), hH _ (by omega) (by omega), n32_id (z := f (60 + 2 * i + 1)) (by omega) (by omega), n32_id (z := r) (by omega) (by omega), if_pos g2, iF, decide_eq_false (fun h => g2 h.2), Bool.false_or]
      · refine ⟨b4, b5, ?_⟩
        rw [L207_97, zg_pos (by decide), show n32 5 = 5 by decide, h3, if_neg (by rw [n32_id (by omega) (by omega), n32_id (by omega) (by omega)]; omega), fa_b_f, if_neg (fun h => h (by decide)), n32_id (z := 60 + 2 * i) (by omega) (by omega), zg_pos (by omega), hH _ (by omega) (by omega), n32_id (z := f (60 + 2 * i)) (by omega) (by omega), n32_id (z := c) (by omega) (by omega), Bool.false_or, if_pos g1, iF, decide_eq_false (fun h => g1 h.1), Bool.false_or]
    · refine ⟨a4, a5, ?_⟩
      rw [L207_97, zg_pos (by decide), show n32 5 = 5 by decide, h3, if_neg (by rw [n32_id (by omega) (by omega), n32_id (by omega) (by omega)]; omega), fa_b_t, if_pos (by decide), it, Bool.true_or]
theorem T207 {f : Int → Int} (hI : pI f) (hf0 : 0 < f 0) (hH : ∀ k, 0 ≤ k → k < 81 → E 64 k = f k) {x1 : Int} (hx : 22 ≤ x1 ∧ x1 < 80) (h : zS2 B n P (.inr k) E) : ∃ F, zf_ev X (d + 4) 207 (0, [vR 60, vI x1, vJ, vJ, vJ, vJ], [], zH t p q E) = some (some [], zH t p q F) ∧ zS2 B n P (ps_R B n 1 (f 1) (pl_at f (pv_N B n 0 (f 0 - 1) (.inr k))) (ps_N B n 0 (f 0 - 1) (.inr k))) F ∧ (∀ k2, ps_R B n 1 (f 1) (pl_at f (pv_N B n 0 (f 0 - 1) (.inr k))) (ps_N B n 0 (f 0 - 1) (.inr k)) = .inr k2 → F 64 x1 = pv_N B n 0 (f 0 - 1) (.inr k) ∧ F 64 (x1 + 1) = pv_N B n 1 (f 1) (ps_N B n 0 (f 0 - 1) (.inr k)) ∧ ∀ y, y ≠ x1 → y ≠ x1 + 1 → F 64 y = E 64 y) ∧ (∀ x y, (x ≠ 60 ∨ y < 4 ∨ 13 < y ∨ y = 11 ∨ y = 12) → x ≠ 62 → x ≠ 64 → F x y = E x y) := by
  have i1 := hI.1
  unfold pI1 at i1
  obtain ⟨F, f1, f2, f3⟩ := T199 (X := X) (d := d) (t := t) (p := p) (q := q) (c := f 0) (by omega) (hH 0 (by omega) (by omega)) h
  have hF : ∀ y, F 64 y = E 64 y := fun y => f3 _ _ (by omega) (by omega)
  obtain ⟨G, g1, g2, g3, g4⟩ := T196 (X := X) (d := d + 2) (t := t) (p := p) (q := q) (lo := 1) (hi := f 1) (by omega) (by omega) f2
  have hG : ∀ y, G 64 y = E 64 y := fun y => by rw [g4 _ _ (by omega) (by omega), hF]
  have hEG : zFB E G := f3.tr g4
  have hcr := pv_N_r (B := B) (n := n) (s := .inr k) (lo := 0) (hi := f 0 - 1) (by omega)
  generalize pv_N B n 0 (f 0 - 1) (.inr k) = c at f1 hcr ⊢
  have hrr := pv_N_r (B := B) (n := n) (s := ps_N B n 0 (f 0 - 1) (.inr k)) (lo := 1) (hi := f 1) (by omega)
  have e0 : zf_ev X (d + 4) 207 (0, [vR 60, vI x1, vJ, vJ, vJ, vJ], [], zH t p q E) = zf_k X (d + 4) 207 13 [vR 60, vI x1, vI c, vJ, vJ, vJ] [] (some (some [vI (pv_N B n 1 (f 1) (ps_N B n 0 (f 0 - 1) (.inr k)))], zH t p q G)) := by
    rw [L207_0, f1, L207_k1, zg_pos (by decide), show n32 1 = 1 by decide, hF, hH 1 (by omega) (by omega), g1]
  have hbad : ∀ u, ps_N B n 1 (f 1) (ps_N B n 0 (f 0 - 1) (.inr k)) = .inl u → ps_R B n 1 (f 1) (pl_at f c) (ps_N B n 0 (f 0 - 1) (.inr k)) = .inl u := by
    intro u hu
    cases hs : ps_N B n 0 (f 0 - 1) (.inr k) with
    | inl v => rw [hs] at hu; exact hu
    | inr k1 =>
      rw [hs] at hu
      show (match ps_N B n 1 (f 1) (.inr k1) with
        | .inl x => .inl x
        | .inr k2 => if pl_at f c (tk_v B n k1) = true then .inl (3, tk_a B n k1) else .inr k2 : PS) = _
      rw [hu]
  cases hs2 : ps_N B n 1 (f 1) (ps_N B n 0 (f 0 - 1) (.inr k)) with
  | inl u =>
    rw [hbad u hs2]
    have g2 := g2 u hs2
    refine ⟨G, ?_, g2, fun k2 e => (by cases e), fun x y v w _ => hEG x y v w⟩
    rw [e0, L207_k13, g2.1, if_neg (by decide)]
  | inr k2 =>
    have g3 := g3 k2 hs2
    obtain ⟨k1, hk1, hs3⟩ := ps_N_b hs2
    rw [hk1] at f2 hs2 e0 hrr ⊢
    rw [g3] at e0 hEG hG
    have hN := ps_N_inr hs3
    have hv := hN.2.2.2.2
    have h2 : (F 60 13 = 0 ∧ F 60 9 = 0 ∧ F 60 10 = P) ∧ zTR B n k1 F := f2
    have hR : ps_R B n 1 (f 1) (pl_at f c) (.inr k1) = (if pl_at f c (pv_N B n 1 (f 1) (.inr k1)) = true then .inl (3, tk_a B n k1) else .inr k2 : PS) := by
      show (match ps_N B n 1 (f 1) (.inr k1) with
        | .inl x => .inl x
        | .inr k2 => if pl_at f c (tk_v B n k1) = true then .inl (3, tk_a B n k1) else .inr k2 : PS) = _
      rw [hs3, hv]
    generalize pv_N B n 1 (f 1) (.inr k1) = r at e0 hrr hR ⊢
    have hHF : ∀ k, 0 ≤ k → k < 81 → F 64 k = f k := fun k a b => by rw [hF]; exact hH k a b
    have l1 := T207_31 (X := X) (d := d) (t := t) (p := p) (q := q) hI hHF (x1 := x1) (c := c) (r := r) (by omega) (by omega) (f 3).toNat 0 false (by omega) (by omega)
    obtain ⟨j4, j5, l2⟩ := T207_97 (X := X) (d := d) (t := t) (p := p) (q := q) hI hHF (x1 := x1) (c := c) (r := r) (by omega) (by omega) h2.1.1 (f 5).toNat 0 (false || fa_any (fun s => decide (f (22 + 2 * s) = c ∧ f (22 + 2 * s + 1) = r)) (f 3).toNat 0) (by omega) (by omega)
    rw [Bool.false_or] at l1 l2
    rw [fa_b_f] at l1
    have hat : (fa_any (fun s => decide (f (22 + 2 * s) = c ∧ f (22 + 2 * s + 1) = r)) (f 3).toNat 0 || fa_any (fun i => decide (f (60 + 2 * i) = c ∧ f (60 + 2 * i + 1) = r)) (f 5).toNat 0) = pl_at f c r := rfl
    rw [hat] at l2
    have e1 : zf_ev X (d + 4) 207 (0, [vR 60, vI x1, vJ, vJ, vJ, vJ], [], zH t p q E) = zf_ev X (d + 4) 207 (97, [vR 60, vI x1, vI c, vI r, vI (fa_b (fa_any (fun s => decide (f (22 + 2 * s) = c ∧ f (22 + 2 * s + 1) = r)) (f 3).toNat 0)), vI 0], [], zH t p q F) := by
      rw [e0, L207_k13, h2.1.1, if_pos (by decide), l1]
    by_cases g : pl_at f c r = true
    · rw [if_pos g] at hR l2
      rw [hR]
      refine ⟨zwr F 3 (tk_a B n k1), ?_, zwr_S, fun k2 e => (by cases e), fun x y v w _ => (f3.tr zwr_B) x y v w⟩
      rw [e1, l2, h2.2.2.2.1.1, T190 h2.1.1, L207_k171, (zwr_S (B := B) (n := n) (P := P) (E := F)).1, if_neg (by decide)]
    · rw [if_neg g] at hR l2
      obtain ⟨H, y1, y2, y3⟩ := zS2_next (X := X) (d := d + 2) (t := t) (p := p) (q := q) f2
      rw [← hN.2.2.2.1] at y2
      rw [hR]
      refine ⟨zu (zu H 64 x1 c) 64 (x1 + 1) r, ?_, y2.fr (fun x y _ _ => by rw [zu_ne (by omega), zu_ne (by omega)]), fun k3 _ => ⟨by rw [zu_ne (by omega), zu_same], zu_same, fun y a b => by rw [zu_ne (by omega), zu_ne (by omega), y3 _ _ (by omega) (by omega), hF]⟩, fun x y v w z => by rw [zu_ne (by omega), zu_ne (by omega), y3 x y (by omega) w, f3 x y v w]⟩
      rw [e1, l2, y1, L207_k183, n32_id (by omega) (by omega), zg_pos (by omega), n32_id (by omega) (by omega), zg_pos (by omega)]
end RN

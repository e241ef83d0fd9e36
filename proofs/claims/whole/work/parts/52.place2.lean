/-! place, placeVotes -/
/-- no two speakers in one place, none at a lamp -/
def zDs (V : Int → Fin 65537) : Prop := (∀ s x, 0 ≤ s → s < ((V (3)).val : Int) → 0 ≤ x → x < ((V (3)).val : Int) → s ≠ x → ¬ (sp_C V s = sp_C V x ∧ sp_R V s = sp_R V x)) ∧ (∀ s, 0 ≤ s → s < ((V (3)).val : Int) → sp_lamp V (sp_C V s) (sp_R V s) = false)
theorem fa_any_t {f : Int → Bool} : ∀ (k : Nat) (i : Int), fa_any f k i = true ↔ ∃ j, i ≤ j ∧ j < i + k ∧ f j = true := by
  intro k
  induction k with
  | zero =>
    intro i
    unfold fa_any
    constructor
    · intro h; cases h
    · rintro ⟨j, h1, h2, -⟩; omega
  | succ k ih =>
    intro i
    unfold fa_any
    rw [Bool.or_eq_true, ih]
    constructor
    · rintro (h | ⟨j, h1, h2, h3⟩)
      · exact ⟨i, by omega, by omega, h⟩
      · exact ⟨j, by omega, by omega, h3⟩
    · rintro ⟨j, h1, h2, h3⟩
      by_cases e : j = i
      · left; rw [← e]; exact h3
      · right; exact ⟨j, by omega, by omega, h3⟩
def sp_taken (V : Int → Fin 65537) (c r but : Int) : Bool := sp_lamp V c r || fa_any (fun s => decide (s ≠ but) && (decide (sp_C V s = c) && decide (sp_R V s = r))) (((V (3)).val : Int)).toNat 0
section P2
variable {X : Nat × (Nat → Int)} {d : Nat} {t : List (Nat × Nat)} {p q : Nat} {E : Nat → Int → Int} {V : Int → Fin 65537} {o : Nat}
theorem sp_taken_may (hV : zV V) (hD : zDs V) {s c r : Int} (h1 : 0 ≤ s) (h2 : s < ((V (3)).val : Int)) : sp_taken V c r s = !sp_may V s c r := by
  have hk := hV.spks
  by_cases g : sp_C V s = c ∧ sp_R V s = r
  · obtain ⟨rfl, rfl⟩ := g
    have e1 := hD.2 s h1 h2
    have e2 : fa_any (fun x => decide (x ≠ s) && (decide (sp_C V x = sp_C V s) && decide (sp_R V x = sp_R V s))) (((V (3)).val : Int)).toNat 0 = false := by
      rw [← Bool.not_eq_true, fa_any_t]
      rintro ⟨j, a, b, h⟩
      simp only [Bool.and_eq_true, decide_eq_true_eq] at h
      exact hD.1 j s a (by omega) h1 h2 h.1 h.2
    unfold sp_taken sp_may
    rw [e1, e2]
    simp
  · have e0 : (decide (sp_C V s = c) && decide (sp_R V s = r)) = false := by
      rw [← Bool.not_eq_true]
      simp only [Bool.and_eq_true, decide_eq_true_eq]
      exact g
    have e2 : fa_any (fun x => decide (x ≠ s) && (decide (sp_C V x = c) && decide (sp_R V x = r))) (((V (3)).val : Int)).toNat 0 = sp_spk V c r := by
      unfold sp_spk
      rw [Bool.eq_iff_iff, fa_any_t, fa_any_t]
      constructor
      · rintro ⟨j, a, b, h⟩
        simp only [Bool.and_eq_true, decide_eq_true_eq] at h
        exact ⟨j, a, b, decide_eq_true h.2⟩
      · rintro ⟨j, a, b, h⟩
        have h := of_decide_eq_true h
        refine ⟨j, a, b, ?_⟩
        simp only [Bool.and_eq_true, decide_eq_true_eq]
        refine ⟨fun e => g ?_, h⟩
        rw [← e]
        exact h
    unfold sp_taken sp_may
    rw [e0, e2]
    cases sp_lamp V c r <;> cases sp_spk V c r <;> rfl
/-- Places in the search: best and most so far -/
def zPl (V : Int → Fin 65537) (E : Nat → Int → Int) (s n : Int) (a : Int × Int) : Prop := zGa V E ((V (4)).val : Int) n ∧ E 15 6 = ((V (3)).val : Int) ∧ (∀ x, 0 ≤ x → x < 4 → x ≠ s → E 16 (25 + x) = sp_C V x ∧ E 16 (29 + x) = sp_R V x) ∧ E 15 9 = a.2 ∧ (a.2 = -1 ∨ 10 * E 15 7 + E 15 8 = a.1)
theorem T72 (hV : zV V) {s c r n : Int} {a : Int × Int} (hP : zPl V E s n a) (hs : 0 ≤ s ∧ s < ((V (3)).val : Int)) (hc : 0 ≤ c ∧ c < ((V (0)).val : Int)) (hr : 1 ≤ r ∧ r ≤ ((V (1)).val : Int)) (ha : -1 ≤ a.2 ∧ a.2 ≤ 6) : ∃ F, zf_ev X (d + 2) 72 (0, [vR 15, vI s, vI c, vI r, vJ], [], zH t p q E) = some (some [], zH t p q F) ∧ zPl V F s n (if a.2 < sp_pv V s c r then (10 * c + r, sp_pv V s c r) else a) ∧ (∀ a9 b9, (a9 ≠ 15 ∨ b9 ≠ 7) → (a9 ≠ 15 ∨ b9 ≠ 8) → (a9 ≠ 15 ∨ b9 ≠ 9) → a9 ≠ 16 → F a9 b9 = E a9 b9) := by
  have hk := hV.spks
  have hcl := hV.cols
  have hrw := hV.rows
  have hv := sp_pv_r hV (s := s) (c := c) (r := r)
  obtain ⟨p1, p2, p3, p4, p5⟩ := hP
  have hx : ∀ x, 0 ≤ x → x < ((V (3)).val : Int) → 0 ≤ sp_C V x ∧ sp_C V x ≤ 1000 ∧ 0 ≤ sp_R V x ∧ sp_R V x ≤ 1000 := fun x u v => by
    have := hV.spk x u v
    unfold sp_C sp_R
    omega
  have e67 := T67 (X := X) (d := d) (t := t) (p := p) (q := q) (E := zu (zu E 16 (25 + s) c) 16 (29 + s) r) (C := sp_mv (sp_C V) s c) (R := sp_mv (sp_R V) s r) hV (n := n) (s := s) (p1.fr (by rw [zu_ne (by omega), zu_ne (by omega)]) (fun b => by rw [zu_ne (by omega), zu_ne (by omega)]) (fun b => by rw [zu_ne (by omega), zu_ne (by omega)])) (by rw [zu_ne (by omega), zu_ne (by omega)]; exact p2) (by omega)
    (fun x u v => by
      have := hx x u v
      by_cases g : x = s
      · rw [g, zu_ne (by omega), zu_same, sp_mv_s]
        omega
      · rw [zu_ne (by omega), zu_ne (by omega), sp_mv_n g, (p3 x u (by omega) g).1]
        omega)
    (fun x u v => by
      have := hx x u v
      by_cases g : x = s
      · rw [g, zu_same, sp_mv_s]
        omega
      · rw [zu_ne (by omega), zu_ne (by omega), sp_mv_n g, (p3 x u (by omega) g).2]
        omega)
  have e9 : zu (zu E 16 (25 + s) c) 16 (29 + s) r 15 9 = a.2 := by rw [zu_ne (by omega), zu_ne (by omega)]; exact p4
  have e67 : zf_ev X (d + 1) 67 (0, [vR 15, vI s, vJ, vJ], [], zH t p q (zu (zu E 16 (25 + s) c) 16 (29 + s) r)) = some (some [vI (sp_pv V s c r)], zH t p q (zu (zu E 16 (25 + s) c) 16 (29 + s) r)) := e67
  by_cases g : a.2 < sp_pv V s c r
  · refine ⟨zu (zu (zu (zu (zu E 16 (25 + s) c) 16 (29 + s) r) 15 9 (sp_pv V s c r)) 15 7 c) 15 8 r, ?_, ?_, fun x y g1 g2 g3 g4 => by rw [zu_ne g2, zu_ne g1, zu_ne g3, zu_ne (Or.inl g4), zu_ne (Or.inl g4)]⟩
    · rw [L72_0]
      simp (disch := omega) only [n32_id, zg_pos, if_pos, if_neg, zu_same, zu_ne, if_true, if_false, ne_eq, not_true_eq_false, not_false_eq_true, true_or, or_true, true_and, and_true, zg_true, fa_b_f, fa_b_t, e67]
      rw [L72_k22]
      simp (disch := omega) only [n32_id, zg_pos, if_pos, if_neg, zu_same, zu_ne, if_true, if_false, ne_eq, not_true_eq_false, not_false_eq_true, true_or, or_true, true_and, and_true, zg_true, fa_b_f, fa_b_t, e9]
    · rw [if_pos g]
      refine ⟨p1.fr ?_ (fun b => ?_) (fun b => ?_), ?_, fun x u v w => ⟨?_, ?_⟩, ?_, Or.inr ?_⟩
      · rw [zu_ne (by omega), zu_ne (by omega), zu_ne (by omega), zu_ne (by omega), zu_ne (by omega)]
      · rw [zu_ne (by omega), zu_ne (by omega), zu_ne (by omega), zu_ne (by omega), zu_ne (by omega)]
      · rw [zu_ne (by omega), zu_ne (by omega), zu_ne (by omega), zu_ne (by omega), zu_ne (by omega)]
      · rw [zu_ne (by omega), zu_ne (by omega), zu_ne (by omega), zu_ne (by omega), zu_ne (by omega)]
        exact p2
      · rw [zu_ne (by omega), zu_ne (by omega), zu_ne (by omega), zu_ne (by omega), zu_ne (by omega)]
        exact (p3 x u v w).1
      · rw [zu_ne (by omega), zu_ne (by omega), zu_ne (by omega), zu_ne (by omega), zu_ne (by omega)]
        exact (p3 x u v w).2
      · rw [zu_ne (by omega), zu_ne (by omega), zu_same]
      · rw [zu_ne (by omega), zu_same, zu_same]
  · refine ⟨zu (zu E 16 (25 + s) c) 16 (29 + s) r, ?_, ?_, fun x y g1 g2 g3 g4 => by rw [zu_ne (Or.inl g4), zu_ne (Or.inl g4)]⟩
    · rw [L72_0]
      simp (disch := omega) only [n32_id, zg_pos, if_pos, if_neg, zu_same, zu_ne, if_true, if_false, ne_eq, not_true_eq_false, not_false_eq_true, true_or, or_true, true_and, and_true, zg_true, fa_b_f, fa_b_t, e67]
      rw [L72_k22]
      simp (disch := omega) only [n32_id, zg_pos, if_pos, if_neg, zu_same, zu_ne, if_true, if_false, ne_eq, not_true_eq_false, not_false_eq_true, true_or, or_true, true_and, and_true, zg_true, fa_b_f, fa_b_t, e9]
    · rw [if_neg g]
      refine ⟨p1.fr ?_ (fun b => ?_) (fun b => ?_), ?_, fun x u v w => ⟨?_, ?_⟩, ?_, ?_⟩
      · rw [zu_ne (by omega), zu_ne (by omega)]
      · rw [zu_ne (by omega), zu_ne (by omega)]
      · rw [zu_ne (by omega), zu_ne (by omega)]
      · rw [zu_ne (by omega), zu_ne (by omega)]
        exact p2
      · rw [zu_ne (by omega), zu_ne (by omega)]
        exact (p3 x u v w).1
      · rw [zu_ne (by omega), zu_ne (by omega)]
        exact (p3 x u v w).2
      · exact e9
      · have q7 : zu (zu E 16 (25 + s) c) 16 (29 + s) r 15 7 = E 15 7 := by rw [zu_ne (by omega), zu_ne (by omega)]
        have q8 : zu (zu E 16 (25 + s) c) 16 (29 + s) r 15 8 = E 15 8 := by rw [zu_ne (by omega), zu_ne (by omega)]
        rw [q7, q8]
        exact p5
theorem T70_in (ho : zo o) (hV : zV V) {s r n : Int} (hs : 0 ≤ s ∧ s < ((V (3)).val : Int)) (hr : 1 ≤ r ∧ r ≤ ((V (1)).val : Int)) : ∀ (k : Nat) (i : Int) (a : Int × Int) (E : Nat → Int → Int), zC V E o → zPl V E s n a → 0 ≤ i → i + k = ((V (0)).val : Int) → -1 ≤ a.2 → a.2 ≤ 6 →
    ∃ F j4, zf_ev X (d + 4) 70 (23, [vR 15, vR o, vI s, vI r, vI i], [], zH t p q E) = zf_ev X (d + 4) 70 (12, [vR 15, vR o, vI s, vI (r + 1), j4], [], zH t p q F) ∧ zPl V F s n (sp_in (fun c => sp_pw V s c r) (fun c => 10 * c + r) k i a) ∧ (∀ a9 b9, (a9 ≠ 15 ∨ b9 ≠ 7) → (a9 ≠ 15 ∨ b9 ≠ 8) → (a9 ≠ 15 ∨ b9 ≠ 9) → a9 ≠ 16 → F a9 b9 = E a9 b9) := by
  have hcl := hV.cols
  have ho2 : o = 40 ∨ o = 50 := ho
  intro k
  induction k with
  | zero =>
    intro i a E hC hP h1 h2 h3 h4
    refine ⟨E, vI i, ?_, hP, fun a b _ _ _ _ => rfl⟩
    rw [L70_23 ho]
    simp (disch := omega) only [n32_id, zg_pos, if_pos, if_neg, zu_same, zu_ne, if_true, if_false, ne_eq, not_true_eq_false, not_false_eq_true, true_or, or_true, true_and, and_true, zg_true, fa_b_f, fa_b_t, hC.cols]
  | succ k ih =>
    intro i a E hC hP h1 h2 h3 h4
    have hw := sp_pw_r hV (s := s) (c := i) (r := r)
    have hv := sp_pv_r hV (s := s) (c := i) (r := r)
    unfold sp_in
    cases hm : sp_may V s i r
    · have ew : sp_pw V s i r = -1 := by unfold sp_pw; rw [hm]; rfl
      obtain ⟨F, j4, f1, f2, f3⟩ := ih (i + 1) a E hC hP (by omega) (by omega) h3 h4
      refine ⟨F, j4, ?_, ?_, f3⟩
      · rw [L70_23 ho]
        simp (disch := omega) only [n32_id, zg_pos, if_pos, if_neg, zu_same, zu_ne, if_true, if_false, ne_eq, not_true_eq_false, not_false_eq_true, true_or, or_true, true_and, and_true, zg_true, fa_b_f, fa_b_t, hC.cols]
        rw [T71 ho hC hV hs (by omega) hr, L70_k37 ho, fa_b_id, hm]
        simp (disch := omega) only [n32_id, zg_pos, if_pos, if_neg, zu_same, zu_ne, if_true, if_false, ne_eq, not_true_eq_false, not_false_eq_true, true_or, or_true, true_and, and_true, zg_true, fa_b_f, fa_b_t, f1]
      · simp only [ew]
        rw [if_neg (by omega)]
        exact f2
    · have ew : sp_pw V s i r = sp_pv V s i r := by unfold sp_pw; rw [hm]; rfl
      obtain ⟨G, g1, g2, g3⟩ := T72 (X := X) (d := d + 1) (t := t) (p := p) (q := q) hV hP hs (c := i) (by omega) hr ⟨h3, h4⟩
      have hC2 : zC V G o := hC.fr (fun a b _ _ => g3 a b (by omega) (by omega) (by omega) (by omega))
      have ha1 : -1 ≤ (if a.2 < sp_pv V s i r then (10 * i + r, sp_pv V s i r) else a).2 := by
        split
        · show -1 ≤ sp_pv V s i r
          omega
        · exact h3
      have ha2 : (if a.2 < sp_pv V s i r then (10 * i + r, sp_pv V s i r) else a).2 ≤ 6 := by
        split
        · exact hv.2
        · exact h4
      obtain ⟨F, j4, f1, f2, f3⟩ := ih (i + 1) (if a.2 < sp_pv V s i r then (10 * i + r, sp_pv V s i r) else a) G hC2 g2 (by omega) (by omega) ha1 ha2
      refine ⟨F, j4, ?_, ?_, fun a b y1 y2 y3 y4 => by rw [f3 a b y1 y2 y3 y4, g3 a b y1 y2 y3 y4]⟩
      · rw [L70_23 ho]
        simp (disch := omega) only [n32_id, zg_pos, if_pos, if_neg, zu_same, zu_ne, if_true, if_false, ne_eq, not_true_eq_false, not_false_eq_true, true_or, or_true, true_and, and_true, zg_true, fa_b_f, fa_b_t, hC.cols]
        rw [T71 ho hC hV hs (by omega) hr, L70_k37 ho, fa_b_id, hm, fa_b_t, if_neg (by decide), g1, L70_k48 ho, f1]
      · simp only [ew]
        exact f2
theorem T70_out (ho : zo o) (hV : zV V) {s n : Int} (hs : 0 ≤ s ∧ s < ((V (3)).val : Int)) : ∀ (k : Nat) (i : Int) (a : Int × Int) (E : Nat → Int → Int) (j4 : ZV), zC V E o → zPl V E s n a → 1 ≤ i → i + k = ((V (1)).val : Int) + 1 → -1 ≤ a.2 → a.2 ≤ 6 →
    ∃ F, zf_ev X (d + 4) 70 (12, [vR 15, vR o, vI s, vI i, j4], [], zH t p q E) = some (some [], zH t p q F) ∧ zPl V F s n (sp_out (fun r c => sp_pw V s c r) (fun r c => 10 * c + r) (((V (0)).val : Int)).toNat 0 k i a) ∧ (∀ a9 b9, (a9 ≠ 15 ∨ b9 ≠ 7) → (a9 ≠ 15 ∨ b9 ≠ 8) → (a9 ≠ 15 ∨ b9 ≠ 9) → a9 ≠ 16 → F a9 b9 = E a9 b9) := by
  have hrw := hV.rows
  have hcl := hV.cols
  have ho2 : o = 40 ∨ o = 50 := ho
  intro k
  induction k with
  | zero =>
    intro i a E j4 hC hP h1 h2 h3 h4
    refine ⟨E, ?_, hP, fun a b _ _ _ _ => rfl⟩
    rw [L70_12 ho]
    simp (disch := omega) only [n32_id, zg_pos, if_pos, if_neg, zu_same, zu_ne, if_true, if_false, ne_eq, not_true_eq_false, not_false_eq_true, true_or, or_true, true_and, and_true, zg_true, fa_b_f, fa_b_t, hC.rows]
  | succ k ih =>
    intro i a E j4 hC hP h1 h2 h3 h4
    obtain ⟨F, a4, f1, f2, f3⟩ := T70_in (X := X) (d := d) (t := t) (p := p) (q := q) ho hV hs (r := i) (n := n) (by omega) (((V (0)).val : Int)).toNat 0 a E hC hP (by omega) (by omega) h3 h4
    have b := sp_in_r (w := fun c => sp_pw V s c i) (l := fun c => 10 * c + i) (lo := -1) (hi := 6) (((V (0)).val : Int)).toNat 0 a (fun j _ _ => sp_pw_r hV) h3 h4
    obtain ⟨G, g1, g2, g3⟩ := ih (i + 1) _ F a4 (hC.fr (fun a b _ _ => f3 a b (by omega) (by omega) (by omega) (by omega))) f2 (by omega) (by omega) b.1 b.2
    refine ⟨G, ?_, g2, fun a b y1 y2 y3 y4 => by rw [g3 a b y1 y2 y3 y4, f3 a b y1 y2 y3 y4]⟩
    rw [L70_12 ho]
    simp (disch := omega) only [n32_id, zg_pos, if_pos, if_neg, zu_same, zu_ne, if_true, if_false, ne_eq, not_true_eq_false, not_false_eq_true, true_or, or_true, true_and, and_true, zg_true, fa_b_f, fa_b_t, hC.rows, f1]
    exact g1
theorem T70 (ho : zo o) (hC : zC V E o) (hV : zV V) {s : Int} (hs : 0 ≤ s ∧ s < ((V (3)).val : Int)) : ∃ F, zf_ev X (d + 4) 70 (0, [vR 15, vR o, vI s, vJ, vJ], [], zH t p q E) = some (some [], zH t p q F) ∧ F 15 9 = (sp_place V s).2 ∧ 10 * F 15 7 + F 15 8 = (sp_place V s).1 ∧ (∀ a9 b9, a9 ≠ 15 → a9 ≠ 16 → a9 ≠ 17 → a9 ≠ 18 → F a9 b9 = E a9 b9) := by
  have ho2 : o = 40 ∨ o = 50 := ho
  have hrw := hV.rows
  obtain ⟨G, n, g1, g2, g3, g4, g5⟩ := T65 (X := X) (d := d) (t := t) (p := p) (q := q) ho hC hV
  have hC2 : zC V (zu G 15 9 (-1)) o := hC.fr (fun a b _ _ => by rw [zu_ne (by omega), g5 a b (by omega) (by omega) (by omega) (by omega) (by omega)])
  obtain ⟨F, f1, f2, f3⟩ := T70_out (X := X) (d := d) (t := t) (p := p) (q := q) ho hV hs (n := n) (((V (1)).val : Int)).toNat 1 (-2, -1) (zu G 15 9 (-1)) vJ hC2 ⟨g2.fr (zu_ne (by omega)) (fun b => zu_ne (by omega)) (fun b => zu_ne (by omega)), (zu_ne (by omega)).trans g3, fun x u v w => ⟨(zu_ne (by omega)).trans (g4 x u v).1, (zu_ne (by omega)).trans (g4 x u v).2⟩, zu_same, Or.inl rfl⟩ (by omega) (by omega) (by decide) (by decide)
  have hpos := sp_place_pos hV hs.1 hs.2
  refine ⟨F, ?_, f2.2.2.2.1, ?_, fun a b y1 y2 y3 y4 => by rw [f3 a b (by omega) (by omega) (by omega) (by omega), zu_ne (by omega), g5 a b (by omega) (by omega) (by omega) (by omega) (by omega)]⟩
  · rw [L70_0 ho, g1, L70_k2 ho]
    exact f1
  · rcases f2.2.2.2.2 with g | g
    · unfold sp_place at hpos
      omega
    · exact g
theorem Q137 (hG : zG V E p) {s : Int} (h3 : 0 ≤ s) (h4 : s < ((V (3)).val : Int)) : ∃ F, zf_ev X (d + 5) 137 (0, [vR 0, vI s], [], zH t p q E) = some (some [vI ((sp_place V s).1)], zH t p q F) ∧ F 0 10 = 0 ∧ zFC E F := by
  obtain ⟨hV, -, -⟩ := hG.yes (by omega)
  obtain ⟨hp, hC, hR, -⟩ := hG
  have hC2 : zC V (zu E 0 10 0) p := hC.fco hp zFC.u
  obtain ⟨F, f1, f2, f3, f4⟩ := T70 (X := X) (d := d) (t := t) (p := p) (q := q) hp hC2 hV ⟨h3, h4⟩
  refine ⟨F, ?_, by rw [f4 _ _ (by omega) (by omega) (by omega) (by omega)]; exact zu_same, fun a b g1 g2 g3 g4 => by rw [f4 a b (by omega) (by omega) (by omega) (by omega), zu_ne g4]⟩
  simp (disch := omega) only [n32_id, zg_pos, if_pos, if_neg, zu_same, zu_ne, if_true, if_false, ne_eq, not_true_eq_false, not_false_eq_true, true_or, or_true, true_and, and_true, zg_true, fa_b_f, fa_b_t, L137_0 hp, L137_k6, L137_k9 hp, L137_k26, T22t hp hC, T168t, f1, f3]
theorem Q137n (hG : zG V E p) {s : Int} (h1 : -2147483648 ≤ s ∧ s < 2147483648) (h : s < 0 ∨ ((V (3)).val : Int) ≤ s) : ∃ F, zf_ev X (d + 5) 137 (0, [vR 0, vI s], [], zH t p q E) = some (some [vI (-1)], zH t p q F) ∧ F 0 10 = 1 ∧ zFC E F := by
  obtain ⟨hp, hC, hR, -⟩ := hG
  refine ⟨zu E 0 10 1, ?_, zu_same, zFC.u⟩
  simp (disch := omega) only [n32_id, zg_pos, if_pos, if_neg, zu_same, zu_ne, if_true, if_false, ne_eq, not_true_eq_false, not_false_eq_true, true_or, or_true, true_and, and_true, zg_true, fa_b_f, fa_b_t, L137_0 hp, L137_k6, L137_k9 hp, L137_k26, T22f hp hC, T168f]
theorem Q138 (hG : zG V E p) {s : Int} (h3 : 0 ≤ s) (h4 : s < ((V (3)).val : Int)) : ∃ F, zf_ev X (d + 5) 138 (0, [vR 0, vI s], [], zH t p q E) = some (some [vI ((sp_place V s).2)], zH t p q F) ∧ F 0 10 = 0 ∧ zFC E F := by
  obtain ⟨hV, -, -⟩ := hG.yes (by omega)
  obtain ⟨hp, hC, hR, -⟩ := hG
  have hC2 : zC V (zu E 0 10 0) p := hC.fco hp zFC.u
  obtain ⟨F, f1, f2, f3, f4⟩ := T70 (X := X) (d := d) (t := t) (p := p) (q := q) hp hC2 hV ⟨h3, h4⟩
  refine ⟨F, ?_, by rw [f4 _ _ (by omega) (by omega) (by omega) (by omega)]; exact zu_same, fun a b g1 g2 g3 g4 => by rw [f4 a b (by omega) (by omega) (by omega) (by omega), zu_ne g4]⟩
  simp (disch := omega) only [n32_id, zg_pos, if_pos, if_neg, zu_same, zu_ne, if_true, if_false, ne_eq, not_true_eq_false, not_false_eq_true, true_or, or_true, true_and, and_true, zg_true, fa_b_f, fa_b_t, L138_0 hp, L138_k6, L138_k9 hp, L138_k26, T22t hp hC, T168t, f1, f2]
theorem Q138n (hG : zG V E p) {s : Int} (h1 : -2147483648 ≤ s ∧ s < 2147483648) (h : s < 0 ∨ ((V (3)).val : Int) ≤ s) : ∃ F, zf_ev X (d + 5) 138 (0, [vR 0, vI s], [], zH t p q E) = some (some [vI (-1)], zH t p q F) ∧ F 0 10 = 1 ∧ zFC E F := by
  obtain ⟨hp, hC, hR, -⟩ := hG
  refine ⟨zu E 0 10 1, ?_, zu_same, zFC.u⟩
  simp (disch := omega) only [n32_id, zg_pos, if_pos, if_neg, zu_same, zu_ne, if_true, if_false, ne_eq, not_true_eq_false, not_false_eq_true, true_or, or_true, true_and, and_true, zg_true, fa_b_f, fa_b_t, L138_0 hp, L138_k6, L138_k9 hp, L138_k26, T22f hp hC, T168f]
end P2

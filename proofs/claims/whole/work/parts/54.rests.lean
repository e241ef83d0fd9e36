/-! rests of two -/
def fa_all (f : Int → Bool) : Nat → Int → Bool
  | 0, _ => true
  | k + 1, i => f i && fa_all f k (i + 1)
def sp_isr (V : Int → Fin 65537) (s x k i : Int) : Bool := fa_all (fun c => decide (sp_gm V s c x i s ≤ sp_gm V s k x i s) && decide (sp_gm V s k x c x ≤ sp_gm V s k x i x)) (((V (0)).val : Int)).toNat 0
def sp_ri (b : Int → Bool) (l : Int → Int) : Nat → Int → Int × Int → Int × Int
  | 0, _, a => a
  | k + 1, i, a => sp_ri b l k (i + 1) (if b i = true then (if a.2 = 0 then l i else a.1, a.2 + 1) else a)
def sp_ro (b : Int → Int → Bool) (l : Int → Int → Int) (n : Nat) : Nat → Int → Int × Int → Int × Int
  | 0, _, a => a
  | k + 1, i, a => sp_ro b l n k (i + 1) (sp_ri (b i) (l i) n 0 a)
theorem sp_ri_r {b : Int → Bool} {l : Int → Int} : ∀ (k : Nat) (i : Int) (a : Int × Int), 0 ≤ a.2 → 0 ≤ (sp_ri b l k i a).2 ∧ (sp_ri b l k i a).2 ≤ a.2 + k := by
  intro k
  induction k with
  | zero => intro i a h; exact ⟨h, by show a.2 ≤ a.2 + ((0 : Nat) : Int); omega⟩
  | succ k ih =>
    intro i a h
    unfold sp_ri
    by_cases g : b i = true
    · rw [if_pos g]
      have := ih (i + 1) (if a.2 = 0 then l i else a.1, a.2 + 1) (show 0 ≤ a.2 + 1 by omega)
      have e : ((if a.2 = 0 then l i else a.1, a.2 + 1) : Int × Int).2 = a.2 + 1 := rfl
      omega
    · rw [if_neg g]
      have := ih (i + 1) a h
      omega
def sp_rests (V : Int → Fin 65537) (s x : Int) : Int × Int := sp_ro (fun k i => sp_isr V s x k i) (fun k i => 100 * k + i) (((V (0)).val : Int)).toNat (((V (0)).val : Int)).toNat 0 (-2, 0)
/-- what has been played, in rows A and B -/
def zRs (V : Int → Fin 65537) (E : Nat → Int → Int) (A B : Nat) (s x k i : Int) : Prop := ∀ k' i', 0 ≤ k' → k' < ((V (0)).val : Int) → 0 ≤ i' → i' < ((V (0)).val : Int) → (k' < k ∨ k' = k ∧ i' < i) → E A (k' * 12 + i') = sp_gm V s k' x i' s ∧ E B (k' * 12 + i') = sp_gm V s k' x i' x
theorem zRs.fr {V : Int → Fin 65537} {E F : Nat → Int → Int} {A B : Nat} {s x k i : Int} (h : zRs V E A B s x k i) (h1 : ∀ b, F A b = E A b) (h2 : ∀ b, F B b = E B b) : zRs V F A B s x k i := fun k' i' g1 g2 g3 g4 g5 => by
  rw [h1, h2]
  exact h k' i' g1 g2 g3 g4 g5
theorem zRs.add {V : Int → Fin 65537} {E F : Nat → Int → Int} {A B : Nat} {s x k i : Int} (h : zRs V E A B s x k i) (hV : zV V) (hk : 0 ≤ k ∧ k < ((V (0)).val : Int)) (hi : 0 ≤ i ∧ i < ((V (0)).val : Int)) (h1 : ∀ b, b ≠ k * 12 + i → F A b = E A b) (h2 : ∀ b, b ≠ k * 12 + i → F B b = E B b) (h3 : F A (k * 12 + i) = sp_gm V s k x i s) (h4 : F B (k * 12 + i) = sp_gm V s k x i x) : zRs V F A B s x k (i + 1) := fun k' i' g1 g2 g3 g4 g5 => by
  have hc := hV.cols
  by_cases e : k' = k ∧ i' = i
  · obtain ⟨rfl, rfl⟩ := e
    exact ⟨h3, h4⟩
  · rw [h1 _ (by omega), h2 _ (by omega)]
    exact h k' i' g1 g2 g3 g4 (by omega)
theorem zRs.row {V : Int → Fin 65537} {E : Nat → Int → Int} {A B : Nat} {s x k : Int} (h : zRs V E A B s x k ((V (0)).val : Int)) : zRs V E A B s x (k + 1) 0 := fun k' i' g1 g2 g3 g4 g5 => h k' i' g1 g2 g3 g4 (by omega)
section RS
variable {X : Nat × (Nat → Int)} {d : Nat} {t : List (Nat × Nat)} {p q : Nat} {E : Nat → Int → Int} {V : Int → Fin 65537} {o : Nat}
theorem zGm.fr {F : Nat → Int → Int} {s x n : Int} (h : zGm V E s x n) (h1 : ∀ a b, 15 ≤ a → a ≤ 18 → F a b = E a b) : zGm V F s x n := by
  obtain ⟨g1, g2, g3, g4⟩ := h
  exact ⟨g1.fr (h1 _ _ (by omega) (by omega)) (fun b => h1 _ _ (by omega) (by omega)) (fun b => h1 _ _ (by omega) (by omega)), (h1 _ _ (by omega) (by omega)).trans g2, fun z u v => (h1 _ _ (by omega) (by omega)).trans (g3 z u v), fun z u v w1 w2 => (h1 _ _ (by omega) (by omega)).trans (g4 z u v w1 w2)⟩
theorem T74_in (hV : zV V) {s x n k0 : Int} (hs : 0 ≤ s ∧ s < ((V (3)).val : Int)) (hx : 0 ≤ x ∧ x < ((V (3)).val : Int)) (hsx : s ≠ x) (hk0 : 0 ≤ k0 ∧ k0 < ((V (0)).val : Int)) : ∀ (k : Nat) (i : Int) (E : Nat → Int → Int), zGm V E s x n → E 16 (25 + s) = k0 → zRs V E 19 20 s x k0 i → 0 ≤ i → i + k = ((V (0)).val : Int) →
    ∃ F j5, zf_ev X (d + 2) 74 (23, [vR 15, vI ((V (0)).val : Int), vI s, vI x, vI k0, vI i], [], zH t p q E) = zf_ev X (d + 2) 74 (3, [vR 15, vI ((V (0)).val : Int), vI s, vI x, vI (k0 + 1), j5], [], zH t p q F) ∧ zGm V F s x n ∧ zRs V F 19 20 s x (k0 + 1) 0 ∧ (∀ a9 b9, a9 ≠ 16 → a9 ≠ 19 → a9 ≠ 20 → F a9 b9 = E a9 b9) := by
  have hc := hV.cols
  have hkk := hV.spks
  intro k
  induction k with
  | zero =>
    intro i E hg h16 hz h1 h2
    have e : i = ((V (0)).val : Int) := by omega
    refine ⟨E, vI i, ?_, hg, (e ▸ hz).row, fun a b _ _ _ => rfl⟩
    rw [L74_23]
    simp (disch := omega) only [n32_id, zg_pos, if_pos, if_neg, zu_same, zu_ne, if_true, if_false, ne_eq, not_true_eq_false, not_false_eq_true, true_or, or_true, true_and, and_true, zg_true, fa_b_f, fa_b_t]
  | succ k ih =>
    intro i E hg h16 hz h1 h2
    have g1 : zGm V (zu E 16 (25 + x) i) s x n := hg.u (Or.inr rfl) (by omega)
    have a1 : zu E 16 (25 + x) i 16 (25 + s) = k0 := by rw [zu_ne (by omega)]; exact h16
    have g2 : zGm V (zu (zu E 16 (25 + x) i) 19 (k0 * 12 + i) (sp_gm V s k0 x i s)) s x n := g1.fr (fun a b _ _ => zu_ne (by omega))
    have a2 : zu (zu E 16 (25 + x) i) 19 (k0 * 12 + i) (sp_gm V s k0 x i s) 16 (25 + s) = k0 := by rw [zu_ne (by omega)]; exact a1
    have b2 : zu (zu E 16 (25 + x) i) 19 (k0 * 12 + i) (sp_gm V s k0 x i s) 16 (25 + x) = i := by rw [zu_ne (by omega)]; exact zu_same
    have g3 : zGm V (zu (zu (zu E 16 (25 + x) i) 19 (k0 * 12 + i) (sp_gm V s k0 x i s)) 20 (k0 * 12 + i) (sp_gm V s k0 x i x)) s x n := g2.fr (fun a b _ _ => zu_ne (by omega))
    obtain ⟨F, j5, f1, f2, f3, f4⟩ := ih (i + 1) _ g3 (by rw [zu_ne (by omega)]; exact a2) (hz.add hV hk0 (by omega) (fun b w => by rw [zu_ne (by omega), zu_ne (by omega), zu_ne (by omega)]) (fun b w => by rw [zu_ne (by omega), zu_ne (by omega), zu_ne (by omega)]) (by rw [zu_ne (by omega), zu_same]) zu_same) (by omega) (by omega)
    refine ⟨F, j5, ?_, f2, f3, fun a b y1 y2 y3 => by rw [f4 a b y1 y2 y3, zu_ne (Or.inl y3), zu_ne (Or.inl y2), zu_ne (Or.inl y1)]⟩
    rw [L74_23]
    simp (disch := omega) only [n32_id, zg_pos, if_pos, if_neg, zu_same, zu_ne, if_true, if_false, ne_eq, not_true_eq_false, not_false_eq_true, true_or, or_true, true_and, and_true, zg_true, fa_b_f, fa_b_t]
    rw [T67g hV g1 hs hx hsx hk0 (by omega) a1 zu_same (by omega), L74_k54]
    simp (disch := omega) only [n32_id, zg_pos, if_pos, if_neg, zu_same, zu_ne, if_true, if_false, ne_eq, not_true_eq_false, not_false_eq_true, true_or, or_true, true_and, and_true, zg_true, fa_b_f, fa_b_t]
    rw [T67g hV g2 hs hx hsx hk0 (by omega) a2 b2 (by omega), L74_k72]
    simp (disch := omega) only [n32_id, zg_pos, if_pos, if_neg, zu_same, zu_ne, if_true, if_false, ne_eq, not_true_eq_false, not_false_eq_true, true_or, or_true, true_and, and_true, zg_true, fa_b_f, fa_b_t]
    exact f1
theorem T74_out (hV : zV V) {s x n : Int} (hs : 0 ≤ s ∧ s < ((V (3)).val : Int)) (hx : 0 ≤ x ∧ x < ((V (3)).val : Int)) (hsx : s ≠ x) : ∀ (k : Nat) (i : Int) (E : Nat → Int → Int) (j5 : ZV), zGm V E s x n → zRs V E 19 20 s x i 0 → 0 ≤ i → i + k = ((V (0)).val : Int) →
    ∃ F, zf_ev X (d + 2) 74 (3, [vR 15, vI ((V (0)).val : Int), vI s, vI x, vI i, j5], [], zH t p q E) = some (some [], zH t p q F) ∧ zRs V F 19 20 s x ((V (0)).val : Int) 0 ∧ (∀ a9 b9, a9 ≠ 16 → a9 ≠ 19 → a9 ≠ 20 → F a9 b9 = E a9 b9) := by
  have hc := hV.cols
  have hkk := hV.spks
  intro k
  induction k with
  | zero =>
    intro i E j5 hg hz h1 h2
    have e : i = ((V (0)).val : Int) := by omega
    refine ⟨E, ?_, e ▸ hz, fun a b _ _ _ => rfl⟩
    rw [L74_3]
    simp (disch := omega) only [n32_id, zg_pos, if_pos, if_neg, zu_same, zu_ne, if_true, if_false, ne_eq, not_true_eq_false, not_false_eq_true, true_or, or_true, true_and, and_true, zg_true, fa_b_f, fa_b_t]
  | succ k ih =>
    intro i E j5 hg hz h1 h2
    obtain ⟨G, a5, g1, g2, g3, g4⟩ := T74_in (X := X) (d := d) (t := t) (p := p) (q := q) hV hs hx hsx (n := n) (k0 := i) (by omega) (((V (0)).val : Int)).toNat 0 (zu E 16 (25 + s) i) (hg.u (Or.inl rfl) (by omega)) zu_same (hz.fr (fun b => zu_ne (by omega)) (fun b => zu_ne (by omega))) (by omega) (by omega)
    obtain ⟨F, f1, f2, f3⟩ := ih (i + 1) G a5 g2 g3 (by omega) (by omega)
    refine ⟨F, ?_, f2, fun a b y1 y2 y3 => by rw [f3 a b y1 y2 y3, g4 a b y1 y2 y3, zu_ne (Or.inl y1)]⟩
    rw [L74_3]
    simp (disch := omega) only [n32_id, zg_pos, if_pos, if_neg, zu_same, zu_ne, if_true, if_false, ne_eq, not_true_eq_false, not_false_eq_true, true_or, or_true, true_and, and_true, zg_true, fa_b_f, fa_b_t, g1]
    exact f1
theorem T75_loop (hV : zV V) {s x k0 i0 : Int} (hz : zRs V E 19 20 s x ((V (0)).val : Int) 0) (hk : 0 ≤ k0 ∧ k0 < ((V (0)).val : Int)) (hi : 0 ≤ i0 ∧ i0 < ((V (0)).val : Int)) : ∀ (k : Nat) (i : Int), 0 ≤ i → i + k = ((V (0)).val : Int) → zf_ev X d 75 (29, [vR 15, vI ((V (0)).val : Int), vI k0, vI i0, vI (sp_gm V s k0 x i0 s), vI (sp_gm V s k0 x i0 x), vI i], [], zH t p q E) = some (some [vI (fa_b (fa_all (fun c => decide (sp_gm V s c x i0 s ≤ sp_gm V s k0 x i0 s) && decide (sp_gm V s k0 x c x ≤ sp_gm V s k0 x i0 x)) k i))], zH t p q E) := by
  have hc := hV.cols
  intro k
  induction k with
  | zero =>
    intro i h1 h2
    rw [L75_29]
    simp (disch := omega) only [n32_id, zg_pos, if_pos, if_neg, zu_same, zu_ne, if_true, if_false, ne_eq, not_true_eq_false, not_false_eq_true, true_or, or_true, true_and, and_true, zg_true, fa_b_f, fa_b_t]
    rfl
  | succ k ih =>
    intro i h1 h2
    have i2 := ih (i + 1) (by omega) (by omega)
    have e1 := (hz i i0 h1 (by omega) hi.1 hi.2 (by omega)).1
    have e2 := (hz k0 i hk.1 hk.2 h1 (by omega) (by omega)).2
    have r1 := sp_gm_r hV (s := s) (c := i) (x := x) (e := i0) (y := s)
    have r2 := sp_gm_r hV (s := s) (c := k0) (x := x) (e := i) (y := x)
    have r3 := sp_gm_r hV (s := s) (c := k0) (x := x) (e := i0) (y := s)
    have r4 := sp_gm_r hV (s := s) (c := k0) (x := x) (e := i0) (y := x)
    rw [L75_29]
    unfold fa_all
    by_cases w1 : sp_gm V s i x i0 s ≤ sp_gm V s k0 x i0 s
    · by_cases w2 : sp_gm V s k0 x i x ≤ sp_gm V s k0 x i0 x
      · simp (disch := omega) only [n32_id, zg_pos, if_pos, if_neg, zu_same, zu_ne, if_true, if_false, ne_eq, not_true_eq_false, not_false_eq_true, true_or, or_true, true_and, and_true, zg_true, fa_b_f, fa_b_t, e1, e2]
        rw [i2]
        simp [w1, w2]
      · simp (disch := omega) only [n32_id, zg_pos, if_pos, if_neg, zu_same, zu_ne, if_true, if_false, ne_eq, not_true_eq_false, not_false_eq_true, true_or, or_true, true_and, and_true, zg_true, fa_b_f, fa_b_t, e1, e2]
        simp [w2, fa_b]
    · simp (disch := omega) only [n32_id, zg_pos, if_pos, if_neg, zu_same, zu_ne, if_true, if_false, ne_eq, not_true_eq_false, not_false_eq_true, true_or, or_true, true_and, and_true, zg_true, fa_b_f, fa_b_t, e1]
      simp [w1, fa_b]
theorem T75 (hV : zV V) {s x k0 i0 : Int} (hz : zRs V E 19 20 s x ((V (0)).val : Int) 0) (hk : 0 ≤ k0 ∧ k0 < ((V (0)).val : Int)) (hi : 0 ≤ i0 ∧ i0 < ((V (0)).val : Int)) : zf_ev X d 75 (0, [vR 15, vI (((V (0)).val : Int)), vI k0, vI i0, vJ, vJ, vJ], [], zH t p q E) = some (some [vI (fa_b (sp_isr V s x k0 i0))], zH t p q E) := by
  have hc := hV.cols
  have e1 := hz k0 i0 hk.1 hk.2 hi.1 hi.2 (by omega)
  rw [L75_0]
  simp (disch := omega) only [n32_id, zg_pos, if_pos, if_neg, zu_same, zu_ne, if_true, if_false, ne_eq, not_true_eq_false, not_false_eq_true, true_or, or_true, true_and, and_true, zg_true, fa_b_f, fa_b_t, e1.1, e1.2]
  rw [T75_loop hV hz hk hi (((V (0)).val : Int)).toNat 0 (by omega) (by omega)]
  rfl
theorem T73_in (ho : zo o) (hV : zV V) {s x k0 : Int} {j2 j3 : ZV} (hj : zm_isL j3 = false) (hk0 : 0 ≤ k0 ∧ k0 < ((V (0)).val : Int)) : ∀ (k : Nat) (i : Int) (a : Int × Int) (E : Nat → Int → Int), zC V E o → zRs V E 19 20 s x ((V (0)).val : Int) 0 → E 15 10 = a.2 → E 15 11 = a.1 → 0 ≤ i → i + k = ((V (0)).val : Int) → 0 ≤ a.2 → a.2 ≤ 144 - k →
    ∃ F j5, zf_ev X (d + 4) 73 (41, [vR 15, vR o, j2, j3, vI k0, vI i], [], zH t p q E) = zf_ev X (d + 4) 73 (29, [vR 15, vR o, j2, j3, vI (k0 + 1), j5], [], zH t p q F) ∧ F 15 10 = (sp_ri (fun i => sp_isr V s x k0 i) (fun i => 100 * k0 + i) k i a).2 ∧ F 15 11 = (sp_ri (fun i => sp_isr V s x k0 i) (fun i => 100 * k0 + i) k i a).1 ∧ (∀ a9 b9, (a9 ≠ 15 ∨ b9 ≠ 10) → (a9 ≠ 15 ∨ b9 ≠ 11) → F a9 b9 = E a9 b9) := by
  have hc := hV.cols
  have ho2 : o = 40 ∨ o = 50 := ho
  intro k
  induction k with
  | zero =>
    intro i a E hC hz h10 h11 h1 h2 h3 h4
    refine ⟨E, vI i, ?_, h10, h11, fun a b _ _ => rfl⟩
    rw [L73_41 ho hj]
    simp (disch := omega) only [n32_id, zg_pos, if_pos, if_neg, zu_same, zu_ne, if_true, if_false, ne_eq, not_true_eq_false, not_false_eq_true, true_or, or_true, true_and, and_true, zg_true, fa_b_f, fa_b_t, hC.cols]
  | succ k ih =>
    intro i a E hC hz h10 h11 h1 h2 h3 h4
    unfold sp_ri
    cases hm : sp_isr V s x k0 i
    · obtain ⟨F, j5, f1, f2, f3, f4⟩ := ih (i + 1) a E hC hz h10 h11 (by omega) (by omega) h3 (by omega)
      refine ⟨F, j5, ?_, f2, f3, f4⟩
      rw [L73_41 ho hj]
      simp (disch := omega) only [n32_id, zg_pos, if_pos, if_neg, zu_same, zu_ne, if_true, if_false, ne_eq, not_true_eq_false, not_false_eq_true, true_or, or_true, true_and, and_true, zg_true, fa_b_f, fa_b_t, hC.cols]
      rw [T75 hV hz hk0 (by omega), L73_k59 ho, fa_b_id, hm]
      simp (disch := omega) only [n32_id, zg_pos, if_pos, if_neg, zu_same, zu_ne, if_true, if_false, ne_eq, not_true_eq_false, not_false_eq_true, true_or, or_true, true_and, and_true, zg_true, fa_b_f, fa_b_t, f1]
    · by_cases w : a.2 = 0
      · have e1 : zu E 15 11 (100 * k0 + i) 15 10 = a.2 := by rw [zu_ne (by omega)]; exact h10
        obtain ⟨F, j5, f1, f2, f3, f4⟩ := ih (i + 1) (100 * k0 + i, a.2 + 1) (zu (zu E 15 11 (100 * k0 + i)) 15 10 (a.2 + 1)) (hC.fr (fun a b _ _ => by rw [zu_ne (by omega), zu_ne (by omega)])) (hz.fr (fun b => by rw [zu_ne (by omega), zu_ne (by omega)]) (fun b => by rw [zu_ne (by omega), zu_ne (by omega)])) zu_same (by rw [zu_ne (by omega), zu_same]) (by omega) (by omega) (show 0 ≤ a.2 + 1 by omega) (show a.2 + 1 ≤ 144 - (k : Int) by omega)
        refine ⟨F, j5, ?_, ?_, ?_, fun a b y1 y2 => by rw [f4 a b y1 y2, zu_ne y1, zu_ne y2]⟩
        · rw [L73_41 ho hj]
          simp (disch := omega) only [n32_id, zg_pos, if_pos, if_neg, zu_same, zu_ne, if_true, if_false, ne_eq, not_true_eq_false, not_false_eq_true, true_or, or_true, true_and, and_true, zg_true, fa_b_f, fa_b_t, hC.cols]
          rw [T75 hV hz hk0 (by omega), L73_k59 ho, fa_b_id, hm]
          simp (disch := omega) only [n32_id, zg_pos, if_pos, if_neg, zu_same, zu_ne, if_true, if_false, ne_eq, not_true_eq_false, not_false_eq_true, true_or, or_true, true_and, and_true, zg_true, fa_b_f, fa_b_t, h10, e1]
          exact f1
        · simp only [if_true, if_pos w]
          exact f2
        · simp only [if_true, if_pos w]
          exact f3
      · obtain ⟨F, j5, f1, f2, f3, f4⟩ := ih (i + 1) (a.1, a.2 + 1) (zu E 15 10 (a.2 + 1)) (hC.fr (fun a b _ _ => by rw [zu_ne (by omega)])) (hz.fr (fun b => by rw [zu_ne (by omega)]) (fun b => by rw [zu_ne (by omega)])) zu_same (by rw [zu_ne (by omega)]; exact h11) (by omega) (by omega) (show 0 ≤ a.2 + 1 by omega) (show a.2 + 1 ≤ 144 - (k : Int) by omega)
        refine ⟨F, j5, ?_, ?_, ?_, fun a b y1 y2 => by rw [f4 a b y1 y2, zu_ne y1]⟩
        · rw [L73_41 ho hj]
          simp (disch := omega) only [n32_id, zg_pos, if_pos, if_neg, zu_same, zu_ne, if_true, if_false, ne_eq, not_true_eq_false, not_false_eq_true, true_or, or_true, true_and, and_true, zg_true, fa_b_f, fa_b_t, hC.cols]
          rw [T75 hV hz hk0 (by omega), L73_k59 ho, fa_b_id, hm]
          simp (disch := omega) only [n32_id, zg_pos, if_pos, if_neg, zu_same, zu_ne, if_true, if_false, ne_eq, not_true_eq_false, not_false_eq_true, true_or, or_true, true_and, and_true, zg_true, fa_b_f, fa_b_t, h10]
          exact f1
        · simp only [if_true, if_neg w]
          exact f2
        · simp only [if_true, if_neg w]
          exact f3
theorem T73_out (ho : zo o) (hV : zV V) {s x : Int} {j2 j3 : ZV} (hj : zm_isL j3 = false) : ∀ (k : Nat) (i : Int) (a : Int × Int) (E : Nat → Int → Int) (j5 : ZV), zC V E o → zRs V E 19 20 s x ((V (0)).val : Int) 0 → E 15 10 = a.2 → E 15 11 = a.1 → 0 ≤ i → i + k = ((V (0)).val : Int) → 0 ≤ a.2 → a.2 ≤ 12 * i →
    ∃ F, zf_ev X (d + 4) 73 (29, [vR 15, vR o, j2, j3, vI i, j5], [], zH t p q E) = some (some [], zH t p q F) ∧ F 15 10 = (sp_ro (fun k i => sp_isr V s x k i) (fun k i => 100 * k + i) (((V (0)).val : Int)).toNat k i a).2 ∧ F 15 11 = (sp_ro (fun k i => sp_isr V s x k i) (fun k i => 100 * k + i) (((V (0)).val : Int)).toNat k i a).1 ∧ (∀ a9 b9, (a9 ≠ 15 ∨ b9 ≠ 10) → (a9 ≠ 15 ∨ b9 ≠ 11) → F a9 b9 = E a9 b9) := by
  have hc := hV.cols
  have ho2 : o = 40 ∨ o = 50 := ho
  intro k
  induction k with
  | zero =>
    intro i a E j5 hC hz h10 h11 h1 h2 h3 h4
    refine ⟨E, ?_, h10, h11, fun a b _ _ => rfl⟩
    rw [L73_29 ho]
    simp (disch := omega) only [n32_id, zg_pos, if_pos, if_neg, zu_same, zu_ne, if_true, if_false, ne_eq, not_true_eq_false, not_false_eq_true, true_or, or_true, true_and, and_true, zg_true, fa_b_f, fa_b_t, hC.cols]
  | succ k ih =>
    intro i a E j5 hC hz h10 h11 h1 h2 h3 h4
    obtain ⟨G, a5, g1, g2, g3, g4⟩ := T73_in (X := X) (d := d) (t := t) (p := p) (q := q) ho hV (s := s) (x := x) (k0 := i) (j2 := j2) hj (by omega) (((V (0)).val : Int)).toNat 0 a E hC hz h10 h11 (by omega) (by omega) h3 (by omega)
    have b := sp_ri_r (b := fun y => sp_isr V s x i y) (l := fun y => 100 * i + y) (((V (0)).val : Int)).toNat 0 a h3
    obtain ⟨F, f1, f2, f3, f4⟩ := ih (i + 1) _ G a5 (hC.fr (fun a b _ _ => g4 a b (by omega) (by omega))) (hz.fr (fun b => g4 _ _ (by omega) (by omega)) (fun b => g4 _ _ (by omega) (by omega))) g2 g3 (by omega) (by omega) b.1 (by omega)
    refine ⟨F, ?_, f2, f3, fun a b y1 y2 => by rw [f4 a b y1 y2, g4 a b y1 y2]⟩
    rw [L73_29 ho]
    simp (disch := omega) only [n32_id, zg_pos, if_pos, if_neg, zu_same, zu_ne, if_true, if_false, ne_eq, not_true_eq_false, not_false_eq_true, true_or, or_true, true_and, and_true, zg_true, fa_b_f, fa_b_t, hC.cols, g1]
    exact f1
theorem T73 (ho : zo o) (hC : zC V E o) (hV : zV V) {s x : Int} (hs : 0 ≤ s ∧ s < ((V (3)).val : Int)) (hx : 0 ≤ x ∧ x < ((V (3)).val : Int)) (hsx : s ≠ x) : ∃ F, zf_ev X (d + 4) 73 (0, [vR 15, vR o, vI s, vI x, vJ, vJ], [], zH t p q E) = some (some [], zH t p q F) ∧ F 15 10 = (sp_rests V s x).2 ∧ F 15 11 = (sp_rests V s x).1 ∧ (∀ a9 b9, a9 ≠ 15 → a9 ≠ 16 → a9 ≠ 17 → a9 ≠ 18 → a9 ≠ 19 → a9 ≠ 20 → F a9 b9 = E a9 b9) := by
  have hc := hV.cols
  have ho2 : o = 40 ∨ o = 50 := ho
  obtain ⟨G, n, g1, g2, g3, g4, g5⟩ := T65 (X := X) (d := d) (t := t) (p := p) (q := q) ho hC hV
  have hC2 : zC V G o := hC.fr (fun a b _ _ => g5 a b (by omega) (by omega) (by omega) (by omega) (by omega))
  obtain ⟨H, h1, h2, h3⟩ := T74_out (X := X) (d := d + 1) (t := t) (p := p) (q := q) hV hs hx hsx (n := n) (((V (0)).val : Int)).toNat 0 G vJ (zGm_of g2 g3 g4) (fun k' i' w1 w2 w3 w4 w5 => by omega) (by omega) (by omega)
  obtain ⟨F, f1, f2, f3, f4⟩ := T73_out (X := X) (d := d) (t := t) (p := p) (q := q) ho hV (s := s) (x := x) (j2 := vI s) (j3 := vI x) rfl (((V (0)).val : Int)).toNat 0 (-2, 0) (zu (zu H 15 10 0) 15 11 (-2)) vJ (hC2.fr (fun a b _ _ => by rw [zu_ne (by omega), zu_ne (by omega), h3 a b (by omega) (by omega) (by omega)])) (h2.fr (fun b => by rw [zu_ne (by omega), zu_ne (by omega)]) (fun b => by rw [zu_ne (by omega), zu_ne (by omega)])) (by rw [zu_ne (by omega), zu_same]) zu_same (by omega) (by omega) (by decide) (by decide)
  refine ⟨F, ?_, f2, f3, fun a b y1 y2 y3 y4 y5 y6 => by rw [f4 a b (by omega) (by omega), zu_ne (by omega), zu_ne (by omega), h3 a b y2 y5 y6, g5 a b (by omega) (by omega) y2 y3 y4]⟩
  rw [L73_0 ho, g1, L73_k2 ho, hC2.cols, L74_0, h1, L73_k12 ho rfl]
  exact f1
theorem Q140 (hG : zG V E p) {s x : Int} (h1 : 0 ≤ s) (h2 : s < ((V (3)).val : Int)) (h3 : 0 ≤ x) (h4 : x < ((V (3)).val : Int)) (h5 : s ≠ x) : ∃ F, zf_ev X (d + 5) 140 (0, [vR 0, vI s, vI x], [], zH t p q E) = some (some [vI ((sp_rests V s x).2)], zH t p q F) ∧ F 0 10 = 0 ∧ zFC E F := by
  obtain ⟨hV, -, -⟩ := hG.yes (by omega)
  obtain ⟨hp, hC, hR, -⟩ := hG
  have hC2 : zC V (zu E 0 10 0) p := hC.fco hp zFC.u
  obtain ⟨F, f1, f2, f3, f4⟩ := T73 (X := X) (d := d) (t := t) (p := p) (q := q) hp hC2 hV ⟨h1, h2⟩ ⟨h3, h4⟩ h5
  refine ⟨F, ?_, by rw [f4 _ _ (by omega) (by omega) (by omega) (by omega) (by omega) (by omega)]; exact zu_same, fun a b g1 g2 g3 g4 => by rw [f4 a b (by omega) (by omega) (by omega) (by omega) (by omega) (by omega), zu_ne g4]⟩
  simp (disch := omega) only [n32_id, zg_pos, if_pos, if_neg, zu_same, zu_ne, if_true, if_false, ne_eq, not_true_eq_false, not_false_eq_true, true_or, or_true, true_and, and_true, zg_true, fa_b_f, fa_b_t, L140_0, L140_k4, L140_k7 hp, L140_k25, T173t hp hC hV, T168t, f1, f2]
theorem Q140n (hG : zG V E p) {s x : Int} (b1 : -2147483648 ≤ s ∧ s < 2147483648) (b2 : -2147483648 ≤ x ∧ x < 2147483648) (h : (s < 0 ∨ ((V (3)).val : Int) ≤ s) ∨ (x < 0 ∨ ((V (3)).val : Int) ≤ x) ∨ s = x) : ∃ F, zf_ev X (d + 5) 140 (0, [vR 0, vI s, vI x], [], zH t p q E) = some (some [vI (-1)], zH t p q F) ∧ F 0 10 = 1 ∧ zFC E F := by
  obtain ⟨hp, hC, hR, -⟩ := hG
  refine ⟨zu E 0 10 1, ?_, zu_same, zFC.u⟩
  simp (disch := omega) only [n32_id, zg_pos, if_pos, if_neg, zu_same, zu_ne, if_true, if_false, ne_eq, not_true_eq_false, not_false_eq_true, true_or, or_true, true_and, and_true, zg_true, fa_b_f, fa_b_t, L140_0, L140_k4, L140_k7 hp, L140_k25, T173f hp hC, T168f]
theorem Q141 (hG : zG V E p) {s x : Int} (h1 : 0 ≤ s) (h2 : s < ((V (3)).val : Int)) (h3 : 0 ≤ x) (h4 : x < ((V (3)).val : Int)) (h5 : s ≠ x) : ∃ F, zf_ev X (d + 5) 141 (0, [vR 0, vI s, vI x], [], zH t p q E) = some (some [vI ((sp_rests V s x).1)], zH t p q F) ∧ F 0 10 = 0 ∧ zFC E F := by
  obtain ⟨hV, -, -⟩ := hG.yes (by omega)
  obtain ⟨hp, hC, hR, -⟩ := hG
  have hC2 : zC V (zu E 0 10 0) p := hC.fco hp zFC.u
  obtain ⟨F, f1, f2, f3, f4⟩ := T73 (X := X) (d := d) (t := t) (p := p) (q := q) hp hC2 hV ⟨h1, h2⟩ ⟨h3, h4⟩ h5
  refine ⟨F, ?_, by rw [f4 _ _ (by omega) (by omega) (by omega) (by omega) (by omega) (by omega)]; exact zu_same, fun a b g1 g2 g3 g4 => by rw [f4 a b (by omega) (by omega) (by omega) (by omega) (by omega) (by omega), zu_ne g4]⟩
  simp (disch := omega) only [n32_id, zg_pos, if_pos, if_neg, zu_same, zu_ne, if_true, if_false, ne_eq, not_true_eq_false, not_false_eq_true, true_or, or_true, true_and, and_true, zg_true, fa_b_f, fa_b_t, L141_0, L141_k4, L141_k7 hp, L141_k25, T173t hp hC hV, T168t, f1, f3]
theorem Q141n (hG : zG V E p) {s x : Int} (b1 : -2147483648 ≤ s ∧ s < 2147483648) (b2 : -2147483648 ≤ x ∧ x < 2147483648) (h : (s < 0 ∨ ((V (3)).val : Int) ≤ s) ∨ (x < 0 ∨ ((V (3)).val : Int) ≤ x) ∨ s = x) : ∃ F, zf_ev X (d + 5) 141 (0, [vR 0, vI s, vI x], [], zH t p q E) = some (some [vI (-1)], zH t p q F) ∧ F 0 10 = 1 ∧ zFC E F := by
  obtain ⟨hp, hC, hR, -⟩ := hG
  refine ⟨zu E 0 10 1, ?_, zu_same, zFC.u⟩
  simp (disch := omega) only [n32_id, zg_pos, if_pos, if_neg, zu_same, zu_ne, if_true, if_false, ne_eq, not_true_eq_false, not_false_eq_true, true_or, or_true, true_and, and_true, zg_true, fa_b_f, fa_b_t, L141_0, L141_k4, L141_k7 hp, L141_k25, T173f hp hC, T168f]
end RS

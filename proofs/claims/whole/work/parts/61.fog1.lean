/-! the class's airs -/
def zFg (V : Int → Fin 65537) (E : Nat → Int → Int) : Prop := ∀ r, 1 ≤ r → r ≤ ((V (1)).val : Int) → (sp_isu V r = true → E 23 r = 5 ^ (sp_u V r).toNat) ∧ (sp_isu V r = false → E 23 r = 0 ∧ E 22 r = sp_air V r)
theorem sp_pw5 {u : Int} (h : 0 ≤ u ∧ u ≤ 3) : 1 ≤ (5 : Int) ^ u.toNat ∧ (5 : Int) ^ u.toNat ≤ 125 := by
  have e : u = 0 ∨ u = 1 ∨ u = 2 ∨ u = 3 := by omega
  rcases e with rfl | rfl | rfl | rfl <;> decide
def sp_L (V : Int → Fin 65537) (n : Int) : Int := sp_psum (fun y => fa_b (sp_fit V (sp_aC V y))) n.toNat 0
def sp_see (V : Int → Fin 65537) (r n : Int) : Int → Bool := fun j => fa_any (fun y => sp_fit V (sp_aC V y) && decide (sp_aC V y r + 2 = j)) n.toNat 0
def zAs (V : Int → Fin 65537) (E : Nat → Int → Int) (n : Int) : Prop := E 21 7 = sp_L V n ∧ (∀ g : Int → Int, sp_psum (fun i => g (E 24 i)) (sp_L V n).toNat 0 = sp_psum (fun y => if sp_fit V (sp_aC V y) = true then g y else 0) n.toNat 0) ∧ (∀ i, 0 ≤ i → i < sp_L V n → 0 ≤ E 24 i ∧ E 24 i < 125) ∧ (∀ r, 1 ≤ r → r ≤ ((V (1)).val : Int) → sp_isu V r = true → E 27 r = sp_five (sp_see V r n))
section F1
variable {X : Nat × (Nat → Int)} {d : Nat} {t : List (Nat × Nat)} {p q : Nat} {E : Nat → Int → Int} {V : Int → Fin 65537} {o : Nat}
theorem sp_L_r {n : Int} (h : 0 ≤ n) : 0 ≤ sp_L V n ∧ sp_L V n ≤ n := by
  have := sp_psum_b (f := fun y => fa_b (sp_fit V (sp_aC V y))) n.toNat 0 (fun j _ _ => by have := fa_b_01 (sp_fit V (sp_aC V j)); omega)
  unfold sp_L
  omega
theorem sp_L_s {n : Int} (h : 0 ≤ n) : sp_L V (n + 1) = sp_L V n + fa_b (sp_fit V (sp_aC V n)) := by
  unfold sp_L
  rw [show (n + 1).toNat = n.toNat + 1 by omega, sp_psum_snoc, show (0 : Int) + ((n.toNat : Nat) : Int) = n by omega]
theorem sp_see_s {r n : Int} (h : 0 ≤ n) : sp_see V r (n + 1) = fun j => sp_see V r n j || (sp_fit V (sp_aC V n) && decide (sp_aC V n r + 2 = j)) := by
  funext j
  unfold sp_see
  rw [show (n + 1).toNat = n.toNat + 1 by omega, fa_any_snoc, show (0 : Int) + ((n.toNat : Nat) : Int) = n by omega]
theorem zAs.skip {F : Nat → Int → Int} {n : Int} (h : zAs V E n) (h0 : 0 ≤ n) (hf : sp_fit V (sp_aC V n) = false) (h1 : F 21 7 = E 21 7) (h2 : ∀ b, F 24 b = E 24 b) (h3 : ∀ b, F 27 b = E 27 b) : zAs V F (n + 1) := by
  obtain ⟨a1, a2, a3, a4⟩ := h
  have eL : sp_L V (n + 1) = sp_L V n := by rw [sp_L_s h0, hf]; exact Int.add_zero _
  refine ⟨by rw [h1, a1, eL], fun g => ?_, fun i x y => ?_, fun r x y z => ?_⟩
  · have e : (fun i => g (F 24 i)) = fun i => g (E 24 i) := by funext i; rw [h2]
    rw [e, eL, a2 g, show (n + 1).toNat = n.toNat + 1 by omega, sp_psum_snoc, show (0 : Int) + ((n.toNat : Nat) : Int) = n by omega, hf, if_neg (by decide)]
    omega
  · rw [h2]
    rw [eL] at y
    exact a3 i x y
  · rw [h3, a4 r x y z, sp_see_s h0, hf]
    congr 1
    funext j
    simp
theorem zAs.add {F : Nat → Int → Int} {n : Int} (h : zAs V E n) (h0 : 0 ≤ n ∧ n < 125) (hf : sp_fit V (sp_aC V n) = true) (h1 : F 21 7 = sp_L V n + 1) (h2 : ∀ b, b ≠ sp_L V n → F 24 b = E 24 b) (h2' : F 24 (sp_L V n) = n) (h3 : ∀ r, 1 ≤ r → r ≤ ((V (1)).val : Int) → sp_isu V r = true → F 27 r = sp_five (fun j => sp_see V r n j || decide (sp_aC V n r + 2 = j))) : zAs V F (n + 1) := by
  obtain ⟨a1, a2, a3, a4⟩ := h
  have hL := sp_L_r (V := V) h0.1
  have eL : sp_L V (n + 1) = sp_L V n + 1 := by rw [sp_L_s h0.1, hf]; rfl
  refine ⟨by rw [h1, eL], fun g => ?_, fun i x y => ?_, fun r x y z => ?_⟩
  · have e : sp_psum (fun i => g (F 24 i)) (sp_L V n).toNat 0 = sp_psum (fun i => g (E 24 i)) (sp_L V n).toNat 0 := sp_psum_c _ _ (fun j x y => by rw [h2 j (by omega)])
    rw [eL, show (sp_L V n + 1).toNat = (sp_L V n).toNat + 1 by omega, sp_psum_snoc, e, a2 g, show (n + 1).toNat = n.toNat + 1 by omega, sp_psum_snoc, show (0 : Int) + ((n.toNat : Nat) : Int) = n by omega, show (0 : Int) + (((sp_L V n).toNat : Nat) : Int) = sp_L V n by omega, hf, if_pos rfl, h2']
  · rw [eL] at y
    by_cases e : i = sp_L V n
    · rw [e, h2']
      omega
    · rw [h2 i e]
      exact a3 i x (by omega)
  · rw [h3 r x y z, sp_see_s h0.1, hf]
    simp
theorem T11_loop (ho : zo o) (hV : zV V) (hK : sp_K V ≤ 3) : ∀ (k : Nat) (i : Int) (E : Nat → Int → Int), zC V E o → E 21 6 = sp_u V i → (∀ r, 1 ≤ r → r < i → ((sp_isu V r = true → E 23 r = 5 ^ (sp_u V r).toNat) ∧ (sp_isu V r = false → E 23 r = 0 ∧ E 22 r = sp_air V r)) ∧ E 27 r = 0) → 1 ≤ i → i + k = ((V (1)).val : Int) + 1 →
    ∃ F, zf_ev X (d + 1) 11 (9, [vR 21, vR o, vI (5 ^ (sp_u V i).toNat), vI i], [], zH t p q E) = some (some [vI (sp_p5 V)], zH t p q F) ∧ zFg V F ∧ (∀ r, 1 ≤ r → r ≤ ((V (1)).val : Int) → F 27 r = 0) ∧ (∀ a9 b9, (a9 ≠ 21 ∨ b9 ≠ 6) → a9 ≠ 22 → a9 ≠ 23 → a9 ≠ 27 → F a9 b9 = E a9 b9) := by
  have hr := hV.rows
  have ho2 : o = 40 ∨ o = 50 := ho
  intro k
  induction k with
  | zero =>
    intro i E hC h6 hB h1 h2
    have e : i = ((V (1)).val : Int) + 1 := by omega
    refine ⟨E, ?_, fun r a b => (hB r a (by omega)).1, fun r a b => (hB r a (by omega)).2, fun a b _ _ _ _ => rfl⟩
    rw [L11_9 ho]
    simp (disch := omega) only [n32_id, zg_pos, if_pos, if_neg, zu_same, zu_ne, if_true, if_false, ne_eq, not_true_eq_false, not_false_eq_true, true_or, or_true, true_and, and_true, zg_true, fa_b_f, fa_b_t, hC.rows]
    rw [e]
    rfl
  | succ k ih =>
    intro i E hC h6 hB h1 h2
    have hu := sp_u_le (V := V) h1 (by omega)
    have hu0 := sp_u_0 (V := V) (r := i)
    have hus := sp_u_s (V := V) h1
    have hC1 : zC V (zu E 27 i 0) o := hC.fr (fun a b _ _ => zu_ne (by omega))
    have hair := hV.air i (by omega) (by omega)
    have e30 := T30 (X := X) (d := d) (t := t) (p := p) (q := q) ho hC1 (k := i) (by omega) (by omega)
    cases hq : sp_isu V i
    · rw [hq, if_neg (by decide)] at hus
      have h7 : ¬ ((V (200 + i)).val : Int) = 7 := by unfold sp_isu at hq; exact of_decide_eq_false hq
      obtain ⟨F, f1, f2, f3, f4⟩ := ih (i + 1) (zu (zu (zu E 27 i 0) 22 i (sp_air V i)) 23 i 0) (hC.fr (fun a b _ _ => by rw [zu_ne (by omega), zu_ne (by omega), zu_ne (by omega)])) (by rw [zu_ne (by omega), zu_ne (by omega), zu_ne (by omega), h6, hus, Int.add_zero]) (fun r a b => by
        by_cases g : r = i
        · subst g
          refine ⟨⟨fun w => absurd (hq.symm.trans w) (by decide), fun _ => ⟨zu_same, by rw [zu_ne (by omega), zu_same]⟩⟩, by rw [zu_ne (by omega), zu_ne (by omega), zu_same]⟩
        · rw [zu_ne (by omega), zu_ne (by omega), zu_ne (by omega), zu_ne (by omega), zu_ne (by omega), zu_ne (by omega), zu_ne (by omega), zu_ne (by omega), zu_ne (by omega)]
          exact hB r a (by omega)) (by omega) (by omega)
      refine ⟨F, ?_, f2, f3, fun a b y1 y2 y3 y4 => by rw [f4 a b y1 y2 y3 y4, zu_ne (Or.inl y3), zu_ne (Or.inl y2), zu_ne (Or.inl y4)]⟩
      rw [L11_9 ho]
      simp (disch := omega) only [n32_id, zg_pos, if_pos, if_neg, zu_same, zu_ne, if_true, if_false, ne_eq, not_true_eq_false, not_false_eq_true, true_or, or_true, true_and, and_true, zg_true, fa_b_f, fa_b_t, hC.rows, e30]
      rw [L11_k31 ho]
      simp (disch := omega) only [n32_id, zg_pos, if_pos, if_neg, zu_same, zu_ne, if_true, if_false, ne_eq, not_true_eq_false, not_false_eq_true, true_or, or_true, true_and, and_true, zg_true, fa_b_f, fa_b_t, hC.air]
      rw [hus, Int.add_zero] at f1
      exact f1
    · rw [hq, if_pos rfl] at hus hu
      have h7 : ((V (200 + i)).val : Int) = 7 := by unfold sp_isu at hq; exact of_decide_eq_true hq
      have ep : (5 : Int) ^ (sp_u V i).toNat * 5 = 5 ^ (sp_u V (i + 1)).toNat := by
        rw [hus, show (sp_u V i + 1).toNat = (sp_u V i).toNat + 1 by omega, Int.pow_succ]
      obtain ⟨F, f1, f2, f3, f4⟩ := ih (i + 1) (zu (zu (zu (zu (zu E 27 i 0) 22 i (sp_air V i)) 23 i 0) 23 i (5 ^ (sp_u V i).toNat)) 21 6 (sp_u V i + 1)) (hC.fr (fun a b _ _ => by rw [zu_ne (by omega), zu_ne (by omega), zu_ne (by omega), zu_ne (by omega), zu_ne (by omega)])) (by rw [zu_same, hus]) (fun r a b => by
        by_cases g : r = i
        · subst g
          refine ⟨⟨fun _ => by rw [zu_ne (by omega), zu_same], fun w => absurd (hq.symm.trans w) (by decide)⟩, by rw [zu_ne (by omega), zu_ne (by omega), zu_ne (by omega), zu_ne (by omega), zu_same]⟩
        · rw [zu_ne (by omega), zu_ne (by omega), zu_ne (by omega), zu_ne (by omega), zu_ne (by omega), zu_ne (by omega), zu_ne (by omega), zu_ne (by omega), zu_ne (by omega), zu_ne (by omega), zu_ne (by omega), zu_ne (by omega), zu_ne (by omega), zu_ne (by omega), zu_ne (by omega)]
          exact hB r a (by omega)) (by omega) (by omega)
      refine ⟨F, ?_, f2, f3, fun a b y1 y2 y3 y4 => by rw [f4 a b y1 y2 y3 y4, zu_ne y1, zu_ne (Or.inl y3), zu_ne (Or.inl y3), zu_ne (Or.inl y2), zu_ne (Or.inl y4)]⟩
      rw [L11_9 ho]
      simp (disch := omega) only [n32_id, zg_pos, if_pos, if_neg, zu_same, zu_ne, if_true, if_false, ne_eq, not_true_eq_false, not_false_eq_true, true_or, or_true, true_and, and_true, zg_true, fa_b_f, fa_b_t, hC.rows, e30]
      rw [L11_k31 ho]
      simp (disch := omega) only [n32_id, zg_pos, if_pos, if_neg, zu_same, zu_ne, if_true, if_false, ne_eq, not_true_eq_false, not_false_eq_true, true_or, or_true, true_and, and_true, zg_true, fa_b_f, fa_b_t, hC.air, h6]
      rw [ep]
      exact f1
theorem T11 (ho : zo o) (hC : zC V E o) (hV : zV V) (hK : sp_K V ≤ 3) : ∃ F, zf_ev X (d + 1) 11 (0, [vR 21, vR o, vJ, vJ], [], zH t p q E) = some (some [vI (sp_p5 V)], zH t p q F) ∧ zFg V F ∧ (∀ r, 1 ≤ r → r ≤ ((V (1)).val : Int) → F 27 r = 0) ∧ (∀ a9 b9, (a9 ≠ 21 ∨ b9 ≠ 6) → a9 ≠ 22 → a9 ≠ 23 → a9 ≠ 27 → F a9 b9 = E a9 b9) := by
  have hr := hV.rows
  have ho2 : o = 40 ∨ o = 50 := ho
  obtain ⟨F, f1, f2, f3, f4⟩ := T11_loop (X := X) (d := d) (t := t) (p := p) (q := q) ho hV hK (((V (1)).val : Int)).toNat 1 (zu E 21 6 0) (hC.fr (fun a b _ _ => zu_ne (by omega))) zu_same (fun r a b => by omega) (by omega) (by omega)
  refine ⟨F, ?_, f2, f3, fun a b y1 y2 y3 y4 => by rw [f4 a b y1 y2 y3 y4, zu_ne y1]⟩
  rw [L11_0 ho]
  exact f1
theorem T13 (hV : zV V) (hK : sp_K V ≤ 3) (hF : zFg V E) {x r : Int} (hx : 0 ≤ x ∧ x < 125) (h1 : 1 ≤ r) (h2 : r ≤ ((V (1)).val : Int)) : zf_ev X d 13 (0, [vR 21, vI x, vI r, vJ], [], zH t p q E) = some (some [vI (sp_aC V x r)], zH t p q E) := by
  have hr := hV.rows
  rw [L13_0]
  unfold sp_aC
  cases hq : sp_isu V r
  · obtain ⟨e1, e2⟩ := (hF r h1 h2).2 hq
    simp (disch := omega) only [n32_id, zg_pos, if_pos, if_neg, zu_same, zu_ne, if_true, if_false, ne_eq, not_true_eq_false, not_false_eq_true, true_or, or_true, true_and, and_true, zg_true, fa_b_f, fa_b_t, e1, e2]
    rw [if_neg (fun z => by cases z.2)]
  · have e1 := (hF r h1 h2).1 hq
    have hu := sp_u_lt h1 h2 hq
    have hp := sp_pw5 (u := sp_u V r) (by omega)
    have hd := (sp_dg0 ⟨x.toNat, by omega⟩ ⟨(sp_u V r).toNat, by omega⟩).2.2
    simp only [Int.toNat_of_nonneg hx.1] at hd
    simp (disch := omega) only [n32_id, zg_pos, if_pos, if_neg, zu_same, zu_ne, if_true, if_false, ne_eq, not_true_eq_false, not_false_eq_true, true_or, or_true, true_and, and_true, zg_true, fa_b_f, fa_b_t, e1]
    rfl
theorem T12_loop (ho : zo o) (hV : zV V) (hK : sp_K V ≤ 3) {x : Int} (hx : 0 ≤ x ∧ x < 125) : ∀ (k : Nat) (i : Int) (E : Nat → Int → Int), zC V E o → zFg V E → (∀ r, 1 ≤ r → r < i → E 22 r = sp_aC V x r) → 1 ≤ i → i + k = ((V (1)).val : Int) + 1 →
    ∃ F, zf_ev X (d + 1) 12 (2, [vR 21, vR o, vI x, vI i], [], zH t p q E) = some (some [], zH t p q F) ∧ zFg V F ∧ (∀ r, 1 ≤ r → r ≤ ((V (1)).val : Int) → F 22 r = sp_aC V x r) ∧ (∀ a9 b9, a9 ≠ 22 → F a9 b9 = E a9 b9) := by
  have hr := hV.rows
  have ho2 : o = 40 ∨ o = 50 := ho
  intro k
  induction k with
  | zero =>
    intro i E hC hF hB h1 h2
    refine ⟨E, ?_, hF, fun r a b => hB r a (by omega), fun a b _ => rfl⟩
    rw [L12_2 ho]
    simp (disch := omega) only [n32_id, zg_pos, if_pos, if_neg, zu_same, zu_ne, if_true, if_false, ne_eq, not_true_eq_false, not_false_eq_true, true_or, or_true, true_and, and_true, zg_true, fa_b_f, fa_b_t, hC.rows]
  | succ k ih =>
    intro i E hC hF hB h1 h2
    obtain ⟨F, f1, f2, f3, f4⟩ := ih (i + 1) (zu E 22 i (sp_aC V x i)) (hC.fr (fun a b _ _ => zu_ne (by omega))) (fun r a b => by
      refine ⟨fun w => by rw [zu_ne (by omega)]; exact (hF r a b).1 w, fun w => ?_⟩
      have hh := (hF r a b).2 w
      refine ⟨by rw [zu_ne (by omega)]; exact hh.1, ?_⟩
      by_cases g : r = i
      · subst g
        rw [zu_same]
        unfold sp_aC
        rw [w, if_neg (fun z => by cases z.2)]
      · rw [zu_ne (Or.inr g)]
        exact hh.2) (fun r a b => by
      by_cases g : r = i
      · rw [g, zu_same]
      · rw [zu_ne (Or.inr g)]
        exact hB r a (by omega)) (by omega) (by omega)
    refine ⟨F, ?_, f2, f3, fun a b y => by rw [f4 a b y, zu_ne (Or.inl y)]⟩
    rw [L12_2 ho]
    simp (disch := omega) only [n32_id, zg_pos, if_pos, if_neg, zu_same, zu_ne, if_true, if_false, ne_eq, not_true_eq_false, not_false_eq_true, true_or, or_true, true_and, and_true, zg_true, fa_b_f, fa_b_t, hC.rows, T13 hV hK hF]
    rw [L12_k18 ho]
    simp (disch := omega) only [n32_id, zg_pos, if_pos, if_neg, zu_same, zu_ne, if_true, if_false, ne_eq, not_true_eq_false, not_false_eq_true, true_or, or_true, true_and, and_true, zg_true, fa_b_f, fa_b_t]
    exact f1
theorem T14_in (ho : zo o) (hC : zC V E o) (hV : zV V) {a : Int → Int} (hA : ∀ r, 1 ≤ r → r ≤ ((V (1)).val : Int) → E 22 r = a r ∧ -100 ≤ a r ∧ a r ≤ 100) {f : Int} (h1 : 0 ≤ f) (h2 : f < ((V (6)).val : Int)) : ∀ (k : Nat) (i c : Int), 1 ≤ i → i + k = ((V (66 + 3 * f + 1)).val : Int) + 1 → 0 ≤ c → c < ((V (0)).val : Int) → zf_ev X (d + 1) 14 (20, [vR 21, vR o, vI f, vI c, vI i], [], zH t p q E) = zf_ev X (d + 1) 14 (20, [vR 21, vR o, vI f, vI (sp_colL a ((V (0)).val : Int) 0 k i c), vI (((V (66 + 3 * f + 1)).val : Int) + 1)], [], zH t p q E) := by
  have hc := hV.cols
  have hr := hV.rows
  have hf := hV.flts
  have hq := hV.flt f h1 h2
  intro k
  induction k with
  | zero =>
    intro i c g1 g2 g3 g4
    rw [show i = ((V (66 + 3 * f + 1)).val : Int) + 1 by omega]
    rfl
  | succ k ih =>
    intro i c g1 g2 g3 g4
    obtain ⟨e, b1, b2⟩ := hA i g1 (by omega)
    have hw := sp_wall_r (n := ((V (0)).val : Int)) (c := c + a i) (by omega)
    rw [L14_20 ho]
    simp (disch := omega) only [n32_id, zg_pos, if_pos, if_neg, zu_same, zu_ne, if_true, if_false, ne_eq, not_true_eq_false, not_false_eq_true, true_or, or_true, true_and, and_true, zg_true, fa_b_f, fa_b_t, hC.fr', e, T31 ho hC hV]
    have eu : sp_colL a ((V (0)).val : Int) 0 (k + 1) i c = sp_colL a ((V (0)).val : Int) 0 k (i + 1) (sp_wall ((V (0)).val : Int) (c + (if (0 : Int) = 1 then (a i).tdiv 2 else a i))) := rfl
    rw [L14_k41 ho, ih _ _ (by omega) (by omega) hw.1 hw.2, eu, if_neg (by decide)]
theorem T14_loop (ho : zo o) (hC : zC V E o) (hV : zV V) {a : Int → Int} (hA : ∀ r, 1 ≤ r → r ≤ ((V (1)).val : Int) → E 22 r = a r ∧ -100 ≤ a r ∧ a r ≤ 100) : ∀ (k : Nat) (f : Int) (j3 j4 : ZV), 0 ≤ f → f + k = ((V (6)).val : Int) → zf_ev X (d + 1) 14 (2, [vR 21, vR o, vI f, j3, j4], [], zH t p q E) = some (some [vI (fa_b (decide (sp_wf V a k f = -2)))], zH t p q E) := by
  have hc := hV.cols
  have hr := hV.rows
  have hf := hV.flts
  intro k
  induction k with
  | zero =>
    intro f j3 j4 h1 h2
    rw [L14_2 ho]
    simp (disch := omega) only [n32_id, zg_pos, if_pos, if_neg, zu_same, zu_ne, if_true, if_false, ne_eq, not_true_eq_false, not_false_eq_true, true_or, or_true, true_and, and_true, zg_true, fa_b_f, fa_b_t, hC.flts]
    rfl
  | succ k ih =>
    intro f j3 j4 h1 h2
    have hq := hV.flt f h1 (by omega)
    have hb := sp_colL_r (a := a) (n := ((V (0)).val : Int)) (fold := 0) (by omega) (((V (66 + 3 * f + 1)).val : Int)).toNat 1 ((V (66 + 3 * f)).val : Int) (by omega) (by omega)
    have ec : sp_col a ((V (0)).val : Int) 0 ((V (66 + 3 * f)).val : Int) ((V (66 + 3 * f + 1)).val : Int) = sp_colL a ((V (0)).val : Int) 0 (((V (66 + 3 * f + 1)).val : Int)).toNat 1 ((V (66 + 3 * f)).val : Int) := sp_col_0
    rw [L14_2 ho]
    simp (disch := omega) only [n32_id, zg_pos, if_pos, if_neg, zu_same, zu_ne, if_true, if_false, ne_eq, not_true_eq_false, not_false_eq_true, true_or, or_true, true_and, and_true, zg_true, fa_b_f, fa_b_t, hC.flts, hC.fs]
    rw [T14_in ho hC hV hA h1 (by omega) (((V (66 + 3 * f + 1)).val : Int)).toNat 1 ((V (66 + 3 * f)).val : Int) (by omega) (by omega) (by omega) (by omega), L14_20 ho]
    unfold sp_wf
    rw [ec]
    by_cases g : sp_colL a ((V (0)).val : Int) 0 (((V (66 + 3 * f + 1)).val : Int)).toNat 1 ((V (66 + 3 * f)).val : Int) = ((V (66 + 3 * f + 2)).val : Int)
    · simp (disch := omega) only [n32_id, zg_pos, if_pos, if_neg, zu_same, zu_ne, if_true, if_false, ne_eq, not_true_eq_false, not_false_eq_true, true_or, or_true, true_and, and_true, zg_true, fa_b_f, fa_b_t, hC.fr', hC.fc]
      exact ih (f + 1) _ _ (by omega) (by omega)
    · simp (disch := omega) only [n32_id, zg_pos, if_pos, if_neg, zu_same, zu_ne, if_true, if_false, ne_eq, not_true_eq_false, not_false_eq_true, true_or, or_true, true_and, and_true, zg_true, fa_b_f, fa_b_t, hC.fr', hC.fc]
      rw [show decide (f = -2) = false from decide_eq_false (by omega)]
      rfl
theorem T14 (ho : zo o) (hC : zC V E o) (hV : zV V) {a : Int → Int} (hA : ∀ r, 1 ≤ r → r ≤ ((V (1)).val : Int) → E 22 r = a r ∧ -100 ≤ a r ∧ a r ≤ 100) : zf_ev X (d + 1) 14 (0, [vR 21, vR o, vJ, vJ, vJ], [], zH t p q E) = some (some [vI (fa_b (sp_fit V a))], zH t p q E) := by
  rw [L14_0 ho, T14_loop ho hC hV hA (((V (6)).val : Int)).toNat 0 _ _ (by omega) (by omega)]
  rfl
theorem T15_loop (ho : zo o) (hV : zV V) (hK : sp_K V ≤ 3) {a : Int → Int} {bs : Int → Int → Bool} (ha : ∀ r, 1 ≤ r → r ≤ ((V (1)).val : Int) → sp_isu V r = true → -2 ≤ a r ∧ a r ≤ 2) : ∀ (k : Nat) (i : Int) (E : Nat → Int → Int), zC V E o → zFg V E → (∀ r, 1 ≤ r → r ≤ ((V (1)).val : Int) → E 22 r = a r) → (∀ r, 1 ≤ r → r ≤ ((V (1)).val : Int) → sp_isu V r = true → E 27 r = if r < i then sp_five (fun j => bs r j || decide (a r + 2 = j)) else sp_five (bs r)) → 1 ≤ i → i + k = ((V (1)).val : Int) + 1 →
    ∃ F, zf_ev X d 15 (2, [vR 21, vR o, vI i], [], zH t p q E) = some (some [], zH t p q F) ∧ (∀ r, 1 ≤ r → r ≤ ((V (1)).val : Int) → sp_isu V r = true → F 27 r = sp_five (fun j => bs r j || decide (a r + 2 = j))) ∧ (∀ a9 b9, a9 ≠ 27 → F a9 b9 = E a9 b9) := by
  have hr := hV.rows
  have ho2 : o = 40 ∨ o = 50 := ho
  intro k
  induction k with
  | zero =>
    intro i E hC hF hA hB h1 h2
    refine ⟨E, ?_, fun r x y z => by rw [hB r x y z, if_pos (by omega)], fun a b _ => rfl⟩
    rw [L15_2 ho]
    simp (disch := omega) only [n32_id, zg_pos, if_pos, if_neg, zu_same, zu_ne, if_true, if_false, ne_eq, not_true_eq_false, not_false_eq_true, true_or, or_true, true_and, and_true, zg_true, fa_b_f, fa_b_t, hC.rows]
  | succ k ih =>
    intro i E hC hF hA hB h1 h2
    cases hq : sp_isu V i
    · obtain ⟨e1, -⟩ := (hF i h1 (by omega)).2 hq
      obtain ⟨F, f1, f2, f3⟩ := ih (i + 1) E hC hF hA (fun r x y z => by
        rw [hB r x y z]
        by_cases g : r = i
        · rw [g, hq] at z; cases z
        · by_cases g2 : r < i
          · rw [if_pos g2, if_pos (by omega)]
          · rw [if_neg g2, if_neg (by omega)]) (by omega) (by omega)
      refine ⟨F, ?_, f2, f3⟩
      rw [L15_2 ho]
      simp (disch := omega) only [n32_id, zg_pos, if_pos, if_neg, zu_same, zu_ne, if_true, if_false, ne_eq, not_true_eq_false, not_false_eq_true, true_or, or_true, true_and, and_true, zg_true, fa_b_f, fa_b_t, hC.rows, e1]
      exact f1
    · have e1 := (hF i h1 (by omega)).1 hq
      have hu := sp_u_lt h1 (by omega) hq
      have hp := sp_pw5 (u := sp_u V i) (by omega)
      have e2 := hA i h1 (by omega)
      have e3 := hB i h1 (by omega) hq
      rw [if_neg (by omega)] at e3
      have hb := ha i h1 (by omega) hq
      have e4 := sp_five_or (b := bs i) (j := a i + 2) (by omega)
      obtain ⟨F, f1, f2, f3⟩ := ih (i + 1) (zu E 27 i (sp_five (fun j => bs i j || decide (a i + 2 = j)))) (hC.fr (fun a b _ _ => zu_ne (by omega))) (fun r x y => by rw [zu_ne (by omega), zu_ne (by omega)]; exact hF r x y) (fun r x y => by rw [zu_ne (by omega)]; exact hA r x y) (fun r x y z => by
        by_cases g : r = i
        · rw [g, zu_same, if_pos (by omega)]
        · rw [zu_ne (Or.inr g), hB r x y z]
          by_cases g2 : r < i
          · rw [if_pos g2, if_pos (by omega)]
          · rw [if_neg g2, if_neg (by omega)]) (by omega) (by omega)
      refine ⟨F, ?_, f2, fun a b y => by rw [f3 a b y, zu_ne (Or.inl y)]⟩
      rw [L15_2 ho]
      simp (disch := omega) only [n32_id, zg_pos, if_pos, if_neg, zu_same, zu_ne, if_true, if_false, ne_eq, not_true_eq_false, not_false_eq_true, true_or, or_true, true_and, and_true, zg_true, fa_b_f, fa_b_t, hC.rows, e1, e2, e3, e4]
      exact f1
theorem T10_loop (ho : zo o) (hV : zV V) (hK : sp_K V ≤ 3) : ∀ (k : Nat) (x : Int) (E : Nat → Int → Int), zC V E o → zFg V E → zAs V E x → 0 ≤ x → x + k = sp_p5 V →
    ∃ F, zf_ev X (d + 2) 10 (13, [vR 21, vR o, vI (sp_p5 V), vI x], [], zH t p q E) = some (some [], zH t p q F) ∧ zFg V F ∧ zAs V F (sp_p5 V) ∧ (∀ a9 b9, (a9 ≠ 21 ∨ b9 ≠ 7) → a9 ≠ 22 → a9 ≠ 24 → a9 ≠ 27 → F a9 b9 = E a9 b9) := by
  have hr := hV.rows
  have hp := sp_p5_r hK
  have ho2 : o = 40 ∨ o = 50 := ho
  intro k
  induction k with
  | zero =>
    intro x E hC hF hA h1 h2
    refine ⟨E, ?_, hF, ?_, fun a b _ _ _ _ => rfl⟩
    · rw [L10_13 ho]
      simp (disch := omega) only [n32_id, zg_pos, if_pos, if_neg, zu_same, zu_ne, if_true, if_false, ne_eq, not_true_eq_false, not_false_eq_true, true_or, or_true, true_and, and_true, zg_true, fa_b_f, fa_b_t]
    · rw [show sp_p5 V = x by omega]
      exact hA
  | succ k ih =>
    intro x E hC hF hA h1 h2
    obtain ⟨G, g1, g2, g3, g4⟩ := T12_loop (X := X) (d := d) (t := t) (p := p) (q := q) ho hV hK (x := x) (by omega) (((V (1)).val : Int)).toNat 1 E hC hF (fun r a b => by omega) (by omega) (by omega)
    have hC2 : zC V G o := hC.fr (fun a b _ _ => g4 a b (by omega))
    have hA2 : ∀ r, 1 ≤ r → r ≤ ((V (1)).val : Int) → G 22 r = sp_aC V x r ∧ -100 ≤ sp_aC V x r ∧ sp_aC V x r ≤ 100 := fun r a b => by
      have := sp_aC_r hV hK (x := x) (r := r) (by omega) (by omega)
      exact ⟨g3 r a b, by omega, by omega⟩
    have e14 := T14 (X := X) (d := d) (t := t) (p := p) (q := q) ho hC2 hV hA2
    have hL := sp_L_r (V := V) h1
    cases hq : sp_fit V (sp_aC V x)
    · rw [hq, fa_b_f] at e14
      obtain ⟨F, f1, f2, f3, f4⟩ := ih (x + 1) G hC2 g2 (hA.skip h1 hq (g4 _ _ (by omega)) (fun b => g4 _ _ (by omega)) (fun b => g4 _ _ (by omega))) (by omega) (by omega)
      refine ⟨F, ?_, f2, f3, fun a b y1 y2 y3 y4 => by rw [f4 a b y1 y2 y3 y4, g4 a b y2]⟩
      rw [L10_13 ho]
      simp (disch := omega) only [n32_id, zg_pos, if_pos, if_neg, zu_same, zu_ne, if_true, if_false, ne_eq, not_true_eq_false, not_false_eq_true, true_or, or_true, true_and, and_true, zg_true, fa_b_f, fa_b_t]
      rw [L12_0 ho, g1, L10_k21 ho, e14, L10_k26 ho]
      simp (disch := omega) only [n32_id, zg_pos, if_pos, if_neg, zu_same, zu_ne, if_true, if_false, ne_eq, not_true_eq_false, not_false_eq_true, true_or, or_true, true_and, and_true, zg_true, fa_b_f, fa_b_t]
      exact f1
    · rw [hq, fa_b_t] at e14
      have e7 : G 21 7 = sp_L V x := by rw [g4 _ _ (by omega)]; exact hA.1
      obtain ⟨H, y1, y2, y3⟩ := T15_loop (X := X) (d := d + 1) (t := t) (p := p) (q := q) ho hV hK (a := sp_aC V x) (bs := fun r => sp_see V r x) (fun r a b c => by
        have hu := sp_u_lt a b c
        unfold sp_aC
        rw [if_pos ⟨⟨a, b⟩, c⟩]
        exact sp_dg_r (by omega) (by omega)) (((V (1)).val : Int)).toNat 1 (zu (zu G 24 (sp_L V x) x) 21 7 (sp_L V x + 1)) (hC2.fr (fun a b _ _ => by rw [zu_ne (by omega), zu_ne (by omega)])) (fun r a b => by rw [zu_ne (by omega), zu_ne (by omega), zu_ne (by omega), zu_ne (by omega)]; exact g2 r a b) (fun r a b => by rw [zu_ne (by omega), zu_ne (by omega)]; exact g3 r a b) (fun r a b c => by rw [zu_ne (by omega), zu_ne (by omega), g4 _ _ (by omega), if_neg (by omega)]; exact hA.2.2.2 r a b c) (by omega) (by omega)
      obtain ⟨F, f1, f2, f3, f4⟩ := ih (x + 1) H (hC2.fr (fun a b _ _ => by rw [y3 _ _ (by omega), zu_ne (by omega), zu_ne (by omega)])) (fun r a b => by rw [y3 _ _ (by omega), y3 _ _ (by omega), zu_ne (by omega), zu_ne (by omega), zu_ne (by omega), zu_ne (by omega)]; exact g2 r a b) (hA.add (by omega) hq (by rw [y3 _ _ (by omega), zu_same]) (fun b w => by rw [y3 _ _ (by omega), zu_ne (by omega), zu_ne (by omega), g4 _ _ (by omega)]) (by rw [y3 _ _ (by omega), zu_ne (by omega), zu_same]) y2) (by omega) (by omega)
      refine ⟨F, ?_, f2, f3, fun a b u1 u2 u3 u4 => by rw [f4 a b u1 u2 u3 u4, y3 a b u4, zu_ne u1, zu_ne (Or.inl u3), g4 a b u2]⟩
      rw [L10_13 ho]
      simp (disch := omega) only [n32_id, zg_pos, if_pos, if_neg, zu_same, zu_ne, if_true, if_false, ne_eq, not_true_eq_false, not_false_eq_true, true_or, or_true, true_and, and_true, zg_true, fa_b_f, fa_b_t]
      rw [L12_0 ho, g1, L10_k21 ho, e14, L10_k26 ho]
      simp (disch := omega) only [n32_id, zg_pos, if_pos, if_neg, zu_same, zu_ne, if_true, if_false, ne_eq, not_true_eq_false, not_false_eq_true, true_or, or_true, true_and, and_true, zg_true, fa_b_f, fa_b_t, e7]
      rw [L15_0 ho, y1, L10_k54 ho]
      exact f1
theorem T10 (ho : zo o) (hC : zC V E o) (hV : zV V) (hK : sp_K V ≤ 3) : ∃ F, zf_ev X (d + 2) 10 (0, [vR 21, vR o, vJ, vJ], [], zH t p q E) = some (some [], zH t p q F) ∧ zFg V F ∧ zAs V F (sp_p5 V) ∧ (∀ a9 b9, (a9 ≠ 21 ∨ b9 ≠ 6) → (a9 ≠ 21 ∨ b9 ≠ 7) → a9 ≠ 22 → a9 ≠ 23 → a9 ≠ 24 → a9 ≠ 27 → F a9 b9 = E a9 b9) := by
  have hp := sp_p5_r hK
  have ho2 : o = 40 ∨ o = 50 := ho
  obtain ⟨G, g1, g2, g3, g4⟩ := T11 (X := X) (d := d) (t := t) (p := p) (q := q) ho hC hV hK
  obtain ⟨F, f1, f2, f3, f4⟩ := T10_loop (X := X) (d := d) (t := t) (p := p) (q := q) ho hV hK (sp_p5 V).toNat 0 (zu G 21 7 0) (hC.fr (fun a b _ _ => by rw [zu_ne (by omega), g4 _ _ (by omega) (by omega) (by omega) (by omega)])) (fun r a b => by rw [zu_ne (by omega), zu_ne (by omega)]; exact g2 r a b) ⟨zu_same, fun g => rfl, fun i a b => by have : sp_L V 0 = 0 := rfl; omega, fun r a b c => by rw [zu_ne (by omega), g3 r a b]; rfl⟩ (by omega) (by omega)
  refine ⟨F, ?_, f2, f3, fun a b y1 y2 y3 y4 y5 y6 => by rw [f4 a b y2 y3 y5 y6, zu_ne y2, g4 a b y1 y3 y4 y6]⟩
  rw [L10_0 ho, g1, L10_k2 ho]
  exact f1
end F1

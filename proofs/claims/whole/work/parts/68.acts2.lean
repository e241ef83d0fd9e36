/-! acts: stand, session, seed, undo, image, back -/
theorem sp_taken_n {V : Int → Fin 65537} {c r : Int} : sp_taken V c r (-1) = (sp_lamp V c r || sp_spk V c r) := by
  unfold sp_taken sp_spk
  congr 1
  refine fa_any_c _ _ (fun j a b => ?_)
  rw [decide_eq_true (show j ≠ -1 by omega), Bool.true_and, ← Bool.decide_and]
  rfl
theorem zQ_spot {V S : Int → Fin 65537} (hV : zV V) (h : zQ V S) {s c r : Int} (h1 : 0 ≤ s) (h2 : s < ((V (3)).val : Int)) (hc : 0 ≤ c ∧ c < ((V (0)).val : Int)) (hr : 1 ≤ r ∧ r ≤ ((V (1)).val : Int)) (hl : sp_lamp V c r = false) (hs : ∀ x, 0 ≤ x → x < ((V (3)).val : Int) → ¬ (((S (7 + 2 * x)).val : Int) = c ∧ ((S (7 + 2 * x + 1)).val : Int) = r)) : zQ V (zsu (zsu S (7 + 2 * s) c) (7 + 2 * s + 1) r) := by
  obtain ⟨q1, q2, q3, q4, q5, q6⟩ := h
  have hk := hV.spks
  have hm := hV.mems
  have hrr := hV.rows
  have hcc := hV.cols
  have n1 : ∀ k, (k < 7 ∨ 15 ≤ k) → zsu (zsu S (7 + 2 * s) c) (7 + 2 * s + 1) r k = S k := fun k g => by rw [zsu_n (by omega), zsu_n (by omega)]
  have n2 : (((zsu (zsu S (7 + 2 * s) c) (7 + 2 * s + 1) r) (7 + 2 * s)).val : Int) = c := by rw [zsu_n (by omega), zsu_s hc.1 (by omega)]
  have n3 : (((zsu (zsu S (7 + 2 * s) c) (7 + 2 * s + 1) r) (7 + 2 * s + 1)).val : Int) = r := zsu_s (by omega) (by omega)
  have n4 : ∀ x, x ≠ s → (((zsu (zsu S (7 + 2 * s) c) (7 + 2 * s + 1) r) (7 + 2 * x)).val : Int) = ((S (7 + 2 * x)).val : Int) ∧ (((zsu (zsu S (7 + 2 * s) c) (7 + 2 * s + 1) r) (7 + 2 * x + 1)).val : Int) = ((S (7 + 2 * x + 1)).val : Int) := fun x g => by rw [zsu_n (by omega), zsu_n (by omega), zsu_n (by omega), zsu_n (by omega)]; exact ⟨rfl, rfl⟩
  refine ⟨fun k a b => ?_, fun x a b => ?_, fun m a b => ?_, fun a1 a2 b1 b2 b3 b4 g => ?_, fun x a b => ?_, ?_⟩
  · rw [n1 k (by omega)]; exact q1 k a b
  · by_cases g : x = s
    · rw [g, n2, n3]; omega
    · rw [(n4 x g).1, (n4 x g).2]; exact q2 x a b
  · rw [n1 _ (by omega), n1 _ (by omega), n1 _ (by omega)]; exact q3 m a b
  · by_cases g1 : a1 = s
    · rw [g1, n2, n3, (n4 a2 (by omega)).1, (n4 a2 (by omega)).2]
      intro z
      exact hs a2 b3 b4 ⟨z.1.symm, z.2.symm⟩
    · by_cases g2 : a2 = s
      · rw [g2, n2, n3, (n4 a1 g1).1, (n4 a1 g1).2]
        exact hs a1 b1 b2
      · rw [(n4 a1 g1).1, (n4 a1 g1).2, (n4 a2 g2).1, (n4 a2 g2).2]
        exact q4 a1 a2 b1 b2 b3 b4 g
  · by_cases g : x = s
    · rw [g, n2, n3]; exact hl
    · rw [(n4 x g).1, (n4 x g).2]; exact q5 x a b
  · rw [sp_cb_c (c := fun r => decide (((S (r)).val : Int) = 7)) _ _ (fun j a b => by rw [n1 j (by omega)])]
    exact q6
section A2
variable {X : Nat × (Nat → Int)} {d : Nat} {t : List (Nat × Nat)} {p q : Nat} {E : Nat → Int → Int} {V : Int → Fin 65537} {U T : Int → Int → Fin 65537} {y im n : Int}
theorem C158 (h : zI V U T E p q y im n) {s c r : Int} (b1 : -2147483648 ≤ s ∧ s < 2147483648) (b2 : -2147483648 ≤ c ∧ c < 2147483648) (b3 : -2147483648 ≤ r ∧ r < 2147483648) : ∃ v F H, zf_ev X (d + 20) 158 (0, [vR 0, vI s, vI c, vI r], [], zH t p q E) = some (some [vI v], zH t p q F) ∧ zf_ev X (d + 20) 308 (0, [vR 60, vI s, vI c, vI r], [], zH t p q F) = some (some [vI v], zH t p q H) ∧ zJ H p q (n + 1) := by
  have hp : zo p := h.1.1
  have hp2 : p = 40 ∨ p = 50 := hp
  have hC : zC V E p := h.1.2.1
  by_cases g : (0 ≤ s ∧ s < ((V (3)).val : Int)) ∧ (0 ≤ c ∧ c < ((V (0)).val : Int)) ∧ 1 ≤ r ∧ r ≤ ((V (1)).val : Int)
  · obtain ⟨hV, -, -⟩ := h.D (by omega)
    have hk := hV.spks
    have hcl := hV.cols
    have hrr := hV.rows
    have hC0 : zC V (zu E 0 10 0) p := hC.fco hp zFC.u
    cases hl : sp_lamp V c r
    · cases hs : sp_spk V c r
      · have hh := h
        obtain ⟨i1, i2, i3, i4, i5, i6, i7⟩ := h
        have hnow := (hh.now hV).1
        have hsk : ∀ x, 0 ≤ x → x < ((V (3)).val : Int) → ¬ ((((zst V) (7 + 2 * x)).val : Int) = c ∧ (((zst V) (7 + 2 * x + 1)).val : Int) = r) := fun x a b z => by
          have : sp_spk V c r = true := by
            unfold sp_spk
            rw [fa_any_t]
            exact ⟨x, a, by omega, decide_eq_true z⟩
          rw [hs] at this
          cases this
        have hQ : zSt V (zsu (zsu (zst V) (7 + 2 * s) c) (7 + 2 * s + 1) r) (n + 1) := ⟨zQ_spot hV hnow.1 g.1.1 g.1.2 g.2.1 g.2.2 hl hsk, zBd_u (zBd_u (hnow.2.mono (by omega)) (by omega)) (by omega)⟩
        have hk1 : zSg (25 + s) = 7 + 2 * s := by unfold zSg; rw [if_neg (by omega), if_neg (by omega), if_neg (by omega), if_neg (by omega), if_pos (by omega)]; omega
        have hk2 : zSg (29 + s) = 7 + 2 * s + 1 := by unfold zSg; rw [if_neg (by omega), if_neg (by omega), if_neg (by omega), if_neg (by omega), if_neg (by omega), if_pos (by omega)]; omega
        obtain ⟨G, g1, g2, g3⟩ := T59 (X := X) (d := d + 19) (t := t) (p := p) (q := q) (E := zu E 0 10 0) (S := zst V) hp (i5.fr (fun a b u v => zu_ne (by omega))) i7.1 hC0.cell
        have c1 : zC (zup V (zsu (zsu (zst V) (7 + 2 * s) c) (7 + 2 * s + 1) r)) (zu (zu G (p + 1) (25 + s) c) (p + 1) (29 + s) r) p := hC0.st hV (fun a b u v w => by rw [zu_ne (Or.inl w), zu_ne (Or.inl w), g3 a b (by omega) (by omega)]) (zcell_u (zcell_u (fun c' u v => by rw [g3 _ _ (by omega) (by omega)]; exact hC0.cell c' u v) (by omega) hk1 (by omega)) (by omega) hk2 (by omega))
        have cf : ∀ a b, a ≠ 6 → a ≠ 7 → a ≠ p + 1 → (a ≠ 0 ∨ b ≠ 10) → zu (zu G (p + 1) (25 + s) c) (p + 1) (29 + s) r a b = E a b := fun a b u v w x => by rw [zu_ne (Or.inl w), zu_ne (Or.inl w), g3 a b u v, zu_ne x]
        have g60 : ∀ a b, 60 ≤ a → (a ≠ 60 ∨ b ≠ 0 ∧ b ≠ 11) → zg0 (zu (zu G (p + 1) (25 + s) c) (p + 1) (29 + s) r) a b = E a b := fun a b u v => by unfold zg0; rw [zu_ne (by omega), zu_ne (by omega), cf a b (by omega) (by omega) (by omega) (by omega)]
        have hR : zR V (zg0 (zu (zu G (p + 1) (25 + s) c) (p + 1) (29 + s) r)) := i1.2.2.1.fr (fun b => g60 _ _ (by omega) (by omega)) (fun b => g60 _ _ (by omega) (by omega))
        have h14 : zg0 (zu (zu G (p + 1) (25 + s) c) (p + 1) (29 + s) r) 60 14 = 1 := by rw [g60 _ _ (by omega) (by omega)]; exact (hh.now hV).2
        obtain ⟨K, k1, k2, k3⟩ := T302 (X := X) (d := d + 18) (t := t) (p := p) (q := q) (S := zst V) (E := zg0 (zu (zu G (p + 1) (25 + s) c) (p + 1) (29 + s) r)) (i6.fr (g60 _ _ (by omega) (by omega)) (g60 _ _ (by omega) (by omega)) (fun a b u v => g60 _ _ (by omega) (by omega))) i7.1 hR.cell
        have et : sp_taken V c r (-1) = false := by rw [sp_taken_n, hl, hs]; rfl
        have e265 := T265 (X := X) (d := d + 18) (t := t) (p := p) (q := q) hR hV (c := c) (r := r) (but := -1) (by omega) (by omega) (by omega)
        rw [et, fa_b_f] at e265
        have hps := i7.push hV
        refine ⟨1, zu (zu G (p + 1) (25 + s) c) (p + 1) (29 + s) r, zu (zu K 65 (7 + 2 * s) c) 65 (7 + 2 * s + 1) r, ?_, ?_, zup V (zsu (zsu (zst V) (7 + 2 * s) c) (7 + 2 * s + 1) r), zpush (zst V) U, T, zy y, im, hh.act hV hQ c1 (g2.fr (fun a b u v => by rw [zu_ne (by omega), zu_ne (by omega)])) ?_ (fun a b u1 u2 u3 u4 u5 u6 u7 u8 => cf a b u2 u3 u7 u8) (hR.st (fun b => by rw [zu_ne (by omega), zu_ne (by omega), k3 _ _ (by omega) (by omega)]) (zst_u (zst_u (fun k' u v => by rw [k3 _ _ (by omega) (by omega)]; exact hR.cell k' u v) (by omega)) (by omega))) (k2.fr (by rw [zu_ne (by omega), zu_ne (by omega)]) (by rw [zu_ne (by omega), zu_ne (by omega)]) (fun a b u v => by rw [zu_ne (by omega), zu_ne (by omega)])) ?_ (fun a b u v => ?_) (zy_r i7.1) i7.2.1 hps.1 hps.2⟩
        · simp (disch := omega) only [n32_id, zg_pos, if_pos, if_neg, zu_same, zu_ne, if_true, if_false, ne_eq, not_true_eq_false, not_false_eq_true, true_or, or_true, true_and, and_true, zg_true, fa_b_f, fa_b_t, L158_0 hp, L158_k6 hp, L158_k18, L158_k29 hp, L158_k43 hp, L158_k55 hp, L158_k79 hp, T22t hp hC, T26t hp hC, T168t, T27 hp hC0 hV, T28 hp hC0 hV, hl, hs, g1]
        · simp (disch := omega) only [n32_id, zg_pos, if_pos, if_neg, zu_same, zu_ne, if_true, if_false, ne_eq, not_true_eq_false, not_false_eq_true, true_or, or_true, true_and, and_true, zg_true, fa_b_f, fa_b_t, L308_0, L308_k1, L308_k6, L308_k14, L308_k22, L308_k30, L308_k38, L308_k46, L308_k51, T177, T214t hR h14, T216t hR h14, T217t hR h14, e265, k1]
        · rw [zu_ne (by omega), zu_ne (by omega), g3 _ _ (by omega) (by omega), zu_same]
        · rw [zu_ne (by omega), zu_ne (by omega), k3 _ _ (by omega) (by omega)]; rfl
        · rw [zu_ne (by omega), zu_ne (by omega), k3 a b (by omega) (by omega)]
          unfold zg0
          rw [zu_ne (by omega), zu_ne (by omega)]
      · have hR := (h.g2 (a := 5)).1
        have h1 := h.g1 hV (a := 5)
        have et : sp_taken V c r (-1) = true := by rw [sp_taken_n, hl, hs]; rfl
        have e265 := T265 (X := X) (d := d + 18) (t := t) (p := p) (q := q) hR hV (c := c) (r := r) (but := -1) (by omega) (by omega) (by omega)
        rw [et, fa_b_t] at e265
        refine ⟨0, zu (zu E 0 10 0) 0 10 5, zu (zg0 (zu E 0 10 5)) 60 11 5, ?_, ?_, h.ref (τ := 5) (by omega) rfl rfl⟩
        · simp (disch := omega) only [n32_id, zg_pos, if_pos, if_neg, zu_same, zu_ne, if_true, if_false, ne_eq, not_true_eq_false, not_false_eq_true, true_or, or_true, true_and, and_true, zg_true, fa_b_f, fa_b_t, L158_0 hp, L158_k6 hp, L158_k18, L158_k29 hp, L158_k43 hp, L158_k55 hp, L158_k79 hp, T22t hp hC, T26t hp hC, T168t, T27 hp hC0 hV, T28 hp hC0 hV, hl, hs]
        · rw [zu_zu]
          simp (disch := omega) only [n32_id, zg_pos, if_pos, if_neg, zu_same, zu_ne, if_true, if_false, ne_eq, not_true_eq_false, not_false_eq_true, true_or, or_true, true_and, and_true, zg_true, fa_b_f, fa_b_t, L308_0, L308_k1, L308_k6, L308_k14, L308_k22, L308_k30, L308_k38, L308_k46, L308_k51, T177, T214t hR h1, T216t hR h1, T217t hR h1, e265, L179_0]
    · have hR := (h.g2 (a := 5)).1
      have h1 := h.g1 hV (a := 5)
      have et : sp_taken V c r (-1) = true := by rw [sp_taken_n, hl]; rfl
      have e265 := T265 (X := X) (d := d + 18) (t := t) (p := p) (q := q) hR hV (c := c) (r := r) (but := -1) (by omega) (by omega) (by omega)
      rw [et, fa_b_t] at e265
      refine ⟨0, zu (zu E 0 10 0) 0 10 5, zu (zg0 (zu E 0 10 5)) 60 11 5, ?_, ?_, h.ref (τ := 5) (by omega) rfl rfl⟩
      · simp (disch := omega) only [n32_id, zg_pos, if_pos, if_neg, zu_same, zu_ne, if_true, if_false, ne_eq, not_true_eq_false, not_false_eq_true, true_or, or_true, true_and, and_true, zg_true, fa_b_f, fa_b_t, L158_0 hp, L158_k6 hp, L158_k18, L158_k29 hp, L158_k43 hp, L158_k55 hp, L158_k79 hp, T22t hp hC, T26t hp hC, T168t, T27 hp hC0 hV, hl]
      · rw [zu_zu]
        simp (disch := omega) only [n32_id, zg_pos, if_pos, if_neg, zu_same, zu_ne, if_true, if_false, ne_eq, not_true_eq_false, not_false_eq_true, true_or, or_true, true_and, and_true, zg_true, fa_b_f, fa_b_t, L308_0, L308_k1, L308_k6, L308_k14, L308_k22, L308_k30, L308_k38, L308_k46, L308_k51, T177, T214t hR h1, T216t hR h1, T217t hR h1, e265, L179_0]
  · have hR := (h.g2 (a := 1)).1
    have h1 := (h.g2 (a := 1)).2
    refine ⟨0, zu E 0 10 1, zu (zg0 (zu E 0 10 1)) 60 11 1, ?_, ?_, h.ref (τ := 1) (by omega) rfl rfl⟩
    · by_cases g1 : 0 ≤ s ∧ s < ((V (3)).val : Int)
      · simp (disch := omega) only [n32_id, zg_pos, if_pos, if_neg, zu_same, zu_ne, if_true, if_false, ne_eq, not_true_eq_false, not_false_eq_true, true_or, or_true, true_and, and_true, zg_true, fa_b_f, fa_b_t, L158_0 hp, L158_k6 hp, L158_k18, L158_k29 hp, L158_k43 hp, L158_k55 hp, L158_k79 hp, T22t hp hC, T26f hp hC, T168f]
      · simp (disch := omega) only [n32_id, zg_pos, if_pos, if_neg, zu_same, zu_ne, if_true, if_false, ne_eq, not_true_eq_false, not_false_eq_true, true_or, or_true, true_and, and_true, zg_true, fa_b_f, fa_b_t, L158_0 hp, L158_k6 hp, L158_k18, L158_k29 hp, L158_k43 hp, L158_k55 hp, L158_k79 hp, T22f hp hC, T168f]
    · by_cases g1 : 0 ≤ s ∧ s < ((V (3)).val : Int)
      · obtain ⟨hV, -, -⟩ := h.D (by omega)
        have h2 := h.g1 hV (a := 1)
        by_cases g2 : 0 ≤ c ∧ c < ((V (0)).val : Int)
        · simp (disch := omega) only [n32_id, zg_pos, if_pos, if_neg, zu_same, zu_ne, if_true, if_false, ne_eq, not_true_eq_false, not_false_eq_true, true_or, or_true, true_and, and_true, zg_true, fa_b_f, fa_b_t, L308_0, L308_k1, L308_k6, L308_k14, L308_k22, L308_k30, L308_k38, L308_k46, L308_k51, T177, T214t hR h2, T216t hR h2, T217f hR h1, L179_0]
        · simp (disch := omega) only [n32_id, zg_pos, if_pos, if_neg, zu_same, zu_ne, if_true, if_false, ne_eq, not_true_eq_false, not_false_eq_true, true_or, or_true, true_and, and_true, zg_true, fa_b_f, fa_b_t, L308_0, L308_k1, L308_k6, L308_k14, L308_k22, L308_k30, L308_k38, L308_k46, L308_k51, T177, T214t hR h2, T216f hR h1, L179_0]
      · simp (disch := omega) only [n32_id, zg_pos, if_pos, if_neg, zu_same, zu_ne, if_true, if_false, ne_eq, not_true_eq_false, not_false_eq_true, true_or, or_true, true_and, and_true, zg_true, fa_b_f, fa_b_t, L308_0, L308_k1, L308_k6, L308_k14, L308_k22, L308_k30, L308_k38, L308_k46, L308_k51, T177, T214f hR h1, L179_0]
/-- seed -/
theorem C160 (h : zI V U T E p q y im n) {v : Int} (b1 : -2147483648 ≤ v ∧ v < 2147483648) : ∃ w F H, zf_ev X (d + 20) 160 (0, [vR 0, vI v], [], zH t p q E) = some (some [vI w], zH t p q F) ∧ zf_ev X (d + 20) 310 (0, [vR 60, vI v], [], zH t p q F) = some (some [vI w], zH t p q H) ∧ zJ H p q (n + 1) := by
  have hp : zo p := h.1.1
  have hp2 : p = 40 ∨ p = 50 := hp
  have hC : zC V E p := h.1.2.1
  by_cases g : 0 < ((V (3)).val : Int)
  · obtain ⟨hV, -, -⟩ := h.D (by omega)
    have hC0 : zC V (zu E 0 10 0) p := hC.fco hp zFC.u
    by_cases g2 : 0 ≤ v ∧ v ≤ 65536
    · have hh := h
      obtain ⟨i1, i2, i3, i4, i5, i6, i7⟩ := h
      have hnow := (hh.now hV).1
      have hQ : zSt V (zsu (zst V) 38 v) (n + 1) := ⟨hnow.1.c hV (fun k a b => zsu_n (by omega)) (fun k a b => zsu_n (by omega)), zBd_u (hnow.2.mono (by omega)) (by omega)⟩
      have cf : ∀ a b, a ≠ p + 1 → (a ≠ 0 ∨ b ≠ 10) → zu (zu E 0 10 0) (p + 1) 38 v a b = E a b := fun a b u w => by rw [zu_ne (Or.inl u), zu_ne w]
      have g60 : ∀ a b, 60 ≤ a → (a ≠ 60 ∨ b ≠ 0 ∧ b ≠ 11) → zg0 (zu (zu E 0 10 0) (p + 1) 38 v) a b = E a b := fun a b u w => by unfold zg0; rw [zu_ne (by omega), zu_ne (by omega), cf a b (by omega) (by omega)]
      have hR : zR V (zg0 (zu (zu E 0 10 0) (p + 1) 38 v)) := i1.2.2.1.fr (fun b => g60 _ _ (by omega) (by omega)) (fun b => g60 _ _ (by omega) (by omega))
      have h14 : zg0 (zu (zu E 0 10 0) (p + 1) 38 v) 60 14 = 1 := by rw [g60 _ _ (by omega) (by omega)]; exact (hh.now hV).2
      have hsi : (∀ j, 0 ≤ j → j < y → zSt V (U j) (n + 1)) ∧ (∀ i, 0 ≤ i → i < im → zSt V (T i) (n + 1)) := by
        rcases i7.2.2 with ⟨a, b, c, e⟩ | ⟨a, -⟩
        · exact ⟨fun j u w => (c j u w).mono (by omega), fun i u w => (e i u w).mono (by omega)⟩
        · have := zG.no a
          omega
      refine ⟨1, zu (zu E 0 10 0) (p + 1) 38 v, zu (zg0 (zu (zu E 0 10 0) (p + 1) 38 v)) 65 38 v, ?_, ?_, zup V (zsu (zst V) 38 v), U, T, y, im, hh.act hV hQ (hC0.st hV (fun a b u w x => by rw [zu_ne (Or.inl x)]) (zcell_u (fun c' u w => hC0.cell c' u w) (by omega) (by decide) (by omega))) (i5.fr (fun a b u w => cf a b (by omega) (by omega))) ?_ (fun a b u1 u2 u3 u4 u5 u6 u7 u8 => cf a b u7 u8) (hR.st (fun b => zu_ne (by omega)) (zst_u hR.cell (by omega))) (i6.fr ?_ ?_ (fun a b u w => ?_)) ?_ (fun a b u w => ?_) i7.1 i7.2.1 hsi.1 hsi.2⟩
      · simp (disch := omega) only [n32_id, zg_pos, if_pos, if_neg, zu_same, zu_ne, if_true, if_false, ne_eq, not_true_eq_false, not_false_eq_true, true_or, or_true, true_and, and_true, zg_true, fa_b_f, fa_b_t, L160_0 hp, L160_k5, L160_k8, L160_k20 hp, T21t hp hC, T168t, T169t, zu_zu]
      · simp (disch := omega) only [n32_id, zg_pos, if_pos, if_neg, zu_same, zu_ne, if_true, if_false, ne_eq, not_true_eq_false, not_false_eq_true, true_or, or_true, true_and, and_true, zg_true, fa_b_f, fa_b_t, L310_0, L310_k1, L310_k13, L310_k22, L310_k30, T177, h14, T180t]
      · rw [zu_ne (by omega), zu_same]
      · rw [zu_ne (by omega), g60 _ _ (by omega) (by omega)]
      · rw [zu_ne (by omega), g60 _ _ (by omega) (by omega)]
      · rw [zu_ne (by omega), g60 _ _ (by omega) (by omega)]
      · rw [zu_ne (by omega)]; rfl
      · rw [zu_ne (by omega)]
        unfold zg0
        rw [zu_ne (by omega), zu_ne (by omega)]
    · have hR := (h.g2 (a := 2)).1
      have h1 := h.g1 hV (a := 2)
      refine ⟨0, zu E 0 10 2, zu (zg0 (zu E 0 10 2)) 60 11 2, ?_, ?_, h.ref (τ := 2) (by omega) rfl rfl⟩
      · simp (disch := omega) only [n32_id, zg_pos, if_pos, if_neg, zu_same, zu_ne, if_true, if_false, ne_eq, not_true_eq_false, not_false_eq_true, true_or, or_true, true_and, and_true, zg_true, fa_b_f, fa_b_t, L160_0 hp, L160_k5, L160_k8, L160_k20 hp, T21t hp hC, T168t, T169f, zu_zu]
      · simp (disch := omega) only [n32_id, zg_pos, if_pos, if_neg, zu_same, zu_ne, if_true, if_false, ne_eq, not_true_eq_false, not_false_eq_true, true_or, or_true, true_and, and_true, zg_true, fa_b_f, fa_b_t, L310_0, L310_k1, L310_k13, L310_k22, L310_k30, T177, h1, T180f, L179_0]
  · have h14 : zg0 (zu E 0 10 1) 60 14 = 0 := (h.1.fc (zFC.u (z := 1))).not (by omega)
    refine ⟨0, zu E 0 10 1, zu (zg0 (zu E 0 10 1)) 60 11 1, ?_, ?_, h.ref (τ := 1) (by omega) rfl rfl⟩
    · simp (disch := omega) only [n32_id, zg_pos, if_pos, if_neg, zu_same, zu_ne, if_true, if_false, ne_eq, not_true_eq_false, not_false_eq_true, true_or, or_true, true_and, and_true, zg_true, fa_b_f, fa_b_t, L160_0 hp, L160_k5, L160_k8, L160_k20 hp, T21f hp hC, T168f]
    · simp (disch := omega) only [n32_id, zg_pos, if_pos, if_neg, zu_same, zu_ne, if_true, if_false, ne_eq, not_true_eq_false, not_false_eq_true, true_or, or_true, true_and, and_true, zg_true, fa_b_f, fa_b_t, L310_0, L310_k1, L310_k13, L310_k22, L310_k30, T177, h14, L179_0]
theorem zI.V0 (h : zI V U T E p q y im n) (hy : 0 < y ∨ 0 < im) : zV V := by
  obtain ⟨i1, i2, i3, i4, i5, i6, i7⟩ := h
  rcases i7.2.2 with ⟨a, -⟩ | ⟨-, b, c⟩
  · exact a
  · omega
theorem zI.hist (h : zI V U T E p q y im n) (hV : zV V) : (∀ j, 0 ≤ j → j < y → zSt V (U j) (n + 1)) ∧ (∀ i, 0 ≤ i → i < im → zSt V (T i) (n + 1)) := by
  obtain ⟨i1, i2, i3, i4, i5, i6, i7⟩ := h
  rcases i7.2.2 with ⟨a, b, c, e⟩ | ⟨a, -⟩
  · exact ⟨fun j u w => (c j u w).mono (by omega), fun i u w => (e i u w).mono (by omega)⟩
  · have := zG.no a
    have := hV.spks
    omega
/-- undo -/
theorem C161 (h : zI V U T E p q y im n) : ∃ w F H, zf_ev X (d + 20) 161 (0, [vR 0], [], zH t p q E) = some (some [vI w], zH t p q F) ∧ zf_ev X (d + 20) 311 (0, [vR 60], [], zH t p q F) = some (some [vI w], zH t p q H) ∧ zJ H p q (n + 1) := by
  have hh := h
  obtain ⟨i1, i2, i3, i4, i5, i6, i7⟩ := h
  have hp : zo p := i1.1
  have hp2 : p = 40 ∨ p = 50 := hp
  have hC : zC V E p := i1.2.1
  have hy := i7.1
  have e63 : E 6 3 = y := i5.1.1
  by_cases g : y = 0
  · have e20 : zg0 (zu E 0 10 6) 60 20 = y := by unfold zg0; rw [zu_ne (by omega), zu_ne (by omega), zu_ne (by omega)]; exact i6.1.1
    refine ⟨0, zu E 0 10 6, zu (zg0 (zu E 0 10 6)) 60 11 6, ?_, ?_, hh.ref (τ := 6) (by omega) rfl rfl⟩
    · simp (disch := omega) only [n32_id, zg_pos, if_pos, if_neg, zu_same, zu_ne, if_true, if_false, ne_eq, not_true_eq_false, not_false_eq_true, true_or, or_true, true_and, and_true, zg_true, fa_b_f, fa_b_t, L161_0 hp, L161_k34, e63]
    · simp (disch := omega) only [n32_id, zg_pos, if_pos, if_neg, zu_same, zu_ne, if_true, if_false, ne_eq, not_true_eq_false, not_false_eq_true, true_or, or_true, true_and, and_true, zg_true, fa_b_f, fa_b_t, L311_0, L311_k1, L311_k14, L311_k46, T177, e20, L179_0]
  · have hV := hh.V0 (by omega)
    have hC0 : zC V (zu E 0 10 0) p := hC.fco hp zFC.u
    obtain ⟨F, f1, f2, f3, f4⟩ := T60 (X := X) (d := d + 19) (t := t) (p := p) (q := q) (E := zu E 0 10 0) hp (i5.fr (fun a b u v => zu_ne (by omega))) (by omega)
    have cf : ∀ a b, a ≠ 6 → a ≠ p + 1 → (a ≠ 0 ∨ b ≠ 10) → F a b = E a b := fun a b u w x => by rw [f4 a b u w, zu_ne x]
    have g60 : ∀ a b, 60 ≤ a → (a ≠ 60 ∨ b ≠ 0 ∧ b ≠ 11) → zg0 F a b = E a b := fun a b u w => by unfold zg0; rw [zu_ne (by omega), zu_ne (by omega), cf a b (by omega) (by omega) (by omega)]
    have e20 : zg0 F 60 20 = y := by rw [g60 _ _ (by omega) (by omega)]; exact i6.1.1
    have hi := hh.hist hV
    have hR : zR V (zg0 F) := i1.2.2.1.fr (fun b => g60 _ _ (by omega) (by omega)) (fun b => g60 _ _ (by omega) (by omega))
    refine ⟨1, F, zfill (zu (zg0 F) 60 20 (y - 1)) 65 0 39 (fun x => zg0 F 66 (39 * (y - 1) + x)), ?_, ?_, zup V (U 0), fun j => U (j + 1), T, y - 1, im, hh.act hV (hi.1 0 (by omega) (by omega)) (hC0.st hV (fun a b u w x => f4 a b (by omega) x) f3) f2 ?_ (fun a b u1 u2 u3 u4 u5 u6 u7 u8 => cf a b u2 u7 u8) (hR.st (fun b => by rw [zfill_ne (by omega), zu_ne (by omega)]) (fun k u w => ?_)) ⟨⟨?_, ?_⟩, fun j a b k u w => ?_, fun i a b k u w => ?_⟩ ?_ (fun a b u w => ?_) (by omega) i7.2.1 (fun j a b => hi.1 (j + 1) (by omega) (by omega)) hi.2⟩
    · simp (disch := omega) only [n32_id, zg_pos, if_pos, if_neg, zu_same, zu_ne, if_true, if_false, ne_eq, not_true_eq_false, not_false_eq_true, true_or, or_true, true_and, and_true, zg_true, fa_b_f, fa_b_t, L161_0 hp, L161_k34, e63, f1]
    · simp (disch := omega) only [n32_id, zg_pos, if_pos, if_neg, zu_same, zu_ne, if_true, if_false, ne_eq, not_true_eq_false, not_false_eq_true, true_or, or_true, true_and, and_true, zg_true, fa_b_f, fa_b_t, L311_0, L311_k1, L311_k14, L311_k46, T177, e20]
      rw [T183 (a := 66) (b := 65) (n := 624) (m := 39) rfl rfl (by omega) (by omega) (by omega) (by omega) (by omega) (by omega) (by omega) (by omega), L311_k46]
      have e3 : zfill (zu (zg0 F) 60 20 (y - 1)) 65 0 (0 + 39) (fun x => zu (zg0 F) 60 20 (y - 1) 66 (39 * (y - 1) + (x - 0))) = zfill (zu (zg0 F) 60 20 (y - 1)) 65 0 39 (fun x => zg0 F 66 (39 * (y - 1) + x)) := by
        congr 1
        funext x
        rw [zu_ne (by omega), show x - 0 = x by omega]
      rw [e3]
    · rw [f4 _ _ (by omega) (by omega), zu_same]
    · rw [zfill_in u w, g60 _ _ (by omega) (by omega)]
      have := i6.2.1 0 (by omega) (by omega) k u w
      rw [show y - 1 - 0 = y - 1 by omega] at this
      exact this
    · rw [zfill_ne (by omega), zu_same]
    · rw [zfill_ne (by omega), zu_ne (by omega), g60 _ _ (by omega) (by omega)]
      exact i6.1.2
    · rw [zfill_ne (by omega), zu_ne (by omega), g60 _ _ (by omega) (by omega), show y - 1 - 1 - j = y - 1 - (j + 1) by omega]
      exact i6.2.1 (j + 1) (by omega) (by omega) k u w
    · rw [zfill_ne (by omega), zu_ne (by omega), g60 _ _ (by omega) (by omega)]
      exact i6.2.2 i a b k u w
    · rw [zfill_ne (by omega), zu_ne (by omega)]; rfl
    · rw [zfill_ne (by omega), zu_ne (by omega)]
      unfold zg0
      rw [zu_ne (by omega), zu_ne (by omega)]
/-- image -/
theorem C162 (h : zI V U T E p q y im n) : ∃ w F H, zf_ev X (d + 20) 162 (0, [vR 0], [], zH t p q E) = some (some [vI w], zH t p q F) ∧ zf_ev X (d + 20) 312 (0, [vR 60], [], zH t p q F) = some (some [vI w], zH t p q H) ∧ zJ H p q (n + 1) := by
  have hh := h
  obtain ⟨i1, i2, i3, i4, i5, i6, i7⟩ := h
  have hp : zo p := i1.1
  have hp2 : p = 40 ∨ p = 50 := hp
  have hC : zC V E p := i1.2.1
  have him := i7.2.1
  by_cases g : 0 < ((V (3)).val : Int)
  · obtain ⟨hV, -, -⟩ := hh.D (by omega)
    have hC0 : zC V (zu E 0 10 0) p := hC.fco hp zFC.u
    have e64 : zu E 0 10 0 6 4 = im := by rw [zu_ne (by omega)]; exact i5.1.2
    have e64' : E 6 4 = im := i5.1.2
    by_cases g2 : im = 3
    · have hR := (hh.g2 (a := 3)).1
      have h1 := hh.g1 hV (a := 3)
      have e21 : zg0 (zu E 0 10 3) 60 21 = im := by unfold zg0; rw [zu_ne (by omega), zu_ne (by omega), zu_ne (by omega)]; exact i6.1.2
      refine ⟨-1, zu E 0 10 3, zu (zg0 (zu E 0 10 3)) 60 11 3, ?_, ?_, hh.ref (τ := 3) (by omega) rfl rfl⟩
      · simp (disch := omega) only [n32_id, zg_pos, if_pos, if_neg, zu_same, zu_ne, if_true, if_false, ne_eq, not_true_eq_false, not_false_eq_true, true_or, or_true, true_and, and_true, zg_true, fa_b_f, fa_b_t, L162_0 hp, L162_k5, L162_k8, L162_k20 hp, L162_k28, L162_k43, T21t hp hC, T168t, L61_0, e64', L167_0, zu_zu]
      · simp (disch := omega) only [n32_id, zg_pos, if_pos, if_neg, zu_same, zu_ne, if_true, if_false, ne_eq, not_true_eq_false, not_false_eq_true, true_or, or_true, true_and, and_true, zg_true, fa_b_f, fa_b_t, L312_0, L312_k1, L312_k13, L312_k27, L312_k49, T177, h1, e21, L178_0]
    · obtain ⟨F, f1, f2, f3⟩ := T62 (X := X) (d := d + 19) (t := t) (p := p) (q := q) (E := zu E 0 10 0) (S := zst V) hp (i5.fr (fun a b u v => zu_ne (by omega))) (by omega) hC0.cell
      have cf : ∀ a b, a ≠ 6 → a ≠ 8 → (a ≠ 0 ∨ b ≠ 10) → F a b = E a b := fun a b u w x => by rw [f3 a b u w, zu_ne x]
      have g60 : ∀ a b, 60 ≤ a → (a ≠ 60 ∨ b ≠ 0 ∧ b ≠ 11) → zg0 F a b = E a b := fun a b u w => by unfold zg0; rw [zu_ne (by omega), zu_ne (by omega), cf a b (by omega) (by omega) (by omega)]
      have e21 : zg0 F 60 21 = im := by rw [g60 _ _ (by omega) (by omega)]; exact i6.1.2
      have h14 : zg0 F 60 14 = 1 := by rw [g60 _ _ (by omega) (by omega)]; exact (hh.now hV).2
      have hi := hh.hist hV
      have hnow := (hh.now hV).1
      have hR : zR V (zg0 F) := i1.2.2.1.fr (fun b => g60 _ _ (by omega) (by omega)) (fun b => g60 _ _ (by omega) (by omega))
      have c1 : zC (zup V (zst V)) F p := by rw [zup_st]; exact hC0.fr (fun a b u w => f3 a b (by omega) (by omega))
      refine ⟨im, F, zu (zfill (zg0 F) 67 (39 * im) (39 * im + 39) (fun x => zg0 F 65 (0 + (x - 39 * im)))) 60 21 (im + 1), ?_, ?_, zup V (zst V), U, zput T im (zst V), y, im + 1, hh.act hV (hnow.mono (by omega)) c1 f2 ?_ (fun a b u1 u2 u3 u4 u5 u6 u7 u8 => cf a b u2 u4 u8) ?_ ⟨⟨?_, ?_⟩, fun j a b k u w => ?_, fun i a b k u w => ?_⟩ ?_ (fun a b u w => ?_) i7.1 (by omega) hi.1 (fun i a b => ?_)⟩
      · simp (disch := omega) only [n32_id, zg_pos, if_pos, if_neg, zu_same, zu_ne, if_true, if_false, ne_eq, not_true_eq_false, not_false_eq_true, true_or, or_true, true_and, and_true, zg_true, fa_b_f, fa_b_t, L162_0 hp, L162_k5, L162_k8, L162_k20 hp, L162_k28, L162_k43, T21t hp hC, T168t, L61_0, e64', f1]
      · simp (disch := omega) only [n32_id, zg_pos, if_pos, if_neg, zu_same, zu_ne, if_true, if_false, ne_eq, not_true_eq_false, not_false_eq_true, true_or, or_true, true_and, and_true, zg_true, fa_b_f, fa_b_t, L312_0, L312_k1, L312_k13, L312_k27, L312_k49, T177, h14, e21]
        rw [T183 (a := 65) (b := 67) (n := 39) (m := 117) rfl rfl (by omega) (by omega) (by omega) (by omega) (by omega) (by omega) (by omega) (by omega), L312_k49, zu_same, zfill_ne (by omega), e21, show im + 1 - 1 = im by omega]
      · rw [f3 _ _ (by omega) (by omega), zu_same]
      · rw [zup_st]
        exact hR.fr (fun b => by rw [zu_ne (by omega), zfill_ne (by omega)]) (fun b => by rw [zu_ne (by omega), zfill_ne (by omega)])
      · rw [zu_ne (by omega), zfill_ne (by omega), g60 _ _ (by omega) (by omega)]
        exact i6.1.1
      · rw [zu_same]
      · rw [zu_ne (by omega), zfill_ne (by omega), g60 _ _ (by omega) (by omega)]
        exact i6.2.1 j a b k u w
      · rw [zu_ne (by omega)]
        unfold zput
        by_cases g3 : i = im
        · rw [if_pos g3, g3, zfill_in (by omega) (by omega), show 0 + (39 * im + k - 39 * im) = k by omega]
          exact hR.cell k u w
        · rw [if_neg g3]
          unfold zfill
          rw [if_neg (by omega), g60 _ _ (by omega) (by omega)]
          exact i6.2.2 i a (by omega) k u w
      · rw [zu_ne (by omega), zfill_ne (by omega)]; rfl
      · rw [zu_ne (by omega), zfill_ne (by omega)]
        unfold zg0
        rw [zu_ne (by omega), zu_ne (by omega)]
      · unfold zput
        by_cases g3 : i = im
        · rw [if_pos g3]; exact hnow.mono (by omega)
        · rw [if_neg g3]; exact hi.2 i a (by omega)
  · have h14 : zg0 (zu E 0 10 1) 60 14 = 0 := (hh.1.fc (zFC.u (z := 1))).not (by omega)
    refine ⟨-1, zu E 0 10 1, zu (zg0 (zu E 0 10 1)) 60 11 1, ?_, ?_, hh.ref (τ := 1) (by omega) rfl rfl⟩
    · simp (disch := omega) only [n32_id, zg_pos, if_pos, if_neg, zu_same, zu_ne, if_true, if_false, ne_eq, not_true_eq_false, not_false_eq_true, true_or, or_true, true_and, and_true, zg_true, fa_b_f, fa_b_t, L162_0 hp, L162_k5, L162_k8, L162_k20 hp, L162_k28, L162_k43, T21f hp hC, T168f]
    · simp (disch := omega) only [n32_id, zg_pos, if_pos, if_neg, zu_same, zu_ne, if_true, if_false, ne_eq, not_true_eq_false, not_false_eq_true, true_or, or_true, true_and, and_true, zg_true, fa_b_f, fa_b_t, L312_0, L312_k1, L312_k13, L312_k27, L312_k49, T177, h14, L178_0]
/-- back -/
theorem C163 (h : zI V U T E p q y im n) {i : Int} (b1 : -2147483648 ≤ i ∧ i < 2147483648) : ∃ w F H, zf_ev X (d + 20) 163 (0, [vR 0, vI i], [], zH t p q E) = some (some [vI w], zH t p q F) ∧ zf_ev X (d + 20) 313 (0, [vR 60, vI i], [], zH t p q F) = some (some [vI w], zH t p q H) ∧ zJ H p q (n + 1) := by
  have hh := h
  obtain ⟨i1, i2, i3, i4, i5, i6, i7⟩ := h
  have hp : zo p := i1.1
  have hp2 : p = 40 ∨ p = 50 := hp
  have hC : zC V E p := i1.2.1
  have him := i7.2.1
  have e64 : E 6 4 = im := i5.1.2
  by_cases g : 0 ≤ i ∧ i < im
  · have hV := hh.V0 (by omega)
    have hC0 : zC V (zu E 0 10 0) p := hC.fco hp zFC.u
    obtain ⟨F, f1, f2, f3, f4⟩ := T63 (X := X) (d := d + 19) (t := t) (p := p) (q := q) (E := zu E 0 10 0) hp (i5.fr (fun a b u v => zu_ne (by omega))) g him.2
    have cf : ∀ a b, a ≠ 6 → a ≠ p + 1 → (a ≠ 0 ∨ b ≠ 10) → F a b = E a b := fun a b u w x => by rw [f4 a b u w, zu_ne x]
    have g60 : ∀ a b, 60 ≤ a → (a ≠ 60 ∨ b ≠ 0 ∧ b ≠ 11) → zg0 F a b = E a b := fun a b u w => by unfold zg0; rw [zu_ne (by omega), zu_ne (by omega), cf a b (by omega) (by omega) (by omega)]
    have e21 : zg0 F 60 21 = im := by rw [g60 _ _ (by omega) (by omega)]; exact i6.1.2
    have hi := hh.hist hV
    have hR : zR V (zg0 F) := i1.2.2.1.fr (fun b => g60 _ _ (by omega) (by omega)) (fun b => g60 _ _ (by omega) (by omega))
    refine ⟨1, F, zu (zfill (zg0 F) 65 0 39 (fun x => zg0 F 67 (39 * i + x))) 60 20 0, ?_, ?_, zup V (T i), U, T, 0, im, hh.act hV (hi.2 i g.1 g.2) (hC0.st hV (fun a b u w x => f4 a b (by omega) x) f3) f2 ?_ (fun a b u1 u2 u3 u4 u5 u6 u7 u8 => cf a b u2 u7 u8) (hR.st (fun b => by rw [zu_ne (by omega), zfill_ne (by omega)]) (fun k u w => ?_)) ⟨⟨?_, ?_⟩, fun j a b => by omega, fun i' a b k u w => ?_⟩ ?_ (fun a b u w => ?_) (by omega) him (fun j a b => by omega) hi.2⟩
    · simp (disch := omega) only [n32_id, zg_pos, if_pos, if_neg, zu_same, zu_ne, if_true, if_false, ne_eq, not_true_eq_false, not_false_eq_true, true_or, or_true, true_and, and_true, zg_true, fa_b_f, fa_b_t, L163_0, L163_k21 hp, L163_k41, e64, T168t, f1]
    · simp (disch := omega) only [n32_id, zg_pos, if_pos, if_neg, zu_same, zu_ne, if_true, if_false, ne_eq, not_true_eq_false, not_false_eq_true, true_or, or_true, true_and, and_true, zg_true, fa_b_f, fa_b_t, L313_0, L313_k1, L313_k12, L313_k20, L313_k39, T177, e21, T180t]
      rw [T183 (a := 67) (b := 65) (n := 117) (m := 39) rfl rfl (by omega) (by omega) (by omega) (by omega) (by omega) (by omega) (by omega) (by omega), L313_k39]
      have e3 : zfill (zg0 F) 65 0 (0 + 39) (fun x => zg0 F 67 (39 * i + (x - 0))) = zfill (zg0 F) 65 0 39 (fun x => zg0 F 67 (39 * i + x)) := by
        congr 1
        funext x
        rw [show x - 0 = x by omega]
      rw [e3]
    · rw [f4 _ _ (by omega) (by omega), zu_same]
    · rw [zu_ne (by omega), zfill_in u w, g60 _ _ (by omega) (by omega)]
      exact i6.2.2 i g.1 g.2 k u w
    · rw [zu_same]
    · rw [zu_ne (by omega), zfill_ne (by omega), g60 _ _ (by omega) (by omega)]
      exact i6.1.2
    · rw [zu_ne (by omega), zfill_ne (by omega), g60 _ _ (by omega) (by omega)]
      exact i6.2.2 i' a b k u w
    · rw [zu_ne (by omega), zfill_ne (by omega)]; rfl
    · rw [zu_ne (by omega), zfill_ne (by omega)]
      unfold zg0
      rw [zu_ne (by omega), zu_ne (by omega)]
  · have e21 : zg0 (zu E 0 10 1) 60 21 = im := by unfold zg0; rw [zu_ne (by omega), zu_ne (by omega), zu_ne (by omega)]; exact i6.1.2
    refine ⟨0, zu E 0 10 1, zu (zg0 (zu E 0 10 1)) 60 11 1, ?_, ?_, hh.ref (τ := 1) (by omega) rfl rfl⟩
    · by_cases g2 : i < 0
      · simp (disch := omega) only [n32_id, zg_pos, if_pos, if_neg, zu_same, zu_ne, if_true, if_false, ne_eq, not_true_eq_false, not_false_eq_true, true_or, or_true, true_and, and_true, zg_true, fa_b_f, fa_b_t, L163_0, L163_k21 hp, L163_k41, e64, T168f]
      · simp (disch := omega) only [n32_id, zg_pos, if_pos, if_neg, zu_same, zu_ne, if_true, if_false, ne_eq, not_true_eq_false, not_false_eq_true, true_or, or_true, true_and, and_true, zg_true, fa_b_f, fa_b_t, L163_0, L163_k21 hp, L163_k41, e64, T168f]
    · simp (disch := omega) only [n32_id, zg_pos, if_pos, if_neg, zu_same, zu_ne, if_true, if_false, ne_eq, not_true_eq_false, not_false_eq_true, true_or, or_true, true_and, and_true, zg_true, fa_b_f, fa_b_t, L313_0, L313_k1, L313_k12, L313_k20, L313_k39, T177, e21, T180f, L179_0]
end A2

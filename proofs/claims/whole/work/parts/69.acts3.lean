/-! session; what is told -/
section A3
variable {X : Nat × (Nat → Int)} {d : Nat} {t : List (Nat × Nat)} {p q : Nat} {E : Nat → Int → Int} {V : Int → Fin 65537} {U T : Int → Int → Fin 65537} {y im n : Int}
theorem C159 (h : zI V U T E p q y im n) (hn : 0 ≤ n ∧ n ≤ 600) : ∃ w F H, zf_ev X (d + 20) 159 (0, [vR 0, vJ], [], zH t p q E) = some (some [vI w], zH t p q F) ∧ zf_ev X (d + 20) 309 (0, [vR 60, vJ], [], zH t p q F) = some (some [vI w], zH t p q H) ∧ zJ H p q (n + 1) := by
  have hh := h
  obtain ⟨i1, i2, i3, i4, i5, i6, i7⟩ := h
  have hp : zo p := i1.1
  have hp2 : p = 40 ∨ p = 50 := hp
  have hC : zC V E p := i1.2.1
  by_cases g : 0 < ((V (3)).val : Int)
  · obtain ⟨hV, -, -⟩ := hh.D (by omega)
    have hk := hV.spks
    have hC0 : zC V (zu E 0 10 0) p := hC.fco hp zFC.u
    have hnow := (hh.now hV).1
    have hps := i7.push hV
    have hx : 0 ≤ ((V (200 + 38)).val : Int) ∧ ((V (200 + 38)).val : Int) ≤ 65536 := by omega
    have hsx := sp_sx_r (V := V) hx
    have hw := sp_sw_r hV (x := ((V (200 + 38)).val : Int))
    have hb1 : ((V (200 + 37)).val : Int) ≤ n := hnow.2.1
    have hb2 : ∀ s, 0 ≤ s → s < 4 → ((V (200 + (15 + s))).val : Int) ≤ n := hnow.2.2
    obtain ⟨G, g1, g2, g3⟩ := T59 (X := X) (d := d + 19) (t := t) (p := p) (q := q) (E := zu E 0 10 0) (S := zst V) hp (i5.fr (fun a b u v => zu_ne (by omega))) i7.1 hC0.cell
    have hC1 : zC V G p := hC0.fr (fun a b _ _ => g3 a b (by omega) (by omega))
    obtain ⟨A, a1, a2, a3, a4, a5, a6, a7⟩ := T5 (X := X) (d := d + 15) (t := t) (p := p) (q := q) hp hC1 hV (x := ((V (200 + 38)).val : Int))
    have hC2 : zC V A p := hC1.fr (fun a b _ _ => a7 a b (by omega) (by omega) (by omega) (by omega) (by omega))
    obtain ⟨B, c1, c2, c3, c4, c5, c6⟩ := T6 (X := X) (d := d + 18) (t := t) (p := p) (q := q) hp hC2 hV hx a2 a3
    have hC3 : zC V B p := hC2.fr (fun a b _ _ => c6 a b (by omega) (by omega) (by omega) (by omega) (by omega) (by omega))
    have cfr : ∀ a b, (a < 33 ∨ 39 < a) → a ≠ 6 → a ≠ 7 → (a ≠ 0 ∨ b ≠ 10) → B a b = E a b := fun a b u1 u2 u3 u4 => by rw [c6 a b (by omega) (by omega) (by omega) (by omega) (by omega) (by omega), a7 a b (by omega) (by omega) (by omega) (by omega) (by omega), g3 a b u2 u3, zu_ne u4]
    have e37 := hC3.held
    have hPB : zPC (zpush (zst V) U) T B (zy y) im := g2.fr (fun a b u v => by rw [c6 a b (by omega) (by omega) (by omega) (by omega) (by omega) (by omega), a7 a b (by omega) (by omega) (by omega) (by omega) (by omega)])
    have main : ∀ (F : Nat → Int → Int) (S : Int → Fin 65537), zf_ev X (d + 20) 159 (0, [vR 0, vJ], [], zH t p q E) = some (some [vI (sp_sw V ((V (200 + 38)).val : Int))], zH t p q F) → (∀ a b, a ≠ p + 1 → F a b = B a b) → (∀ c, 0 ≤ c → c < 39 → F (p + 1) c = ((S (zSg c)).val : Int)) → zSt V S (n + 1) → (∀ M : Nat → Int → Int, zR V M → M 60 37 = sp_sx V ((V (200 + 38)).val : Int) → ∃ N, zf_k X (d + 20) 309 33 [vR 60, vJ] [] (some (some [vI (sp_sw V ((V (200 + 38)).val : Int))], zH t p q M)) = some (some [vI (sp_sw V ((V (200 + 38)).val : Int))], zH t p q N) ∧ (∀ k, 0 ≤ k → k < 39 → N 65 k = ((S (k)).val : Int)) ∧ (∀ a b, a ≠ 65 → N a b = M a b)) → ∃ w F H, zf_ev X (d + 20) 159 (0, [vR 0, vJ], [], zH t p q E) = some (some [vI w], zH t p q F) ∧ zf_ev X (d + 20) 309 (0, [vR 60, vJ], [], zH t p q F) = some (some [vI w], zH t p q H) ∧ zJ H p q (n + 1) := by
      intro F S hF hf hc hS hN
      have ff : ∀ a b, a ≠ p + 1 → (a < 33 ∨ 39 < a) → a ≠ 6 → a ≠ 7 → (a ≠ 0 ∨ b ≠ 10) → F a b = E a b := fun a b u0 u1 u2 u3 u4 => by rw [hf a b u0, cfr a b u1 u2 u3 u4]
      have g60 : ∀ a b, 60 ≤ a → (a ≠ 60 ∨ b ≠ 0 ∧ b ≠ 11) → zg0 F a b = E a b := fun a b u v => by unfold zg0; rw [zu_ne (by omega), zu_ne (by omega), ff a b (by omega) (by omega) (by omega) (by omega) (by omega)]
      have hR : zR V (zg0 F) := i1.2.2.1.fr (fun b => g60 _ _ (by omega) (by omega)) (fun b => g60 _ _ (by omega) (by omega))
      have h14 : zg0 F 60 14 = 1 := by rw [g60 _ _ (by omega) (by omega)]; exact (hh.now hV).2
      obtain ⟨K, k1, k2, k3⟩ := T302 (X := X) (d := d + 18) (t := t) (p := p) (q := q) (S := zst V) (E := zg0 F) (i6.fr (g60 _ _ (by omega) (by omega)) (g60 _ _ (by omega) (by omega)) (fun a b u v => g60 _ _ (by omega) (by omega))) i7.1 hR.cell
      have hRK : zR V K := hR.fr (fun b => k3 _ _ (by omega) (by omega)) (fun b => k3 _ _ (by omega) (by omega))
      obtain ⟨M, m1, m2, m3, m4, m5⟩ := T297 (X := X) (d := d + 16) (t := t) (p := p) (q := q) (E := zu K 60 37 ((V (200 + 38)).val : Int)) hRK.u37 hV hx zu_same
      have hRM : zR V M := hRK.u37.fr (fun b => m5 _ _ (by omega) (by omega) (by omega) (by omega) (by omega)) (fun b => m5 _ _ (by omega) (by omega) (by omega) (by omega) (by omega))
      obtain ⟨N, n1, n2, n3⟩ := hN M hRM m2
      have nf : ∀ a b, (a < 65 ∨ 76 < a ∨ a = 67) → (a ≠ 60 ∨ b ≠ 37 ∧ b ≠ 20) → N a b = zg0 F a b := fun a b u v => by rw [n3 a b (by omega), m5 a b (by omega) (by omega) (by omega) (by omega) (by omega), zu_ne (by omega), k3 a b (by omega) (by omega)]
      have e38 := hRK.s 38 (by omega) (by omega)
      refine ⟨_, F, N, hF, ?_, zup V S, zpush (zst V) U, T, zy y, im, hh.act hV hS (hC0.st hV (fun a b u v w => by rw [hf a b w, c6 a b (by omega) (by omega) (by omega) (by omega) (by omega) (by omega), a7 a b (by omega) (by omega) (by omega) (by omega) (by omega), g3 a b (by omega) (by omega)]) hc) (hPB.fr (fun a b u v => hf a b (by omega))) ?_ (fun a b u1 u2 u3 u4 u5 u6 u7 u8 => ff a b u7 (by omega) u2 u3 u8) (hR.st (fun b => nf _ _ (by omega) (by omega)) n2) (k2.fr ?_ ?_ (fun a b u v => ?_)) ?_ (fun a b u v => ?_) (zy_r i7.1) i7.2.1 hps.1 hps.2⟩
      · simp (disch := omega) only [n32_id, zg_pos, if_pos, if_neg, zu_same, zu_ne, if_true, if_false, ne_eq, not_true_eq_false, not_false_eq_true, true_or, or_true, true_and, and_true, zg_true, fa_b_f, fa_b_t, L309_0, L309_k1, L309_k13, L309_k18, L309_k33, T177, h14, k1]
        rw [e38, m1]
        exact n1
      · rw [hf _ _ (by omega), c6 _ _ (by omega) (by omega) (by omega) (by omega) (by omega) (by omega), a7 _ _ (by omega) (by omega) (by omega) (by omega) (by omega), g3 _ _ (by omega) (by omega), zu_same]
      · rw [n3 _ _ (by omega), m5 _ _ (by omega) (by omega) (by omega) (by omega) (by omega), zu_ne (by omega)]
      · rw [n3 _ _ (by omega), m5 _ _ (by omega) (by omega) (by omega) (by omega) (by omega), zu_ne (by omega)]
      · rw [n3 _ _ (by omega), m5 _ _ (by omega) (by omega) (by omega) (by omega) (by omega), zu_ne (by omega)]
      · rw [nf _ _ (by omega) (by omega)]; rfl
      · rw [nf a b (by omega) (by omega)]
        unfold zg0
        rw [zu_ne (by omega), zu_ne (by omega)]
    have z38 : zSg 38 = 38 := by decide
    have z37 : zSg 37 = 37 := by decide
    have cells : ∀ c, 0 ≤ c → c < 39 → zu (zu B (p + 1) 38 (sp_sx V ((V (200 + 38)).val : Int))) (p + 1) 37 (((V (200 + 37)).val : Int) + 1) (p + 1) c = (((zsu (zsu (zst V) 38 (sp_sx V ((V (200 + 38)).val : Int))) 37 (((V (200 + 37)).val : Int) + 1)) (zSg c)).val : Int) := zcell_u (zcell_u (fun c' u v => hC3.cell c' u v) (by omega) z38 (by omega)) (by omega) z37 (by omega)
    have qS : zQ V (zsu (zsu (zst V) 38 (sp_sx V ((V (200 + 38)).val : Int))) 37 (((V (200 + 37)).val : Int) + 1)) := hnow.1.c hV (fun k a b => by rw [zsu_n (by omega), zsu_n (by omega)]) (fun k a b => by rw [zsu_n (by omega), zsu_n (by omega)])
    rcases hw with hw | hw
    · refine main (zu (zu B (p + 1) 38 (sp_sx V ((V (200 + 38)).val : Int))) (p + 1) 37 (((V (200 + 37)).val : Int) + 1)) (zsu (zsu (zst V) 38 (sp_sx V ((V (200 + 38)).val : Int))) 37 (((V (200 + 37)).val : Int) + 1)) ?_ (fun a b u => by rw [zu_ne (Or.inl u), zu_ne (Or.inl u)]) cells ⟨qS, ?_, fun s a b => ?_⟩ (fun M hM m2 => ?_)
      · simp (disch := omega) only [n32_id, zg_pos, if_pos, if_neg, zu_same, zu_ne, if_true, if_false, ne_eq, not_true_eq_false, not_false_eq_true, true_or, or_true, true_and, and_true, zg_true, fa_b_f, fa_b_t, L159_0 hp, L159_k5, L159_k8 hp, L159_k27 hp, L159_k48 hp, L159_k59 hp, T21t hp hC, T168t, g1, hC1.seed, a1, c1, c2, e37]
      · rw [zsu_s (by omega) (by omega)]; omega
      · rw [zsu_n (by omega), zsu_n (by omega)]
        have := hb2 s a b
        show ((V (200 + (15 + s))).val : Int) ≤ n + 1
        omega
      · have q37 := hM.s 37 (by omega) (by omega)
        refine ⟨zu (zu M 65 38 (sp_sx V ((V (200 + 38)).val : Int))) 65 37 (((V (200 + 37)).val : Int) + 1), ?_, zst_u (zst_u hM.cell (by omega)) (by omega), fun a b u => by rw [zu_ne (Or.inl u), zu_ne (Or.inl u)]⟩
        rw [L309_k33]
        simp (disch := omega) only [n32_id, zg_pos, if_pos, if_neg, zu_same, zu_ne, if_true, if_false, ne_eq, not_true_eq_false, not_false_eq_true, true_or, or_true, true_and, and_true, zg_true, fa_b_f, fa_b_t, m2, q37]
    · have hwb := hb2 (sp_sw V ((V (200 + 38)).val : Int)) hw.1 (by omega)
      have zw : zSg (33 + sp_sw V ((V (200 + 38)).val : Int)) = 15 + sp_sw V ((V (200 + 38)).val : Int) := by unfold zSg; rw [if_neg (by omega), if_neg (by omega), if_neg (by omega), if_neg (by omega), if_neg (by omega), if_neg (by omega), if_pos (by omega)]; omega
      have ew := hC3.won (sp_sw V ((V (200 + 38)).val : Int)) hw.1 (by omega)
      refine main (zu (zu (zu B (p + 1) 38 (sp_sx V ((V (200 + 38)).val : Int))) (p + 1) 37 (((V (200 + 37)).val : Int) + 1)) (p + 1) (33 + sp_sw V ((V (200 + 38)).val : Int)) (((V (200 + (15 + sp_sw V ((V (200 + 38)).val : Int)))).val : Int) + 1)) (zsu (zsu (zsu (zst V) 38 (sp_sx V ((V (200 + 38)).val : Int))) 37 (((V (200 + 37)).val : Int) + 1)) (15 + sp_sw V ((V (200 + 38)).val : Int)) (((V (200 + (15 + sp_sw V ((V (200 + 38)).val : Int)))).val : Int) + 1)) ?_ (fun a b u => by rw [zu_ne (Or.inl u), zu_ne (Or.inl u), zu_ne (Or.inl u)]) (zcell_u cells (by omega) zw (by omega)) ⟨qS.c hV (fun k a b => zsu_n (by omega)) (fun k a b => zsu_n (by omega)), ?_, fun s a b => ?_⟩ (fun M hM m2 => ?_)
      · simp (disch := omega) only [n32_id, zg_pos, if_pos, if_neg, zu_same, zu_ne, if_true, if_false, ne_eq, not_true_eq_false, not_false_eq_true, true_or, or_true, true_and, and_true, zg_true, fa_b_f, fa_b_t, L159_0 hp, L159_k5, L159_k8 hp, L159_k27 hp, L159_k48 hp, L159_k59 hp, T21t hp hC, T168t, g1, hC1.seed, a1, c1, c2, e37, ew]
      · rw [zsu_n (by omega), zsu_s (by omega) (by omega)]; omega
      · by_cases g4 : s = sp_sw V ((V (200 + 38)).val : Int)
        · rw [g4, zsu_s (by omega) (by omega)]; omega
        · rw [zsu_n (by omega), zsu_n (by omega), zsu_n (by omega)]
          have := hb2 s a b
          show ((V (200 + (15 + s))).val : Int) ≤ n + 1
          omega
      · have q37 := hM.s 37 (by omega) (by omega)
        have qw := hM.s (15 + sp_sw V ((V (200 + 38)).val : Int)) (by omega) (by omega)
        refine ⟨zu (zu (zu M 65 38 (sp_sx V ((V (200 + 38)).val : Int))) 65 37 (((V (200 + 37)).val : Int) + 1)) 65 (15 + sp_sw V ((V (200 + 38)).val : Int)) (((V (200 + (15 + sp_sw V ((V (200 + 38)).val : Int)))).val : Int) + 1), ?_, zst_u (zst_u (zst_u hM.cell (by omega)) (by omega)) (by omega), fun a b u => by rw [zu_ne (Or.inl u), zu_ne (Or.inl u), zu_ne (Or.inl u)]⟩
        rw [L309_k33]
        simp (disch := omega) only [n32_id, zg_pos, if_pos, if_neg, zu_same, zu_ne, if_true, if_false, ne_eq, not_true_eq_false, not_false_eq_true, true_or, or_true, true_and, and_true, zg_true, fa_b_f, fa_b_t, m2, q37, qw]
  · have h14 : zg0 (zu E 0 10 1) 60 14 = 0 := (hh.1.fc (zFC.u (z := 1))).not (by omega)
    refine ⟨-1, zu E 0 10 1, zu (zg0 (zu E 0 10 1)) 60 11 1, ?_, ?_, hh.ref (τ := 1) (by omega) rfl rfl⟩
    · simp (disch := omega) only [n32_id, zg_pos, if_pos, if_neg, zu_same, zu_ne, if_true, if_false, ne_eq, not_true_eq_false, not_false_eq_true, true_or, or_true, true_and, and_true, zg_true, fa_b_f, fa_b_t, L159_0 hp, L159_k5, L159_k8 hp, L159_k27 hp, L159_k48 hp, L159_k59 hp, T21f hp hC, T168f]
    · simp (disch := omega) only [n32_id, zg_pos, if_pos, if_neg, zu_same, zu_ne, if_true, if_false, ne_eq, not_true_eq_false, not_false_eq_true, true_or, or_true, true_and, and_true, zg_true, fa_b_f, fa_b_t, L309_0, L309_k1, L309_k13, L309_k18, L309_k33, T177, h14, L178_0]
/-- what doesn't touch trouble -/
theorem zFM.u0 {F : Nat → Int → Int} {z : Int} : zFM F (zu F 60 0 z) := fun a b _ g => zu_ne (by omega)
theorem zI.tell {F H : Nat → Int → Int} (h : zI V U T E p q y im n) (hf : zFC E F) (h1 : F 0 10 = E 0 10) (hg : zFM F H) (h2 : H 60 11 = F 60 11) : zJ H p q (n + 1) := ⟨V, U, T, y, im, h.ask hf h1 hg (by rw [h2, hf 60 11 (by omega) (by omega) (by omega) (by omega)]; exact h.2.2.1.1.1.symm) h.2.2.1.1.2⟩
theorem C116 (h : zI V U T E p q y im n) : ∃ w F H, zf_ev X (d + 20) 116 (0, [vR 0], [], zH t p q E) = some (some [vI w], zH t p q F) ∧ zf_ev X (d + 20) 212 (0, [vR 60], [], zH t p q F) = some (some [vI w], zH t p q H) ∧ zJ H p q (n + 1) := by
  have e := h.2.2.1.2.1
  refine ⟨E 0 11, E, zu E 60 0 0, L116_0, ?_, h.tell zFC.rfl' rfl zFM.u0 (zu_ne (by omega))⟩
  rw [L212_0, zu_ne (by omega), e]
theorem C117 (h : zI V U T E p q y im n) : ∃ w F H, zf_ev X (d + 20) 117 (0, [vR 0], [], zH t p q E) = some (some [vI w], zH t p q F) ∧ zf_ev X (d + 20) 213 (0, [vR 60], [], zH t p q F) = some (some [vI w], zH t p q H) ∧ zJ H p q (n + 1) := by
  obtain ⟨⟨e0, e1, e2⟩, e3, e4⟩ := h.2.2.1
  by_cases g : E 0 10 = 4
  · refine ⟨E 0 12, E, zu E 60 0 0, ?_, ?_, h.tell zFC.rfl' rfl zFM.u0 (zu_ne (by omega))⟩
    · rw [L117_0]
      simp (disch := omega) only [n32_id, zg_pos, if_pos, if_neg, zu_same, zu_ne, if_true, if_false, ne_eq, not_true_eq_false, not_false_eq_true, true_or, or_true, true_and, and_true, zg_true, fa_b_f, fa_b_t]
    · rw [L213_0]
      simp (disch := omega) only [n32_id, zg_pos, if_pos, if_neg, zu_same, zu_ne, if_true, if_false, ne_eq, not_true_eq_false, not_false_eq_true, true_or, or_true, true_and, and_true, zg_true, fa_b_f, fa_b_t, ← e0, ← e4]
  · refine ⟨-1, E, zu E 60 0 0, ?_, ?_, h.tell zFC.rfl' rfl zFM.u0 (zu_ne (by omega))⟩
    · rw [L117_0]
      simp (disch := omega) only [n32_id, zg_pos, if_pos, if_neg, zu_same, zu_ne, if_true, if_false, ne_eq, not_true_eq_false, not_false_eq_true, true_or, or_true, true_and, and_true, zg_true, fa_b_f, fa_b_t]
    · rw [L213_0]
      simp (disch := omega) only [n32_id, zg_pos, if_pos, if_neg, zu_same, zu_ne, if_true, if_false, ne_eq, not_true_eq_false, not_false_eq_true, true_or, or_true, true_and, and_true, zg_true, fa_b_f, fa_b_t, ← e0]
theorem C166 (h : zI V U T E p q y im n) : ∃ w F H, zf_ev X (d + 20) 166 (0, [vR 0], [], zH t p q E) = some (some [vI w], zH t p q F) ∧ zf_ev X (d + 20) 316 (0, [vR 60], [], zH t p q F) = some (some [vI w], zH t p q H) ∧ zJ H p q (n + 1) := by
  have e := h.2.2.1.1.1
  refine ⟨E 0 10, E, zu E 60 0 0, L166_0, ?_, h.tell zFC.rfl' rfl zFM.u0 (zu_ne (by omega))⟩
  rw [L316_0, zu_ne (by omega), e]
theorem C165 (h : zI V U T E p q y im n) {w : Int} (b1 : -2147483648 ≤ w ∧ w < 2147483648) : ∃ v F H, zf_ev X (d + 20) 165 (0, [vR 0, vI w], [], zH t p q E) = some (some [vI v], zH t p q F) ∧ zf_ev X (d + 20) 315 (0, [vR 60, vI w], [], zH t p q F) = some (some [vI v], zH t p q H) ∧ zJ H p q (n + 1) := by
  have hp : zo p := h.1.1
  have hC : zC V E p := h.1.2.1
  have hj := h.tell (F := E) (H := zu E 60 0 0) zFC.rfl' rfl zFM.u0 (zu_ne (by omega))
  have hR0 : zR V E := h.1.2.2.1
  have hR : zR V (zu E 60 0 0) := hR0.fr (fun b => zu_ne (by omega)) (fun b => zu_ne (by omega))
  have t12 : E 2 1 = E 60 2 := h.2.2.2.1.1.1
  have p3 : E 6 3 = y := h.2.2.2.2.1.1.1
  have p4 : E 6 4 = im := h.2.2.2.2.1.1.2
  have m3 : E 60 20 = y := h.2.2.2.2.2.1.1.1
  have m4 : E 60 21 = im := h.2.2.2.2.2.1.1.2
  by_cases g12 : w = 12
  · refine ⟨E 2 1, E, zu E 60 0 0, ?_, ?_, hj⟩
    · rw [L165_0 hp]
      simp (disch := omega) only [n32_id, zg_pos, if_pos, if_neg, zu_same, zu_ne, if_true, if_false, ne_eq, not_true_eq_false, not_false_eq_true, true_or, or_true, true_and, and_true, zg_true, fa_b_f, fa_b_t]
    · rw [L315_0]
      simp (disch := omega) only [n32_id, zg_pos, if_pos, if_neg, zu_same, zu_ne, if_true, if_false, ne_eq, not_true_eq_false, not_false_eq_true, true_or, or_true, true_and, and_true, zg_true, fa_b_f, fa_b_t, t12]
  · rcases h.2.2.2.2.2.2.2.2 with ⟨hV, hs, -, -⟩ | ⟨hz, hy, hi⟩
    · have h14 : E 60 14 = 1 := (h.now hV).2
      by_cases g : 0 ≤ w ∧ w ≤ 6
      · refine ⟨((V (w)).val : Int), E, zu E 60 0 0, ?_, ?_, hj⟩
        · have e : w = 0 ∨ w = 1 ∨ w = 2 ∨ w = 3 ∨ w = 4 ∨ w = 5 ∨ w = 6 := by omega
          rw [L165_0 hp]
          rcases e with rfl | rfl | rfl | rfl | rfl | rfl | rfl
          · simp (disch := omega) only [n32_id, zg_pos, if_pos, if_neg, zu_same, zu_ne, if_true, if_false, ne_eq, not_true_eq_false, not_false_eq_true, true_or, or_true, true_and, and_true, zg_true, fa_b_f, fa_b_t, hC.cols]
          · simp (disch := omega) only [n32_id, zg_pos, if_pos, if_neg, zu_same, zu_ne, if_true, if_false, ne_eq, not_true_eq_false, not_false_eq_true, true_or, or_true, true_and, and_true, zg_true, fa_b_f, fa_b_t, hC.rows]
          · simp (disch := omega) only [n32_id, zg_pos, if_pos, if_neg, zu_same, zu_ne, if_true, if_false, ne_eq, not_true_eq_false, not_false_eq_true, true_or, or_true, true_and, and_true, zg_true, fa_b_f, fa_b_t, hC.nose]
          · simp (disch := omega) only [n32_id, zg_pos, if_pos, if_neg, zu_same, zu_ne, if_true, if_false, ne_eq, not_true_eq_false, not_false_eq_true, true_or, or_true, true_and, and_true, zg_true, fa_b_f, fa_b_t, hC.spks]
          · simp (disch := omega) only [n32_id, zg_pos, if_pos, if_neg, zu_same, zu_ne, if_true, if_false, ne_eq, not_true_eq_false, not_false_eq_true, true_or, or_true, true_and, and_true, zg_true, fa_b_f, fa_b_t, hC.mems]
          · simp (disch := omega) only [n32_id, zg_pos, if_pos, if_neg, zu_same, zu_ne, if_true, if_false, ne_eq, not_true_eq_false, not_false_eq_true, true_or, or_true, true_and, and_true, zg_true, fa_b_f, fa_b_t, hC.lmps]
          · simp (disch := omega) only [n32_id, zg_pos, if_pos, if_neg, zu_same, zu_ne, if_true, if_false, ne_eq, not_true_eq_false, not_false_eq_true, true_or, or_true, true_and, and_true, zg_true, fa_b_f, fa_b_t, hC.flts]
        · simp (disch := omega) only [n32_id, zg_pos, if_pos, if_neg, zu_same, zu_ne, if_true, if_false, ne_eq, not_true_eq_false, not_false_eq_true, true_or, or_true, true_and, and_true, zg_true, fa_b_f, fa_b_t, L315_0, L315_k27, L315_k43, L315_k93, h14, T180t, hR0.r]
      · by_cases g2 : 7 ≤ w ∧ w ≤ 11
        · have e : w = 7 ∨ w = 8 ∨ w = 9 ∨ w = 10 ∨ w = 11 := by omega
          rcases e with rfl | rfl | rfl | rfl | rfl
          · refine ⟨sp_K V, E, zu E 60 0 0, ?_, ?_, hj⟩
            · simp (disch := omega) only [n32_id, zg_pos, if_pos, if_neg, zu_same, zu_ne, if_true, if_false, ne_eq, not_true_eq_false, not_false_eq_true, true_or, or_true, true_and, and_true, zg_true, fa_b_f, fa_b_t, L165_0 hp, L165_k128, T29 hp hC hV]
            · simp (disch := omega) only [n32_id, zg_pos, if_pos, if_neg, zu_same, zu_ne, if_true, if_false, ne_eq, not_true_eq_false, not_false_eq_true, true_or, or_true, true_and, and_true, zg_true, fa_b_f, fa_b_t, L315_0, L315_k27, L315_k43, L315_k93, h14, T180f, T275 hR hV]
          · refine ⟨((V (200 + 37)).val : Int), E, zu E 60 0 0, ?_, ?_, hj⟩
            · simp (disch := omega) only [n32_id, zg_pos, if_pos, if_neg, zu_same, zu_ne, if_true, if_false, ne_eq, not_true_eq_false, not_false_eq_true, true_or, or_true, true_and, and_true, zg_true, fa_b_f, fa_b_t, L165_0 hp, L165_k128, hC.held]
            · simp (disch := omega) only [n32_id, zg_pos, if_pos, if_neg, zu_same, zu_ne, if_true, if_false, ne_eq, not_true_eq_false, not_false_eq_true, true_or, or_true, true_and, and_true, zg_true, fa_b_f, fa_b_t, L315_0, L315_k27, L315_k43, L315_k93, h14, T180f, hR0.s]
          · refine ⟨((V (200 + 38)).val : Int), E, zu E 60 0 0, ?_, ?_, hj⟩
            · simp (disch := omega) only [n32_id, zg_pos, if_pos, if_neg, zu_same, zu_ne, if_true, if_false, ne_eq, not_true_eq_false, not_false_eq_true, true_or, or_true, true_and, and_true, zg_true, fa_b_f, fa_b_t, L165_0 hp, L165_k128, hC.seed]
            · simp (disch := omega) only [n32_id, zg_pos, if_pos, if_neg, zu_same, zu_ne, if_true, if_false, ne_eq, not_true_eq_false, not_false_eq_true, true_or, or_true, true_and, and_true, zg_true, fa_b_f, fa_b_t, L315_0, L315_k27, L315_k43, L315_k93, h14, T180f, hR0.s]
          · refine ⟨y, E, zu E 60 0 0, ?_, ?_, hj⟩
            · simp (disch := omega) only [n32_id, zg_pos, if_pos, if_neg, zu_same, zu_ne, if_true, if_false, ne_eq, not_true_eq_false, not_false_eq_true, true_or, or_true, true_and, and_true, zg_true, fa_b_f, fa_b_t, L165_0 hp, L165_k128, p3]
            · simp (disch := omega) only [n32_id, zg_pos, if_pos, if_neg, zu_same, zu_ne, if_true, if_false, ne_eq, not_true_eq_false, not_false_eq_true, true_or, or_true, true_and, and_true, zg_true, fa_b_f, fa_b_t, L315_0, L315_k27, L315_k43, L315_k93, h14, T180f, m3]
          · refine ⟨im, E, zu E 60 0 0, ?_, ?_, hj⟩
            · simp (disch := omega) only [n32_id, zg_pos, if_pos, if_neg, zu_same, zu_ne, if_true, if_false, ne_eq, not_true_eq_false, not_false_eq_true, true_or, or_true, true_and, and_true, zg_true, fa_b_f, fa_b_t, L165_0 hp, L165_k128, p4]
            · simp (disch := omega) only [n32_id, zg_pos, if_pos, if_neg, zu_same, zu_ne, if_true, if_false, ne_eq, not_true_eq_false, not_false_eq_true, true_or, or_true, true_and, and_true, zg_true, fa_b_f, fa_b_t, L315_0, L315_k27, L315_k43, L315_k93, h14, T180f, m4]
        · refine ⟨-1, E, zu E 60 0 0, ?_, ?_, hj⟩
          · simp (disch := omega) only [n32_id, zg_pos, if_pos, if_neg, zu_same, zu_ne, if_true, if_false, ne_eq, not_true_eq_false, not_false_eq_true, true_or, or_true, true_and, and_true, zg_true, fa_b_f, fa_b_t, L165_0 hp, L165_k128]
          · simp (disch := omega) only [n32_id, zg_pos, if_pos, if_neg, zu_same, zu_ne, if_true, if_false, ne_eq, not_true_eq_false, not_false_eq_true, true_or, or_true, true_and, and_true, zg_true, fa_b_f, fa_b_t, L315_0, L315_k27, L315_k43, L315_k93, h14, T180f]
    · have h14 : E 60 14 = 0 := by
        rcases h.1.2.2.2 with ⟨hV, -⟩ | ⟨-, h⟩
        · have := hV.spks
          have := zG.no hz
          omega
        · exact h
      obtain ⟨v0, v1, v2, v3, v4, v5, v6⟩ := zG.no hz
      have w37 : ((V (200 + 37)).val : Int) = 0 := by rw [hz]; rfl
      have w38 : ((V (200 + 38)).val : Int) = 0 := by rw [hz]; rfl
      by_cases g : 0 ≤ w ∧ w ≤ 11
      · refine ⟨0, E, zu E 60 0 0, ?_, ?_, hj⟩
        · have e : w = 0 ∨ w = 1 ∨ w = 2 ∨ w = 3 ∨ w = 4 ∨ w = 5 ∨ w = 6 ∨ w = 7 ∨ w = 8 ∨ w = 9 ∨ w = 10 ∨ w = 11 := by omega
          rcases e with rfl | rfl | rfl | rfl | rfl | rfl | rfl | rfl | rfl | rfl | rfl | rfl
          · simp (disch := omega) only [n32_id, zg_pos, if_pos, if_neg, zu_same, zu_ne, if_true, if_false, ne_eq, not_true_eq_false, not_false_eq_true, true_or, or_true, true_and, and_true, zg_true, fa_b_f, fa_b_t, L165_0 hp, L165_k128, hC.cols, v0]
          · simp (disch := omega) only [n32_id, zg_pos, if_pos, if_neg, zu_same, zu_ne, if_true, if_false, ne_eq, not_true_eq_false, not_false_eq_true, true_or, or_true, true_and, and_true, zg_true, fa_b_f, fa_b_t, L165_0 hp, L165_k128, hC.rows, v1]
          · simp (disch := omega) only [n32_id, zg_pos, if_pos, if_neg, zu_same, zu_ne, if_true, if_false, ne_eq, not_true_eq_false, not_false_eq_true, true_or, or_true, true_and, and_true, zg_true, fa_b_f, fa_b_t, L165_0 hp, L165_k128, hC.nose, v2]
          · simp (disch := omega) only [n32_id, zg_pos, if_pos, if_neg, zu_same, zu_ne, if_true, if_false, ne_eq, not_true_eq_false, not_false_eq_true, true_or, or_true, true_and, and_true, zg_true, fa_b_f, fa_b_t, L165_0 hp, L165_k128, hC.spks, v3]
          · simp (disch := omega) only [n32_id, zg_pos, if_pos, if_neg, zu_same, zu_ne, if_true, if_false, ne_eq, not_true_eq_false, not_false_eq_true, true_or, or_true, true_and, and_true, zg_true, fa_b_f, fa_b_t, L165_0 hp, L165_k128, hC.mems, v4]
          · simp (disch := omega) only [n32_id, zg_pos, if_pos, if_neg, zu_same, zu_ne, if_true, if_false, ne_eq, not_true_eq_false, not_false_eq_true, true_or, or_true, true_and, and_true, zg_true, fa_b_f, fa_b_t, L165_0 hp, L165_k128, hC.lmps, v5]
          · simp (disch := omega) only [n32_id, zg_pos, if_pos, if_neg, zu_same, zu_ne, if_true, if_false, ne_eq, not_true_eq_false, not_false_eq_true, true_or, or_true, true_and, and_true, zg_true, fa_b_f, fa_b_t, L165_0 hp, L165_k128, hC.flts, v6]
          · simp (disch := omega) only [n32_id, zg_pos, if_pos, if_neg, zu_same, zu_ne, if_true, if_false, ne_eq, not_true_eq_false, not_false_eq_true, true_or, or_true, true_and, and_true, zg_true, fa_b_f, fa_b_t, L165_0 hp, L165_k128]
            rw [L29_0 hp, L29_4 hp, hC.rows, v1]
            simp (disch := omega) only [n32_id, zg_pos, if_pos, if_neg, zu_same, zu_ne, if_true, if_false, ne_eq, not_true_eq_false, not_false_eq_true, true_or, or_true, true_and, and_true, zg_true, fa_b_f, fa_b_t]
            rw [L165_k128]
          · simp (disch := omega) only [n32_id, zg_pos, if_pos, if_neg, zu_same, zu_ne, if_true, if_false, ne_eq, not_true_eq_false, not_false_eq_true, true_or, or_true, true_and, and_true, zg_true, fa_b_f, fa_b_t, L165_0 hp, L165_k128, hC.held, w37]
          · simp (disch := omega) only [n32_id, zg_pos, if_pos, if_neg, zu_same, zu_ne, if_true, if_false, ne_eq, not_true_eq_false, not_false_eq_true, true_or, or_true, true_and, and_true, zg_true, fa_b_f, fa_b_t, L165_0 hp, L165_k128, hC.seed, w38]
          · simp (disch := omega) only [n32_id, zg_pos, if_pos, if_neg, zu_same, zu_ne, if_true, if_false, ne_eq, not_true_eq_false, not_false_eq_true, true_or, or_true, true_and, and_true, zg_true, fa_b_f, fa_b_t, L165_0 hp, L165_k128, p3, hy]
          · simp (disch := omega) only [n32_id, zg_pos, if_pos, if_neg, zu_same, zu_ne, if_true, if_false, ne_eq, not_true_eq_false, not_false_eq_true, true_or, or_true, true_and, and_true, zg_true, fa_b_f, fa_b_t, L165_0 hp, L165_k128, p4, hi]
        · simp (disch := omega) only [n32_id, zg_pos, if_pos, if_neg, zu_same, zu_ne, if_true, if_false, ne_eq, not_true_eq_false, not_false_eq_true, true_or, or_true, true_and, and_true, zg_true, fa_b_f, fa_b_t, L315_0, L315_k27, L315_k43, L315_k93, h14, T180t]
      · refine ⟨-1, E, zu E 60 0 0, ?_, ?_, hj⟩
        · simp (disch := omega) only [n32_id, zg_pos, if_pos, if_neg, zu_same, zu_ne, if_true, if_false, ne_eq, not_true_eq_false, not_false_eq_true, true_or, or_true, true_and, and_true, zg_true, fa_b_f, fa_b_t, L165_0 hp, L165_k128]
        · simp (disch := omega) only [n32_id, zg_pos, if_pos, if_neg, zu_same, zu_ne, if_true, if_false, ne_eq, not_true_eq_false, not_false_eq_true, true_or, or_true, true_and, and_true, zg_true, fa_b_f, fa_b_t, L315_0, L315_k27, L315_k43, L315_k93, h14, T180f]
end A3

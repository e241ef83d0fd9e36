/-! the class's reader as a whole -/
theorem ps_b_01 {s : PS} : n32 (ps_b s) = 0 ∨ n32 (ps_b s) = 1 := by
  cases s with
  | inl x => exact Or.inl (by decide : n32 0 = 0)
  | inr k => exact Or.inr (by decide : n32 1 = 1)
theorem zOC.base {B : Int → Int} {n : Int} {t : List (Nat × Nat)} {p q : Nat} {E F : Nat → Int → Int} {o : Nat} {x : PT} {res : Option (Option (List ZV) × ZH)} (h : zOC B n t p q F o x res) (hf : zFH o E F) : zOC B n t p q E o x res := by
  obtain ⟨G, g1, g2, g3⟩ := h
  exact ⟨G, g1, g2, hf.tr g3⟩
section CR
variable {X : Nat × (Nat → Int)} {d : Nat} {t : List (Nat × Nat)} {p q : Nat} {E : Nat → Int → Int} {B : Int → Int} {n k : Int} {o : Nat} {f L : Int → Int}
theorem T85 (ho : zo o) (hI : pI f) (hC : zHC f E o) (hN : zNm L (f 3 + f 4) E) (hT : zT0 B n k E) (h0 : 0 < f 0) : zOC B n t p q E o (pl_fog B n f L (.inr k)) (zf_ev X (d + 4) 85 (0, [vR 1, vR o], [], zH t p q E)) := by
  have hp2 : o = 40 ∨ o = 50 := ho
  have i1 := hI.1
  unfold pI1 at i1
  obtain ⟨F, e1, c1, v1, r1⟩ := T86 (X := X) (t := t) (p := p) (q := q) (d := d) ho hI hC hT
  cases s1 : ps_R B n 1 (f 1) (pl_told f) (.inr k) with
  | inl x =>
    rw [s1] at e1 c1
    refine zOC_l (u := x) s1 (F := F) ?_ c1 (fun x y u1 u2 u3 u4 u5 => r1 x y (by omega) (by omega) (by omega))
    rw [L85_0 ho, e1, L85_k2 ho, ps_b_l, if_neg (by decide)]
  | inr k1 =>
    rw [s1] at e1 c1
    have c1 : zT0 B n k1 F := c1
    have v1 := v1 k1 s1
    have hv := (ps_R_v s1).1
    have w4 : F 1 4 = f 7 := by rw [r1 _ _ (by omega) (by omega) (by omega)]; exact hC.2.1
    have hn := pl_fog_n (B := B) (n := n) (f := f) (L := L) (s := .inr k) (by omega)
    generalize hrow : pv_N B n 1 (f 1) (.inr k) = row at v1 hv r1
    refine zOC_r (k := k1) s1 (F := zu (zu F (o + 1) (18 + row) 7) 1 4 (f 7 + 1)) ?_ ⟨c1.fr (fun a b u => by rw [zu_ne (by omega), zu_ne (by omega)]) (by rw [zu_ne (by omega), zu_ne (by omega)]), ?_, ?_⟩ (fun x y u1 u2 u3 u4 u5 => by rw [zu_ne (by omega), zu_ne (by omega), r1 x y (by omega) (by omega) (by omega)])
    · rw [L85_0 ho, e1, L85_k2 ho, ps_b_r, if_pos (by decide), v1.1]
      simp (disch := omega) only [n32_id, zg_pos, if_pos, if_neg, zu_same, zu_ne, if_true, if_false, ne_eq, not_true_eq_false, not_false_eq_true, true_or, or_true, true_and, and_true, zg_true, fa_b_f, fa_b_t, w4]
    · unfold pl_fog
      rw [hrow]
      exact zHC_fogs (zHC_air (by omega) hC (fun x y u v w => by rw [zu_ne (by omega), r1 x y (by omega) (by omega) (by omega)]) ho (by rw [zu_ne (by omega), r1 _ _ (by omega) (by omega) (by omega)]) zu_same (by rw [zu_ne (by omega)]; exact v1.2)) ho
    · rw [hn.1, hn.2]
      exact hN.fr (by rw [zu_ne (by omega), zu_ne (by omega), r1 _ _ (by omega) (by omega) (by omega)]) (fun b => by rw [zu_ne (by omega), zu_ne (by omega), r1 _ _ (by omega) (by omega) (by omega)])
theorem T84 (ho : zo o) (hI : pI f) (hC : zHC f E o) (hN : zNm L (f 3 + f 4) E) (hT : zT0 B n k E) (h0 : 0 < f 0) : zOC B n t p q E o (pl_air B n f L (.inr k)) (zf_ev X (d + 4) 84 (0, [vR 1, vR o, vJ, vJ], [], zH t p q E)) := by
  have hp2 : o = 40 ∨ o = 50 := ho
  have i1 := hI.1
  unfold pI1 at i1
  obtain ⟨F, e1, c1, v1, r1⟩ := T86 (X := X) (t := t) (p := p) (q := q) (d := d) ho hI hC hT
  cases s1 : ps_R B n 1 (f 1) (pl_told f) (.inr k) with
  | inl x =>
    rw [s1] at e1 c1
    refine zOC_l (u := x) ?_ (F := F) ?_ c1 (fun x y u1 u2 u3 u4 u5 => r1 x y (by omega) (by omega) (by omega))
    · show ps_N B n 0 3 (ps_D B n (ps_R B n 1 (f 1) (pl_told f) (.inr k))) = _
      rw [s1]
      rfl
    · rw [L84_0 ho, e1, L84_k2 ho, ps_b_l, if_neg (by decide)]
  | inr k1 =>
    rw [s1] at e1 c1
    have c1 : zT0 B n k1 F := c1
    have v1 := v1 k1 s1
    have hv := (ps_R_v s1).1
    have hn := pl_air_n (B := B) (n := n) (f := f) (L := L) (s := .inr k) (by omega)
    generalize hrow : pv_N B n 1 (f 1) (.inr k) = row at v1 hv r1
    have hD : pv_D B n (.inr k1) = (if tk_is B n k1 10 = true then -1 else if tk_is B n k1 11 = true then 1 else 0) := rfl
    have hS : ps_D B n (.inr k1) = (if pv_D B n (.inr k1) = 0 then .inl (1, tk_a B n k1) else .inr (tk_e B n k1)) := rfl
    have e2 : zf_ev X (d + 4) 84 (0, [vR 1, vR o, vJ, vJ], [], zH t p q E) = zf_k X (d + 4) 84 21 [vR 1, vR o, vI row, vJ] [] (some (some [vI (fa_b (tk_is B n k1 10))], zH t p q F)) := by
      rw [L84_0 ho, e1, L84_k2 ho, ps_b_r, if_pos (by decide), v1.1, T112 (by decide) c1.1]
    obtain ⟨G, g1, g2, g3⟩ := T109n (X := X) (d := d + 2) (t := t) (p := p) (q := q) c1.1
    have g2 : zT0 B n (tk_e B n k1) G := ⟨g2, by rw [g3 _ _ (by omega)]; exact c1.2⟩
    obtain ⟨K, k2, k3, k4, k5, -⟩ := T93 (X := X) (d := d + 1) (t := t) (p := p) (q := q) (lo := 0) (hi := 3) (by omega) (by omega) g2
    have main : ∀ (b : Bool), pv_D B n (.inr k1) = (if b = true then -1 else 1) → zf_ev X (d + 4) 84 (0, [vR 1, vR o, vJ, vJ], [], zH t p q E) = zf_k X (d + 4) 84 58 [vR 1, vR o, vI row, vI (fa_b b)] [] (zf_ev X (d + 3) 109 (0, [vR 2], [], zH t p q F)) → zOC B n t p q E o (pl_air B n f L (.inr k)) (zf_ev X (d + 4) 84 (0, [vR 1, vR o, vJ, vJ], [], zH t p q E)) := by
      intro b hb e3
      have hS2 : ps_D B n (.inr k1) = .inr (tk_e B n k1) := by
        rw [hS, hb, if_neg]
        split <;> omega
      have e4 : zf_ev X (d + 4) 84 (0, [vR 1, vR o, vJ, vJ], [], zH t p q E) = zf_k X (d + 4) 84 64 [vR 1, vR o, vI row, vI (fa_b b)] [] (some (some [vI (ps_b (ps_N B n 0 3 (.inr (tk_e B n k1))))], zH t p q K)) := by
        rw [e3, g1, L84_k58 ho, k2]
      cases s2 : ps_N B n 0 3 (.inr (tk_e B n k1)) with
      | inl x =>
        rw [s2] at e4 k3
        refine zOC_l (u := x) ?_ (F := K) ?_ k3 (fun x y u1 u2 u3 u4 u5 => by rw [k5 x y (by omega) (by omega), g3 x y (by omega), r1 x y (by omega) (by omega) (by omega)])
        · show ps_N B n 0 3 (ps_D B n (ps_R B n 1 (f 1) (pl_told f) (.inr k))) = _
          rw [s1, hS2, s2]
        · rw [e4, L84_k64 ho, ps_b_l, if_neg (by decide)]
      | inr k6 =>
        rw [s2] at e4 k3
        have k3 : zT0 B n k6 K := k3
        have k4 := k4 k6 s2
        have hw := ps_N_v s2
        have hz : (18 + row) = 18 + row := rfl
        refine zOC_r (k := k6) ?_ (F := zu K (o + 1) (18 + row) (pv_D B n (.inr k1) * pv_N B n 0 3 (.inr (tk_e B n k1)) + 3)) ?_ ⟨k3.fr (fun a b u => by rw [zu_ne (by omega)]) (by rw [zu_ne (by omega)]), ?_, ?_⟩ (fun x y u1 u2 u3 u4 u5 => by rw [zu_ne (by omega), k5 x y (by omega) (by omega), g3 x y (by omega), r1 x y (by omega) (by omega) (by omega)])
        · show ps_N B n 0 3 (ps_D B n (ps_R B n 1 (f 1) (pl_told f) (.inr k))) = _
          rw [s1, hS2, s2]
        · rw [e4, L84_k64 ho, ps_b_r, if_pos (by decide), k4.1, hb]
          cases b
          · rw [fa_b_f, if_pos (by decide), n32_id (by omega) (by omega), zg_pos (by omega), if_neg (by decide), show 1 * pv_N B n 0 3 (.inr (tk_e B n k1)) + 3 = 3 + pv_N B n 0 3 (.inr (tk_e B n k1)) by omega]
          · rw [fa_b_t, if_neg (by decide), n32_id (by omega) (by omega), zg_pos (by omega), if_pos rfl, show -1 * pv_N B n 0 3 (.inr (tk_e B n k1)) + 3 = 3 - pv_N B n 0 3 (.inr (tk_e B n k1)) by omega]
        · unfold pl_air
          rw [hrow, s1, hS2]
          exact zHC_air (by omega) hC (fun x y u v w => by rw [zu_ne (by omega), k5 x y (by omega) (by omega), g3 x y (by omega), r1 x y (by omega) (by omega) (by omega)]) ho (by rw [zu_ne (by omega), k5 _ _ (by omega) (by omega), g3 _ _ (by omega), r1 _ _ (by omega) (by omega) (by omega)]) zu_same (by rw [zu_ne (by omega), k5 _ _ (by omega) (by omega), g3 _ _ (by omega)]; exact v1.2)
        · rw [hn.1, hn.2]
          exact hN.fr (by rw [zu_ne (by omega), k5 _ _ (by omega) (by omega), g3 _ _ (by omega), r1 _ _ (by omega) (by omega) (by omega)]) (fun b => by rw [zu_ne (by omega), k5 _ _ (by omega) (by omega), g3 _ _ (by omega), r1 _ _ (by omega) (by omega) (by omega)])
    by_cases w1 : tk_is B n k1 10 = true
    · refine main true (by rw [hD, if_pos w1, if_pos rfl]) ?_
      rw [e2, L84_k21 ho, w1, fa_b_t, if_pos (by decide)]
    · by_cases w2 : tk_is B n k1 11 = true
      · refine main false (by rw [hD, if_neg w1, if_pos w2, if_neg (by decide)]) ?_
        rw [e2, L84_k21 ho, bo_f w1, fa_b_f, if_neg (by decide), T112 (by decide) c1.1, L84_k35 ho, w2, fa_b_t, if_pos (by decide)]
      · rw [if_neg w1, if_neg w2] at hD
        rw [if_pos hD] at hS
        refine zOC_l (u := (1, tk_a B n k1)) ?_ (F := zu (zu F 1 8 1) 1 9 (tk_a B n k1)) ?_ ⟨by rw [zu_ne (by omega), zu_same], zu_same⟩ (fun x y u1 u2 u3 u4 u5 => by rw [zu_ne (by omega), zu_ne (by omega), r1 x y (by omega) (by omega) (by omega)])
        · show ps_N B n 0 3 (ps_D B n (ps_R B n 1 (f 1) (pl_told f) (.inr k))) = _
          rw [s1, hS]
          rfl
        · rw [e2, L84_k21 ho, bo_f w1, fa_b_f, if_neg (by decide), T112 (by decide) c1.1, L84_k35 ho, bo_f w2, fa_b_f, if_neg (by decide), c1.1.2.2.1.2.2.2, L78_0, L84_k50, zg_pos (by decide)]
theorem T82 (ho : zo o) (hI : pI f) (hC : zHC f E o) {s : Int} (hs : 0 ≤ s ∧ s ≤ 7) : zf_ev X d 82 (0, [vR 1, vR o, vI s], [], zH t p q E) = some (some [vI (fa_b (pl_room f s))], zH t p q E) := by
  have i1 := hI.1
  unfold pI1 at i1
  obtain ⟨⟨c1, c2, c3, c4, c5, c6, c7⟩, c8, -⟩ := hC
  unfold pl_room
  rw [L82_0 ho, c4, c5, c6, c7, c8, n32_id (z := s) (by omega) (by omega)]
  by_cases g3 : s = 3
  · rw [if_pos g3, if_pos g3]
    by_cases w : f 7 < 3
    · rw [if_neg (by rw [n32_id (by omega) (by omega), n32_id (by omega) (by omega)]; omega), decide_eq_true w]; rfl
    · rw [if_pos (by rw [n32_id (by omega) (by omega), n32_id (by omega) (by omega)]; omega), decide_eq_false w]; rfl
  rw [if_neg g3, if_neg g3]
  by_cases g4 : s = 4
  · rw [if_pos g4, if_pos g4]
    by_cases w : f 3 < 4
    · rw [if_neg (by rw [n32_id (by omega) (by omega), n32_id (by omega) (by omega)]; omega), decide_eq_true w]; rfl
    · rw [if_pos (by rw [n32_id (by omega) (by omega), n32_id (by omega) (by omega)]; omega), decide_eq_false w]; rfl
  rw [if_neg g4, if_neg g4]
  by_cases g5 : s = 5
  · rw [if_pos g5, if_pos g5]
    by_cases w : f 4 < 6
    · rw [if_neg (by rw [n32_id (by omega) (by omega), n32_id (by omega) (by omega)]; omega), decide_eq_true w]; rfl
    · rw [if_pos (by rw [n32_id (by omega) (by omega), n32_id (by omega) (by omega)]; omega), decide_eq_false w]; rfl
  rw [if_neg g5, if_neg g5]
  by_cases g6 : s = 6
  · rw [if_pos g6, if_pos g6]
    by_cases w : f 5 < 3
    · rw [if_neg (by rw [n32_id (by omega) (by omega), n32_id (by omega) (by omega)]; omega), decide_eq_true w]; rfl
    · rw [if_pos (by rw [n32_id (by omega) (by omega), n32_id (by omega) (by omega)]; omega), decide_eq_false w]; rfl
  rw [if_neg g6, if_neg g6]
  by_cases g7 : s = 7
  · rw [if_pos g7, if_pos g7]
    by_cases w : f 6 < 5
    · rw [if_neg (by rw [n32_id (by omega) (by omega), n32_id (by omega) (by omega)]; omega), decide_eq_true w]; rfl
    · rw [if_pos (by rw [n32_id (by omega) (by omega), n32_id (by omega) (by omega)]; omega), decide_eq_false w]; rfl
  rw [if_neg g7, if_neg g7]
  rfl
theorem T81 (ho : zo o) (hI : pI f) (hC : zHC f E o) (hT : zT0 B n k E) : (∀ u, pl_beg B n f k = .inl u → ∃ F, zf_ev X (d + 1) 81 (0, [vR 1, vR o, vI (tk_ls B n k), vJ], [], zH t p q E) = some (some [vI 0], zH t p q F) ∧ (F 1 8 = u.1 ∧ F 1 9 = u.2) ∧ zFT E F) ∧ (∀ k2, pl_beg B n f k = .inr k2 → zf_ev X (d + 1) 81 (0, [vR 1, vR o, vI (tk_ls B n k), vJ], [], zH t p q E) = some (some [vI 1], zH t p q E) ∧ k2 = tk_e B n k) := by
  have i1 := hI.1
  unfold pI1 at i1
  have hr := tk_ls_r (B := B) (n := n) (k := k)
  have ha := hT.1.2.2.1.2.2.2
  have h82 := T82 (X := X) (d := d) (t := t) (p := p) (q := q) ho hI hC hr
  have h9 := hC.1.1
  have bad : ∀ v : Int, zFT E (zu (zu E 1 8 v) 1 9 (tk_a B n k)) := fun v x y u w => by rw [zu_ne (by omega), zu_ne (by omega)]
  unfold pl_beg
  generalize tk_ls B n k = s at hr h82 ⊢
  by_cases g0 : s = 0
  · rw [if_pos g0]
    subst g0
    refine ⟨fun u h => ?_, fun k2 h => (by cases h)⟩
    cases h
    refine ⟨_, ?_, ⟨?_, zu_same⟩, bad 1⟩
    · rw [L81_0 ho, h9]
      by_cases w : f 0 ≤ 0
      · simp (disch := omega) only [n32_id, zg_pos, if_pos, if_neg, zu_same, zu_ne, if_true, if_false, ne_eq, not_true_eq_false, not_false_eq_true, true_or, or_true, true_and, and_true, zg_true, fa_b_f, fa_b_t]
        rw [ha, L78_0, L81_k26, zg_pos (by decide)]
      · simp (disch := omega) only [n32_id, zg_pos, if_pos, if_neg, zu_same, zu_ne, if_true, if_false, ne_eq, not_true_eq_false, not_false_eq_true, true_or, or_true, true_and, and_true, zg_true, fa_b_f, fa_b_t]
        rw [ha, L78_0, L81_k26, zg_pos (by decide)]
    · rw [zu_ne (by omega), zu_same]
  rw [if_neg g0]
  by_cases g1 : s = 1
  · rw [if_pos g1]
    subst g1
    by_cases w : 0 < f 0
    · rw [if_pos w]
      refine ⟨fun u h => ?_, fun k2 h => (by cases h)⟩
      cases h
      refine ⟨_, ?_, ⟨?_, zu_same⟩, bad 3⟩
      · rw [L81_0 ho, h9]
        simp (disch := omega) only [n32_id, zg_pos, if_pos, if_neg, zu_same, zu_ne, if_true, if_false, ne_eq, not_true_eq_false, not_false_eq_true, true_or, or_true, true_and, and_true, zg_true, fa_b_f, fa_b_t]
        rw [ha, L78_0, L81_k48, if_pos (by decide)]
      · rw [zu_ne (by omega), zu_same]
    · rw [if_neg w]
      refine ⟨fun u h => (by cases h), fun k2 h => ⟨?_, by cases h; rfl⟩⟩
      rw [L81_0 ho, h9]
      simp (disch := omega) only [n32_id, zg_pos, if_pos, if_neg, zu_same, zu_ne, if_true, if_false, ne_eq, not_true_eq_false, not_false_eq_true, true_or, or_true, true_and, and_true, zg_true, fa_b_f, fa_b_t]
  rw [if_neg g1]
  by_cases w : f 0 ≤ 0
  · rw [if_pos w]
    refine ⟨fun u h => ?_, fun k2 h => (by cases h)⟩
    cases h
    refine ⟨_, ?_, ⟨?_, zu_same⟩, bad 6⟩
    · rw [L81_0 ho, h9]
      simp (disch := omega) only [n32_id, zg_pos, if_pos, if_neg, zu_same, zu_ne, if_true, if_false, ne_eq, not_true_eq_false, not_false_eq_true, true_or, or_true, true_and, and_true, zg_true, fa_b_f, fa_b_t]
      rw [ha, L78_0, L81_k74, zg_pos (by decide)]
    · rw [zu_ne (by omega), zu_same]
  rw [if_neg w]
  by_cases w2 : pl_room f s = true
  · rw [if_pos w2]
    refine ⟨fun u h => (by cases h), fun k2 h => ⟨?_, by cases h; rfl⟩⟩
    rw [L81_0 ho, h9]
    simp (disch := omega) only [n32_id, zg_pos, if_pos, if_neg, zu_same, zu_ne, if_true, if_false, ne_eq, not_true_eq_false, not_false_eq_true, true_or, or_true, true_and, and_true, zg_true, fa_b_f, fa_b_t]
    rw [h82, L81_k81, w2, fa_b_t, if_pos (by decide)]
  · rw [if_neg w2]
    refine ⟨fun u h => ?_, fun k2 h => (by cases h)⟩
    cases h
    refine ⟨_, ?_, ⟨?_, zu_same⟩, bad 5⟩
    · rw [L81_0 ho, h9]
      simp (disch := omega) only [n32_id, zg_pos, if_pos, if_neg, zu_same, zu_ne, if_true, if_false, ne_eq, not_true_eq_false, not_false_eq_true, true_or, or_true, true_and, and_true, zg_true, fa_b_f, fa_b_t]
      rw [h82, L81_k81, bo_f w2, fa_b_f, if_neg (by decide), ha, L78_0, L81_k96, if_pos (by decide)]
    · rw [zu_ne (by omega), zu_same]
theorem T79 (ho : zo o) (hI : pI f) (hC : zHC f E o) (hN : zNm L (f 3 + f 4) E) (hT : zT0 B n k E) : zOC B n t p q E o (pl_line B n f L k) (zf_ev X (d + 5) 79 (0, [vR 1, vR o, vJ], [], zH t p q E)) := by
  have hp2 : o = 40 ∨ o = 50 := ho
  have i1 := hI.1
  unfold pI1 at i1
  have hr := tk_ls_r (B := B) (n := n) (k := k)
  obtain ⟨b1, b2⟩ := T81 (X := X) (d := d + 3) (t := t) (p := p) (q := q) ho hI hC hT
  have e0 : zf_ev X (d + 5) 79 (0, [vR 1, vR o, vJ], [], zH t p q E) = zf_k X (d + 5) 79 8 [vR 1, vR o, vI (tk_ls B n k)] [] (zf_ev X (d + 4) 81 (0, [vR 1, vR o, vI (tk_ls B n k), vJ], [], zH t p q E)) := by
    rw [L79_0 ho, T80 hT.1, L79_k1 ho]
  cases s0 : pl_beg B n f k with
  | inl x =>
    obtain ⟨F, f1, f2, f3⟩ := b1 x s0
    refine zOC_l (u := x) ?_ (F := F) ?_ f2 (f3.H ho)
    · unfold pl_line
      rw [s0]
    · rw [e0, f1, L79_k8 ho, if_neg (by decide)]
  | inr k2 =>
    obtain ⟨f1, rfl⟩ := b2 k2 s0
    obtain ⟨F, g1, g2, g3⟩ := T109n (X := X) (d := d + 3) (t := t) (p := p) (q := q) hT.1
    have g2 : zT0 B n (tk_e B n k) F := ⟨g2, by rw [g3 _ _ (by omega)]; exact hT.2⟩
    have hC2 : zHC f F o := hC.fr ho (fun x y u => g3 x y (by omega)) (g3 _ _ (by omega))
    have hN2 : zNm L (f 3 + f 4) F := hN.fr (g3 _ _ (by omega)) (fun b => g3 _ _ (by omega))
    have hF : zFH o E F := fun x y u1 u2 u3 u4 u5 => g3 x y u2
    have e1 : zf_ev X (d + 5) 79 (0, [vR 1, vR o, vJ], [], zH t p q E) = zf_k X (d + 5) 79 20 [vR 1, vR o, vI (tk_ls B n k)] [] (some (some [], zH t p q F)) := by
      rw [e0, f1, L79_k8 ho, if_pos (by decide), g1]
    have hl : pl_line B n f L k = pl_rest B n f L k (.inr (tk_e B n k)) := by
      unfold pl_line
      rw [s0]
    rw [hl, e1, L79_k20 ho]
    unfold pl_beg at s0
    unfold pl_rest
    unfold pl_room at s0
    generalize tk_ls B n k = s at hr s0 ⊢
    rw [n32_id (by omega) (by omega)]
    by_cases g0 : s = 0
    · rw [if_pos g0] at s0; cases s0
    rw [if_neg g0] at s0
    by_cases w1 : s = 1
    · rw [if_pos w1, if_pos w1]
      obtain ⟨G, q1, q2, q3⟩ := T83 (X := X) (d := d + 1) (t := t) (p := p) (q := q) ho hI hC2 hN2 g2
      exact ⟨G, by rw [q1, L79_k66, zg_pos ps_b_01], q2, hF.tr q3⟩
    rw [if_neg w1] at s0 ⊢
    rw [if_neg w1]
    by_cases c0 : f 0 ≤ 0
    · rw [if_pos c0] at s0; cases s0
    rw [if_neg c0] at s0
    have c0 : 0 < f 0 := by omega
    by_cases w2 : s = 2
    · rw [if_pos w2, if_pos w2]
      obtain ⟨G, q1, q2, q3⟩ := T84 (X := X) (d := d) (t := t) (p := p) (q := q) ho hI hC2 hN2 g2 c0
      exact ⟨G, by rw [q1, L79_k72, zg_pos ps_b_01], q2, hF.tr q3⟩
    rw [if_neg w2, if_neg w2]
    by_cases w3 : s = 3
    · rw [if_pos w3, if_pos w3]
      obtain ⟨G, q1, q2, q3⟩ := T85 (X := X) (d := d) (t := t) (p := p) (q := q) ho hI hC2 hN2 g2 c0
      exact ⟨G, by rw [q1, L79_k78, zg_pos ps_b_01], q2, hF.tr q3⟩
    rw [if_neg w3] at s0 ⊢
    rw [if_neg w3]
    by_cases w4 : s = 4
    · rw [if_pos w4] at s0 ⊢
      rw [if_pos w4]
      have hf : f 3 < 4 := by
        by_cases hf : f 3 < 4
        · exact hf
        · rw [if_neg (by rw [decide_eq_false hf]; decide)] at s0; cases s0
      obtain ⟨G, q1, q2, q3⟩ := T87 (X := X) (d := d) (t := t) (p := p) (q := q) ho hI hC2 hN2 g2 c0 hf
      exact ⟨G, by rw [q1, L79_k84, zg_pos ps_b_01], q2, hF.tr q3⟩
    rw [if_neg w4] at s0 ⊢
    rw [if_neg w4]
    by_cases w5 : s = 5
    · rw [if_pos w5] at s0 ⊢
      rw [if_pos w5]
      have hf : f 4 < 6 := by
        by_cases hf : f 4 < 6
        · exact hf
        · rw [if_neg (by rw [decide_eq_false hf]; decide)] at s0; cases s0
      obtain ⟨G, q1, q2, q3⟩ := T88 (X := X) (d := d + 1) (t := t) (p := p) (q := q) ho hI hC2 hN2 g2 c0 hf
      exact ⟨G, by rw [q1, L79_k90, zg_pos ps_b_01], q2, hF.tr q3⟩
    rw [if_neg w5] at s0 ⊢
    rw [if_neg w5]
    by_cases w6 : s = 6
    · rw [if_pos w6] at s0 ⊢
      rw [if_pos w6]
      have hf : f 5 < 3 := by
        by_cases hf : f 5 < 3
        · exact hf
        · rw [if_neg (by rw [decide_eq_false hf]; decide)] at s0; cases s0
      obtain ⟨G, q1, q2, q3⟩ := T89 (X := X) (d := d) (t := t) (p := p) (q := q) ho hI hC2 hN2 g2 c0 hf
      exact ⟨G, by rw [q1, L79_k96, zg_pos ps_b_01], q2, hF.tr q3⟩
    rw [if_neg w6] at s0 ⊢
    rw [if_neg w6]
    have w7 : s = 7 := by omega
    rw [if_pos w7] at s0
    have hf : f 6 < 5 := by
      by_cases hf : f 6 < 5
      · exact hf
      · rw [if_neg (by rw [decide_eq_false hf]; decide)] at s0; cases s0
    obtain ⟨G, q1, q2, q3⟩ := T90 (X := X) (d := d + 1) (t := t) (p := p) (q := q) ho hI hC2 hN2 g2 c0 hf
    exact ⟨G, by rw [q1, L79_k102, zg_pos ps_b_01], q2, hF.tr q3⟩
end CR

/-! the reference's reader as a whole -/
section RD
variable {X : Nat × (Nat → Int)} {d : Nat} {t : List (Nat × Nat)} {p q : Nat} {E : Nat → Int → Int} {B : Int → Int} {n k P : Int} {f L : Int → Int}
theorem T209 (hI : pI f) (hf0 : 0 < f 0) (hf4 : f 4 < 6) (hH : ∀ j, 0 ≤ j → j < 81 → E 64 j = f j) (hN : zNR (pU f) L (f 3 + f 4) E) (h : zS2 B n P (.inr k) E) : zOR B n P t p q E (pl_mem B n f L (.inr k)) (zf_ev X (d + 5) 209 (0, [vR 60, vJ, vJ], [], zH t p q E)) := by
  have i1 := hI.1
  unfold pI1 at i1
  have h2 : (E 60 13 = 0 ∧ E 60 9 = 0 ∧ E 60 10 = P) ∧ zTR B n k E := h
  have h4 := hH 4 (by omega) (by omega)
  obtain ⟨F1, e1, c1, v1, r1⟩ := T195 (X := X) (d := d + 2) (t := t) (p := p) (q := q) (x1 := 4 + f 4) (by omega) (by unfold pU; omega) (by omega) hN h
  have r1 : zFR E F1 := r1
  have e2 : zf_ev X (d + 5) 209 (0, [vR 60, vJ, vJ], [], zH t p q E) = zf_k X (d + 5) 209 35 [vR 60, vI (30 + 5 * f 4), vJ] [] (zf_ev X (d + 4) 191 (0, [vR 60, vX 13, vJ, vJ], [], zH t p q F1)) := by
    rw [L209_0, h2.1.1, if_pos (by decide), show n32 4 = 4 by decide, zg_pos (by decide), zg_pos (by decide), h4, e1, L209_k29]
  have hx5 : (pl_mem B n f L (.inr k)).1 = ps_N B n 0 100 (ps_W B n 20 (ps_N B n 0 9 (ps_W B n 19 (ps_N B n 1 (f 1) (ps_W B n 18 (ps_N B n 0 (f 0 - 1) (ps_W B n 17 (ps_F B n (ps_M B n L (f 3 + f 4) (.inr k)))))))))) := rfl
  cases s1 : ps_M B n L (f 3 + f 4) (.inr k) with
  | inl u =>
    rw [s1] at c1
    refine zOR_l (u := u) ?_ (F := F1) ?_ c1 r1
    · rw [hx5, s1]
      rfl
    · rw [e2, T191f (by decide) c1.1, L209_k35, if_pos (by decide), T191f (by decide) c1.1, L209_k48, if_pos (by decide), T191f (by decide) c1.1, L209_k61, if_pos (by decide), T191f (by decide) c1.1, L209_k74, if_pos (by decide), if_neg (by decide), T190f c1.1, L209_k96, c1.1, if_neg (by decide)]
  | inr k1 =>
    rw [s1] at c1
    obtain ⟨w1, w2⟩ := v1 k1 s1
    have c1b : (F1 60 13 = 0 ∧ F1 60 9 = 0 ∧ F1 60 10 = P) ∧ zTR B n k1 F1 := c1
    have hF : pv_F B n (.inr k1) = (if tk_is B n k1 13 = true then 0 else if tk_is B n k1 14 = true then 1 else if tk_is B n k1 15 = true then 2 else if tk_is B n k1 16 = true then 3 else -1) := rfl
    have hS : ps_F B n (.inr k1) = (if pv_F B n (.inr k1) = -1 then .inl (1, tk_a B n k1) else .inr (tk_e B n k1)) := rfl
    obtain ⟨F2, e3, c2, r2⟩ := zS2_next (X := X) (d := d + 3) (t := t) (p := p) (q := q) c1
    have main : ∀ v0 : Int, pv_F B n (.inr k1) = v0 → 0 ≤ v0 ∧ v0 ≤ 3 → zf_ev X (d + 5) 209 (0, [vR 60, vJ, vJ], [], zH t p q E) = zf_k X (d + 5) 209 108 [vR 60, vI (30 + 5 * f 4), vI v0] [] (zf_ev X (d + 4) 189 (0, [vR 60, vJ, vJ, vJ], [], zH t p q F1)) → zOR B n P t p q E (pl_mem B n f L (.inr k)) (zf_ev X (d + 5) 209 (0, [vR 60, vJ, vJ], [], zH t p q E)) := by
      intro v0 hv0 hr0 e4
      have hS2 : ps_F B n (.inr k1) = .inr (tk_e B n k1) := by
        rw [hS, hv0, if_neg (by omega)]
      rw [← hS2] at c2
      have c2' := c2.fr (F := zu F2 64 (30 + 5 * f 4) v0) (fun x y _ _ => zu_ne (by omega))
      obtain ⟨F3, e5, c3, r3⟩ := T198 (X := X) (d := d) (t := t) (p := p) (q := q) (w := 17) (by decide) (lo := 0) (hi := f 0 - 1) (by omega) (by omega) c2'
      generalize a1 : pv_N B n 0 (f 0 - 1) (ps_W B n 17 (ps_F B n (.inr k1))) = v1 at e5
      have c3' := c3.fr (F := zu F3 64 (30 + 5 * f 4 + 1) v1) (fun x y _ _ => zu_ne (by omega))
      obtain ⟨F4, e6, c4, r4⟩ := T198 (X := X) (d := d) (t := t) (p := p) (q := q) (w := 18) (by decide) (lo := 1) (hi := f 1) (by omega) (by omega) c3'
      generalize a2 : pv_N B n 1 (f 1) (ps_W B n 18 (ps_N B n 0 (f 0 - 1) (ps_W B n 17 (ps_F B n (.inr k1))))) = v2 at e6
      have c4' := c4.fr (F := zu F4 64 (30 + 5 * f 4 + 2) v2) (fun x y _ _ => zu_ne (by omega))
      obtain ⟨F5, e7, c5, r5⟩ := T198 (X := X) (d := d) (t := t) (p := p) (q := q) (w := 19) (by decide) (lo := 0) (hi := 9) (by omega) (by omega) c4'
      generalize a3 : pv_N B n 0 9 (ps_W B n 19 (ps_N B n 1 (f 1) (ps_W B n 18 (ps_N B n 0 (f 0 - 1) (ps_W B n 17 (ps_F B n (.inr k1))))))) = v3 at e7
      have c5' := c5.fr (F := zu F5 64 (30 + 5 * f 4 + 3) v3) (fun x y _ _ => zu_ne (by omega))
      obtain ⟨F6, e8, c6, r6⟩ := T198 (X := X) (d := d) (t := t) (p := p) (q := q) (w := 20) (by decide) (lo := 0) (hi := 100) (by omega) (by omega) c5'
      generalize a4 : pv_N B n 0 100 (ps_W B n 20 (ps_N B n 0 9 (ps_W B n 19 (ps_N B n 1 (f 1) (ps_W B n 18 (ps_N B n 0 (f 0 - 1) (ps_W B n 17 (ps_F B n (.inr k1))))))))) = v4 at e8
      have hc2 : ∀ y, F2 64 y = F1 64 y := fun y => r2 _ _ (by omega) (by omega)
      have hc3 : ∀ y, y ≠ 30 + 5 * f 4 → F3 64 y = F1 64 y := fun y w => by rw [r3 _ _ (by omega) (by omega), zu_ne (by omega), hc2]
      have hc4 : ∀ y, y ≠ 30 + 5 * f 4 → y ≠ 30 + 5 * f 4 + 1 → F4 64 y = F1 64 y := fun y w z => by rw [r4 _ _ (by omega) (by omega), zu_ne (by omega), hc3 y w]
      have hc5 : ∀ y, y ≠ 30 + 5 * f 4 → y ≠ 30 + 5 * f 4 + 1 → y ≠ 30 + 5 * f 4 + 2 → F5 64 y = F1 64 y := fun y w z a => by rw [r5 _ _ (by omega) (by omega), zu_ne (by omega), hc4 y w z]
      have hc6 : ∀ y, y ≠ 30 + 5 * f 4 → y ≠ 30 + 5 * f 4 + 1 → y ≠ 30 + 5 * f 4 + 2 → y ≠ 30 + 5 * f 4 + 3 → F6 64 y = F1 64 y := fun y w z a b => by rw [r6 _ _ (by omega) (by omega), zu_ne (by omega), hc5 y w z a]
      have hfr : zFR E F6 := ((((((((r1.tr r2.B.R).tr zFR.u).tr r3.R).tr zFR.u).tr r4.R).tr zFR.u).tr r5.R).tr zFR.u).tr r6.R
      have e9 : zf_ev X (d + 5) 209 (0, [vR 60, vJ, vJ], [], zH t p q E) = zf_k X (d + 5) 209 192 [vR 60, vI (30 + 5 * f 4), vI v0] [vI (30 + 5 * f 4 + 4), vR 64] (some (some [vI v4], zH t p q F6)) := by
        rw [e4, e3, L209_k108, n32_id (by omega) (by omega), zg_pos (by omega), show n32 0 = 0 by decide, zg_pos (by decide), zu_ne (by omega), hc2, w2 0 (by omega), hH 0 (by omega) (by omega), e5, L209_k137, n32_id (by omega) (by omega), zg_pos (by omega), show n32 1 = 1 by decide, zg_pos (by decide), zu_ne (by omega), hc3 _ (by omega), w2 1 (by omega), hH 1 (by omega) (by omega), e6, L209_k158, n32_id (by omega) (by omega), zg_pos (by omega), e7, L209_k175, n32_id (by omega) (by omega), zg_pos (by omega), e8]
      cases s3 : ps_N B n 0 100 (ps_W B n 20 (ps_N B n 0 9 (ps_W B n 19 (ps_N B n 1 (f 1) (ps_W B n 18 (ps_N B n 0 (f 0 - 1) (ps_W B n 17 (ps_F B n (.inr k1))))))))) with
      | inl u =>
        rw [s3] at c6
        refine zOR_l (u := u) ?_ (F := zu F6 64 (30 + 5 * f 4 + 4) v4) ?_ (c6.fr (fun x y _ _ => zu_ne (by omega))) (hfr.tr zFR.u)
        · rw [hx5, s1, s3]
        · rw [e9, L209_k192, n32_id (by omega) (by omega), zg_pos (by omega), zu_ne (by omega), c6.1, if_pos (by decide)]
      | inr k3 =>
        rw [s3] at c6
        have c6b : (F6 60 13 = 0 ∧ F6 60 9 = 0 ∧ F6 60 10 = P) ∧ zTR B n k3 F6 := c6
        refine zOR_r (k := k3) ?_ (F := zu (zu F6 64 (30 + 5 * f 4 + 4) v4) 64 4 (f 4 + 1)) ?_ (c6.fr (fun x y _ _ => by rw [zu_ne (by omega), zu_ne (by omega)])) (fun j a b => ?_) ?_ ((hfr.tr zFR.u).tr zFR.u)
        · rw [hx5, s1, s3]
        · rw [e9, L209_k192, n32_id (by omega) (by omega), zg_pos (by omega), zu_ne (by omega), c6b.1.1, if_neg (by decide), show n32 4 = 4 by decide, zg_pos (by decide), zg_pos (by decide), zu_ne (by omega), hc6 4 (by omega) (by omega) (by omega) (by omega), w2 4 (by omega), h4]
        · have hp : (pl_mem B n f L (.inr k)).2.1 = pu (pu (pu (pu (pu (pu f (30 + 5 * f 4) v0) (30 + 5 * f 4 + 1) v1) (30 + 5 * f 4 + 2) v2) (30 + 5 * f 4 + 3) v3) (30 + 5 * f 4 + 4) v4) 4 (f 4 + 1) := by
            unfold pl_mem pm4 pm3 pm2 pm1
            rw [s1, hv0, a1, a2, a3, a4]
          rw [hp]
          by_cases j0 : j = 4
          · rw [j0, zu_same, pu_s]
          by_cases j1 : j = 30 + 5 * f 4 + 4
          · rw [j1, zu_ne (by omega), zu_same, pu_n (by omega), pu_s]
          by_cases j2 : j = 30 + 5 * f 4 + 3
          · rw [j2, zu_ne (by omega), zu_ne (by omega), r6 _ _ (by omega) (by omega), zu_same, pu_n (by omega), pu_n (by omega), pu_s]
          by_cases j3 : j = 30 + 5 * f 4 + 2
          · rw [j3, zu_ne (by omega), zu_ne (by omega), r6 _ _ (by omega) (by omega), zu_ne (by omega), r5 _ _ (by omega) (by omega), zu_same, pu_n (by omega), pu_n (by omega), pu_n (by omega), pu_s]
          by_cases j4 : j = 30 + 5 * f 4 + 1
          · rw [j4, zu_ne (by omega), zu_ne (by omega), r6 _ _ (by omega) (by omega), zu_ne (by omega), r5 _ _ (by omega) (by omega), zu_ne (by omega), r4 _ _ (by omega) (by omega), zu_same, pu_n (by omega), pu_n (by omega), pu_n (by omega), pu_n (by omega), pu_s]
          by_cases j5 : j = 30 + 5 * f 4
          · rw [j5, zu_ne (by omega), zu_ne (by omega), r6 _ _ (by omega) (by omega), zu_ne (by omega), r5 _ _ (by omega) (by omega), zu_ne (by omega), r4 _ _ (by omega) (by omega), zu_ne (by omega), r3 _ _ (by omega) (by omega), zu_same, pu_n (by omega), pu_n (by omega), pu_n (by omega), pu_n (by omega), pu_n (by omega), pu_s]
          rw [zu_ne (by omega), zu_ne (by omega), pu_n j0, pu_n j1, pu_n j2, pu_n j3, pu_n j4, pu_n j5, hc6 j j5 j4 j3 j2, w2 j b, hH j a b]
        · have hn := pl_mem_n (B := B) (n := n) (f := f) (L := L) (s := .inr k) (by omega)
          have u3 : (pl_mem B n f L (.inr k)).2.1 3 = f 3 := by unfold pl_mem; simp (disch := omega) only [pu_n, pu_s]
          have u4 : (pl_mem B n f L (.inr k)).2.1 4 = f 4 + 1 := by unfold pl_mem; simp (disch := omega) only [pu_n, pu_s]
          rw [hn.1, hn.2]
          refine w1.fr (fun x _ _ => ?_) (fun y a b => by rw [zu_ne (by omega), zu_ne (by omega), hc6 y (by omega) (by omega) (by omega) (by omega)])
          unfold pU
          rw [u3, u4]
          omega
    have k35 : zf_ev X (d + 5) 209 (0, [vR 60, vJ, vJ], [], zH t p q E) = zf_k X (d + 5) 209 35 [vR 60, vI (30 + 5 * f 4), vJ] [] (some (some [vI (fa_b (tk_is B n k1 13))], zH t p q F1)) := by
      rw [e2, T191 (by decide) c1b.1.1 c1b.2]
    by_cases g0 : tk_is B n k1 13 = true
    · refine main 0 (by rw [hF, if_pos g0]) (by decide) ?_
      rw [k35, L209_k35, g0, fa_b_t, if_neg (by decide), if_pos (by decide), c1b.1.1, if_pos (by decide)]
    rw [L209_k35, bo_f g0, fa_b_f, if_pos (by decide), T191 (by decide) c1b.1.1 c1b.2] at k35
    by_cases g1 : tk_is B n k1 14 = true
    · refine main 1 (by rw [hF, if_neg g0, if_pos g1]) (by decide) ?_
      rw [k35, L209_k48, g1, fa_b_t, if_neg (by decide), if_pos (by decide), c1b.1.1, if_pos (by decide)]
    rw [L209_k48, bo_f g1, fa_b_f, if_pos (by decide), T191 (by decide) c1b.1.1 c1b.2] at k35
    by_cases g2 : tk_is B n k1 15 = true
    · refine main 2 (by rw [hF, if_neg g0, if_neg g1, if_pos g2]) (by decide) ?_
      rw [k35, L209_k61, g2, fa_b_t, if_neg (by decide), if_pos (by decide), c1b.1.1, if_pos (by decide)]
    rw [L209_k61, bo_f g2, fa_b_f, if_pos (by decide), T191 (by decide) c1b.1.1 c1b.2] at k35
    by_cases g3 : tk_is B n k1 16 = true
    · refine main 3 (by rw [hF, if_neg g0, if_neg g1, if_neg g2, if_pos g3]) (by decide) ?_
      rw [k35, L209_k74, g3, fa_b_t, if_neg (by decide), if_pos (by decide), c1b.1.1, if_pos (by decide)]
    rw [if_neg g0, if_neg g1, if_neg g2, if_neg g3] at hF
    rw [if_pos hF] at hS
    refine zOR_l (u := (1, tk_a B n k1)) ?_ (F := zwr F1 1 (tk_a B n k1)) ?_ zwr_S (r1.tr zwr_B.R)
    · rw [hx5, s1, hS]
      rfl
    · rw [k35, L209_k74, bo_f g3, fa_b_f, if_pos (by decide), if_neg (by decide), c1b.2.2.2.1.1, T190 c1b.1.1, L209_k96, (zwr_S (B := B) (n := n) (P := P) (E := F1)).1, if_neg (by decide)]
def pb (B : Int → Int) (n : Int) (f : Int → Int) (k : Int) (can : Bool) : PS := if can = true then (if f 0 ≤ 0 then .inl (6, tk_a B n k) else .inr (tk_e B n k)) else .inl (5, tk_a B n k)
theorem pb_beg (hI : pI f) (h2 : 2 ≤ tk_ls B n k) : pl_beg B n f k = pb B n f k (pl_room f (tk_ls B n k)) := by
  have i1 := hI.1
  unfold pI1 at i1
  have hr := tk_ls_r (B := B) (n := n) (k := k)
  unfold pl_beg pb
  rw [if_neg (by omega), if_neg (by omega)]
  by_cases g : f 0 ≤ 0
  · have : pl_room f (tk_ls B n k) = true := by
      unfold pl_room
      generalize tk_ls B n k = s at hr h2
      repeat' split
      all_goals first
        | rfl
        | (apply decide_eq_true; omega)
    rw [if_pos g, if_pos this, if_pos g]
  · rw [if_neg g, if_neg g]
theorem T201 {w : Nat} (hw : w < 22) {can : Bool} (hI : pI f) (h0 : E 64 0 = f 0) (h : zS2 B n P (.inr k) E) : (tk_is B n k w = false → zf_ev X (d + 2) 201 (0, [vR 60, vX w, vI (fa_b can)], [], zH t p q E) = some (some [vI 0], zH t p q E)) ∧ (tk_is B n k w = true → ∃ F, zf_ev X (d + 2) 201 (0, [vR 60, vX w, vI (fa_b can)], [], zH t p q E) = some (some [vI 1], zH t p q F) ∧ zS2 B n P (pb B n f k can) F ∧ zFB E F) := by
  have i1 := hI.1
  unfold pI1 at i1
  have h2 : (E 60 13 = 0 ∧ E 60 9 = 0 ∧ E 60 10 = P) ∧ zTR B n k E := h
  constructor
  · intro g
    rw [L201_0, T191 hw h2.1.1 h2.2, L201_k2, g, fa_b_f, if_neg (by decide)]
  · intro g
    have e0 : zf_ev X (d + 2) 201 (0, [vR 60, vX w, vI (fa_b can)], [], zH t p q E) = zf_k X (d + 2) 201 2 [vR 60, vX w, vI (fa_b can)] [] (some (some [vI 1], zH t p q E)) := by
      rw [L201_0, T191 hw h2.1.1 h2.2, g, fa_b_t]
    unfold pb
    cases can
    · rw [if_neg (by decide)]
      have w13 := (zwr_S (B := B) (n := n) (P := P) (E := E) (v := 5) (a := tk_a B n k)).1
      have w64 : zwr E 5 (tk_a B n k) 64 0 = f 0 := by rw [zwr_B _ _ (by omega) (by omega)]; exact h0
      refine ⟨zwr E 5 (tk_a B n k), ?_, zwr_S, zwr_B⟩
      rw [e0, L201_k2, if_pos (by decide), fa_b_f, if_neg (fun e => e (by decide)), h2.2.2.2.1.1, T190 h2.1.1, L201_k20, show n32 0 = 0 by decide, zg_pos (by decide), w64]
      by_cases g2 : f 0 = 0
      · rw [if_neg (by rw [g2]; decide), T190f w13, L201_k39, w13, if_pos (by decide)]
      · rw [if_pos (by rw [n32_id (by omega) (by omega)]; exact g2), w13, if_pos (by decide)]
    · rw [if_pos rfl]
      by_cases g2 : f 0 ≤ 0
      · rw [if_pos g2]
        have w13 := (zwr_S (B := B) (n := n) (P := P) (E := E) (v := 6) (a := tk_a B n k)).1
        refine ⟨zwr E 6 (tk_a B n k), ?_, zwr_S, zwr_B⟩
        rw [e0, L201_k2, if_pos (by decide), fa_b_t, if_pos (by decide), show n32 0 = 0 by decide, zg_pos (by decide), h0, if_neg (by rw [n32_id (by omega) (by omega)]; omega), h2.2.2.2.1.1, T190 h2.1.1, L201_k39, w13, if_pos (by decide)]
      · rw [if_neg g2]
        obtain ⟨F, f1, f2, f3⟩ := zS2_next (X := X) (d := d) (t := t) (p := p) (q := q) h
        refine ⟨F, ?_, f2, f3.B⟩
        rw [e0, L201_k2, if_pos (by decide), fa_b_t, if_pos (by decide), show n32 0 = 0 by decide, zg_pos (by decide), h0, if_pos (by rw [n32_id (by omega) (by omega)]; omega), h2.1.1, if_neg (by decide), f1, L201_k50]
end RD

/-! the reference's lines -/
def zFR (E F : Nat → Int → Int) : Prop := ∀ x y, (x ≠ 60 ∨ y < 4 ∨ 13 < y ∨ y = 11 ∨ y = 12) → x ≠ 62 → x ≠ 64 → F x y = E x y
theorem zFR.tr {E F H : Nat → Int → Int} (h1 : zFR E F) (h2 : zFR F H) : zFR E H := fun a b g1 g2 g3 => by rw [h2 a b g1 g2 g3, h1 a b g1 g2 g3]
theorem zFB.R {E F : Nat → Int → Int} (h : zFB E F) : zFR E F := fun x y u v _ => h x y u v
theorem zFR.u {E : Nat → Int → Int} {a v : Int} : zFR E (zu E 64 a v) := fun x y u w z => zu_ne (by omega)
theorem zFR.rfl' {E : Nat → Int → Int} : zFR E E := fun _ _ _ _ _ => rfl
def pU (f : Int → Int) : Int → Prop := fun x => x < f 3 ∨ (4 ≤ x ∧ x < 4 + f 4)
def zSR (B : Int → Int) (n P : Int) (x : PT) (F : Nat → Int → Int) : Prop := match x.1 with
  | .inl u => zS2 B n P (.inl u) F
  | .inr k => zS2 B n P (.inr k) F ∧ (∀ j, 0 ≤ j → j < 81 → F 64 j = x.2.1 j) ∧ zNR (pU x.2.1) x.2.2 (x.2.1 3 + x.2.1 4) F
def zOR (B : Int → Int) (n P : Int) (t : List (Nat × Nat)) (p q : Nat) (E : Nat → Int → Int) (x : PT) (res : Option (Option (List ZV) × ZH)) : Prop := ∃ F, res = some (some [], zH t p q F) ∧ zSR B n P x F ∧ zFR E F
theorem zOR_l {B : Int → Int} {n P : Int} {t : List (Nat × Nat)} {p q : Nat} {E F : Nat → Int → Int} {x : PT} {u : Int × Int} {res : Option (Option (List ZV) × ZH)} (h : x.1 = .inl u) (h1 : res = some (some [], zH t p q F)) (h2 : zS2 B n P (.inl u) F) (h3 : zFR E F) : zOR B n P t p q E x res := by
  refine ⟨F, h1, ?_, h3⟩
  unfold zSR
  rw [h]
  exact h2
theorem zOR_r {B : Int → Int} {n P : Int} {t : List (Nat × Nat)} {p q : Nat} {E F : Nat → Int → Int} {x : PT} {k : Int} {res : Option (Option (List ZV) × ZH)} (h : x.1 = .inr k) (h1 : res = some (some [], zH t p q F)) (h2 : zS2 B n P (.inr k) F) (h4 : ∀ j, 0 ≤ j → j < 81 → F 64 j = x.2.1 j) (h5 : zNR (pU x.2.1) x.2.2 (x.2.1 3 + x.2.1 4) F) (h3 : zFR E F) : zOR B n P t p q E x res := by
  refine ⟨F, h1, ?_, h3⟩
  unfold zSR
  rw [h]
  exact ⟨h2, h4, h5⟩
section RL
variable {X : Nat × (Nat → Int)} {d : Nat} {t : List (Nat × Nat)} {p q : Nat} {E : Nat → Int → Int} {B : Int → Int} {n k P : Int} {f L : Int → Int}
theorem T203 (hI : pI f) (hH : ∀ j, 0 ≤ j → j < 81 → E 64 j = f j) (hN : zNR (pU f) L (f 3 + f 4) E) (h : zS2 B n P (.inr k) E) (hls : tk_ls B n k = 1) : zOR B n P t p q E (pl_line B n f L k) (zf_ev X (d + 5) 203 (0, [vR 60, vJ], [], zH t p q E)) := by
  have i1 := hI.1
  unfold pI1 at i1
  have h2 : (E 60 13 = 0 ∧ E 60 9 = 0 ∧ E 60 10 = P) ∧ zTR B n k E := h
  have h0 := hH 0 (by omega) (by omega)
  by_cases g : 0 < f 0
  · have hb : pl_beg B n f k = .inl (3, tk_a B n k) := by
      unfold pl_beg
      rw [hls, if_neg (by decide), if_pos rfl, if_pos g]
    refine zOR_l (u := (3, tk_a B n k)) ?_ (F := zwr E 3 (tk_a B n k)) ?_ zwr_S zwr_B.R
    · unfold pl_line
      rw [hb]
    · rw [L203_0, zg_pos (by decide), show n32 0 = 0 by decide, h0, if_neg (by rw [n32_id (by omega) (by omega)]; omega), h2.2.2.2.1.1, T190 h2.1.1, L203_k15, (zwr_S (B := B) (n := n) (P := P) (E := E)).1, if_neg (by decide)]
  · have hb : pl_beg B n f k = .inr (tk_e B n k) := by
      unfold pl_beg
      rw [hls, if_neg (by decide), if_pos rfl, if_neg g]
    have hl : pl_line B n f L k = pl_hall B n f L (.inr (tk_e B n k)) := by
      unfold pl_line
      rw [hb]
      show pl_rest B n f L k (.inr (tk_e B n k)) = _
      unfold pl_rest
      rw [if_pos hls]
    rw [hl]
    obtain ⟨F1, e1, c1, r1⟩ := zS2_next (X := X) (d := d + 3) (t := t) (p := p) (q := q) h
    generalize tk_e B n k = kk at c1 ⊢
    obtain ⟨F2, e2, c2, r2⟩ := T198 (X := X) (d := d) (t := t) (p := p) (q := q) (w := 7) (by decide) (lo := 3) (hi := 12) (by omega) (by omega) c1
    obtain ⟨F3, e3, c3, r3⟩ := T198 (X := X) (d := d) (t := t) (p := p) (q := q) (w := 8) (by decide) (lo := 1) (hi := 6) (by omega) (by omega) c2
    have c3' := c3.fr (F := zu F3 64 1 (pv_N B n 1 6 (ps_W B n 8 (ps_N B n 3 12 (ps_W B n 7 (.inr kk)))))) (fun x y _ _ => zu_ne (by omega))
    obtain ⟨F4, e4, c4, r4⟩ := T198 (X := X) (d := d) (t := t) (p := p) (q := q) (w := 9) (by decide) (lo := 0) (hi := 9) (by omega) (by omega) c3'
    have hfr : zFR E F4 := (((r1.B.tr r2).tr r3).R.tr zFR.u).tr r4.R
    have e5 : zf_ev X (d + 5) 203 (0, [vR 60, vJ], [], zH t p q E) = zf_k X (d + 5) 203 66 [vR 60, vI (pv_N B n 3 12 (ps_W B n 7 (.inr kk)))] [vI 2, vR 64] (some (some [vI (pv_N B n 0 9 (ps_W B n 9 (ps_N B n 1 6 (ps_W B n 8 (ps_N B n 3 12 (ps_W B n 7 (.inr kk)))))))], zH t p q F4)) := by
      rw [L203_0, zg_pos (by decide), show n32 0 = 0 by decide, h0, if_pos (by rw [n32_id (by omega) (by omega)]; omega), h2.1.1, if_pos (by decide), e1, L203_k27, e2, L203_k36, e3, L203_k51, show n32 1 = 1 by decide, zg_pos (by decide), e4]
    cases hs : ps_N B n 0 9 (ps_W B n 9 (ps_N B n 1 6 (ps_W B n 8 (ps_N B n 3 12 (ps_W B n 7 (.inr kk)))))) with
    | inl u =>
      rw [hs] at c4
      refine zOR_l (u := u) hs (F := zu F4 64 2 (pv_N B n 0 9 (ps_W B n 9 (ps_N B n 1 6 (ps_W B n 8 (ps_N B n 3 12 (ps_W B n 7 (.inr kk)))))))) ?_ (c4.fr (fun x y _ _ => zu_ne (by omega))) (hfr.tr zFR.u)
      rw [e5, L203_k66, show n32 2 = 2 by decide, zg_pos (by decide), zu_ne (by omega), c4.1, if_pos (by decide)]
    | inr k2 =>
      rw [hs] at c4
      have c4b : (F4 60 13 = 0 ∧ F4 60 9 = 0 ∧ F4 60 10 = P) ∧ zTR B n k2 F4 := c4
      have hc : ∀ y, y ≠ 1 → F4 64 y = E 64 y := fun y w => by rw [r4 _ _ (by omega) (by omega), zu_ne (by omega), r3 _ _ (by omega) (by omega), r2 _ _ (by omega) (by omega), r1 _ _ (by omega) (by omega)]
      refine zOR_r (k := k2) hs (F := zu (zu F4 64 2 (pv_N B n 0 9 (ps_W B n 9 (ps_N B n 1 6 (ps_W B n 8 (ps_N B n 3 12 (ps_W B n 7 (.inr kk)))))))) 64 0 (pv_N B n 3 12 (ps_W B n 7 (.inr kk)))) ?_ (c4.fr (fun x y _ _ => by rw [zu_ne (by omega), zu_ne (by omega)])) (fun j a b => ?_) ?_ ((hfr.tr zFR.u).tr zFR.u)
      · rw [e5, L203_k66, show n32 2 = 2 by decide, zg_pos (by decide), zu_ne (by omega), c4b.1.1, if_neg (by decide), show n32 0 = 0 by decide, zg_pos (by decide)]
      · show _ = pu (pu (pu f 0 (pv_N B n 3 12 (ps_W B n 7 (.inr kk)))) 1 (pv_N B n 1 6 (ps_W B n 8 (ps_N B n 3 12 (ps_W B n 7 (.inr kk)))))) 2 (pv_N B n 0 9 (ps_W B n 9 (ps_N B n 1 6 (ps_W B n 8 (ps_N B n 3 12 (ps_W B n 7 (.inr kk))))))) j
        by_cases j0 : j = 0
        · rw [j0, zu_same]
          simp (disch := omega) only [pu_n, pu_s]
        by_cases j1 : j = 1
        · rw [j1, zu_ne (by omega), zu_ne (by omega), r4 _ _ (by omega) (by omega), zu_same]
          simp (disch := omega) only [pu_n, pu_s]
        by_cases j2 : j = 2
        · rw [j2, zu_ne (by omega), zu_same]
          simp (disch := omega) only [pu_n, pu_s]
        rw [zu_ne (by omega), zu_ne (by omega), hc _ j1, hH j a b]
        simp (disch := omega) only [pu_n, pu_s]
      · rw [pl_hall_n.1, pl_hall_n.2]
        have u3 : (pl_hall B n f L (.inr kk)).2.1 3 = f 3 := by unfold pl_hall; simp (disch := omega) only [pu_n, pu_s]
        have u4 : (pl_hall B n f L (.inr kk)).2.1 4 = f 4 := by unfold pl_hall; simp (disch := omega) only [pu_n, pu_s]
        refine hN.fr (fun x _ _ => ?_) (fun y a b => by rw [zu_ne (by omega), zu_ne (by omega), hc _ (by omega)])
        unfold pU
        rw [u3, u4]
theorem T205 (hI : pI f) (hf0 : 0 < f 0) (hH : ∀ j, 0 ≤ j → j < 81 → E 64 j = f j) (hN : zNR (pU f) L (f 3 + f 4) E) (h : zS2 B n P (.inr k) E) : zOR B n P t p q E (pl_air B n f L (.inr k)) (zf_ev X (d + 3) 205 (0, [vR 60, vJ, vJ, vJ], [], zH t p q E)) := by
  have i1 := hI.1
  unfold pI1 at i1
  have h2 : (E 60 13 = 0 ∧ E 60 9 = 0 ∧ E 60 10 = P) ∧ zTR B n k E := h
  obtain ⟨F1, v, e1, c1, v1, r1⟩ := T204 (X := X) (d := d) (t := t) (p := p) (q := q) hI hH h
  have e2 : zf_ev X (d + 3) 205 (0, [vR 60, vJ, vJ, vJ], [], zH t p q E) = zf_k X (d + 3) 205 16 [vR 60, vI v, vJ, vJ] [] (zf_ev X (d + 2) 191 (0, [vR 60, vX 10, vJ, vJ], [], zH t p q F1)) := by
    rw [L205_0, h2.1.1, if_pos (by decide), e1, L205_k9]
  have hn := pl_air_n (B := B) (n := n) (f := f) (L := L) (s := .inr k) (by omega)
  cases s1 : ps_R B n 1 (f 1) (pl_told f) (.inr k) with
  | inl u =>
    rw [s1] at c1
    refine zOR_l (u := u) ?_ (F := F1) ?_ c1 r1.R
    · show ps_N B n 0 3 (ps_D B n (ps_R B n 1 (f 1) (pl_told f) (.inr k))) = _
      rw [s1]
      rfl
    · rw [e2, T191f (by decide) c1.1, L205_k16, if_pos (by decide), T191f (by decide) c1.1, L205_k29, if_pos (by decide), c1.1, if_pos (by decide), if_neg (by decide)]
  | inr k1 =>
    rw [s1] at c1
    have v1 := v1 k1 s1
    have hv := (ps_R_v s1).1
    generalize hrow : pv_N B n 1 (f 1) (.inr k) = row at v1 hv
    rw [v1] at e2
    have c1b : (F1 60 13 = 0 ∧ F1 60 9 = 0 ∧ F1 60 10 = P) ∧ zTR B n k1 F1 := c1
    have hD : pv_D B n (.inr k1) = (if tk_is B n k1 10 = true then -1 else if tk_is B n k1 11 = true then 1 else 0) := rfl
    have hS : ps_D B n (.inr k1) = (if pv_D B n (.inr k1) = 0 then .inl (1, tk_a B n k1) else .inr (tk_e B n k1)) := rfl
    obtain ⟨F2, e3, c2, r2⟩ := zS2_next (X := X) (d := d + 1) (t := t) (p := p) (q := q) c1
    obtain ⟨F3, e4, c3, r3⟩ := T197 (X := X) (d := d) (t := t) (p := p) (q := q) (lo := 0) (hi := 3) (by omega) (by omega) c2
    have hfr : zFR E F3 := ((r1.tr r2.B).tr r3).R
    have main : ∀ sd : Int, pv_D B n (.inr k1) = sd → sd ≠ 0 → zf_ev X (d + 3) 205 (0, [vR 60, vJ, vJ, vJ], [], zH t p q E) = zf_k X (d + 3) 205 70 [vR 60, vI row, vI sd, vJ] [] (zf_ev X (d + 2) 189 (0, [vR 60, vJ, vJ, vJ], [], zH t p q F1)) → zOR B n P t p q E (pl_air B n f L (.inr k)) (zf_ev X (d + 3) 205 (0, [vR 60, vJ, vJ, vJ], [], zH t p q E)) := by
      intro sd hsd hs0 e5
      have hS2 : ps_D B n (.inr k1) = .inr (tk_e B n k1) := by
        rw [hS, hsd, if_neg hs0]
      have e6 : zf_ev X (d + 3) 205 (0, [vR 60, vJ, vJ, vJ], [], zH t p q E) = zf_k X (d + 3) 205 76 [vR 60, vI row, vI sd, vJ] [] (some (some [vI (pv_N B n 0 3 (.inr (tk_e B n k1)))], zH t p q F3)) := by
        rw [e5, e3, L205_k70, e4]
      cases s2 : ps_N B n 0 3 (.inr (tk_e B n k1)) with
      | inl u =>
        rw [s2] at c3
        refine zOR_l (u := u) ?_ (F := F3) ?_ c3 hfr
        · show ps_N B n 0 3 (ps_D B n (ps_R B n 1 (f 1) (pl_told f) (.inr k))) = _
          rw [s1, hS2, s2]
        · rw [e6, L205_k76, c3.1, if_neg (by decide)]
      | inr k6 =>
        rw [s2] at c3
        have c3b : (F3 60 13 = 0 ∧ F3 60 9 = 0 ∧ F3 60 10 = P) ∧ zTR B n k6 F3 := c3
        have hc : ∀ y, F3 64 y = E 64 y := fun y => by rw [r3 _ _ (by omega) (by omega), r2 _ _ (by omega) (by omega), r1 _ _ (by omega) (by omega)]
        refine zOR_r (k := k6) ?_ (F := zu (zu F3 64 (8 + row) (sd * pv_N B n 0 3 (.inr (tk_e B n k1)) + 3)) 64 (15 + row) 1) ?_ (c3.fr (fun x y _ _ => by rw [zu_ne (by omega), zu_ne (by omega)])) (fun j a b => ?_) ?_ ((hfr.tr zFR.u).tr zFR.u)
        · show ps_N B n 0 3 (ps_D B n (ps_R B n 1 (f 1) (pl_told f) (.inr k))) = _
          rw [s1, hS2, s2]
        · rw [e6, L205_k76, c3b.1.1, if_pos (by decide), n32_id (by omega) (by omega), zg_pos (by omega), n32_id (by omega) (by omega), zg_pos (by omega)]
        · unfold pl_air
          rw [hrow, s1, hS2, hsd]
          show _ = pu (pu f (8 + row) (sd * pv_N B n 0 3 (.inr (tk_e B n k1)) + 3)) (15 + row) 1 j
          by_cases j1 : j = 15 + row
          · rw [j1, zu_same, pu_s]
          by_cases j2 : j = 8 + row
          · rw [j2, zu_ne (by omega), zu_same, pu_n (by omega), pu_s]
          rw [zu_ne (by omega), zu_ne (by omega), pu_n j1, pu_n j2, hc, hH j a b]
        · have u3 : (pl_air B n f L (.inr k)).2.1 3 = f 3 := by unfold pl_air; rw [hrow]; simp (disch := omega) only [pu_n, pu_s]
          have u4 : (pl_air B n f L (.inr k)).2.1 4 = f 4 := by unfold pl_air; rw [hrow]; simp (disch := omega) only [pu_n, pu_s]
          rw [hn.1, hn.2]
          refine hN.fr (fun x _ _ => ?_) (fun y a b => by rw [zu_ne (by omega), zu_ne (by omega), hc])
          unfold pU
          rw [u3, u4]
    by_cases w1 : tk_is B n k1 10 = true
    · refine main (-1) (by rw [hD, if_pos w1]) (by decide) ?_
      rw [e2, T191 (by decide) c1b.1.1 c1b.2, L205_k16, w1, fa_b_t, if_neg (by decide), c1b.1.1, if_neg (by decide), if_pos (by decide), if_pos (by decide)]
    · by_cases w2 : tk_is B n k1 11 = true
      · refine main 1 (by rw [hD, if_neg w1, if_pos w2]) (by decide) ?_
        rw [e2, T191 (by decide) c1b.1.1 c1b.2, L205_k16, bo_f w1, fa_b_f, if_pos (by decide), T191 (by decide) c1b.1.1 c1b.2, L205_k29, w2, fa_b_t, if_neg (by decide), c1b.1.1, if_neg (by decide), if_pos (by decide), if_pos (by decide)]
      · rw [if_neg w1, if_neg w2] at hD
        rw [if_pos hD] at hS
        refine zOR_l (u := (1, tk_a B n k1)) ?_ (F := zwr F1 1 (tk_a B n k1)) ?_ zwr_S (r1.tr zwr_B).R
        · show ps_N B n 0 3 (ps_D B n (ps_R B n 1 (f 1) (pl_told f) (.inr k))) = _
          rw [s1, hS]
          rfl
        · rw [e2, T191 (by decide) c1b.1.1 c1b.2, L205_k16, bo_f w1, fa_b_f, if_pos (by decide), T191 (by decide) c1b.1.1 c1b.2, L205_k29, bo_f w2, fa_b_f, if_pos (by decide), c1b.1.1, if_neg (by decide), if_neg (by decide), c1b.2.2.2.1.1, T190 c1b.1.1, L205_k58, (zwr_S (B := B) (n := n) (P := P) (E := F1)).1, if_neg (by decide)]
theorem T206 (hI : pI f) (hf0 : 0 < f 0) (hf7 : f 7 < 3) (hH : ∀ j, 0 ≤ j → j < 81 → E 64 j = f j) (hN : zNR (pU f) L (f 3 + f 4) E) (h : zS2 B n P (.inr k) E) : zOR B n P t p q E (pl_fog B n f L (.inr k)) (zf_ev X (d + 3) 206 (0, [vR 60, vJ], [], zH t p q E)) := by
  have i1 := hI.1
  unfold pI1 at i1
  have h2 : (E 60 13 = 0 ∧ E 60 9 = 0 ∧ E 60 10 = P) ∧ zTR B n k E := h
  obtain ⟨F1, v, e1, c1, v1, r1⟩ := T204 (X := X) (d := d) (t := t) (p := p) (q := q) hI hH h
  have e2 : zf_ev X (d + 3) 206 (0, [vR 60, vJ], [], zH t p q E) = zf_k X (d + 3) 206 9 [vR 60, vJ] [] (some (some [vI v], zH t p q F1)) := by
    rw [L206_0, h2.1.1, if_pos (by decide), e1]
  have hn := pl_fog_n (B := B) (n := n) (f := f) (L := L) (s := .inr k) (by omega)
  cases s1 : ps_R B n 1 (f 1) (pl_told f) (.inr k) with
  | inl u =>
    rw [s1] at c1
    refine zOR_l (u := u) s1 (F := F1) ?_ c1 r1.R
    rw [e2, L206_k9, c1.1, if_neg (by decide)]
  | inr k1 =>
    rw [s1] at c1
    have v1 := v1 k1 s1
    have hv := (ps_R_v s1).1
    generalize hrow : pv_N B n 1 (f 1) (.inr k) = row at v1 hv
    rw [v1] at e2
    have c1b : (F1 60 13 = 0 ∧ F1 60 9 = 0 ∧ F1 60 10 = P) ∧ zTR B n k1 F1 := c1
    have hc : ∀ y, F1 64 y = E 64 y := fun y => r1 _ _ (by omega) (by omega)
    refine zOR_r (k := k1) s1 (F := zu (zu (zu F1 64 (8 + row) 7) 64 (15 + row) 1) 64 7 (f 7 + 1)) ?_ (c1.fr (fun x y _ _ => by rw [zu_ne (by omega), zu_ne (by omega), zu_ne (by omega)])) (fun j a b => ?_) ?_ (((r1.R.tr zFR.u).tr zFR.u).tr zFR.u)
    · rw [e2, L206_k9, c1b.1.1, if_pos (by decide), n32_id (by omega) (by omega), zg_pos (by omega), n32_id (by omega) (by omega), zg_pos (by omega), show n32 7 = 7 by decide, zg_pos (by decide), zg_pos (by decide), zu_ne (by omega), zu_ne (by omega), hc, hH 7 (by omega) (by omega)]
    · unfold pl_fog
      rw [hrow]
      show _ = pu (pu (pu f (8 + row) 7) (15 + row) 1) 7 (f 7 + 1) j
      by_cases j0 : j = 7
      · rw [j0, zu_same, pu_s]
      by_cases j1 : j = 15 + row
      · rw [j1, zu_ne (by omega), zu_same, pu_n (by omega), pu_s]
      by_cases j2 : j = 8 + row
      · rw [j2, zu_ne (by omega), zu_ne (by omega), zu_same, pu_n (by omega), pu_n (by omega), pu_s]
      rw [zu_ne (by omega), zu_ne (by omega), zu_ne (by omega), pu_n j0, pu_n j1, pu_n j2, hc, hH j a b]
    · have u3 : (pl_fog B n f L (.inr k)).2.1 3 = f 3 := by unfold pl_fog; rw [hrow]; simp (disch := omega) only [pu_n, pu_s]
      have u4 : (pl_fog B n f L (.inr k)).2.1 4 = f 4 := by unfold pl_fog; rw [hrow]; simp (disch := omega) only [pu_n, pu_s]
      rw [hn.1, hn.2]
      refine hN.fr (fun x _ _ => ?_) (fun y a b => by rw [zu_ne (by omega), zu_ne (by omega), zu_ne (by omega), hc])
      unfold pU
      rw [u3, u4]
theorem T208 (hI : pI f) (hf0 : 0 < f 0) (hf3 : f 3 < 4) (hH : ∀ j, 0 ≤ j → j < 81 → E 64 j = f j) (hN : zNR (pU f) L (f 3 + f 4) E) (h : zS2 B n P (.inr k) E) : zOR B n P t p q E (pl_spk B n f L (.inr k)) (zf_ev X (d + 5) 208 (0, [vR 60], [], zH t p q E)) := by
  have i1 := hI.1
  unfold pI1 at i1
  have h2 : (E 60 13 = 0 ∧ E 60 9 = 0 ∧ E 60 10 = P) ∧ zTR B n k E := h
  have h3 := hH 3 (by omega) (by omega)
  obtain ⟨F1, e1, c1, v1, r1⟩ := T195 (X := X) (d := d + 2) (t := t) (p := p) (q := q) (x1 := f 3) (by omega) (by unfold pU; omega) (by omega) hN h
  obtain ⟨F2, e2, c2, r2⟩ := T193 (X := X) (d := d + 1) (t := t) (p := p) (q := q) (w := 12) (by decide) c1
  have r1 : zFR E F1 := r1
  have e3 : zf_ev X (d + 5) 208 (0, [vR 60], [], zH t p q E) = zf_k X (d + 5) 208 21 [vR 60] [] (some (some [], zH t p q F2)) := by
    rw [L208_0, h2.1.1, if_pos (by decide), show n32 3 = 3 by decide, zg_pos (by decide), h3, e1, L208_k15, e2]
  cases s2 : ps_W B n 12 (ps_M B n L (f 3 + f 4) (.inr k)) with
  | inl u =>
    rw [s2] at c2
    refine zOR_l (u := u) ?_ (F := F2) ?_ c2 (r1.tr r2.R)
    · show ps_R B n 1 (f 1) (pl_at f (pv_N B n 0 (f 0 - 1) (ps_W B n 12 (ps_M B n L (f 3 + f 4) (.inr k))))) (ps_N B n 0 (f 0 - 1) (ps_W B n 12 (ps_M B n L (f 3 + f 4) (.inr k)))) = _
      rw [s2]
      rfl
    · rw [e3, L208_k21, c2.1, if_pos (by decide), if_pos (by decide)]
  | inr k2 =>
    rw [s2] at c2
    obtain ⟨k1, hk1, -⟩ := ps_W_b s2
    obtain ⟨v1, v2⟩ := v1 k1 hk1
    have c2b : (F2 60 13 = 0 ∧ F2 60 9 = 0 ∧ F2 60 10 = P) ∧ zTR B n k2 F2 := c2
    have hc : ∀ y, F2 64 y = F1 64 y := fun y => r2 _ _ (by omega) (by omega)
    have hH2 : ∀ j, 0 ≤ j → j < 81 → F2 64 j = f j := fun j a b => by rw [hc, v2 j b]; exact hH j a b
    obtain ⟨F3, e4, c3, v3, r3⟩ := T207 (X := X) (d := d) (t := t) (p := p) (q := q) hI hf0 hH2 (x1 := 22 + 2 * f 3) (by omega) c2
    have r3 : zFR F2 F3 := r3
    have e5 : zf_ev X (d + 5) 208 (0, [vR 60], [], zH t p q E) = zf_k X (d + 5) 208 43 [vR 60] [] (some (some [], zH t p q F3)) := by
      rw [e3, L208_k21, c2b.1.1, if_neg (by decide), show n32 3 = 3 by decide, zg_pos (by decide), hH2 3 (by omega) (by omega), e4]
    have hfr : zFR E F3 := (r1.tr r2.R).tr r3
    cases s3 : ps_R B n 1 (f 1) (pl_at f (pv_N B n 0 (f 0 - 1) (.inr k2))) (ps_N B n 0 (f 0 - 1) (.inr k2)) with
    | inl u =>
      rw [s3] at c3
      refine zOR_l (u := u) ?_ (F := F3) ?_ c3 hfr
      · show ps_R B n 1 (f 1) (pl_at f (pv_N B n 0 (f 0 - 1) (ps_W B n 12 (ps_M B n L (f 3 + f 4) (.inr k))))) (ps_N B n 0 (f 0 - 1) (ps_W B n 12 (ps_M B n L (f 3 + f 4) (.inr k)))) = _
        rw [s2, s3]
      · rw [e5, L208_k43, c3.1, if_pos (by decide)]
    | inr k3 =>
      rw [s3] at c3
      have c3b : (F3 60 13 = 0 ∧ F3 60 9 = 0 ∧ F3 60 10 = P) ∧ zTR B n k3 F3 := c3
      obtain ⟨w1, w2, w3⟩ := v3 k3 s3
      have h33 : F3 64 3 = f 3 := by rw [w3 3 (by omega) (by omega)]; exact hH2 3 (by omega) (by omega)
      refine zOR_r (k := k3) ?_ (F := zu F3 64 3 (f 3 + 1)) ?_ (c3.fr (fun x y _ _ => by rw [zu_ne (by omega)])) (fun j a b => ?_) ?_ (hfr.tr zFR.u)
      · show ps_R B n 1 (f 1) (pl_at f (pv_N B n 0 (f 0 - 1) (ps_W B n 12 (ps_M B n L (f 3 + f 4) (.inr k))))) (ps_N B n 0 (f 0 - 1) (ps_W B n 12 (ps_M B n L (f 3 + f 4) (.inr k)))) = _
        rw [s2, s3]
      · rw [e5, L208_k43, c3b.1.1, if_neg (by decide), show n32 3 = 3 by decide, zg_pos (by decide), zg_pos (by decide), h33]
      · unfold pl_spk
        rw [s2]
        show _ = pu (pu (pu f (22 + 2 * f 3) (pv_N B n 0 (f 0 - 1) (.inr k2))) (22 + 2 * f 3 + 1) (pv_N B n 1 (f 1) (ps_N B n 0 (f 0 - 1) (.inr k2)))) 3 (f 3 + 1) j
        by_cases j0 : j = 3
        · rw [j0, zu_same, pu_s]
        by_cases j1 : j = 22 + 2 * f 3 + 1
        · rw [j1, zu_ne (by omega), pu_n (by omega), pu_s, w2]
        by_cases j2 : j = 22 + 2 * f 3
        · rw [j2, zu_ne (by omega), pu_n (by omega), pu_n (by omega), pu_s, w1]
        rw [zu_ne (by omega), pu_n j0, pu_n j1, pu_n j2, w3 j j2 j1, hH2 j a b]
      · have hn := pl_spk_n (B := B) (n := n) (f := f) (L := L) (s := .inr k) (by omega)
        have u3 : (pl_spk B n f L (.inr k)).2.1 3 = f 3 + 1 := by unfold pl_spk; simp (disch := omega) only [pu_n, pu_s]
        have u4 : (pl_spk B n f L (.inr k)).2.1 4 = f 4 := by unfold pl_spk; simp (disch := omega) only [pu_n, pu_s]
        rw [hn.1, hn.2]
        refine v1.fr (fun x _ _ => ?_) (fun y a b => by rw [zu_ne (by omega), w3 y (by omega) (by omega), hc])
        unfold pU
        rw [u3, u4]
        omega
theorem T210 (hI : pI f) (hf0 : 0 < f 0) (hf5 : f 5 < 3) (hH : ∀ j, 0 ≤ j → j < 81 → E 64 j = f j) (hN : zNR (pU f) L (f 3 + f 4) E) (h : zS2 B n P (.inr k) E) : zOR B n P t p q E (pl_lmp B n f L (.inr k)) (zf_ev X (d + 5) 210 (0, [vR 60], [], zH t p q E)) := by
  have i1 := hI.1
  unfold pI1 at i1
  have h2 : (E 60 13 = 0 ∧ E 60 9 = 0 ∧ E 60 10 = P) ∧ zTR B n k E := h
  obtain ⟨F3, e4, c3, v3, r3⟩ := T207 (X := X) (d := d) (t := t) (p := p) (q := q) hI hf0 hH (x1 := 60 + 2 * f 5) (by omega) h
  have r3 : zFR E F3 := r3
  have e5 : zf_ev X (d + 5) 210 (0, [vR 60], [], zH t p q E) = zf_k X (d + 5) 210 20 [vR 60] [] (some (some [], zH t p q F3)) := by
    rw [L210_0, h2.1.1, if_pos (by decide), show n32 5 = 5 by decide, zg_pos (by decide), hH 5 (by omega) (by omega), e4]
  cases s3 : ps_R B n 1 (f 1) (pl_at f (pv_N B n 0 (f 0 - 1) (.inr k))) (ps_N B n 0 (f 0 - 1) (.inr k)) with
  | inl u =>
    rw [s3] at c3
    refine zOR_l (u := u) s3 (F := F3) ?_ c3 r3
    rw [e5, L210_k20, c3.1, if_pos (by decide)]
  | inr k3 =>
    rw [s3] at c3
    have c3b : (F3 60 13 = 0 ∧ F3 60 9 = 0 ∧ F3 60 10 = P) ∧ zTR B n k3 F3 := c3
    obtain ⟨w1, w2, w3⟩ := v3 k3 s3
    have h33 : F3 64 5 = f 5 := by rw [w3 5 (by omega) (by omega)]; exact hH 5 (by omega) (by omega)
    refine zOR_r (k := k3) s3 (F := zu F3 64 5 (f 5 + 1)) ?_ (c3.fr (fun x y _ _ => by rw [zu_ne (by omega)])) (fun j a b => ?_) ?_ (r3.tr zFR.u)
    · rw [e5, L210_k20, c3b.1.1, if_neg (by decide), show n32 5 = 5 by decide, zg_pos (by decide), zg_pos (by decide), h33]
    · unfold pl_lmp
      show _ = pu (pu (pu f (60 + 2 * f 5) (pv_N B n 0 (f 0 - 1) (.inr k))) (60 + 2 * f 5 + 1) (pv_N B n 1 (f 1) (ps_N B n 0 (f 0 - 1) (.inr k)))) 5 (f 5 + 1) j
      by_cases j0 : j = 5
      · rw [j0, zu_same, pu_s]
      by_cases j1 : j = 60 + 2 * f 5 + 1
      · rw [j1, zu_ne (by omega), pu_n (by omega), pu_s, w2]
      by_cases j2 : j = 60 + 2 * f 5
      · rw [j2, zu_ne (by omega), pu_n (by omega), pu_n (by omega), pu_s, w1]
      rw [zu_ne (by omega), pu_n j0, pu_n j1, pu_n j2, w3 j j2 j1, hH j a b]
    · have hn := pl_lmp_n (B := B) (n := n) (f := f) (L := L) (s := .inr k) (by omega)
      have u3 : (pl_lmp B n f L (.inr k)).2.1 3 = f 3 := by unfold pl_lmp; simp (disch := omega) only [pu_n, pu_s]
      have u4 : (pl_lmp B n f L (.inr k)).2.1 4 = f 4 := by unfold pl_lmp; simp (disch := omega) only [pu_n, pu_s]
      rw [hn.1, hn.2]
      refine hN.fr (fun x _ _ => ?_) (fun y a b => by rw [zu_ne (by omega), w3 y (by omega) (by omega)])
      unfold pU
      rw [u3, u4]
theorem T211 (hI : pI f) (hf0 : 0 < f 0) (hf6 : f 6 < 5) (hH : ∀ j, 0 ≤ j → j < 81 → E 64 j = f j) (hN : zNR (pU f) L (f 3 + f 4) E) (h : zS2 B n P (.inr k) E) : zOR B n P t p q E (pl_flt B n f L (.inr k)) (zf_ev X (d + 5) 211 (0, [vR 60, vJ], [], zH t p q E)) := by
  have i1 := hI.1
  unfold pI1 at i1
  have h2 : (E 60 13 = 0 ∧ E 60 9 = 0 ∧ E 60 10 = P) ∧ zTR B n k E := h
  have h6 := hH 6 (by omega) (by omega)
  obtain ⟨F1, e1, c1, r1⟩ := T199 (X := X) (d := d + 1) (t := t) (p := p) (q := q) (c := f 0) (by omega) (hH 0 (by omega) (by omega)) h
  generalize a1 : pv_N B n 0 (f 0 - 1) (.inr k) = v1 at e1
  have c1' := c1.fr (F := zu F1 64 (66 + 3 * f 6) v1) (fun x y _ _ => zu_ne (by omega))
  obtain ⟨F2, e2, c2, r2⟩ := T198 (X := X) (d := d) (t := t) (p := p) (q := q) (w := 18) (by decide) (lo := 1) (hi := f 1) (by omega) (by omega) c1'
  generalize a2 : pv_N B n 1 (f 1) (ps_W B n 18 (ps_N B n 0 (f 0 - 1) (.inr k))) = v2 at e2
  have c2' := c2.fr (F := zu F2 64 (66 + 3 * f 6 + 1) v2) (fun x y _ _ => zu_ne (by omega))
  obtain ⟨F3, e3, c3, r3⟩ := T198 (X := X) (d := d) (t := t) (p := p) (q := q) (w := 21) (by decide) (lo := 0) (hi := f 0 - 1) (by omega) (by omega) c2'
  generalize a3 : pv_N B n 0 (f 0 - 1) (ps_W B n 21 (ps_N B n 1 (f 1) (ps_W B n 18 (ps_N B n 0 (f 0 - 1) (.inr k))))) = v3 at e3
  have hc2 : ∀ y, y ≠ 66 + 3 * f 6 → F2 64 y = E 64 y := fun y w => by rw [r2 _ _ (by omega) (by omega), zu_ne (by omega), r1 _ _ (by omega) (by omega)]
  have hc3 : ∀ y, y ≠ 66 + 3 * f 6 → y ≠ 66 + 3 * f 6 + 1 → F3 64 y = E 64 y := fun y w z => by rw [r3 _ _ (by omega) (by omega), zu_ne (by omega), hc2 y w]
  have hfr : zFR E F3 := (((r1.R.tr zFR.u).tr r2.R).tr zFR.u).tr r3.R
  have e5 : zf_ev X (d + 5) 211 (0, [vR 60, vJ], [], zH t p q E) = zf_k X (d + 5) 211 71 [vR 60, vI (66 + 3 * f 6)] [vI (66 + 3 * f 6 + 2), vR 64] (some (some [vI v3], zH t p q F3)) := by
    rw [L211_0, h2.1.1, if_pos (by decide), show n32 6 = 6 by decide, zg_pos (by decide), h6, e1, L211_k27, n32_id (by omega) (by omega), zg_pos (by omega), show n32 1 = 1 by decide, zg_pos (by decide), zu_ne (by omega), r1 _ _ (by omega) (by omega), hH 1 (by omega) (by omega), e2, L211_k48, n32_id (by omega) (by omega), zg_pos (by omega), show n32 0 = 0 by decide, zg_pos (by decide), zu_ne (by omega), hc2 _ (by omega), hH 0 (by omega) (by omega), e3]
  cases s3 : ps_N B n 0 (f 0 - 1) (ps_W B n 21 (ps_N B n 1 (f 1) (ps_W B n 18 (ps_N B n 0 (f 0 - 1) (.inr k))))) with
  | inl u =>
    rw [s3] at c3
    refine zOR_l (u := u) s3 (F := zu F3 64 (66 + 3 * f 6 + 2) v3) ?_ (c3.fr (fun x y _ _ => zu_ne (by omega))) (hfr.tr zFR.u)
    rw [e5, L211_k71, n32_id (by omega) (by omega), zg_pos (by omega), zu_ne (by omega), c3.1, if_pos (by decide)]
  | inr k3 =>
    rw [s3] at c3
    have c3b : (F3 60 13 = 0 ∧ F3 60 9 = 0 ∧ F3 60 10 = P) ∧ zTR B n k3 F3 := c3
    refine zOR_r (k := k3) s3 (F := zu (zu F3 64 (66 + 3 * f 6 + 2) v3) 64 6 (f 6 + 1)) ?_ (c3.fr (fun x y _ _ => by rw [zu_ne (by omega), zu_ne (by omega)])) (fun j a b => ?_) ?_ ((hfr.tr zFR.u).tr zFR.u)
    · rw [e5, L211_k71, n32_id (by omega) (by omega), zg_pos (by omega), zu_ne (by omega), c3b.1.1, if_neg (by decide), show n32 6 = 6 by decide, zg_pos (by decide), zg_pos (by decide), zu_ne (by omega), hc3 6 (by omega) (by omega), h6]
    · unfold pl_flt
      rw [a1, a2, a3]
      show _ = pu (pu (pu (pu f (66 + 3 * f 6) v1) (66 + 3 * f 6 + 1) v2) (66 + 3 * f 6 + 2) v3) 6 (f 6 + 1) j
      by_cases j0 : j = 6
      · rw [j0, zu_same, pu_s]
      by_cases j1 : j = 66 + 3 * f 6 + 2
      · rw [j1, zu_ne (by omega), zu_same, pu_n (by omega), pu_s]
      by_cases j2 : j = 66 + 3 * f 6 + 1
      · rw [j2, zu_ne (by omega), zu_ne (by omega), r3 _ _ (by omega) (by omega), zu_same, pu_n (by omega), pu_n (by omega), pu_s]
      by_cases j3 : j = 66 + 3 * f 6
      · rw [j3, zu_ne (by omega), zu_ne (by omega), r3 _ _ (by omega) (by omega), zu_ne (by omega), r2 _ _ (by omega) (by omega), zu_same, pu_n (by omega), pu_n (by omega), pu_n (by omega), pu_s]
      rw [zu_ne (by omega), zu_ne (by omega), pu_n j0, pu_n j1, pu_n j2, pu_n j3, hc3 j j3 j2, hH j a b]
    · have hn := pl_flt_n (B := B) (n := n) (f := f) (L := L) (s := .inr k) (by omega)
      have u3 : (pl_flt B n f L (.inr k)).2.1 3 = f 3 := by unfold pl_flt; simp (disch := omega) only [pu_n, pu_s]
      have u4 : (pl_flt B n f L (.inr k)).2.1 4 = f 4 := by unfold pl_flt; simp (disch := omega) only [pu_n, pu_s]
      rw [hn.1, hn.2]
      refine hN.fr (fun x _ _ => ?_) (fun y a b => by rw [zu_ne (by omega), zu_ne (by omega), hc3 y (by omega) (by omega)])
      unfold pU
      rw [u3, u4]
end RL

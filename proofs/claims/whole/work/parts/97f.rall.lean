/-! the reference's hall -/
theorem zOR.base {B : Int → Int} {n P : Int} {t : List (Nat × Nat)} {p q : Nat} {E F : Nat → Int → Int} {x : PT} {res : Option (Option (List ZV) × ZH)} (h : zOR B n P t p q F x res) (hf : zFR E F) : zOR B n P t p q E x res := by
  obtain ⟨G, g1, g2, g3⟩ := h
  exact ⟨G, g1, g2, hf.tr g3⟩
section RA
variable {X : Nat × (Nat → Int)} {d : Nat} {t : List (Nat × Nat)} {p q : Nat} {E : Nat → Int → Int} {B : Int → Int} {n k P : Int} {f L : Int → Int}
theorem rl_go {can : Bool} (hI : pI f) (h2 : 2 ≤ tk_ls B n k) (hc : can = pl_room f (tk_ls B n k)) {F : Nat → Int → Int} (c : zS2 B n P (pb B n f k can) F) (r : zFB E F) {R : Option (Option (List ZV) × ZH)} (h1 : F 60 13 = 1 → R = some (some [], zH t p q F)) (h3 : zS2 B n P (.inr (tk_e B n k)) F → 0 < f 0 → can = true → zOR B n P t p q F (pl_rest B n f L k (.inr (tk_e B n k))) R) : zOR B n P t p q E (pl_line B n f L k) R := by
  have hb := pb_beg hI h2
  rw [← hc] at hb
  have bad : ∀ u, pb B n f k can = .inl u → zOR B n P t p q E (pl_line B n f L k) R := by
    intro u hu
    rw [hu] at c hb
    refine zOR_l (u := u) ?_ (F := F) (h1 c.1) c r.R
    unfold pl_line
    rw [hb]
  have hp : pb B n f k can = if can = true then (if f 0 ≤ 0 then .inl (6, tk_a B n k) else .inr (tk_e B n k)) else .inl (5, tk_a B n k) := rfl
  by_cases g : can = true
  · rw [if_pos g] at hp
    by_cases g2 : f 0 ≤ 0
    · rw [if_pos g2] at hp
      exact bad _ hp
    · rw [if_neg g2] at hp
      rw [hp] at c hb
      have e : pl_line B n f L k = pl_rest B n f L k (.inr (tk_e B n k)) := by
        unfold pl_line
        rw [hb]
      rw [e]
      exact (h3 c (by omega) g).base r.R
  · rw [if_neg g] at hp
    exact bad _ hp
theorem T202 (hI : pI f) (hH : ∀ j, 0 ≤ j → j < 81 → E 64 j = f j) (hN : zNR (pU f) L (f 3 + f 4) E) (h : zS2 B n P (.inr k) E) : zOR B n P t p q E (pl_line B n f L k) (zf_ev X (d + 6) 202 (0, [vR 60], [], zH t p q E)) := by
  have i1 := hI.1
  unfold pI1 at i1
  have h2 : (E 60 13 = 0 ∧ E 60 9 = 0 ∧ E 60 10 = P) ∧ zTR B n k E := h
  have h0 := hH 0 (by omega) (by omega)
  have fr : ∀ F, zFB E F → (∀ j, 0 ≤ j → j < 81 → F 64 j = f j) ∧ zNR (pU f) L (f 3 + f 4) F := fun F r => ⟨fun j a b => by rw [r _ _ (by omega) (by omega)]; exact hH j a b, hN.fr (fun _ _ _ => Iff.rfl) (fun y _ _ => r _ _ (by omega) (by omega))⟩
  have e0 : zf_ev X (d + 6) 202 (0, [vR 60], [], zH t p q E) = zf_k X (d + 6) 202 3 [vR 60] [] (some (some [vI (fa_b (tk_is B n k 0))], zH t p q E)) := by
    rw [L202_0, T191 (by decide) h2.1.1 h2.2]
  by_cases g0 : tk_is B n k 0 = true
  · have hls : tk_ls B n k = 1 := by
      unfold tk_ls
      rw [if_pos g0]
    obtain ⟨F, f1, f2, f3⟩ := T203 (X := X) (d := d) (t := t) (p := p) (q := q) hI hH hN h hls
    refine ⟨F, ?_, f2, f3⟩
    rw [e0, L202_k3, g0, fa_b_t, if_neg (by decide), f1, L202_k10]
  rw [L202_k3, bo_f g0, fa_b_f, if_pos (by decide)] at e0
  obtain ⟨b1, b2⟩ := T201 (X := X) (d := d + 3) (t := t) (p := p) (q := q) (w := 1) (by decide) (can := true) hI h0 h
  rw [fa_b_t] at b1 b2
  by_cases g1 : tk_is B n k 1 = true
  · have hls : tk_ls B n k = 2 := by
      unfold tk_ls
      rw [if_neg g0, if_pos g1]
    obtain ⟨F, f1, f2, f3⟩ := b2 g1
    rw [e0, f1, L202_k20, if_neg (by decide)]
    refine rl_go hI (by omega) (by rw [hls]; rfl) f2 f3 (fun w => ?_) (fun c w _ => ?_)
    · rw [L205_0, w, if_neg (by decide), L202_k27]
    · obtain ⟨G, q1, q2, q3⟩ := T205 (X := X) (d := d + 2) (t := t) (p := p) (q := q) hI w (fr F f3).1 (fr F f3).2 c
      refine ⟨G, by rw [q1, L202_k27], ?_, q3⟩
      unfold pl_rest
      rw [hls, if_neg (by decide), if_pos rfl]
      exact q2
  rw [b1 (bo_f g1)] at e0
  have q2 : zf_k X (d + 6) 202 20 [vR 60] [] (some (some [vI 0], zH t p q E)) = zf_k X (d + 6) 202 52 [vR 60] [] (zf_ev X (d + 5) 201 (0, [vR 60, vX 2, vI (fa_b (decide (f 7 < 3)))], [], zH t p q E)) := by
    rw [L202_k20, if_pos (by decide), show n32 7 = 7 by decide, zg_pos (by decide), hH 7 (by omega) (by omega)]
    by_cases g : f 7 < 3
    · rw [if_neg (by rw [n32_id (by omega) (by omega), n32_id (by omega) (by omega)]; omega), decide_eq_true g]; rfl
    · rw [if_pos (by rw [n32_id (by omega) (by omega), n32_id (by omega) (by omega)]; omega), decide_eq_false g]; rfl
  rw [q2] at e0
  clear b1 b2
  obtain ⟨b1, b2⟩ := T201 (X := X) (d := d + 3) (t := t) (p := p) (q := q) (w := 2) (by decide) (can := decide (f 7 < 3)) hI h0 h
  by_cases g2 : tk_is B n k 2 = true
  · have hls : tk_ls B n k = 3 := by
      unfold tk_ls
      rw [if_neg g0, if_neg g1, if_pos g2]
    obtain ⟨F, f1, f2, f3⟩ := b2 g2
    rw [e0, f1, L202_k52, if_neg (by decide)]
    refine rl_go hI (by omega) (by rw [hls]; rfl) f2 f3 (fun w => ?_) (fun c w z => ?_)
    · rw [L206_0, w, if_neg (by decide), L202_k59]
    · obtain ⟨G, q1, q2, q3⟩ := T206 (X := X) (d := d + 2) (t := t) (p := p) (q := q) hI w (of_decide_eq_true z) (fr F f3).1 (fr F f3).2 c
      refine ⟨G, by rw [q1, L202_k59], ?_, q3⟩
      unfold pl_rest
      rw [hls, if_neg (by decide), if_neg (by decide), if_pos rfl]
      exact q2
  rw [b1 (bo_f g2)] at e0
  have q3 : zf_k X (d + 6) 202 52 [vR 60] [] (some (some [vI 0], zH t p q E)) = zf_k X (d + 6) 202 83 [vR 60] [] (zf_ev X (d + 5) 201 (0, [vR 60, vX 3, vI (fa_b (decide (f 3 < 4)))], [], zH t p q E)) := by
    rw [L202_k52, if_pos (by decide), show n32 3 = 3 by decide, zg_pos (by decide), hH 3 (by omega) (by omega)]
    by_cases g : f 3 < 4
    · rw [if_neg (by rw [n32_id (by omega) (by omega), n32_id (by omega) (by omega)]; omega), decide_eq_true g]; rfl
    · rw [if_pos (by rw [n32_id (by omega) (by omega), n32_id (by omega) (by omega)]; omega), decide_eq_false g]; rfl
  rw [q3] at e0
  clear b1 b2 q2
  obtain ⟨b1, b2⟩ := T201 (X := X) (d := d + 3) (t := t) (p := p) (q := q) (w := 3) (by decide) (can := decide (f 3 < 4)) hI h0 h
  by_cases g3 : tk_is B n k 3 = true
  · have hls : tk_ls B n k = 4 := by
      unfold tk_ls
      rw [if_neg g0, if_neg g1, if_neg g2, if_pos g3]
    obtain ⟨F, f1, f2, f3⟩ := b2 g3
    rw [e0, f1, L202_k83, if_neg (by decide)]
    refine rl_go hI (by omega) (by rw [hls]; rfl) f2 f3 (fun w => ?_) (fun c w z => ?_)
    · rw [L208_0, w, if_neg (by decide), L202_k90]
    · obtain ⟨G, q1, q2, q3⟩ := T208 (X := X) (d := d) (t := t) (p := p) (q := q) hI w (of_decide_eq_true z) (fr F f3).1 (fr F f3).2 c
      refine ⟨G, by rw [q1, L202_k90], ?_, q3⟩
      unfold pl_rest
      rw [hls, if_neg (by decide), if_neg (by decide), if_neg (by decide), if_pos rfl]
      exact q2
  rw [b1 (bo_f g3)] at e0
  have q4 : zf_k X (d + 6) 202 83 [vR 60] [] (some (some [vI 0], zH t p q E)) = zf_k X (d + 6) 202 115 [vR 60] [] (zf_ev X (d + 5) 201 (0, [vR 60, vX 4, vI (fa_b (decide (f 4 < 6)))], [], zH t p q E)) := by
    rw [L202_k83, if_pos (by decide), show n32 4 = 4 by decide, zg_pos (by decide), hH 4 (by omega) (by omega)]
    by_cases g : f 4 < 6
    · rw [if_neg (by rw [n32_id (by omega) (by omega), n32_id (by omega) (by omega)]; omega), decide_eq_true g]; rfl
    · rw [if_pos (by rw [n32_id (by omega) (by omega), n32_id (by omega) (by omega)]; omega), decide_eq_false g]; rfl
  rw [q4] at e0
  clear b1 b2 q3
  obtain ⟨b1, b2⟩ := T201 (X := X) (d := d + 3) (t := t) (p := p) (q := q) (w := 4) (by decide) (can := decide (f 4 < 6)) hI h0 h
  by_cases g4 : tk_is B n k 4 = true
  · have hls : tk_ls B n k = 5 := by
      unfold tk_ls
      rw [if_neg g0, if_neg g1, if_neg g2, if_neg g3, if_pos g4]
    obtain ⟨F, f1, f2, f3⟩ := b2 g4
    rw [e0, f1, L202_k115, if_neg (by decide)]
    refine rl_go hI (by omega) (by rw [hls]; rfl) f2 f3 (fun w => ?_) (fun c w z => ?_)
    · rw [L209_0, w, if_neg (by decide), L202_k122]
    · obtain ⟨G, q1, q2, q3⟩ := T209 (X := X) (d := d) (t := t) (p := p) (q := q) hI w (of_decide_eq_true z) (fr F f3).1 (fr F f3).2 c
      refine ⟨G, by rw [q1, L202_k122], ?_, q3⟩
      unfold pl_rest
      rw [hls, if_neg (by decide), if_neg (by decide), if_neg (by decide), if_neg (by decide), if_pos rfl]
      exact q2
  rw [b1 (bo_f g4)] at e0
  have q5 : zf_k X (d + 6) 202 115 [vR 60] [] (some (some [vI 0], zH t p q E)) = zf_k X (d + 6) 202 146 [vR 60] [] (zf_ev X (d + 5) 201 (0, [vR 60, vX 5, vI (fa_b (decide (f 5 < 3)))], [], zH t p q E)) := by
    rw [L202_k115, if_pos (by decide), show n32 5 = 5 by decide, zg_pos (by decide), hH 5 (by omega) (by omega)]
    by_cases g : f 5 < 3
    · rw [if_neg (by rw [n32_id (by omega) (by omega), n32_id (by omega) (by omega)]; omega), decide_eq_true g]; rfl
    · rw [if_pos (by rw [n32_id (by omega) (by omega), n32_id (by omega) (by omega)]; omega), decide_eq_false g]; rfl
  rw [q5] at e0
  clear b1 b2 q4
  obtain ⟨b1, b2⟩ := T201 (X := X) (d := d + 3) (t := t) (p := p) (q := q) (w := 5) (by decide) (can := decide (f 5 < 3)) hI h0 h
  by_cases g5 : tk_is B n k 5 = true
  · have hls : tk_ls B n k = 6 := by
      unfold tk_ls
      rw [if_neg g0, if_neg g1, if_neg g2, if_neg g3, if_neg g4, if_pos g5]
    obtain ⟨F, f1, f2, f3⟩ := b2 g5
    rw [e0, f1, L202_k146, if_neg (by decide)]
    refine rl_go hI (by omega) (by rw [hls]; rfl) f2 f3 (fun w => ?_) (fun c w z => ?_)
    · rw [L210_0, w, if_neg (by decide), L202_k153]
    · obtain ⟨G, q1, q2, q3⟩ := T210 (X := X) (d := d) (t := t) (p := p) (q := q) hI w (of_decide_eq_true z) (fr F f3).1 (fr F f3).2 c
      refine ⟨G, by rw [q1, L202_k153], ?_, q3⟩
      unfold pl_rest
      rw [hls, if_neg (by decide), if_neg (by decide), if_neg (by decide), if_neg (by decide), if_neg (by decide), if_pos rfl]
      exact q2
  rw [b1 (bo_f g5)] at e0
  have q6 : zf_k X (d + 6) 202 146 [vR 60] [] (some (some [vI 0], zH t p q E)) = zf_k X (d + 6) 202 178 [vR 60] [] (zf_ev X (d + 5) 201 (0, [vR 60, vX 6, vI (fa_b (decide (f 6 < 5)))], [], zH t p q E)) := by
    rw [L202_k146, if_pos (by decide), show n32 6 = 6 by decide, zg_pos (by decide), hH 6 (by omega) (by omega)]
    by_cases g : f 6 < 5
    · rw [if_neg (by rw [n32_id (by omega) (by omega), n32_id (by omega) (by omega)]; omega), decide_eq_true g]; rfl
    · rw [if_pos (by rw [n32_id (by omega) (by omega), n32_id (by omega) (by omega)]; omega), decide_eq_false g]; rfl
  rw [q6] at e0
  clear b1 b2 q5
  obtain ⟨b1, b2⟩ := T201 (X := X) (d := d + 3) (t := t) (p := p) (q := q) (w := 6) (by decide) (can := decide (f 6 < 5)) hI h0 h
  by_cases g6 : tk_is B n k 6 = true
  · have hls : tk_ls B n k = 7 := by
      unfold tk_ls
      rw [if_neg g0, if_neg g1, if_neg g2, if_neg g3, if_neg g4, if_neg g5, if_pos g6]
    obtain ⟨F, f1, f2, f3⟩ := b2 g6
    rw [e0, f1, L202_k178, if_neg (by decide)]
    refine rl_go hI (by omega) (by rw [hls]; rfl) f2 f3 (fun w => ?_) (fun c w z => ?_)
    · rw [L211_0, w, if_neg (by decide), L202_k185]
    · obtain ⟨G, q1, q2, q3⟩ := T211 (X := X) (d := d) (t := t) (p := p) (q := q) hI w (of_decide_eq_true z) (fr F f3).1 (fr F f3).2 c
      refine ⟨G, by rw [q1, L202_k185], ?_, q3⟩
      unfold pl_rest
      rw [hls, if_neg (by decide), if_neg (by decide), if_neg (by decide), if_neg (by decide), if_neg (by decide), if_neg (by decide)]
      exact q2
  rw [b1 (bo_f g6)] at e0
  have hls : tk_ls B n k = 0 := by
    unfold tk_ls
    rw [if_neg g0, if_neg g1, if_neg g2, if_neg g3, if_neg g4, if_neg g5, if_neg g6]
  have hb : pl_beg B n f k = .inl (1, tk_a B n k) := by
    unfold pl_beg
    rw [if_pos hls]
  refine zOR_l (u := (1, tk_a B n k)) ?_ (F := zwr E 1 (tk_a B n k)) ?_ zwr_S zwr_B.R
  · unfold pl_line
    rw [hb]
  · rw [e0, L202_k178, if_pos (by decide), h2.2.2.2.1.1, T190 h2.1.1, L202_k197]
theorem T200_92 {j1 j2 : ZV} : ∀ (j : Nat) (x : PT) (E : Nat → Int → Int), pJ n x → zSR B n P x E → (∀ k, x.1 = .inr k → n ≤ k + j) → ∃ F, zf_ev X (d + 7) 200 (92, [vR 60, j1, j2], [], zH t p q E) = zf_ev X (d + 7) 200 (142, [vR 60, j1, j2], [], zH t p q F) ∧ zSR B n P (pl_loop B n j x) F ∧ pJ n (pl_loop B n j x) ∧ zFR E F := by
  have bad : ∀ (u : Int × Int) (f L : Int → Int) (E : Nat → Int → Int), pJ n (.inl u, f, L) → zSR B n P (.inl u, f, L) E → ∃ F, zf_ev X (d + 7) 200 (92, [vR 60, j1, j2], [], zH t p q E) = zf_ev X (d + 7) 200 (142, [vR 60, j1, j2], [], zH t p q F) ∧ zSR B n P (.inl u, f, L) F ∧ pJ n (.inl u, f, L) ∧ zFR E F := by
    intro u f L E hJ hS
    have hS2 : E 60 13 = 1 ∧ E 60 9 = u.1 ∧ E 60 10 = u.2 := hS
    refine ⟨E, ?_, hS, hJ, zFR.rfl'⟩
    rw [L200_92, hS2.1, if_pos (by decide), if_pos (by decide)]
  intro j
  induction j with
  | zero =>
    intro x E hJ hS hm
    obtain ⟨s, f, L⟩ := x
    cases s with
    | inl u => exact bad u f L E hJ hS
    | inr k =>
      have hS2 : zS2 B n P (.inr k) E ∧ _ := hS
      have h2 : (E 60 13 = 0 ∧ E 60 9 = 0 ∧ E 60 10 = P) ∧ zTR B n k E := hS2.1
      have hk := hm k rfl
      have ha := tk_a_r (B := B) h2.2.2.1.2
      have hk0 : tk_k B n k = 0 := (tk_k0 (B := B) h2.2.2.1.2).mpr (by omega)
      refine ⟨E, ?_, hS, hJ, zFR.rfl'⟩
      rw [L200_92, h2.1.1, if_neg (fun h => h (by decide)), h2.2.2.2.1.2.2, hk0, if_pos (by decide), if_neg (fun h => h (by decide)), if_pos (by decide)]
  | succ j ih =>
    intro x E hJ hS hm
    obtain ⟨s, f, L⟩ := x
    cases s with
    | inl u => exact bad u f L E hJ hS
    | inr k =>
      have hS2 : zS2 B n P (.inr k) E ∧ (∀ j, 0 ≤ j → j < 81 → E 64 j = f j) ∧ zNR (pU f) L (f 3 + f 4) E := hS
      have h2 : (E 60 13 = 0 ∧ E 60 9 = 0 ∧ E 60 10 = P) ∧ zTR B n k E := hS2.1
      have hI : pI f := hJ.2 k rfl
      have hm2 := hm k rfl
      have hkr := tk_k_r (B := B) (n := n) (k := k)
      have hl : pl_loop B n (j + 1) (.inr k, f, L) = (if tk_k B n k = 0 then (.inr k, f, L) else if tk_k B n k = 59 then pl_loop B n j (pl_line B n f L (tk_e B n k)) else (.inl (1, tk_a B n k), f, L)) := rfl
      rw [hl]
      by_cases g : tk_k B n k = 0
      · rw [if_pos g]
        refine ⟨E, ?_, hS, hJ, zFR.rfl'⟩
        rw [L200_92, h2.1.1, if_neg (fun h => h (by decide)), h2.2.2.2.1.2.2, g, if_pos (by decide), if_neg (fun h => h (by decide)), if_pos (by decide)]
      · rw [if_neg g]
        by_cases g2 : tk_k B n k = 59
        · rw [if_pos g2]
          obtain ⟨F, f1, f2, f3⟩ := zS2_next (X := X) (d := d + 5) (t := t) (p := p) (q := q) hS2.1
          have f2b : (F 60 13 = 0 ∧ F 60 9 = 0 ∧ F 60 10 = P) ∧ zTR B n (tk_e B n k) F := f2
          have hg := tk_go (B := B) h2.2.2.1.2 g
          obtain ⟨G, q1, q2, q3⟩ := T202 (X := X) (d := d) (t := t) (p := p) (q := q) (E := F) hI (fun j a b => by rw [f3 _ _ (by omega) (by omega)]; exact hS2.2.1 j a b) (hS2.2.2.fr (fun _ _ _ => Iff.rfl) (fun y _ _ => f3 _ _ (by omega) (by omega))) f2
          have hpg := pg_line (B := B) (n := n) (f := f) (L := L) (k := tk_e B n k) (by have := h2.2.2.1; omega) hg.2
          obtain ⟨H, y1, y2, y3, y4⟩ := ih (pl_line B n f L (tk_e B n k)) G (pJ_line f2b.2.2.1 hI) q2 (fun k3 e => by
            rw [e] at hpg
            have hpg : tk_e B n k + 1 ≤ k3 ∧ k3 ≤ n := hpg
            omega)
          refine ⟨H, ?_, y2, y3, (f3.B.R.tr q3).tr y4⟩
          rw [L200_92, h2.1.1, if_neg (fun h => h (by decide)), h2.2.2.2.1.2.2, g2, if_neg (fun h => h rfl), f1, L200_k109, q1, L200_k113, y1]
        · rw [if_neg g2]
          have ha := tk_a_r (B := B) h2.2.2.1.2
          have hk2 := h2.2.2.1
          refine ⟨zwr E 1 (tk_a B n k), ?_, zwr_S (B := B) (n := n) (P := P), ⟨⟨(by decide : (1 : Int) ≤ 1), (by decide : (1 : Int) ≤ 6), by omega, by omega⟩, fun k h => (by cases h)⟩, zwr_B.R⟩
          rw [L200_92, h2.1.1, if_neg (fun h => h (by decide)), h2.2.2.2.1.2.2, if_pos (by rw [n32_id (by omega) (by omega)]; exact g2), if_neg (fun h => h (by decide)), if_neg (by rw [n32_id (by omega) (by omega)]; exact g), h2.2.2.2.1.1, T190 h2.1.1, L200_k139]
theorem T200_39 {x1 : Int} : ∀ (j : Nat) (i : Int) (E : Nat → Int → Int), 0 ≤ i → i + j = 171 → ∃ F x2, zf_ev X (d + 7) 200 (39, [vR 60, vI x1, vI i], [], zH t p q E) = zf_k X (d + 7) 200 85 [vR 60, vI x1, vI x2] [] (zf_ev X (d + 6) 189 (0, [vR 60, vJ, vJ, vJ], [], zH t p q (zu (zu F 60 3 x1) 60 5 0))) ∧ (∀ c, i ≤ c → c < 171 → F 64 c = pl_f0 c) ∧ (∀ x y, (x ≠ 64 ∨ y < i) → F x y = E x y) := by
  intro j
  induction j with
  | zero =>
    intro i E h1 h2
    refine ⟨E, i, ?_, fun c a b => by omega, fun x y _ => rfl⟩
    rw [L200_39]
    simp (disch := omega) only [n32_id, zg_pos, if_pos, if_neg, zu_same, zu_ne, if_true, if_false, ne_eq, not_true_eq_false, not_false_eq_true, true_or, or_true, true_and, and_true, zg_true, fa_b_f, fa_b_t]
  | succ j ih =>
    intro i E h1 h2
    have hp : pl_f0 i = if 8 ≤ i ∧ i ≤ 14 then 3 else 0 := rfl
    obtain ⟨F, x2, f1, f2, f3⟩ := ih (i + 1) (zu E 64 i (pl_f0 i)) (by omega) (by omega)
    refine ⟨F, x2, ?_, fun c a b => ?_, fun x y u => by rw [f3 x y (by omega), zu_ne (by omega)]⟩
    · rw [L200_39, if_neg (by rw [n32_id (by omega) (by omega), n32_id (by omega) (by omega)]; omega)]
      by_cases g : 8 ≤ i ∧ i ≤ 14
      · rw [if_pos g] at hp
        rw [hp] at f1
        rw [T180t g.1 g.2 (by omega) (by omega), L200_k56, if_neg (by decide), n32_id (by omega) (by omega), zg_pos (by omega), f1]
      · rw [if_neg g] at hp
        rw [hp] at f1
        rw [T180f (by omega) (by omega) (by omega) (by omega), L200_k56, if_pos (by decide), n32_id (by omega) (by omega), zg_pos (by omega), f1]
    · by_cases e : c = i
      · rw [e, f3 _ _ (by omega), zu_same]
      · exact f2 c (by omega) b
theorem T200_208 {j1 : ZV} (hj : zm_isL j1 = false) : ∀ (j : Nat) (i : Int) (E : Nat → Int → Int), 0 ≤ i → i + j = 39 → ∃ F x2, zf_ev X (d + 7) 200 (208, [vR 60, j1, vI i], [], zH t p q E) = zf_k X (d + 7) 200 240 [vR 60, j1, vI x2] [] (zf_ev X (d + 6) 183 (0, [vR 63, vI 8, vR 65, vI 0, vI 7, vJ], [], zH t p q F)) ∧ (∀ c, i ≤ c → c < 39 → F 65 c = 0) ∧ (∀ x y, (x ≠ 65 ∨ y < i) → F x y = E x y) := by
  intro j
  induction j with
  | zero =>
    intro i E h1 h2
    refine ⟨E, i, ?_, fun c a b => by omega, fun x y _ => rfl⟩
    rw [L200_208 hj]
    simp (disch := omega) only [n32_id, zg_pos, if_pos, if_neg, zu_same, zu_ne, if_true, if_false, ne_eq, not_true_eq_false, not_false_eq_true, true_or, or_true, true_and, and_true, zg_true, fa_b_f, fa_b_t]
  | succ j ih =>
    intro i E h1 h2
    obtain ⟨F, x2, f1, f2, f3⟩ := ih (i + 1) (zu E 65 i 0) (by omega) (by omega)
    refine ⟨F, x2, ?_, fun c a b => ?_, fun x y u => by rw [f3 x y (by omega), zu_ne (by omega)]⟩
    · rw [L200_208 hj]
      simp (disch := omega) only [n32_id, zg_pos, if_pos, if_neg, zu_same, zu_ne, if_true, if_false, ne_eq, not_true_eq_false, not_false_eq_true, true_or, or_true, true_and, and_true, zg_true, fa_b_f, fa_b_t]
      exact f1
    · by_cases e : c = i
      · rw [e, f3 _ _ (by omega), zu_same]
      · exact f2 c (by omega) b
theorem T200_262 {j1 : ZV} (hj : zm_isL j1 = false) : ∀ (j : Nat) (i : Int) (E : Nat → Int → Int), 0 ≤ i → i + j = 6 → ∃ F, zf_ev X (d + 7) 200 (262, [vR 60, j1, vI i], [], zH t p q E) = some (some [vI (E 63 3)], zH t p q F) ∧ (∀ m c, i ≤ m → m < 6 → 0 ≤ c → c < 3 → F 65 (19 + 3 * m + c) = E 63 (30 + 5 * m + c)) ∧ (F 60 14 = 1 ∧ F 60 20 = 0 ∧ F 60 21 = 0) ∧ (∀ x y, (x ≠ 60 ∨ (y ≠ 14 ∧ y ≠ 20 ∧ y ≠ 21)) → (x ≠ 65 ∨ y < 19 + 3 * i ∨ 37 ≤ y) → F x y = E x y) := by
  intro j
  induction j with
  | zero =>
    intro i E h1 h2
    refine ⟨zu (zu (zu E 60 14 1) 60 20 0) 60 21 0, ?_, fun m c a b => by omega, ⟨by rw [zu_ne (by omega), zu_ne (by omega), zu_same], by rw [zu_ne (by omega), zu_same], zu_same⟩, fun x y u v => by rw [zu_ne (by omega), zu_ne (by omega), zu_ne (by omega)]⟩
    rw [L200_262, if_pos (by rw [n32_id (by omega) (by omega), n32_id (by omega) (by omega)]; omega), show n32 3 = 3 by decide, zg_pos (by decide), zu_ne (by omega), zu_ne (by omega), zu_ne (by omega)]
  | succ j ih =>
    intro i E h1 h2
    have e183 := T183 (X := X) (d := d + 6) (t := t) (p := p) (q := q) (E := E) (a := 63) (b := 65) (n := 171) (m := 39) rfl rfl (by omega) (sp := 30 + 5 * i) (dp := 19 + 3 * i) (N := 3) (by omega) (by omega) (by omega) (by omega) (by omega) (by omega) (by omega)
    obtain ⟨F, f1, f2, f3, f4⟩ := ih (i + 1) (zfill E 65 (19 + 3 * i) (19 + 3 * i + 3) (fun x => E 63 (30 + 5 * i + (x - (19 + 3 * i))))) (by omega) (by omega)
    rw [zfill_ne (by omega)] at f1
    refine ⟨F, ?_, fun m c a b u v => ?_, f3, fun x y u v => ?_⟩
    · rw [L200_262, if_neg (by rw [n32_id (by omega) (by omega), n32_id (by omega) (by omega)]; omega), e183, L200_k289 hj, f1]
    · by_cases e : m = i
      · rw [e, f4 _ _ (by omega) (by omega), zfill_in (by omega) (by omega), show 30 + 5 * i + (19 + 3 * i + c - (19 + 3 * i)) = 30 + 5 * i + c by omega]
      · rw [f2 m c (by omega) b u v, zfill_ne (by omega)]
    · rw [f4 x y u (by omega)]
      by_cases e : x = 65
      · subst e
        unfold zfill
        rw [if_neg (by omega)]
      · rw [zfill_ne e]
end RA

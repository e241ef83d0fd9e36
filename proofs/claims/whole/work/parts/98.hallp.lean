/-! hall on both sides -/
theorem pJ_loop {B : Int → Int} {n : Int} : ∀ (j : Nat) (x : PT), pJ n x → pJ n (pl_loop B n j x) := by
  intro j
  induction j with
  | zero => intro x h; exact h
  | succ j ih =>
    intro x h
    obtain ⟨s, f, L⟩ := x
    cases s with
    | inl u => exact h
    | inr k =>
      have hl : pl_loop B n (j + 1) (.inr k, f, L) = (if tk_k B n k = 0 then (.inr k, f, L) else if tk_k B n k = 59 then pl_loop B n j (pl_line B n f L (tk_e B n k)) else (.inl (1, tk_a B n k), f, L)) := rfl
      have hk : 0 ≤ k ∧ k ≤ n := h.1
      rw [hl]
      by_cases g : tk_k B n k = 0
      · rw [if_pos g]; exact h
      · rw [if_neg g]
        by_cases g2 : tk_k B n k = 59
        · rw [if_pos g2]
          have := tk_go (B := B) hk.2 g
          exact ih _ (pJ_line (by omega) (h.2 k rfl))
        · rw [if_neg g2]
          exact ⟨pg_f hk.1 hk.2 (by decide) (by decide), fun k h => (by cases h)⟩
theorem pJ_all {B : Int → Int} {n : Int} (hn : 0 ≤ n) : pJ n (pl_all B n) ∧ ∀ k, (pl_all B n).1 = .inr k → (pl_all B n).2.1 3 ≠ 0 := by
  have h := pJ_loop (B := B) 900 (pl_line B n pl_f0 (fun _ => 0) 0) (pJ_line (by omega) pI_f0)
  unfold pl_all
  generalize pl_loop B n 900 (pl_line B n pl_f0 (fun _ => 0) 0) = x at h ⊢
  obtain ⟨s, f, L⟩ := x
  cases s with
  | inl u => exact ⟨h, fun k e => (by cases e)⟩
  | inr k =>
    have hk : 0 ≤ k ∧ k ≤ n := h.1
    by_cases g : f 3 = 0
    · have hp : pl_end B n (.inr k, f, L) = (.inl (6, tk_a B n k), f, L) := if_pos g
      rw [hp]
      exact ⟨⟨pg_f hk.1 hk.2 (by decide) (by decide), fun k h => (by cases h)⟩, fun k e => (by cases e)⟩
    · have hp : pl_end B n (.inr k, f, L) = (.inr k, f, L) := if_neg g
      rw [hp]
      exact ⟨h, fun _ _ => g⟩
section HP
variable {X : Nat × (Nat → Int)} {d : Nat} {t : List (Nat × Nat)} {p q : Nat} {E : Nat → Int → Int} {B : Int → Int} {n P : Int}
/-- what the reference's hall leaves where it refuses, and where it takes -/
def zRb (E F : Nat → Int → Int) (u : Int × Int) : Prop := (F 60 9 = u.1 ∧ F 60 10 = u.2 ∧ F 60 11 = 4) ∧ (∀ b, F 63 b = E 63 b) ∧ (∀ b, F 65 b = E 65 b) ∧ F 60 14 = E 60 14 ∧ F 60 20 = E 60 20 ∧ F 60 21 = E 60 21
def zRg (E F : Nat → Int → Int) (f : Int → Int) : Prop := (F 60 9 = 0 ∧ F 60 10 = E 60 10 ∧ F 60 11 = E 60 11 ∧ F 60 14 = 1 ∧ F 60 20 = 0 ∧ F 60 21 = 0) ∧ (∀ k, 0 ≤ k → k < 81 → F 63 k = f k) ∧ (∀ k, 81 ≤ k → k < 171 → 0 ≤ F 63 k ∧ F 63 k ≤ 255) ∧
  (∀ c, 0 ≤ c → c < 7 → F 65 c = f (8 + c)) ∧ (∀ c, 0 ≤ c → c < 8 → F 65 (7 + c) = f (22 + c)) ∧ (∀ c, 15 ≤ c → c < 19 → F 65 c = 0) ∧ (∀ m c, 0 ≤ m → m < 6 → 0 ≤ c → c < 3 → F 65 (19 + 3 * m + c) = f (30 + 5 * m + c)) ∧ (∀ c, 37 ≤ c → c < 39 → F 65 c = 0)
theorem T200_142 {x : PT} {j2 : ZV} {x1 : Int} (hJ : pJ n x) (hP : E 60 10 = P ∨ ∃ u, x.1 = .inl u) (hS : zSR B n P x E) : ∃ v F, zf_ev X (d + 7) 200 (142, [vR 60, vI x1, j2], [], zH t p q E) = some (some [vI v], zH t p q F) ∧ (∀ u, (pl_end B n x).1 = .inl u → v = -1 ∧ zRb E F u) ∧ (∀ k, (pl_end B n x).1 = .inr k → v = (pl_end B n x).2.1 3 ∧ zRg E F (pl_end B n x).2.1) ∧ (∀ a b, (a ≠ 60 ∨ (b ≠ 9 ∧ b ≠ 10 ∧ b ≠ 11 ∧ b ≠ 13 ∧ b ≠ 14 ∧ b ≠ 20 ∧ b ≠ 21)) → a ≠ 63 → a ≠ 65 → F a b = E a b) := by
  have wf : ∀ v a, (zwr E v a) 60 13 = 1 := fun v a => (zwr_S (B := B) (n := n) (P := P) (E := E) (v := v) (a := a)).1
  have bad : ∀ F : Nat → Int → Int, zf_k X (d + 7) 200 186 [vR 60, vI x1, j2] [] (zf_ev X (d + 6) 178 (0, [vR 60, vI 4], [], zH t p q F)) = some (some [vI (-1)], zH t p q (zu F 60 11 4)) := fun F => by rw [L178_0, L200_k186]
  obtain ⟨s, f, L⟩ := x
  cases s with
  | inl u =>
    have hS : E 60 13 = 1 ∧ E 60 9 = u.1 ∧ E 60 10 = u.2 := hS
    refine ⟨-1, zu E 60 11 4, ?_, fun w h => ⟨rfl, ?_⟩, fun k h => (by cases h), fun a b u v w => zu_ne (by omega)⟩
    · rw [L200_142, hS.1, if_pos (by decide), if_neg (by decide), bad]
    · cases h
      exact ⟨⟨by rw [zu_ne (by omega)]; exact hS.2.1, by rw [zu_ne (by omega)]; exact hS.2.2, zu_same⟩, fun b => zu_ne (by omega), fun b => zu_ne (by omega), zu_ne (by omega), zu_ne (by omega), zu_ne (by omega)⟩
  | inr k =>
    have hS : zS2 B n P (.inr k) E ∧ (∀ j, 0 ≤ j → j < 81 → E 64 j = f j) ∧ zNR (pU f) L (f 3 + f 4) E := hS
    have h2 : (E 60 13 = 0 ∧ E 60 9 = 0 ∧ E 60 10 = P) ∧ zTR B n k E := hS.1
    have hI : pI f := hJ.2 k rfl
    have i1 := hI.1
    unfold pI1 at i1
    have h0 := hS.2.1 0 (by omega) (by omega)
    have h3 := hS.2.1 3 (by omega) (by omega)
    by_cases g : f 3 = 0
    · have hp : pl_end B n (.inr k, f, L) = (.inl (6, tk_a B n k), f, L) := if_pos g
      rw [hp]
      refine ⟨-1, zu (zwr E 6 (tk_a B n k)) 60 11 4, ?_, fun w h => ⟨rfl, ?_⟩, fun k h => (by cases h), fun a b u v w => by rw [zu_ne (by omega)]; unfold zwr; rw [zu_ne (by omega), zu_ne (by omega), zu_ne (by omega)]⟩
      · by_cases g0 : f 0 = 0
        · rw [L200_142, h2.1.1, if_neg (fun h => h (by decide)), show n32 0 = 0 by decide, zg_pos (by decide), h0, g0, if_pos (by decide), h2.2.2.2.1.1, T190 h2.1.1, L200_k174, wf, if_neg (by decide), bad]
        · rw [L200_142, h2.1.1, if_neg (fun h => h (by decide)), show n32 0 = 0 by decide, zg_pos (by decide), h0, if_neg (by rw [n32_id (by omega) (by omega)]; exact g0), show n32 3 = 3 by decide, zg_pos (by decide), h3, g, if_neg (fun h => h (by decide)), h2.2.2.2.1.1, T190 h2.1.1, L200_k174, wf, if_neg (by decide), bad]
      · cases h
        have w := zwr_S (B := B) (n := n) (P := P) (E := E) (v := 6) (a := tk_a B n k)
        have zw : ∀ a b, (a ≠ 60 ∨ (b ≠ 9 ∧ b ≠ 10 ∧ b ≠ 13)) → zwr E 6 (tk_a B n k) a b = E a b := fun a b u => by
          unfold zwr
          rw [zu_ne (by omega), zu_ne (by omega), zu_ne (by omega)]
        exact ⟨⟨by rw [zu_ne (by omega)]; exact w.2.1, by rw [zu_ne (by omega)]; exact w.2.2, zu_same⟩, fun b => by rw [zu_ne (by omega), zw _ _ (by omega)], fun b => by rw [zu_ne (by omega), zw _ _ (by omega)], by rw [zu_ne (by omega), zw _ _ (by omega)], by rw [zu_ne (by omega), zw _ _ (by omega)], by rw [zu_ne (by omega), zw _ _ (by omega)]⟩
    · have hp : pl_end B n (.inr k, f, L) = (.inr k, f, L) := if_neg g
      have g0 : f 0 ≠ 0 := fun e => g (i1.2.2.2.2.2.2.2.2.1 e).1
      rw [hp]
      have e1 := T183 (X := X) (d := d + 6) (t := t) (p := p) (q := q) (E := E) (a := 64) (b := 63) (n := 171) (m := 171) rfl rfl (by omega) (sp := 0) (dp := 0) (N := 171) (by omega) (by omega) (by omega) (by omega) (by omega) (by omega) (by omega)
      generalize hA : zfill E 63 0 (0 + 171) (fun x => E 64 (0 + (x - 0))) = A at e1
      have a1 : ∀ c, 0 ≤ c → c < 171 → A 63 c = E 64 c := fun c a b => by
        rw [← hA, zfill_in (by omega) (by omega), show 0 + (c - 0) = c by omega]
      have a2 : ∀ a b, a ≠ 63 → A a b = E a b := fun a b u => by rw [← hA, zfill_ne u]
      obtain ⟨C, x2, c1, c2, c3⟩ := T200_208 (X := X) (d := d) (t := t) (p := p) (q := q) (j1 := vI x1) rfl 39 0 A (by omega) (by omega)
      have e2 := T183 (X := X) (d := d + 6) (t := t) (p := p) (q := q) (E := C) (a := 63) (b := 65) (n := 171) (m := 39) rfl rfl (by omega) (sp := 8) (dp := 0) (N := 7) (by omega) (by omega) (by omega) (by omega) (by omega) (by omega) (by omega)
      generalize hD : zfill C 65 0 (0 + 7) (fun x => C 63 (8 + (x - 0))) = D at e2
      have d1 : ∀ c, 0 ≤ c → c < 7 → D 65 c = E 64 (8 + c) := fun c a b => by
        rw [← hD, zfill_in (by omega) (by omega), c3 _ _ (by omega), show 8 + (c - 0) = 8 + c by omega, a1 _ (by omega) (by omega)]
      have d2 : ∀ a b, (a ≠ 65 ∨ 7 ≤ b) → D a b = C a b := fun a b u => by
        rw [← hD]
        unfold zfill
        rw [if_neg (by omega)]
      have e3 := T183 (X := X) (d := d + 6) (t := t) (p := p) (q := q) (E := D) (a := 63) (b := 65) (n := 171) (m := 39) rfl rfl (by omega) (sp := 22) (dp := 7) (N := 8) (by omega) (by omega) (by omega) (by omega) (by omega) (by omega) (by omega)
      generalize hG : zfill D 65 7 (7 + 8) (fun x => D 63 (22 + (x - 7))) = G at e3
      have g1 : ∀ c, 0 ≤ c → c < 8 → G 65 (7 + c) = E 64 (22 + c) := fun c a b => by
        rw [← hG, zfill_in (by omega) (by omega), d2 _ _ (by omega), c3 _ _ (by omega), show 22 + (7 + c - 7) = 22 + c by omega, a1 _ (by omega) (by omega)]
      have g2 : ∀ a b, (a ≠ 65 ∨ b < 7 ∨ 15 ≤ b) → G a b = D a b := fun a b u => by
        rw [← hG]
        unfold zfill
        rw [if_neg (by omega)]
      obtain ⟨H, y1, y2, y3, y4⟩ := T200_262 (X := X) (d := d) (t := t) (p := p) (q := q) (j1 := vI x1) rfl 6 0 G (by omega) (by omega)
      have k63 : ∀ c, 0 ≤ c → c < 171 → G 63 c = E 64 c := fun c a b => by rw [g2 _ _ (by omega), d2 _ _ (by omega), c3 _ _ (by omega), a1 c a b]
      have kE : ∀ a b, a ≠ 63 → a ≠ 65 → G a b = E a b := fun a b u v => by rw [g2 _ _ (by omega), d2 _ _ (by omega), c3 _ _ (by omega), a2 a b u]
      rw [k63 3 (by omega) (by omega), h3] at y1
      refine ⟨f 3, H, ?_, fun u h => (by cases h), fun k2 h => ⟨rfl, ⟨?_, ?_, ?_, y3.1, y3.2.1, y3.2.2⟩, fun c a b => ?_, fun c a b => ?_, fun c a b => ?_, fun c a b => ?_, fun c a b => ?_, fun m c a b u v => ?_, fun c a b => ?_⟩, fun a b u v w => by rw [y4 a b (by omega) (by omega), kE a b v w]⟩
      · rw [L200_142, h2.1.1, if_neg (fun h => h (by decide)), show n32 0 = 0 by decide, zg_pos (by decide), h0, if_neg (by rw [n32_id (by omega) (by omega)]; exact g0), show n32 3 = 3 by decide, zg_pos (by decide), h3, if_pos (by rw [n32_id (by omega) (by omega)]; exact g), if_pos (by decide), e1, L200_k203 rfl, c1, e2, L200_k240, e3, L200_k257 rfl, y1]
      · rw [y4 _ _ (by omega) (by omega), kE _ _ (by omega) (by omega)]; exact h2.1.2.1
      · rw [y4 _ _ (by omega) (by omega), kE _ _ (by omega) (by omega)]
      · rw [y4 _ _ (by omega) (by omega), kE _ _ (by omega) (by omega)]
      · rw [y4 _ _ (by omega) (by omega), k63 c a (by omega)]; exact hS.2.1 c a b
      · rw [y4 _ _ (by omega) (by omega), k63 c (by omega) b]; exact hS.2.2.2.2.2 c a b
      · rw [y4 _ _ (by omega) (by omega), g2 _ _ (by omega), d1 c a b]; exact hS.2.1 _ (by omega) (by omega)
      · rw [y4 _ _ (by omega) (by omega), g1 c a b]; exact hS.2.1 _ (by omega) (by omega)
      · rw [y4 _ _ (by omega) (by omega), g2 _ _ (by omega), d2 _ _ (by omega), c2 c (by omega) (by omega)]
      · rw [y2 m c a b u v, k63 _ (by omega) (by omega)]; exact hS.2.1 _ (by omega) (by omega)
      · rw [y4 _ _ (by omega) (by omega), g2 _ _ (by omega), d2 _ _ (by omega), c2 c (by omega) (by omega)]
theorem T200 (h1 : 0 ≤ n ∧ n ≤ E 60 2 ∧ E 60 2 ≤ 900) (hB : ∀ i, 0 ≤ i → i < n → (0 ≤ B i ∧ B i ≤ 255) ∧ E 61 i = B i) : ∃ v F, zf_ev X (d + 7) 200 (0, [vR 60, vI n, vJ], [], zH t p q E) = some (some [vI v], zH t p q F) ∧ (∀ u, (pl_all B n).1 = .inl u → v = -1 ∧ zRb E F u) ∧ (∀ k, (pl_all B n).1 = .inr k → v = (pl_all B n).2.1 3 ∧ F 60 10 = E 60 10 ∧ F 60 11 = 0 ∧ zRg F F (pl_all B n).2.1) ∧ F 60 2 = 0 ∧ (∀ a b, a ≠ 60 → a ≠ 62 → a ≠ 63 → a ≠ 64 → a ≠ 65 → F a b = E a b) := by
  obtain ⟨F1, x2, f1, f2, f3⟩ := T200_39 (X := X) (d := d) (t := t) (p := p) (q := q) (x1 := n) 171 0 (zu (zu (zu (zg0 E) 60 2 0) 60 9 0) 60 13 0) (by omega) (by omega)
  have z0 : ∀ a b, (a ≠ 60 ∨ (b ≠ 0 ∧ b ≠ 11 ∧ b ≠ 2 ∧ b ≠ 9 ∧ b ≠ 13)) → a ≠ 64 → F1 a b = E a b := fun a b u v => by
    rw [f3 _ _ (by omega), zu_ne (by omega), zu_ne (by omega), zu_ne (by omega)]
    unfold zg0
    rw [zu_ne (by omega), zu_ne (by omega)]
  have z2 : F1 60 2 = 0 := by rw [f3 _ _ (by omega), zu_ne (by omega), zu_ne (by omega), zu_same]
  have z9 : F1 60 9 = 0 := by rw [f3 _ _ (by omega), zu_ne (by omega), zu_same]
  have z13 : F1 60 13 = 0 := by rw [f3 _ _ (by omega), zu_same]
  have z11 : F1 60 11 = 0 := by
    rw [f3 _ _ (by omega), zu_ne (by omega), zu_ne (by omega), zu_ne (by omega)]
    exact zu_same
  obtain ⟨F3, g1, g2, g3⟩ := T189 (X := X) (d := d + 5) (t := t) (p := p) (q := q) (B := B) (n := n) (k := 0) (E := zu (zu F1 60 3 n) 60 5 0) ⟨by omega, by rw [zu_ne (by omega), zu_same], fun i a b => ⟨(hB i a b).1, by rw [zu_ne (by omega), zu_ne (by omega), z0 _ _ (by omega) (by omega)]; exact (hB i a b).2⟩⟩ zu_same (by omega)
  have y0 : ∀ a b, (a ≠ 60 ∨ b < 3 ∨ 8 < b) → a ≠ 62 → F3 a b = F1 a b := fun a b u v => by rw [g3 a b (by omega) v, zu_ne (by omega), zu_ne (by omega)]
  have hS : zS2 B n (E 60 10) (.inr 0) F3 := ⟨⟨by rw [y0 _ _ (by omega) (by omega)]; exact z13, by rw [y0 _ _ (by omega) (by omega)]; exact z9, by rw [y0 _ _ (by omega) (by omega), z0 _ _ (by omega) (by omega)]⟩, g2⟩
  have z : ∀ k, (k < 8 ∨ 14 < k) → pl_f0 k = 0 := fun k h => if_neg (by omega)
  have hH : ∀ j, 0 ≤ j → j < 171 → F3 64 j = pl_f0 j := fun j a b => by rw [y0 _ _ (by omega) (by omega)]; exact f2 j a b
  have hN : zNR (pU pl_f0) (fun _ => 0) (pl_f0 3 + pl_f0 4) F3 := by
    have hz : ∀ j, 81 ≤ j → j < 171 → F3 64 j = 0 := fun j a b => by rw [hH j (by omega) b, z j (by omega)]
    refine ⟨fun x a b => ⟨?_, fun i u v => ?_, fun _ => hz _ (by omega) (by omega)⟩, fun x a b w => ?_, fun i a b => ?_, fun k a b => ?_⟩
    · rw [hz _ (by omega) (by omega)]; omega
    · rw [hz _ (by omega) (by omega)] at v; omega
    · rw [hz _ (by omega) (by omega)] at w; omega
    · rw [z 3 (by omega), z 4 (by omega)] at b; omega
    · rw [hz k a b]; omega
  obtain ⟨F4, q1, q2, q3⟩ := T202 (X := X) (d := d) (t := t) (p := p) (q := q) (B := B) (n := n) pI_f0 (fun j a b => hH j a (by omega)) hN hS
  have hJ := pJ_line (B := B) (n := n) (k := 0) (L := fun _ => 0) (by omega) pI_f0
  obtain ⟨F5, w1, w2, w3, w4⟩ := T200_92 (X := X) (d := d) (t := t) (p := p) (q := q) (j1 := vI n) (j2 := vI x2) 900 (pl_line B n pl_f0 (fun _ => 0) 0) F4 hJ q2 (fun k e => by
    have := hJ.1
    rw [e] at this
    have this : 0 ≤ k ∧ k ≤ n := this
    omega)
  have hp : F5 60 10 = E 60 10 ∨ ∃ u, (pl_loop B n 900 (pl_line B n pl_f0 (fun _ => 0) 0)).1 = .inl u := by
    cases hs : (pl_loop B n 900 (pl_line B n pl_f0 (fun _ => 0) 0)).1 with
    | inl u => exact Or.inr ⟨u, rfl⟩
    | inr k =>
      unfold zSR at w2
      rw [hs] at w2
      exact Or.inl w2.1.1.2.2
  obtain ⟨v, F6, k1, k2, k3, k4⟩ := T200_142 (X := X) (d := d) (t := t) (p := p) (q := q) (j2 := vI x2) (x1 := n) w3 hp w2
  have fr : ∀ a b, (a ≠ 60 ∨ b < 3 ∨ (13 < b) ∨ b = 12) → (a ≠ 60 ∨ (b ≠ 0 ∧ b ≠ 2)) → a ≠ 62 → a ≠ 64 → F5 a b = E a b := fun a b u1 u2 u3 u4 => by
    rw [w4 a b (by omega) u3 u4, q3 a b (by omega) u3 u4, y0 a b (by omega) u3, z0 a b (by omega) u4]
  have fz : ∀ b, (b = 2 ∨ b = 11) → F5 60 b = 0 := fun b u => by
    rw [w4 _ _ (by omega) (by omega) (by omega), q3 _ _ (by omega) (by omega) (by omega), y0 _ _ (by omega) (by omega)]
    rcases u with rfl | rfl
    · exact z2
    · exact z11
  refine ⟨v, F6, ?_, fun u e => ?_, fun k e => ?_, ?_, fun a b u1 u2 u3 u4 u5 => by rw [k4 a b (by omega) u3 u5, fr a b (by omega) (by omega) u2 u4]⟩
  · rw [L200_0, T177, L200_k1]
    have e2 : zg0 E 60 2 = E 60 2 := by
      unfold zg0
      rw [zu_ne (by omega), zu_ne (by omega)]
    rw [e2, T180t h1.1 h1.2.1 (by omega) (by omega), L200_k10, if_pos (by decide), f1, g1, L200_k85, q1, L200_k89, w1, k1]
  · obtain ⟨r1, r2, r3, r4, r5, r6, r7⟩ := k2 u e
    exact ⟨r1, r2, fun b => by rw [r3, fr _ _ (by omega) (by omega) (by omega) (by omega)], fun b => by rw [r4, fr _ _ (by omega) (by omega) (by omega) (by omega)], by rw [r5, fr _ _ (by omega) (by omega) (by omega) (by omega)], by rw [r6, fr _ _ (by omega) (by omega) (by omega) (by omega)], by rw [r7, fr _ _ (by omega) (by omega) (by omega) (by omega)]⟩
  · obtain ⟨r1, ⟨r2, r3, r4, r5, r6, r7⟩, r8⟩ := k3 k e
    have h10 : F5 60 10 = E 60 10 := by
      rcases hp with hp | ⟨u, hp⟩
      · exact hp
      · have e : (pl_end B n (pl_loop B n 900 (pl_line B n pl_f0 (fun _ => 0) 0))).1 = .inr k := e
        unfold pl_end at e
        rw [hp] at e
        rw [hp] at e
        cases e
    exact ⟨r1, by rw [r3]; exact h10, by rw [r4]; exact fz 11 (by omega), ⟨r2, rfl, rfl, r5, r6, r7⟩, r8⟩
  · rw [k4 _ _ (by omega) (by omega) (by omega)]
    exact fz 2 (by omega)
end HP

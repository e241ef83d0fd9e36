/-! the reference's reader: its steps -/
def zS2 (B : Int → Int) (n P : Int) (s : PS) (F : Nat → Int → Int) : Prop := match s with
  | .inl u => F 60 13 = 1 ∧ F 60 9 = u.1 ∧ F 60 10 = u.2
  | .inr k => (F 60 13 = 0 ∧ F 60 9 = 0 ∧ F 60 10 = P) ∧ zTR B n k F
def zFB (E F : Nat → Int → Int) : Prop := ∀ x y, (x ≠ 60 ∨ y < 4 ∨ 13 < y ∨ y = 11 ∨ y = 12) → x ≠ 62 → F x y = E x y
theorem zFB.tr {E F H : Nat → Int → Int} (h1 : zFB E F) (h2 : zFB F H) : zFB E H := fun a b g1 g2 => by rw [h2 a b g1 g2, h1 a b g1 g2]
theorem zFB.rfl' {E : Nat → Int → Int} : zFB E E := fun _ _ _ _ => rfl
theorem zFA.B {E F : Nat → Int → Int} (h : zFA E F) : zFB E F := fun x y u v => h x y (by omega) v
def zwr (E : Nat → Int → Int) (v a : Int) : Nat → Int → Int := zu (zu (zu E 60 13 1) 60 9 v) 60 10 a
theorem zwr_B {E : Nat → Int → Int} {v a : Int} : zFB E (zwr E v a) := fun x y u w => by
  unfold zwr
  rw [zu_ne (by omega), zu_ne (by omega), zu_ne (by omega)]
theorem zwr_S {B : Int → Int} {n P : Int} {E : Nat → Int → Int} {v a : Int} : zS2 B n P (.inl (v, a)) (zwr E v a) := by
  refine ⟨?_, ?_, ?_⟩ <;> unfold zwr
  · rw [zu_ne (by omega), zu_ne (by omega), zu_same]
  · rw [zu_ne (by omega), zu_same]
  · exact zu_same
theorem zS2.fr {B : Int → Int} {n P : Int} {s : PS} {E F : Nat → Int → Int} (h : zS2 B n P s E) (hf : ∀ x y, 60 ≤ x → x ≤ 62 → F x y = E x y) : zS2 B n P s F := by
  cases s with
  | inl u =>
    have h : E 60 13 = 1 ∧ E 60 9 = u.1 ∧ E 60 10 = u.2 := h
    refine ⟨?_, ?_, ?_⟩ <;> rw [hf _ _ (by omega) (by omega)]
    · exact h.1
    · exact h.2.1
    · exact h.2.2
  | inr k =>
    have h : (E 60 13 = 0 ∧ E 60 9 = 0 ∧ E 60 10 = P) ∧ zTR B n k E := h
    refine ⟨⟨?_, ?_, ?_⟩, h.2.fr (fun b _ _ => hf _ _ (by omega) (by omega)) (fun a b u => hf _ _ (by omega) (by omega))⟩ <;> rw [hf _ _ (by omega) (by omega)]
    · exact h.1.1
    · exact h.1.2.1
    · exact h.1.2.2
section RS
variable {X : Nat × (Nat → Int)} {d : Nat} {t : List (Nat × Nat)} {p q : Nat} {E : Nat → Int → Int} {B : Int → Int} {n k P : Int} {s : PS}
theorem T190 {v a : Int} (h : E 60 13 = 0) : zf_ev X d 190 (0, [vR 60, vI v, vI a], [], zH t p q E) = some (some [], zH t p q (zwr E v a)) := by
  rw [L190_0, h, if_pos (by decide)]
  rfl
theorem T190f {v a : Int} (h : E 60 13 = 1) : zf_ev X d 190 (0, [vR 60, vI v, vI a], [], zH t p q E) = some (some [], zH t p q E) := by
  rw [L190_0, h, if_neg (by decide)]
theorem zS2_next (h : zS2 B n P (.inr k) E) : ∃ F, zf_ev X (d + 1) 189 (0, [vR 60, vJ, vJ, vJ], [], zH t p q E) = some (some [], zH t p q F) ∧ zS2 B n P (.inr (tk_e B n k)) F ∧ zFA E F := by
  have h : (E 60 13 = 0 ∧ E 60 9 = 0 ∧ E 60 10 = P) ∧ zTR B n k E := h
  obtain ⟨F, f1, f2, f3⟩ := T189n (X := X) (d := d) (t := t) (p := p) (q := q) h.2
  refine ⟨F, f1, ⟨⟨?_, ?_, ?_⟩, f2⟩, f3⟩ <;> rw [f3 _ _ (by omega) (by omega)]
  · exact h.1.1
  · exact h.1.2.1
  · exact h.1.2.2
theorem T193 {w : Nat} (hw : w < 22) (h : zS2 B n P s E) : ∃ F, zf_ev X (d + 3) 193 (0, [vR 60, vX w], [], zH t p q E) = some (some [], zH t p q F) ∧ zS2 B n P (ps_W B n w s) F ∧ zFB E F := by
  cases s with
  | inl u =>
    have h2 : E 60 13 = 1 ∧ E 60 9 = u.1 ∧ E 60 10 = u.2 := h
    refine ⟨E, ?_, h, zFB.rfl'⟩
    rw [L193_0, h2.1, if_pos (by decide)]
  | inr k =>
    have h2 : (E 60 13 = 0 ∧ E 60 9 = 0 ∧ E 60 10 = P) ∧ zTR B n k E := h
    by_cases g : tk_is B n k w = true
    · have hs : ps_W B n w (.inr k) = .inr (tk_e B n k) := if_pos g
      obtain ⟨F, f1, f2, f3⟩ := zS2_next (X := X) (d := d) (t := t) (p := p) (q := q) h
      rw [hs]
      refine ⟨F, ?_, f2, f3.B⟩
      rw [L193_0, h2.1.1, if_neg (by decide), L192_0, T191 hw h2.1.1 h2.2, L192_k2, g, fa_b_t, if_pos (by decide), f1, L192_k11, L193_k9, if_pos (by decide)]
    · have hs : ps_W B n w (.inr k) = .inl (1, tk_a B n k) := if_neg g
      rw [hs]
      refine ⟨zwr E 1 (tk_a B n k), ?_, zwr_S, zwr_B⟩
      rw [L193_0, h2.1.1, if_neg (by decide), L192_0, T191 hw h2.1.1 h2.2, L192_k2, bo_f g, fa_b_f, if_neg (by decide), L193_k9, if_neg (by decide), h2.2.2.2.1.1, T190 h2.1.1, L193_k21]
theorem T196 {lo hi : Int} (hl : 0 ≤ lo ∧ lo ≤ 1000) (hh : -1 ≤ hi ∧ hi ≤ 1000) (h : zS2 B n P s E) : ∃ F, zf_ev X (d + 1) 196 (0, [vR 60, vI lo, vI hi], [], zH t p q E) = some (some [vI (pv_N B n lo hi s)], zH t p q F) ∧ (∀ u, ps_N B n lo hi s = .inl u → zS2 B n P (.inl u) F) ∧ (∀ k2, ps_N B n lo hi s = .inr k2 → F = E) ∧ zFB E F := by
  cases s with
  | inl u =>
    have h2 : E 60 13 = 1 ∧ E 60 9 = u.1 ∧ E 60 10 = u.2 := h
    refine ⟨E, ?_, fun v g => ?_, fun k2 g => rfl, zFB.rfl'⟩
    · rw [L196_0, h2.1, if_neg (by decide)]
      rfl
    · cases g
      exact h
  | inr k =>
    have h2 : (E 60 13 = 0 ∧ E 60 9 = 0 ∧ E 60 10 = P) ∧ zTR B n k E := h
    have hkr := tk_k_r (B := B) (n := n) (k := k)
    have hN : ps_N B n lo hi (.inr k) = (if tk_k B n k = 3 then (if lo ≤ tk_v B n k ∧ tk_v B n k ≤ hi then .inr (tk_e B n k) else .inl (4, tk_a B n k)) else .inl (1, tk_a B n k)) := rfl
    have hV : pv_N B n lo hi (.inr k) = (if tk_k B n k = 3 ∧ lo ≤ tk_v B n k ∧ tk_v B n k ≤ hi then tk_v B n k else lo) := rfl
    have wf : ∀ v a, (zwr E v a) 60 13 = 1 := fun v a => (zwr_S (B := B) (n := n) (P := P) (E := E) (v := v) (a := a)).1
    by_cases g : tk_k B n k = 3
    · have hv := (tk_whole h2.2.2.1.2 g).2.2.2.2.2
      have h7 := h2.2.2.2.2.1 g
      have e0 : zf_ev X (d + 1) 196 (0, [vR 60, vI lo, vI hi], [], zH t p q E) = zf_k X (d + 1) 196 35 [vR 60, vI lo, vI hi] [] (zf_ev X d 180 (0, [vI (tk_v B n k), vI lo, vI hi], [], zH t p q E)) := by
        rw [L196_0, h2.1.1, if_pos (by decide), h2.2.2.2.1.2.2, if_pos (by rw [g]), h7]
      rw [if_pos g] at hN
      by_cases g2 : lo ≤ tk_v B n k ∧ tk_v B n k ≤ hi
      · rw [if_pos g2] at hN
        rw [if_pos ⟨g, g2⟩] at hV
        refine ⟨E, ?_, fun u e => ?_, fun _ _ => rfl, zFB.rfl'⟩
        · rw [e0, T180t g2.1 g2.2 (by omega) (by omega), L196_k35, if_pos (by decide), h2.1.1, if_pos (by decide), h7, hV]
        · rw [hN] at e; cases e
      · rw [if_neg g2] at hN
        rw [if_neg (fun e => g2 e.2)] at hV
        refine ⟨zwr E 4 (tk_a B n k), ?_, fun u e => ?_, fun k2 e => ?_, zwr_B⟩
        · rw [e0, T180f (by omega) (by omega) (by omega) (by omega), L196_k35, if_neg (by decide), h2.2.2.2.1.1, T190 h2.1.1, L196_k47, wf, if_neg (by decide), hV]
        · rw [hN] at e; cases e; exact zwr_S
        · rw [hN] at e; cases e
    · rw [if_neg g] at hN
      rw [if_neg (fun e => g e.1)] at hV
      refine ⟨zwr E 1 (tk_a B n k), ?_, fun u e => ?_, fun k2 e => ?_, zwr_B⟩
      · rw [L196_0, h2.1.1, if_pos (by decide), h2.2.2.2.1.2.2, if_neg (by rw [n32_id (by omega) (by omega)]; exact g), h2.2.2.2.1.1, T190 h2.1.1, L196_k23, wf, if_neg (by decide), hV]
      · rw [hN] at e; cases e; exact zwr_S
      · rw [hN] at e; cases e
theorem T197 {lo hi : Int} (hl : 0 ≤ lo ∧ lo ≤ 1000) (hh : -1 ≤ hi ∧ hi ≤ 1000) (h : zS2 B n P s E) : ∃ F, zf_ev X (d + 2) 197 (0, [vR 60, vI lo, vI hi, vJ], [], zH t p q E) = some (some [vI (pv_N B n lo hi s)], zH t p q F) ∧ zS2 B n P (ps_N B n lo hi s) F ∧ zFB E F := by
  obtain ⟨F, f1, f2, f3, f4⟩ := T196 (X := X) (d := d) (t := t) (p := p) (q := q) hl hh h
  cases hs : ps_N B n lo hi s with
  | inl u =>
    have f2 := f2 u hs
    refine ⟨F, ?_, f2, f4⟩
    rw [L197_0, f1, L197_k3 rfl, f2.1, if_pos (by decide)]
  | inr k2 =>
    have f3 := f3 k2 hs
    rw [f3] at f1
    obtain ⟨k, hk, hs2⟩ := ps_N_b hs
    subst hk
    have h2 : (E 60 13 = 0 ∧ E 60 9 = 0 ∧ E 60 10 = P) ∧ zTR B n k E := h
    obtain ⟨G, g1, g2, g3⟩ := zS2_next (X := X) (d := d) (t := t) (p := p) (q := q) h
    rw [← (ps_N_inr hs2).2.2.2.1] at g2
    refine ⟨G, ?_, g2, g3.B⟩
    rw [L197_0, f1, L197_k3 rfl, h2.1.1, if_neg (by decide), g1, L197_k15]
theorem T198 {w : Nat} (hw : w < 22) {lo hi : Int} (hl : 0 ≤ lo ∧ lo ≤ 1000) (hh : -1 ≤ hi ∧ hi ≤ 1000) (h : zS2 B n P s E) : ∃ F, zf_ev X (d + 4) 198 (0, [vR 60, vX w, vI lo, vI hi], [], zH t p q E) = some (some [vI (pv_N B n lo hi (ps_W B n w s))], zH t p q F) ∧ zS2 B n P (ps_N B n lo hi (ps_W B n w s)) F ∧ zFB E F := by
  obtain ⟨F, f1, f2, f3⟩ := T193 (X := X) (d := d) (t := t) (p := p) (q := q) hw h
  obtain ⟨G, g1, g2, g3⟩ := T197 (X := X) (d := d + 1) (t := t) (p := p) (q := q) hl hh f2
  refine ⟨G, ?_, g2, f3.tr g3⟩
  rw [L198_0, f1, L198_k2, g1, L198_k8]
theorem T199 {c : Int} (hc : 0 ≤ c ∧ c ≤ 12) (h0 : E 64 0 = c) (h : zS2 B n P s E) : ∃ F, zf_ev X (d + 3) 199 (0, [vR 60], [], zH t p q E) = some (some [vI (pv_N B n 0 (c - 1) s)], zH t p q F) ∧ zS2 B n P (ps_N B n 0 (c - 1) s) F ∧ zFB E F := by
  obtain ⟨G, g1, g2, g3⟩ := T197 (X := X) (d := d) (t := t) (p := p) (q := q) (lo := 0) (hi := c - 1) (by omega) (by omega) h
  refine ⟨G, ?_, g2, g3⟩
  rw [L199_0, zg_pos (by decide), show n32 0 = 0 by decide, h0, g1, L199_k10]
theorem T204 {f : Int → Int} (hI : pI f) (h1 : ∀ k, 0 ≤ k → k < 81 → E 64 k = f k) (h : zS2 B n P (.inr k) E) : ∃ F v, zf_ev X (d + 2) 204 (0, [vR 60, vJ], [], zH t p q E) = some (some [vI v], zH t p q F) ∧ zS2 B n P (ps_R B n 1 (f 1) (pl_told f) (.inr k)) F ∧ (∀ k2, ps_R B n 1 (f 1) (pl_told f) (.inr k) = .inr k2 → v = pv_N B n 1 (f 1) (.inr k)) ∧ zFB E F := by
  have i1 := hI.1
  unfold pI1 at i1
  have h2 : (E 60 13 = 0 ∧ E 60 9 = 0 ∧ E 60 10 = P) ∧ zTR B n k E := h
  obtain ⟨F, f1, f2, f3, f4⟩ := T196 (X := X) (d := d) (t := t) (p := p) (q := q) (lo := 1) (hi := f 1) (by omega) (by omega) h
  have e0 : zf_ev X (d + 2) 204 (0, [vR 60, vJ], [], zH t p q E) = zf_k X (d + 2) 204 8 [vR 60, vJ] [] (some (some [vI (pv_N B n 1 (f 1) (.inr k))], zH t p q F)) := by
    rw [L204_0, zg_pos (by decide), show n32 1 = 1 by decide, h1 1 (by omega) (by omega), f1]
  cases hs : ps_N B n 1 (f 1) (.inr k) with
  | inl u =>
    have hR : ps_R B n 1 (f 1) (pl_told f) (.inr k) = .inl u := by
      show (match ps_N B n 1 (f 1) (.inr k) with
        | .inl x => .inl x
        | .inr k2 => if pl_told f (tk_v B n k) = true then .inl (3, tk_a B n k) else .inr k2 : PS) = _
      rw [hs]
    have f2 := f2 u hs
    rw [hR]
    refine ⟨F, 0, ?_, f2, fun k2 e => (by cases e), f4⟩
    rw [e0, L204_k8, f2.1, if_pos (by decide), if_neg (by decide)]
  | inr k2 =>
    have f3 := f3 k2 hs
    rw [f3] at e0
    have hN := ps_N_inr hs
    have hv := hN.2.2.2.2
    have hr := hI.2.1 (pv_N B n 1 (f 1) (.inr k)) (by omega) (by omega)
    have hc := h1 (15 + pv_N B n 1 (f 1) (.inr k)) (by omega) (by omega)
    have hR : ps_R B n 1 (f 1) (pl_told f) (.inr k) = (if pl_told f (pv_N B n 1 (f 1) (.inr k)) = true then .inl (3, tk_a B n k) else .inr k2 : PS) := by
      show (match ps_N B n 1 (f 1) (.inr k) with
        | .inl x => .inl x
        | .inr k2 => if pl_told f (tk_v B n k) = true then .inl (3, tk_a B n k) else .inr k2 : PS) = _
      rw [hs, hv]
    by_cases g : 0 < f (15 + pv_N B n 1 (f 1) (.inr k))
    · have g' : pl_told f (pv_N B n 1 (f 1) (.inr k)) = true := decide_eq_true g
      rw [if_pos g'] at hR
      rw [hR]
      refine ⟨zwr E 3 (tk_a B n k), 0, ?_, zwr_S, fun k2 e => (by cases e), zwr_B⟩
      rw [e0, L204_k8, h2.1.1, if_neg (by decide), n32_id (by omega) (by omega), zg_pos (by omega), hc, n32_id (by omega) (by omega), if_neg (by omega), h2.2.2.2.1.1, T190 h2.1.1, L204_k37, (zwr_S (B := B) (n := n) (P := P) (E := E)).1, if_neg (by decide)]
    · have g' : ¬ pl_told f (pv_N B n 1 (f 1) (.inr k)) = true := fun e => g (of_decide_eq_true e)
      rw [if_neg g'] at hR
      obtain ⟨G, g1, g2, g3⟩ := zS2_next (X := X) (d := d) (t := t) (p := p) (q := q) h
      rw [← hN.2.2.2.1] at g2
      rw [hR]
      refine ⟨G, _, ?_, g2, fun k2 e => rfl, g3.B⟩
      rw [e0, L204_k8, h2.1.1, if_neg (by decide), n32_id (by omega) (by omega), zg_pos (by omega), hc, n32_id (by omega) (by omega), if_pos (by omega), if_pos (by decide), g1, L204_k50]
theorem T194 (h : zS2 B n P (.inr k) E) : (tk_k B n k ≠ 2 ∨ tk_ls B n k ≠ 0 → zf_ev X (d + 1) 194 (0, [vR 60], [], zH t p q E) = some (some [], zH t p q (zwr E 1 (tk_a B n k)))) ∧ (¬ (tk_k B n k ≠ 2 ∨ tk_ls B n k ≠ 0) → zf_ev X (d + 1) 194 (0, [vR 60], [], zH t p q E) = some (some [], zH t p q E)) := by
  have h2 : (E 60 13 = 0 ∧ E 60 9 = 0 ∧ E 60 10 = P) ∧ zTR B n k E := h
  have hkr := tk_k_r (B := B) (n := n) (k := k)
  have hb : zf_k X (d + 1) 194 77 [vR 60] [] (zf_ev X d 190 (0, [vR 60, vI 1, vI (E 60 4)], [], zH t p q E)) = some (some [], zH t p q (zwr E 1 (tk_a B n k))) := by
    rw [h2.2.2.2.1.1, T190 h2.1.1, L194_k77]
  by_cases g : tk_k B n k = 2
  · have e : zf_ev X (d + 1) 194 (0, [vR 60], [], zH t p q E) = if tk_ls B n k ≠ 0 then some (some [], zH t p q (zwr E 1 (tk_a B n k))) else some (some [], zH t p q E) := by
      rw [L194_0, h2.2.2.2.1.2.2, if_neg (fun e => e (by rw [g])), T191 (by decide) h2.1.1 h2.2, L194_k11]
      by_cases g0 : tk_is B n k 0 = true
      · have e : tk_ls B n k = 1 := by
          unfold tk_ls
          rw [if_pos g0]
        rw [g0, fa_b_t, if_pos (by decide), hb, e, if_pos (by decide)]
      rw [bo_f g0, fa_b_f, if_neg (by decide), T191 (by decide) h2.1.1 h2.2, L194_k20]
      by_cases g1 : tk_is B n k 1 = true
      · have e : tk_ls B n k = 2 := by
          unfold tk_ls
          rw [if_neg g0, if_pos g1]
        rw [g1, fa_b_t, if_pos (by decide), hb, e, if_pos (by decide)]
      rw [bo_f g1, fa_b_f, if_neg (by decide), T191 (by decide) h2.1.1 h2.2, L194_k29]
      by_cases g2 : tk_is B n k 2 = true
      · have e : tk_ls B n k = 3 := by
          unfold tk_ls
          rw [if_neg g0, if_neg g1, if_pos g2]
        rw [g2, fa_b_t, if_pos (by decide), hb, e, if_pos (by decide)]
      rw [bo_f g2, fa_b_f, if_neg (by decide), T191 (by decide) h2.1.1 h2.2, L194_k38]
      by_cases g3 : tk_is B n k 3 = true
      · have e : tk_ls B n k = 4 := by
          unfold tk_ls
          rw [if_neg g0, if_neg g1, if_neg g2, if_pos g3]
        rw [g3, fa_b_t, if_pos (by decide), hb, e, if_pos (by decide)]
      rw [bo_f g3, fa_b_f, if_neg (by decide), T191 (by decide) h2.1.1 h2.2, L194_k47]
      by_cases g4 : tk_is B n k 4 = true
      · have e : tk_ls B n k = 5 := by
          unfold tk_ls
          rw [if_neg g0, if_neg g1, if_neg g2, if_neg g3, if_pos g4]
        rw [g4, fa_b_t, if_pos (by decide), hb, e, if_pos (by decide)]
      rw [bo_f g4, fa_b_f, if_neg (by decide), T191 (by decide) h2.1.1 h2.2, L194_k56]
      by_cases g5 : tk_is B n k 5 = true
      · have e : tk_ls B n k = 6 := by
          unfold tk_ls
          rw [if_neg g0, if_neg g1, if_neg g2, if_neg g3, if_neg g4, if_pos g5]
        rw [g5, fa_b_t, if_pos (by decide), hb, e, if_pos (by decide)]
      rw [bo_f g5, fa_b_f, if_neg (by decide), T191 (by decide) h2.1.1 h2.2, L194_k65]
      by_cases g6 : tk_is B n k 6 = true
      · have e : tk_ls B n k = 7 := by
          unfold tk_ls
          rw [if_neg g0, if_neg g1, if_neg g2, if_neg g3, if_neg g4, if_neg g5, if_pos g6]
        rw [g6, fa_b_t, if_neg (by decide), hb, e, if_pos (by decide)]
      · have e : tk_ls B n k = 0 := by
          unfold tk_ls
          rw [if_neg g0, if_neg g1, if_neg g2, if_neg g3, if_neg g4, if_neg g5, if_neg g6]
        rw [bo_f g6, fa_b_f, if_pos (by decide), e, if_neg (by decide)]
    constructor
    · intro w
      rw [e, if_pos (by omega)]
    · intro w
      rw [e, if_neg (by omega)]
  · constructor
    · intro _
      rw [L194_0, h2.2.2.2.1.2.2, if_pos (by rw [n32_id (by omega) (by omega)]; exact g), hb]
    · intro w
      exact absurd (Or.inl g) w
end RS

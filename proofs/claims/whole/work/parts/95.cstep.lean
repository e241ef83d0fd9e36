/-! the class's reader: its steps -/
theorem ps_b_l {x : Int × Int} : ps_b (.inl x) = 0 := rfl
theorem ps_b_r {k : Int} : ps_b (.inr k) = 1 := rfl
def zT0 (B : Int → Int) (n k : Int) (E : Nat → Int → Int) : Prop := zTC B n k E ∧ E 1 8 = 0
def zS1 (B : Int → Int) (n : Int) (s : PS) (F : Nat → Int → Int) : Prop := match s with
  | .inl x => F 1 8 = x.1 ∧ F 1 9 = x.2
  | .inr k => zT0 B n k F
/-- what a step leaves -/
def zFT (E F : Nat → Int → Int) : Prop := ∀ x y, (x ≠ 2 ∨ y < 3) → (x ≠ 1 ∨ y < 5) → F x y = E x y
theorem zFT.tr {E F H : Nat → Int → Int} (h1 : zFT E F) (h2 : zFT F H) : zFT E H := fun a b g1 g2 => by rw [h2 a b g1 g2, h1 a b g1 g2]
theorem zT0.fr {B : Int → Int} {n k : Int} {E F : Nat → Int → Int} (h : zT0 B n k E) (hf : ∀ a b, a = 2 ∨ a = 3 → F a b = E a b) (h8 : F 1 8 = E 1 8) : zT0 B n k F := ⟨h.1.fr hf, by rw [h8]; exact h.2⟩
section CS
variable {X : Nat × (Nat → Int)} {d : Nat} {t : List (Nat × Nat)} {p q : Nat} {E : Nat → Int → Int} {B : Int → Int} {n k : Int} {o : Nat}
theorem T92 {w : Nat} (hw : w < 22) (hT : zT0 B n k E) : ∃ F, zf_ev X (d + 2) 92 (0, [vR 1, vX w], [], zH t p q E) = some (some [vI (ps_b (ps_W B n w (.inr k)))], zH t p q F) ∧ zS1 B n (ps_W B n w (.inr k)) F ∧ zFT E F := by
  by_cases g : tk_is B n k w = true
  · have hs : ps_W B n w (.inr k) = .inr (tk_e B n k) := if_pos g
    obtain ⟨F, f1, f2, f3⟩ := T109n (X := X) (d := d) (t := t) (p := p) (q := q) hT.1
    rw [hs, ps_b_r]
    refine ⟨F, ?_, ⟨f2, by rw [f3 _ _ (by omega)]; exact hT.2⟩, fun x y u v => f3 x y u⟩
    rw [L92_0, T112 hw hT.1, L92_k5, g, fa_b_t, if_pos (by decide), f1, L92_k28]
  · have hs : ps_W B n w (.inr k) = .inl (1, tk_a B n k) := if_neg g
    rw [hs, ps_b_l]
    refine ⟨zu (zu E 1 8 1) 1 9 (tk_a B n k), ?_, ⟨by rw [zu_ne (by omega), zu_same], zu_same⟩, fun x y u v => by rw [zu_ne (by omega), zu_ne (by omega)]⟩
    rw [L92_0, T112 hw hT.1, L92_k5, bo_f g, fa_b_f, if_neg (by decide), hT.1.2.2.1.2.2.2, L78_0, L92_k20, zg_pos (by decide)]
theorem T91 (hT : zT0 B n k E) : (tk_k B n k = 59 → ∃ F, zf_ev X (d + 2) 91 (0, [vR 1], [], zH t p q E) = some (some [vI 1], zH t p q F) ∧ zT0 B n (tk_e B n k) F ∧ zFT E F) ∧ (tk_k B n k ≠ 59 → ∃ F, zf_ev X (d + 2) 91 (0, [vR 1], [], zH t p q E) = some (some [vI 0], zH t p q F) ∧ (F 1 8 = 1 ∧ F 1 9 = tk_a B n k) ∧ zFT E F) := by
  have hk := tk_kc_r (t := tk_k B n k)
  constructor
  · intro g
    obtain ⟨F, f1, f2, f3⟩ := T109n (X := X) (d := d) (t := t) (p := p) (q := q) hT.1
    refine ⟨F, ?_, ⟨f2, by rw [f3 _ _ (by omega)]; exact hT.2⟩, fun x y u v => f3 x y u⟩
    rw [L91_0, hT.1.2.2.1.2.2.1, if_pos (by rw [tk_kc_3.mpr g]), f1, L91_k28]
  · intro g
    have g2 := mt tk_kc_3.mp g
    refine ⟨zu (zu E 1 8 1) 1 9 (tk_a B n k), ?_, ⟨by rw [zu_ne (by omega), zu_same], zu_same⟩, fun x y u v => by rw [zu_ne (by omega), zu_ne (by omega)]⟩
    rw [L91_0, hT.1.2.2.1.2.2.1, if_neg (by rw [n32_id (by omega) (by omega)]; exact g2), hT.1.2.2.1.2.2.2, L78_0, L91_k20, zg_pos (by decide)]
theorem T93 {lo hi : Int} (hl : 0 ≤ lo ∧ lo ≤ 1000) (hh : -1 ≤ hi ∧ hi ≤ 1000) (hT : zT0 B n k E) : ∃ F, zf_ev X (d + 2) 93 (0, [vR 1, vI lo, vI hi], [], zH t p q E) = some (some [vI (ps_b (ps_N B n lo hi (.inr k)))], zH t p q F) ∧ zS1 B n (ps_N B n lo hi (.inr k)) F ∧ (∀ k2, ps_N B n lo hi (.inr k) = .inr k2 → F 1 5 = pv_N B n lo hi (.inr k) ∧ F 1 6 = tk_a B n k) ∧ zFT E F ∧ F 1 7 = E 1 7 := by
  have hk := tk_kc_r (t := tk_k B n k)
  by_cases g : tk_k B n k = 3
  · have hv := (tk_whole hT.1.2.1.2 g).2.2.2.2.2
    have h6 := hT.1.2.2.2.1 g
    have h4 : E 2 4 = 2 := by rw [hT.1.2.2.1.2.2.1, tk_kc_2.mpr g]
    have h5 := hT.1.2.2.1.2.2.2
    by_cases g2 : lo ≤ tk_v B n k ∧ tk_v B n k ≤ hi
    · have hs : ps_N B n lo hi (.inr k) = .inr (tk_e B n k) := by
        show (if tk_k B n k = 3 then (if lo ≤ tk_v B n k ∧ tk_v B n k ≤ hi then .inr (tk_e B n k) else .inl (4, tk_a B n k)) else .inl (1, tk_a B n k) : PS) = _
        rw [if_pos g, if_pos g2]
      have hv2 : pv_N B n lo hi (.inr k) = tk_v B n k := if_pos ⟨g, g2⟩
      obtain ⟨F, f1, f2, f3⟩ := T109n (X := X) (d := d) (t := t) (p := p) (q := q) (E := zu (zu E 1 5 (tk_v B n k)) 1 6 (tk_a B n k)) (hT.1.fr (fun a b u => by rw [zu_ne (by omega), zu_ne (by omega)]))
      rw [hs, ps_b_r, hv2]
      refine ⟨F, ?_, ⟨f2, by rw [f3 _ _ (by omega), zu_ne (by omega), zu_ne (by omega)]; exact hT.2⟩, fun k2 _ => ⟨by rw [f3 _ _ (by omega), zu_ne (by omega), zu_same], by rw [f3 _ _ (by omega), zu_same]⟩, fun x y u v => by rw [f3 x y u, zu_ne (by omega), zu_ne (by omega)], by rw [f3 _ _ (by omega), zu_ne (by omega), zu_ne (by omega)]⟩
      rw [L93_0]
      simp (disch := omega) only [n32_id, zg_pos, if_pos, if_neg, zu_same, zu_ne, if_true, if_false, ne_eq, not_true_eq_false, not_false_eq_true, true_or, or_true, true_and, and_true, zg_true, fa_b_f, fa_b_t, h4, h5, h6]
      rw [f1, L93_k76]
    · have hs : ps_N B n lo hi (.inr k) = .inl (4, tk_a B n k) := by
        show (if tk_k B n k = 3 then (if lo ≤ tk_v B n k ∧ tk_v B n k ≤ hi then .inr (tk_e B n k) else .inl (4, tk_a B n k)) else .inl (1, tk_a B n k) : PS) = _
        rw [if_pos g, if_neg g2]
      rw [hs, ps_b_l]
      refine ⟨zu (zu (zu (zu E 1 5 (tk_v B n k)) 1 6 (tk_a B n k)) 1 8 4) 1 9 (tk_a B n k), ?_, ⟨by rw [zu_ne (by omega), zu_same], zu_same⟩, fun k2 h => (by cases h), fun x y u v => by rw [zu_ne (by omega), zu_ne (by omega), zu_ne (by omega), zu_ne (by omega)], by rw [zu_ne (by omega), zu_ne (by omega), zu_ne (by omega), zu_ne (by omega)]⟩
      rw [L93_0]
      by_cases g3 : tk_v B n k < lo
      · simp (disch := omega) only [n32_id, zg_pos, if_pos, if_neg, zu_same, zu_ne, if_true, if_false, ne_eq, not_true_eq_false, not_false_eq_true, true_or, or_true, true_and, and_true, zg_true, fa_b_f, fa_b_t, h4, h5, h6]
        rw [L78_0, L93_k68, zg_pos (by decide)]
      · simp (disch := omega) only [n32_id, zg_pos, if_pos, if_neg, zu_same, zu_ne, if_true, if_false, ne_eq, not_true_eq_false, not_false_eq_true, true_or, or_true, true_and, and_true, zg_true, fa_b_f, fa_b_t, h4, h5, h6]
        rw [L78_0, L93_k68, zg_pos (by decide)]
  · have g2 := mt tk_kc_2.mp g
    have hs : ps_N B n lo hi (.inr k) = .inl (1, tk_a B n k) := if_neg g
    rw [hs, ps_b_l]
    refine ⟨zu (zu E 1 8 1) 1 9 (tk_a B n k), ?_, ⟨by rw [zu_ne (by omega), zu_same], zu_same⟩, fun k2 h => (by cases h), fun x y u v => by rw [zu_ne (by omega), zu_ne (by omega)], by rw [zu_ne (by omega), zu_ne (by omega)]⟩
    rw [L93_0, hT.1.2.2.1.2.2.1, if_neg (by rw [n32_id (by omega) (by omega)]; exact g2), hT.1.2.2.1.2.2.2, L78_0, L93_k20, zg_pos (by decide)]
theorem T80 (hT : zTC B n k E) : zf_ev X (d + 1) 80 (0, [vR 1], [], zH t p q E) = some (some [vI (tk_ls B n k)], zH t p q E) := by
  unfold tk_ls
  rw [L80_0, T112 (by decide) hT, L80_k6]
  by_cases g0 : tk_is B n k 0 = true
  · rw [g0, fa_b_t, if_neg (by decide), if_pos rfl]
  rw [bo_f g0, fa_b_f, if_pos (by decide), if_neg (by decide), T112 (by decide) hT, L80_k20]
  by_cases g1 : tk_is B n k 1 = true
  · rw [g1, fa_b_t, if_neg (by decide), if_pos rfl]
  rw [bo_f g1, fa_b_f, if_pos (by decide), if_neg (by decide), T112 (by decide) hT, L80_k34]
  by_cases g2 : tk_is B n k 2 = true
  · rw [g2, fa_b_t, if_neg (by decide), if_pos rfl]
  rw [bo_f g2, fa_b_f, if_pos (by decide), if_neg (by decide), T112 (by decide) hT, L80_k48]
  by_cases g3 : tk_is B n k 3 = true
  · rw [g3, fa_b_t, if_neg (by decide), if_pos rfl]
  rw [bo_f g3, fa_b_f, if_pos (by decide), if_neg (by decide), T112 (by decide) hT, L80_k62]
  by_cases g4 : tk_is B n k 4 = true
  · rw [g4, fa_b_t, if_neg (by decide), if_pos rfl]
  rw [bo_f g4, fa_b_f, if_pos (by decide), if_neg (by decide), T112 (by decide) hT, L80_k76]
  by_cases g5 : tk_is B n k 5 = true
  · rw [g5, fa_b_t, if_neg (by decide), if_pos rfl]
  rw [bo_f g5, fa_b_f, if_pos (by decide), if_neg (by decide), T112 (by decide) hT, L80_k91]
  by_cases g6 : tk_is B n k 6 = true
  · rw [g6, fa_b_t, if_neg (by decide), if_pos rfl]
  · rw [bo_f g6, fa_b_f, if_pos (by decide), if_neg (by decide)]
theorem T96 (hT : zT0 B n k E) : ∃ F, zf_ev X (d + 2) 96 (0, [vR 1], [], zH t p q E) = some (some [vI (ps_b (ps_F B n (.inr k)))], zH t p q F) ∧ zS1 B n (ps_F B n (.inr k)) F ∧ (∀ k2, ps_F B n (.inr k) = .inr k2 → F 1 5 = pv_F B n (.inr k)) ∧ zFT E F := by
  have ok : ∀ v, pv_F B n (.inr k) = v → v ≠ -1 → ∃ F, zf_ev X (d + 1) 109 (0, [vR 2], [], zH t p q (zu E 1 5 v)) = some (some [], zH t p q F) ∧ ps_F B n (.inr k) = .inr (tk_e B n k) ∧ zT0 B n (tk_e B n k) F ∧ F 1 5 = v ∧ zFT E F := by
    intro v hv hn
    obtain ⟨F, f1, f2, f3⟩ := T109n (X := X) (d := d) (t := t) (p := p) (q := q) (E := zu E 1 5 v) (hT.1.fr (fun a b u => by rw [zu_ne (by omega)]))
    exact ⟨F, f1, if_neg (by rw [hv]; exact hn), ⟨f2, by rw [f3 _ _ (by omega), zu_ne (by omega)]; exact hT.2⟩, by rw [f3 _ _ (by omega), zu_same], fun x y u v => by rw [f3 x y u, zu_ne (by omega)]⟩
  have hF : pv_F B n (.inr k) = (if tk_is B n k 13 = true then 0 else if tk_is B n k 14 = true then 1 else if tk_is B n k 15 = true then 2 else if tk_is B n k 16 = true then 3 else -1) := rfl
  by_cases g0 : tk_is B n k 13 = true
  · rw [if_pos g0] at hF
    obtain ⟨F, f1, f2, f3, f4, f5⟩ := ok 0 hF (by decide)
    rw [f2, ps_b_r, hF]
    refine ⟨F, ?_, f3, fun _ _ => f4, f5⟩
    rw [L96_0, T112 (by decide) hT.1, L96_k6, g0, fa_b_t, if_neg (by decide), f1, L96_k97]
  rw [if_neg g0] at hF
  by_cases g1 : tk_is B n k 14 = true
  · rw [if_pos g1] at hF
    obtain ⟨F, f1, f2, f3, f4, f5⟩ := ok 1 hF (by decide)
    rw [f2, ps_b_r, hF]
    refine ⟨F, ?_, f3, fun _ _ => f4, f5⟩
    rw [L96_0, T112 (by decide) hT.1, L96_k6, bo_f g0, fa_b_f, if_pos (by decide), T112 (by decide) hT.1, L96_k26, g1, fa_b_t, if_neg (by decide), f1, L96_k97]
  rw [if_neg g1] at hF
  by_cases g2 : tk_is B n k 15 = true
  · rw [if_pos g2] at hF
    obtain ⟨F, f1, f2, f3, f4, f5⟩ := ok 2 hF (by decide)
    rw [f2, ps_b_r, hF]
    refine ⟨F, ?_, f3, fun _ _ => f4, f5⟩
    rw [L96_0, T112 (by decide) hT.1, L96_k6, bo_f g0, fa_b_f, if_pos (by decide), T112 (by decide) hT.1, L96_k26, bo_f g1, fa_b_f, if_pos (by decide), T112 (by decide) hT.1, L96_k46, g2, fa_b_t, if_neg (by decide), f1, L96_k97]
  rw [if_neg g2] at hF
  by_cases g3 : tk_is B n k 16 = true
  · rw [if_pos g3] at hF
    obtain ⟨F, f1, f2, f3, f4, f5⟩ := ok 3 hF (by decide)
    rw [f2, ps_b_r, hF]
    refine ⟨F, ?_, f3, fun _ _ => f4, f5⟩
    rw [L96_0, T112 (by decide) hT.1, L96_k6, bo_f g0, fa_b_f, if_pos (by decide), T112 (by decide) hT.1, L96_k26, bo_f g1, fa_b_f, if_pos (by decide), T112 (by decide) hT.1, L96_k46, bo_f g2, fa_b_f, if_pos (by decide), T112 (by decide) hT.1, L96_k66, g3, fa_b_t, if_neg (by decide), f1, L96_k97]
  · rw [if_neg g3] at hF
    have hs : ps_F B n (.inr k) = .inl (1, tk_a B n k) := if_pos hF
    rw [hs, ps_b_l]
    refine ⟨zu (zu E 1 8 1) 1 9 (tk_a B n k), ?_, ⟨by rw [zu_ne (by omega), zu_same], zu_same⟩, fun k2 h => (by cases h), fun x y u v => by rw [zu_ne (by omega), zu_ne (by omega)]⟩
    rw [L96_0, T112 (by decide) hT.1, L96_k6, bo_f g0, fa_b_f, if_pos (by decide), T112 (by decide) hT.1, L96_k26, bo_f g1, fa_b_f, if_pos (by decide), T112 (by decide) hT.1, L96_k46, bo_f g2, fa_b_f, if_pos (by decide), T112 (by decide) hT.1, L96_k66, bo_f g3, fa_b_f, if_pos (by decide), hT.1.2.2.1.2.2.2, L78_0, L96_k89, zg_pos (by decide)]
/-- names -/
def zNm (L : Int → Int) (m : Int) (E : Nat → Int → Int) : Prop := E 1 3 = m ∧ ∀ i, 0 ≤ i → i < m → E 4 i = L i ∧ 0 ≤ L i ∧ L i < 1099511627776
theorem T95_loop {L : Int → Int} {m c : Int} (hm : 0 ≤ m ∧ m < 10) (hL : zNm L m E) (hc : E 2 7 = c) (hc2 : 0 ≤ c ∧ c < 1099511627776) : ∀ (j : Nat) (i : Int), 0 ≤ i → i + j = m → ∃ j1, zf_ev X (d + 2) 95 (33, [vR 1, vI i], [], zH t p q E) = if fa_any (fun i => decide (L i = c)) j i = true then zf_k X (d + 2) 95 67 [vR 1, vI j1] [] (zf_ev X (d + 1) 78 (0, [vR 1, vI 3, vI (E 2 5)], [], zH t p q E)) else zf_k X (d + 2) 95 119 [vR 1, vI j1] [] (zf_ev X (d + 1) 109 (0, [vR 2], [], zH t p q (zu (zu E 4 m c) 1 3 (m + 1)))) := by
  intro j
  induction j with
  | zero =>
    intro i h1 h2
    refine ⟨i, ?_⟩
    have e : fa_any (fun i => decide (L i = c)) 0 i = false := rfl
    rw [e, if_neg (by decide : ¬ (false = true)), L95_33]
    simp (disch := omega) only [n32_id, zg_pos, if_pos, if_neg, zu_same, zu_ne, if_true, if_false, ne_eq, not_true_eq_false, not_false_eq_true, true_or, or_true, true_and, and_true, zg_true, fa_b_f, fa_b_t, hL.1, hc]
    try rfl
  | succ j ih =>
    intro i h1 h2
    have hi := hL.2 i h1 (by omega)
    have e : fa_any (fun i => decide (L i = c)) (j + 1) i = (decide (L i = c) || fa_any (fun i => decide (L i = c)) j (i + 1)) := rfl
    have hz := zm_lcmp_e (a := L i) (b := c) (by omega) (by omega) (by omega) (by omega)
    by_cases g : L i = c
    · refine ⟨i, ?_⟩
      rw [L95_33, hL.1, if_neg (by rw [n32_id (by omega) (by omega), n32_id (by omega) (by omega)]; omega), n32_id (z := i) (by omega) (by omega), zg_pos (by omega), hi.1, hc, if_neg (fun h => h (hz.mpr g)), e, decide_eq_true g, Bool.true_or, if_pos rfl]
    · obtain ⟨j1, f1⟩ := ih (i + 1) (by omega) (by omega)
      refine ⟨j1, ?_⟩
      rw [L95_33, hL.1, if_neg (by rw [n32_id (by omega) (by omega), n32_id (by omega) (by omega)]; omega), n32_id (z := i) (by omega) (by omega), zg_pos (by omega), hi.1, hc, if_pos (fun h => g (hz.mp h)), e, decide_eq_false g, Bool.false_or]
      exact f1
/-- what a name leaves -/
def zFN (E F : Nat → Int → Int) : Prop := ∀ x y, (x ≠ 2 ∨ y < 3) → (x ≠ 1 ∨ y < 3 ∨ y = 4) → x ≠ 4 → F x y = E x y
theorem T95 {L : Int → Int} {m : Int} (hm : 0 ≤ m ∧ m < 10) (hL : zNm L m E) (hT : zT0 B n k E) : ∃ F, zf_ev X (d + 2) 95 (0, [vR 1, vJ], [], zH t p q E) = some (some [vI (ps_b (ps_M B n L m (.inr k)))], zH t p q F) ∧ zS1 B n (ps_M B n L m (.inr k)) F ∧ (∀ k2, ps_M B n L m (.inr k) = .inr k2 → zNm (pv_M B n L m (.inr k)) (m + 1) F) ∧ zFN E F := by
  have hk := tk_kc_r (t := tk_k B n k)
  have hb : ∀ x, ∃ F, zf_k X (d + 2) 95 27 [vR 1, x] [] (zf_ev X (d + 1) 78 (0, [vR 1, vI 1, vI (E 2 5)], [], zH t p q E)) = some (some [vI 0], zH t p q F) ∧ zS1 B n (.inl (1, tk_a B n k)) F ∧ zFN E F := by
    intro x
    refine ⟨zu (zu E 1 8 1) 1 9 (tk_a B n k), ?_, ⟨by rw [zu_ne (by omega), zu_same], zu_same⟩, fun x y u v _ => by rw [zu_ne (by omega), zu_ne (by omega)]⟩
    rw [hT.1.2.2.1.2.2.2, L78_0, L95_k27, zg_pos (by decide)]
  by_cases g : tk_k B n k = 2
  · have h4 : E 2 4 = 1 := by rw [hT.1.2.2.1.2.2.1, tk_kc_1.mpr g]
    by_cases g1 : tk_ls B n k = 0
    · have hc := hT.1.2.2.2.2 g
      have hcr := tk_c_r (B := B) hT.1.2.1.2 g
      obtain ⟨j1, e⟩ := T95_loop (X := X) (d := d) (t := t) (p := p) (q := q) hm hL hc hcr m.toNat 0 (by omega) (by omega)
      have hs : ps_M B n L m (.inr k) = (if fa_any (fun i => decide (L i = tk_c B n k)) m.toNat 0 = true then .inl (3, tk_a B n k) else .inr (tk_e B n k)) := if_neg (by omega)
      have e0 : zf_ev X (d + 2) 95 (0, [vR 1, vJ], [], zH t p q E) = zf_ev X (d + 2) 95 (33, [vR 1, vI 0], [], zH t p q E) := by
        rw [L95_0, h4, if_neg (fun h => h rfl), T80 hT.1, L95_k12, g1, if_pos (by decide)]
      by_cases g2 : fa_any (fun i => decide (L i = tk_c B n k)) m.toNat 0 = true
      · rw [if_pos g2] at hs e
        rw [hs, ps_b_l]
        refine ⟨zu (zu E 1 8 3) 1 9 (tk_a B n k), ?_, ⟨by rw [zu_ne (by omega), zu_same], zu_same⟩, fun k2 h => (by cases h), fun x y u v _ => by rw [zu_ne (by omega), zu_ne (by omega)]⟩
        rw [e0, e, hT.1.2.2.1.2.2.2, L78_0, L95_k67, zg_pos (by decide)]
      · rw [if_neg g2] at hs e
        obtain ⟨F, f1, f2, f3⟩ := T109n (X := X) (d := d) (t := t) (p := p) (q := q) (E := zu (zu E 4 m (tk_c B n k)) 1 3 (m + 1)) (hT.1.fr (fun a b u => by rw [zu_ne (by omega), zu_ne (by omega)]))
        rw [hs, ps_b_r]
        refine ⟨F, ?_, ⟨f2, by rw [f3 _ _ (by omega), zu_ne (by omega), zu_ne (by omega)]; exact hT.2⟩, fun k2 _ => ⟨by rw [f3 _ _ (by omega), zu_same], fun i u v => ?_⟩, fun x y u v w => by rw [f3 x y u, zu_ne (by omega), zu_ne (by omega)]⟩
        · rw [e0, e, f1, L95_k119]
        · rw [f3 _ _ (by omega), zu_ne (by omega)]
          show zu E 4 m (tk_c B n k) 4 i = pu L m (tk_c B n k) i ∧ 0 ≤ pu L m (tk_c B n k) i ∧ pu L m (tk_c B n k) i < 1099511627776
          by_cases e : i = m
          · rw [e, zu_same, pu_s]
            exact ⟨rfl, hcr⟩
          · rw [zu_ne (Or.inr e), pu_n e]
            exact hL.2 i u (by omega)
    · have hr := tk_ls_r (B := B) (n := n) (k := k)
      have hs : ps_M B n L m (.inr k) = .inl (1, tk_a B n k) := if_pos (Or.inr g1)
      obtain ⟨F, f1, f2, f3⟩ := hb vJ
      rw [hs, ps_b_l]
      refine ⟨F, ?_, f2, fun k2 h => (by cases h), f3⟩
      rw [L95_0, h4, if_neg (fun h => h rfl), T80 hT.1, L95_k12, if_neg (by rw [n32_id (by omega) (by omega)]; exact g1), f1]
  · have g2 := mt tk_kc_1.mp g
    have hs : ps_M B n L m (.inr k) = .inl (1, tk_a B n k) := if_pos (Or.inl g)
    obtain ⟨F, f1, f2, f3⟩ := hb vJ
    rw [hs, ps_b_l]
    refine ⟨F, ?_, f2, fun k2 h => (by cases h), f3⟩
    rw [L95_0, hT.1.2.2.1.2.2.1, if_pos (by rw [n32_id (by omega) (by omega)]; exact g2), f1]
/-- the draft hall by its cells -/
def zHC (f : Int → Int) (E : Nat → Int → Int) (o : Nat) : Prop := (E o 9 = f 0 ∧ E o 10 = f 1 ∧ E o 11 = f 2 ∧ E o 12 = f 3 ∧ E o 13 = f 4 ∧ E o 14 = f 5 ∧ E o 15 = f 6) ∧ E 1 4 = f 7 ∧
  (∀ r, 0 ≤ r → r < 7 → E (o + 1) (18 + r) = f (8 + r) ∧ E 5 r = f (15 + r)) ∧ (∀ s, 0 ≤ s → s < 4 → E (o + 1) (25 + s) = f (22 + 2 * s) ∧ E (o + 1) (29 + s) = f (22 + 2 * s + 1)) ∧
  (∀ m, 0 ≤ m → m < 6 → E (o + 1) m = f (30 + 5 * m + 1) ∧ E (o + 1) (6 + m) = f (30 + 5 * m) ∧ E (o + 1) (12 + m) = f (30 + 5 * m + 2)) ∧ (∀ c, 33 ≤ c → c < 39 → E (o + 1) c = 0) ∧
  (∀ m, 0 ≤ m → m < f 4 → E (o + 2) m = f (30 + 5 * m + 3) ∧ E (o + 3) m = f (30 + 5 * m + 4)) ∧ (∀ i, 0 ≤ i → i < f 5 → E (o + 4) i = f (60 + 2 * i) ∧ E (o + 5) i = f (60 + 2 * i + 1)) ∧
  (∀ i, 0 ≤ i → i < f 6 → E (o + 6) i = f (66 + 3 * i) ∧ E (o + 7) i = f (66 + 3 * i + 1) ∧ E (o + 8) i = f (66 + 3 * i + 2))
theorem T28g (ho : zo o) {C R : Int → Int} {N c r : Int} (hN : 0 ≤ N ∧ N ≤ 4) (h0 : E o 12 = N) (hc : -1000 ≤ c ∧ c ≤ 1000) (hr : -1000 ≤ r ∧ r ≤ 1000) (h1 : ∀ s, 0 ≤ s → s < N → E (o + 1) (25 + s) = C s ∧ 0 ≤ C s ∧ C s ≤ 1000) (h2 : ∀ s, 0 ≤ s → s < N → E (o + 1) (29 + s) = R s ∧ 0 ≤ R s ∧ R s ≤ 1000) : ∀ (k : Nat) (i : Int), 0 ≤ i → i + k = N → zf_ev X d 28 (2, [vR o, vI c, vI r, vI i], [], zH t p q E) = some (some [vI (fa_b (fa_any (fun s => decide (C s = c ∧ R s = r)) k i))], zH t p q E) := by
  intro k
  induction k with
  | zero =>
    intro i g1 g2
    rw [L28_2 ho]
    simp (disch := omega) only [n32_id, zg_pos, if_pos, if_neg, zu_same, zu_ne, if_true, if_false, ne_eq, not_true_eq_false, not_false_eq_true, true_or, or_true, true_and, and_true, zg_true, fa_b_f, fa_b_t, h0]
    rfl
  | succ k ih =>
    intro i g1 g2
    have ih2 := ih (i + 1) (by omega) (by omega)
    have c1 := h1 i g1 (by omega)
    have c2 := h2 i g1 (by omega)
    rw [L28_2 ho]
    simp (disch := omega) only [n32_id, zg_pos, if_pos, if_neg, zu_same, zu_ne, if_true, if_false, ne_eq, not_true_eq_false, not_false_eq_true, true_or, or_true, true_and, and_true, zg_true, fa_b_f, fa_b_t, h0, c1.1, c2.1, fa_any]
    by_cases q1 : C i = c
    · by_cases q2 : R i = r
      · simp [q1, q2, fa_b]
      · simp [q1, q2, ih2]
    · simp [q1, ih2]
theorem T27g (ho : zo o) {C R : Int → Int} {N c r : Int} (hN : 0 ≤ N ∧ N ≤ 3) (h0 : E o 14 = N) (hc : -1000 ≤ c ∧ c ≤ 1000) (hr : -1000 ≤ r ∧ r ≤ 1000) (h1 : ∀ s, 0 ≤ s → s < N → E (o + 4) s = C s ∧ 0 ≤ C s ∧ C s ≤ 1000) (h2 : ∀ s, 0 ≤ s → s < N → E (o + 5) s = R s ∧ 0 ≤ R s ∧ R s ≤ 1000) : ∀ (k : Nat) (i : Int), 0 ≤ i → i + k = N → zf_ev X d 27 (2, [vR o, vI c, vI r, vI i], [], zH t p q E) = some (some [vI (fa_b (fa_any (fun s => decide (C s = c ∧ R s = r)) k i))], zH t p q E) := by
  intro k
  induction k with
  | zero =>
    intro i g1 g2
    rw [L27_2 ho]
    simp (disch := omega) only [n32_id, zg_pos, if_pos, if_neg, zu_same, zu_ne, if_true, if_false, ne_eq, not_true_eq_false, not_false_eq_true, true_or, or_true, true_and, and_true, zg_true, fa_b_f, fa_b_t, h0]
    rfl
  | succ k ih =>
    intro i g1 g2
    have ih2 := ih (i + 1) (by omega) (by omega)
    have c1 := h1 i g1 (by omega)
    have c2 := h2 i g1 (by omega)
    rw [L27_2 ho]
    simp (disch := omega) only [n32_id, zg_pos, if_pos, if_neg, zu_same, zu_ne, if_true, if_false, ne_eq, not_true_eq_false, not_false_eq_true, true_or, or_true, true_and, and_true, zg_true, fa_b_f, fa_b_t, h0, c1.1, c2.1, fa_any]
    by_cases q1 : C i = c
    · by_cases q2 : R i = r
      · simp [q1, q2, fa_b]
      · simp [q1, q2, ih2]
    · simp [q1, ih2]
end CS

/-! undoing and images, both sides -/
theorem zcp_ne {E : Nat → Int → Int} {a b x : Nat} {sp dp n k : Int} (h : x ≠ b) : zcp E a sp b dp n x k = E x k := if_neg (fun z => h z.1)
theorem zcp_in {E : Nat → Int → Int} {a b : Nat} {sp dp n k : Int} (h1 : dp ≤ k) (h2 : k < dp + n) : zcp E a sp b dp n b k = E a (sp + (k - dp)) := if_pos ⟨rfl, h1, h2⟩
theorem zcp_out {E : Nat → Int → Int} {a b : Nat} {sp dp n k : Int} (h : k < dp ∨ dp + n ≤ k) : zcp E a sp b dp n b k = E b k := if_neg (fun z => by have := z.2; omega)
def zpush (S : Int → Fin 65537) (U : Int → Int → Fin 65537) : Int → Int → Fin 65537 := fun j => if j = 0 then S else U (j - 1)
def zy (y : Int) : Int := if 16 < y + 1 then 16 else y + 1
section PA
variable {X : Nat × (Nat → Int)} {d : Nat} {t : List (Nat × Nat)} {p q : Nat} {E : Nat → Int → Int} {V : Int → Fin 65537} {U T : Int → Int → Fin 65537} {S : Int → Fin 65537} {y im n : Int}
theorem T59 {o : Nat} (ho : zo o) (h : zPC U T E y im) (hy : 0 ≤ y ∧ y ≤ 16) (hS : ∀ c, 0 ≤ c → c < 39 → E (o + 1) c = ((S (zSg c)).val : Int)) : ∃ F, zf_ev X d 59 (0, [vR 6, vR (o + 1)], [], zH t p q E) = some (some [], zH t p q F) ∧ zPC (zpush S U) T F (zy y) im ∧ (∀ a9 b9, a9 ≠ 6 → a9 ≠ 7 → F a9 b9 = E a9 b9) := by
  obtain ⟨⟨h1, h2⟩, h3, h4, h5⟩ := h
  have ho2 : o = 40 ∨ o = 50 := ho
  have e1 : (E 6 2 + 1).tmod 16 = (E 6 2 + 1) % 16 := Int.tmod_eq_emod_of_nonneg (by omega)
  refine ⟨zu (zu (zcp E (o + 1) 0 7 (E 6 2 * 39) 39) 6 2 ((E 6 2 + 1) % 16)) 6 3 (zy y), ?_, ⟨⟨zu_same, ?_⟩, ?_, fun j a b c u v => ?_, fun i a b c u v => ?_⟩, fun a b y1 y2 => ?_⟩
  · rw [L59_0 (zsh_h1 ho)]
    unfold zy
    by_cases g : 16 < y + 1
    · simp (disch := omega) only [n32_id, zg_pos, if_pos, if_neg, zu_same, zu_ne, if_true, if_false, ne_eq, not_true_eq_false, not_false_eq_true, true_or, or_true, true_and, and_true, zg_true, fa_b_f, fa_b_t, h1, zcp_ne, e1]
    · simp (disch := omega) only [n32_id, zg_pos, if_pos, if_neg, zu_same, zu_ne, if_true, if_false, ne_eq, not_true_eq_false, not_false_eq_true, true_or, or_true, true_and, and_true, zg_true, fa_b_f, fa_b_t, h1, zcp_ne, e1]
  · rw [zu_ne (by omega), zu_ne (by omega), zcp_ne (by omega)]
    exact h2
  · rw [zu_ne (by omega), zu_same]
    omega
  · rw [zu_ne (by omega), zu_ne (by omega), zu_ne (by omega), zu_same]
    have hj : j < 16 := by unfold zy at b; split at b <;> omega
    have hj2 : j ≤ y := by unfold zy at b; split at b <;> omega
    unfold zpush
    by_cases g : j = 0
    · subst g
      rw [if_pos rfl, show ((E 6 2 + 1) % 16 + 15 - 0) % 16 = E 6 2 by omega, zcp_in (by omega) (by omega), show 0 + (E 6 2 * 39 + c - E 6 2 * 39) = c by omega]
      exact hS c u v
    · rw [if_neg g, show ((E 6 2 + 1) % 16 + 15 - j) % 16 = (E 6 2 + 15 - (j - 1)) % 16 by omega, zcp_out (by omega)]
      exact h4 (j - 1) (by omega) (by omega) c u v
  · rw [zu_ne (by omega), zu_ne (by omega), zcp_ne (by omega)]
    exact h5 i a b c u v
  · rw [zu_ne (by omega), zu_ne (by omega), zcp_ne y2]
theorem T60 {o : Nat} (ho : zo o) (h : zPC U T E y im) (hy : 1 ≤ y ∧ y ≤ 16) : ∃ F, zf_ev X d 60 (0, [vR 6, vR (o + 1)], [], zH t p q E) = some (some [], zH t p q F) ∧ zPC (fun j => U (j + 1)) T F (y - 1) im ∧ (∀ c, 0 ≤ c → c < 39 → F (o + 1) c = (((U 0) (zSg c)).val : Int)) ∧ (∀ a9 b9, a9 ≠ 6 → a9 ≠ o + 1 → F a9 b9 = E a9 b9) := by
  obtain ⟨⟨h1, h2⟩, h3, h4, h5⟩ := h
  have ho2 : o = 40 ∨ o = 50 := ho
  have e1 : (E 6 2 + 16 - 1).tmod 16 = (E 6 2 + 15) % 16 := by
    rw [Int.tmod_eq_emod_of_nonneg (by omega)]
    omega
  have hb : 0 ≤ (E 6 2 + 15) % 16 ∧ (E 6 2 + 15) % 16 < 16 := by omega
  refine ⟨zcp (zu (zu E 6 2 ((E 6 2 + 15) % 16)) 6 3 (y - 1)) 7 ((E 6 2 + 15) % 16 * 39) (o + 1) 0 39, ?_, ⟨⟨?_, ?_⟩, ?_, fun j a b c u v => ?_, fun i a b c u v => ?_⟩, fun c u v => ?_, fun a b y1 y2 => ?_⟩
  · rw [L60_0 (zsh_h1 ho)]
    simp (disch := omega) only [n32_id, zg_pos, if_pos, if_neg, zu_same, zu_ne, if_true, if_false, ne_eq, not_true_eq_false, not_false_eq_true, true_or, or_true, true_and, and_true, zg_true, fa_b_f, fa_b_t, h1, e1]
  · rw [zcp_ne (by omega), zu_same]
  · rw [zcp_ne (by omega), zu_ne (by omega), zu_ne (by omega)]
    exact h2
  · rw [zcp_ne (by omega), zu_ne (by omega), zu_same]
    exact hb
  · rw [zcp_ne (by omega), zcp_ne (by omega), zu_ne (by omega), zu_ne (by omega), zu_ne (by omega), zu_same, show ((E 6 2 + 15) % 16 + 15 - j) % 16 = (E 6 2 + 15 - (j + 1)) % 16 by omega]
    exact h4 (j + 1) (by omega) (by omega) c u v
  · rw [zcp_ne (by omega), zu_ne (by omega), zu_ne (by omega)]
    exact h5 i a b c u v
  · rw [zcp_in (by omega) (by omega), zu_ne (by omega), zu_ne (by omega)]
    have := h4 0 (by omega) (by omega) c u v
    rw [show E 6 2 + 15 - 0 = E 6 2 + 15 by omega] at this
    rw [show (E 6 2 + 15) % 16 * 39 + (c - 0) = (E 6 2 + 15) % 16 * 39 + c by omega]
    exact this
  · rw [zcp_ne y2, zu_ne (Or.inl y1), zu_ne (Or.inl y1)]
def zput (T : Int → Int → Fin 65537) (im : Int) (S : Int → Fin 65537) : Int → Int → Fin 65537 := fun i => if i = im then S else T i
theorem T62 {o : Nat} (ho : zo o) (h : zPC U T E y im) (hi : 0 ≤ im ∧ im < 3) (hS : ∀ c, 0 ≤ c → c < 39 → E (o + 1) c = ((S (zSg c)).val : Int)) : ∃ F, zf_ev X d 62 (0, [vR 6, vR (o + 1)], [], zH t p q E) = some (some [vI im], zH t p q F) ∧ zPC U (zput T im S) F y (im + 1) ∧ (∀ a9 b9, a9 ≠ 6 → a9 ≠ 8 → F a9 b9 = E a9 b9) := by
  obtain ⟨⟨h1, h2⟩, h3, h4, h5⟩ := h
  have ho2 : o = 40 ∨ o = 50 := ho
  refine ⟨zu (zcp E (o + 1) 0 8 (im * 39) 39) 6 4 (im + 1), ?_, ⟨⟨?_, zu_same⟩, ?_, fun j a b c u v => ?_, fun i a b c u v => ?_⟩, fun a b y1 y2 => ?_⟩
  · rw [L62_0 (zsh_h1 ho)]
    simp (disch := omega) only [n32_id, zg_pos, if_pos, if_neg, zu_same, zu_ne, if_true, if_false, ne_eq, not_true_eq_false, not_false_eq_true, true_or, or_true, true_and, and_true, zg_true, fa_b_f, fa_b_t, h2, zcp_ne]
    rw [show im + 1 - 1 = im by omega]
  · rw [zu_ne (by omega), zcp_ne (by omega)]
    exact h1
  · rw [zu_ne (by omega), zcp_ne (by omega)]
    exact h3
  · rw [zu_ne (by omega), zcp_ne (by omega), zu_ne (by omega), zcp_ne (by omega)]
    exact h4 j a b c u v
  · rw [zu_ne (by omega)]
    unfold zput
    by_cases g : i = im
    · rw [if_pos g, g, zcp_in (by omega) (by omega), show 0 + (im * 39 + c - im * 39) = c by omega]
      exact hS c u v
    · rw [if_neg g, zcp_out (by omega)]
      exact h5 i a (by omega) c u v
  · rw [zu_ne (by omega), zcp_ne y2]
theorem T63 {o : Nat} (ho : zo o) (h : zPC U T E y im) {i : Int} (hi : 0 ≤ i ∧ i < im) (him : im ≤ 3) : ∃ F, zf_ev X d 63 (0, [vR 6, vI i, vR (o + 1)], [], zH t p q E) = some (some [], zH t p q F) ∧ zPC U T F 0 im ∧ (∀ c, 0 ≤ c → c < 39 → F (o + 1) c = (((T i) (zSg c)).val : Int)) ∧ (∀ a9 b9, a9 ≠ 6 → a9 ≠ o + 1 → F a9 b9 = E a9 b9) := by
  obtain ⟨⟨h1, h2⟩, h3, h4, h5⟩ := h
  have ho2 : o = 40 ∨ o = 50 := ho
  refine ⟨zu (zcp E 8 (i * 39) (o + 1) 0 39) 6 3 0, ?_, ⟨⟨zu_same, ?_⟩, ?_, fun j a b => by omega, fun i a b c u v => ?_⟩, fun c u v => ?_, fun a b y1 y2 => ?_⟩
  · rw [L63_0 (zsh_h1 ho)]
    simp (disch := omega) only [n32_id, zg_pos, if_pos, if_neg, zu_same, zu_ne, if_true, if_false, ne_eq, not_true_eq_false, not_false_eq_true, true_or, or_true, true_and, and_true, zg_true, fa_b_f, fa_b_t]
  · rw [zu_ne (by omega), zcp_ne (by omega)]
    exact h2
  · rw [zu_ne (by omega), zcp_ne (by omega)]
    exact h3
  · rw [zu_ne (by omega), zcp_ne (by omega)]
    exact h5 i a b c u v
  · rw [zu_ne (by omega), zcp_in (by omega) (by omega), show i * 39 + (c - 0) = i * 39 + c by omega]
    exact h5 i hi.1 hi.2 c u v
  · rw [zu_ne (Or.inl y1), zcp_ne y2]
/-! the reference's -/
def zshf (E : Nat → Int → Int) (i : Int) : Nat → Int → Int := fun a b => if a = 66 ∧ i ≤ b ∧ b < 585 then E 66 (b + 39) else E a b
theorem T302_loop : ∀ (k : Nat) (i : Int) (E : Nat → Int → Int), 0 ≤ i → i + k = 585 → ∃ j1, zf_ev X (d + 1) 302 (11, [vR 60, vI i], [], zH t p q E) = zf_ev X (d + 1) 302 (11, [vR 60, j1], [], zH t p q (zshf E i)) ∧ j1 = vI 585 := by
  intro k
  induction k with
  | zero =>
    intro i E h1 h2
    refine ⟨vI i, ?_, by rw [show i = 585 by omega]⟩
    have e : zshf E i = E := by
      funext a b
      unfold zshf
      rw [if_neg (by omega)]
    rw [e]
  | succ k ih =>
    intro i E h1 h2
    obtain ⟨j1, e1, e2⟩ := ih (i + 1) (zu E 66 i (E 66 (i + 39))) (by omega) (by omega)
    refine ⟨j1, ?_, e2⟩
    have e : zshf (zu E 66 i (E 66 (i + 39))) (i + 1) = zshf E i := by
      funext a b
      unfold zshf
      by_cases g : a = 66 ∧ i + 1 ≤ b ∧ b < 585
      · rw [if_pos g, if_pos ⟨g.1, by omega, g.2.2⟩, zu_ne (by omega)]
      · rw [if_neg g]
        by_cases g2 : a = 66 ∧ b = i
        · rw [if_pos ⟨g2.1, by omega, by omega⟩, g2.1, g2.2, zu_same]
        · rw [zu_ne (by omega), if_neg (by omega)]
    rw [e] at e1
    rw [L302_11]
    simp (disch := omega) only [n32_id, zg_pos, if_pos, if_neg, zu_same, zu_ne, if_true, if_false, ne_eq, not_true_eq_false, not_false_eq_true, true_or, or_true, true_and, and_true, zg_true, fa_b_f, fa_b_t]
    exact e1
theorem T302 (h : zPM U T E y im) (hy : 0 ≤ y ∧ y ≤ 16) (hS : ∀ k, 0 ≤ k → k < 39 → E 65 k = ((S (k)).val : Int)) : ∃ F, zf_ev X (d + 1) 302 (0, [vR 60, vJ], [], zH t p q E) = some (some [], zH t p q F) ∧ zPM (zpush S U) T F (zy y) im ∧ (∀ a9 b9, (a9 ≠ 60 ∨ b9 ≠ 20) → a9 ≠ 66 → F a9 b9 = E a9 b9) := by
  obtain ⟨⟨h1, h2⟩, h3, h4⟩ := h
  by_cases g : y = 16
  · obtain ⟨j1, e1, e2⟩ := T302_loop (X := X) (d := d) (t := t) (p := p) (q := q) 585 0 E (by omega) (by omega)
    subst e2
    have s20 : zshf E 0 60 20 = 16 := by unfold zshf; rw [if_neg (by omega), h1, g]
    refine ⟨zu (zfill (zu (zshf E 0) 60 20 15) 66 585 624 (fun x => zshf E 0 65 (x - 585))) 60 20 16, ?_, ⟨⟨?_, ?_⟩, fun j a b k u v => ?_, fun i a b k u v => ?_⟩, fun a b y1 y2 => ?_⟩
    · rw [L302_0]
      simp (disch := omega) only [n32_id, zg_pos, if_pos, if_neg, zu_same, zu_ne, if_true, if_false, ne_eq, not_true_eq_false, not_false_eq_true, true_or, or_true, true_and, and_true, zg_true, fa_b_f, fa_b_t, h1]
      rw [e1, L302_11]
      simp (disch := omega) only [n32_id, zg_pos, if_pos, if_neg, zu_same, zu_ne, if_true, if_false, ne_eq, not_true_eq_false, not_false_eq_true, true_or, or_true, true_and, and_true, zg_true, fa_b_f, fa_b_t, s20]
      rw [show (16 : Int) - 1 = 15 from rfl, show (39 : Int) * 15 = 585 from rfl, T183 (a := 65) (b := 66) (n := 39) (m := 624) rfl rfl (by omega) (by omega) (by omega) (by omega) (by omega) (by omega) (by omega) (by omega), L302_k67]
      have e3 : zfill (zu (zshf E 0) 60 20 15) 66 585 (585 + 39) (fun x => zu (zshf E 0) 60 20 15 65 (0 + (x - 585))) = zfill (zu (zshf E 0) 60 20 15) 66 585 624 (fun x => zshf E 0 65 (x - 585)) := by
        congr 1
        funext x
        rw [zu_ne (by omega), Int.zero_add]
      rw [e3, zfill_ne (by omega), zu_same]
      rfl
    · rw [zu_same]
      unfold zy
      rw [if_pos (by omega)]
    · rw [zu_ne (by omega), zfill_ne (by omega), zu_ne (by omega)]
      unfold zshf
      rw [if_neg (by omega)]
      exact h2
    · have ey : zy y = 16 := by unfold zy; rw [if_pos (by omega)]
      rw [ey] at b ⊢
      rw [zu_ne (by omega)]
      unfold zpush
      by_cases g0 : j = 0
      · rw [if_pos g0, g0, zfill_in (by omega) (by omega), show 39 * (16 - 1 - 0) + k - 585 = k by omega]
        unfold zshf
        rw [if_neg (by omega)]
        exact hS k u v
      · rw [if_neg g0]
        unfold zfill
        rw [if_neg (by omega), zu_ne (by omega)]
        unfold zshf
        rw [if_pos ⟨rfl, by omega, by omega⟩, show 39 * (16 - 1 - j) + k + 39 = 39 * (y - 1 - (j - 1)) + k by omega]
        exact h3 (j - 1) (by omega) (by omega) k u v
    · rw [zu_ne (by omega), zfill_ne (by omega), zu_ne (by omega)]
      unfold zshf
      rw [if_neg (by omega)]
      exact h4 i a b k u v
    · rw [zu_ne y1, zfill_ne y2, zu_ne y1]
      unfold zshf
      rw [if_neg (fun z => y2 z.1)]
  · have ey : zy y = y + 1 := by unfold zy; rw [if_neg (by omega)]
    refine ⟨zu (zfill E 66 (39 * y) (39 * y + 39) (fun x => E 65 (0 + (x - 39 * y)))) 60 20 (y + 1), ?_, ⟨⟨?_, ?_⟩, fun j a b k u v => ?_, fun i a b k u v => ?_⟩, fun a b y1 y2 => ?_⟩
    · rw [L302_0]
      simp (disch := omega) only [n32_id, zg_pos, if_pos, if_neg, zu_same, zu_ne, if_true, if_false, ne_eq, not_true_eq_false, not_false_eq_true, true_or, or_true, true_and, and_true, zg_true, fa_b_f, fa_b_t, h1]
      rw [T183 (a := 65) (b := 66) (n := 39) (m := 624) rfl rfl (by omega) (by omega) (by omega) (by omega) (by omega) (by omega) (by omega) (by omega), L302_k67, zfill_ne (by omega), h1]
    · rw [zu_same, ey]
    · rw [zu_ne (by omega), zfill_ne (by omega)]
      exact h2
    · rw [ey] at b ⊢
      rw [zu_ne (by omega)]
      unfold zpush
      by_cases g0 : j = 0
      · rw [if_pos g0, g0, zfill_in (by omega) (by omega), show 0 + (39 * (y + 1 - 1 - 0) + k - 39 * y) = k by omega]
        exact hS k u v
      · rw [if_neg g0]
        unfold zfill
        rw [if_neg (by omega), show 39 * (y + 1 - 1 - j) + k = 39 * (y - 1 - (j - 1)) + k by omega]
        exact h3 (j - 1) (by omega) (by omega) k u v
    · rw [zu_ne (by omega), zfill_ne (by omega)]
      exact h4 i a b k u v
    · rw [zu_ne y1, zfill_ne y2]
/-- how an act changes all of it -/
theorem zI.act {F H : Nat → Int → Int} {U' T' : Int → Int → Fin 65537} {y' im' : Int} (h : zI V U T E p q y im n) (hV : zV V) (hQ : zSt V S (n + 1)) (c1 : zC (zup V S) F p) (c2 : zPC U' T' F y' im') (c3 : F 0 10 = 0) (c4 : ∀ a b, (a < 9 ∨ 39 < a) → a ≠ 6 → a ≠ 7 → a ≠ 8 → a ≠ 49 → a ≠ 59 → a ≠ p + 1 → (a ≠ 0 ∨ b ≠ 10) → F a b = E a b)
    (r1 : zR (zup V S) H) (r2 : zPM U' T' H y' im') (r3 : H 60 11 = 0) (r4 : ∀ a b, (a < 65 ∨ 76 < a) → (a ≠ 60 ∨ b ≠ 0 ∧ b ≠ 11 ∧ b ≠ 20 ∧ b ≠ 21 ∧ b ≠ 37) → H a b = F a b)
    (hy : 0 ≤ y' ∧ y' ≤ 16) (hi : 0 ≤ im' ∧ im' ≤ 3) (hU : ∀ j, 0 ≤ j → j < y' → zSt V (U' j) (n + 1)) (hT : ∀ i, 0 ≤ i → i < im' → zSt V (T' i) (n + 1)) : zI (zup V S) U' T' H p q y' im' (n + 1) := by
  obtain ⟨i1, i2, i3, i4, i5, i6, i7⟩ := h
  have hp : zo p := i1.1
  have hp2 : p = 40 ∨ p = 50 := hp
  have h14 : E 60 14 = 1 := by
    rcases i1.2.2.2 with ⟨-, h⟩ | ⟨hz, -⟩
    · exact h
    · have := zG.no hz
      have := hV.spks
      omega
  have e0 : ∀ a b, a < 9 → a ≠ 6 → a ≠ 7 → a ≠ 8 → (a ≠ 0 ∨ b ≠ 10) → H a b = E a b := fun a b u1 u2 u3 u4 u5 => by rw [r4 a b (by omega) (by omega), c4 a b (by omega) u2 u3 u4 (by omega) (by omega) (by omega) u5]
  have e60 : ∀ b, b ≠ 0 → b ≠ 11 → b ≠ 20 → b ≠ 21 → b ≠ 37 → H 60 b = E 60 b := fun b u1 u2 u3 u4 u5 => by rw [r4 60 b (by omega) (by omega), c4 60 b (by omega) (by omega) (by omega) (by omega) (by omega) (by omega) (by omega) (by omega)]
  refine ⟨⟨hp, c1.fr (fun a b u v => r4 a b (by omega) (by omega)), r1, Or.inl ⟨hQ.1.V hV, by rw [e60 _ (by omega) (by omega) (by omega) (by omega) (by omega)]; exact h14⟩⟩, i2, ⟨⟨?_, ?_⟩, ?_, ?_⟩, i4.fr (e0 _ _ (by omega) (by omega) (by omega) (by omega) (by omega)) (e60 _ (by omega) (by omega) (by omega) (by omega) (by omega)) (fun b => ?_) (fun b => e0 _ _ (by omega) (by omega) (by omega) (by omega) (by omega)), c2.fr (fun a b u v => r4 a b (by omega) (by omega)), r2, hy, hi, Or.inl ⟨hQ.1.V hV, ?_, fun j a b => (hU j a b).up hV, fun i a b => (hT i a b).up hV⟩⟩
  · rw [r4 0 10 (by omega) (by omega), c3, r3]
  · rw [r4 0 10 (by omega) (by omega), c3]
    omega
  · rw [e0 _ _ (by omega) (by omega) (by omega) (by omega) (by omega), e60 _ (by omega) (by omega) (by omega) (by omega) (by omega)]
    exact i3.2.1
  · rw [e0 _ _ (by omega) (by omega) (by omega) (by omega) (by omega), e60 _ (by omega) (by omega) (by omega) (by omega) (by omega)]
    exact i3.2.2
  · rw [r4 61 b (by omega) (by omega), c4 61 b (by omega) (by omega) (by omega) (by omega) (by omega) (by omega) (by omega) (by omega)]
  · have e : ∀ k, 0 ≤ k → k < 39 → zst (zup V S) k = S k := fun k a b => zup_hi a b
    refine ⟨?_, ?_⟩
    · have hq := hQ.1.up (S := S) hV
      obtain ⟨q1, q2, q3, q4, q5, q6⟩ := hq
      have hk := (hQ.1.V hV).spks
      have hm := (hQ.1.V hV).mems
      have hr := (hQ.1.V hV).rows
      refine ⟨fun k a b => ?_, fun s a b => ?_, fun m a b => ?_, fun s x a b c dd g => ?_, fun s a b => ?_, ?_⟩
      · rw [e k a (by omega)]; exact q1 k a b
      · rw [e _ (by omega) (by omega), e _ (by omega) (by omega)]; exact q2 s a b
      · rw [e _ (by omega) (by omega), e _ (by omega) (by omega), e _ (by omega) (by omega)]; exact q3 m a b
      · rw [e _ (by omega) (by omega), e _ (by omega) (by omega), e _ (by omega) (by omega), e _ (by omega) (by omega)]; exact q4 s x a b c dd g
      · rw [e _ (by omega) (by omega), e _ (by omega) (by omega)]; exact q5 s a b
      · rw [sp_cb_c (c := fun r => decide (((S (r)).val : Int) = 7)) _ _ (fun j a b => by rw [e j (by omega) (by omega)])]
        exact q6
    · refine ⟨by rw [e 37 (by omega) (by omega)]; exact hQ.2.1, fun s a b => by rw [e _ (by omega) (by omega)]; exact hQ.2.2 s a b⟩
end PA

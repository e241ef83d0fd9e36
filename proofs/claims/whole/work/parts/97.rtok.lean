/-! the reference's tokens -/
def zBR (B : Int → Int) (n : Int) (E : Nat → Int → Int) : Prop := (0 ≤ n ∧ n ≤ 900) ∧ E 60 3 = n ∧ ∀ i, 0 ≤ i → i < n → (0 ≤ B i ∧ B i ≤ 255) ∧ E 61 i = B i
theorem zBR.fr {B : Int → Int} {n : Int} {E F : Nat → Int → Int} (h : zBR B n E) (h3 : F 60 3 = E 60 3) (hf : ∀ b, F 61 b = E 61 b) : zBR B n F := ⟨h.1, by rw [h3]; exact h.2.1, fun i a b => by rw [hf]; exact h.2.2 i a b⟩
def zTR (B : Int → Int) (n k : Int) (E : Nat → Int → Int) : Prop := zBR B n E ∧ (0 ≤ k ∧ k ≤ n) ∧ (E 60 4 = tk_a B n k ∧ E 60 5 = tk_e B n k ∧ E 60 6 = tk_k B n k) ∧ (tk_k B n k = 3 → E 60 7 = tk_v B n k) ∧ (tk_k B n k = 2 → E 60 8 = tk_e B n k - tk_a B n k ∧ ∀ i, 0 ≤ i → i < tk_e B n k - tk_a B n k → E 62 i = B (tk_a B n k + i))
theorem zTR.fr {B : Int → Int} {n k : Int} {E F : Nat → Int → Int} (h : zTR B n k E) (h6 : ∀ b, 3 ≤ b → b ≤ 8 → F 60 b = E 60 b) (hf : ∀ a b, a = 61 ∨ a = 62 → F a b = E a b) : zTR B n k F := by
  obtain ⟨h1, h2, ⟨h3, h4, h5⟩, h7, h8⟩ := h
  refine ⟨h1.fr (h6 _ (by omega) (by omega)) (fun b => hf _ _ (by omega)), h2, ⟨?_, ?_, ?_⟩, fun g => ?_, fun g => ⟨?_, fun i a b => ?_⟩⟩
  · rw [h6 _ (by omega) (by omega)]; exact h3
  · rw [h6 _ (by omega) (by omega)]; exact h4
  · rw [h6 _ (by omega) (by omega)]; exact h5
  · rw [h6 _ (by omega) (by omega)]; exact h7 g
  · rw [h6 _ (by omega) (by omega)]; exact (h8 g).1
  · rw [hf _ _ (by omega)]; exact (h8 g).2 i a b
def zFA (E F : Nat → Int → Int) : Prop := ∀ x y, (x ≠ 60 ∨ y < 4 ∨ 8 < y) → x ≠ 62 → F x y = E x y
theorem tk_k_r {B : Int → Int} {n k : Int} : 0 ≤ tk_k B n k ∧ tk_k B n k ≤ 59 := by
  unfold tk_k
  repeat' split
  all_goals omega
theorem tk_ch_r {B : Int → Int} {n : Int} {E : Nat → Int → Int} (h : zBR B n E) {i : Int} (h0 : 0 ≤ i) : -1 ≤ tk_ch B n i ∧ tk_ch B n i ≤ 255 ∧ (i < n → 0 ≤ tk_ch B n i) := by
  by_cases g : i < n
  · rw [tk_ch_b g]
    have := h.2.2 i h0 g
    omega
  · rw [tk_ch_n (by omega)]
    omega
section RT
variable {X : Nat × (Nat → Int)} {d : Nat} {t : List (Nat × Nat)} {p q : Nat} {E : Nat → Int → Int} {B : Int → Int} {n k : Int}
theorem T186 (hB : zBR B n E) {i : Int} (h0 : 0 ≤ i) (h1 : i ≤ 1000) : zf_ev X d 186 (0, [vR 60, vI i], [], zH t p q E) = some (some [vI (tk_ch B n i)], zH t p q E) := by
  have hn := hB.1
  rw [L186_0, hB.2.1]
  by_cases g : i < n
  · rw [if_neg (by rw [n32_id (by omega) (by omega), n32_id (by omega) (by omega)]; omega), n32_id (by omega) (by omega), zg_pos (by omega), (hB.2.2 i h0 g).2, tk_ch_b g]
  · rw [if_pos (by rw [n32_id (by omega) (by omega), n32_id (by omega) (by omega)]; omega), tk_ch_n (by omega)]
theorem T187 {c : Int} (h : -1 ≤ c ∧ c ≤ 255) : zf_ev X d 187 (0, [vI c], [], zH t p q E) = some (some [vI (fa_b (decide (97 ≤ c ∧ c ≤ 122)))], zH t p q E) := by
  rw [L187_0]
  by_cases g : 97 ≤ c ∧ c ≤ 122
  · rw [decide_eq_true g]
    simp (disch := omega) only [n32_id, zg_pos, if_pos, if_neg, zu_same, zu_ne, if_true, if_false, ne_eq, not_true_eq_false, not_false_eq_true, true_or, or_true, true_and, and_true, zg_true, fa_b_f, fa_b_t]
  · rw [decide_eq_false g]
    by_cases g2 : c < 97
    · simp (disch := omega) only [n32_id, zg_pos, if_pos, if_neg, zu_same, zu_ne, if_true, if_false, ne_eq, not_true_eq_false, not_false_eq_true, true_or, or_true, true_and, and_true, zg_true, fa_b_f, fa_b_t]
    · simp (disch := omega) only [n32_id, zg_pos, if_pos, if_neg, zu_same, zu_ne, if_true, if_false, ne_eq, not_true_eq_false, not_false_eq_true, true_or, or_true, true_and, and_true, zg_true, fa_b_f, fa_b_t]
theorem T188 {c : Int} (h : -1 ≤ c ∧ c ≤ 255) : zf_ev X d 188 (0, [vI c], [], zH t p q E) = some (some [vI (fa_b (decide (48 ≤ c ∧ c ≤ 57)))], zH t p q E) := by
  rw [L188_0]
  by_cases g : 48 ≤ c ∧ c ≤ 57
  · rw [decide_eq_true g]
    simp (disch := omega) only [n32_id, zg_pos, if_pos, if_neg, zu_same, zu_ne, if_true, if_false, ne_eq, not_true_eq_false, not_false_eq_true, true_or, or_true, true_and, and_true, zg_true, fa_b_f, fa_b_t]
  · rw [decide_eq_false g]
    by_cases g2 : c < 48
    · simp (disch := omega) only [n32_id, zg_pos, if_pos, if_neg, zu_same, zu_ne, if_true, if_false, ne_eq, not_true_eq_false, not_false_eq_true, true_or, or_true, true_and, and_true, zg_true, fa_b_f, fa_b_t]
    · simp (disch := omega) only [n32_id, zg_pos, if_pos, if_neg, zu_same, zu_ne, if_true, if_false, ne_eq, not_true_eq_false, not_false_eq_true, true_or, or_true, true_and, and_true, zg_true, fa_b_f, fa_b_t]
theorem T189_5 (hB : zBR B n E) {j2 j3 : ZV} : ∀ (j : Nat) (i : Int), 0 ≤ i → i + j = n → zf_ev X (d + 1) 189 (5, [vR 60, vI i, j2, j3], [], zH t p q E) = zf_k X (d + 1) 189 28 [vR 60, vI (tk_to (tk_s B n) n i), j2, j3] [] (zf_ev X d 186 (0, [vR 60, vI (tk_to (tk_s B n) n i)], [], zH t p q (zu E 60 4 (tk_to (tk_s B n) n i)))) := by
  have hn := hB.1
  intro j
  induction j with
  | zero =>
    intro i h1 h2
    have hc : tk_ch B n i = -1 := tk_ch_n (by omega)
    rw [L189_5, T186 hB h1 (by omega), L189_k7, hc, if_pos (by decide), tk_to_f (tk_s_n i (by omega))]
  | succ j ih =>
    intro i h1 h2
    have hr := tk_ch_r hB h1
    rw [L189_5, T186 hB h1 (by omega), L189_k7]
    by_cases g : tk_s B n i = true
    · have g1 : tk_ch B n i = 32 := of_decide_eq_true g
      rw [g1, if_neg (fun h => h rfl), tk_to_t g (by omega)]
      exact ih (i + 1) (by omega) (by omega)
    · have g1 : tk_ch B n i ≠ 32 := fun h => g (decide_eq_true h)
      rw [if_pos (by rw [n32_id (by omega) (by omega)]; exact g1), tk_to_f (bo_f g)]
theorem T189_67 {a : Int} (ha : 0 ≤ a) {j2 j3 : ZV} : ∀ (j : Nat) (i : Int) (E : Nat → Int → Int), zBR B n E → a ≤ i → i + j = n → E 60 8 = i - a → (∀ x, 0 ≤ x → x < i - a → x < 8 → E 62 x = B (a + x)) →
    ∃ F, zf_ev X (d + 1) 189 (67, [vR 60, vI i, j2, j3], [], zH t p q E) = some (some [], zH t p q F) ∧ F 60 5 = tk_to (tk_w B n) n i ∧ F 60 6 = (if tk_to (tk_w B n) n i - a ≤ 8 then 2 else 1) ∧ F 60 8 = tk_to (tk_w B n) n i - a ∧ (∀ x, 0 ≤ x → x < tk_to (tk_w B n) n i - a → x < 8 → F 62 x = B (a + x)) ∧ (∀ x y, (x ≠ 60 ∨ (y ≠ 5 ∧ y ≠ 6 ∧ y ≠ 8)) → x ≠ 62 → F x y = E x y) := by
  intro j
  induction j with
  | zero =>
    intro i E hB hai hj h8 hl
    have hn := hB.1
    have hc : tk_ch B n i = -1 := tk_ch_n (by omega)
    rw [tk_to_f (tk_w_n i (by omega))]
    refine ⟨zu (zu E 60 5 i) 60 6 (if i - a ≤ 8 then 2 else 1), ?_, by rw [zu_ne (by omega), zu_same], zu_same, by rw [zu_ne (by omega), zu_ne (by omega)]; exact h8, fun x u v w => by rw [zu_ne (by omega), zu_ne (by omega)]; exact hl x u v w, fun x y u v => by rw [zu_ne (by omega), zu_ne (by omega)]⟩
    rw [L189_67, T186 hB (by omega) (by omega), L189_k69, hc, T187 (by omega), L189_k72, show decide ((97 : Int) ≤ -1 ∧ (-1 : Int) ≤ 122) = false from rfl, fa_b_f, if_pos (by decide), zu_ne (by omega), h8]
    by_cases g : i - a ≤ 8
    · simp (disch := omega) only [n32_id, zg_pos, if_pos, if_neg, zu_same, zu_ne, if_true, if_false, ne_eq, not_true_eq_false, not_false_eq_true, true_or, or_true, true_and, and_true, zg_true, fa_b_f, fa_b_t]
    · simp (disch := omega) only [n32_id, zg_pos, if_pos, if_neg, zu_same, zu_ne, if_true, if_false, ne_eq, not_true_eq_false, not_false_eq_true, true_or, or_true, true_and, and_true, zg_true, fa_b_f, fa_b_t]
  | succ j ih =>
    intro i E hB hai hj h8 hl
    have hn := hB.1
    have hr := tk_ch_r hB (i := i) (by omega)
    by_cases g : tk_w B n i = true
    · have g1 : decide (97 ≤ tk_ch B n i ∧ tk_ch B n i ≤ 122) = true := g
      rw [tk_to_t g (by omega)]
      by_cases g8 : i - a < 8
      · obtain ⟨F, f1, f2, f3, f4, f5, f6⟩ := ih (i + 1) (zu (zu E 62 (i - a) (tk_ch B n i)) 60 8 (i - a + 1)) (hB.fr (by rw [zu_ne (by omega), zu_ne (by omega)]) (fun b => by rw [zu_ne (by omega), zu_ne (by omega)])) (by omega) (by omega) (by rw [zu_same]; omega) (fun x u v w => by
          rw [zu_ne (by omega)]
          by_cases e : x = i - a
          · rw [e, zu_same, tk_ch_b (by omega), show a + (i - a) = i by omega]
          · rw [zu_ne (by omega)]
            exact hl x u (by omega) w)
        refine ⟨F, ?_, f2, f3, f4, f5, fun x y u v => by rw [f6 x y u v, zu_ne (by omega), zu_ne (by omega)]⟩
        rw [L189_67, T186 hB (by omega) (by omega), L189_k69, T187 (by omega), L189_k72, g1, fa_b_t, if_neg (by decide), h8, if_neg (by rw [n32_id (by omega) (by omega), n32_id (by omega) (by omega)]; omega), T186 hB (by omega) (by omega), L189_k97, n32_id (by omega) (by omega), zg_pos (by omega), zu_ne (by omega), h8]
        exact f1
      · obtain ⟨F, f1, f2, f3, f4, f5, f6⟩ := ih (i + 1) (zu E 60 8 (i - a + 1)) (hB.fr (by rw [zu_ne (by omega)]) (fun b => by rw [zu_ne (by omega)])) (by omega) (by omega) (by rw [zu_same]; omega) (fun x u v w => by
          rw [zu_ne (by omega)]
          exact hl x u (by omega) w)
        refine ⟨F, ?_, f2, f3, f4, f5, fun x y u v => by rw [f6 x y u v, zu_ne (by omega)]⟩
        rw [L189_67, T186 hB (by omega) (by omega), L189_k69, T187 (by omega), L189_k72, g1, fa_b_t, if_neg (by decide), h8, if_pos (by rw [n32_id (by omega) (by omega), n32_id (by omega) (by omega)]; omega)]
        exact f1
    · have g1 : decide (97 ≤ tk_ch B n i ∧ tk_ch B n i ≤ 122) = false := bo_f g
      rw [tk_to_f (bo_f g)]
      refine ⟨zu (zu E 60 5 i) 60 6 (if i - a ≤ 8 then 2 else 1), ?_, by rw [zu_ne (by omega), zu_same], zu_same, by rw [zu_ne (by omega), zu_ne (by omega)]; exact h8, fun x u v w => by rw [zu_ne (by omega), zu_ne (by omega)]; exact hl x u v w, fun x y u v => by rw [zu_ne (by omega), zu_ne (by omega)]⟩
      rw [L189_67, T186 hB (by omega) (by omega), L189_k69, T187 (by omega), L189_k72, g1, fa_b_f, if_pos (by decide), zu_ne (by omega), h8]
      by_cases g : i - a ≤ 8
      · simp (disch := omega) only [n32_id, zg_pos, if_pos, if_neg, zu_same, zu_ne, if_true, if_false, ne_eq, not_true_eq_false, not_false_eq_true, true_or, or_true, true_and, and_true, zg_true, fa_b_f, fa_b_t]
      · simp (disch := omega) only [n32_id, zg_pos, if_pos, if_neg, zu_same, zu_ne, if_true, if_false, ne_eq, not_true_eq_false, not_false_eq_true, true_or, or_true, true_and, and_true, zg_true, fa_b_f, fa_b_t]
theorem T189_152 {a : Int} (ha : 0 ≤ a) {j2 : ZV} (hj2 : zm_isL j2 = false) : ∀ (j : Nat) (i : Int) (E : Nat → Int → Int), zBR B n E → a ≤ i → i + j = n → (i - a ≤ 3 → E 60 7 = tk_num B (i - a).toNat a 0) →
    ∃ F, zf_ev X (d + 1) 189 (152, [vR 60, vI i, j2, vI (i - a)], [], zH t p q E) = some (some [], zH t p q F) ∧ F 60 5 = tk_to (tk_d B n) n i ∧ F 60 6 = (if tk_to (tk_d B n) n i - a ≤ 3 then 3 else 1) ∧ (tk_to (tk_d B n) n i - a ≤ 3 → F 60 7 = tk_num B (tk_to (tk_d B n) n i - a).toNat a 0) ∧ (∀ x y, (x ≠ 60 ∨ (y ≠ 5 ∧ y ≠ 6 ∧ y ≠ 7)) → F x y = E x y) := by
  intro j
  induction j with
  | zero =>
    intro i E hB hai hj h7
    have hn := hB.1
    have hc : tk_ch B n i = -1 := tk_ch_n (by omega)
    rw [tk_to_f (tk_d_n i (by omega))]
    refine ⟨zu (zu E 60 5 i) 60 6 (if i - a ≤ 3 then 3 else 1), ?_, by rw [zu_ne (by omega), zu_same], zu_same, fun u => by rw [zu_ne (by omega), zu_ne (by omega)]; exact h7 u, fun x y u => by rw [zu_ne (by omega), zu_ne (by omega)]⟩
    rw [L189_152, T186 hB (by omega) (by omega), L189_k154, hc, T188 (by omega), L189_k157 hj2, show decide ((48 : Int) ≤ -1 ∧ (-1 : Int) ≤ 57) = false from rfl, fa_b_f, if_pos (by decide)]
    by_cases g : i - a ≤ 3
    · simp (disch := omega) only [n32_id, zg_pos, if_pos, if_neg, zu_same, zu_ne, if_true, if_false, ne_eq, not_true_eq_false, not_false_eq_true, true_or, or_true, true_and, and_true, zg_true, fa_b_f, fa_b_t]
    · simp (disch := omega) only [n32_id, zg_pos, if_pos, if_neg, zu_same, zu_ne, if_true, if_false, ne_eq, not_true_eq_false, not_false_eq_true, true_or, or_true, true_and, and_true, zg_true, fa_b_f, fa_b_t]
  | succ j ih =>
    intro i E hB hai hj h7
    have hn := hB.1
    have hr := tk_ch_r hB (i := i) (by omega)
    by_cases g : tk_d B n i = true
    · have g1 : decide (48 ≤ tk_ch B n i ∧ tk_ch B n i ≤ 57) = true := g
      rw [tk_to_t g (by omega)]
      by_cases g8 : i - a < 3
      · obtain ⟨F, f1, f2, f3, f4, f5⟩ := ih (i + 1) (zu E 60 7 (10 * E 60 7 + tk_ch B n i - 48)) (hB.fr (by rw [zu_ne (by omega)]) (fun b => by rw [zu_ne (by omega)])) (by omega) (by omega) (fun u => by
          rw [zu_same, h7 (by omega), show (i + 1 - a).toNat = (i - a).toNat + 1 by omega, tk_num_s, show a + ((i - a).toNat : Int) = i by omega, tk_ch_b (by omega)]
          omega)
        refine ⟨F, ?_, f2, f3, f4, fun x y u => by rw [f5 x y u, zu_ne (by omega)]⟩
        rw [L189_152, T186 hB (by omega) (by omega), L189_k154, T188 (by omega), L189_k157 hj2, g1, fa_b_t, if_neg (by decide), if_neg (by rw [n32_id (by omega) (by omega), n32_id (by omega) (by omega)]; omega), T186 hB (by omega) (by omega), L189_k178 hj2, show i - a + 1 = i + 1 - a by omega]
        exact f1
      · obtain ⟨F, f1, f2, f3, f4, f5⟩ := ih (i + 1) E hB (by omega) (by omega) (fun u => by omega)
        refine ⟨F, ?_, f2, f3, f4, f5⟩
        rw [L189_152, T186 hB (by omega) (by omega), L189_k154, T188 (by omega), L189_k157 hj2, g1, fa_b_t, if_neg (by decide), if_pos (by rw [n32_id (by omega) (by omega), n32_id (by omega) (by omega)]; omega), show i - a + 1 = i + 1 - a by omega]
        exact f1
    · have g1 : decide (48 ≤ tk_ch B n i ∧ tk_ch B n i ≤ 57) = false := bo_f g
      rw [tk_to_f (bo_f g)]
      refine ⟨zu (zu E 60 5 i) 60 6 (if i - a ≤ 3 then 3 else 1), ?_, by rw [zu_ne (by omega), zu_same], zu_same, fun u => by rw [zu_ne (by omega), zu_ne (by omega)]; exact h7 u, fun x y u => by rw [zu_ne (by omega), zu_ne (by omega)]⟩
      rw [L189_152, T186 hB (by omega) (by omega), L189_k154, T188 (by omega), L189_k157 hj2, g1, fa_b_f, if_pos (by decide)]
      by_cases g : i - a ≤ 3
      · simp (disch := omega) only [n32_id, zg_pos, if_pos, if_neg, zu_same, zu_ne, if_true, if_false, ne_eq, not_true_eq_false, not_false_eq_true, true_or, or_true, true_and, and_true, zg_true, fa_b_f, fa_b_t]
      · simp (disch := omega) only [n32_id, zg_pos, if_pos, if_neg, zu_same, zu_ne, if_true, if_false, ne_eq, not_true_eq_false, not_false_eq_true, true_or, or_true, true_and, and_true, zg_true, fa_b_f, fa_b_t]
theorem T189 (hB : zBR B n E) (h5 : E 60 5 = k) (hk : 0 ≤ k ∧ k ≤ n) : ∃ F, zf_ev X (d + 1) 189 (0, [vR 60, vJ, vJ, vJ], [], zH t p q E) = some (some [], zH t p q F) ∧ zTR B n k F ∧ zFA E F := by
  have hn := hB.1
  have hA := tk_a_r (B := B) hk.2
  have e0 : zf_ev X (d + 1) 189 (0, [vR 60, vJ, vJ, vJ], [], zH t p q E) = zf_k X (d + 1) 189 28 [vR 60, vI (tk_a B n k), vJ, vJ] [] (some (some [vI (tk_ch B n (tk_a B n k))], zH t p q (zu E 60 4 (tk_a B n k)))) := by
    have hB2 : zBR B n (zu E 60 4 (tk_a B n k)) := hB.fr (by rw [zu_ne (by omega)]) (fun b => by rw [zu_ne (by omega)])
    rw [L189_0, h5, T189_5 hB (n - k).toNat k hk.1 (by omega)]
    show zf_k X (d + 1) 189 28 [vR 60, vI (tk_a B n k), vJ, vJ] [] (zf_ev X d 186 (0, [vR 60, vI (tk_a B n k)], [], zH t p q (zu E 60 4 (tk_a B n k)))) = _
    rw [T186 hB2 (by omega) (by omega)]
  have he0 : tk_e B n k = if n ≤ tk_a B n k then tk_a B n k else if tk_w B n (tk_a B n k) = true then tk_to (tk_w B n) n (tk_a B n k) else if tk_d B n (tk_a B n k) = true then tk_to (tk_d B n) n (tk_a B n k) else tk_a B n k + 1 := rfl
  have hk0 : tk_k B n k = if n ≤ tk_a B n k then 0 else if tk_w B n (tk_a B n k) = true then (if tk_e B n k - tk_a B n k ≤ 8 then 2 else 1) else if tk_d B n (tk_a B n k) = true then (if tk_e B n k - tk_a B n k ≤ 3 then 3 else 1) else if tk_ch B n (tk_a B n k) = 59 then 59 else 1 := rfl
  by_cases g : n ≤ tk_a B n k
  · rw [if_pos g] at he0 hk0
    have hc : tk_ch B n (tk_a B n k) = -1 := tk_ch_n g
    refine ⟨zu (zu (zu (zu (zu E 60 4 (tk_a B n k)) 60 8 0) 60 7 0) 60 6 0) 60 5 (tk_a B n k), ?_, ⟨hB.fr (by rw [zu_ne (by omega), zu_ne (by omega), zu_ne (by omega), zu_ne (by omega), zu_ne (by omega)]) (fun b => by rw [zu_ne (by omega), zu_ne (by omega), zu_ne (by omega), zu_ne (by omega), zu_ne (by omega)]), hk, ⟨by rw [zu_ne (by omega), zu_ne (by omega), zu_ne (by omega), zu_ne (by omega), zu_same], by rw [zu_same, he0], by rw [zu_ne (by omega), zu_same, hk0]⟩, fun u => by omega, fun u => by omega⟩, fun x y u v => by rw [zu_ne (by omega), zu_ne (by omega), zu_ne (by omega), zu_ne (by omega), zu_ne (by omega)]⟩
    rw [e0, L189_k28, hc, if_neg (fun h => h rfl)]
  · rw [if_neg g] at he0 hk0
    have hr := tk_ch_r hB (i := tk_a B n k) (by omega)
    have hr3 := hr.2.2 (by omega)
    have e1 : zf_ev X (d + 1) 189 (0, [vR 60, vJ, vJ, vJ], [], zH t p q E) = zf_k X (d + 1) 189 61 [vR 60, vI (tk_a B n k), vI (tk_ch B n (tk_a B n k)), vJ] [] (some (some [vI (fa_b (tk_w B n (tk_a B n k)))], zH t p q (zu (zu (zu E 60 4 (tk_a B n k)) 60 8 0) 60 7 0))) := by
      rw [e0, L189_k28, if_pos (by rw [n32_id (by omega) (by omega), n32_id (by omega) (by omega)]; omega), T187 (by omega)]
      rfl
    have hB3 : zBR B n (zu (zu (zu E 60 4 (tk_a B n k)) 60 8 0) 60 7 0) := hB.fr (by rw [zu_ne (by omega), zu_ne (by omega), zu_ne (by omega)]) (fun b => by rw [zu_ne (by omega), zu_ne (by omega), zu_ne (by omega)])
    by_cases gw : tk_w B n (tk_a B n k) = true
    · rw [if_pos gw] at he0 hk0
      obtain ⟨F, f1, f2, f3, f4, f5, f6⟩ := T189_67 (X := X) (d := d) (t := t) (p := p) (q := q) (B := B) (n := n) (a := tk_a B n k) (j2 := vI (tk_ch B n (tk_a B n k))) (j3 := vJ) (by omega) (n - tk_a B n k).toNat (tk_a B n k) _ hB3 (by omega) (by omega) (by rw [zu_ne (by omega), zu_same]; omega) (fun x u v w => by omega)
      rw [← he0] at f2 f3 f4 f5
      refine ⟨F, ?_, ⟨hB3.fr (f6 _ _ (by omega) (by omega)) (fun b => f6 _ _ (by omega) (by omega)), hk, ⟨by rw [f6 _ _ (by omega) (by omega), zu_ne (by omega), zu_ne (by omega), zu_same], f2, by rw [f3, hk0]⟩, fun u => ?_, fun u => ⟨f4, fun i a b => f5 i a b ?_⟩⟩, fun x y u v => by rw [f6 x y (by omega) v, zu_ne (by omega), zu_ne (by omega), zu_ne (by omega)]⟩
      · rw [e1, L189_k61, gw, fa_b_t, if_neg (by decide), f1]
      · rw [hk0] at u
        split at u <;> omega
      · have := (tk_word hk.2 u).2.2.2.2.1
        omega
    · rw [if_neg gw] at he0 hk0
      have e2 : zf_ev X (d + 1) 189 (0, [vR 60, vJ, vJ, vJ], [], zH t p q E) = zf_k X (d + 1) 189 144 [vR 60, vI (tk_a B n k), vI (tk_ch B n (tk_a B n k)), vJ] [] (some (some [vI (fa_b (tk_d B n (tk_a B n k)))], zH t p q (zu (zu (zu E 60 4 (tk_a B n k)) 60 8 0) 60 7 0))) := by
        rw [e1, L189_k61, bo_f gw, fa_b_f, if_pos (by decide), T188 (by omega)]
        rfl
      by_cases gd : tk_d B n (tk_a B n k) = true
      · rw [if_pos gd] at he0 hk0
        obtain ⟨F, f1, f2, f3, f4, f5⟩ := T189_152 (X := X) (d := d) (t := t) (p := p) (q := q) (B := B) (n := n) (a := tk_a B n k) (j2 := vI (tk_ch B n (tk_a B n k))) (by omega) rfl (n - tk_a B n k).toNat (tk_a B n k) _ hB3 (by omega) (by omega) (fun u => by rw [zu_same, show (tk_a B n k - tk_a B n k).toNat = 0 by omega]; rfl)
        rw [← he0] at f2 f3 f4
        rw [show tk_a B n k - tk_a B n k = 0 by omega] at f1
        refine ⟨F, ?_, ⟨hB3.fr (f5 _ _ (by omega)) (fun b => f5 _ _ (by omega)), hk, ⟨by rw [f5 _ _ (by omega), zu_ne (by omega), zu_ne (by omega), zu_same], f2, by rw [f3, hk0]⟩, fun u => ?_, fun u => ?_⟩, fun x y u v => by rw [f5 x y (by omega), zu_ne (by omega), zu_ne (by omega), zu_ne (by omega)]⟩
        · rw [e2, L189_k144, gd, fa_b_t, if_neg (by decide), f1]
        · have := (tk_whole hk.2 u).2.2.2.2.1
          rw [f4 (by omega)]
          rfl
        · rw [hk0] at u
          split at u <;> omega
      · rw [if_neg gd] at he0 hk0
        refine ⟨zu (zu (zu (zu (zu E 60 4 (tk_a B n k)) 60 8 0) 60 7 0) 60 5 (tk_a B n k + 1)) 60 6 (if tk_ch B n (tk_a B n k) = 59 then 59 else 1), ?_, ⟨hB.fr (by rw [zu_ne (by omega), zu_ne (by omega), zu_ne (by omega), zu_ne (by omega), zu_ne (by omega)]) (fun b => by rw [zu_ne (by omega), zu_ne (by omega), zu_ne (by omega), zu_ne (by omega), zu_ne (by omega)]), hk, ⟨by rw [zu_ne (by omega), zu_ne (by omega), zu_ne (by omega), zu_ne (by omega), zu_same], by rw [zu_ne (by omega), zu_same, he0], by rw [zu_same, hk0]⟩, fun u => ?_, fun u => ?_⟩, fun x y u v => by rw [zu_ne (by omega), zu_ne (by omega), zu_ne (by omega), zu_ne (by omega), zu_ne (by omega)]⟩
        · rw [e2, L189_k144, bo_f gd, fa_b_f, if_pos (by decide)]
          by_cases g59 : tk_ch B n (tk_a B n k) = 59
          · rw [if_neg (fun h => h (by rw [g59])), if_pos g59, g59]
          · rw [if_pos (by rw [n32_id (by omega) (by omega)]; exact g59), if_neg g59]
        · rw [hk0] at u
          split at u <;> omega
        · rw [hk0] at u
          split at u <;> omega
theorem T189n (hT : zTR B n k E) : ∃ F, zf_ev X (d + 1) 189 (0, [vR 60, vJ, vJ, vJ], [], zH t p q E) = some (some [], zH t p q F) ∧ zTR B n (tk_e B n k) F ∧ zFA E F := by
  have h1 := tk_e_r (B := B) hT.2.1.2
  have h2 := tk_a_r (B := B) hT.2.1.2
  exact T189 hT.1 hT.2.2.1.2.1 (by have := hT.2.1; omega)
/-- words -/
def tk_al (f g : Int → Int) : Nat → Int → Bool
  | 0, _ => true
  | j + 1, i => decide (f i = g i) && tk_al f g j (i + 1)
theorem tk_al_i {f g : Int → Int} : ∀ (j : Nat) (i : Int), tk_al f g j i = true ↔ ∀ x, i ≤ x → x < i + j → f x = g x := by
  intro j
  induction j with
  | zero => intro i; exact ⟨fun _ x a b => by omega, fun _ => rfl⟩
  | succ j ih =>
    intro i
    show (decide (f i = g i) && tk_al f g j (i + 1)) = true ↔ _
    rw [Bool.and_eq_true, decide_eq_true_eq, ih]
    constructor
    · rintro ⟨h1, h2⟩ x a b
      by_cases e : x = i
      · rw [e]; exact h1
      · exact h2 x (by omega) (by omega)
    · intro h
      exact ⟨h i (by omega) (by omega), fun x a b => h x (by omega) (by omega)⟩
theorem T191_l {w : Nat} (hw : w < 22) {z : Int} (hz : z = tk_l w) (h8 : E 60 8 = z) (hl : ∀ i, 0 ≤ i → i < z → 0 ≤ E 62 i ∧ E 62 i ≤ 255) : ∀ (j : Nat) (i : Int) (b : Bool), 0 ≤ i → i + j = z → zf_ev X d 191 (32, [vR 60, vX w, vI (fa_b b), vI i], [], zH t p q E) = some (some [vI (fa_b (b && tk_al (E 62) (tk_g w) j i))], zH t p q E) := by
  have hr := tk_l_r hw
  intro j
  induction j with
  | zero =>
    intro i b h1 h2
    rw [L191_32 hw, h8, if_pos (by rw [n32_id (by omega) (by omega), n32_id (by omega) (by omega)]; omega), zg_pos (fa_b_r b)]
    show _ = some (some [vI (fa_b (b && true))], _)
    rw [Bool.and_true]
  | succ j ih =>
    intro i b h1 h2
    have hc := tk_g_r hw (x := i) h1 (by omega)
    have hL := hl i h1 (by omega)
    have e : tk_al (E 62) (tk_g w) (j + 1) i = (decide (E 62 i = tk_g w i) && tk_al (E 62) (tk_g w) j (i + 1)) := rfl
    rw [L191_32 hw, h8, if_neg (by rw [n32_id (by omega) (by omega), n32_id (by omega) (by omega)]; omega), e]
    cases b
    · rw [fa_b_f, if_pos (by decide)]
      have := ih (i + 1) false (by omega) (by omega)
      rw [fa_b_f] at this
      rw [this]
      rfl
    · rw [fa_b_t, if_neg (by decide), n32_id (z := i) (by omega) (by omega), show (zm_chars.getD w []).length = tk_l w from rfl, show (zm_chars.getD w []).getD i.toNat 0 = tk_g w i from rfl, zg_pos (by omega), zg_pos (by omega), n32_id (by omega) (by omega), n32_id (by omega) (by omega), Bool.true_and]
      by_cases g : E 62 i = tk_g w i
      · have := ih (i + 1) true (by omega) (by omega)
        rw [fa_b_t] at this
        rw [if_neg (fun h => h g), this, decide_eq_true g]
      · have := ih (i + 1) false (by omega) (by omega)
        rw [fa_b_f] at this
        rw [if_pos g, this, decide_eq_false g]
theorem T191 {w : Nat} (hw : w < 22) (h0 : E 60 13 = 0) (hT : zTR B n k E) : zf_ev X d 191 (0, [vR 60, vX w, vJ, vJ], [], zH t p q E) = some (some [vI (fa_b (tk_is B n k w))], zH t p q E) := by
  have hr := tk_l_r hw
  have hkr := tk_k_r (B := B) (n := n) (k := k)
  rw [L191_0 hw, h0, if_neg (fun h => h (by decide)), hT.2.2.1.2.2]
  by_cases g : tk_k B n k = 2
  · obtain ⟨q1, q2⟩ := hT.2.2.2.2 g
    have hi := tk_is_i hw hT.2.1.2 g
    obtain ⟨-, -, -, u1, u2, u3⟩ := tk_word hT.2.1.2 g
    rw [if_neg (fun h => h (by rw [g])), q1]
    by_cases g2 : tk_e B n k - tk_a B n k = tk_l w
    · rw [if_pos (by rw [g2]; rfl)]
      have e := T191_l (X := X) (d := d) (t := t) (p := p) (q := q) hw g2 q1 (fun i a b => by
        have := u3 i a b
        rw [q2 i a b]
        omega) (tk_e B n k - tk_a B n k).toNat 0 true (by omega) (by omega)
      rw [fa_b_t] at e
      rw [e, Bool.true_and]
      have e2 : tk_al (E 62) (tk_g w) (tk_e B n k - tk_a B n k).toNat 0 = tk_is B n k w := by
        rw [Bool.eq_iff_iff, hi, tk_al_i]
        constructor
        · intro h
          exact ⟨g2, fun x a b => by rw [← q2 x a (by omega)]; exact h x a (by omega)⟩
        · intro h x a b
          rw [q2 x a (by omega)]
          exact h.2 x a (by omega)
      rw [e2]
    · rw [if_neg (by rw [n32_id (by omega) (by omega), show ((zm_chars.getD w []).length : Int) = (tk_l w : Int) from rfl, n32_id (by omega) (by omega)]; exact g2)]
      have : tk_is B n k w = false := bo_f (fun h => g2 (hi.mp h).1)
      rw [this, fa_b_f]
  · rw [if_pos (by rw [n32_id (by omega) (by omega)]; exact g)]
    have : tk_is B n k w = false := bo_f (fun h => g (tk_is_k h))
    rw [this, fa_b_f]
theorem T191f {w : Nat} (hw : w < 22) (h0 : E 60 13 = 1) : zf_ev X d 191 (0, [vR 60, vX w, vJ, vJ], [], zH t p q E) = some (some [vI 0], zH t p q E) := by
  rw [L191_0 hw, h0, if_pos (by decide)]
end RT

/-! the class's tape -/
def tk_kc (t : Int) : Int := if t = 0 then 0 else if t = 2 then 1 else if t = 3 then 2 else if t = 59 then 3 else 4
theorem tk_kc_1 {t : Int} : tk_kc t = 1 ↔ t = 2 := by
  unfold tk_kc
  split
  · omega
  · split
    · omega
    · split
      · omega
      · split <;> omega
theorem tk_kc_2 {t : Int} : tk_kc t = 2 ↔ t = 3 := by
  unfold tk_kc
  split
  · omega
  · split
    · omega
    · split
      · omega
      · split <;> omega
theorem tk_kc_3 {t : Int} : tk_kc t = 3 ↔ t = 59 := by
  unfold tk_kc
  split
  · omega
  · split
    · omega
    · split
      · omega
      · split <;> omega
theorem tk_kc_0 {t : Int} : tk_kc t = 0 ↔ t = 0 := by
  unfold tk_kc
  split
  · omega
  · split
    · omega
    · split
      · omega
      · split <;> omega
theorem tk_kc_r {t : Int} : 0 ≤ tk_kc t ∧ tk_kc t ≤ 4 := by
  unfold tk_kc
  split
  · omega
  · split
    · omega
    · split
      · omega
      · split <;> omega
def zBC (B : Int → Int) (n : Int) (E : Nat → Int → Int) : Prop := (0 ≤ n ∧ n ≤ 900) ∧ ∀ i, 0 ≤ i → i < n → (0 ≤ B i ∧ B i ≤ 255) ∧ E 3 i = zsg (B i)
theorem zBC.fr {B : Int → Int} {n : Int} {E F : Nat → Int → Int} (h : zBC B n E) (hf : ∀ b, F 3 b = E 3 b) : zBC B n F := ⟨h.1, fun i a b => by rw [hf]; exact h.2 i a b⟩
/-- the token that began at k has been read -/
def zTC (B : Int → Int) (n k : Int) (E : Nat → Int → Int) : Prop := zBC B n E ∧ (0 ≤ k ∧ k ≤ n) ∧ (E 2 2 = n ∧ E 2 3 = tk_e B n k ∧ E 2 4 = tk_kc (tk_k B n k) ∧ E 2 5 = tk_a B n k) ∧ (tk_k B n k = 3 → E 2 6 = tk_v B n k) ∧ (tk_k B n k = 2 → E 2 7 = tk_c B n k)
theorem zTC.fr {B : Int → Int} {n k : Int} {E F : Nat → Int → Int} (h : zTC B n k E) (hf : ∀ a b, a = 2 ∨ a = 3 → F a b = E a b) : zTC B n k F := by
  obtain ⟨h1, h2, ⟨h3, h4, h5, h6⟩, h7, h8⟩ := h
  refine ⟨h1.fr (fun b => hf _ _ (by omega)), h2, ⟨?_, ?_, ?_, ?_⟩, fun g => ?_, fun g => ?_⟩ <;> rw [hf _ _ (by omega)]
  · exact h3
  · exact h4
  · exact h5
  · exact h6
  · exact h7 g
  · exact h8 g
section CT
variable {X : Nat × (Nat → Int)} {d : Nat} {t : List (Nat × Nat)} {p q : Nat} {E : Nat → Int → Int} {B : Int → Int} {n k : Int}
theorem zsg_w {b : Int} (h : 0 ≤ b ∧ b ≤ 255) : (97 ≤ b ∧ b ≤ 122 → zsg b = b) ∧ (¬ (97 ≤ b ∧ b ≤ 122) → zsg b < 97 ∨ 122 < zsg b) ∧ (48 ≤ b ∧ b ≤ 57 → zsg b = b) ∧ (¬ (48 ≤ b ∧ b ≤ 57) → zsg b < 48 ∨ 57 < zsg b) ∧ (b = 32 ↔ zsg b = 32) ∧ (b = 59 ↔ zsg b = 59) ∧ -128 ≤ zsg b ∧ zsg b ≤ 127 := by
  unfold zsg
  split <;> omega
theorem tk_w_i {i : Int} (h : i < n) : tk_w B n i = true ↔ 97 ≤ B i ∧ B i ≤ 122 := by
  unfold tk_w
  rw [decide_eq_true_eq, tk_ch_b h]
theorem tk_d_i {i : Int} (h : i < n) : tk_d B n i = true ↔ 48 ≤ B i ∧ B i ≤ 57 := by
  unfold tk_d
  rw [decide_eq_true_eq, tk_ch_b h]
theorem tk_s_i {i : Int} (h : i < n) : tk_s B n i = true ↔ B i = 32 := by
  unfold tk_s
  rw [decide_eq_true_eq, tk_ch_b h]
theorem bo_f {b : Bool} (h : ¬ b = true) : b = false := by
  cases b
  · rfl
  · exact absurd rfl h
theorem T110_loop {a : Int} (ha : 0 ≤ a) : ∀ (j : Nat) (i : Int) (E : Nat → Int → Int), zBC B n E → E 2 2 = n → E 2 5 = a → E 2 3 = i → a ≤ i → i + j = n → (∀ x, a ≤ x → x < i → tk_w B n x = true) → (i - a ≤ 8 → E 2 7 = tk_pk B (i - a).toNat a 0) →
    ∃ F, zf_ev X d 110 (5, [vR 2], [], zH t p q E) = some (some [], zH t p q F) ∧ F 2 3 = tk_to (tk_w B n) n i ∧ F 2 4 = (if tk_to (tk_w B n) n i - a ≤ 8 then 1 else 4) ∧ (tk_to (tk_w B n) n i - a ≤ 8 → F 2 7 = tk_pk B (tk_to (tk_w B n) n i - a).toNat a 0) ∧ (∀ x y, (x ≠ 2 ∨ (y ≠ 3 ∧ y ≠ 4 ∧ y ≠ 7)) → F x y = E x y) := by
  intro j
  induction j with
  | zero =>
    intro i E hB h2 h5 h3 hai hj hw h7
    have hn := hB.1
    rw [tk_to_f (tk_w_n i (by omega))]
    refine ⟨zu E 2 4 (if i - a ≤ 8 then 1 else 4), ?_, by rw [zu_ne (by omega)]; exact h3, zu_same, fun g => by rw [zu_ne (by omega)]; exact h7 g, fun x y u => zu_ne (by omega)⟩
    rw [L110_5]
    by_cases g : i - a ≤ 8
    · simp (disch := omega) only [n32_id, zg_pos, if_pos, if_neg, zu_same, zu_ne, if_true, if_false, ne_eq, not_true_eq_false, not_false_eq_true, true_or, or_true, true_and, and_true, zg_true, fa_b_f, fa_b_t, h2, h3, h5]
    · simp (disch := omega) only [n32_id, zg_pos, if_pos, if_neg, zu_same, zu_ne, if_true, if_false, ne_eq, not_true_eq_false, not_false_eq_true, true_or, or_true, true_and, and_true, zg_true, fa_b_f, fa_b_t, h2, h3, h5]
  | succ j ih =>
    intro i E hB h2 h5 h3 hai hj hw h7
    have hn := hB.1
    have hb := hB.2 i (by omega) (by omega)
    have hz := zsg_w hb.1
    by_cases g : tk_w B n i = true
    · have g1 := (tk_w_i (B := B) (n := n) (i := i) (by omega)).mp g
      have e3 : E 3 i = B i := by rw [hb.2]; exact hz.1 g1
      rw [tk_to_t g (by omega)]
      obtain ⟨F, f1, f2, f3, f4, f5⟩ := ih (i + 1) (zu (zu E 2 7 (zm_lor (zm_lshl (E 2 7) 5) (B i - 97 + 1))) 2 3 (i + 1)) (hB.fr (fun b => by rw [zu_ne (by omega), zu_ne (by omega)])) (by rw [zu_ne (by omega), zu_ne (by omega)]; exact h2) (by rw [zu_ne (by omega), zu_ne (by omega)]; exact h5) zu_same (by omega) (by omega) (fun x u v => by
        by_cases e : x = i
        · rw [e]; exact g
        · exact hw x u (by omega)) (fun u => by
        have hr := tk_pk_r (f := B) (i - a).toNat a (fun x u v => by
          have := (tk_w_i (B := B) (n := n) (i := a + x) (by omega)).mp (hw (a + x) (by omega) (by omega))
          exact this)
        have hp := tk_p8 (i - a).toNat (by omega)
        rw [zu_ne (by omega), zu_same, h7 (by omega), tk_or (by omega) (by omega) (by omega) (by omega), show (i + 1 - a).toNat = (i - a).toNat + 1 by omega, tk_pk_s, show a + ((i - a).toNat : Int) = i by omega]
        omega)
      refine ⟨F, ?_, f2, f3, f4, fun x y u => by rw [f5 x y u, zu_ne (by omega), zu_ne (by omega)]⟩
      rw [L110_5]
      simp (disch := omega) only [n32_id, zg_pos, if_pos, if_neg, zu_same, zu_ne, if_true, if_false, ne_eq, not_true_eq_false, not_false_eq_true, true_or, or_true, true_and, and_true, zg_true, fa_b_f, fa_b_t, h2, h3, e3]
      exact f1
    · have g1 := mt (tk_w_i (B := B) (n := n) (i := i) (by omega)).mpr g
      have e3 := hz.2.1 g1
      rw [← hb.2] at e3
      have e4 := hz.2.2.2.2.2.2
      rw [← hb.2] at e4
      rw [tk_to_f (bo_f g)]
      refine ⟨zu E 2 4 (if i - a ≤ 8 then 1 else 4), ?_, by rw [zu_ne (by omega)]; exact h3, zu_same, fun g => by rw [zu_ne (by omega)]; exact h7 g, fun x y u => zu_ne (by omega)⟩
      rw [L110_5]
      by_cases g2 : E 3 i < 97
      · by_cases g : i - a ≤ 8
        · simp (disch := omega) only [n32_id, zg_pos, if_pos, if_neg, zu_same, zu_ne, if_true, if_false, ne_eq, not_true_eq_false, not_false_eq_true, true_or, or_true, true_and, and_true, zg_true, fa_b_f, fa_b_t, h2, h3, h5]
        · simp (disch := omega) only [n32_id, zg_pos, if_pos, if_neg, zu_same, zu_ne, if_true, if_false, ne_eq, not_true_eq_false, not_false_eq_true, true_or, or_true, true_and, and_true, zg_true, fa_b_f, fa_b_t, h2, h3, h5]
      · by_cases g : i - a ≤ 8
        · simp (disch := omega) only [n32_id, zg_pos, if_pos, if_neg, zu_same, zu_ne, if_true, if_false, ne_eq, not_true_eq_false, not_false_eq_true, true_or, or_true, true_and, and_true, zg_true, fa_b_f, fa_b_t, h2, h3, h5]
        · simp (disch := omega) only [n32_id, zg_pos, if_pos, if_neg, zu_same, zu_ne, if_true, if_false, ne_eq, not_true_eq_false, not_false_eq_true, true_or, or_true, true_and, and_true, zg_true, fa_b_f, fa_b_t, h2, h3, h5]
theorem T111_loop {a : Int} (ha : 0 ≤ a) : ∀ (j : Nat) (i : Int) (E : Nat → Int → Int), zBC B n E → E 2 2 = n → E 2 5 = a → E 2 3 = i → a ≤ i → i + j = n → E 2 6 = tk_num B (i - a).toNat a 0 →
    ∃ F, zf_ev X d 111 (5, [vR 2], [], zH t p q E) = some (some [], zH t p q F) ∧ F 2 3 = tk_to (tk_d B n) n i ∧ F 2 4 = (if tk_to (tk_d B n) n i - a ≤ 3 then 2 else 4) ∧ F 2 6 = tk_num B (tk_to (tk_d B n) n i - a).toNat a 0 ∧ (∀ x y, (x ≠ 2 ∨ (y ≠ 3 ∧ y ≠ 4 ∧ y ≠ 6)) → F x y = E x y) := by
  intro j
  induction j with
  | zero =>
    intro i E hB h2 h5 h3 hai hj h7
    have hn := hB.1
    rw [tk_to_f (tk_d_n i (by omega))]
    refine ⟨zu E 2 4 (if i - a ≤ 3 then 2 else 4), ?_, by rw [zu_ne (by omega)]; exact h3, zu_same, by rw [zu_ne (by omega)]; exact h7, fun x y u => zu_ne (by omega)⟩
    rw [L111_5]
    by_cases g : i - a ≤ 3
    · simp (disch := omega) only [n32_id, zg_pos, if_pos, if_neg, zu_same, zu_ne, if_true, if_false, ne_eq, not_true_eq_false, not_false_eq_true, true_or, or_true, true_and, and_true, zg_true, fa_b_f, fa_b_t, h2, h3, h5]
    · simp (disch := omega) only [n32_id, zg_pos, if_pos, if_neg, zu_same, zu_ne, if_true, if_false, ne_eq, not_true_eq_false, not_false_eq_true, true_or, or_true, true_and, and_true, zg_true, fa_b_f, fa_b_t, h2, h3, h5]
  | succ j ih =>
    intro i E hB h2 h5 h3 hai hj h7
    have hn := hB.1
    have hb := hB.2 i (by omega) (by omega)
    have hz := zsg_w hb.1
    by_cases g : tk_d B n i = true
    · have g1 := (tk_d_i (B := B) (n := n) (i := i) (by omega)).mp g
      have e3 : E 3 i = B i := by rw [hb.2]; exact hz.2.2.1 g1
      rw [tk_to_t g (by omega)]
      obtain ⟨F, f1, f2, f3, f4, f5⟩ := ih (i + 1) (zu (zu E 2 6 (E 2 6 * 10 + (B i - 48))) 2 3 (i + 1)) (hB.fr (fun b => by rw [zu_ne (by omega), zu_ne (by omega)])) (by rw [zu_ne (by omega), zu_ne (by omega)]; exact h2) (by rw [zu_ne (by omega), zu_ne (by omega)]; exact h5) zu_same (by omega) (by omega) (by
        rw [zu_ne (by omega), zu_same, h7, show (i + 1 - a).toNat = (i - a).toNat + 1 by omega, tk_num_s, show a + ((i - a).toNat : Int) = i by omega]
        omega)
      refine ⟨F, ?_, f2, f3, f4, fun x y u => by rw [f5 x y u, zu_ne (by omega), zu_ne (by omega)]⟩
      rw [L111_5]
      simp (disch := omega) only [n32_id, zg_pos, if_pos, if_neg, zu_same, zu_ne, if_true, if_false, ne_eq, not_true_eq_false, not_false_eq_true, true_or, or_true, true_and, and_true, zg_true, fa_b_f, fa_b_t, h2, h3, e3]
      exact f1
    · have g1 := mt (tk_d_i (B := B) (n := n) (i := i) (by omega)).mpr g
      have e3 := hz.2.2.2.1 g1
      rw [← hb.2] at e3
      have e4 := hz.2.2.2.2.2.2
      rw [← hb.2] at e4
      rw [tk_to_f (bo_f g)]
      refine ⟨zu E 2 4 (if i - a ≤ 3 then 2 else 4), ?_, by rw [zu_ne (by omega)]; exact h3, zu_same, by rw [zu_ne (by omega)]; exact h7, fun x y u => zu_ne (by omega)⟩
      rw [L111_5]
      by_cases g2 : E 3 i < 48
      · by_cases g : i - a ≤ 3
        · simp (disch := omega) only [n32_id, zg_pos, if_pos, if_neg, zu_same, zu_ne, if_true, if_false, ne_eq, not_true_eq_false, not_false_eq_true, true_or, or_true, true_and, and_true, zg_true, fa_b_f, fa_b_t, h2, h3, h5]
        · simp (disch := omega) only [n32_id, zg_pos, if_pos, if_neg, zu_same, zu_ne, if_true, if_false, ne_eq, not_true_eq_false, not_false_eq_true, true_or, or_true, true_and, and_true, zg_true, fa_b_f, fa_b_t, h2, h3, h5]
      · by_cases g : i - a ≤ 3
        · simp (disch := omega) only [n32_id, zg_pos, if_pos, if_neg, zu_same, zu_ne, if_true, if_false, ne_eq, not_true_eq_false, not_false_eq_true, true_or, or_true, true_and, and_true, zg_true, fa_b_f, fa_b_t, h2, h3, h5]
        · simp (disch := omega) only [n32_id, zg_pos, if_pos, if_neg, zu_same, zu_ne, if_true, if_false, ne_eq, not_true_eq_false, not_false_eq_true, true_or, or_true, true_and, and_true, zg_true, fa_b_f, fa_b_t, h2, h3, h5]
theorem T109_loop (hk : 0 ≤ k ∧ k ≤ n) : ∀ (j : Nat) (i : Int) (E : Nat → Int → Int), zBC B n E → E 2 2 = n → E 2 3 = i → 0 ≤ i → i + j = n → tk_a B n k = tk_to (tk_s B n) n i →
    ∃ F, zf_ev X (d + 1) 109 (0, [vR 2], [], zH t p q E) = some (some [], zH t p q F) ∧ zTC B n k F ∧ (∀ x y, (x ≠ 2 ∨ y < 3) → F x y = E x y) := by
  intro j
  induction j with
  | zero =>
    intro i E hB h2 h3 hi hj ha
    have hn := hB.1
    rw [tk_to_f (tk_s_n i (by omega))] at ha
    have he : tk_e B n k = i := by
      unfold tk_e
      rw [if_pos (by omega), ha]
    have hkk := (tk_k0 (B := B) hk.2).mpr (by omega)
    refine ⟨zu (zu E 2 5 i) 2 4 0, ?_, ⟨hB.fr (fun b => by rw [zu_ne (by omega), zu_ne (by omega)]), hk, ⟨?_, ?_, ?_, ?_⟩, fun g => by omega, fun g => by omega⟩, fun x y u => by rw [zu_ne (by omega), zu_ne (by omega)]⟩
    · rw [L109_0]
      simp (disch := omega) only [n32_id, zg_pos, if_pos, if_neg, zu_same, zu_ne, if_true, if_false, ne_eq, not_true_eq_false, not_false_eq_true, true_or, or_true, true_and, and_true, zg_true, fa_b_f, fa_b_t, h2, h3]
    · rw [zu_ne (by omega), zu_ne (by omega)]; exact h2
    · rw [zu_ne (by omega), zu_ne (by omega), he]; exact h3
    · rw [zu_same, hkk]; rfl
    · rw [zu_ne (by omega), zu_same, ha]
  | succ j ih =>
    intro i E hB h2 h3 hi hj ha
    have hn := hB.1
    have hb := hB.2 i (by omega) (by omega)
    have hz := zsg_w hb.1
    have e4 := hz.2.2.2.2.2.2
    rw [← hb.2] at e4
    by_cases g : tk_s B n i = true
    · have g1 := (tk_s_i (B := B) (n := n) (i := i) (by omega)).mp g
      have e3 : E 3 i = 32 := by rw [hb.2]; exact hz.2.2.2.2.1.mp g1
      rw [tk_to_t g (by omega)] at ha
      obtain ⟨F, f1, f2, f3⟩ := ih (i + 1) (zu E 2 3 (i + 1)) (hB.fr (fun b => by rw [zu_ne (by omega)])) (by rw [zu_ne (by omega)]; exact h2) zu_same (by omega) (by omega) ha
      refine ⟨F, ?_, f2, fun x y u => by rw [f3 x y u, zu_ne (by omega)]⟩
      rw [L109_0]
      simp (disch := omega) only [n32_id, zg_pos, if_pos, if_neg, zu_same, zu_ne, if_true, if_false, ne_eq, not_true_eq_false, not_false_eq_true, true_or, or_true, true_and, and_true, zg_true, fa_b_f, fa_b_t, h2, h3, e3]
      exact f1
    · have g1 := mt (tk_s_i (B := B) (n := n) (i := i) (by omega)).mpr g
      have e3 : E 3 i ≠ 32 := by
        rw [hb.2]
        exact fun h => g1 (hz.2.2.2.2.1.mpr h)
      rw [tk_to_f (bo_f g)] at ha
      have hne : ¬ n ≤ tk_a B n k := by omega
      by_cases gw : tk_w B n i = true
      · have g2 := (tk_w_i (B := B) (n := n) (i := i) (by omega)).mp gw
        have e5 : E 3 i = B i := by rw [hb.2]; exact hz.1 g2
        have he : tk_e B n k = tk_to (tk_w B n) n i := by
          unfold tk_e
          rw [if_neg hne, ha, if_pos gw]
        have hkk : tk_k B n k = if tk_to (tk_w B n) n i - i ≤ 8 then 2 else 1 := by
          unfold tk_k
          rw [if_neg hne, he, ha, if_pos gw]
        obtain ⟨F, f1, f2, f3, f4, f5⟩ := T110_loop (X := X) (d := d) (t := t) (p := p) (q := q) (B := B) (n := n) (a := i) hi (j + 1) i (zu (zu E 2 5 i) 2 7 0) (hB.fr (fun b => by rw [zu_ne (by omega), zu_ne (by omega)])) (by rw [zu_ne (by omega), zu_ne (by omega)]; exact h2) (by rw [zu_ne (by omega), zu_same]) (by rw [zu_ne (by omega), zu_ne (by omega)]; exact h3) (by omega) hj (fun x u v => by omega) (fun u => by rw [zu_same, show (i - i).toNat = 0 by omega]; rfl)
        refine ⟨F, ?_, ⟨hB.fr (fun b => by rw [f5 _ _ (by omega), zu_ne (by omega), zu_ne (by omega)]), hk, ⟨?_, ?_, ?_, ?_⟩, fun u => ?_, fun u => ?_⟩, fun x y u => by rw [f5 _ _ (by omega), zu_ne (by omega), zu_ne (by omega)]⟩
        · rw [L109_0]
          simp (disch := omega) only [n32_id, zg_pos, if_pos, if_neg, zu_same, zu_ne, if_true, if_false, ne_eq, not_true_eq_false, not_false_eq_true, true_or, or_true, true_and, and_true, zg_true, fa_b_f, fa_b_t, h2, h3, e5]
          rw [L110_0, f1, L109_k94]
        · rw [f5 _ _ (by omega), zu_ne (by omega), zu_ne (by omega)]; exact h2
        · rw [f2, he]
        · rw [f3, hkk]
          split <;> rfl
        · rw [f5 _ _ (by omega), zu_ne (by omega), zu_same, ha]
        · rw [hkk] at u
          split at u <;> omega
        · rw [hkk] at u
          have u2 : tk_to (tk_w B n) n i - i ≤ 8 := by
            by_cases u2 : tk_to (tk_w B n) n i - i ≤ 8
            · exact u2
            · rw [if_neg u2] at u; omega
          rw [f4 u2]
          unfold tk_c
          rw [he, ha]
      · have g2 := mt (tk_w_i (B := B) (n := n) (i := i) (by omega)).mpr gw
        have e5 := hz.2.1 g2
        rw [← hb.2] at e5
        have main : ∃ F, zf_ev X (d + 1) 109 (100, [vR 2], [], zH t p q (zu E 2 5 i)) = some (some [], zH t p q F) ∧ zTC B n k F ∧ (∀ x y, (x ≠ 2 ∨ y < 3) → F x y = E x y) := by
          by_cases gd : tk_d B n i = true
          · have g3 := (tk_d_i (B := B) (n := n) (i := i) (by omega)).mp gd
            have e6 : E 3 i = B i := by rw [hb.2]; exact hz.2.2.1 g3
            have he : tk_e B n k = tk_to (tk_d B n) n i := by
              unfold tk_e
              rw [if_neg hne, ha, if_neg gw, if_pos gd]
            have hkk : tk_k B n k = if tk_to (tk_d B n) n i - i ≤ 3 then 3 else 1 := by
              unfold tk_k
              rw [if_neg hne, he, ha, if_neg gw, if_pos gd]
            obtain ⟨F, f1, f2, f3, f4, f5⟩ := T111_loop (X := X) (d := d) (t := t) (p := p) (q := q) (B := B) (n := n) (a := i) hi (j + 1) i (zu (zu E 2 5 i) 2 6 0) (hB.fr (fun b => by rw [zu_ne (by omega), zu_ne (by omega)])) (by rw [zu_ne (by omega), zu_ne (by omega)]; exact h2) (by rw [zu_ne (by omega), zu_same]) (by rw [zu_ne (by omega), zu_ne (by omega)]; exact h3) (by omega) hj (by rw [zu_same, show (i - i).toNat = 0 by omega]; rfl)
            refine ⟨F, ?_, ⟨hB.fr (fun b => by rw [f5 _ _ (by omega), zu_ne (by omega), zu_ne (by omega)]), hk, ⟨?_, ?_, ?_, ?_⟩, fun u => ?_, fun u => ?_⟩, fun x y u => by rw [f5 _ _ (by omega), zu_ne (by omega), zu_ne (by omega)]⟩
            · rw [L109_100]
              simp (disch := omega) only [n32_id, zg_pos, if_pos, if_neg, zu_same, zu_ne, if_true, if_false, ne_eq, not_true_eq_false, not_false_eq_true, true_or, or_true, true_and, and_true, zg_true, fa_b_f, fa_b_t, h2, h3, e6]
              rw [L111_0, f1, L109_k129]
            · rw [f5 _ _ (by omega), zu_ne (by omega), zu_ne (by omega)]; exact h2
            · rw [f2, he]
            · rw [f3, hkk]
              split <;> rfl
            · rw [f5 _ _ (by omega), zu_ne (by omega), zu_same, ha]
            · rw [f4]
              unfold tk_v
              rw [he, ha]
            · rw [hkk] at u
              split at u <;> omega
          · have g3 := mt (tk_d_i (B := B) (n := n) (i := i) (by omega)).mpr gd
            have e6 := hz.2.2.2.1 g3
            rw [← hb.2] at e6
            have he : tk_e B n k = i + 1 := by
              unfold tk_e
              rw [if_neg hne, ha, if_neg gw, if_neg gd]
            have hkk : tk_k B n k = if B i = 59 then 59 else 1 := by
              unfold tk_k
              rw [if_neg hne, ha, if_neg gw, if_neg gd, tk_ch_b (by omega)]
            by_cases g59 : B i = 59
            · have e7 : E 3 i = 59 := by rw [hb.2]; exact hz.2.2.2.2.2.1.mp g59
              rw [if_pos g59] at hkk
              refine ⟨zu (zu (zu E 2 5 i) 2 4 3) 2 3 (i + 1), ?_, ⟨hB.fr (fun b => by rw [zu_ne (by omega), zu_ne (by omega), zu_ne (by omega)]), hk, ⟨?_, ?_, ?_, ?_⟩, fun u => by omega, fun u => by omega⟩, fun x y u => by rw [zu_ne (by omega), zu_ne (by omega), zu_ne (by omega)]⟩
              · rw [L109_100]
                simp (disch := omega) only [n32_id, zg_pos, if_pos, if_neg, zu_same, zu_ne, if_true, if_false, ne_eq, not_true_eq_false, not_false_eq_true, true_or, or_true, true_and, and_true, zg_true, fa_b_f, fa_b_t, h2, h3, e7]
              · rw [zu_ne (by omega), zu_ne (by omega), zu_ne (by omega)]; exact h2
              · rw [zu_same, he]
              · rw [zu_ne (by omega), zu_same, hkk]; rfl
              · rw [zu_ne (by omega), zu_ne (by omega), zu_same, ha]
            · have e7 : E 3 i ≠ 59 := by
                rw [hb.2]
                exact fun h => g59 (hz.2.2.2.2.2.1.mpr h)
              rw [if_neg g59] at hkk
              refine ⟨zu (zu (zu E 2 5 i) 2 4 4) 2 3 (i + 1), ?_, ⟨hB.fr (fun b => by rw [zu_ne (by omega), zu_ne (by omega), zu_ne (by omega)]), hk, ⟨?_, ?_, ?_, ?_⟩, fun u => by omega, fun u => by omega⟩, fun x y u => by rw [zu_ne (by omega), zu_ne (by omega), zu_ne (by omega)]⟩
              · rw [L109_100]
                by_cases g8 : E 3 i < 48
                · simp (disch := omega) only [n32_id, zg_pos, if_pos, if_neg, zu_same, zu_ne, if_true, if_false, ne_eq, not_true_eq_false, not_false_eq_true, true_or, or_true, true_and, and_true, zg_true, fa_b_f, fa_b_t, h2, h3]
                · simp (disch := omega) only [n32_id, zg_pos, if_pos, if_neg, zu_same, zu_ne, if_true, if_false, ne_eq, not_true_eq_false, not_false_eq_true, true_or, or_true, true_and, and_true, zg_true, fa_b_f, fa_b_t, h2, h3]
              · rw [zu_ne (by omega), zu_ne (by omega), zu_ne (by omega)]; exact h2
              · rw [zu_same, he]
              · rw [zu_ne (by omega), zu_same, hkk]; rfl
              · rw [zu_ne (by omega), zu_ne (by omega), zu_same, ha]
        obtain ⟨F, f1, f2, f3⟩ := main
        refine ⟨F, ?_, f2, f3⟩
        rw [L109_0]
        by_cases g8 : E 3 i < 97
        · simp (disch := omega) only [n32_id, zg_pos, if_pos, if_neg, zu_same, zu_ne, if_true, if_false, ne_eq, not_true_eq_false, not_false_eq_true, true_or, or_true, true_and, and_true, zg_true, fa_b_f, fa_b_t, h2, h3]
          exact f1
        · simp (disch := omega) only [n32_id, zg_pos, if_pos, if_neg, zu_same, zu_ne, if_true, if_false, ne_eq, not_true_eq_false, not_false_eq_true, true_or, or_true, true_and, and_true, zg_true, fa_b_f, fa_b_t, h2, h3]
          exact f1
theorem T109 (hB : zBC B n E) (h2 : E 2 2 = n) (h3 : E 2 3 = k) (hk : 0 ≤ k ∧ k ≤ n) : ∃ F, zf_ev X (d + 1) 109 (0, [vR 2], [], zH t p q E) = some (some [], zH t p q F) ∧ zTC B n k F ∧ (∀ x y, (x ≠ 2 ∨ y < 3) → F x y = E x y) :=
  T109_loop hk (n - k).toNat k E hB h2 h3 hk.1 (by omega) rfl
theorem T109n (hT : zTC B n k E) : ∃ F, zf_ev X (d + 1) 109 (0, [vR 2], [], zH t p q E) = some (some [], zH t p q F) ∧ zTC B n (tk_e B n k) F ∧ (∀ x y, (x ≠ 2 ∨ y < 3) → F x y = E x y) := by
  have h1 := tk_e_r (B := B) hT.2.1.2
  have h2 := tk_a_r (B := B) hT.2.1.2
  exact T109 hT.1 hT.2.2.1.1 hT.2.2.1.2.1 (by have := hT.2.1; omega)
theorem T108 (hB : zBC B n E) (h1 : n ≤ E 2 1 ∧ E 2 1 ≤ 900) : ∃ F, zf_ev X (d + 2) 108 (0, [vR 2, vI n], [], zH t p q E) = some (some [], zH t p q F) ∧ zTC B n 0 F ∧ (∀ x y, (x ≠ 2 ∨ y < 2) → F x y = E x y) := by
  have hn := hB.1
  obtain ⟨F, f1, f2, f3⟩ := T109 (X := X) (d := d) (t := t) (p := p) (q := q) (E := zu (zu E 2 2 n) 2 3 0) (B := B) (n := n) (k := 0) (hB.fr (fun b => by rw [zu_ne (by omega), zu_ne (by omega)])) (by rw [zu_ne (by omega), zu_same]) zu_same (by omega)
  refine ⟨F, ?_, f2, fun x y u => by rw [f3 x y (by omega), zu_ne (by omega), zu_ne (by omega)]⟩
  rw [L108_0]
  by_cases g : 0 < n
  · simp (disch := omega) only [n32_id, zg_pos, if_pos, if_neg, zu_same, zu_ne, if_true, if_false, ne_eq, not_true_eq_false, not_false_eq_true, true_or, or_true, true_and, and_true, zg_true, fa_b_f, fa_b_t]
    rw [f1, L108_k22]
  · have : n = 0 := by omega
    subst this
    simp (disch := omega) only [n32_id, zg_pos, if_pos, if_neg, zu_same, zu_ne, if_true, if_false, ne_eq, not_true_eq_false, not_false_eq_true, true_or, or_true, true_and, and_true, zg_true, fa_b_f, fa_b_t]
    rw [f1, L108_k22]
theorem T112_loop {w : Nat} (hw : w < 22) (hT : zTC B n k E) : ∀ (j : Nat) (i : Int) (j3 : ZV), 0 ≤ i → i + j = tk_l w → zf_ev X d 112 (5, [vR 2, vX w, vL (tk_pk (tk_g w) i.toNat 0 0), j3, vI i], [], zH t p q E) = some (some [vI (fa_b (tk_is B n k w))], zH t p q E) := by
  have hl := tk_l_r hw
  intro j
  induction j with
  | zero =>
    intro i j3 h1 h2
    have hk := tk_kc_r (t := tk_k B n k)
    rw [L112_5 hw, show (zm_chars.getD w []).length = tk_l w from rfl, show i.toNat = tk_l w by omega, hT.2.2.1.2.2.1]
    by_cases g : tk_k B n k = 2
    · have h7 := hT.2.2.2.2 g
      have c1 := tk_c_r (B := B) hT.2.1.2 g
      have c2 := tk_wc_r hw
      have c3 := zm_lcmp_e (a := tk_c B n k) (b := tk_wc w) (by omega) (by omega) (by omega) (by omega)
      have c4 : tk_kc (tk_k B n k) = 1 := tk_kc_1.mpr g
      rw [show tk_pk (tk_g w) (tk_l w) 0 0 = tk_wc w from rfl, h7, c4]
      unfold tk_is
      by_cases g2 : tk_c B n k = tk_wc w
      · rw [if_pos (by rw [n32_id (by omega) (by omega), n32_id (by omega) (by omega)]; omega), if_neg (fun h => h rfl), if_neg (fun h => h (c3.mpr g2)), decide_eq_true ⟨g, g2⟩]
        rfl
      · rw [if_pos (by rw [n32_id (by omega) (by omega), n32_id (by omega) (by omega)]; omega), if_neg (fun h => h rfl), if_pos (fun h => g2 (c3.mp h)), decide_eq_false (fun h => g2 h.2)]
        rfl
    · have c4 := mt tk_kc_1.mp g
      unfold tk_is
      rw [if_pos (by rw [n32_id (by omega) (by omega), n32_id (by omega) (by omega)]; omega), if_pos (by rw [n32_id (by omega) (by omega)]; exact c4), decide_eq_false (fun h => g h.1)]
      rfl
  | succ j ih =>
    intro i j3 h1 h2
    have hr := tk_pk_r (f := tk_g w) i.toNat 0 (fun x a b => by rw [Int.zero_add]; exact tk_g_r hw a (by omega))
    have hp := tk_p8 i.toNat (by omega)
    have hg := tk_g_r hw (x := i) h1 (by omega)
    have e := tk_pk_s (f := tk_g w) i.toNat 0 0
    rw [L112_5 hw, show (zm_chars.getD w []).length = tk_l w from rfl, n32_id (by omega) (by omega), n32_id (z := i) (by omega) (by omega), show (zm_chars.getD w []).getD i.toNat 0 = tk_g w i from rfl, if_neg (by omega), zg_pos (by omega), n32_id (by omega) (by omega), tk_or (by omega) (by omega) (by omega) (by omega)]
    have e2 := ih (i + 1) vJ (by omega) (by omega)
    rw [show (i + 1).toNat = i.toNat + 1 by omega, e, show (0 : Int) + (i.toNat : Int) = i by omega] at e2
    rw [show tk_g w i - 97 + 1 = tk_g w i - 96 by omega]
    exact e2
theorem T112 {w : Nat} (hw : w < 22) (hT : zTC B n k E) : zf_ev X d 112 (0, [vR 2, vX w, vJ, vJ, vJ], [], zH t p q E) = some (some [vI (fa_b (tk_is B n k w))], zH t p q E) := by
  rw [L112_0]
  exact T112_loop hw hT (tk_l w) 0 vJ (by omega) (by omega)
end CT

/-! what holds of the cells that the reader has told so far -/
def pI1 (f : Int → Int) : Prop := (f 0 = 0 ∨ (3 ≤ f 0 ∧ f 0 ≤ 12)) ∧ (0 ≤ f 1 ∧ f 1 ≤ 6) ∧ (0 ≤ f 2 ∧ f 2 ≤ 9) ∧ (0 ≤ f 3 ∧ f 3 ≤ 4) ∧ (0 ≤ f 4 ∧ f 4 ≤ 6) ∧ (0 ≤ f 5 ∧ f 5 ≤ 3) ∧ (0 ≤ f 6 ∧ f 6 ≤ 5) ∧ (0 ≤ f 7 ∧ f 7 ≤ 3) ∧ (f 0 = 0 → f 3 = 0 ∧ f 4 = 0 ∧ f 5 = 0 ∧ f 6 = 0 ∧ f 7 = 0) ∧ (0 < f 0 → 1 ≤ f 1)
def pI (f : Int → Int) : Prop := pI1 f ∧ (∀ r, 0 ≤ r → r < 7 → (0 ≤ f (8 + r) ∧ f (8 + r) ≤ 7) ∧ 0 ≤ f (15 + r) ∧ f (15 + r) ≤ 1) ∧ (∀ k, 22 ≤ k → k < 81 → 0 ≤ f k ∧ f k ≤ 1000) ∧
  (∀ s, 0 ≤ s → s < f 3 → f (22 + 2 * s) < f 0 ∧ 1 ≤ f (22 + 2 * s + 1) ∧ f (22 + 2 * s + 1) ≤ f 1) ∧
  (∀ m, 0 ≤ m → m < f 4 → f (30 + 5 * m) ≤ 3 ∧ f (30 + 5 * m + 1) < f 0 ∧ 1 ≤ f (30 + 5 * m + 2) ∧ f (30 + 5 * m + 2) ≤ f 1 ∧ f (30 + 5 * m + 3) ≤ 9 ∧ f (30 + 5 * m + 4) ≤ 100) ∧
  (∀ i, 0 ≤ i → i < f 5 → f (60 + 2 * i) < f 0 ∧ 1 ≤ f (60 + 2 * i + 1) ∧ f (60 + 2 * i + 1) ≤ f 1) ∧
  (∀ i, 0 ≤ i → i < f 6 → f (66 + 3 * i) < f 0 ∧ 1 ≤ f (66 + 3 * i + 1) ∧ f (66 + 3 * i + 1) ≤ f 1 ∧ f (66 + 3 * i + 2) < f 0) ∧
  (∀ s x, 0 ≤ s → s < f 3 → 0 ≤ x → x < f 3 → s ≠ x → ¬ (f (22 + 2 * s) = f (22 + 2 * x) ∧ f (22 + 2 * s + 1) = f (22 + 2 * x + 1))) ∧
  (∀ s i, 0 ≤ s → s < f 3 → 0 ≤ i → i < f 5 → ¬ (f (22 + 2 * s) = f (60 + 2 * i) ∧ f (22 + 2 * s + 1) = f (60 + 2 * i + 1))) ∧
  sp_cb (fun r => decide (f (8 + r) = 7)) 6 1 ≤ f 7
theorem sp_cb_m {b c : Int → Bool} : ∀ (k : Nat) (i : Int), (∀ j, i ≤ j → j < i + k → b j = true → c j = true) → sp_cb b k i ≤ sp_cb c k i := by
  intro k
  induction k with
  | zero => intro i h; exact Int.le_refl _
  | succ k ih =>
    intro i h
    have h1 := ih (i + 1) (fun j a b => h j (by omega) (by omega))
    show (if b i = true then 1 else 0) + sp_cb b k (i + 1) ≤ (if c i = true then 1 else 0) + sp_cb c k (i + 1)
    by_cases g : b i = true
    · rw [if_pos g, if_pos (h i (by omega) (by omega) g)]; omega
    · rw [if_neg g]
      split <;> omega
theorem sp_cb_1 {b c : Int → Bool} {x : Int} : ∀ (k : Nat) (i : Int), (∀ j, i ≤ j → j < i + k → j ≠ x → b j = true → c j = true) → sp_cb b k i ≤ sp_cb c k i + 1 := by
  intro k
  induction k with
  | zero => intro i h; show (0 : Int) ≤ 0 + 1; omega
  | succ k ih =>
    intro i h
    show (if b i = true then 1 else 0) + sp_cb b k (i + 1) ≤ (if c i = true then 1 else 0) + sp_cb c k (i + 1) + 1
    by_cases e : i = x
    · have h1 := sp_cb_m (b := b) (c := c) k (i + 1) (fun j a b => h j (by omega) (by omega) (by omega))
      split <;> split <;> omega
    · have h1 := ih (i + 1) (fun j a b => h j (by omega) (by omega))
      by_cases g : b i = true
      · rw [if_pos g, if_pos (h i (by omega) (by omega) e g)]; omega
      · rw [if_neg g]
        split <;> omega
theorem fa_any_f {b : Int → Bool} : ∀ (k : Nat) (i : Int), fa_any b k i = false → ∀ j, i ≤ j → j < i + k → b j = false := by
  intro k
  induction k with
  | zero => intro i h j a c; omega
  | succ k ih =>
    intro i h j a c
    have h : (b i || fa_any b k (i + 1)) = false := h
    rw [Bool.or_eq_false_iff] at h
    by_cases e : j = i
    · rw [e]; exact h.1
    · exact ih (i + 1) h.2 j (by omega) (by omega)
theorem pl_at_f {f : Int → Int} {c r : Int} (h : pl_at f c r = false) : (∀ s, 0 ≤ s → s < f 3 → ¬ (f (22 + 2 * s) = c ∧ f (22 + 2 * s + 1) = r)) ∧ (∀ i, 0 ≤ i → i < f 5 → ¬ (f (60 + 2 * i) = c ∧ f (60 + 2 * i + 1) = r)) := by
  unfold pl_at at h
  rw [Bool.or_eq_false_iff] at h
  constructor
  · intro s a b
    have := fa_any_f _ _ h.1 s (by omega) (by omega)
    exact of_decide_eq_false this
  · intro s a b
    have := fa_any_f _ _ h.2 s (by omega) (by omega)
    exact of_decide_eq_false this
section PV
variable {f : Int → Int}
theorem pI_hall {c r o : Int} (h : pI f) (h0 : f 0 ≤ 0) (hc : 3 ≤ c ∧ c ≤ 12) (hr : 1 ≤ r ∧ r ≤ 6) (ho : 0 ≤ o ∧ o ≤ 9) : pI (pu (pu (pu f 0 c) 1 r) 2 o) := by
  obtain ⟨⟨a0, a1, a2, a3, a4, a5, a6, a7, a8, a9⟩, h2, h3, h4, h5, h6, h7, h8, h9, h10⟩ := h
  have b := a8 (by omega)
  refine ⟨?_, fun x u v => ?_, fun x u v => ?_, fun x u v => ?_, fun x u v => ?_, fun x u v => ?_, fun x u v => ?_, fun x y u v => ?_, fun x y u v => ?_, ?_⟩
  · unfold pI1
    simp (disch := omega) only [pu_n, pu_s]
    omega
  · simp (disch := omega) only [pu_n, pu_s]
    exact h2 x u v
  · simp (disch := omega) only [pu_n, pu_s]
    exact h3 x u v
  · simp (disch := omega) only [pu_n, pu_s] at v
    omega
  · simp (disch := omega) only [pu_n, pu_s] at v
    omega
  · simp (disch := omega) only [pu_n, pu_s] at v
    omega
  · simp (disch := omega) only [pu_n, pu_s] at v
    omega
  · simp (disch := omega) only [pu_n, pu_s] at v
    omega
  · simp (disch := omega) only [pu_n, pu_s] at v
    omega
  · simp (disch := omega) only [pu_n, pu_s]
    rw [sp_cb_c (c := fun r => decide (f (8 + r) = 7)) _ _ (fun j a b => by simp (disch := omega) only [pu_n, pu_s])]
    exact h10
theorem pI_air {row v : Int} (h : pI f) (hr : 1 ≤ row ∧ row ≤ 6) (hv : 0 ≤ v ∧ v ≤ 6) : pI (pu (pu f (8 + row) v) (15 + row) 1) := by
  obtain ⟨⟨a0, a1, a2, a3, a4, a5, a6, a7, a8, a9⟩, h2, h3, h4, h5, h6, h7, h8, h9, h10⟩ := h
  refine ⟨?_, fun x u v => ?_, fun x u v => ?_, fun x u v => ?_, fun x u v => ?_, fun x u v => ?_, fun x u v => ?_, fun x y u v w z => ?_, fun x y u v w z => ?_, ?_⟩
  · unfold pI1
    simp (disch := omega) only [pu_n, pu_s]
    omega
  · have := h2 x u v
    by_cases e : x = row
    · rw [e] at this ⊢
      simp (disch := omega) only [pu_n, pu_s]
      omega
    · simp (disch := omega) only [pu_n, pu_s]
      exact this
  · simp (disch := omega) only [pu_n, pu_s]
    exact h3 x u v
  · simp (disch := omega) only [pu_n, pu_s] at v
    simp (disch := omega) only [pu_n, pu_s]
    exact h4 x u v
  · simp (disch := omega) only [pu_n, pu_s] at v
    simp (disch := omega) only [pu_n, pu_s]
    exact h5 x u v
  · simp (disch := omega) only [pu_n, pu_s] at v
    simp (disch := omega) only [pu_n, pu_s]
    exact h6 x u v
  · simp (disch := omega) only [pu_n, pu_s] at v
    simp (disch := omega) only [pu_n, pu_s]
    exact h7 x u v
  · simp (disch := omega) only [pu_n, pu_s] at v z
    simp (disch := omega) only [pu_n, pu_s]
    exact h8 x y u v w z
  · simp (disch := omega) only [pu_n, pu_s] at v z
    simp (disch := omega) only [pu_n, pu_s]
    exact h9 x y u v w z
  · simp (disch := omega) only [pu_n, pu_s]
    have := sp_cb_m (b := fun r => decide (pu (pu f (8 + row) v) (15 + row) 1 (8 + r) = 7)) (c := fun r => decide (f (8 + r) = 7)) 6 1 (fun j a b g => by
      have g : pu (pu f (8 + row) v) (15 + row) 1 (8 + j) = 7 := of_decide_eq_true g
      rw [pu_n (by omega)] at g
      by_cases e : j = row
      · rw [e, pu_s] at g
        omega
      · rw [pu_n (by omega)] at g
        exact decide_eq_true g)
    omega
theorem pI_fog {row : Int} (h : pI f) (hr : 1 ≤ row ∧ row ≤ 6) (h0 : 0 < f 0) (hf : f 7 < 3) : pI (pu (pu (pu f (8 + row) 7) (15 + row) 1) 7 (f 7 + 1)) := by
  obtain ⟨⟨a0, a1, a2, a3, a4, a5, a6, a7, a8, a9⟩, h2, h3, h4, h5, h6, h7, h8, h9, h10⟩ := h
  refine ⟨?_, fun x u v => ?_, fun x u v => ?_, fun x u v => ?_, fun x u v => ?_, fun x u v => ?_, fun x u v => ?_, fun x y u v w z => ?_, fun x y u v w z => ?_, ?_⟩
  · unfold pI1
    simp (disch := omega) only [pu_n, pu_s]
    omega
  · have := h2 x u v
    by_cases e : x = row
    · rw [e] at this ⊢
      simp (disch := omega) only [pu_n, pu_s]
      omega
    · simp (disch := omega) only [pu_n, pu_s]
      exact this
  · simp (disch := omega) only [pu_n, pu_s]
    exact h3 x u v
  · simp (disch := omega) only [pu_n, pu_s] at v
    simp (disch := omega) only [pu_n, pu_s]
    exact h4 x u v
  · simp (disch := omega) only [pu_n, pu_s] at v
    simp (disch := omega) only [pu_n, pu_s]
    exact h5 x u v
  · simp (disch := omega) only [pu_n, pu_s] at v
    simp (disch := omega) only [pu_n, pu_s]
    exact h6 x u v
  · simp (disch := omega) only [pu_n, pu_s] at v
    simp (disch := omega) only [pu_n, pu_s]
    exact h7 x u v
  · simp (disch := omega) only [pu_n, pu_s] at v z
    simp (disch := omega) only [pu_n, pu_s]
    exact h8 x y u v w z
  · simp (disch := omega) only [pu_n, pu_s] at v z
    simp (disch := omega) only [pu_n, pu_s]
    exact h9 x y u v w z
  · have := sp_cb_1 (b := fun r => decide (pu (pu (pu f (8 + row) 7) (15 + row) 1) 7 (f 7 + 1) (8 + r) = 7)) (c := fun r => decide (f (8 + r) = 7)) (x := row) 6 1 (fun j a b e g => by
      have g : pu (pu (pu f (8 + row) 7) (15 + row) 1) 7 (f 7 + 1) (8 + j) = 7 := of_decide_eq_true g
      rw [pu_n (by omega), pu_n (by omega), pu_n (by omega)] at g
      exact decide_eq_true g)
    rw [pu_s]
    omega
theorem pI_spk {c r : Int} (h : pI f) (hc : 0 ≤ c ∧ c < f 0) (hr : 1 ≤ r ∧ r ≤ f 1) (hf : f 3 < 4) (ht : pl_at f c r = false) : pI (pu (pu (pu f (22 + 2 * f 3) c) (22 + 2 * f 3 + 1) r) 3 (f 3 + 1)) := by
  obtain ⟨⟨a0, a1, a2, a3, a4, a5, a6, a7, a8, a9⟩, h2, h3, h4, h5, h6, h7, h8, h9, h10⟩ := h
  obtain ⟨t1, t2⟩ := pl_at_f ht
  refine ⟨?_, fun x u v => ?_, fun x u v => ?_, fun x u v => ?_, fun x u v => ?_, fun x u v => ?_, fun x u v => ?_, fun x y u v w z e => ?_, fun x y u v w z => ?_, ?_⟩
  · unfold pI1
    simp (disch := omega) only [pu_n, pu_s]
    omega
  · simp (disch := omega) only [pu_n, pu_s]
    exact h2 x u v
  · have := h3 x u v
    by_cases e1 : x = 22 + 2 * f 3
    · rw [e1]
      simp (disch := omega) only [pu_n, pu_s]
      omega
    · by_cases e2 : x = 22 + 2 * f 3 + 1
      · rw [e2]
        simp (disch := omega) only [pu_n, pu_s]
        omega
      · simp (disch := omega) only [pu_n, pu_s]
        exact this
  · simp (disch := omega) only [pu_n, pu_s] at v
    by_cases e : x = f 3
    · rw [e]
      simp (disch := omega) only [pu_n, pu_s]
      omega
    · simp (disch := omega) only [pu_n, pu_s]
      exact h4 x u (by omega)
  · simp (disch := omega) only [pu_n, pu_s] at v
    simp (disch := omega) only [pu_n, pu_s]
    exact h5 x u v
  · simp (disch := omega) only [pu_n, pu_s] at v
    simp (disch := omega) only [pu_n, pu_s]
    exact h6 x u v
  · simp (disch := omega) only [pu_n, pu_s] at v
    simp (disch := omega) only [pu_n, pu_s]
    exact h7 x u v
  · simp (disch := omega) only [pu_n, pu_s] at v z
    by_cases e1 : x = f 3
    · rw [e1]
      have := t1 y w (by omega)
      simp (disch := omega) only [pu_n, pu_s]
      exact fun g => this ⟨g.1.symm, g.2.symm⟩
    · by_cases e2 : y = f 3
      · rw [e2]
        have := t1 x u (by omega)
        simp (disch := omega) only [pu_n, pu_s]
        exact this
      · simp (disch := omega) only [pu_n, pu_s]
        exact h8 x y u (by omega) w (by omega) e
  · simp (disch := omega) only [pu_n, pu_s] at v z
    by_cases e1 : x = f 3
    · rw [e1]
      have := t2 y w (by omega)
      simp (disch := omega) only [pu_n, pu_s]
      exact fun g => this ⟨g.1.symm, g.2.symm⟩
    · simp (disch := omega) only [pu_n, pu_s]
      exact h9 x y u (by omega) w z
  · simp (disch := omega) only [pu_n, pu_s]
    rw [sp_cb_c (c := fun r => decide (f (8 + r) = 7)) _ _ (fun j a b => by simp (disch := omega) only [pu_n, pu_s])]
    exact h10
theorem pI_lmp {c r : Int} (h : pI f) (hc : 0 ≤ c ∧ c < f 0) (hr : 1 ≤ r ∧ r ≤ f 1) (hf : f 5 < 3) (ht : pl_at f c r = false) : pI (pu (pu (pu f (60 + 2 * f 5) c) (60 + 2 * f 5 + 1) r) 5 (f 5 + 1)) := by
  obtain ⟨⟨a0, a1, a2, a3, a4, a5, a6, a7, a8, a9⟩, h2, h3, h4, h5, h6, h7, h8, h9, h10⟩ := h
  obtain ⟨t1, t2⟩ := pl_at_f ht
  refine ⟨?_, fun x u v => ?_, fun x u v => ?_, fun x u v => ?_, fun x u v => ?_, fun x u v => ?_, fun x u v => ?_, fun x y u v w z => ?_, fun x y u v w z => ?_, ?_⟩
  · unfold pI1
    simp (disch := omega) only [pu_n, pu_s]
    omega
  · simp (disch := omega) only [pu_n, pu_s]
    exact h2 x u v
  · have := h3 x u v
    by_cases e1 : x = 60 + 2 * f 5
    · rw [e1]
      simp (disch := omega) only [pu_n, pu_s]
      omega
    · by_cases e2 : x = 60 + 2 * f 5 + 1
      · rw [e2]
        simp (disch := omega) only [pu_n, pu_s]
        omega
      · simp (disch := omega) only [pu_n, pu_s]
        exact this
  · simp (disch := omega) only [pu_n, pu_s] at v
    simp (disch := omega) only [pu_n, pu_s]
    exact h4 x u v
  · simp (disch := omega) only [pu_n, pu_s] at v
    simp (disch := omega) only [pu_n, pu_s]
    exact h5 x u v
  · simp (disch := omega) only [pu_n, pu_s] at v
    by_cases e : x = f 5
    · rw [e]
      simp (disch := omega) only [pu_n, pu_s]
      omega
    · simp (disch := omega) only [pu_n, pu_s]
      exact h6 x u (by omega)
  · simp (disch := omega) only [pu_n, pu_s] at v
    simp (disch := omega) only [pu_n, pu_s]
    exact h7 x u v
  · simp (disch := omega) only [pu_n, pu_s] at v z
    simp (disch := omega) only [pu_n, pu_s]
    exact h8 x y u v w z
  · simp (disch := omega) only [pu_n, pu_s] at v z
    by_cases e1 : y = f 5
    · rw [e1]
      have := t1 x u (by omega)
      simp (disch := omega) only [pu_n, pu_s]
      exact this
    · simp (disch := omega) only [pu_n, pu_s]
      exact h9 x y u v w (by omega)
  · simp (disch := omega) only [pu_n, pu_s]
    rw [sp_cb_c (c := fun r => decide (f (8 + r) = 7)) _ _ (fun j a b => by simp (disch := omega) only [pu_n, pu_s])]
    exact h10
theorem pI_mem {v0 v1 v2 v3 v4 : Int} (h : pI f) (g0 : 0 ≤ v0 ∧ v0 ≤ 3) (g1 : 0 ≤ v1 ∧ v1 < f 0) (g2 : 1 ≤ v2 ∧ v2 ≤ f 1) (g3 : 0 ≤ v3 ∧ v3 ≤ 9) (g4 : 0 ≤ v4 ∧ v4 ≤ 100) (hf : f 4 < 6) : pI (pu (pu (pu (pu (pu (pu f (30 + 5 * f 4) v0) (30 + 5 * f 4 + 1) v1) (30 + 5 * f 4 + 2) v2) (30 + 5 * f 4 + 3) v3) (30 + 5 * f 4 + 4) v4) 4 (f 4 + 1)) := by
  obtain ⟨⟨a0, a1, a2, a3, a4, a5, a6, a7, a8, a9⟩, h2, h3, h4, h5, h6, h7, h8, h9, h10⟩ := h
  refine ⟨?_, fun x u v => ?_, fun x u v => ?_, fun x u v => ?_, fun x u v => ?_, fun x u v => ?_, fun x u v => ?_, fun x y u v w z => ?_, fun x y u v w z => ?_, ?_⟩
  · unfold pI1
    simp (disch := omega) only [pu_n, pu_s]
    omega
  · simp (disch := omega) only [pu_n, pu_s]
    exact h2 x u v
  · have := h3 x u v
    by_cases e1 : x = 30 + 5 * f 4
    · rw [e1]
      simp (disch := omega) only [pu_n, pu_s]
      omega
    by_cases e2 : x = 30 + 5 * f 4 + 1
    · rw [e2]
      simp (disch := omega) only [pu_n, pu_s]
      omega
    by_cases e3 : x = 30 + 5 * f 4 + 2
    · rw [e3]
      simp (disch := omega) only [pu_n, pu_s]
      omega
    by_cases e4 : x = 30 + 5 * f 4 + 3
    · rw [e4]
      simp (disch := omega) only [pu_n, pu_s]
      omega
    by_cases e5 : x = 30 + 5 * f 4 + 4
    · rw [e5]
      simp (disch := omega) only [pu_n, pu_s]
      omega
    simp (disch := omega) only [pu_n, pu_s]
    exact this
  · simp (disch := omega) only [pu_n, pu_s] at v
    simp (disch := omega) only [pu_n, pu_s]
    exact h4 x u v
  · simp (disch := omega) only [pu_n, pu_s] at v
    by_cases e : x = f 4
    · rw [e]
      simp (disch := omega) only [pu_n, pu_s]
      omega
    · simp (disch := omega) only [pu_n, pu_s]
      exact h5 x u (by omega)
  · simp (disch := omega) only [pu_n, pu_s] at v
    simp (disch := omega) only [pu_n, pu_s]
    exact h6 x u v
  · simp (disch := omega) only [pu_n, pu_s] at v
    simp (disch := omega) only [pu_n, pu_s]
    exact h7 x u v
  · simp (disch := omega) only [pu_n, pu_s] at v z
    simp (disch := omega) only [pu_n, pu_s]
    exact h8 x y u v w z
  · simp (disch := omega) only [pu_n, pu_s] at v z
    simp (disch := omega) only [pu_n, pu_s]
    exact h9 x y u v w z
  · simp (disch := omega) only [pu_n, pu_s]
    rw [sp_cb_c (c := fun r => decide (f (8 + r) = 7)) _ _ (fun j a b => by simp (disch := omega) only [pu_n, pu_s])]
    exact h10
theorem pI_flt {v1 v2 v3 : Int} (h : pI f) (g1 : 0 ≤ v1 ∧ v1 < f 0) (g2 : 1 ≤ v2 ∧ v2 ≤ f 1) (g3 : 0 ≤ v3 ∧ v3 < f 0) (hf : f 6 < 5) : pI (pu (pu (pu (pu f (66 + 3 * f 6) v1) (66 + 3 * f 6 + 1) v2) (66 + 3 * f 6 + 2) v3) 6 (f 6 + 1)) := by
  obtain ⟨⟨a0, a1, a2, a3, a4, a5, a6, a7, a8, a9⟩, h2, h3, h4, h5, h6, h7, h8, h9, h10⟩ := h
  refine ⟨?_, fun x u v => ?_, fun x u v => ?_, fun x u v => ?_, fun x u v => ?_, fun x u v => ?_, fun x u v => ?_, fun x y u v w z => ?_, fun x y u v w z => ?_, ?_⟩
  · unfold pI1
    simp (disch := omega) only [pu_n, pu_s]
    omega
  · simp (disch := omega) only [pu_n, pu_s]
    exact h2 x u v
  · have := h3 x u v
    by_cases e1 : x = 66 + 3 * f 6
    · rw [e1]
      simp (disch := omega) only [pu_n, pu_s]
      omega
    by_cases e2 : x = 66 + 3 * f 6 + 1
    · rw [e2]
      simp (disch := omega) only [pu_n, pu_s]
      omega
    by_cases e3 : x = 66 + 3 * f 6 + 2
    · rw [e3]
      simp (disch := omega) only [pu_n, pu_s]
      omega
    simp (disch := omega) only [pu_n, pu_s]
    exact this
  · simp (disch := omega) only [pu_n, pu_s] at v
    simp (disch := omega) only [pu_n, pu_s]
    exact h4 x u v
  · simp (disch := omega) only [pu_n, pu_s] at v
    simp (disch := omega) only [pu_n, pu_s]
    exact h5 x u v
  · simp (disch := omega) only [pu_n, pu_s] at v
    simp (disch := omega) only [pu_n, pu_s]
    exact h6 x u v
  · simp (disch := omega) only [pu_n, pu_s] at v
    by_cases e : x = f 6
    · rw [e]
      simp (disch := omega) only [pu_n, pu_s]
      omega
    · simp (disch := omega) only [pu_n, pu_s]
      exact h7 x u (by omega)
  · simp (disch := omega) only [pu_n, pu_s] at v z
    simp (disch := omega) only [pu_n, pu_s]
    exact h8 x y u v w z
  · simp (disch := omega) only [pu_n, pu_s] at v z
    simp (disch := omega) only [pu_n, pu_s]
    exact h9 x y u v w z
  · simp (disch := omega) only [pu_n, pu_s]
    rw [sp_cb_c (c := fun r => decide (f (8 + r) = 7)) _ _ (fun j a b => by simp (disch := omega) only [pu_n, pu_s])]
    exact h10
variable {B : Int → Int} {n : Int} {L : Int → Int}
theorem ps_N_l {lo hi : Int} {x : Int × Int} : ps_N B n lo hi (.inl x) = .inl x := rfl
theorem ps_W_l {w : Nat} {x : Int × Int} : ps_W B n w (.inl x) = .inl x := rfl
theorem ps_R_l {lo hi : Int} {told : Int → Bool} {x : Int × Int} : ps_R B n lo hi told (.inl x) = .inl x := rfl
theorem ps_M_l {m : Int} {x : Int × Int} : ps_M B n L m (.inl x) = .inl x := rfl
theorem ps_F_l {x : Int × Int} : ps_F B n (.inl x) = .inl x := rfl
theorem ps_D_l {x : Int × Int} : ps_D B n (.inl x) = .inl x := rfl
/-- a status that went on, went on before -/
theorem ps_N_b {lo hi k : Int} {s : PS} (h : ps_N B n lo hi s = .inr k) : ∃ j, s = .inr j ∧ ps_N B n lo hi (.inr j) = .inr k := by
  cases s with
  | inl x => cases h
  | inr j => exact ⟨j, rfl, h⟩
theorem ps_W_b {w : Nat} {k : Int} {s : PS} (h : ps_W B n w s = .inr k) : ∃ j, s = .inr j ∧ ps_W B n w (.inr j) = .inr k := by
  cases s with
  | inl x => cases h
  | inr j => exact ⟨j, rfl, h⟩
theorem ps_R_b {lo hi k : Int} {told : Int → Bool} {s : PS} (h : ps_R B n lo hi told s = .inr k) : ∃ j, s = .inr j ∧ ps_R B n lo hi told (.inr j) = .inr k := by
  cases s with
  | inl x => cases h
  | inr j => exact ⟨j, rfl, h⟩
theorem ps_F_b {k : Int} {s : PS} (h : ps_F B n s = .inr k) : ∃ j, s = .inr j ∧ pv_F B n s ≠ -1 := by
  cases s with
  | inl x => cases h
  | inr j =>
    refine ⟨j, rfl, fun g => ?_⟩
    have h : (if pv_F B n (.inr j) = -1 then .inl (1, tk_a B n j) else .inr (tk_e B n j) : PS) = .inr k := h
    rw [if_pos g] at h
    cases h
/-- numbers read without a fault lie in their bounds -/
theorem ps_N_v {lo hi k : Int} {s : PS} (h : ps_N B n lo hi s = .inr k) : lo ≤ pv_N B n lo hi s ∧ pv_N B n lo hi s ≤ hi := by
  obtain ⟨j, rfl, h⟩ := ps_N_b h
  have := ps_N_inr h
  rw [this.2.2.2.2]
  exact ⟨this.2.1, this.2.2.1⟩
theorem ps_R_v {lo hi k : Int} {told : Int → Bool} {s : PS} (h : ps_R B n lo hi told s = .inr k) : (lo ≤ pv_N B n lo hi s ∧ pv_N B n lo hi s ≤ hi) ∧ told (pv_N B n lo hi s) = false := by
  obtain ⟨j, rfl, h⟩ := ps_R_b h
  have := ps_R_inr h
  exact ⟨ps_N_v this.1, this.2⟩
theorem pI_line {k k2 : Int} (hI : pI f) (h : (pl_line B n f L k).1 = .inr k2) : pI (pl_line B n f L k).2.1 := by
  have h1 := hI.1
  unfold pI1 at h1
  unfold pl_line at h ⊢
  cases hs : pl_beg B n f k with
  | inl x => rw [hs] at h; cases h
  | inr k3 =>
    rw [hs] at h
    have h : (pl_rest B n f L k (.inr k3)).1 = .inr k2 := h
    show pI (pl_rest B n f L k (.inr k3)).2.1
    unfold pl_beg at hs
    have hr := tk_ls_r (B := B) (n := n) (k := k)
    unfold pl_rest at h ⊢
    by_cases g0 : tk_ls B n k = 0
    · rw [if_pos g0] at hs; cases hs
    rw [if_neg g0] at hs
    by_cases g1 : tk_ls B n k = 1
    · rw [if_pos g1] at hs h ⊢
      by_cases c0 : 0 < f 0
      · rw [if_pos c0] at hs; cases hs
      have h : ps_N B n 0 9 (ps_W B n 9 (ps_N B n 1 6 (ps_W B n 8 (ps_N B n 3 12 (ps_W B n 7 (.inr k3)))))) = .inr k2 := h
      have e1 := ps_N_v h
      obtain ⟨j1, w1, -⟩ := ps_N_b h
      obtain ⟨j2, w2, -⟩ := ps_W_b w1
      have e2 := ps_N_v w2
      obtain ⟨j3, w3, -⟩ := ps_N_b w2
      obtain ⟨j4, w4, -⟩ := ps_W_b w3
      have e3 := ps_N_v w4
      exact pI_hall hI (by omega) e3 e2 e1
    rw [if_neg g1] at hs h ⊢
    by_cases c0 : f 0 ≤ 0
    · rw [if_pos c0] at hs; cases hs
    rw [if_neg c0] at hs
    have c1 : pl_room f (tk_ls B n k) = true := by
      by_cases c1 : pl_room f (tk_ls B n k) = true
      · exact c1
      · rw [if_neg c1] at hs; cases hs
    clear hs
    unfold pl_room at c1
    by_cases g2 : tk_ls B n k = 2
    · rw [if_pos g2] at h ⊢
      have h : ps_N B n 0 3 (ps_D B n (ps_R B n 1 (f 1) (pl_told f) (.inr k3))) = .inr k2 := h
      have e1 := ps_N_v h
      have e3 := pv_D_r (B := B) (n := n) (s := ps_R B n 1 (f 1) (pl_told f) (.inr k3))
      obtain ⟨j1, w1, -⟩ := ps_N_b h
      have w2 : ∃ j, ps_R B n 1 (f 1) (pl_told f) (.inr k3) = .inr j := by
        cases hq : ps_R B n 1 (f 1) (pl_told f) (.inr k3) with
        | inl x => rw [hq] at w1; cases w1
        | inr j => exact ⟨j, rfl⟩
      obtain ⟨j2, w2⟩ := w2
      have e2 := ps_R_v w2
      refine pI_air hI (by omega) ?_
      revert e1 e3
      generalize pv_N B n 0 3 (ps_D B n (ps_R B n 1 (f 1) (pl_told f) (.inr k3))) = a
      generalize pv_D B n (ps_R B n 1 (f 1) (pl_told f) (.inr k3)) = b
      intro e1 e3
      have : b = -1 ∨ b = 0 ∨ b = 1 := by omega
      rcases this with rfl | rfl | rfl <;> omega
    rw [if_neg g2] at h ⊢
    by_cases g3 : tk_ls B n k = 3
    · rw [if_pos g3] at h c1 ⊢
      have h : ps_R B n 1 (f 1) (pl_told f) (.inr k3) = .inr k2 := h
      have e2 := ps_R_v h
      exact pI_fog hI (by omega) (by omega) (of_decide_eq_true c1)
    rw [if_neg g3] at h c1 ⊢
    by_cases g4 : tk_ls B n k = 4
    · rw [if_pos g4] at h c1 ⊢
      have h : ps_R B n 1 (f 1) (pl_at f (pv_N B n 0 (f 0 - 1) (ps_W B n 12 (ps_M B n L (f 3 + f 4) (.inr k3))))) (ps_N B n 0 (f 0 - 1) (ps_W B n 12 (ps_M B n L (f 3 + f 4) (.inr k3)))) = .inr k2 := h
      have e2 := ps_R_v h
      obtain ⟨j1, w1, -⟩ := ps_R_b h
      have e1 := ps_N_v w1
      exact pI_spk hI (by omega) e2.1 (of_decide_eq_true c1) e2.2
    rw [if_neg g4] at h c1 ⊢
    by_cases g5 : tk_ls B n k = 5
    · rw [if_pos g5] at h c1 ⊢
      have h : pm5 B n f L (.inr k3) = .inr k2 := h
      have e5 := ps_N_v h
      obtain ⟨j1, w1, -⟩ := ps_N_b h
      obtain ⟨j2, w2, -⟩ := ps_W_b w1
      have e4 := ps_N_v w2
      obtain ⟨j3, w3, -⟩ := ps_N_b w2
      obtain ⟨j4, w4, -⟩ := ps_W_b w3
      have e3 := ps_N_v w4
      obtain ⟨j5, w5, -⟩ := ps_N_b w4
      obtain ⟨j6, w6, -⟩ := ps_W_b w5
      have e2 := ps_N_v w6
      obtain ⟨j7, w7, -⟩ := ps_N_b w6
      obtain ⟨j8, w8, -⟩ := ps_W_b w7
      obtain ⟨j9, -, w9⟩ := ps_F_b w8
      have e1 := pv_F_r (B := B) (n := n) (s := ps_M B n L (f 3 + f 4) (.inr k3))
      exact pI_mem hI (by omega) (by omega) e3 e4 e5 (of_decide_eq_true c1)
    rw [if_neg g5] at h c1 ⊢
    by_cases g6 : tk_ls B n k = 6
    · rw [if_pos g6] at h c1 ⊢
      have h : ps_R B n 1 (f 1) (pl_at f (pv_N B n 0 (f 0 - 1) (.inr k3))) (ps_N B n 0 (f 0 - 1) (.inr k3)) = .inr k2 := h
      have e2 := ps_R_v h
      obtain ⟨j1, w1, -⟩ := ps_R_b h
      have e1 := ps_N_v w1
      exact pI_lmp hI (by omega) e2.1 (of_decide_eq_true c1) e2.2
    rw [if_neg g6] at h c1 ⊢
    rw [if_pos (by omega)] at c1
    have h : ps_N B n 0 (f 0 - 1) (ps_W B n 21 (ps_N B n 1 (f 1) (ps_W B n 18 (ps_N B n 0 (f 0 - 1) (.inr k3))))) = .inr k2 := h
    have e3 := ps_N_v h
    obtain ⟨j1, w1, -⟩ := ps_N_b h
    obtain ⟨j2, w2, -⟩ := ps_W_b w1
    have e2 := ps_N_v w2
    obtain ⟨j3, w3, -⟩ := ps_N_b w2
    obtain ⟨j4, w4, -⟩ := ps_W_b w3
    have e1 := ps_N_v w4
    exact pI_flt hI (by omega) e2 (by omega) (of_decide_eq_true c1)
theorem pI_f0 : pI pl_f0 := by
  have e : ∀ k, (k < 8 ∨ 14 < k) → pl_f0 k = 0 := fun k h => if_neg (by omega)
  have e3 : ∀ k, 8 ≤ k → k ≤ 14 → pl_f0 k = 3 := fun k h1 h2 => if_pos ⟨h1, h2⟩
  refine ⟨?_, fun x u v => ?_, fun x u v => ?_, fun x u v => ?_, fun x u v => ?_, fun x u v => ?_, fun x u v => ?_, fun x y u v w z => ?_, fun x y u v w z => ?_, ?_⟩
  · unfold pI1
    rw [e 0 (by omega), e 1 (by omega), e 2 (by omega), e 3 (by omega), e 4 (by omega), e 5 (by omega), e 6 (by omega), e 7 (by omega)]
    omega
  · rw [e3 _ (by omega) (by omega), e (15 + x) (by omega)]
    omega
  · rw [e _ (by omega)]
    omega
  · rw [e _ (by omega)] at v; omega
  · rw [e _ (by omega)] at v; omega
  · rw [e _ (by omega)] at v; omega
  · rw [e _ (by omega)] at v; omega
  · rw [e _ (by omega)] at v; omega
  · rw [e _ (by omega)] at v; omega
  · decide
end PV

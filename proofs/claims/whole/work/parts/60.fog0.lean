/-! airs: codes, digits, sums over codes in either order -/
theorem sp_cb_snoc {b : Int → Bool} : ∀ (k : Nat) (i : Int), sp_cb b (k + 1) i = sp_cb b k i + (if b (i + k) = true then 1 else 0) := by
  intro k
  induction k with
  | zero =>
    intro i
    have e : i + ((0 : Nat) : Int) = i := by omega
    rw [e]
    show (if b i = true then 1 else 0) + 0 = 0 + _
    omega
  | succ k ih =>
    intro i
    have e1 : sp_cb b (k + 1 + 1) i = (if b i = true then 1 else 0) + sp_cb b (k + 1) (i + 1) := rfl
    have e2 : sp_cb b (k + 1) i = (if b i = true then 1 else 0) + sp_cb b k (i + 1) := rfl
    have e3 : i + 1 + (k : Int) = i + ((k + 1 : Nat) : Int) := by omega
    rw [e1, ih (i + 1), e2, e3]
    omega
theorem sp_psum_snoc {f : Int → Int} : ∀ (k : Nat) (i : Int), sp_psum f (k + 1) i = sp_psum f k i + f (i + k) := by
  intro k
  induction k with
  | zero =>
    intro i
    have e : i + ((0 : Nat) : Int) = i := by omega
    rw [e]
    show f i + 0 = 0 + f i
    omega
  | succ k ih =>
    intro i
    have e1 : sp_psum f (k + 1 + 1) i = f i + sp_psum f (k + 1) (i + 1) := rfl
    have e2 : sp_psum f (k + 1) i = f i + sp_psum f k (i + 1) := rfl
    have e3 : i + 1 + (k : Int) = i + ((k + 1 : Nat) : Int) := by omega
    rw [e1, ih (i + 1), e2, e3]
    omega
theorem sp_psum_c {f g : Int → Int} : ∀ (k : Nat) (i : Int), (∀ j, i ≤ j → j < i + k → f j = g j) → sp_psum f k i = sp_psum g k i := by
  intro k
  induction k with
  | zero => intro i h; rfl
  | succ k ih =>
    intro i h
    unfold sp_psum
    rw [h i (by omega) (by omega), ih (i + 1) (fun j a b => h j (by omega) (by omega))]
theorem sp_psum_b {f : Int → Int} : ∀ (k : Nat) (i : Int), (∀ j, i ≤ j → j < i + k → 0 ≤ f j ∧ f j ≤ 1) → 0 ≤ sp_psum f k i ∧ sp_psum f k i ≤ k := by
  intro k
  induction k with
  | zero => intro i h; exact ⟨Int.le_refl 0, Int.le_refl 0⟩
  | succ k ih =>
    intro i h
    have := ih (i + 1) (fun j a b => h j (by omega) (by omega))
    have := h i (by omega) (by omega)
    unfold sp_psum
    omega
def sp_ls (f : Int → Int) : List Nat → Int
  | [] => 0
  | a :: l => f a + sp_ls f l
theorem sp_ls_perm {f : Int → Int} {l m : List Nat} (h : l.Perm m) : sp_ls f l = sp_ls f m := by
  induction h with
  | nil => rfl
  | cons x _ ih => show f x + _ = f x + _; rw [ih]
  | swap x y l => show f y + (f x + sp_ls f l) = f x + (f y + sp_ls f l); omega
  | trans _ _ ih1 ih2 => rw [ih1, ih2]
theorem sp_ls_range {f : Int → Int} : ∀ (k i : Nat), sp_psum f k (i : Int) = sp_ls f (List.range' i k) := by
  intro k
  induction k with
  | zero => intro i; rfl
  | succ k ih =>
    intro i
    show f i + sp_psum f k ((i : Int) + 1) = f i + sp_ls f (List.range' (i + 1) k)
    rw [← ih (i + 1)]
    rfl
theorem sp_ls_map {f : Int → Int} {g : Int → Int} {G : Nat → Nat} : ∀ (l : List Nat), (∀ x, x ∈ l → (G x : Int) = g x) → sp_ls (fun x => f (g x)) l = sp_ls f (l.map G) := by
  intro l
  induction l with
  | nil => intro _; rfl
  | cons a l ih =>
    intro h
    show f (g a) + sp_ls (fun x => f (g x)) l = f (G a) + sp_ls f (l.map G)
    rw [ih (fun x hx => h x (List.mem_cons_of_mem _ hx)), h a List.mem_cons_self]
def sp_dg (x i : Int) : Int := (x.tdiv (5 ^ i.toNat)).tmod 5 - 2
def sp_rev (K x : Int) : Int := if K = 2 then 5 * x.tmod 5 + x.tdiv 5 else if K = 3 then 25 * x.tmod 5 + 5 * (x.tdiv 5).tmod 5 + x.tdiv 25 else x
theorem sp_rev0 : ∀ (K : Fin 4) (x : Fin 125), (x.val : Int) < 5 ^ K.val → (0 ≤ sp_rev (K.val : Int) (x.val : Int) ∧ sp_rev (K.val : Int) (x.val : Int) < 5 ^ K.val) ∧ sp_rev (K.val : Int) (sp_rev (K.val : Int) (x.val : Int)) = (x.val : Int) ∧ ∀ i : Fin 3, (i.val : Int) < (K.val : Int) → sp_dg (sp_rev (K.val : Int) (x.val : Int)) (i.val : Int) = sp_dg (x.val : Int) ((K.val : Int) - 1 - (i.val : Int)) := by decide +kernel
theorem sp_revp : ∀ K : Fin 4, ((List.range' 0 (5 ^ K.val)).map (fun x : Nat => (sp_rev (K.val : Int) (x : Int)).toNat)).Perm (List.range' 0 (5 ^ K.val)) := by decide +kernel
theorem sp_dg0 : ∀ (x : Fin 125) (v : Fin 3), (((x.val : Int).tdiv (5 ^ v.val)).tdiv 5 = (x.val : Int).tdiv (5 ^ (v.val + 1))) ∧ (-2 ≤ sp_dg (x.val : Int) (v.val : Int) ∧ sp_dg (x.val : Int) (v.val : Int) ≤ 2) ∧ (0 ≤ (x.val : Int).tdiv (5 ^ v.val) ∧ (x.val : Int).tdiv (5 ^ v.val) < 125) := by decide +kernel
theorem sp_rev_ok {K x : Int} (hK : 0 ≤ K ∧ K ≤ 3) (hx : 0 ≤ x ∧ x < 5 ^ K.toNat) : (0 ≤ sp_rev K x ∧ sp_rev K x < 5 ^ K.toNat) ∧ sp_rev K (sp_rev K x) = x ∧ ∀ i, 0 ≤ i → i < K → sp_dg (sp_rev K x) i = sp_dg x (K - 1 - i) := by
  have h125 : x < 125 := by
    have : K = 0 ∨ K = 1 ∨ K = 2 ∨ K = 3 := by omega
    rcases this with rfl | rfl | rfl | rfl
    · have : (5 : Int) ^ (0 : Int).toNat = 1 := by decide
      omega
    · have : (5 : Int) ^ (1 : Int).toNat = 5 := by decide
      omega
    · have : (5 : Int) ^ (2 : Int).toNat = 25 := by decide
      omega
    · have : (5 : Int) ^ (3 : Int).toNat = 125 := by decide
      omega
  have h := sp_rev0 ⟨K.toNat, by omega⟩ ⟨x.toNat, by omega⟩
  simp only [Int.toNat_of_nonneg hK.1, Int.toNat_of_nonneg hx.1] at h
  obtain ⟨h1, h2, h3⟩ := h hx.2
  refine ⟨h1, h2, fun i a b => ?_⟩
  have h4 := h3 ⟨i.toNat, by omega⟩
  simp only [Int.toNat_of_nonneg a] at h4
  exact h4 b
theorem sp_psum_rev {K : Int} (hK : 0 ≤ K ∧ K ≤ 3) (f : Int → Int) : sp_psum (fun x => f (sp_rev K x)) (5 ^ K.toNat) 0 = sp_psum f (5 ^ K.toNat) 0 := by
  have hp := sp_revp ⟨K.toNat, by omega⟩
  simp only [Int.toNat_of_nonneg hK.1] at hp
  have e1 := sp_ls_range (f := fun x => f (sp_rev K x)) (5 ^ K.toNat) 0
  have e2 := sp_ls_range (f := f) (5 ^ K.toNat) 0
  have e3 := sp_ls_map (f := f) (g := sp_rev K) (G := fun x : Nat => (sp_rev K (x : Int)).toNat) (List.range' 0 (5 ^ K.toNat)) (fun x hx => by
    have hx2 : x < 5 ^ K.toNat := by
      have := (List.mem_range'_1.mp hx).2
      omega
    have hx3 : (x : Int) < 5 ^ K.toNat := by exact_mod_cast hx2
    have := (sp_rev_ok hK (x := x) ⟨by omega, hx3⟩).1.1
    show ((sp_rev K (x : Int)).toNat : Int) = sp_rev K x
    omega)
  have e4 := sp_ls_perm (f := f) hp
  exact (e1.trans e3).trans (e4.trans e2.symm)
def sp_isu (V : Int → Fin 65537) (r : Int) : Bool := decide (((V (200 + r)).val : Int) = 7)
def sp_u (V : Int → Fin 65537) (r : Int) : Int := sp_cb (sp_isu V) (r - 1).toNat 1
def sp_K (V : Int → Fin 65537) : Int := sp_u V (((V (1)).val : Int) + 1)
def sp_p5 (V : Int → Fin 65537) : Int := 5 ^ (sp_K V).toNat
theorem sp_u_s {V : Int → Fin 65537} {r : Int} (h : 1 ≤ r) : sp_u V (r + 1) = sp_u V r + (if sp_isu V r = true then 1 else 0) := by
  unfold sp_u
  rw [show (r + 1 - 1).toNat = (r - 1).toNat + 1 by omega, sp_cb_snoc, show 1 + (((r - 1).toNat : Nat) : Int) = r by omega]
theorem sp_u_1 {V : Int → Fin 65537} : sp_u V 1 = 0 := rfl
theorem sp_u_0 {V : Int → Fin 65537} {r : Int} : 0 ≤ sp_u V r := (sp_cb_r (b := sp_isu V) (r - 1).toNat 1).1
theorem sp_u_mono {V : Int → Fin 65537} : ∀ (k : Nat) (r : Int), 1 ≤ r → sp_u V r ≤ sp_u V (r + k) := by
  intro k
  induction k with
  | zero => intro r h; rw [show r + ((0 : Nat) : Int) = r by omega]; exact Int.le_refl _
  | succ k ih =>
    intro r h
    have h1 := ih r h
    have h2 := sp_u_s (V := V) (r := r + k) (by omega)
    rw [show r + ((k + 1 : Nat) : Int) = r + k + 1 by omega, h2]
    split <;> omega
theorem sp_u_le {V : Int → Fin 65537} {r : Int} (h1 : 1 ≤ r) (h2 : r ≤ ((V (1)).val : Int)) : sp_u V r + (if sp_isu V r = true then 1 else 0) ≤ sp_K V := by
  rw [← sp_u_s h1]
  have := sp_u_mono (V := V) (((V (1)).val : Int) - r).toNat (r + 1) (by omega)
  rw [show r + 1 + (((((V (1)).val : Int) - r).toNat : Nat) : Int) = ((V (1)).val : Int) + 1 by omega] at this
  exact this
theorem sp_u_lt {V : Int → Fin 65537} {r : Int} (h1 : 1 ≤ r) (h2 : r ≤ ((V (1)).val : Int)) (hu : sp_isu V r = true) : 0 ≤ sp_u V r ∧ sp_u V r < sp_K V := by
  have h := sp_u_le h1 h2
  rw [if_pos hu] at h
  have := sp_u_0 (V := V) (r := r)
  omega
theorem sp_K_0 {V : Int → Fin 65537} : 0 ≤ sp_K V := sp_u_0
theorem sp_p5_r {V : Int → Fin 65537} (h : sp_K V ≤ 3) : 1 ≤ sp_p5 V ∧ sp_p5 V ≤ 125 := by
  have h0 := sp_K_0 (V := V)
  have e : sp_K V = 0 ∨ sp_K V = 1 ∨ sp_K V = 2 ∨ sp_K V = 3 := by omega
  unfold sp_p5
  rcases e with e | e | e | e <;> rw [e] <;> decide
theorem sp_p5_n {V : Int → Fin 65537} (h : sp_K V ≤ 3) : (sp_p5 V).toNat = 5 ^ (sp_K V).toNat := by
  have h0 := sp_K_0 (V := V)
  have e : sp_K V = 0 ∨ sp_K V = 1 ∨ sp_K V = 2 ∨ sp_K V = 3 := by omega
  unfold sp_p5
  rcases e with e | e | e | e <;> rw [e] <;> decide
/-- the drifts by a code, as the class lays them and as the reference does -/
def sp_aC (V : Int → Fin 65537) (x r : Int) : Int := if (1 ≤ r ∧ r ≤ ((V (1)).val : Int)) ∧ sp_isu V r = true then sp_dg x (sp_u V r) else sp_air V r
def sp_aR (V : Int → Fin 65537) (x r : Int) : Int := if (1 ≤ r ∧ r ≤ ((V (1)).val : Int)) ∧ sp_isu V r = true then sp_dg x (sp_K V - 1 - sp_u V r) else sp_air V r
theorem sp_aR_rev {V : Int → Fin 65537} (hK : sp_K V ≤ 3) {x : Int} (hx : 0 ≤ x ∧ x < sp_p5 V) : sp_aR V x = sp_aC V (sp_rev (sp_K V) x) := by
  funext r
  unfold sp_aR sp_aC
  by_cases h : (1 ≤ r ∧ r ≤ ((V (1)).val : Int)) ∧ sp_isu V r = true
  · rw [if_pos h, if_pos h]
    have hu := sp_u_lt h.1.1 h.1.2 h.2
    exact ((sp_rev_ok ⟨sp_K_0, hK⟩ hx).2.2 _ hu.1 hu.2).symm
  · rw [if_neg h, if_neg h]
theorem sp_dg_r {x i : Int} (hx : 0 ≤ x ∧ x < 125) (hi : 0 ≤ i ∧ i < 3) : -2 ≤ sp_dg x i ∧ sp_dg x i ≤ 2 := by
  have h := (sp_dg0 ⟨x.toNat, by omega⟩ ⟨i.toNat, by omega⟩).2.1
  simp only [Int.toNat_of_nonneg hx.1, Int.toNat_of_nonneg hi.1] at h
  exact h
theorem sp_aC_r {V : Int → Fin 65537} (hV : zV V) (hK : sp_K V ≤ 3) {x r : Int} (hx : 0 ≤ x ∧ x < 125) (hr : 0 ≤ r ∧ r < 7) : -3 ≤ sp_aC V x r ∧ sp_aC V x r ≤ 3 := by
  have h1 := sp_air_r hV hr.1 hr.2
  unfold sp_aC
  by_cases h : (1 ≤ r ∧ r ≤ ((V (1)).val : Int)) ∧ sp_isu V r = true
  · rw [if_pos h]
    have hu := sp_u_lt h.1.1 h.1.2 h.2
    have := sp_dg_r hx (i := sp_u V r) (by omega)
    omega
  · rw [if_neg h]
    exact h1
theorem sp_aR_r {V : Int → Fin 65537} (hV : zV V) (hK : sp_K V ≤ 3) {x r : Int} (hx : 0 ≤ x ∧ x < 125) (hr : 0 ≤ r ∧ r < 7) : -3 ≤ sp_aR V x r ∧ sp_aR V x r ≤ 3 := by
  have h1 := sp_air_r hV hr.1 hr.2
  unfold sp_aR
  by_cases h : (1 ≤ r ∧ r ≤ ((V (1)).val : Int)) ∧ sp_isu V r = true
  · rw [if_pos h]
    have hu := sp_u_lt h.1.1 h.1.2 h.2
    have := sp_dg_r hx (i := sp_K V - 1 - sp_u V r) (by omega)
    omega
  · rw [if_neg h]
    exact h1
/-- sums and somes over all codes don't mind the order -/
theorem sp_sum_CR {V : Int → Fin 65537} (hK : sp_K V ≤ 3) (g : (Int → Int) → Int) : sp_psum (fun x => g (sp_aR V x)) (sp_p5 V).toNat 0 = sp_psum (fun x => g (sp_aC V x)) (sp_p5 V).toNat 0 := by
  have hp := sp_p5_r hK
  rw [sp_psum_c (g := fun x => (fun y => g (sp_aC V y)) (sp_rev (sp_K V) x)) _ _ (fun j a b => by
    simp only
    rw [sp_aR_rev hK (by omega)])]
  rw [sp_p5_n hK]
  exact sp_psum_rev ⟨sp_K_0, hK⟩ (fun y => g (sp_aC V y))
theorem sp_any_CR {V : Int → Fin 65537} (hK : sp_K V ≤ 3) (g : (Int → Int) → Bool) : fa_any (fun x => g (sp_aR V x)) (sp_p5 V).toNat 0 = fa_any (fun x => g (sp_aC V x)) (sp_p5 V).toNat 0 := by
  have hp := sp_p5_r hK
  rw [Bool.eq_iff_iff, fa_any_t, fa_any_t]
  constructor
  · rintro ⟨j, a, b, h⟩
    have hj : 0 ≤ j ∧ j < sp_p5 V := by omega
    have hr := (sp_rev_ok ⟨sp_K_0, hK⟩ hj).1
    have hr2 : sp_rev (sp_K V) j < sp_p5 V := hr.2
    refine ⟨sp_rev (sp_K V) j, hr.1, by omega, ?_⟩
    rw [← sp_aR_rev hK hj]
    exact h
  · rintro ⟨j, a, b, h⟩
    have hj : 0 ≤ j ∧ j < sp_p5 V := by omega
    have hr := sp_rev_ok ⟨sp_K_0, hK⟩ hj
    have hr2 : sp_rev (sp_K V) j < sp_p5 V := hr.1.2
    refine ⟨sp_rev (sp_K V) j, hr.1.1, by omega, ?_⟩
    rw [sp_aR_rev hK ⟨hr.1.1, hr2⟩, hr.2.1]
    exact h
/-- flights -/
def sp_wf (V : Int → Fin 65537) (a : Int → Int) : Nat → Int → Int
  | 0, _ => -2
  | k + 1, f => if sp_col a ((V (0)).val : Int) 0 ((V (66 + 3 * f)).val : Int) ((V (66 + 3 * f + 1)).val : Int) = ((V (66 + 3 * f + 2)).val : Int) then sp_wf V a k (f + 1) else f
def sp_wf0 (V : Int → Fin 65537) (a : Int → Int) : Int := sp_wf V a (((V (6)).val : Int)).toNat 0
def sp_fit (V : Int → Fin 65537) (a : Int → Int) : Bool := decide (sp_wf0 V a = -2)
theorem sp_wf_r {V : Int → Fin 65537} {a : Int → Int} : ∀ (k : Nat) (f : Int), 0 ≤ f → sp_wf V a k f = -2 ∨ f ≤ sp_wf V a k f ∧ sp_wf V a k f < f + k := by
  intro k
  induction k with
  | zero => intro f _; exact Or.inl rfl
  | succ k ih =>
    intro f hf
    unfold sp_wf
    split
    · have := ih (f + 1) (by omega)
      omega
    · omega
theorem sp_col_0 {a : Int → Int} {n seat far : Int} : sp_col a n 0 seat far = sp_colL a n 0 far.toNat 1 seat := by
  unfold sp_col
  rw [if_neg (by decide), if_neg (by decide)]
theorem sp_colL_snoc {a : Int → Int} {n : Int} : ∀ (k : Nat) (i c : Int), sp_colL a n 0 (k + 1) i c = sp_wall n (sp_colL a n 0 k i c + a (i + k)) := by
  intro k
  induction k with
  | zero =>
    intro i c
    have e : i + ((0 : Nat) : Int) = i := by omega
    rw [e]
    rfl
  | succ k ih =>
    intro i c
    have e1 : sp_colL a n 0 (k + 1 + 1) i c = sp_colL a n 0 (k + 1) (i + 1) (sp_wall n (c + (if (0 : Int) = 1 then (a i).tdiv 2 else a i))) := rfl
    have e2 : sp_colL a n 0 (k + 1) i c = sp_colL a n 0 k (i + 1) (sp_wall n (c + (if (0 : Int) = 1 then (a i).tdiv 2 else a i))) := rfl
    have e3 : i + 1 + (k : Int) = i + ((k + 1 : Nat) : Int) := by omega
    rw [e1, ih, e2, e3]
/-- five bits -/
def sp_five (b : Int → Bool) : Int := fa_b (b 0) + 2 * fa_b (b 1) + 4 * fa_b (b 2) + 8 * fa_b (b 3) + 16 * fa_b (b 4)
theorem sp_five0 : ∀ (b0 b1 b2 b3 b4 : Bool) (j : Fin 5), zm_ior (fa_b b0 + 2 * fa_b b1 + 4 * fa_b b2 + 8 * fa_b b3 + 16 * fa_b b4) (zm_ishl 1 (j.val : Int)) = fa_b (b0 || decide ((j.val : Int) = 0)) + 2 * fa_b (b1 || decide ((j.val : Int) = 1)) + 4 * fa_b (b2 || decide ((j.val : Int) = 2)) + 8 * fa_b (b3 || decide ((j.val : Int) = 3)) + 16 * fa_b (b4 || decide ((j.val : Int) = 4)) := by decide +kernel
theorem sp_five1 : ∀ (b0 b1 b2 b3 b4 : Bool), zm_ior (fa_b b0 + 2 * fa_b b1 + 4 * fa_b b2 + 8 * fa_b b3 + 16 * fa_b b4) 0 = fa_b b0 + 2 * fa_b b1 + 4 * fa_b b2 + 8 * fa_b b3 + 16 * fa_b b4 := by decide +kernel
theorem sp_five_or {b : Int → Bool} {j : Int} (h : 0 ≤ j ∧ j < 5) : zm_ior (sp_five b) (zm_ishl 1 j) = sp_five (fun i => b i || decide (j = i)) := by
  have h2 := sp_five0 (b 0) (b 1) (b 2) (b 3) (b 4) ⟨j.toNat, by omega⟩
  simp only [Int.toNat_of_nonneg h.1] at h2
  exact h2
theorem sp_five_or0 {b : Int → Bool} : zm_ior (sp_five b) 0 = sp_five b := sp_five1 (b 0) (b 1) (b 2) (b 3) (b 4)
theorem sp_five_r {b : Int → Bool} : 0 ≤ sp_five b ∧ sp_five b ≤ 31 := by
  have h0 := fa_b_01 (b 0)
  have h1 := fa_b_01 (b 1)
  have h2 := fa_b_01 (b 2)
  have h3 := fa_b_01 (b 3)
  have h4 := fa_b_01 (b 4)
  unfold sp_five
  omega
theorem fa_any_snoc {f : Int → Bool} : ∀ (k : Nat) (i : Int), fa_any f (k + 1) i = (fa_any f k i || f (i + k)) := by
  intro k
  induction k with
  | zero =>
    intro i
    have e : i + ((0 : Nat) : Int) = i := by omega
    rw [e]
    show (f i || false) = (false || f i)
    cases f i <;> rfl
  | succ k ih =>
    intro i
    have e1 : fa_any f (k + 1 + 1) i = (f i || fa_any f (k + 1) (i + 1)) := rfl
    have e2 : fa_any f (k + 1) i = (f i || fa_any f k (i + 1)) := rfl
    have e3 : i + 1 + (k : Int) = i + ((k + 1 : Nat) : Int) := by omega
    rw [e1, ih (i + 1), e2, e3, Bool.or_assoc]
/-- the greatest -/
def sp_mx (w : Int → Int) : Nat → Int → Int → Int
  | 0, _, z => z
  | k + 1, i, z => sp_mx w k (i + 1) (if z < w i then w i else z)
theorem sp_mx_ok {w : Int → Int} : ∀ (k : Nat) (i z : Int), z ≤ sp_mx w k i z ∧ (∀ j, i ≤ j → j < i + k → w j ≤ sp_mx w k i z) ∧ (sp_mx w k i z = z ∨ ∃ j, i ≤ j ∧ j < i + k ∧ sp_mx w k i z = w j) := by
  intro k
  induction k with
  | zero => intro i z; exact ⟨Int.le_refl _, fun j a b => by omega, Or.inl rfl⟩
  | succ k ih =>
    intro i z
    unfold sp_mx
    by_cases g : z < w i
    · rw [if_pos g]
      obtain ⟨h1, h2, h3⟩ := ih (i + 1) (w i)
      refine ⟨by omega, fun j a b => ?_, ?_⟩
      · by_cases e : j = i
        · rw [e]; exact h1
        · exact h2 j (by omega) (by omega)
      · right
        rcases h3 with h3 | ⟨j, a, b, c⟩
        · exact ⟨i, by omega, by omega, h3⟩
        · exact ⟨j, by omega, by omega, c⟩
    · rw [if_neg g]
      obtain ⟨h1, h2, h3⟩ := ih (i + 1) z
      refine ⟨h1, fun j a b => ?_, ?_⟩
      · by_cases e : j = i
        · rw [e]; omega
        · exact h2 j (by omega) (by omega)
      · rcases h3 with h3 | ⟨j, a, b, c⟩
        · exact Or.inl h3
        · exact Or.inr ⟨j, by omega, by omega, c⟩
theorem sp_mx_u {w : Int → Int} {k : Nat} {i z m : Int} (h1 : z ≤ m) (h2 : ∀ j, i ≤ j → j < i + k → w j ≤ m) (h3 : m = z ∨ ∃ j, i ≤ j ∧ j < i + k ∧ m = w j) : m = sp_mx w k i z := by
  obtain ⟨g1, g2, g3⟩ := sp_mx_ok (w := w) k i z
  rcases h3 with h3 | ⟨j, a, b, c⟩
  · rcases g3 with g3 | ⟨j', a', b', c'⟩
    · omega
    · have := h2 j' a' b'
      omega
  · have := g2 j a b
    rcases g3 with g3 | ⟨j', a', b', c'⟩
    · omega
    · have := h2 j' a' b'
      omega

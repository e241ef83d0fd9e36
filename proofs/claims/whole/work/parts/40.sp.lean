/-! the pure picture: a hall as cells, and what is told of it -/
theorem zt_td2 (a : Int) : (0 ≤ a → 0 ≤ a.tdiv 2 ∧ a.tdiv 2 ≤ a) ∧ (a ≤ 0 → a ≤ a.tdiv 2 ∧ a.tdiv 2 ≤ 0) := by
  constructor
  · intro h
    rw [Int.tdiv_eq_ediv_of_nonneg h]
    omega
  · intro h
    have e : a.tdiv 2 = -((-a).tdiv 2) := by rw [Int.neg_tdiv]; omega
    rw [e, Int.tdiv_eq_ediv_of_nonneg (by omega)]
    omega
theorem zg_true {α : Type} {x : Option α} : zg True x = x := if_pos trivial
def sp_air (V : Int → Fin 65537) (k : Int) : Int := if ((V (200 + k)).val : Int) = 7 then 0 else ((V (200 + k)).val : Int) - 3
def sp_wall (n c : Int) : Int := if c < 0 then 0 else if n ≤ c then n - 1 else c
theorem sp_wall_r {n c : Int} (h : 1 ≤ n) : 0 ≤ sp_wall n c ∧ sp_wall n c < n := by
  unfold sp_wall
  split
  · omega
  · split <;> omega
def sp_colL (a : Int → Int) (n fold : Int) : Nat → Int → Int → Int
  | 0, _, c => c
  | k + 1, i, c => sp_colL a n fold k (i + 1) (sp_wall n (c + (if fold = 1 then (a i).tdiv 2 else a i)))
theorem sp_colL_r {a : Int → Int} {n fold : Int} (h : 1 ≤ n) : ∀ (k : Nat) (i c : Int), 0 ≤ c → c < n → 0 ≤ sp_colL a n fold k i c ∧ sp_colL a n fold k i c < n := by
  intro k
  induction k with
  | zero => intro i c h1 h2; exact ⟨h1, h2⟩
  | succ k ih => intro i c h1 h2; exact ih _ _ (sp_wall_r h).1 (sp_wall_r h).2
def sp_col (a : Int → Int) (n fold seat far : Int) : Int := if fold = 3 then seat else if fold = 2 then n - 1 - sp_colL a n fold far.toNat 1 seat else sp_colL a n fold far.toNat 1 seat
theorem sp_col_r {a : Int → Int} {n fold seat far : Int} (h : 1 ≤ n) (h1 : 0 ≤ seat) (h2 : seat < n) : 0 ≤ sp_col a n fold seat far ∧ sp_col a n fold seat far < n := by
  have q := sp_colL_r (a := a) (fold := fold) h far.toNat 1 seat h1 h2
  unfold sp_col
  split
  · exact ⟨h1, h2⟩
  · split <;> omega
def sp_row (fold far : Int) : Int := if fold = 3 then (if 1 < far.tdiv 2 then far.tdiv 2 else 1) else far
theorem sp_row_r {fold far n : Int} (h1 : 1 ≤ far) (h2 : far ≤ n) : 1 ≤ sp_row fold far ∧ sp_row fold far ≤ n := by
  have := (zt_td2 far).1 (by omega)
  unfold sp_row
  split
  · split <;> omega
  · omega
def fa_any (f : Int → Bool) : Nat → Int → Bool
  | 0, _ => false
  | k + 1, i => f i || fa_any f k (i + 1)
def fa_b (b : Bool) : Int := if b then 1 else 0
theorem fa_b_f : fa_b false = 0 := rfl
theorem fa_b_t : fa_b true = 1 := rfl
theorem fa_b_r (b : Bool) : n32 (fa_b b) = 0 ∨ n32 (fa_b b) = 1 := by cases b <;> decide
theorem fa_b_01 (b : Bool) : fa_b b = 0 ∨ fa_b b = 1 := by cases b <;> decide
theorem fa_b_id (b : Bool) : n32 (fa_b b) = fa_b b := by cases b <;> decide
theorem fa_b_0 (b : Bool) : (fa_b b = 0) = (b = false) := by cases b <;> decide
theorem fa_b_1 (b : Bool) : (fa_b b = 1) = (b = true) := by cases b <;> decide
def sp_lamp (V : Int → Fin 65537) (c r : Int) : Bool := fa_any (fun i => decide (((V (60 + 2 * i)).val : Int) = c ∧ ((V (60 + 2 * i + 1)).val : Int) = r)) (((V (5)).val : Int)).toNat 0
def sp_spk (V : Int → Fin 65537) (c r : Int) : Bool := fa_any (fun s => decide (((V (200 + (7 + 2 * s))).val : Int) = c ∧ ((V (200 + (7 + 2 * s + 1))).val : Int) = r)) (((V (3)).val : Int)).toNat 0
def sp_abs (z : Int) : Int := if 0 ≤ z then z else 0 - z
def sp_dist (C R : Int → Int) (c r s : Int) : Int := sp_abs (C s - c) + sp_abs (R s - r)
def sp_near (f : Int → Int) : Nat → Int → Int → Int → Int
  | 0, _, best, _ => best
  | k + 1, i, best, least => if f i < least then sp_near f k (i + 1) i (f i) else sp_near f k (i + 1) best least
theorem sp_near_r {f : Int → Int} {n : Int} : ∀ (k : Nat) (i best least : Int), 0 ≤ i → i + k ≤ n → 0 ≤ best → best < n → 0 ≤ sp_near f k i best least ∧ sp_near f k i best least < n := by
  intro k
  induction k with
  | zero => intro i best least _ _ h1 h2; exact ⟨h1, h2⟩
  | succ k ih =>
    intro i best least h0 hi h1 h2
    unfold sp_near
    split
    · exact ih _ _ _ (by omega) (by omega) (by omega) (by omega)
    · exact ih _ _ _ (by omega) (by omega) (by omega) (by omega)
theorem sp_near_big {f : Int → Int} {k : Nat} {b c : Int} (h1 : f 0 < b) (h2 : f 0 < c) : sp_near f (k + 1) 0 0 b = sp_near f (k + 1) 0 0 c := by
  unfold sp_near
  rw [if_pos h1, if_pos h2]
/-- where the speakers stand by the cells -/
def sp_C (V : Int → Fin 65537) (s : Int) : Int := ((V (200 + (7 + 2 * s))).val : Int)
def sp_R (V : Int → Fin 65537) (s : Int) : Int := ((V (200 + (7 + 2 * s + 1))).val : Int)
def sp_nearest (C R : Int → Int) (n c r : Int) : Int := sp_near (sp_dist C R c r) n.toNat 0 0 1000000
theorem sp_nearest_r {C R : Int → Int} {n c r : Int} (h : 1 ≤ n) : 0 ≤ sp_nearest C R n c r ∧ sp_nearest C R n c r < n := sp_near_r _ _ _ _ (by omega) (by omega) (by omega) (by omega)
def sp_count (V : Int → Fin 65537) (m c r : Int) : Bool := decide (((V (30 + 5 * m + 3)).val : Int) ≤ ((V (2)).val : Int)) && !sp_lamp V c r
def sp_voteAt (V : Int → Fin 65537) (C R : Int → Int) (m c r : Int) : Int := if sp_count V m c r = true then sp_nearest C R ((V (3)).val : Int) c r else -2
def sp_dc (V : Int → Fin 65537) (m : Int) : Int := sp_col (sp_air V) ((V (0)).val : Int) ((V (200 + (19 + 3 * m))).val : Int) ((V (200 + (19 + 3 * m + 1))).val : Int) ((V (200 + (19 + 3 * m + 2))).val : Int)
def sp_dr (V : Int → Fin 65537) (m : Int) : Int := sp_row ((V (200 + (19 + 3 * m))).val : Int) ((V (200 + (19 + 3 * m + 2))).val : Int)
def sp_vote (V : Int → Fin 65537) (C R : Int → Int) (m : Int) : Int := sp_voteAt V C R m (sp_dc V m) (sp_dr V m)
/-- a hall that stands -/
def zV (V : Int → Fin 65537) : Prop := (3 ≤ ((V (0)).val : Int) ∧ ((V (0)).val : Int) ≤ 12) ∧ (1 ≤ ((V (1)).val : Int) ∧ ((V (1)).val : Int) ≤ 6) ∧ ((V (2)).val : Int) ≤ 9 ∧ (1 ≤ ((V (3)).val : Int) ∧ ((V (3)).val : Int) ≤ 4) ∧ ((V (4)).val : Int) ≤ 6 ∧ ((V (5)).val : Int) ≤ 3 ∧ ((V (6)).val : Int) ≤ 5 ∧
  (∀ k, 0 ≤ k → k < 7 → ((V (200 + k)).val : Int) ≤ 7) ∧ (∀ s, 0 ≤ s → s < ((V (3)).val : Int) → ((V (200 + (7 + 2 * s))).val : Int) < ((V (0)).val : Int) ∧ 1 ≤ ((V (200 + (7 + 2 * s + 1))).val : Int) ∧ ((V (200 + (7 + 2 * s + 1))).val : Int) ≤ ((V (1)).val : Int)) ∧
  (∀ m, 0 ≤ m → m < ((V (4)).val : Int) → ((V (200 + (19 + 3 * m))).val : Int) ≤ 3 ∧ ((V (200 + (19 + 3 * m + 1))).val : Int) < ((V (0)).val : Int) ∧ 1 ≤ ((V (200 + (19 + 3 * m + 2))).val : Int) ∧ ((V (200 + (19 + 3 * m + 2))).val : Int) ≤ ((V (1)).val : Int) ∧ ((V (30 + 5 * m + 3)).val : Int) ≤ 9 ∧ ((V (30 + 5 * m + 4)).val : Int) ≤ 100) ∧
  (∀ i, 0 ≤ i → i < ((V (5)).val : Int) → ((V (60 + 2 * i)).val : Int) < ((V (0)).val : Int) ∧ 1 ≤ ((V (60 + 2 * i + 1)).val : Int) ∧ ((V (60 + 2 * i + 1)).val : Int) ≤ ((V (1)).val : Int)) ∧
  (∀ f, 0 ≤ f → f < ((V (6)).val : Int) → ((V (66 + 3 * f)).val : Int) < ((V (0)).val : Int) ∧ 1 ≤ ((V (66 + 3 * f + 1)).val : Int) ∧ ((V (66 + 3 * f + 1)).val : Int) ≤ ((V (1)).val : Int) ∧ ((V (66 + 3 * f + 2)).val : Int) < ((V (0)).val : Int))
/-- the class's hall at o, and the reference's -/
def zC (V : Int → Fin 65537) (E : Nat → Int → Int) (o : Nat) : Prop := (E o 9 = ((V (0)).val : Int) ∧ E o 10 = ((V (1)).val : Int) ∧ E o 11 = ((V (2)).val : Int) ∧ E o 12 = ((V (3)).val : Int) ∧ E o 13 = ((V (4)).val : Int) ∧ E o 14 = ((V (5)).val : Int) ∧ E o 15 = ((V (6)).val : Int)) ∧
  (∀ m, 0 ≤ m → m < 6 → E (o + 1) (0 + m) = ((V (200 + (19 + 3 * m + 1))).val : Int)) ∧ (∀ m, 0 ≤ m → m < 6 → E (o + 1) (6 + m) = ((V (200 + (19 + 3 * m))).val : Int)) ∧ (∀ m, 0 ≤ m → m < 6 → E (o + 1) (12 + m) = ((V (200 + (19 + 3 * m + 2))).val : Int)) ∧
  (∀ k, 0 ≤ k → k < 7 → E (o + 1) (18 + k) = ((V (200 + k)).val : Int)) ∧ (∀ s, 0 ≤ s → s < 4 → E (o + 1) (25 + s) = ((V (200 + (7 + 2 * s))).val : Int)) ∧ (∀ s, 0 ≤ s → s < 4 → E (o + 1) (29 + s) = ((V (200 + (7 + 2 * s + 1))).val : Int)) ∧ (∀ s, 0 ≤ s → s < 4 → E (o + 1) (33 + s) = ((V (200 + (15 + s))).val : Int)) ∧
  (E (o + 1) 37 = ((V (200 + 37)).val : Int) ∧ E (o + 1) 38 = ((V (200 + 38)).val : Int)) ∧
  (∀ m, 0 ≤ m → m < ((V (4)).val : Int) → E (o + 2) m = ((V (30 + 5 * m + 3)).val : Int) ∧ E (o + 3) m = ((V (30 + 5 * m + 4)).val : Int)) ∧
  (∀ i, 0 ≤ i → i < ((V (5)).val : Int) → E (o + 4) i = ((V (60 + 2 * i)).val : Int) ∧ E (o + 5) i = ((V (60 + 2 * i + 1)).val : Int)) ∧
  (∀ f, 0 ≤ f → f < ((V (6)).val : Int) → E (o + 6) f = ((V (66 + 3 * f)).val : Int) ∧ E (o + 7) f = ((V (66 + 3 * f + 1)).val : Int) ∧ E (o + 8) f = ((V (66 + 3 * f + 2)).val : Int))
def zR (V : Int → Fin 65537) (E : Nat → Int → Int) : Prop := (∀ k, 0 ≤ k → k < 171 → E 63 k = ((V (k)).val : Int)) ∧ (∀ k, 0 ≤ k → k < 39 → E 65 k = ((V (200 + k)).val : Int))
theorem zR.fr {V : Int → Fin 65537} {E F : Nat → Int → Int} (h : zR V E) (h1 : ∀ b, F 63 b = E 63 b) (h2 : ∀ b, F 65 b = E 65 b) : zR V F := ⟨fun k a b => by rw [h1]; exact h.1 k a b, fun k a b => by rw [h2]; exact h.2 k a b⟩
theorem zC.fr {V : Int → Fin 65537} {E F : Nat → Int → Int} {o : Nat} (h : zC V E o) (h1 : ∀ a b, o ≤ a → a < o + 9 → F a b = E a b) : zC V F o := by
  obtain ⟨⟨c1, c2, c3, c4, c5, c6, c7⟩, s1, s2, s3, s4, s5, s6, s7, ⟨s8, s9⟩, m1, m2, m3⟩ := h
  refine ⟨⟨?_, ?_, ?_, ?_, ?_, ?_, ?_⟩, fun m a b => ?_, fun m a b => ?_, fun m a b => ?_, fun m a b => ?_, fun m a b => ?_, fun m a b => ?_, fun m a b => ?_, ⟨?_, ?_⟩, fun m a b => ⟨?_, ?_⟩, fun m a b => ⟨?_, ?_⟩, fun m a b => ⟨?_, ?_, ?_⟩⟩ <;> rw [h1 _ _ (by omega) (by omega)]
  all_goals first
    | assumption
    | exact s1 m a b
    | exact s2 m a b
    | exact s3 m a b
    | exact s4 m a b
    | exact s5 m a b
    | exact s6 m a b
    | exact s7 m a b
    | exact (m1 m a b).1
    | exact (m1 m a b).2
    | exact (m2 m a b).1
    | exact (m2 m a b).2
    | exact (m3 m a b).1
    | exact (m3 m a b).2.1
    | exact (m3 m a b).2.2

/-! the reader, told without a machine: a status is a fault with its place, or where the next token begins -/
abbrev PS : Type := (Int × Int) ⊕ Int
abbrev PT : Type := PS × (Int → Int) × (Int → Int)
def ps_b (s : PS) : Int := match s with
  | .inl _ => 0
  | .inr _ => 1
def pu (f : Int → Int) (k z : Int) : Int → Int := fun x => if x = k then z else f x
theorem pu_s {f : Int → Int} {k z : Int} : pu f k z k = z := if_pos rfl
theorem pu_n {f : Int → Int} {k z x : Int} (h : x ≠ k) : pu f k z x = f x := if_neg h
def ps_W (B : Int → Int) (n : Int) (w : Nat) (s : PS) : PS := match s with
  | .inl x => .inl x
  | .inr k => if tk_is B n k w = true then .inr (tk_e B n k) else .inl (1, tk_a B n k)
def ps_N (B : Int → Int) (n lo hi : Int) (s : PS) : PS := match s with
  | .inl x => .inl x
  | .inr k => if tk_k B n k = 3 then (if lo ≤ tk_v B n k ∧ tk_v B n k ≤ hi then .inr (tk_e B n k) else .inl (4, tk_a B n k)) else .inl (1, tk_a B n k)
def pv_N (B : Int → Int) (n lo hi : Int) (s : PS) : Int := match s with
  | .inl _ => lo
  | .inr k => if tk_k B n k = 3 ∧ lo ≤ tk_v B n k ∧ tk_v B n k ≤ hi then tk_v B n k else lo
/-- a number that must not have been told -/
def ps_R (B : Int → Int) (n lo hi : Int) (told : Int → Bool) (s : PS) : PS := match s with
  | .inl x => .inl x
  | .inr k => match ps_N B n lo hi (.inr k) with
    | .inl x => .inl x
    | .inr k2 => if told (tk_v B n k) = true then .inl (3, tk_a B n k) else .inr k2
def tk_ls (B : Int → Int) (n k : Int) : Int := if tk_is B n k 0 = true then 1 else if tk_is B n k 1 = true then 2 else if tk_is B n k 2 = true then 3 else if tk_is B n k 3 = true then 4 else if tk_is B n k 4 = true then 5 else if tk_is B n k 5 = true then 6 else if tk_is B n k 6 = true then 7 else 0
def ps_M (B : Int → Int) (n : Int) (L : Int → Int) (m : Int) (s : PS) : PS := match s with
  | .inl x => .inl x
  | .inr k => if tk_k B n k ≠ 2 ∨ tk_ls B n k ≠ 0 then .inl (1, tk_a B n k) else if fa_any (fun i => decide (L i = tk_c B n k)) m.toNat 0 = true then .inl (3, tk_a B n k) else .inr (tk_e B n k)
def pv_M (B : Int → Int) (n : Int) (L : Int → Int) (m : Int) (s : PS) : Int → Int := match s with
  | .inl _ => L
  | .inr k => pu L m (tk_c B n k)
def pv_F (B : Int → Int) (n : Int) (s : PS) : Int := match s with
  | .inl _ => -1
  | .inr k => if tk_is B n k 13 = true then 0 else if tk_is B n k 14 = true then 1 else if tk_is B n k 15 = true then 2 else if tk_is B n k 16 = true then 3 else -1
def ps_F (B : Int → Int) (n : Int) (s : PS) : PS := match s with
  | .inl x => .inl x
  | .inr k => if pv_F B n (.inr k) = -1 then .inl (1, tk_a B n k) else .inr (tk_e B n k)
def pv_D (B : Int → Int) (n : Int) (s : PS) : Int := match s with
  | .inl _ => 0
  | .inr k => if tk_is B n k 10 = true then -1 else if tk_is B n k 11 = true then 1 else 0
def ps_D (B : Int → Int) (n : Int) (s : PS) : PS := match s with
  | .inl x => .inl x
  | .inr k => if pv_D B n (.inr k) = 0 then .inl (1, tk_a B n k) else .inr (tk_e B n k)
def pl_at (f : Int → Int) (c r : Int) : Bool := fa_any (fun s => decide (f (22 + 2 * s) = c ∧ f (22 + 2 * s + 1) = r)) (f 3).toNat 0 || fa_any (fun i => decide (f (60 + 2 * i) = c ∧ f (60 + 2 * i + 1) = r)) (f 5).toNat 0
def pl_told (f : Int → Int) (r : Int) : Bool := decide (0 < f (15 + r))
section PL
variable (B : Int → Int) (n : Int) (f : Int → Int) (L : Int → Int)
def pl_hall (s : PS) : PT := (ps_N B n 0 9 (ps_W B n 9 (ps_N B n 1 6 (ps_W B n 8 (ps_N B n 3 12 (ps_W B n 7 s))))), pu (pu (pu f 0 (pv_N B n 3 12 (ps_W B n 7 s))) 1 (pv_N B n 1 6 (ps_W B n 8 (ps_N B n 3 12 (ps_W B n 7 s))))) 2 (pv_N B n 0 9 (ps_W B n 9 (ps_N B n 1 6 (ps_W B n 8 (ps_N B n 3 12 (ps_W B n 7 s)))))), L)
def pl_air (s : PS) : PT := (ps_N B n 0 3 (ps_D B n (ps_R B n 1 (f 1) (pl_told f) s)), pu (pu f (8 + pv_N B n 1 (f 1) s) (pv_D B n (ps_R B n 1 (f 1) (pl_told f) s) * pv_N B n 0 3 (ps_D B n (ps_R B n 1 (f 1) (pl_told f) s)) + 3)) (15 + pv_N B n 1 (f 1) s) 1, L)
def pl_fog (s : PS) : PT := (ps_R B n 1 (f 1) (pl_told f) s, pu (pu (pu f (8 + pv_N B n 1 (f 1) s) 7) (15 + pv_N B n 1 (f 1) s) 1) 7 (f 7 + 1), L)
def pl_spk (s : PS) : PT := (ps_R B n 1 (f 1) (pl_at f (pv_N B n 0 (f 0 - 1) (ps_W B n 12 (ps_M B n L (f 3 + f 4) s)))) (ps_N B n 0 (f 0 - 1) (ps_W B n 12 (ps_M B n L (f 3 + f 4) s))), pu (pu (pu f (22 + 2 * f 3) (pv_N B n 0 (f 0 - 1) (ps_W B n 12 (ps_M B n L (f 3 + f 4) s)))) (22 + 2 * f 3 + 1) (pv_N B n 1 (f 1) (ps_N B n 0 (f 0 - 1) (ps_W B n 12 (ps_M B n L (f 3 + f 4) s))))) 3 (f 3 + 1), pv_M B n L (f 3 + f 4) s)
def pl_lmp (s : PS) : PT := (ps_R B n 1 (f 1) (pl_at f (pv_N B n 0 (f 0 - 1) s)) (ps_N B n 0 (f 0 - 1) s), pu (pu (pu f (60 + 2 * f 5) (pv_N B n 0 (f 0 - 1) s)) (60 + 2 * f 5 + 1) (pv_N B n 1 (f 1) (ps_N B n 0 (f 0 - 1) s))) 5 (f 5 + 1), L)
def pl_flt (s : PS) : PT := (ps_N B n 0 (f 0 - 1) (ps_W B n 21 (ps_N B n 1 (f 1) (ps_W B n 18 (ps_N B n 0 (f 0 - 1) s)))), pu (pu (pu (pu f (66 + 3 * f 6) (pv_N B n 0 (f 0 - 1) s)) (66 + 3 * f 6 + 1) (pv_N B n 1 (f 1) (ps_W B n 18 (ps_N B n 0 (f 0 - 1) s)))) (66 + 3 * f 6 + 2) (pv_N B n 0 (f 0 - 1) (ps_W B n 21 (ps_N B n 1 (f 1) (ps_W B n 18 (ps_N B n 0 (f 0 - 1) s)))))) 6 (f 6 + 1), L)
def pm1 (s : PS) : PS := ps_F B n (ps_M B n L (f 3 + f 4) s)
def pm2 (s : PS) : PS := ps_N B n 0 (f 0 - 1) (ps_W B n 17 (pm1 B n f L s))
def pm3 (s : PS) : PS := ps_N B n 1 (f 1) (ps_W B n 18 (pm2 B n f L s))
def pm4 (s : PS) : PS := ps_N B n 0 9 (ps_W B n 19 (pm3 B n f L s))
def pm5 (s : PS) : PS := ps_N B n 0 100 (ps_W B n 20 (pm4 B n f L s))
def pl_mem (s : PS) : PT := (pm5 B n f L s, pu (pu (pu (pu (pu (pu f (30 + 5 * f 4) (pv_F B n (ps_M B n L (f 3 + f 4) s))) (30 + 5 * f 4 + 1) (pv_N B n 0 (f 0 - 1) (ps_W B n 17 (pm1 B n f L s)))) (30 + 5 * f 4 + 2) (pv_N B n 1 (f 1) (ps_W B n 18 (pm2 B n f L s)))) (30 + 5 * f 4 + 3) (pv_N B n 0 9 (ps_W B n 19 (pm3 B n f L s)))) (30 + 5 * f 4 + 4) (pv_N B n 0 100 (ps_W B n 20 (pm4 B n f L s)))) 4 (f 4 + 1), pv_M B n L (f 3 + f 4) s)
def pl_room (k : Int) : Bool := if k = 3 then decide (f 7 < 3) else if k = 4 then decide (f 3 < 4) else if k = 5 then decide (f 4 < 6) else if k = 6 then decide (f 5 < 3) else if k = 7 then decide (f 6 < 5) else true
def pl_beg (k : Int) : PS := if tk_ls B n k = 0 then .inl (1, tk_a B n k) else if tk_ls B n k = 1 then (if 0 < f 0 then .inl (3, tk_a B n k) else .inr (tk_e B n k)) else if f 0 ≤ 0 then .inl (6, tk_a B n k) else if pl_room f (tk_ls B n k) = true then .inr (tk_e B n k) else .inl (5, tk_a B n k)
def pl_rest (k : Int) (s : PS) : PT := if tk_ls B n k = 1 then pl_hall B n f L s else if tk_ls B n k = 2 then pl_air B n f L s else if tk_ls B n k = 3 then pl_fog B n f L s else if tk_ls B n k = 4 then pl_spk B n f L s else if tk_ls B n k = 5 then pl_mem B n f L s else if tk_ls B n k = 6 then pl_lmp B n f L s else pl_flt B n f L s
def pl_line (k : Int) : PT := match pl_beg B n f k with
  | .inl x => (.inl x, f, L)
  | .inr k2 => pl_rest B n f L k (.inr k2)
end PL
def pl_loop (B : Int → Int) (n : Int) : Nat → PT → PT
  | 0, x => x
  | j + 1, x => match x.1 with
    | .inl _ => x
    | .inr k => if tk_k B n k = 0 then x else if tk_k B n k = 59 then pl_loop B n j (pl_line B n x.2.1 x.2.2 (tk_e B n k)) else (.inl (1, tk_a B n k), x.2)
def pl_end (B : Int → Int) (n : Int) (x : PT) : PT := match x.1 with
  | .inl _ => x
  | .inr k => if x.2.1 3 = 0 then (.inl (6, tk_a B n k), x.2) else x
def pl_f0 : Int → Int := fun k => if 8 ≤ k ∧ k ≤ 14 then 3 else 0
def pl_all (B : Int → Int) (n : Int) : PT := pl_end B n (pl_loop B n 900 (pl_line B n pl_f0 (fun _ => 0) 0))
section PG
variable {B : Int → Int} {n : Int}
/-- how far a status has come -/
def pg (n j : Int) (s : PS) : Prop := match s with
  | .inl x => 1 ≤ x.1 ∧ x.1 ≤ 6 ∧ 0 ≤ x.2 ∧ x.2 ≤ n
  | .inr k => j ≤ k ∧ k ≤ n
theorem pg.mono {i j : Int} {s : PS} (h : pg n j s) (hi : i ≤ j) : pg n i s := by
  cases s with
  | inl x => exact h
  | inr k =>
    have h : j ≤ k ∧ k ≤ n := h
    show i ≤ k ∧ k ≤ n
    omega
theorem pg_f {j k x : Int} (h0 : 0 ≤ k) (h : k ≤ n) (h1 : 1 ≤ x) (h2 : x ≤ 6) : pg n j (.inl (x, tk_a B n k)) := by
  have := tk_a_r (B := B) h
  show 1 ≤ x ∧ x ≤ 6 ∧ 0 ≤ tk_a B n k ∧ tk_a B n k ≤ n
  omega
theorem pg_t {j k : Int} (hj : j ≤ k) (h : k ≤ n) (hk : tk_k B n k ≠ 0) : pg n (j + 1) (.inr (tk_e B n k)) := by
  have := tk_go (B := B) h hk
  show j + 1 ≤ tk_e B n k ∧ tk_e B n k ≤ n
  omega
theorem tk_is_k {k : Int} {w : Nat} (h : tk_is B n k w = true) : tk_k B n k = 2 := by
  unfold tk_is at h
  rw [decide_eq_true_eq] at h
  exact h.1
theorem tk_ls_k {k : Int} (h : tk_ls B n k ≠ 0) : tk_k B n k = 2 := by
  unfold tk_ls at h
  by_cases g0 : tk_is B n k 0 = true
  · exact tk_is_k g0
  by_cases g1 : tk_is B n k 1 = true
  · exact tk_is_k g1
  by_cases g2 : tk_is B n k 2 = true
  · exact tk_is_k g2
  by_cases g3 : tk_is B n k 3 = true
  · exact tk_is_k g3
  by_cases g4 : tk_is B n k 4 = true
  · exact tk_is_k g4
  by_cases g5 : tk_is B n k 5 = true
  · exact tk_is_k g5
  by_cases g6 : tk_is B n k 6 = true
  · exact tk_is_k g6
  rw [if_neg g0, if_neg g1, if_neg g2, if_neg g3, if_neg g4, if_neg g5, if_neg g6] at h
  exact absurd rfl h
theorem tk_ls_r {k : Int} : 0 ≤ tk_ls B n k ∧ tk_ls B n k ≤ 7 := by
  unfold tk_ls
  repeat' split
  all_goals omega
theorem pg_W {j : Int} {w : Nat} {s : PS} (h0 : 0 ≤ j) (h : pg n j s) : pg n j (ps_W B n w s) := by
  cases s with
  | inl x => exact h
  | inr k =>
    have h : j ≤ k ∧ k ≤ n := h
    show pg n j (if tk_is B n k w = true then .inr (tk_e B n k) else .inl (1, tk_a B n k))
    by_cases g : tk_is B n k w = true
    · rw [if_pos g]
      exact (pg_t h.1 h.2 (by rw [tk_is_k g]; decide)).mono (by omega)
    · rw [if_neg g]
      exact pg_f (by omega) h.2 (by decide) (by decide)
theorem pg_N {j lo hi : Int} {s : PS} (h0 : 0 ≤ j) (h : pg n j s) : pg n j (ps_N B n lo hi s) := by
  cases s with
  | inl x => exact h
  | inr k =>
    have h : j ≤ k ∧ k ≤ n := h
    show pg n j (if tk_k B n k = 3 then (if lo ≤ tk_v B n k ∧ tk_v B n k ≤ hi then .inr (tk_e B n k) else .inl (4, tk_a B n k)) else .inl (1, tk_a B n k))
    by_cases g : tk_k B n k = 3
    · rw [if_pos g]
      by_cases g2 : lo ≤ tk_v B n k ∧ tk_v B n k ≤ hi
      · rw [if_pos g2]
        exact (pg_t h.1 h.2 (by rw [g]; decide)).mono (by omega)
      · rw [if_neg g2]
        exact pg_f (by omega) h.2 (by decide) (by decide)
    · rw [if_neg g]
      exact pg_f (by omega) h.2 (by decide) (by decide)
theorem pg_R {j lo hi : Int} {told : Int → Bool} {s : PS} (h0 : 0 ≤ j) (h : pg n j s) : pg n j (ps_R B n lo hi told s) := by
  cases s with
  | inl x => exact h
  | inr k =>
    have h2 := pg_N (B := B) (lo := lo) (hi := hi) h0 h
    have h : j ≤ k ∧ k ≤ n := h
    show pg n j (match ps_N B n lo hi (.inr k) with
      | .inl x => .inl x
      | .inr k2 => if told (tk_v B n k) = true then .inl (3, tk_a B n k) else .inr k2)
    cases hs : ps_N B n lo hi (.inr k) with
    | inl x => rw [hs] at h2; exact h2
    | inr k2 =>
      rw [hs] at h2
      show pg n j (if told (tk_v B n k) = true then .inl (3, tk_a B n k) else .inr k2)
      by_cases g : told (tk_v B n k) = true
      · rw [if_pos g]
        exact pg_f (by omega) h.2 (by decide) (by decide)
      · rw [if_neg g]
        exact h2
theorem pg_M {j m : Int} {L : Int → Int} {s : PS} (h0 : 0 ≤ j) (h : pg n j s) : pg n j (ps_M B n L m s) := by
  cases s with
  | inl x => exact h
  | inr k =>
    have h : j ≤ k ∧ k ≤ n := h
    show pg n j (if tk_k B n k ≠ 2 ∨ tk_ls B n k ≠ 0 then .inl (1, tk_a B n k) else if fa_any (fun i => decide (L i = tk_c B n k)) m.toNat 0 = true then .inl (3, tk_a B n k) else .inr (tk_e B n k))
    by_cases g : tk_k B n k ≠ 2 ∨ tk_ls B n k ≠ 0
    · rw [if_pos g]
      exact pg_f (by omega) h.2 (by decide) (by decide)
    · rw [if_neg g]
      by_cases g2 : fa_any (fun i => decide (L i = tk_c B n k)) m.toNat 0 = true
      · rw [if_pos g2]
        exact pg_f (by omega) h.2 (by decide) (by decide)
      · rw [if_neg g2]
        exact (pg_t h.1 h.2 (by omega)).mono (by omega)
theorem pv_F_k {k : Int} (h : pv_F B n (.inr k) ≠ -1) : tk_k B n k = 2 := by
  have h : (if tk_is B n k 13 = true then (0 : Int) else if tk_is B n k 14 = true then 1 else if tk_is B n k 15 = true then 2 else if tk_is B n k 16 = true then 3 else -1) ≠ -1 := h
  by_cases g0 : tk_is B n k 13 = true
  · exact tk_is_k g0
  by_cases g1 : tk_is B n k 14 = true
  · exact tk_is_k g1
  by_cases g2 : tk_is B n k 15 = true
  · exact tk_is_k g2
  by_cases g3 : tk_is B n k 16 = true
  · exact tk_is_k g3
  rw [if_neg g0, if_neg g1, if_neg g2, if_neg g3] at h
  exact absurd rfl h
theorem pv_F_r {s : PS} : -1 ≤ pv_F B n s ∧ pv_F B n s ≤ 3 := by
  cases s with
  | inl x => exact ⟨(by decide : (-1 : Int) ≤ -1), (by decide : (-1 : Int) ≤ 3)⟩
  | inr k =>
    show -1 ≤ (if tk_is B n k 13 = true then (0 : Int) else if tk_is B n k 14 = true then 1 else if tk_is B n k 15 = true then 2 else if tk_is B n k 16 = true then 3 else -1) ∧ (if tk_is B n k 13 = true then (0 : Int) else if tk_is B n k 14 = true then 1 else if tk_is B n k 15 = true then 2 else if tk_is B n k 16 = true then 3 else -1) ≤ 3
    repeat' split
    all_goals omega
theorem pv_D_r {s : PS} : -1 ≤ pv_D B n s ∧ pv_D B n s ≤ 1 := by
  cases s with
  | inl x => exact ⟨(by decide : (-1 : Int) ≤ 0), (by decide : (0 : Int) ≤ 1)⟩
  | inr k =>
    show -1 ≤ (if tk_is B n k 10 = true then (-1 : Int) else if tk_is B n k 11 = true then 1 else 0) ∧ (if tk_is B n k 10 = true then (-1 : Int) else if tk_is B n k 11 = true then 1 else 0) ≤ 1
    repeat' split
    all_goals omega
theorem pv_D_k {k : Int} (h : pv_D B n (.inr k) ≠ 0) : tk_k B n k = 2 := by
  have h : (if tk_is B n k 10 = true then (-1 : Int) else if tk_is B n k 11 = true then 1 else 0) ≠ 0 := h
  by_cases g0 : tk_is B n k 10 = true
  · exact tk_is_k g0
  by_cases g1 : tk_is B n k 11 = true
  · exact tk_is_k g1
  rw [if_neg g0, if_neg g1] at h
  exact absurd rfl h
theorem pg_F {j : Int} {s : PS} (h0 : 0 ≤ j) (h : pg n j s) : pg n j (ps_F B n s) := by
  cases s with
  | inl x => exact h
  | inr k =>
    have h : j ≤ k ∧ k ≤ n := h
    show pg n j (if pv_F B n (.inr k) = -1 then .inl (1, tk_a B n k) else .inr (tk_e B n k))
    by_cases g : pv_F B n (.inr k) = -1
    · rw [if_pos g]
      exact pg_f (by omega) h.2 (by decide) (by decide)
    · rw [if_neg g]
      exact (pg_t h.1 h.2 (by rw [pv_F_k g]; decide)).mono (by omega)
theorem pg_L {j : Int} {s : PS} (h0 : 0 ≤ j) (h : pg n j s) : pg n j (ps_D B n s) := by
  cases s with
  | inl x => exact h
  | inr k =>
    have h : j ≤ k ∧ k ≤ n := h
    show pg n j (if pv_D B n (.inr k) = 0 then .inl (1, tk_a B n k) else .inr (tk_e B n k))
    by_cases g : pv_D B n (.inr k) = 0
    · rw [if_pos g]
      exact pg_f (by omega) h.2 (by decide) (by decide)
    · rw [if_neg g]
      exact (pg_t h.1 h.2 (by rw [pv_D_k g]; decide)).mono (by omega)
theorem pg_beg {f : Int → Int} {k : Int} (h0 : 0 ≤ k) (h : k ≤ n) : pg n (k + 1) (pl_beg B n f k) := by
  unfold pl_beg
  by_cases g : tk_ls B n k = 0
  · rw [if_pos g]
    exact pg_f h0 h (by decide) (by decide)
  · have hk : tk_k B n k ≠ 0 := by rw [tk_ls_k g]; decide
    rw [if_neg g]
    by_cases g1 : tk_ls B n k = 1
    · rw [if_pos g1]
      by_cases g2 : 0 < f 0
      · rw [if_pos g2]
        exact pg_f h0 h (by decide) (by decide)
      · rw [if_neg g2]
        exact pg_t (Int.le_refl _) h hk
    · rw [if_neg g1]
      by_cases g2 : f 0 ≤ 0
      · rw [if_pos g2]
        exact pg_f h0 h (by decide) (by decide)
      · rw [if_neg g2]
        by_cases g3 : pl_room f (tk_ls B n k) = true
        · rw [if_pos g3]
          exact pg_t (Int.le_refl _) h hk
        · rw [if_neg g3]
          exact pg_f h0 h (by decide) (by decide)
theorem pg_rest {f : Int → Int} {L : Int → Int} {k j : Int} {s : PS} (h0 : 0 ≤ j) (h : pg n j s) : pg n j (pl_rest B n f L k s).1 := by
  unfold pl_rest
  split
  · exact pg_N h0 (pg_W h0 (pg_N h0 (pg_W h0 (pg_N h0 (pg_W h0 h)))))
  · split
    · exact pg_N h0 (pg_L h0 (pg_R h0 h))
    · split
      · exact pg_R h0 h
      · split
        · exact pg_R h0 (pg_N h0 (pg_W h0 (pg_M h0 h)))
        · split
          · exact pg_N h0 (pg_W h0 (pg_N h0 (pg_W h0 (pg_N h0 (pg_W h0 (pg_N h0 (pg_W h0 (pg_F h0 (pg_M h0 h)))))))))
          · split
            · exact pg_R h0 (pg_N h0 h)
            · exact pg_N h0 (pg_W h0 (pg_N h0 (pg_W h0 (pg_N h0 h))))
theorem pg_line {f : Int → Int} {L : Int → Int} {k : Int} (h0 : 0 ≤ k) (h : k ≤ n) : pg n (k + 1) (pl_line B n f L k).1 := by
  have hb := pg_beg (B := B) (f := f) h0 h
  unfold pl_line
  cases hs : pl_beg B n f k with
  | inl x => rw [hs] at hb; exact hb
  | inr k2 =>
    rw [hs] at hb
    exact pg_rest (by omega) hb
/-- values of numbers -/
theorem pv_N_r {lo hi : Int} {s : PS} (h : lo ≤ hi) : lo ≤ pv_N B n lo hi s ∧ pv_N B n lo hi s ≤ hi := by
  cases s with
  | inl x => exact ⟨Int.le_refl _, h⟩
  | inr k =>
    show lo ≤ (if tk_k B n k = 3 ∧ lo ≤ tk_v B n k ∧ tk_v B n k ≤ hi then tk_v B n k else lo) ∧ (if tk_k B n k = 3 ∧ lo ≤ tk_v B n k ∧ tk_v B n k ≤ hi then tk_v B n k else lo) ≤ hi
    split <;> omega
theorem ps_N_inr {lo hi k k2 : Int} (h : ps_N B n lo hi (.inr k) = .inr k2) : tk_k B n k = 3 ∧ lo ≤ tk_v B n k ∧ tk_v B n k ≤ hi ∧ k2 = tk_e B n k ∧ pv_N B n lo hi (.inr k) = tk_v B n k := by
  have h : (if tk_k B n k = 3 then (if lo ≤ tk_v B n k ∧ tk_v B n k ≤ hi then .inr (tk_e B n k) else .inl (4, tk_a B n k)) else .inl (1, tk_a B n k) : PS) = .inr k2 := h
  by_cases g : tk_k B n k = 3
  · rw [if_pos g] at h
    by_cases g2 : lo ≤ tk_v B n k ∧ tk_v B n k ≤ hi
    · rw [if_pos g2] at h
      exact ⟨g, g2.1, g2.2, (Sum.inr.inj h).symm, if_pos ⟨g, g2⟩⟩
    · rw [if_neg g2] at h
      cases h
  · rw [if_neg g] at h
    cases h
theorem ps_R_inr {lo hi k k2 : Int} {told : Int → Bool} (h : ps_R B n lo hi told (.inr k) = .inr k2) : ps_N B n lo hi (.inr k) = .inr k2 ∧ told (pv_N B n lo hi (.inr k)) = false := by
  have h : (match ps_N B n lo hi (.inr k) with
      | .inl x => .inl x
      | .inr k2 => if told (tk_v B n k) = true then .inl (3, tk_a B n k) else .inr k2 : PS) = .inr k2 := h
  cases hs : ps_N B n lo hi (.inr k) with
  | inl x => rw [hs] at h; cases h
  | inr k3 =>
    rw [hs] at h
    have h : (if told (tk_v B n k) = true then .inl (3, tk_a B n k) else .inr k3 : PS) = .inr k2 := h
    have h2 := (ps_N_inr hs).2.2.2.2
    by_cases g : told (tk_v B n k) = true
    · rw [if_pos g] at h; cases h
    · rw [if_neg g] at h
      rw [h2]
      exact ⟨by rw [h], bo_f g⟩
end PG

/-! counts of votes, the winner -/
def sp_cnt (f : Int → Int) (s : Int) : Nat → Int → Int
  | 0, _ => 0
  | k + 1, i => (if f i = s then 1 else 0) + sp_cnt f s k (i + 1)
theorem sp_cnt_r {f : Int → Int} {s : Int} : ∀ (k : Nat) (i : Int), 0 ≤ sp_cnt f s k i ∧ sp_cnt f s k i ≤ k := by
  intro k
  induction k with
  | zero => intro i; exact ⟨Int.le_refl 0, Int.le_refl 0⟩
  | succ k ih =>
    intro i
    have := ih (i + 1)
    unfold sp_cnt
    split <;> omega
theorem sp_cnt_c {f g : Int → Int} {s : Int} : ∀ (k : Nat) (i : Int), (∀ j, i ≤ j → j < i + k → f j = g j) → sp_cnt f s k i = sp_cnt g s k i := by
  intro k
  induction k with
  | zero => intro i h; rfl
  | succ k ih =>
    intro i h
    unfold sp_cnt
    rw [h i (by omega) (by omega), ih (i + 1) (fun j a b => h j (by omega) (by omega))]
def sp_first (w : Int → Int) : Nat → Int → Int → Int → Int
  | 0, _, best, _ => best
  | k + 1, i, best, most => if most < w i then sp_first w k (i + 1) i (w i) else sp_first w k (i + 1) best most
theorem sp_first_c {w u : Int → Int} : ∀ (k : Nat) (i best most : Int), (∀ j, i ≤ j → j < i + k → w j = u j) → sp_first w k i best most = sp_first u k i best most := by
  intro k
  induction k with
  | zero => intro i best most h; rfl
  | succ k ih =>
    intro i best most h
    unfold sp_first
    rw [h i (by omega) (by omega), ih (i + 1) _ _ (fun j a b => h j (by omega) (by omega)), ih (i + 1) _ _ (fun j a b => h j (by omega) (by omega))]
theorem sp_first_r {w : Int → Int} {n : Int} : ∀ (k : Nat) (i best most : Int), 0 ≤ i → i + k ≤ n → (best = -2 ∨ 0 ≤ best ∧ best < n) → (sp_first w k i best most = -2 ∨ 0 ≤ sp_first w k i best most ∧ sp_first w k i best most < n) := by
  intro k
  induction k with
  | zero => intro i best most _ _ h; exact h
  | succ k ih =>
    intro i best most h1 h2 h
    unfold sp_first
    split
    · exact ih _ _ _ (by omega) (by omega) (by omega)
    · exact ih _ _ _ (by omega) (by omega) h
def sp_win (w : Int → Int) (n : Int) : Int := sp_first w n.toNat 0 (-2) 0
theorem sp_win_r {w : Int → Int} {n : Int} (h : 0 ≤ n) : sp_win w n = -2 ∨ 0 ≤ sp_win w n ∧ sp_win w n < n := sp_first_r _ _ _ _ (by omega) (by omega) (Or.inl rfl)
theorem sp_win_c {w u : Int → Int} {n : Int} (h : ∀ j, 0 ≤ j → j < n → w j = u j) : sp_win w n = sp_win u n := sp_first_c _ _ _ _ (fun j a b => h j a (by omega))
/-- the count for s of what f tells of n members -/
def sp_cn (f : Int → Int) (n s : Int) : Int := sp_cnt f s n.toNat 0
theorem sp_cn_r {f : Int → Int} {n s : Int} (h : 0 ≤ n) : 0 ≤ sp_cn f n s ∧ sp_cn f n s ≤ n := by
  have := sp_cnt_r (f := f) (s := s) n.toNat 0
  unfold sp_cn
  omega
theorem sp_cn_c {f g : Int → Int} {n s : Int} (h : ∀ j, 0 ≤ j → j < n → f j = g j) : sp_cn f n s = sp_cn g n s := sp_cnt_c _ _ (fun j a b => h j a (by omega))
theorem n32_iand (a b : Int) : n32 (zm_iand a b) = zm_iand a b := by
  unfold n32 zm_iand
  rw [Int32.ofInt_toInt]
def sp_bit (x m : Int) : Bool := decide (zm_iand (zm_ishr x m) 1 = 1)
theorem sp_bit_all {M : Int} (h1 : 0 ≤ M) (h2 : M ≤ 6) {m : Int} (h3 : 0 ≤ m) (h4 : m < M) : sp_bit (zm_ishl 1 M - 1) m = true := by
  have e1 : M = 1 ∨ M = 2 ∨ M = 3 ∨ M = 4 ∨ M = 5 ∨ M = 6 := by omega
  have e2 : m = 0 ∨ m = 1 ∨ m = 2 ∨ m = 3 ∨ m = 4 ∨ m = 5 := by omega
  rcases e1 with rfl | rfl | rfl | rfl | rfl | rfl <;> rcases e2 with rfl | rfl | rfl | rfl | rfl | rfl <;> first | decide | omega
theorem zfill_stepc {E : Nat → Int → Int} {o : Nat} {i hi z : Int} (h : i < hi) : zfill (zu E o i z) o (i + 1) hi (fun _ => z) = zfill E o i hi (fun _ => z) := zfill_step h rfl
section VT
variable {X : Nat × (Nat → Int)} {d : Nat} {t : List (Nat × Nat)} {p q : Nat} {E : Nat → Int → Int} {V : Int → Fin 65537} {C R : Int → Int} {o : Nat}
theorem sp_voteAt_r (hV : zV V) {m c r : Int} : sp_voteAt V C R m c r = -2 ∨ 0 ≤ sp_voteAt V C R m c r ∧ sp_voteAt V C R m c r < ((V (3)).val : Int) := by
  have hs := hV.spks
  unfold sp_voteAt
  split
  · exact Or.inr (sp_nearest_r (by omega))
  · exact Or.inl rfl
theorem sp_vote_r (hV : zV V) {m : Int} : sp_vote V C R m = -2 ∨ 0 ≤ sp_vote V C R m ∧ sp_vote V C R m < ((V (3)).val : Int) := sp_voteAt_r hV
theorem T41_loop (ho : zo o) (hC : zC V E o) (hV : zV V) {s : Int} (hs : -2147483648 ≤ s ∧ s < 2147483648) : ∀ (k : Nat) (i z : Int), 0 ≤ i → i + k = ((V (4)).val : Int) → 0 ≤ z → z ≤ i → zf_ev X (d + 4) 41 (4, [vR o, vI s, vI z, vI i], [], zH t p q E) = some (some [vI (z + sp_cnt (sp_vote V (sp_C V) (sp_R V)) s k i)], zH t p q E) := by
  have hm := hV.mems
  have hk := hV.spks
  intro k
  induction k with
  | zero =>
    intro i z h1 h2 h3 h4
    rw [L41_4 ho]
    simp (disch := omega) only [n32_id, zg_pos, if_pos, if_neg, zu_same, zu_ne, if_true, if_false, ne_eq, not_true_eq_false, not_false_eq_true, true_or, or_true, true_and, and_true, zg_true, fa_b_f, fa_b_t, hC.mems]
    simp [sp_cnt]
  | succ k ih =>
    intro i z h1 h2 h3 h4
    have hv := sp_vote_r (C := sp_C V) (R := sp_R V) hV (m := i)
    rw [L41_4 ho]
    simp (disch := omega) only [n32_id, zg_pos, if_pos, if_neg, zu_same, zu_ne, if_true, if_false, ne_eq, not_true_eq_false, not_false_eq_true, true_or, or_true, true_and, and_true, zg_true, fa_b_f, fa_b_t, hC.mems]
    rw [T40 ho hC hV h1 (by omega), L41_k14 ho]
    unfold sp_cnt
    by_cases w : sp_vote V (sp_C V) (sp_R V) i = s
    · simp (disch := omega) only [n32_id, zg_pos, if_pos, if_neg, zu_same, zu_ne, if_true, if_false, ne_eq, not_true_eq_false, not_false_eq_true, true_or, or_true, true_and, and_true, zg_true, fa_b_f, fa_b_t]
      rw [ih _ _ (by omega) (by omega) (by omega) (by omega)]
      simp [Int.add_assoc]
    · simp (disch := omega) only [n32_id, zg_pos, if_pos, if_neg, zu_same, zu_ne, if_true, if_false, ne_eq, not_true_eq_false, not_false_eq_true, true_or, or_true, true_and, and_true, zg_true, fa_b_f, fa_b_t]
      rw [ih _ _ (by omega) (by omega) (by omega) (by omega)]
      simp
theorem T41 (ho : zo o) (hC : zC V E o) (hV : zV V) {s : Int} (hs : -2147483648 ≤ s ∧ s < 2147483648) : zf_ev X (d + 4) 41 (0, [vR o, vI s, vJ, vJ], [], zH t p q E) = some (some [vI (sp_cn (sp_vote V (sp_C V) (sp_R V)) ((V (4)).val : Int) s)], zH t p q E) := by
  rw [L41_0 ho, T41_loop ho hC hV hs (((V (4)).val : Int)).toNat 0 0 (by omega) (by omega) (by omega) (by omega)]
  simp [sp_cn]
theorem T43_loop {a n : Nat} (ha : zSh[a]? = some (20, n)) {w : Int → Int} {N : Int} (hN : 0 ≤ N ∧ N ≤ n ∧ N ≤ 100) (h : ∀ s, 0 ≤ s → s < N → E a s = w s ∧ -1000000 ≤ w s ∧ w s ≤ 1000000) : ∀ (k : Nat) (i best most : Int), 0 ≤ i → i + k = N → -1000000 ≤ most → most ≤ 1000000 → zf_ev X d 43 (8, [vR a, vI N, vI best, vI most, vI i], [], zH t p q E) = some (some [vI (sp_first w k i best most)], zH t p q E) := by
  intro k
  induction k with
  | zero =>
    intro i best most h1 h2 h3 h4
    rw [L43_8 ha]
    simp (disch := omega) only [n32_id, zg_pos, if_pos, if_neg, zu_same, zu_ne, if_true, if_false, ne_eq, not_true_eq_false, not_false_eq_true, true_or, or_true, true_and, and_true, zg_true, fa_b_f, fa_b_t]
    rfl
  | succ k ih =>
    intro i best most h1 h2 h3 h4
    obtain ⟨e, b1, b2⟩ := h i (by omega) (by omega)
    rw [L43_8 ha]
    unfold sp_first
    by_cases g : most < w i
    · simp (disch := omega) only [n32_id, zg_pos, if_pos, if_neg, zu_same, zu_ne, if_true, if_false, ne_eq, not_true_eq_false, not_false_eq_true, true_or, or_true, true_and, and_true, zg_true, fa_b_f, fa_b_t, e]
      exact ih _ _ _ (by omega) (by omega) (by omega) (by omega)
    · simp (disch := omega) only [n32_id, zg_pos, if_pos, if_neg, zu_same, zu_ne, if_true, if_false, ne_eq, not_true_eq_false, not_false_eq_true, true_or, or_true, true_and, and_true, zg_true, fa_b_f, fa_b_t, e]
      exact ih _ _ _ (by omega) (by omega) (by omega) (by omega)
theorem T43 {a n : Nat} (ha : zSh[a]? = some (20, n)) {w : Int → Int} {N : Int} (hN : 0 ≤ N ∧ N ≤ n ∧ N ≤ 100) (h : ∀ s, 0 ≤ s → s < N → E a s = w s ∧ -1000000 ≤ w s ∧ w s ≤ 1000000) : zf_ev X d 43 (0, [vR a, vI N, vJ, vJ, vJ], [], zH t p q E) = some (some [vI (sp_win w N)], zH t p q E) := by
  rw [L43_0 ha, T43_loop ha hN h N.toNat 0 (-2) 0 (by omega) (by omega) (by omega) (by omega)]
  rfl
theorem T42_b (ho : zo o) (hV : zV V) : ∀ (k : Nat) (i : Int) (j : ZV) (E : Nat → Int → Int), zC V E o → 0 ≤ i → i + k = ((V (4)).val : Int) → (∀ s, 0 ≤ s → s < ((V (3)).val : Int) → 0 ≤ E (o + 9) s ∧ E (o + 9) s ≤ i) →
    ∃ F, zf_ev X (d + 4) 42 (25, [vR o, vI i, j], [], zH t p q E) = some (some [vI (sp_win (fun s => E (o + 9) s + sp_cnt (sp_vote V (sp_C V) (sp_R V)) s k i) ((V (3)).val : Int))], zH t p q F) ∧ (∀ a9 b9, a9 ≠ o + 9 → F a9 b9 = E a9 b9) := by
  have hm := hV.mems
  have hk := hV.spks
  intro k
  induction k with
  | zero =>
    intro i j E hC h1 h2 h3
    refine ⟨E, ?_, fun a b _ => rfl⟩
    rw [L42_25 ho]
    simp (disch := omega) only [n32_id, zg_pos, if_pos, if_neg, zu_same, zu_ne, if_true, if_false, ne_eq, not_true_eq_false, not_false_eq_true, true_or, or_true, true_and, and_true, zg_true, fa_b_f, fa_b_t, hC.mems, hC.spks]
    rw [T43 (zsh_h9 ho) (w := fun s => E (o + 9) s) (by omega) (fun s a b => ⟨rfl, by have := h3 s a b; omega, by have := h3 s a b; omega⟩), L42_k67]
    rw [sp_win_c (u := fun s => E (o + 9) s + sp_cnt (sp_vote V (sp_C V) (sp_R V)) s 0 i) (fun s _ _ => by simp [sp_cnt])]
  | succ k ih =>
    intro i j E hC h1 h2 h3
    have hv := sp_vote_r (C := sp_C V) (R := sp_R V) hV (m := i)
    rcases hv with hv | hv
    · obtain ⟨F, f1, f2⟩ := ih (i + 1) (vI (sp_vote V (sp_C V) (sp_R V) i)) E hC (by omega) (by omega) (fun s a b => by have := h3 s a b; omega)
      refine ⟨F, ?_, f2⟩
      rw [L42_25 ho]
      simp (disch := omega) only [n32_id, zg_pos, if_pos, if_neg, zu_same, zu_ne, if_true, if_false, ne_eq, not_true_eq_false, not_false_eq_true, true_or, or_true, true_and, and_true, zg_true, fa_b_f, fa_b_t, hC.mems]
      rw [T40 ho hC hV h1 (by omega), L42_k35 ho]
      simp (disch := omega) only [n32_id, zg_pos, if_pos, if_neg, zu_same, zu_ne, if_true, if_false, ne_eq, not_true_eq_false, not_false_eq_true, true_or, or_true, true_and, and_true, zg_true, fa_b_f, fa_b_t]
      rw [f1]
      rw [sp_win_c (u := fun s => E (o + 9) s + sp_cnt (sp_vote V (sp_C V) (sp_R V)) s (k + 1) i)]
      intro s a b
      simp only [sp_cnt]
      rw [if_neg (by omega)]
      omega
    · have hq := h3 (sp_vote V (sp_C V) (sp_R V) i) hv.1 (by omega)
      obtain ⟨F, f1, f2⟩ := ih (i + 1) (vI (sp_vote V (sp_C V) (sp_R V) i)) (zu E (o + 9) (sp_vote V (sp_C V) (sp_R V) i) (E (o + 9) (sp_vote V (sp_C V) (sp_R V) i) + 1)) (hC.fr (fun a b _ _ => zu_ne (Or.inl (by omega)))) (by omega) (by omega) (fun s a b => by
        have := h3 s a b
        unfold zu
        split <;> omega)
      refine ⟨F, ?_, fun a b hab => by rw [f2 a b hab, zu_ne (Or.inl hab)]⟩
      rw [L42_25 ho]
      simp (disch := omega) only [n32_id, zg_pos, if_pos, if_neg, zu_same, zu_ne, if_true, if_false, ne_eq, not_true_eq_false, not_false_eq_true, true_or, or_true, true_and, and_true, zg_true, fa_b_f, fa_b_t, hC.mems]
      rw [T40 ho hC hV h1 (by omega), L42_k35 ho]
      simp (disch := omega) only [n32_id, zg_pos, if_pos, if_neg, zu_same, zu_ne, if_true, if_false, ne_eq, not_true_eq_false, not_false_eq_true, true_or, or_true, true_and, and_true, zg_true, fa_b_f, fa_b_t]
      rw [f1]
      rw [sp_win_c (u := fun s => E (o + 9) s + sp_cnt (sp_vote V (sp_C V) (sp_R V)) s (k + 1) i)]
      intro s a b
      simp only [sp_cnt]
      unfold zu
      by_cases g : sp_vote V (sp_C V) (sp_R V) i = s
      · rw [if_pos ⟨rfl, g.symm⟩, if_pos g, g]
        omega
      · rw [if_neg (fun z => g z.2.symm), if_neg g]
        omega
theorem T42_a (ho : zo o) (hV : zV V) : ∀ (k : Nat) (i : Int) (j : ZV) (E : Nat → Int → Int), zC V E o → 0 ≤ i → i + k = ((V (3)).val : Int) →
    zf_ev X (d + 4) 42 (2, [vR o, vI i, j], [], zH t p q E) = zf_ev X (d + 4) 42 (25, [vR o, vI 0, j], [], zH t p q (zfill E (o + 9) i ((V (3)).val : Int) (fun _ => 0))) := by
  have hk := hV.spks
  intro k
  induction k with
  | zero =>
    intro i j E hC h1 h2
    rw [L42_2 ho, zfill_nil (by omega)]
    simp (disch := omega) only [n32_id, zg_pos, if_pos, if_neg, zu_same, zu_ne, if_true, if_false, ne_eq, not_true_eq_false, not_false_eq_true, true_or, or_true, true_and, and_true, zg_true, fa_b_f, fa_b_t, hC.spks]
  | succ k ih =>
    intro i j E hC h1 h2
    rw [L42_2 ho]
    simp (disch := omega) only [n32_id, zg_pos, if_pos, if_neg, zu_same, zu_ne, if_true, if_false, ne_eq, not_true_eq_false, not_false_eq_true, true_or, or_true, true_and, and_true, zg_true, fa_b_f, fa_b_t, hC.spks]
    rw [ih _ _ (zu E (o + 9) i 0) (hC.fr (fun a b _ _ => zu_ne (Or.inl (by omega)))) (by omega) (by omega), zfill_stepc (by omega)]
theorem T42 (ho : zo o) (hC : zC V E o) (hV : zV V) : ∃ F, zf_ev X (d + 4) 42 (0, [vR o, vJ, vJ], [], zH t p q E) = some (some [vI (sp_win (sp_cn (sp_vote V (sp_C V) (sp_R V)) ((V (4)).val : Int)) ((V (3)).val : Int))], zH t p q F) ∧ (∀ a9 b9, a9 ≠ o + 9 → F a9 b9 = E a9 b9) := by
  have hk := hV.spks
  obtain ⟨F, f1, f2⟩ := T42_b (X := X) (d := d) (t := t) (p := p) (q := q) ho hV (((V (4)).val : Int)).toNat 0 vJ (zfill E (o + 9) 0 ((V (3)).val : Int) (fun _ => 0)) (hC.fr (fun a b _ _ => zfill_ne (by omega))) (by omega) (by omega) (fun s a b => by rw [zfill_in a b]; omega)
  refine ⟨F, ?_, fun a b hab => by rw [f2 a b hab, zfill_ne hab]⟩
  rw [L42_0 ho, T42_a ho hV (((V (3)).val : Int)).toNat 0 vJ E hC (by omega) (by omega), f1]
  rw [sp_win_c (u := sp_cn (sp_vote V (sp_C V) (sp_R V)) ((V (4)).val : Int))]
  intro s a b
  simp only [zfill_in a b]
  unfold sp_cn
  omega
/-- the reference's votes -/
theorem T234_loop : ∀ (k : Nat) (i : Int) (E : Nat → Int → Int), 0 ≤ i → i + k = 4 → zf_ev X d 234 (2, [vR 60, vI i], [], zH t p q E) = some (some [], zH t p q (zfill E 70 i 4 (fun _ => 0))) := by
  intro k
  induction k with
  | zero =>
    intro i E h1 h2
    rw [L234_2, zfill_nil (by omega)]
    simp (disch := omega) only [n32_id, zg_pos, if_pos, if_neg, zu_same, zu_ne, if_true, if_false, ne_eq, not_true_eq_false, not_false_eq_true, true_or, or_true, true_and, and_true, zg_true, fa_b_f, fa_b_t]
  | succ k ih =>
    intro i E h1 h2
    rw [L234_2]
    simp (disch := omega) only [n32_id, zg_pos, if_pos, if_neg, zu_same, zu_ne, if_true, if_false, ne_eq, not_true_eq_false, not_false_eq_true, true_or, or_true, true_and, and_true, zg_true, fa_b_f, fa_b_t]
    rw [ih _ _ (by omega) (by omega), zfill_stepc (by omega)]
theorem T234 : zf_ev X d 234 (0, [vR 60, vJ], [], zH t p q E) = some (some [], zH t p q (zfill E 70 0 4 (fun _ => 0))) := by
  rw [L234_0, T234_loop 4 0 E (by omega) (by omega)]
theorem T235_loop (hR : zR V E) (hV : zV V) {w : Int → Int} (h : ∀ s, 0 ≤ s → s < 4 → E 70 s = w s ∧ -1000000 ≤ w s ∧ w s ≤ 1000000) : ∀ (k : Nat) (i best most : Int), 0 ≤ i → i + k = ((V (3)).val : Int) → (best = -2 ∧ most = 0 ∨ (0 ≤ best ∧ best < 4) ∧ most = w best) → zf_ev X d 235 (5, [vR 60, vI best, vI i], [], zH t p q E) = some (some [vI (sp_first w k i best most)], zH t p q E) := by
  have hk := hV.spks
  intro k
  induction k with
  | zero =>
    intro i best most h1 h2 h3
    rw [L235_5]
    simp (disch := omega) only [n32_id, zg_pos, if_pos, if_neg, zu_same, zu_ne, if_true, if_false, ne_eq, not_true_eq_false, not_false_eq_true, true_or, or_true, true_and, and_true, zg_true, fa_b_f, fa_b_t, hR.r]
    rfl
  | succ k ih =>
    intro i best most h1 h2 h3
    obtain ⟨e, b1, b2⟩ := h i (by omega) (by omega)
    rw [L235_5]
    unfold sp_first
    rcases h3 with ⟨rfl, rfl⟩ | ⟨h3, rfl⟩
    · by_cases g : 0 < w i
      · simp (disch := omega) only [n32_id, zg_pos, if_pos, if_neg, zu_same, zu_ne, if_true, if_false, ne_eq, not_true_eq_false, not_false_eq_true, true_or, or_true, true_and, and_true, zg_true, fa_b_f, fa_b_t, hR.r, e]
        exact ih _ _ _ (by omega) (by omega) (Or.inr ⟨by omega, rfl⟩)
      · simp (disch := omega) only [n32_id, zg_pos, if_pos, if_neg, zu_same, zu_ne, if_true, if_false, ne_eq, not_true_eq_false, not_false_eq_true, true_or, or_true, true_and, and_true, zg_true, fa_b_f, fa_b_t, hR.r, e]
        exact ih _ _ _ (by omega) (by omega) (Or.inl ⟨rfl, rfl⟩)
    · obtain ⟨e2, b3, b4⟩ := h best (by omega) (by omega)
      by_cases g : w best < w i
      · simp (disch := omega) only [n32_id, zg_pos, if_pos, if_neg, zu_same, zu_ne, if_true, if_false, ne_eq, not_true_eq_false, not_false_eq_true, true_or, or_true, true_and, and_true, zg_true, fa_b_f, fa_b_t, hR.r, e, e2]
        exact ih _ _ _ (by omega) (by omega) (Or.inr ⟨by omega, rfl⟩)
      · simp (disch := omega) only [n32_id, zg_pos, if_pos, if_neg, zu_same, zu_ne, if_true, if_false, ne_eq, not_true_eq_false, not_false_eq_true, true_or, or_true, true_and, and_true, zg_true, fa_b_f, fa_b_t, hR.r, e, e2]
        exact ih _ _ _ (by omega) (by omega) (Or.inr ⟨by omega, rfl⟩)
theorem T235 (hR : zR V E) (hV : zV V) {w : Int → Int} (h : ∀ s, 0 ≤ s → s < 4 → E 70 s = w s ∧ -1000000 ≤ w s ∧ w s ≤ 1000000) : zf_ev X d 235 (0, [vR 60, vJ, vJ], [], zH t p q E) = some (some [vI (sp_win w ((V (3)).val : Int))], zH t p q E) := by
  rw [L235_0, T235_loop hR hV h (((V (3)).val : Int)).toNat 0 (-2) 0 (by omega) (by omega) (Or.inl ⟨rfl, rfl⟩)]
  rfl
def sp_some (S : Int) (f : Int → Int) (m : Int) : Int := if sp_bit S m = true then f m else -2
theorem T181 {x m : Int} : zf_ev X d 181 (0, [vI x, vI m], [], zH t p q E) = some (some [vI (fa_b (sp_bit x m))], zH t p q E) := by
  rw [L181_0, n32_iand]
  unfold sp_bit
  by_cases g : zm_iand (zm_ishr x m) 1 = 1
  · rw [if_neg (by rw [g]; decide)]
    simp [g, fa_b]
  · rw [if_pos (by rw [show n32 1 = 1 by decide]; exact g)]
    simp [g, fa_b]
theorem T236_loop (hV : zV V) {S : Int} : ∀ (k : Nat) (i : Int) (j : ZV) (E : Nat → Int → Int), zR V E → zS C R ((V (3)).val : Int) E → 0 ≤ i → i + k = ((V (4)).val : Int) → (∀ s, 0 ≤ s → s < 4 → 0 ≤ E 70 s ∧ E 70 s ≤ i) →
    ∃ F, zf_ev X (d + 4) 236 (6, [vR 60, vI S, vI i, j], [], zH t p q E) = some (some [], zH t p q F) ∧ (∀ a9 b9, a9 ≠ 68 → a9 ≠ 70 → F a9 b9 = E a9 b9) ∧ ∀ s, 0 ≤ s → s < 4 → F 70 s = E 70 s + sp_cnt (sp_some S (sp_vote V C R)) s k i := by
  have hm := hV.mems
  have hk := hV.spks
  intro k
  induction k with
  | zero =>
    intro i j E hR hS h1 h2 h3
    refine ⟨E, ?_, fun a b _ _ => rfl, fun s _ _ => by simp [sp_cnt]⟩
    rw [L236_6]
    simp (disch := omega) only [n32_id, zg_pos, if_pos, if_neg, zu_same, zu_ne, if_true, if_false, ne_eq, not_true_eq_false, not_false_eq_true, true_or, or_true, true_and, and_true, zg_true, fa_b_f, fa_b_t, hR.r]
  | succ k ih =>
    intro i j E hR hS h1 h2 h3
    have hv := sp_vote_r (C := C) (R := R) hV (m := i)
    have e0 : ∀ s, sp_cnt (sp_some S (sp_vote V C R)) s (k + 1) i = (if sp_some S (sp_vote V C R) i = s then 1 else 0) + sp_cnt (sp_some S (sp_vote V C R)) s k (i + 1) := fun s => rfl
    cases hb : sp_bit S i
    · obtain ⟨F, f1, f2, f3⟩ := ih (i + 1) (vI (-2)) E hR hS (by omega) (by omega) (fun s a b => by have := h3 s a b; omega)
      refine ⟨F, ?_, f2, fun s a b => ?_⟩
      · rw [L236_6]
        simp (disch := omega) only [n32_id, zg_pos, if_pos, if_neg, zu_same, zu_ne, if_true, if_false, ne_eq, not_true_eq_false, not_false_eq_true, true_or, or_true, true_and, and_true, zg_true, fa_b_f, fa_b_t, hR.r]
        rw [T181, L236_k18, hb]
        simp only [fa_b]
        simp (disch := omega) only [n32_id, zg_pos, if_pos, if_neg, zu_same, zu_ne, if_true, if_false, ne_eq, not_true_eq_false, not_false_eq_true, true_or, or_true, true_and, and_true, zg_true, fa_b_f, fa_b_t]
        simpa using f1
      · have e1 : sp_some S (sp_vote V C R) i = -2 := by unfold sp_some; rw [hb]; simp
        rw [f3 s a b, e0, e1, if_neg (by omega)]
        omega
    · have e1 : sp_some S (sp_vote V C R) i = sp_vote V C R i := by unfold sp_some; rw [hb]; simp
      rcases hv with hv | hv
      · obtain ⟨F, f1, f2, f3⟩ := ih (i + 1) (vI (sp_vote V C R i)) (zA V E) hR.A hS.A (by omega) (by omega) (fun s a b => by have := h3 s a b; rw [zA_ne (by omega)]; omega)
        refine ⟨F, ?_, fun a b g1 g2 => by rw [f2 a b g1 g2, zA_ne g1], fun s a b => ?_⟩
        · rw [L236_6]
          simp (disch := omega) only [n32_id, zg_pos, if_pos, if_neg, zu_same, zu_ne, if_true, if_false, ne_eq, not_true_eq_false, not_false_eq_true, true_or, or_true, true_and, and_true, zg_true, fa_b_f, fa_b_t, hR.r]
          rw [T181, L236_k18, hb]
          simp only [fa_b]
          simp (disch := omega) only [n32_id, zg_pos, if_pos, if_neg, zu_same, zu_ne, if_true, if_false, ne_eq, not_true_eq_false, not_false_eq_true, true_or, or_true, true_and, and_true, zg_true, fa_b_f, fa_b_t]
          rw [T233 hR hV hS h1 (by omega), L236_k26]
          simp (disch := omega) only [n32_id, zg_pos, if_pos, if_neg, zu_same, zu_ne, if_true, if_false, ne_eq, not_true_eq_false, not_false_eq_true, true_or, or_true, true_and, and_true, zg_true, fa_b_f, fa_b_t]
          simpa using f1
        · rw [f3 s a b, e0, e1, if_neg (by omega), zA_ne (by omega)]
          omega
      · have hq := h3 (sp_vote V C R i) hv.1 (by omega)
        have e2 : zA V E 70 (sp_vote V C R i) = E 70 (sp_vote V C R i) := zA_ne (by omega)
        obtain ⟨F, f1, f2, f3⟩ := ih (i + 1) (vI (sp_vote V C R i)) (zu (zA V E) 70 (sp_vote V C R i) (E 70 (sp_vote V C R i) + 1)) (hR.A.fr (fun b => zu_ne (by omega)) (fun b => zu_ne (by omega))) (hS.A.fr (fun b => zu_ne (by omega))) (by omega) (by omega) (fun s a b => by
          have := h3 s a b
          unfold zu
          rw [zA_ne (by omega)]
          split <;> omega)
        refine ⟨F, ?_, fun a b g1 g2 => by rw [f2 a b g1 g2, zu_ne (Or.inl g2), zA_ne g1], fun s a b => ?_⟩
        · rw [L236_6]
          simp (disch := omega) only [n32_id, zg_pos, if_pos, if_neg, zu_same, zu_ne, if_true, if_false, ne_eq, not_true_eq_false, not_false_eq_true, true_or, or_true, true_and, and_true, zg_true, fa_b_f, fa_b_t, hR.r]
          rw [T181, L236_k18, hb]
          simp only [fa_b]
          simp (disch := omega) only [n32_id, zg_pos, if_pos, if_neg, zu_same, zu_ne, if_true, if_false, ne_eq, not_true_eq_false, not_false_eq_true, true_or, or_true, true_and, and_true, zg_true, fa_b_f, fa_b_t]
          rw [T233 hR hV hS h1 (by omega), L236_k26]
          simp (disch := omega) only [n32_id, zg_pos, if_pos, if_neg, zu_same, zu_ne, if_true, if_false, ne_eq, not_true_eq_false, not_false_eq_true, true_or, or_true, true_and, and_true, zg_true, fa_b_f, fa_b_t, e2]
          simpa using f1
        · rw [f3 s a b, e0, e1]
          unfold zu
          by_cases g : sp_vote V C R i = s
          · rw [if_pos ⟨rfl, g.symm⟩, if_pos g, g]
            omega
          · rw [if_neg (fun z => g z.2.symm), if_neg g, zA_ne (by omega)]
            omega
theorem T236 (hV : zV V) (hR : zR V E) (hS : zS C R ((V (3)).val : Int) E) {S : Int} : ∃ F, zf_ev X (d + 4) 236 (0, [vR 60, vI S, vJ, vJ], [], zH t p q E) = some (some [], zH t p q F) ∧ (∀ a9 b9, a9 ≠ 68 → a9 ≠ 70 → F a9 b9 = E a9 b9) ∧ ∀ s, 0 ≤ s → s < 4 → F 70 s = sp_cn (sp_some S (sp_vote V C R)) ((V (4)).val : Int) s := by
  obtain ⟨F, f1, f2, f3⟩ := T236_loop (X := X) (d := d) (t := t) (p := p) (q := q) (S := S) hV (((V (4)).val : Int)).toNat 0 vJ (zfill E 70 0 4 (fun _ => 0)) (hR.fr (fun b => zfill_ne (by omega)) (fun b => zfill_ne (by omega))) (hS.fr (fun b => zfill_ne (by omega))) (by omega) (by omega) (fun s a b => by rw [zfill_in a b]; omega)
  refine ⟨F, ?_, fun a b g1 g2 => by rw [f2 a b g1 g2, zfill_ne g2], fun s a b => ?_⟩
  · rw [L236_0, T234, L236_k1, f1]
  · rw [f3 s a b, zfill_in a b]
    unfold sp_cn
    omega
theorem T237 (hR : zR V E) : zf_ev X d 237 (0, [vR 60], [], zH t p q E) = some (some [vI (zm_ishl 1 ((V (4)).val : Int) - 1)], zH t p q E) := by
  rw [L237_0]
  simp (disch := omega) only [n32_id, zg_pos, if_pos, if_neg, zu_same, zu_ne, if_true, if_false, ne_eq, not_true_eq_false, not_false_eq_true, true_or, or_true, true_and, and_true, zg_true, fa_b_f, fa_b_t, hR.r]
theorem T238 (hV : zV V) (hR : zR V E) : ∃ F, zf_ev X (d + 5) 238 (0, [vR 60], [], zH t p q E) = some (some [], zH t p q F) ∧ (∀ a9 b9, a9 ≠ 68 → a9 ≠ 69 → a9 ≠ 70 → F a9 b9 = E a9 b9) ∧ (∀ s, 0 ≤ s → s < 4 → F 70 s = sp_cn (sp_vote V (sp_C V) (sp_R V)) ((V (4)).val : Int) s) ∧ zS (sp_C V) (sp_R V) ((V (3)).val : Int) F := by
  have hm := hV.mems
  obtain ⟨F, f1, f2, f3⟩ := T236 (X := X) (d := d) (t := t) (p := p) (q := q) (S := zm_ishl 1 ((V (4)).val : Int) - 1) hV hR.P (zS_P hV)
  refine ⟨F, ?_, fun a b g1 g2 g3 => by rw [f2 a b g1 g3, zP_ne g2], fun s a b => ?_, (zS_P (E := E) hV).fr (fun b => f2 69 b (by omega) (by omega))⟩
  · rw [L238_0, T230 hR, L238_k1, T237 hR.P, L238_k6, f1, L238_k9]
  · rw [f3 s a b]
    refine sp_cn_c (fun j g1 g2 => ?_)
    unfold sp_some
    rw [sp_bit_all (by omega) hm g1 g2]
    simp
end VT

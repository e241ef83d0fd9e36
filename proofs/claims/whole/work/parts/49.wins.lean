/-! wins, favourite: all errors of all members -/
def sp_bump (W : Int → Int) (v : Int) : Int → Int := fun s => if 0 ≤ v ∧ s = v then W s + 1 else W s
def sp_W (f g : Int → Int → Int) (N s : Int) : Nat → Int → (Int → Int) → Int
  | 0, _, W => if sp_win W N = s then 1 else 0
  | k + 1, m, W => g m (-1) * sp_W f g N s k (m + 1) (sp_bump W (f m (-1))) + g m 0 * sp_W f g N s k (m + 1) (sp_bump W (f m 0)) + g m 1 * sp_W f g N s k (m + 1) (sp_bump W (f m 1))
theorem sp_W_r {f g : Int → Int → Int} {N s : Int} : ∀ (k : Nat) (m : Int) (W : Int → Int), (∀ j, m ≤ j → j < m + k → 0 ≤ g j (-1) ∧ 0 ≤ g j 0 ∧ 0 ≤ g j 1 ∧ g j (-1) + g j 0 + g j 1 = 200) → 0 ≤ sp_W f g N s k m W ∧ sp_W f g N s k m W ≤ 200 ^ k := by
  intro k
  induction k with
  | zero =>
    intro m W h
    unfold sp_W
    split <;> simp
  | succ k ih =>
    intro m W h
    obtain ⟨h1, h2, h3, h4⟩ := h m (by omega) (by omega)
    have i1 := ih (m + 1) (sp_bump W (f m (-1))) (fun j a b => h j (by omega) (by omega))
    have i2 := ih (m + 1) (sp_bump W (f m 0)) (fun j a b => h j (by omega) (by omega))
    have i3 := ih (m + 1) (sp_bump W (f m 1)) (fun j a b => h j (by omega) (by omega))
    unfold sp_W
    have p1 := Int.mul_nonneg h1 i1.1
    have p2 := Int.mul_nonneg h2 i2.1
    have p3 := Int.mul_nonneg h3 i3.1
    have q1 := Int.mul_le_mul_of_nonneg_left i1.2 h1
    have q2 := Int.mul_le_mul_of_nonneg_left i2.2 h2
    have q3 := Int.mul_le_mul_of_nonneg_left i3.2 h3
    refine ⟨by omega, ?_⟩
    rw [Int.pow_succ]
    have e : (200 : Int) ^ k * 200 = g m (-1) * 200 ^ k + g m 0 * 200 ^ k + g m 1 * 200 ^ k := by
      rw [← Int.add_mul, ← Int.add_mul, h4, Int.mul_comm]
    omega
theorem sp_W_c {f g : Int → Int → Int} {N s : Int} : ∀ (k : Nat) (m : Int) (W U : Int → Int), (∀ j, 0 ≤ j → j < N → W j = U j) → sp_W f g N s k m W = sp_W f g N s k m U := by
  intro k
  induction k with
  | zero =>
    intro m W U h
    unfold sp_W
    rw [sp_win_c h]
  | succ k ih =>
    intro m W U h
    have key : ∀ v, ∀ j, 0 ≤ j → j < N → sp_bump W v j = sp_bump U v j := fun v j a b => by
      unfold sp_bump
      rw [h j a b]
    unfold sp_W
    rw [ih (m + 1) _ _ (key (f m (-1))), ih (m + 1) _ _ (key (f m 0)), ih (m + 1) _ _ (key (f m 1))]
def sp_bal (V : Int → Fin 65537) (m e : Int) : Int := sp_voteAt V (sp_C V) (sp_R V) m (sp_wall ((V (0)).val : Int) (sp_dc V m + e)) (sp_dr V m)
def sv_W (V : Int → Fin 65537) (s : Int) : Int := sp_W (sp_bal V) (sp_parts V) ((V (3)).val : Int) s (((V (4)).val : Int)).toNat 0 (fun _ => 0)
def sp_pow (M : Int) : Int := 200 ^ M.toNat
section WN
variable {X : Nat × (Nat → Int)} {d : Nat} {t : List (Nat × Nat)} {p q : Nat} {E : Nat → Int → Int} {V : Int → Fin 65537} {o : Nat}
theorem sp_parts_ok (hV : zV V) {m : Int} (h1 : 0 ≤ m) (h2 : m < ((V (4)).val : Int)) : 0 ≤ sp_parts V m (-1) ∧ 0 ≤ sp_parts V m 0 ∧ 0 ≤ sp_parts V m 1 ∧ sp_parts V m (-1) + sp_parts V m 0 + sp_parts V m 1 = 200 := by
  have := hV.mem m h1 h2
  have b1 : sp_parts V m (-1) = ((V (30 + 5 * m + 4)).val : Int) := rfl
  have b2 : sp_parts V m 0 = 200 - 2 * ((V (30 + 5 * m + 4)).val : Int) := rfl
  have b3 : sp_parts V m 1 = ((V (30 + 5 * m + 4)).val : Int) := rfl
  omega
theorem sp_pow_r (hV : zV V) : 0 < sp_pow ((V (4)).val : Int) ∧ sp_pow ((V (4)).val : Int) ≤ 64000000000000 := by
  have hm := hV.mems
  have e : ((V (4)).val : Int) = 0 ∨ ((V (4)).val : Int) = 1 ∨ ((V (4)).val : Int) = 2 ∨ ((V (4)).val : Int) = 3 ∨ ((V (4)).val : Int) = 4 ∨ ((V (4)).val : Int) = 5 ∨ ((V (4)).val : Int) = 6 := by omega
  unfold sp_pow
  rcases e with e | e | e | e | e | e | e <;> rw [e] <;> decide
theorem T48_loop {M : Int} (hM : 0 ≤ M ∧ M ≤ 6) : ∀ (k : Nat) (i z : Int) (j : ZV), 0 ≤ i → i + k = M → zf_ev X d 48 (4, [vI M, vL z, j, vI i], [], zH t p q E) = some (some [vL (z * 200 ^ k)], zH t p q E) := by
  intro k
  induction k with
  | zero =>
    intro i z j h1 h2
    rw [L48_4]
    simp (disch := omega) only [n32_id, zg_pos, if_pos, if_neg, zu_same, zu_ne, if_true, if_false, ne_eq, not_true_eq_false, not_false_eq_true, true_or, or_true, true_and, and_true, zg_true, fa_b_f, fa_b_t]
    simp
  | succ k ih =>
    intro i z j h1 h2
    rw [L48_4]
    simp (disch := omega) only [n32_id, zg_pos, if_pos, if_neg, zu_same, zu_ne, if_true, if_false, ne_eq, not_true_eq_false, not_false_eq_true, true_or, or_true, true_and, and_true, zg_true, fa_b_f, fa_b_t]
    rw [ih _ _ _ (by omega) (by omega), Int.mul_assoc, Int.pow_succ, Int.mul_comm (200 ^ k)]
theorem T48 {M : Int} (hM : 0 ≤ M ∧ M ≤ 6) : zf_ev X d 48 (0, [vI M, vJ, vJ, vJ], [], zH t p q E) = some (some [vL (sp_pow M)], zH t p q E) := by
  rw [L48_0, T48_loop hM M.toNat 0 1 _ (by omega) (by omega), Int.one_mul]
  rfl
theorem T255_loop {M : Int} (hM : 0 ≤ M ∧ M ≤ 6) : ∀ (k : Nat) (i z : Int) (j : ZV), 0 ≤ i → i + k = M → zf_ev X d 255 (4, [vI M, vL z, j, vI i], [], zH t p q E) = some (some [vL (z * 200 ^ k)], zH t p q E) := by
  intro k
  induction k with
  | zero =>
    intro i z j h1 h2
    rw [L255_4]
    simp (disch := omega) only [n32_id, zg_pos, if_pos, if_neg, zu_same, zu_ne, if_true, if_false, ne_eq, not_true_eq_false, not_false_eq_true, true_or, or_true, true_and, and_true, zg_true, fa_b_f, fa_b_t]
    simp
  | succ k ih =>
    intro i z j h1 h2
    rw [L255_4]
    simp (disch := omega) only [n32_id, zg_pos, if_pos, if_neg, zu_same, zu_ne, if_true, if_false, ne_eq, not_true_eq_false, not_false_eq_true, true_or, or_true, true_and, and_true, zg_true, fa_b_f, fa_b_t]
    rw [ih _ _ _ (by omega) (by omega), Int.mul_assoc, Int.pow_succ, Int.mul_comm (200 ^ k)]
theorem T255 {M : Int} (hM : 0 ≤ M ∧ M ≤ 6) : zf_ev X d 255 (0, [vI M, vJ, vJ, vJ], [], zH t p q E) = some (some [vL (sp_pow M)], zH t p q E) := by
  rw [L255_0, T255_loop hM M.toNat 0 1 _ (by omega) (by omega), Int.one_mul]
  rfl
/-- the ballots by errors, as the class keeps them in row a -/
def zBl (V : Int → Fin 65537) (E : Nat → Int → Int) (a : Nat) (n : Int) : Prop := ∀ m, 0 ≤ m → m < n → ∀ e, -1 ≤ e → e ≤ 1 → E a (3 * m + e + 1) = sp_bal V m e
theorem sp_bal_r (hV : zV V) {m e : Int} : sp_bal V m e = -2 ∨ 0 ≤ sp_bal V m e ∧ sp_bal V m e < ((V (3)).val : Int) := sp_voteAt_r hV
theorem T1_step {b : Nat} (hb : zbo b) (ho : zo o) (hC : zC V E o) (hV : zV V) {m e : Int} (h1 : 0 ≤ m) (h2 : m < ((V (4)).val : Int)) (he : -1 ≤ e ∧ e ≤ 1) {j6 : ZV} : ∃ j6', zf_ev X (d + 3) 1 (26, [vR b, vR o, vI m, vI (sp_dc V m), vI (sp_dr V m), vI e, j6], [], zH t p q E) = zf_ev X (d + 3) 1 (26, [vR b, vR o, vI m, vI (sp_dc V m), vI (sp_dr V m), vI (e + 1), j6'], [], zH t p q (zu E (b + 1) (3 * m + e + 1) (sp_bal V m e))) := by
  have hcl := hV.cols
  have hrw := hV.rows
  have hm := hV.mems
  have hd := sp_d_r hV h1 h2
  have hw := sp_wall_r (n := ((V (0)).val : Int)) (c := sp_dc V m + e) (by omega)
  refine ⟨vI (sp_wall ((V (0)).val : Int) (sp_dc V m + e)), ?_⟩
  rw [L1_26 hb ho]
  simp (disch := omega) only [n32_id, zg_pos, if_pos, if_neg, zu_same, zu_ne, if_true, if_false, ne_eq, not_true_eq_false, not_false_eq_true, true_or, or_true, true_and, and_true, zg_true, fa_b_f, fa_b_t, T31 ho hC hV]
  rw [L1_k37 hb ho, T39 ho hC hV h1 h2 (by omega) (by omega), L1_k60 hb ho]
  simp (disch := omega) only [n32_id, zg_pos, if_pos, if_neg, zu_same, zu_ne, if_true, if_false, ne_eq, not_true_eq_false, not_false_eq_true, true_or, or_true, true_and, and_true, zg_true, fa_b_f, fa_b_t]
  rfl
theorem T1_loop {b : Nat} (hb : zbo b) (ho : zo o) (hV : zV V) : ∀ (k : Nat) (i : Int) (E : Nat → Int → Int) (j3 j4 j5 j6 : ZV), zC V E o → zBl V E (b + 1) i → 0 ≤ i → i + k = ((V (4)).val : Int) →
    ∃ F, zf_ev X (d + 3) 1 (2, [vR b, vR o, vI i, j3, j4, j5, j6], [], zH t p q E) = some (some [], zH t p q F) ∧ zBl V F (b + 1) ((V (4)).val : Int) ∧ (∀ a9 b9, a9 ≠ b + 1 → F a9 b9 = E a9 b9) := by
  have hm := hV.mems
  have ho2 : o = 40 ∨ o = 50 := ho
  have hb2 : b = 10 ∨ b = 34 := hb
  intro k
  induction k with
  | zero =>
    intro i E j3 j4 j5 j6 hC hB h1 h2
    refine ⟨E, ?_, ?_, fun a b _ => rfl⟩
    · rw [L1_2 hb ho]
      simp (disch := omega) only [n32_id, zg_pos, if_pos, if_neg, zu_same, zu_ne, if_true, if_false, ne_eq, not_true_eq_false, not_false_eq_true, true_or, or_true, true_and, and_true, zg_true, fa_b_f, fa_b_t, hC.mems]
    · rw [show ((V (4)).val : Int) = i by omega]
      exact hB
  | succ k ih =>
    intro i E j3 j4 j5 j6 hC hB h1 h2
    have hC1 : zC V (zu E (b + 1) (3 * i + (-1) + 1) (sp_bal V i (-1))) o := hC.fr (fun a b _ _ => zu_ne (by omega))
    have hC2 : zC V (zu (zu E (b + 1) (3 * i + (-1) + 1) (sp_bal V i (-1))) (b + 1) (3 * i + 0 + 1) (sp_bal V i 0)) o := hC1.fr (fun a b _ _ => zu_ne (by omega))
    have hC3 : zC V (zu (zu (zu E (b + 1) (3 * i + (-1) + 1) (sp_bal V i (-1))) (b + 1) (3 * i + 0 + 1) (sp_bal V i 0)) (b + 1) (3 * i + 1 + 1) (sp_bal V i 1)) o := hC2.fr (fun a b _ _ => zu_ne (by omega))
    obtain ⟨a1, s1⟩ := T1_step (X := X) (d := d) (t := t) (p := p) (q := q) hb ho hC hV (m := i) (e := -1) h1 (by omega) (by omega) (j6 := j6)
    obtain ⟨a2, s2⟩ := T1_step (X := X) (d := d) (t := t) (p := p) (q := q) hb ho hC1 hV (m := i) (e := 0) h1 (by omega) (by omega) (j6 := a1)
    obtain ⟨a3, s3⟩ := T1_step (X := X) (d := d) (t := t) (p := p) (q := q) hb ho hC2 hV (m := i) (e := 1) h1 (by omega) (by omega) (j6 := a2)
    obtain ⟨F, f1, f2, f3⟩ := ih (i + 1) _ (vI (sp_dc V i)) (vI (sp_dr V i)) (vI 2) a3 hC3 (fun m g1 g2 e g3 g4 => by
      by_cases w : m = i
      · subst w
        have e9 : e = -1 ∨ e = 0 ∨ e = 1 := by omega
        rcases e9 with rfl | rfl | rfl
        · rw [zu_ne (by omega), zu_ne (by omega), zu_same]
        · rw [zu_ne (by omega), zu_same]
        · rw [zu_same]
      · rw [zu_ne (by omega), zu_ne (by omega), zu_ne (by omega)]
        exact hB m g1 (by omega) e g3 g4) (by omega) (by omega)
    refine ⟨F, ?_, f2, fun a b g => by rw [f3 a b g, zu_ne (Or.inl g), zu_ne (Or.inl g), zu_ne (Or.inl g)]⟩
    rw [L1_2 hb ho]
    simp (disch := omega) only [n32_id, zg_pos, if_pos, if_neg, zu_same, zu_ne, if_true, if_false, ne_eq, not_true_eq_false, not_false_eq_true, true_or, or_true, true_and, and_true, zg_true, fa_b_f, fa_b_t, hC.mems, T34 ho hC hV]
    rw [L1_k12 hb ho, T35 ho hC hV h1 (by omega), L1_k18 hb ho, s1, show (-1 : Int) + 1 = 0 from rfl, s2, show (0 : Int) + 1 = 1 from rfl, s3, show (1 : Int) + 1 = 2 from rfl, L1_26 hb ho]
    simp (disch := omega) only [n32_id, zg_pos, if_pos, if_neg, zu_same, zu_ne, if_true, if_false, ne_eq, not_true_eq_false, not_false_eq_true, true_or, or_true, true_and, and_true, zg_true, fa_b_f, fa_b_t]
    exact f1
theorem T1 {b : Nat} (hb : zbo b) (ho : zo o) (hC : zC V E o) (hV : zV V) : ∃ F, zf_ev X (d + 3) 1 (0, [vR b, vR o, vJ, vJ, vJ, vJ, vJ], [], zH t p q E) = some (some [], zH t p q F) ∧ zBl V F (b + 1) ((V (4)).val : Int) ∧ (∀ a9 b9, a9 ≠ b + 1 → F a9 b9 = E a9 b9) := by
  obtain ⟨F, f1, f2, f3⟩ := T1_loop (X := X) (d := d) (t := t) (p := p) (q := q) hb ho hV (((V (4)).val : Int)).toNat 0 E vJ vJ vJ vJ hC (fun m a b => by omega) (by omega) (by omega)
  refine ⟨F, ?_, f2, f3⟩
  rw [L1_0 hb ho]
  exact f1
theorem T2 {b : Nat} (hb : zbo b) (hV : zV V) (hB : zBl V E (b + 1) ((V (4)).val : Int)) {m e : Int} (h1 : 0 ≤ m) (h2 : m < ((V (4)).val : Int)) (he : -1 ≤ e ∧ e ≤ 1) : zf_ev X d 2 (0, [vR b, vI m, vI e], [], zH t p q E) = some (some [vI (sp_bal V m e)], zH t p q E) := by
  have hm := hV.mems
  have e1 := hB m h1 h2 e he.1 he.2
  rw [L2_0 hb]
  simp (disch := omega) only [n32_id, zg_pos, if_pos, if_neg, zu_same, zu_ne, if_true, if_false, ne_eq, not_true_eq_false, not_false_eq_true, true_or, or_true, true_and, and_true, zg_true, fa_b_f, fa_b_t, e1]
/-- the class's throwFrom -/
def zWt (E F : Nat → Int → Int) (f : Int → Int) : Prop := (∀ a9 b9, a9 ≠ 12 → a9 ≠ 13 → F a9 b9 = E a9 b9) ∧ (∀ s, 0 ≤ s → s < 4 → F 12 s = E 12 s) ∧ (∀ s, 0 ≤ s → s < 4 → F 13 s = E 13 s + f s)
theorem zBl.fr {F : Nat → Int → Int} {a : Nat} {n : Int} (h : zBl V E a n) (hf : ∀ b, F a b = E a b) : zBl V F a n := fun m g1 g2 e g3 g4 => by rw [hf]; exact h m g1 g2 e g3 g4
theorem T52 (ho : zo o) (hV : zV V) : ∀ (k : Nat) (m P : Int) (W : Int → Int) (E : Nat → Int → Int), zC V E o → zBl V E 11 ((V (4)).val : Int) → 0 ≤ m → m + k = ((V (4)).val : Int) → (∀ s, 0 ≤ s → s < 4 → E 12 s = W s ∧ 0 ≤ W s ∧ W s ≤ m) →
    ∃ F, zf_ev X (d + 1 + k) 52 (0, [vR 9, vR o, vI m, vL P, vJ, vJ, vJ, vJ], [], zH t p q E) = some (some [], zH t p q F) ∧ zWt E F (fun s => P * sp_W (sp_bal V) (sp_parts V) ((V (3)).val : Int) s k m W) := by
  have hm := hV.mems
  have hk := hV.spks
  have ho2 : o = 40 ∨ o = 50 := ho
  intro k
  induction k with
  | zero =>
    intro m P W E hC hB h1 h2 hW
    have hw := sp_win_r (w := W) (n := ((V (3)).val : Int)) (by omega)
    have e43 := T43 (X := X) (d := d) (t := t) (p := p) (q := q) (E := E) (a := 12) (n := 4) rfl (w := W) (N := ((V (3)).val : Int)) (by omega) (fun s a b => by have := hW s a (by omega); exact ⟨this.1, by omega, by omega⟩)
    rcases hw with hw | hw
    · refine ⟨E, ?_, fun a b _ _ => rfl, fun _ _ _ => rfl, fun s a b => ?_⟩
      · show zf_ev X (d + 1) 52 _ = _
        rw [L52_0 ho]
        simp (disch := omega) only [n32_id, zg_pos, if_pos, if_neg, zu_same, zu_ne, if_true, if_false, ne_eq, not_true_eq_false, not_false_eq_true, true_or, or_true, true_and, and_true, zg_true, fa_b_f, fa_b_t, hC.mems, hC.spks]
        rw [e43, L52_k22 rfl]
        simp (disch := omega) only [n32_id, zg_pos, if_pos, if_neg, zu_same, zu_ne, if_true, if_false, ne_eq, not_true_eq_false, not_false_eq_true, true_or, or_true, true_and, and_true, zg_true, fa_b_f, fa_b_t]
      · unfold sp_W
        simp only
        rw [if_neg (by omega)]
        omega
    · refine ⟨zu E 13 (sp_win W ((V (3)).val : Int)) (E 13 (sp_win W ((V (3)).val : Int)) + P), ?_, fun a b _ g => zu_ne (Or.inl g), fun _ _ _ => zu_ne (by omega), fun s a b => ?_⟩
      · show zf_ev X (d + 1) 52 _ = _
        rw [L52_0 ho]
        simp (disch := omega) only [n32_id, zg_pos, if_pos, if_neg, zu_same, zu_ne, if_true, if_false, ne_eq, not_true_eq_false, not_false_eq_true, true_or, or_true, true_and, and_true, zg_true, fa_b_f, fa_b_t, hC.mems, hC.spks]
        rw [e43, L52_k22 rfl]
        simp (disch := omega) only [n32_id, zg_pos, if_pos, if_neg, zu_same, zu_ne, if_true, if_false, ne_eq, not_true_eq_false, not_false_eq_true, true_or, or_true, true_and, and_true, zg_true, fa_b_f, fa_b_t]
      · show zu E 13 (sp_win W ((V (3)).val : Int)) (E 13 (sp_win W ((V (3)).val : Int)) + P) 13 s = E 13 s + P * (if sp_win W ((V (3)).val : Int) = s then 1 else 0)
        by_cases g : sp_win W ((V (3)).val : Int) = s
        · rw [if_pos g, g, zu_same]
          omega
        · rw [if_neg g, zu_ne (Or.inr (fun h => g h.symm))]
          omega
  | succ k ih =>
    intro m P W E hC hB h1 h2 hW
    have hpo := sp_parts_ok hV h1 (m := m) (by omega)
    have step : ∀ (e : Int) (E1 : Nat → Int → Int) (j6 j7 : ZV), (e = -1 ∨ e = 0 ∨ e = 1) → zC V E1 o → zBl V E1 11 ((V (4)).val : Int) → (∀ s, 0 ≤ s → s < 4 → E1 12 s = W s) →
        ∃ F a6 a7, zf_ev X (d + 1 + k + 1) 52 (47, [vR 9, vR o, vI m, vL P, vJ, vI e, j6, j7], [], zH t p q E1) = zf_ev X (d + 1 + k + 1) 52 (47, [vR 9, vR o, vI m, vL P, vJ, vI (e + 1), a6, a7], [], zH t p q F) ∧ zWt E1 F (fun s => P * (sp_parts V m e * sp_W (sp_bal V) (sp_parts V) ((V (3)).val : Int) s k (m + 1) (sp_bump W (sp_bal V m e)))) := by
      intro e E1 j6 j7 he hC1 hB1 hW1
      have hv := sp_bal_r hV (m := m) (e := e)
      have hpr := sp_parts_r hV (m := m) (e := e) h1 (by omega)
      by_cases hz : sp_parts V m e = 0
      · refine ⟨E1, vI (sp_parts V m e), j7, ?_, fun a b _ _ => rfl, fun _ _ _ => rfl, fun s a b => ?_⟩
        · rw [L52_47 ho]
          simp (disch := omega) only [n32_id, zg_pos, if_pos, if_neg, zu_same, zu_ne, if_true, if_false, ne_eq, not_true_eq_false, not_false_eq_true, true_or, or_true, true_and, and_true, zg_true, fa_b_f, fa_b_t, T44 ho hC1 hV]
          rw [L52_k57 ho rfl]
          simp (disch := omega) only [n32_id, zg_pos, if_pos, if_neg, zu_same, zu_ne, if_true, if_false, ne_eq, not_true_eq_false, not_false_eq_true, true_or, or_true, true_and, and_true, zg_true, fa_b_f, fa_b_t]
        · simp [hz]
      · rcases hv with hv | hv
        · obtain ⟨F, f1, f2, f3, f4⟩ := ih (m + 1) (P * sp_parts V m e) (sp_bump W (sp_bal V m e)) E1 hC1 hB1 (by omega) (by omega) (fun s a b => by
            have := hW s a b
            unfold sp_bump
            rw [if_neg (by omega)]
            exact ⟨hW1 s a b, by omega, by omega⟩)
          refine ⟨F, vI (sp_parts V m e), vI (sp_bal V m e), ?_, f2, f3, fun s a b => by have h9 := f4 s a b; simp only at h9 ⊢; rw [h9, Int.mul_assoc]⟩
          rw [L52_47 ho]
          simp (disch := omega) only [n32_id, zg_pos, if_pos, if_neg, zu_same, zu_ne, if_true, if_false, ne_eq, not_true_eq_false, not_false_eq_true, true_or, or_true, true_and, and_true, zg_true, fa_b_f, fa_b_t, T44 ho hC1 hV]
          rw [L52_k57 ho rfl]
          simp (disch := omega) only [n32_id, zg_pos, if_pos, if_neg, zu_same, zu_ne, if_true, if_false, ne_eq, not_true_eq_false, not_false_eq_true, true_or, or_true, true_and, and_true, zg_true, fa_b_f, fa_b_t, T2 (b := 10) (Or.inl rfl) hV hB1]
          rw [L52_k74 ho]
          simp (disch := omega) only [n32_id, zg_pos, if_pos, if_neg, zu_same, zu_ne, if_true, if_false, ne_eq, not_true_eq_false, not_false_eq_true, true_or, or_true, true_and, and_true, zg_true, fa_b_f, fa_b_t, f1]
          rw [L52_k105 ho rfl]
          simp (disch := omega) only [n32_id, zg_pos, if_pos, if_neg, zu_same, zu_ne, if_true, if_false, ne_eq, not_true_eq_false, not_false_eq_true, true_or, or_true, true_and, and_true, zg_true, fa_b_f, fa_b_t]
        · have hWv := hW (sp_bal V m e) hv.1 (by omega)
          have e5 := hW1 (sp_bal V m e) hv.1 (by omega)
          obtain ⟨F, f1, f2, f3, f4⟩ := ih (m + 1) (P * sp_parts V m e) (sp_bump W (sp_bal V m e)) (zu E1 12 (sp_bal V m e) (W (sp_bal V m e) + 1)) (hC1.fr (fun a b _ _ => zu_ne (by omega))) (hB1.fr (fun b => zu_ne (by omega))) (by omega) (by omega) (fun s a b => by
            have := hW s a b
            unfold sp_bump zu
            by_cases g : s = sp_bal V m e
            · rw [if_pos ⟨rfl, g⟩, if_pos ⟨hv.1, g⟩, g]
              rw [g] at this
              exact ⟨rfl, by omega, by omega⟩
            · rw [if_neg (fun z => g z.2), if_neg (fun z => g z.2)]
              exact ⟨hW1 s a b, by omega, by omega⟩)
          have e6 : F 12 (sp_bal V m e) = W (sp_bal V m e) + 1 := by rw [f3 _ hv.1 (by omega), zu_same]
          refine ⟨zu F 12 (sp_bal V m e) (W (sp_bal V m e) + 1 - 1), vI (sp_parts V m e), vI (sp_bal V m e), ?_, fun a b g1 g2 => by rw [zu_ne (Or.inl g1), f2 a b g1 g2, zu_ne (Or.inl g1)], fun s a b => ?_, fun s a b => ?_⟩
          · rw [L52_47 ho]
            simp (disch := omega) only [n32_id, zg_pos, if_pos, if_neg, zu_same, zu_ne, if_true, if_false, ne_eq, not_true_eq_false, not_false_eq_true, true_or, or_true, true_and, and_true, zg_true, fa_b_f, fa_b_t, T44 ho hC1 hV]
            rw [L52_k57 ho rfl]
            simp (disch := omega) only [n32_id, zg_pos, if_pos, if_neg, zu_same, zu_ne, if_true, if_false, ne_eq, not_true_eq_false, not_false_eq_true, true_or, or_true, true_and, and_true, zg_true, fa_b_f, fa_b_t, T2 (b := 10) (Or.inl rfl) hV hB1]
            rw [L52_k74 ho]
            simp (disch := omega) only [n32_id, zg_pos, if_pos, if_neg, zu_same, zu_ne, if_true, if_false, ne_eq, not_true_eq_false, not_false_eq_true, true_or, or_true, true_and, and_true, zg_true, fa_b_f, fa_b_t, f1, e5]
            rw [L52_k105 ho rfl]
            simp (disch := omega) only [n32_id, zg_pos, if_pos, if_neg, zu_same, zu_ne, if_true, if_false, ne_eq, not_true_eq_false, not_false_eq_true, true_or, or_true, true_and, and_true, zg_true, fa_b_f, fa_b_t, e6]
          · by_cases g : s = sp_bal V m e
            · rw [g, zu_same, e5]
              omega
            · rw [zu_ne (Or.inr g), f3 s a b, zu_ne (Or.inr g)]
          · have h9 := f4 s a b
            simp only at h9 ⊢
            rw [zu_ne (by omega), h9, zu_ne (by omega), Int.mul_assoc]
    obtain ⟨F1, a6, a7, s1, u1, u2, u3⟩ := step (-1) E vJ vJ (by omega) hC hB (fun s a b => (hW s a b).1)
    obtain ⟨F2, b6, b7, s2, v1, v2, v3⟩ := step 0 F1 a6 a7 (by omega) (hC.fr (fun a b _ _ => u1 a b (by omega) (by omega))) (hB.fr (fun b => u1 _ b (by omega) (by omega))) (fun s a b => by rw [u2 s a b]; exact (hW s a b).1)
    obtain ⟨F3, c6, c7, s3, w1, w2, w3⟩ := step 1 F2 b6 b7 (by omega) (hC.fr (fun a b _ _ => by rw [v1 a b (by omega) (by omega), u1 a b (by omega) (by omega)])) (hB.fr (fun b => by rw [v1 _ b (by omega) (by omega), u1 _ b (by omega) (by omega)])) (fun s a b => by rw [v2 s a b, u2 s a b]; exact (hW s a b).1)
    refine ⟨F3, ?_, fun a b g1 g2 => by rw [w1 a b g1 g2, v1 a b g1 g2, u1 a b g1 g2], fun s a b => by rw [w2 s a b, v2 s a b, u2 s a b], fun s a b => ?_⟩
    · rw [show d + 1 + (k + 1) = (d + 1 + k) + 1 from rfl]
      rw [L52_0 ho]
      simp (disch := omega) only [n32_id, zg_pos, if_pos, if_neg, zu_same, zu_ne, if_true, if_false, ne_eq, not_true_eq_false, not_false_eq_true, true_or, or_true, true_and, and_true, zg_true, fa_b_f, fa_b_t, hC.mems]
      rw [s1, show (-1 : Int) + 1 = 0 from rfl, s2, show (0 : Int) + 1 = 1 from rfl, s3, show (1 : Int) + 1 = 2 from rfl, L52_47 ho]
      simp (disch := omega) only [n32_id, zg_pos, if_pos, if_neg, zu_same, zu_ne, if_true, if_false, ne_eq, not_true_eq_false, not_false_eq_true, true_or, or_true, true_and, and_true, zg_true, fa_b_f, fa_b_t]
    · rw [w3 s a b, v3 s a b, u3 s a b]
      simp only [sp_W]
      rw [Int.mul_add, Int.mul_add]
      omega
theorem T51_loop (ho : zo o) : ∀ (k : Nat) (i : Int) (E : Nat → Int → Int), 0 ≤ i → i + k = 4 → ∃ F, zf_ev X (d + 8) 51 (2, [vR 9, vR o, vI i], [], zH t p q E) = zf_ev X (d + 8) 51 (2, [vR 9, vR o, vI 4], [], zH t p q F) ∧ (∀ a9 b9, a9 ≠ 12 → a9 ≠ 13 → F a9 b9 = E a9 b9) ∧ (∀ s, 0 ≤ s → s < 4 → F 12 s = (if i ≤ s then 0 else E 12 s) ∧ F 13 s = (if i ≤ s then 0 else E 13 s)) := by
  intro k
  induction k with
  | zero =>
    intro i E h1 h2
    have e : i = 4 := by omega
    subst e
    exact ⟨E, rfl, fun a b _ _ => rfl, fun s a b => ⟨by rw [if_neg (by omega)], by rw [if_neg (by omega)]⟩⟩
  | succ k ih =>
    intro i E h1 h2
    obtain ⟨F, f1, f2, f3⟩ := ih (i + 1) (zu (zu E 13 i 0) 12 i 0) (by omega) (by omega)
    refine ⟨F, ?_, fun a b g1 g2 => by rw [f2 a b g1 g2, zu_ne (Or.inl g1), zu_ne (Or.inl g2)], fun s a b => ?_⟩
    · rw [L51_2 ho]
      simp (disch := omega) only [n32_id, zg_pos, if_pos, if_neg, zu_same, zu_ne, if_true, if_false, ne_eq, not_true_eq_false, not_false_eq_true, true_or, or_true, true_and, and_true, zg_true, fa_b_f, fa_b_t, f1]
    · obtain ⟨g1, g2⟩ := f3 s a b
      rw [g1, g2]
      by_cases c : i = s
      · subst c
        rw [if_neg (by omega), if_pos (by omega), if_neg (by omega), if_pos (by omega), zu_same, zu_ne (by omega), zu_same]
        exact ⟨rfl, rfl⟩
      · by_cases c2 : i ≤ s
        · rw [if_pos (by omega), if_pos c2, if_pos (by omega), if_pos c2]
          exact ⟨rfl, rfl⟩
        · rw [if_neg (by omega), if_neg c2, if_neg (by omega), if_neg c2, zu_ne (by omega), zu_ne (by omega), zu_ne (by omega), zu_ne (by omega)]
          exact ⟨rfl, rfl⟩
theorem T51 (ho : zo o) (hC : zC V E o) (hV : zV V) : ∃ F, zf_ev X (d + 8) 51 (0, [vR 9, vR o, vJ], [], zH t p q E) = some (some [], zH t p q F) ∧ (∀ a9 b9, a9 ≠ 11 → a9 ≠ 12 → a9 ≠ 13 → F a9 b9 = E a9 b9) ∧ (∀ s, 0 ≤ s → s < 4 → F 13 s = sv_W V s) := by
  have hm := hV.mems
  have ho2 : o = 40 ∨ o = 50 := ho
  obtain ⟨F, f1, f2, f3⟩ := T51_loop (X := X) (d := d) (t := t) (p := p) (q := q) ho 4 0 E (by omega) (by omega)
  have hC2 : zC V F o := hC.fr (fun a b _ _ => f2 a b (by omega) (by omega))
  obtain ⟨G, g1, g2, g3⟩ := T1 (X := X) (d := d + (8 - 1 - 3)) (t := t) (p := p) (q := q) (b := 10) (Or.inl rfl) ho hC2 hV
  have hC3 : zC V G o := hC2.fr (fun a b _ _ => g3 a b (by omega))
  obtain ⟨H, h1, h2, h3, h4⟩ := T52 (X := X) (d := d + (8 - 8) + (6 - (((V (4)).val : Int)).toNat)) (t := t) (p := p) (q := q) ho hV (((V (4)).val : Int)).toNat 0 1 (fun _ => 0) G hC3 g2 (by omega) (by omega) (fun s a b => ⟨by
    rw [g3 _ _ (by omega), (f3 s a b).1, if_pos a], by omega, by omega⟩)
  refine ⟨H, ?_, fun a b x1 x2 x3 => by rw [h2 a b x2 x3, g3 a b (by omega), f2 a b x2 x3], fun s a b => ?_⟩
  · rw [L51_0 ho, f1, L51_2 ho]
    simp (disch := omega) only [n32_id, zg_pos, if_pos, if_neg, zu_same, zu_ne, if_true, if_false, ne_eq, not_true_eq_false, not_false_eq_true, true_or, or_true, true_and, and_true, zg_true, fa_b_f, fa_b_t, g1]
    rw [L51_k32 ho]
    rw [show d + (8 - 1) = d + (8 - 8) + (6 - (((V (4)).val : Int)).toNat) + 1 + (((V (4)).val : Int)).toNat by omega, h1, L51_k39]
  · rw [h4 s a b, g3 _ _ (by omega), (f3 s a b).2, if_pos a]
    show 0 + 1 * _ = _
    unfold sv_W
    omega
end WN
section WQ
variable {X : Nat × (Nat → Int)} {d : Nat} {t : List (Nat × Nat)} {p q : Nat} {E : Nat → Int → Int} {V : Int → Fin 65537} {o : Nat}
theorem sv_W_r (hV : zV V) {s : Int} : 0 ≤ sv_W V s ∧ sv_W V s ≤ sp_pow ((V (4)).val : Int) := sp_W_r _ _ _ (fun j a b => sp_parts_ok hV a (by omega))
theorem Q130 (hG : zG V E p) {s l : Int} (h3 : 0 ≤ s) (h4 : s < ((V (3)).val : Int)) (hl : -2147483648 ≤ l ∧ l < 2147483648) : ∃ F, zf_ev X (d + 9) 130 (0, [vR 0, vI s, vI l], [], zH t p q E) = some (some [vL (sp_low (sv_W V s) (sp_pow ((V (4)).val : Int)) l)], zH t p q F) ∧ F 0 10 = 0 ∧ zFC E F := by
  obtain ⟨hV, -, -⟩ := hG.yes (by omega)
  obtain ⟨hp, hC, hR, -⟩ := hG
  have hk := hV.spks
  have hm := hV.mems
  have hC2 : zC V (zu E 0 10 0) p := hC.fco hp zFC.u
  have hr := sv_W_r hV (s := s)
  have hr2 := sp_pow_r hV
  have hp2 : p = 40 ∨ p = 50 := hp
  obtain ⟨F, f1, f2, f3⟩ := T51 (X := X) (d := d) (t := t) (p := p) (q := q) hp hC2 hV
  have hC3 : zC V F p := hC2.fr (fun a b _ _ => f2 a b (by omega) (by omega) (by omega))
  refine ⟨F, ?_, by rw [f2 _ _ (by omega) (by omega) (by omega)]; exact zu_same, fun a b g1 g2 g3 g4 => by rw [f2 a b (by omega) (by omega) (by omega), zu_ne g4]⟩
  simp (disch := omega) only [n32_id, zg_pos, if_pos, if_neg, zu_same, zu_ne, if_true, if_false, ne_eq, not_true_eq_false, not_false_eq_true, true_or, or_true, true_and, and_true, zg_true, fa_b_f, fa_b_t, L130_0 hp, L130_k6, L130_k9 hp, L130_k27 hp, L130_k46, L130_k50, T22t hp hC, T168t, f1, f3, hC3.mems, T48, T49]
theorem Q130n (hG : zG V E p) {s l : Int} (h1 : -2147483648 ≤ s ∧ s < 2147483648) (h : s < 0 ∨ ((V (3)).val : Int) ≤ s) : ∃ F, zf_ev X (d + 9) 130 (0, [vR 0, vI s, vI l], [], zH t p q E) = some (some [vL (-1)], zH t p q F) ∧ F 0 10 = 1 ∧ zFC E F := by
  obtain ⟨hp, hC, hR, -⟩ := hG
  refine ⟨zu E 0 10 1, ?_, zu_same, zFC.u⟩
  simp (disch := omega) only [n32_id, zg_pos, if_pos, if_neg, zu_same, zu_ne, if_true, if_false, ne_eq, not_true_eq_false, not_false_eq_true, true_or, or_true, true_and, and_true, zg_true, fa_b_f, fa_b_t, L130_0 hp, L130_k6, L130_k9 hp, L130_k27 hp, L130_k46, L130_k50, T22f hp hC, T168f]
/-- the likeliest: by long sums -/
theorem zm_lcmp_pos {a b : Int} (h1 : 0 ≤ a) (h2 : a < 9223372036854775808) (h3 : 0 ≤ b) (h4 : b < 9223372036854775808) : (n32 (zm_lcmp a b) ≤ 0) = (a ≤ b) ∧ (0 < n32 (zm_lcmp a b)) = (b < a) := by
  unfold zm_lcmp
  rw [n64_id (by omega) (by omega), n64_id (by omega) (by omega)]
  by_cases g : b < a
  · rw [if_pos g, n32_id (by omega) (by omega)]
    exact ⟨propext ⟨fun _ => by omega, fun _ => by omega⟩, propext ⟨fun _ => g, fun _ => by omega⟩⟩
  · rw [if_neg g]
    by_cases g2 : a = b
    · rw [if_pos g2, n32_id (by omega) (by omega)]
      exact ⟨propext ⟨fun _ => by omega, fun _ => by omega⟩, propext ⟨fun _ => by omega, fun _ => by omega⟩⟩
    · rw [if_neg g2, n32_id (by omega) (by omega)]
      exact ⟨propext ⟨fun _ => by omega, fun _ => by omega⟩, propext ⟨fun _ => by omega, fun _ => by omega⟩⟩
theorem T54_loop {w : Int → Int} {N : Int} (hN : 0 ≤ N ∧ N ≤ 4) (h : ∀ s, 0 ≤ s → s < N → E 13 s = w s ∧ 0 ≤ w s ∧ w s < 9223372036854775808) : ∀ (k : Nat) (i best most : Int) (j : ZV), zm_isL j = false → 0 ≤ i → i + k = N → 0 ≤ most → most < 9223372036854775808 → zf_ev X d 54 (8, [vR 9, vI N, vI best, vL most, j, vI i], [], zH t p q E) = some (some [vI (sp_first w k i best most)], zH t p q E) := by
  intro k
  induction k with
  | zero =>
    intro i best most j hj h1 h2 h3 h4
    rw [L54_8 hj]
    simp (disch := omega) only [n32_id, zg_pos, if_pos, if_neg, zu_same, zu_ne, if_true, if_false, ne_eq, not_true_eq_false, not_false_eq_true, true_or, or_true, true_and, and_true, zg_true, fa_b_f, fa_b_t]
    rfl
  | succ k ih =>
    intro i best most j hj h1 h2 h3 h4
    obtain ⟨e, b1, b2⟩ := h i (by omega) (by omega)
    rw [L54_8 hj]
    have hl := zm_lcmp_pos b1 b2 h3 h4
    unfold sp_first
    simp (disch := omega) only [n32_id, zg_pos, zu_same, zu_ne, e]
    rw [if_neg (by omega)]
    simp only [hl.1]
    by_cases g : most < w i
    · rw [if_neg (by omega), if_pos g]
      exact ih _ _ _ _ rfl (by omega) (by omega) (by omega) (by omega)
    · rw [if_pos (by omega), if_neg g]
      exact ih _ _ _ _ hj (by omega) (by omega) (by omega) (by omega)
theorem Q133 (hG : zG V E p) (h1 : 0 < ((V (3)).val : Int)) : ∃ F, zf_ev X (d + 9) 133 (0, [vR 0], [], zH t p q E) = some (some [vI (sp_win (sv_W V) ((V (3)).val : Int))], zH t p q F) ∧ F 0 10 = 0 ∧ zFC E F := by
  obtain ⟨hV, -, -⟩ := hG.yes (by omega)
  obtain ⟨hp, hC, hR, -⟩ := hG
  have hk := hV.spks
  have hC2 : zC V (zu E 0 10 0) p := hC.fco hp zFC.u
  have hr2 := sp_pow_r hV
  have hp2 : p = 40 ∨ p = 50 := hp
  obtain ⟨F, f1, f2, f3⟩ := T51 (X := X) (d := d) (t := t) (p := p) (q := q) hp hC2 hV
  have hC3 : zC V F p := hC2.fr (fun a b _ _ => f2 a b (by omega) (by omega) (by omega))
  refine ⟨F, ?_, by rw [f2 _ _ (by omega) (by omega) (by omega)]; exact zu_same, fun a b g1 g2 g3 g4 => by rw [f2 a b (by omega) (by omega) (by omega), zu_ne g4]⟩
  simp (disch := omega) only [n32_id, zg_pos, if_pos, if_neg, zu_same, zu_ne, if_true, if_false, ne_eq, not_true_eq_false, not_false_eq_true, true_or, or_true, true_and, and_true, zg_true, fa_b_f, fa_b_t, L133_0 hp, L133_k5, L133_k8 hp, L133_k24 hp, L133_k38, T21t hp hC, T168t, f1, hC3.spks]
  rw [L54_0, T54_loop (w := sv_W V) (by omega) (fun s a b => ⟨f3 s a (by omega), by have := sv_W_r hV (s := s); omega, by have := sv_W_r hV (s := s); omega⟩) (((V (3)).val : Int)).toNat 0 (-2) 0 _ rfl (by omega) (by omega) (by omega) (by omega), L133_k38]
  rfl
theorem Q133n (hG : zG V E p) (h1 : ((V (3)).val : Int) ≤ 0) : ∃ F, zf_ev X (d + 9) 133 (0, [vR 0], [], zH t p q E) = some (some [vI (-1)], zH t p q F) ∧ F 0 10 = 1 ∧ zFC E F := by
  obtain ⟨hp, hC, hR, -⟩ := hG
  refine ⟨zu E 0 10 1, ?_, zu_same, zFC.u⟩
  simp (disch := omega) only [n32_id, zg_pos, if_pos, if_neg, zu_same, zu_ne, if_true, if_false, ne_eq, not_true_eq_false, not_false_eq_true, true_or, or_true, true_and, and_true, zg_true, fa_b_f, fa_b_t, L133_0 hp, L133_k5, L133_k8 hp, L133_k24 hp, L133_k38, T21f hp hC, T168f]
/-- the reference's tryErrors -/
theorem T254 (hV : zV V) {s : Int} (hs : 0 ≤ s ∧ s < 4) : ∀ (k : Nat) (m P : Int) (W : Int → Int) (E : Nat → Int → Int), zR V E → zS (sp_C V) (sp_R V) ((V (3)).val : Int) E → (∀ i, 0 ≤ i → i < ((V (4)).val : Int) → E 71 i = sp_dc V i) → 0 ≤ m → m + k = ((V (4)).val : Int) → 0 ≤ P → P * 200 ^ k ≤ 64000000000000 → (∀ s, 0 ≤ s → s < 4 → E 70 s = W s ∧ 0 ≤ W s ∧ W s ≤ m) →
    ∃ F, zf_ev X (d + k + 3) 254 (0, [vR 60, vI m, vL P, vJ, vI s, vJ, vJ], [], zH t p q E) = some (some [], zH t p q F) ∧ (∀ a9 b9, a9 ≠ 70 → (a9 ≠ 60 ∨ b9 ≠ 26) → F a9 b9 = E a9 b9) ∧ (∀ s, 0 ≤ s → s < 4 → F 70 s = E 70 s) ∧ F 60 26 = E 60 26 + P * sp_W (sp_bal V) (sp_parts V) ((V (3)).val : Int) s k m W := by
  have hm := hV.mems
  have hk := hV.spks
  have hcl := hV.cols
  have hrw := hV.rows
  have pw : ∀ (k : Nat) (P : Int), 0 ≤ P → P ≤ P * 200 ^ k := by
    intro k P hP
    have : (1 : Int) ≤ 200 ^ k := by
      induction k with
      | zero => simp
      | succ k ih2 => rw [Int.pow_succ]; omega
    have h2 := Int.mul_le_mul_of_nonneg_left this hP
    omega
  intro k
  induction k with
  | zero =>
    intro m P W E hR hS hD h1 h2 hP hB hW
    have hP2 := pw 0 P hP
    have em : ((V (4)).val : Int) = m := by omega
    by_cases hz : P = 0
    · refine ⟨E, ?_, fun a b _ _ => rfl, fun _ _ _ => rfl, by simp [hz]⟩
      show zf_ev X (d + 3) 254 _ = _
      rw [L254_0]
      simp (disch := omega) only [n32_id, zg_pos, if_pos, if_neg, zu_same, zu_ne, if_true, if_false, ne_eq, not_true_eq_false, not_false_eq_true, true_or, or_true, true_and, and_true, zg_true, fa_b_f, fa_b_t, zm_lcmp0]
    · have e235 := T235 (X := X) (d := d + 2) (t := t) (p := p) (q := q) hR hV (w := W) (fun s a b => by have := hW s a b; exact ⟨this.1, by omega, by omega⟩)
      have hw := sp_win_r (w := W) (n := ((V (3)).val : Int)) (by omega)
      refine ⟨zu E 60 26 (E 60 26 + P * (if sp_win W ((V (3)).val : Int) = s then 1 else 0)), ?_, fun a b _ g => zu_ne g, fun _ _ _ => zu_ne (by omega), zu_same⟩
      show zf_ev X (d + 3) 254 _ = _
      rw [L254_0]
      simp (disch := omega) only [n32_id, zg_pos, if_pos, if_neg, zu_same, zu_ne, if_true, if_false, ne_eq, not_true_eq_false, not_false_eq_true, true_or, or_true, true_and, and_true, zg_true, fa_b_f, fa_b_t, zm_lcmp0, hR.r, e235]
      rw [L254_k23]
      by_cases g : sp_win W ((V (3)).val : Int) = s
      · simp (disch := omega) only [n32_id, zg_pos, if_pos, if_neg, zu_same, zu_ne, if_true, if_false, ne_eq, not_true_eq_false, not_false_eq_true, true_or, or_true, true_and, and_true, zg_true, fa_b_f, fa_b_t, Int.mul_one]
      · simp (disch := omega) only [n32_id, zg_pos, if_pos, if_neg, zu_same, zu_ne, if_true, if_false, ne_eq, not_true_eq_false, not_false_eq_true, true_or, or_true, true_and, and_true, zg_true, fa_b_f, fa_b_t, Int.mul_zero]
  | succ k ih =>
    intro m P W E hR hS hD h1 h2 hP hB hW
    have hP2 := pw (k + 1) P hP
    have hpo := sp_parts_ok hV h1 (m := m) (by omega)
    have hd := sp_d_r hV h1 (m := m) (by omega)
    have step : ∀ (e e' : Int) (E1 : Nat → Int → Int) (j3 j6 : ZV), (e = 0 ∨ e = 1 ∨ e = 2) → e' = e - 1 → zR V E1 → zS (sp_C V) (sp_R V) ((V (3)).val : Int) E1 → (∀ i, 0 ≤ i → i < ((V (4)).val : Int) → E1 71 i = sp_dc V i) → (∀ s, 0 ≤ s → s < 4 → E1 70 s = W s) →
        ∃ F a6, zf_ev X (d + k + 3 + 1) 254 (44, [vR 60, vI m, vL P, j3, vI s, vI e, j6], [], zH t p q E1) = zf_ev X (d + k + 3 + 1) 254 (44, [vR 60, vI m, vL P, j3, vI s, vI (e + 1), a6], [], zH t p q F) ∧ (∀ a9 b9, a9 ≠ 70 → (a9 ≠ 60 ∨ b9 ≠ 26) → F a9 b9 = E1 a9 b9) ∧ (∀ s, 0 ≤ s → s < 4 → F 70 s = E1 70 s) ∧ F 60 26 = E1 60 26 + P * (sp_parts V m e' * sp_W (sp_bal V) (sp_parts V) ((V (3)).val : Int) s k (m + 1) (sp_bump W (sp_bal V m e'))) := by
      intro e e' E1 j3 j6 he he' hR1 hS1 hD1 hW1
      have hv := sp_bal_r hV (m := m) (e := e')
      have hpr := sp_parts_r hV (m := m) (e := e') h1 (by omega)
      have e0 := hD1 m h1 (by omega)
      have hw := sp_wall_r (n := ((V (0)).val : Int)) (c := sp_dc V m + e') (by omega)
      have hPp : 0 ≤ P * sp_parts V m e' := Int.mul_nonneg hP hpr.1
      have hBp : P * sp_parts V m e' * 200 ^ k ≤ 64000000000000 := by
        have q1 : P * sp_parts V m e' ≤ P * 200 := Int.mul_le_mul_of_nonneg_left hpr.2 hP
        have q2 : (0 : Int) ≤ 200 ^ k := Int.pow_nonneg (by decide)
        have q3 := Int.mul_le_mul_of_nonneg_right q1 q2
        rw [Int.pow_succ] at hB
        have q4 : P * 200 * 200 ^ k = P * (200 ^ k * 200) := by rw [Int.mul_assoc, Int.mul_comm 200]
        omega
      have e1 : sp_dc V m + e - 1 = sp_dc V m + e' := by omega
      rcases hv with hv | hv
      · obtain ⟨F, f1, f2, f3, f4⟩ := ih (m + 1) (P * sp_parts V m e') (sp_bump W (sp_bal V m e')) E1 hR1 hS1 hD1 (by omega) (by omega) hPp hBp (fun s a b => by
          have := hW s a b
          unfold sp_bump
          rw [if_neg (by omega)]
          exact ⟨hW1 s a b, by omega, by omega⟩)
        refine ⟨F, vI (sp_bal V m e'), ?_, f2, f3, by rw [f4, Int.mul_assoc]⟩
        rw [L254_44]
        simp (disch := omega) only [n32_id, zg_pos, if_pos, if_neg, zu_same, zu_ne, if_true, if_false, ne_eq, not_true_eq_false, not_false_eq_true, true_or, or_true, true_and, and_true, zg_true, fa_b_f, fa_b_t, e0]
        rw [e1, T218 hR1 hV (by omega) (by omega), L254_k64, T228 hR1 hV h1 (by omega), L254_k69, T232 hR1 hV hS1 h1 (by omega) (by omega) (by omega)]
        rw [show sp_voteAt V (sp_C V) (sp_R V) m (sp_wall ((V (0)).val : Int) (sp_dc V m + e')) (sp_dr V m) = sp_bal V m e' from rfl, L254_k72]
        simp (disch := omega) only [n32_id, zg_pos, if_pos, if_neg, zu_same, zu_ne, if_true, if_false, ne_eq, not_true_eq_false, not_false_eq_true, true_or, or_true, true_and, and_true, zg_true, fa_b_f, fa_b_t, T250 hR1]
        rw [L254_k102, ← he']
        simp (disch := omega) only [n32_id, zg_pos, if_pos, if_neg, zu_same, zu_ne, if_true, if_false, ne_eq, not_true_eq_false, not_false_eq_true, true_or, or_true, true_and, and_true, zg_true, fa_b_f, fa_b_t, f1]
        rw [L254_k109]
        simp (disch := omega) only [n32_id, zg_pos, if_pos, if_neg, zu_same, zu_ne, if_true, if_false, ne_eq, not_true_eq_false, not_false_eq_true, true_or, or_true, true_and, and_true, zg_true, fa_b_f, fa_b_t]
      · have hWv := hW (sp_bal V m e') hv.1 (by omega)
        have e5 := hW1 (sp_bal V m e') hv.1 (by omega)
        have hR2 : zR V (zu E1 70 (sp_bal V m e') (W (sp_bal V m e') + 1)) := hR1.fr (fun b => zu_ne (by omega)) (fun b => zu_ne (by omega))
        obtain ⟨F, f1, f2, f3, f4⟩ := ih (m + 1) (P * sp_parts V m e') (sp_bump W (sp_bal V m e')) (zu E1 70 (sp_bal V m e') (W (sp_bal V m e') + 1)) hR2 (hS1.fr (fun b => zu_ne (by omega))) (fun i a b => by rw [zu_ne (by omega)]; exact hD1 i a b) (by omega) (by omega) hPp hBp (fun s a b => by
          have := hW s a b
          unfold sp_bump zu
          by_cases g : s = sp_bal V m e'
          · rw [if_pos ⟨rfl, g⟩, if_pos ⟨hv.1, g⟩, g]
            rw [g] at this
            exact ⟨rfl, by omega, by omega⟩
          · rw [if_neg (fun z => g z.2), if_neg (fun z => g z.2)]
            exact ⟨hW1 s a b, by omega, by omega⟩)
        have e6 : F 70 (sp_bal V m e') = W (sp_bal V m e') + 1 := by rw [f3 _ hv.1 (by omega), zu_same]
        refine ⟨zu F 70 (sp_bal V m e') (W (sp_bal V m e') + 1 - 1), vI (sp_bal V m e'), ?_, fun a b g1 g2 => by rw [zu_ne (Or.inl g1), f2 a b g1 g2, zu_ne (Or.inl g1)], fun s a b => ?_, ?_⟩
        · rw [L254_44]
          simp (disch := omega) only [n32_id, zg_pos, if_pos, if_neg, zu_same, zu_ne, if_true, if_false, ne_eq, not_true_eq_false, not_false_eq_true, true_or, or_true, true_and, and_true, zg_true, fa_b_f, fa_b_t, e0]
          rw [e1, T218 hR1 hV (by omega) (by omega), L254_k64, T228 hR1 hV h1 (by omega), L254_k69, T232 hR1 hV hS1 h1 (by omega) (by omega) (by omega)]
          rw [show sp_voteAt V (sp_C V) (sp_R V) m (sp_wall ((V (0)).val : Int) (sp_dc V m + e')) (sp_dr V m) = sp_bal V m e' from rfl, L254_k72]
          simp (disch := omega) only [n32_id, zg_pos, if_pos, if_neg, zu_same, zu_ne, if_true, if_false, ne_eq, not_true_eq_false, not_false_eq_true, true_or, or_true, true_and, and_true, zg_true, fa_b_f, fa_b_t, e5, T250 hR2]
          rw [L254_k102, ← he']
          simp (disch := omega) only [n32_id, zg_pos, if_pos, if_neg, zu_same, zu_ne, if_true, if_false, ne_eq, not_true_eq_false, not_false_eq_true, true_or, or_true, true_and, and_true, zg_true, fa_b_f, fa_b_t, f1]
          rw [L254_k109]
          simp (disch := omega) only [n32_id, zg_pos, if_pos, if_neg, zu_same, zu_ne, if_true, if_false, ne_eq, not_true_eq_false, not_false_eq_true, true_or, or_true, true_and, and_true, zg_true, fa_b_f, fa_b_t, e6]
        · by_cases g : s = sp_bal V m e'
          · rw [g, zu_same, e5]
            omega
          · rw [zu_ne (Or.inr g), f3 s a b, zu_ne (Or.inr g)]
        · rw [zu_ne (by omega), f4, zu_ne (by omega), Int.mul_assoc]
    by_cases hz : P = 0
    · refine ⟨E, ?_, fun a b _ _ => rfl, fun _ _ _ => rfl, by simp [hz]⟩
      rw [show d + (k + 1) + 3 = d + k + 3 + 1 by omega, L254_0]
      simp (disch := omega) only [n32_id, zg_pos, if_pos, if_neg, zu_same, zu_ne, if_true, if_false, ne_eq, not_true_eq_false, not_false_eq_true, true_or, or_true, true_and, and_true, zg_true, fa_b_f, fa_b_t, zm_lcmp0]
    · obtain ⟨F1, a6, s1, u1, u2, u3⟩ := step 0 (-1) E vJ vJ (by omega) rfl hR hS hD (fun s a b => (hW s a b).1)
      have hR1 : zR V F1 := hR.fr (fun b => u1 _ _ (by omega) (by omega)) (fun b => u1 _ _ (by omega) (by omega))
      have hS1 : zS (sp_C V) (sp_R V) ((V (3)).val : Int) F1 := hS.fr (fun b => u1 _ _ (by omega) (by omega))
      obtain ⟨F2, b6, s2, v1, v2, v3⟩ := step 1 0 F1 vJ a6 (by omega) rfl hR1 hS1 (fun i a b => by rw [u1 _ _ (by omega) (by omega)]; exact hD i a b) (fun s a b => by rw [u2 s a b]; exact (hW s a b).1)
      have hR2 : zR V F2 := hR1.fr (fun b => v1 _ _ (by omega) (by omega)) (fun b => v1 _ _ (by omega) (by omega))
      have hS2 : zS (sp_C V) (sp_R V) ((V (3)).val : Int) F2 := hS1.fr (fun b => v1 _ _ (by omega) (by omega))
      obtain ⟨F3, c6, s3, w1, w2, w3⟩ := step 2 1 F2 vJ b6 (by omega) rfl hR2 hS2 (fun i a b => by rw [v1 _ _ (by omega) (by omega), u1 _ _ (by omega) (by omega)]; exact hD i a b) (fun s a b => by rw [v2 s a b, u2 s a b]; exact (hW s a b).1)
      refine ⟨F3, ?_, fun a b g1 g2 => by rw [w1 a b g1 g2, v1 a b g1 g2, u1 a b g1 g2], fun s a b => by rw [w2 s a b, v2 s a b, u2 s a b], ?_⟩
      · rw [show d + (k + 1) + 3 = d + k + 3 + 1 by omega, L254_0]
        simp (disch := omega) only [n32_id, zg_pos, if_pos, if_neg, zu_same, zu_ne, if_true, if_false, ne_eq, not_true_eq_false, not_false_eq_true, true_or, or_true, true_and, and_true, zg_true, fa_b_f, fa_b_t, zm_lcmp0, hR.r]
        rw [s1, show (0 : Int) + 1 = 1 from rfl, s2, show (1 : Int) + 1 = 2 from rfl, s3, show (2 : Int) + 1 = 3 from rfl, L254_44]
        simp (disch := omega) only [n32_id, zg_pos, if_pos, if_neg, zu_same, zu_ne, if_true, if_false, ne_eq, not_true_eq_false, not_false_eq_true, true_or, or_true, true_and, and_true, zg_true, fa_b_f, fa_b_t]
      · rw [w3, v3, u3]
        simp only [sp_W]
        rw [Int.mul_add, Int.mul_add]
        omega
theorem T256_loop (hV : zV V) {s : Int} : ∀ (k : Nat) (i : Int) (E : Nat → Int → Int), zR V E → (∀ j, 0 ≤ j → j < i → E 71 j = sp_dc V j) → 0 ≤ i → i + k = ((V (4)).val : Int) → ∃ F, zf_ev X (d + 10) 256 (15, [vR 60, vI s, vI i], [], zH t p q E) = zf_ev X (d + 10) 256 (15, [vR 60, vI s, vI ((V (4)).val : Int)], [], zH t p q F) ∧ (∀ a9 b9, a9 ≠ 68 → a9 ≠ 71 → F a9 b9 = E a9 b9) ∧ (∀ j, 0 ≤ j → j < ((V (4)).val : Int) → F 71 j = sp_dc V j) := by
  have hm := hV.mems
  intro k
  induction k with
  | zero =>
    intro i E hR hD h1 h2
    have e : ((V (4)).val : Int) = i := by omega
    rw [e]
    exact ⟨E, rfl, fun a b _ _ => rfl, hD⟩
  | succ k ih =>
    intro i E hR hD h1 h2
    obtain ⟨F, f1, f2, f3⟩ := ih (i + 1) (zu (zA V E) 71 i (sp_dc V i)) (hR.A.fr (fun b => zu_ne (by omega)) (fun b => zu_ne (by omega))) (fun j a b => by
      by_cases g : j = i
      · rw [g, zu_same]
      · rw [zu_ne (Or.inr g), zA_ne (by omega)]
        exact hD j a (by omega)) (by omega) (by omega)
    refine ⟨F, ?_, fun a b g1 g2 => by rw [f2 a b g1 g2, zu_ne (Or.inl g2), zA_ne g1], f3⟩
    rw [L256_15]
    simp (disch := omega) only [n32_id, zg_pos, if_pos, if_neg, zu_same, zu_ne, if_true, if_false, ne_eq, not_true_eq_false, not_false_eq_true, true_or, or_true, true_and, and_true, zg_true, fa_b_f, fa_b_t, hR.r, T227 hR hV]
    rw [L256_k32]
    simp (disch := omega) only [n32_id, zg_pos, if_pos, if_neg, zu_same, zu_ne, if_true, if_false, ne_eq, not_true_eq_false, not_false_eq_true, true_or, or_true, true_and, and_true, zg_true, fa_b_f, fa_b_t, f1]
theorem T256 (hR : zR V E) (hV : zV V) {s : Int} (hs : 0 ≤ s ∧ s < 4) : ∃ F, zf_ev X (d + 10) 256 (0, [vR 60, vI s, vJ], [], zH t p q E) = some (some [vL (sv_W V s)], zH t p q F) ∧ (∀ a9 b9, a9 ≠ 68 → a9 ≠ 69 → a9 ≠ 70 → a9 ≠ 71 → (a9 ≠ 60 ∨ b9 ≠ 26) → F a9 b9 = E a9 b9) := by
  have hm := hV.mems
  have hR1 : zR V (zu (zfill (zP V E) 70 0 4 (fun _ => 0)) 60 26 0) := hR.P.fr (fun b => by rw [zu_ne (by omega), zfill_ne (by omega)]) (fun b => by rw [zu_ne (by omega), zfill_ne (by omega)])
  obtain ⟨F, f1, f2, f3⟩ := T256_loop (X := X) (d := d) (t := t) (p := p) (q := q) hV (s := s) (((V (4)).val : Int)).toNat 0 (zu (zfill (zP V E) 70 0 4 (fun _ => 0)) 60 26 0) hR1 (fun j a b => by omega) (by omega) (by omega)
  have hR2 : zR V F := hR1.fr (fun b => f2 _ _ (by omega) (by omega)) (fun b => f2 _ _ (by omega) (by omega))
  have hS2 : zS (sp_C V) (sp_R V) ((V (3)).val : Int) F := (zS_P (E := E) hV).fr (fun b => by rw [f2 _ _ (by omega) (by omega), zu_ne (by omega), zfill_ne (by omega)])
  have hpw := sp_pow_r hV
  obtain ⟨G, g1, g2, g3, g4⟩ := T254 (X := X) (d := d + (10 - 10) + (6 - (((V (4)).val : Int)).toNat)) (t := t) (p := p) (q := q) hV hs (((V (4)).val : Int)).toNat 0 1 (fun _ => 0) F hR2 hS2 f3 (by omega) (by omega) (by omega) (by rw [Int.one_mul]; exact hpw.2) (fun s a b => ⟨by rw [f2 _ _ (by omega) (by omega), zu_ne (by omega), zfill_in a b], by omega, by omega⟩)
  refine ⟨G, ?_, fun a b x1 x2 x3 x4 x5 => by rw [g2 a b x3 x5, f2 a b x1 x4, zu_ne x5, zfill_ne x3, zP_ne x2]⟩
  rw [L256_0, T230 hR, L256_k1, T234, L256_k5, f1, L256_15]
  simp (disch := omega) only [n32_id, zg_pos, if_pos, if_neg, zu_same, zu_ne, if_true, if_false, ne_eq, not_true_eq_false, not_false_eq_true, true_or, or_true, true_and, and_true, zg_true, fa_b_f, fa_b_t, hR2.r]
  rw [show d + (10 - 1) = d + (10 - 10) + (6 - (((V (4)).val : Int)).toNat) + (((V (4)).val : Int)).toNat + 3 by omega, g1, L256_k46, g4, f2 _ _ (by omega) (by omega), zu_same]
  unfold sv_W
  rw [Int.one_mul, Int.zero_add]
theorem Q257 (hG : zG V E p) {s l : Int} (h3 : 0 ≤ s) (h4 : s < ((V (3)).val : Int)) (hl : -2147483648 ≤ l ∧ l < 2147483648) : ∃ F, zf_ev X (d + 11) 257 (0, [vR 60, vI s, vI l], [], zH t p q E) = some (some [vL (sp_low (sv_W V s) (sp_pow ((V (4)).val : Int)) l)], zH t p q F) ∧ F 60 11 = 0 ∧ F 60 0 = 0 ∧ zFM E F := by
  obtain ⟨hV, -, h142⟩ := hG.yes (by omega)
  have hk := hV.spks
  have hm := hV.mems
  have hR2 := hG.R2
  have hr := sv_W_r hV (s := s)
  have hr2 := sp_pow_r hV
  obtain ⟨F, f1, f2⟩ := T256 (X := X) (d := d) (t := t) (p := p) (q := q) hR2 hV (s := s) (by omega)
  have hf : zFM (zg0 E) F := fun a b g1 g2 => f2 a b (by omega) (by omega) (by omega) (by omega) (by omega)
  have hR3 : zR V F := hR2.fm hf
  refine ⟨F, ?_, by rw [f2 _ _ (by omega) (by omega) (by omega) (by omega) (by omega)]; rfl, by rw [f2 _ _ (by omega) (by omega) (by omega) (by omega) (by omega)]; rfl, zFM.g0.tr hf⟩
  simp (disch := omega) only [n32_id, zg_pos, if_pos, if_neg, zu_same, zu_ne, if_true, if_false, ne_eq, not_true_eq_false, not_false_eq_true, true_or, or_true, true_and, and_true, zg_true, fa_b_f, fa_b_t, L257_0, L257_k1, L257_k6, L257_k14, L257_k23, L257_k27, L257_k35, T177, T214t hR2 h142, f1, hR3.r, T255, T184]
theorem Q257n (hG : zG V E p) {s l : Int} (h1 : -2147483648 ≤ s ∧ s < 2147483648) (h : s < 0 ∨ ((V (3)).val : Int) ≤ s) : ∃ F, zf_ev X (d + 11) 257 (0, [vR 60, vI s, vI l], [], zH t p q E) = some (some [vL (-1)], zH t p q F) ∧ F 60 11 = 1 ∧ F 60 0 = 0 ∧ zFM E F := by
  have hR2 := hG.R2
  refine RQ_noL (F := E) ?_
  simp (disch := omega) only [n32_id, zg_pos, if_pos, if_neg, zu_same, zu_ne, if_true, if_false, ne_eq, not_true_eq_false, not_false_eq_true, true_or, or_true, true_and, and_true, zg_true, fa_b_f, fa_b_t, L257_0, L257_k1, L257_k6, L257_k14, L257_k23, L257_k27, L257_k35, T177, T214f hR2 hG.h14, L178_0]
theorem T260_loop (hV : zV V) : ∀ (k : Nat) (i best most : Int) (E : Nat → Int → Int) (j3 j5 j6 : ZV), zm_isL j3 = false → zR V E → 0 ≤ i → i + k = ((V (3)).val : Int) → 0 ≤ most → most < 9223372036854775808 →
    ∃ F, zf_ev X (d + 11) 260 (25, [vR 60, vI best, vL most, j3, vI i, j5, j6], [], zH t p q E) = some (some [vI (sp_first (sv_W V) k i best most)], zH t p q F) ∧ (∀ a9 b9, a9 ≠ 68 → a9 ≠ 69 → a9 ≠ 70 → a9 ≠ 71 → (a9 ≠ 60 ∨ b9 ≠ 26) → F a9 b9 = E a9 b9) := by
  have hk := hV.spks
  have hr2 := sp_pow_r hV
  intro k
  induction k with
  | zero =>
    intro i best most E j3 j5 j6 hj hR h1 h2 h3 h4
    refine ⟨E, ?_, fun a b _ _ _ _ _ => rfl⟩
    rw [L260_25]
    simp (disch := omega) only [n32_id, zg_pos, if_pos, if_neg, zu_same, zu_ne, if_true, if_false, ne_eq, not_true_eq_false, not_false_eq_true, true_or, or_true, true_and, and_true, zg_true, fa_b_f, fa_b_t, hR.r]
    rfl
  | succ k ih =>
    intro i best most E j3 j5 j6 hj hR h1 h2 h3 h4
    have hr := sv_W_r hV (s := i)
    obtain ⟨F, f1, f2⟩ := T256 (X := X) (d := d) (t := t) (p := p) (q := q) hR hV (s := i) (by omega)
    have hR2 : zR V F := hR.fr (fun b => f2 _ _ (by omega) (by omega) (by omega) (by omega) (by omega)) (fun b => f2 _ _ (by omega) (by omega) (by omega) (by omega) (by omega))
    have hl := zm_lcmp_pos (a := sv_W V i) (b := most) hr.1 (by omega) h3 h4
    unfold sp_first
    by_cases g : most < sv_W V i
    · obtain ⟨G, g1, g2⟩ := ih (i + 1) i (sv_W V i) F vJ (vL (sv_W V i)) vJ rfl hR2 (by omega) (by omega) (by omega) (by omega)
      refine ⟨G, ?_, fun a b x1 x2 x3 x4 x5 => by rw [g2 a b x1 x2 x3 x4 x5, f2 a b x1 x2 x3 x4 x5]⟩
      rw [L260_25]
      simp (disch := omega) only [n32_id, zg_pos, if_pos, if_neg, zu_same, zu_ne, if_true, if_false, ne_eq, not_true_eq_false, not_false_eq_true, true_or, or_true, true_and, and_true, zg_true, fa_b_f, fa_b_t, hR.r, f1]
      rw [L260_k39 hj]
      simp only [hl.2]
      rw [if_pos g]
      exact g1
    · obtain ⟨G, g1, g2⟩ := ih (i + 1) best most F j3 (vL (sv_W V i)) vJ hj hR2 (by omega) (by omega) (by omega) (by omega)
      refine ⟨G, ?_, fun a b x1 x2 x3 x4 x5 => by rw [g2 a b x1 x2 x3 x4 x5, f2 a b x1 x2 x3 x4 x5]⟩
      rw [L260_25]
      simp (disch := omega) only [n32_id, zg_pos, if_pos, if_neg, zu_same, zu_ne, if_true, if_false, ne_eq, not_true_eq_false, not_false_eq_true, true_or, or_true, true_and, and_true, zg_true, fa_b_f, fa_b_t, hR.r, f1]
      rw [L260_k39 hj]
      simp only [hl.2]
      rw [if_neg g]
      exact g1
theorem Q260 (hG : zG V E p) (h1 : 0 < ((V (3)).val : Int)) : ∃ F, zf_ev X (d + 11) 260 (0, [vR 60, vJ, vJ, vJ, vJ, vJ, vJ], [], zH t p q E) = some (some [vI (sp_win (sv_W V) ((V (3)).val : Int))], zH t p q F) ∧ F 60 11 = 0 ∧ F 60 0 = 0 ∧ zFM E F := by
  obtain ⟨hV, -, h142⟩ := hG.yes (by omega)
  have hR2 := hG.R2
  obtain ⟨F, f1, f2⟩ := T260_loop (X := X) (d := d) (t := t) (p := p) (q := q) hV (((V (3)).val : Int)).toNat 0 (-2) 0 (zg0 E) vJ vJ vJ rfl hR2 (by omega) (by omega) (by omega) (by omega)
  have hf : zFM (zg0 E) F := fun a b g1 g2 => f2 a b (by omega) (by omega) (by omega) (by omega) (by omega)
  refine ⟨F, ?_, by rw [f2 _ _ (by omega) (by omega) (by omega) (by omega) (by omega)]; rfl, by rw [f2 _ _ (by omega) (by omega) (by omega) (by omega) (by omega)]; rfl, zFM.g0.tr hf⟩
  simp (disch := omega) only [n32_id, zg_pos, if_pos, if_neg, zu_same, zu_ne, if_true, if_false, ne_eq, not_true_eq_false, not_false_eq_true, true_or, or_true, true_and, and_true, zg_true, fa_b_f, fa_b_t, L260_0, L260_k1, L260_k13, T177, h142, f1]
  rfl
theorem Q260n (hG : zG V E p) (h1 : ((V (3)).val : Int) ≤ 0) : ∃ F, zf_ev X (d + 11) 260 (0, [vR 60, vJ, vJ, vJ, vJ, vJ, vJ], [], zH t p q E) = some (some [vI (-1)], zH t p q F) ∧ F 60 11 = 1 ∧ F 60 0 = 0 ∧ zFM E F := by
  have h142 := hG.not h1
  refine RQ_no (F := E) ?_
  simp (disch := omega) only [n32_id, zg_pos, if_pos, if_neg, zu_same, zu_ne, if_true, if_false, ne_eq, not_true_eq_false, not_false_eq_true, true_or, or_true, true_and, and_true, zg_true, fa_b_f, fa_b_t, L260_0, L260_k1, L260_k13, T177, h142, L178_0]
end WQ

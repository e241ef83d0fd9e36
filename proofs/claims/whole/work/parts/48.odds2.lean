/-! likely, mean, folds and seats -/
theorem sp_in_pos {w l : Int → Int} : ∀ (k : Nat) (i : Int) (a : Int × Int), (∀ j, i ≤ j → j < i + k → 0 ≤ w j) → (1 ≤ k ∨ 0 ≤ a.2) → 0 ≤ (sp_in w l k i a).2 := by
  intro k
  induction k with
  | zero => intro i a _ h; rcases h with h | h; omega; exact h
  | succ k ih =>
    intro i a h h2
    have h3 := h i (by omega) (by omega)
    unfold sp_in
    refine ih _ _ (fun j a b => h j (by omega) (by omega)) (Or.inr ?_)
    split
    · exact h3
    · omega
theorem sp_out_pos {w l : Int → Int → Int} {n : Nat} {b : Int} (hn : 1 ≤ n) : ∀ (k : Nat) (i : Int) (a : Int × Int), (∀ j, i ≤ j → j < i + k → ∀ x, b ≤ x → x < b + n → 0 ≤ w j x) → (1 ≤ k ∨ 0 ≤ a.2) → 0 ≤ (sp_out w l n b k i a).2 := by
  intro k
  induction k with
  | zero => intro i a _ h; rcases h with h | h; omega; exact h
  | succ k ih =>
    intro i a h h2
    unfold sp_out
    exact ih _ _ (fun j a b => h j (by omega) (by omega)) (Or.inr (sp_in_pos _ _ _ (h i (by omega) (by omega)) (Or.inl hn)))
section O2
variable {X : Nat × (Nat → Int)} {d : Nat} {t : List (Nat × Nat)} {p q : Nat} {E : Nat → Int → Int} {V : Int → Fin 65537} {o : Nat}
theorem sp_chance_r (hV : zV V) {m s fold seat far : Int} (h1 : 0 ≤ m) (h2 : m < ((V (4)).val : Int)) : 0 ≤ sp_chance V m s fold seat far ∧ sp_chance V m s fold seat far ≤ 200 := sp_ch_r hV h1 h2
theorem RQ_noL {F : Nat → Int → Int} {M : Nat} {loc : List ZV} {n : Int} (h : zf_ev X d M (0, loc, [], zH t p q E) = some (some [vL (-1)], zH t p q (zu (zg0 E) 60 11 n))) : ∃ F, zf_ev X d M (0, loc, [], zH t p q E) = some (some [vL (-1)], zH t p q F) ∧ F 60 11 = n ∧ F 60 0 = 0 ∧ zFM E F := ⟨_, h, zu_same, (zu_ne (by omega)).trans rfl, zFM.g0.tr zFM.u11⟩
/-- likely -/
theorem Q129 (hG : zG V E p) {m s l : Int} (h1 : 0 ≤ m) (h2 : m < ((V (4)).val : Int)) (h3 : 0 ≤ s) (h4 : s < ((V (3)).val : Int)) (hl : -2147483648 ≤ l ∧ l < 2147483648) : ∃ F, zf_ev X (d + 5) 129 (0, [vR 0, vI m, vI s, vI l], [], zH t p q E) = some (some [vL (sp_low (sp_cnow V m s) 200 l)], zH t p q F) ∧ F 0 10 = 0 ∧ zFC E F := by
  obtain ⟨hV, -, -⟩ := hG.yes (by omega)
  obtain ⟨hp, hC, hR, -⟩ := hG
  have hk := hV.spks
  have hC2 : zC V (zu E 0 10 0) p := hC.fco hp zFC.u
  have hr : 0 ≤ sp_cnow V m s ∧ sp_cnow V m s ≤ 200 := sp_chance_r hV h1 h2
  refine ⟨zu E 0 10 0, ?_, zu_same, zFC.u⟩
  simp (disch := omega) only [n32_id, zg_pos, if_pos, if_neg, zu_same, zu_ne, if_true, if_false, ne_eq, not_true_eq_false, not_false_eq_true, true_or, or_true, true_and, and_true, zg_true, fa_b_f, fa_b_t, L129_0 hp, L129_k6 hp, L129_k17, L129_k28 hp, L129_k44, L129_k52, T23t hp hC, T22t hp hC, T168t, T46 hp hC2 hV, T49]
theorem Q129n (hG : zG V E p) {m s l : Int} (h0 : -2147483648 ≤ m ∧ m < 2147483648) (h1 : -2147483648 ≤ s ∧ s < 2147483648) (h : (m < 0 ∨ ((V (4)).val : Int) ≤ m) ∨ s < 0 ∨ ((V (3)).val : Int) ≤ s) : ∃ F, zf_ev X (d + 5) 129 (0, [vR 0, vI m, vI s, vI l], [], zH t p q E) = some (some [vL (-1)], zH t p q F) ∧ F 0 10 = 1 ∧ zFC E F := by
  obtain ⟨hp, hC, hR, -⟩ := hG
  refine ⟨zu E 0 10 1, ?_, zu_same, zFC.u⟩
  by_cases g : m < 0 ∨ ((V (4)).val : Int) ≤ m
  · simp (disch := omega) only [n32_id, zg_pos, if_pos, if_neg, zu_same, zu_ne, if_true, if_false, ne_eq, not_true_eq_false, not_false_eq_true, true_or, or_true, true_and, and_true, zg_true, fa_b_f, fa_b_t, L129_0 hp, L129_k6 hp, L129_k17, L129_k28 hp, L129_k44, L129_k52, T23f hp hC, T168f]
  · simp (disch := omega) only [n32_id, zg_pos, if_pos, if_neg, zu_same, zu_ne, if_true, if_false, ne_eq, not_true_eq_false, not_false_eq_true, true_or, or_true, true_and, and_true, zg_true, fa_b_f, fa_b_t, L129_0 hp, L129_k6 hp, L129_k17, L129_k28 hp, L129_k44, L129_k52, T23t hp hC, T22f hp hC, T168f]
theorem Q253 (hG : zG V E p) {m s l : Int} (h1 : 0 ≤ m) (h2 : m < ((V (4)).val : Int)) (h3 : 0 ≤ s) (h4 : s < ((V (3)).val : Int)) (hl : -2147483648 ≤ l ∧ l < 2147483648) : ∃ F, zf_ev X (d + 5) 253 (0, [vR 60, vI m, vI s, vI l], [], zH t p q E) = some (some [vL (sp_low (sp_cnow V m s) 200 l)], zH t p q F) ∧ F 60 11 = 0 ∧ F 60 0 = 0 ∧ zFM E F := by
  obtain ⟨hV, -, h142⟩ := hG.yes (by omega)
  have hk := hV.spks
  have hR2 := hG.R2
  have hr : 0 ≤ sp_cnow V m s ∧ sp_cnow V m s ≤ 200 := sp_chance_r hV h1 h2
  refine ⟨zP V (zA V (zg0 E)), ?_, by rw [zP_ne (by omega), zA_ne (by omega)]; rfl, by rw [zP_ne (by omega), zA_ne (by omega)]; rfl, zFM.g0.tr (zFM.A.tr zFM.P)⟩
  simp (disch := omega) only [n32_id, zg_pos, if_pos, if_neg, zu_same, zu_ne, if_true, if_false, ne_eq, not_true_eq_false, not_false_eq_true, true_or, or_true, true_and, and_true, zg_true, fa_b_f, fa_b_t, L253_0, L253_k1, L253_k6, L253_k14, L253_k23, L253_k31, L253_k39, T177, T215t hR2 h142, T214t hR2 h142, T252 hR2 hV, T184]
theorem Q253n (hG : zG V E p) {m s l : Int} (h0 : -2147483648 ≤ m ∧ m < 2147483648) (h1 : -2147483648 ≤ s ∧ s < 2147483648) (h : (m < 0 ∨ ((V (4)).val : Int) ≤ m) ∨ s < 0 ∨ ((V (3)).val : Int) ≤ s) : ∃ F, zf_ev X (d + 5) 253 (0, [vR 60, vI m, vI s, vI l], [], zH t p q E) = some (some [vL (-1)], zH t p q F) ∧ F 60 11 = 1 ∧ F 60 0 = 0 ∧ zFM E F := by
  have hR2 := hG.R2
  refine RQ_noL (F := E) ?_
  by_cases g : m < 0 ∨ ((V (4)).val : Int) ≤ m
  · simp (disch := omega) only [n32_id, zg_pos, if_pos, if_neg, zu_same, zu_ne, if_true, if_false, ne_eq, not_true_eq_false, not_false_eq_true, true_or, or_true, true_and, and_true, zg_true, fa_b_f, fa_b_t, L253_0, L253_k1, L253_k6, L253_k14, L253_k23, L253_k31, L253_k39, T177, T215f hR2 hG.h14, L178_0]
  · obtain ⟨-, -, h142⟩ := hG.yes (by omega)
    simp (disch := omega) only [n32_id, zg_pos, if_pos, if_neg, zu_same, zu_ne, if_true, if_false, ne_eq, not_true_eq_false, not_false_eq_true, true_or, or_true, true_and, and_true, zg_true, fa_b_f, fa_b_t, L253_0, L253_k1, L253_k6, L253_k14, L253_k23, L253_k31, L253_k39, T177, T215t hR2 h142, T214f hR2 hG.h14, L178_0]
/-- mean -/
def sp_sum (f : Int → Int) : Nat → Int → Int → Int
  | 0, _, z => z
  | k + 1, i, z => sp_sum f k (i + 1) (z + f i)
theorem sp_sum_r {f : Int → Int} : ∀ (k : Nat) (i z : Int), (∀ j, i ≤ j → j < i + k → 0 ≤ f j ∧ f j ≤ 200) → z ≤ sp_sum f k i z ∧ sp_sum f k i z ≤ z + 200 * k := by
  intro k
  induction k with
  | zero => intro i z h; unfold sp_sum; omega
  | succ k ih =>
    intro i z h
    have h1 := h i (by omega) (by omega)
    have h2 := ih (i + 1) (z + f i) (fun j a b => h j (by omega) (by omega))
    unfold sp_sum
    omega
theorem T132_loop (hp : zo p) (hC : zC V E p) (hV : zV V) {s l : Int} (hs : 0 ≤ s ∧ s < 4) (hl : -2147483648 ≤ l ∧ l < 2147483648) : ∀ (k : Nat) (i z : Int) (j : ZV), 0 ≤ i → i + k = ((V (4)).val : Int) → 0 ≤ z → z ≤ 200 * i → zf_ev X (d + 5) 132 (24, [vR 0, vI s, vI l, vL z, j, vI i], [], zH t p q E) = some (some [vL (sp_low (sp_sum (fun m => sp_cnow V m s) k i z) 200 l)], zH t p q E) := by
  have hm := hV.mems
  intro k
  induction k with
  | zero =>
    intro i z j h1 h2 h3 h4
    rw [L132_24 hp]
    simp (disch := omega) only [n32_id, zg_pos, if_pos, if_neg, zu_same, zu_ne, if_true, if_false, ne_eq, not_true_eq_false, not_false_eq_true, true_or, or_true, true_and, and_true, zg_true, fa_b_f, fa_b_t, hC.mems, T49]
    rw [L132_k61]
    rfl
  | succ k ih =>
    intro i z j h1 h2 h3 h4
    have hr : 0 ≤ sp_cnow V i s ∧ sp_cnow V i s ≤ 200 := sp_chance_r hV h1 (by omega)
    rw [L132_24 hp]
    simp (disch := omega) only [n32_id, zg_pos, if_pos, if_neg, zu_same, zu_ne, if_true, if_false, ne_eq, not_true_eq_false, not_false_eq_true, true_or, or_true, true_and, and_true, zg_true, fa_b_f, fa_b_t, hC.mems, T46 hp hC hV]
    rw [L132_k44]
    simp (disch := omega) only [n32_id, zg_pos, if_pos, if_neg, zu_same, zu_ne, if_true, if_false, ne_eq, not_true_eq_false, not_false_eq_true, true_or, or_true, true_and, and_true, zg_true, fa_b_f, fa_b_t]
    exact ih _ _ _ (by omega) (by omega) (by omega) (by omega)
def sv_mean (V : Int → Fin 65537) (s : Int) : Int := sp_sum (fun m => sp_cnow V m s) (((V (4)).val : Int)).toNat 0 0
theorem Q132 (hG : zG V E p) {s l : Int} (h3 : 0 ≤ s) (h4 : s < ((V (3)).val : Int)) (hl : -2147483648 ≤ l ∧ l < 2147483648) : ∃ F, zf_ev X (d + 5) 132 (0, [vR 0, vI s, vI l, vJ, vJ, vJ], [], zH t p q E) = some (some [vL (sp_low (sv_mean V s) 200 l)], zH t p q F) ∧ F 0 10 = 0 ∧ zFC E F := by
  obtain ⟨hV, -, -⟩ := hG.yes (by omega)
  obtain ⟨hp, hC, hR, -⟩ := hG
  have hk := hV.spks
  have hC2 : zC V (zu E 0 10 0) p := hC.fco hp zFC.u
  refine ⟨zu E 0 10 0, ?_, zu_same, zFC.u⟩
  simp (disch := omega) only [n32_id, zg_pos, if_pos, if_neg, zu_same, zu_ne, if_true, if_false, ne_eq, not_true_eq_false, not_false_eq_true, true_or, or_true, true_and, and_true, zg_true, fa_b_f, fa_b_t, L132_0 hp, L132_k6, L132_k9, L132_k44, L132_k61, T22t hp hC, T168t]
  exact T132_loop hp hC2 hV (by omega) hl _ _ _ _ (by omega) (by omega) (by omega) (by omega)
theorem Q132n (hG : zG V E p) {s l : Int} (h1 : -2147483648 ≤ s ∧ s < 2147483648) (h : s < 0 ∨ ((V (3)).val : Int) ≤ s) : ∃ F, zf_ev X (d + 5) 132 (0, [vR 0, vI s, vI l, vJ, vJ, vJ], [], zH t p q E) = some (some [vL (-1)], zH t p q F) ∧ F 0 10 = 1 ∧ zFC E F := by
  obtain ⟨hp, hC, hR, -⟩ := hG
  refine ⟨zu E 0 10 1, ?_, zu_same, zFC.u⟩
  simp (disch := omega) only [n32_id, zg_pos, if_pos, if_neg, zu_same, zu_ne, if_true, if_false, ne_eq, not_true_eq_false, not_false_eq_true, true_or, or_true, true_and, and_true, zg_true, fa_b_f, fa_b_t, L132_0 hp, L132_k6, L132_k9, L132_k44, L132_k61, T22f hp hC, T168f]
theorem T259_loop (hV : zV V) {s l : Int} (hs : 0 ≤ s ∧ s < 4) (hl : -2147483648 ≤ l ∧ l < 2147483648) : ∀ (k : Nat) (i z : Int) (j : ZV) (E : Nat → Int → Int), zR V E → 0 ≤ i → i + k = ((V (4)).val : Int) → 0 ≤ z → z ≤ 200 * i → ∃ F, zf_ev X (d + 5) 259 (24, [vR 60, vI s, vI l, vL z, j, vI i], [], zH t p q E) = some (some [vL (sp_low (sp_sum (fun m => sp_cnow V m s) k i z) 200 l)], zH t p q F) ∧ (∀ a9 b9, a9 ≠ 68 → a9 ≠ 69 → F a9 b9 = E a9 b9) := by
  have hm := hV.mems
  intro k
  induction k with
  | zero =>
    intro i z j E hR h1 h2 h3 h4
    refine ⟨E, ?_, fun a b _ _ => rfl⟩
    rw [L259_24]
    simp (disch := omega) only [n32_id, zg_pos, if_pos, if_neg, zu_same, zu_ne, if_true, if_false, ne_eq, not_true_eq_false, not_false_eq_true, true_or, or_true, true_and, and_true, zg_true, fa_b_f, fa_b_t, hR.r, T184]
    rw [L259_k57]
    rfl
  | succ k ih =>
    intro i z j E hR h1 h2 h3 h4
    have hr : 0 ≤ sp_cnow V i s ∧ sp_cnow V i s ≤ 200 := sp_chance_r hV h1 (by omega)
    obtain ⟨F, f1, f2⟩ := ih (i + 1) (z + sp_cnow V i s) vJ (zP V (zA V E)) hR.A.P (by omega) (by omega) (by omega) (by omega)
    refine ⟨F, ?_, fun a b g1 g2 => by rw [f2 a b g1 g2, zP_ne g2, zA_ne g1]⟩
    rw [L259_24]
    simp (disch := omega) only [n32_id, zg_pos, if_pos, if_neg, zu_same, zu_ne, if_true, if_false, ne_eq, not_true_eq_false, not_false_eq_true, true_or, or_true, true_and, and_true, zg_true, fa_b_f, fa_b_t, hR.r, T252 hR hV]
    rw [L259_k40]
    simp (disch := omega) only [n32_id, zg_pos, if_pos, if_neg, zu_same, zu_ne, if_true, if_false, ne_eq, not_true_eq_false, not_false_eq_true, true_or, or_true, true_and, and_true, zg_true, fa_b_f, fa_b_t]
    exact f1
theorem Q259 (hG : zG V E p) {s l : Int} (h3 : 0 ≤ s) (h4 : s < ((V (3)).val : Int)) (hl : -2147483648 ≤ l ∧ l < 2147483648) : ∃ F, zf_ev X (d + 5) 259 (0, [vR 60, vI s, vI l, vJ, vJ, vJ], [], zH t p q E) = some (some [vL (sp_low (sv_mean V s) 200 l)], zH t p q F) ∧ F 60 11 = 0 ∧ F 60 0 = 0 ∧ zFM E F := by
  obtain ⟨hV, -, h142⟩ := hG.yes (by omega)
  have hk := hV.spks
  have hR2 := hG.R2
  obtain ⟨F, f1, f2⟩ := T259_loop (X := X) (d := d) (t := t) (p := p) (q := q) hV (s := s) (by omega) hl (((V (4)).val : Int)).toNat 0 0 vJ (zg0 E) hR2 (by omega) (by omega) (by omega) (by omega)
  have hf : zFM (zg0 E) F := fun a b g1 g2 => f2 a b (by omega) (by omega)
  refine ⟨F, ?_, by rw [f2 _ _ (by omega) (by omega)]; rfl, by rw [f2 _ _ (by omega) (by omega)]; rfl, zFM.g0.tr hf⟩
  simp (disch := omega) only [n32_id, zg_pos, if_pos, if_neg, zu_same, zu_ne, if_true, if_false, ne_eq, not_true_eq_false, not_false_eq_true, true_or, or_true, true_and, and_true, zg_true, fa_b_f, fa_b_t, L259_0, L259_k1, L259_k6, L259_k14, L259_k40, L259_k57, T177, T214t hR2 h142, f1]
  rfl
theorem Q259n (hG : zG V E p) {s l : Int} (h1 : -2147483648 ≤ s ∧ s < 2147483648) (h : s < 0 ∨ ((V (3)).val : Int) ≤ s) : ∃ F, zf_ev X (d + 5) 259 (0, [vR 60, vI s, vI l, vJ, vJ, vJ], [], zH t p q E) = some (some [vL (-1)], zH t p q F) ∧ F 60 11 = 1 ∧ F 60 0 = 0 ∧ zFM E F := by
  have hR2 := hG.R2
  refine RQ_noL (F := E) ?_
  simp (disch := omega) only [n32_id, zg_pos, if_pos, if_neg, zu_same, zu_ne, if_true, if_false, ne_eq, not_true_eq_false, not_false_eq_true, true_or, or_true, true_and, and_true, zg_true, fa_b_f, fa_b_t, L259_0, L259_k1, L259_k6, L259_k14, L259_k40, L259_k57, T177, T214f hR2 hG.h14, L178_0]
/-- the best fold -/
def sp_fold (V : Int → Fin 65537) (m s : Int) : Int × Int := sp_out (fun fold far => sp_chance V m s fold ((V (200 + (19 + 3 * m + 1))).val : Int) far) (fun fold far => 10 * fold + far) (((V (1)).val : Int)).toNat 1 4 0 (0, -1)
def zBF (E : Nat → Int → Int) (a : Int × Int) : Prop := E 9 6 = a.2 ∧ (a.2 = -1 ∨ 10 * E 9 4 + E 9 5 = a.1)
theorem T55_in (ho : zo o) (hV : zV V) {m s fold : Int} (h1 : 0 ≤ m) (h2 : m < ((V (4)).val : Int)) (hs : 0 ≤ s ∧ s < 4) (hf : 0 ≤ fold ∧ fold ≤ 3) : ∀ (k : Nat) (i : Int) (a : Int × Int) (E : Nat → Int → Int) (j6 : ZV), zC V E o → zBF E a → 1 ≤ i → i + k = ((V (1)).val : Int) + 1 → -1 ≤ a.2 → a.2 ≤ 200 →
    ∃ F j5' j6', zf_ev X (d + 4) 55 (17, [vR 9, vR o, vI m, vI s, vI fold, vI i, j6], [], zH t p q E) = zf_ev X (d + 4) 55 (8, [vR 9, vR o, vI m, vI s, vI (fold + 1), j5', j6'], [], zH t p q F) ∧ zBF F (sp_in (fun far => sp_chance V m s fold ((V (200 + (19 + 3 * m + 1))).val : Int) far) (fun far => 10 * fold + far) k i a) ∧ (∀ a9 b9, a9 ≠ 9 → F a9 b9 = E a9 b9) := by
  have hm := hV.mems
  have hr := hV.rows
  have hq := hV.mem m h1 h2
  have ho2 : o = 40 ∨ o = 50 := ho
  intro k
  induction k with
  | zero =>
    intro i a E j6 hC hB g1 g2 g3 g4
    refine ⟨E, vI i, j6, ?_, hB, fun a b _ => rfl⟩
    rw [L55_17 ho]
    simp (disch := omega) only [n32_id, zg_pos, if_pos, if_neg, zu_same, zu_ne, if_true, if_false, ne_eq, not_true_eq_false, not_false_eq_true, true_or, or_true, true_and, and_true, zg_true, fa_b_f, fa_b_t, hC.rows]
  | succ k ih =>
    intro i a E j6 hC hB g1 g2 g3 g4
    have b := sp_chance_r (s := s) (fold := fold) (seat := ((V (200 + (19 + 3 * m + 1))).val : Int)) (far := i) hV h1 h2
    have e1 := hB.1
    by_cases w : a.2 < sp_chance V m s fold ((V (200 + (19 + 3 * m + 1))).val : Int) i
    · obtain ⟨F, j5', j6', f1, f2, f3⟩ := ih (i + 1) (10 * fold + i, sp_chance V m s fold ((V (200 + (19 + 3 * m + 1))).val : Int) i) (zu (zu (zu E 9 6 (sp_chance V m s fold ((V (200 + (19 + 3 * m + 1))).val : Int) i)) 9 4 fold) 9 5 i) (vI (sp_chance V m s fold ((V (200 + (19 + 3 * m + 1))).val : Int) i)) (hC.fr (fun a b _ _ => by rw [zu_ne (by omega), zu_ne (by omega), zu_ne (by omega)])) ⟨by rw [zu_ne (by omega), zu_ne (by omega), zu_same], Or.inr (by rw [zu_ne (by omega), zu_same, zu_same])⟩ (by omega) (by omega) (by omega) (by omega)
      refine ⟨F, j5', j6', ?_, ?_, fun a b g => by rw [f3 a b g, zu_ne (Or.inl g), zu_ne (Or.inl g), zu_ne (Or.inl g)]⟩
      · rw [L55_17 ho]
        simp (disch := omega) only [n32_id, zg_pos, if_pos, if_neg, zu_same, zu_ne, if_true, if_false, ne_eq, not_true_eq_false, not_false_eq_true, true_or, or_true, true_and, and_true, zg_true, fa_b_f, fa_b_t, hC.rows, hC.seat, T45 ho hC hV h1 h2 hs hf]
        rw [L55_k41 ho]
        simp (disch := omega) only [n32_id, zg_pos, if_pos, if_neg, zu_same, zu_ne, if_true, if_false, ne_eq, not_true_eq_false, not_false_eq_true, true_or, or_true, true_and, and_true, zg_true, fa_b_f, fa_b_t, e1]
        exact f1
      · unfold sp_in
        rw [if_pos w]
        exact f2
    · obtain ⟨F, j5', j6', f1, f2, f3⟩ := ih (i + 1) a E (vI (sp_chance V m s fold ((V (200 + (19 + 3 * m + 1))).val : Int) i)) hC hB (by omega) (by omega) g3 g4
      refine ⟨F, j5', j6', ?_, ?_, f3⟩
      · rw [L55_17 ho]
        simp (disch := omega) only [n32_id, zg_pos, if_pos, if_neg, zu_same, zu_ne, if_true, if_false, ne_eq, not_true_eq_false, not_false_eq_true, true_or, or_true, true_and, and_true, zg_true, fa_b_f, fa_b_t, hC.rows, hC.seat, T45 ho hC hV h1 h2 hs hf]
        rw [L55_k41 ho]
        simp (disch := omega) only [n32_id, zg_pos, if_pos, if_neg, zu_same, zu_ne, if_true, if_false, ne_eq, not_true_eq_false, not_false_eq_true, true_or, or_true, true_and, and_true, zg_true, fa_b_f, fa_b_t, e1]
        exact f1
      · unfold sp_in
        rw [if_neg w]
        exact f2
theorem T55_out (ho : zo o) (hV : zV V) {m s : Int} (h1 : 0 ≤ m) (h2 : m < ((V (4)).val : Int)) (hs : 0 ≤ s ∧ s < 4) : ∀ (k : Nat) (i : Int) (a : Int × Int) (E : Nat → Int → Int) (j5 j6 : ZV), zC V E o → zBF E a → 0 ≤ i → i + k = 4 → -1 ≤ a.2 → a.2 ≤ 200 →
    ∃ F, zf_ev X (d + 4) 55 (8, [vR 9, vR o, vI m, vI s, vI i, j5, j6], [], zH t p q E) = some (some [], zH t p q F) ∧ zBF F (sp_out (fun fold far => sp_chance V m s fold ((V (200 + (19 + 3 * m + 1))).val : Int) far) (fun fold far => 10 * fold + far) (((V (1)).val : Int)).toNat 1 k i a) ∧ (∀ a9 b9, a9 ≠ 9 → F a9 b9 = E a9 b9) := by
  have hr := hV.rows
  have ho2 : o = 40 ∨ o = 50 := ho
  intro k
  induction k with
  | zero =>
    intro i a E j5 j6 hC hB g1 g2 g3 g4
    refine ⟨E, ?_, hB, fun a b _ => rfl⟩
    rw [L55_8 ho]
    simp (disch := omega) only [n32_id, zg_pos, if_pos, if_neg, zu_same, zu_ne, if_true, if_false, ne_eq, not_true_eq_false, not_false_eq_true, true_or, or_true, true_and, and_true, zg_true, fa_b_f, fa_b_t]
  | succ k ih =>
    intro i a E j5 j6 hC hB g1 g2 g3 g4
    obtain ⟨F, j5', j6', f1, f2, f3⟩ := T55_in (X := X) (d := d) (t := t) (p := p) (q := q) ho hV h1 h2 hs (fold := i) (by omega) (((V (1)).val : Int)).toNat 1 a E j6 hC hB (by omega) (by omega) g3 g4
    have b := sp_in_r (w := fun far => sp_chance V m s i ((V (200 + (19 + 3 * m + 1))).val : Int) far) (l := fun far => 10 * i + far) (lo := -1) (hi := 200) (((V (1)).val : Int)).toNat 1 a (fun j _ _ => by have := sp_chance_r (s := s) (fold := i) (seat := ((V (200 + (19 + 3 * m + 1))).val : Int)) (far := j) hV h1 h2; omega) g3 g4
    obtain ⟨H, e1, e2, e3⟩ := ih (i + 1) _ F j5' j6' (hC.fr (fun a b _ _ => f3 a b (by omega))) f2 (by omega) (by omega) b.1 b.2
    refine ⟨H, ?_, e2, fun a b g => by rw [e3 a b g, f3 a b g]⟩
    rw [L55_8 ho]
    simp (disch := omega) only [n32_id, zg_pos, if_pos, if_neg, zu_same, zu_ne, if_true, if_false, ne_eq, not_true_eq_false, not_false_eq_true, true_or, or_true, true_and, and_true, zg_true, fa_b_f, fa_b_t, f1]
    exact e1
theorem sp_fold_pos (hV : zV V) {m s : Int} (h1 : 0 ≤ m) (h2 : m < ((V (4)).val : Int)) : 0 ≤ (sp_fold V m s).2 := by
  have hr := hV.rows
  exact sp_out_pos (by omega) _ _ _ (fun j _ _ x _ _ => (sp_chance_r hV h1 h2).1) (Or.inl (by omega))
theorem sp_out_r {w l : Int → Int → Int} {n : Nat} {b lo hi : Int} : ∀ (k : Nat) (i : Int) (a : Int × Int), (∀ j, i ≤ j → j < i + k → ∀ x, b ≤ x → x < b + n → lo ≤ w j x ∧ w j x ≤ hi) → lo ≤ a.2 → a.2 ≤ hi → lo ≤ (sp_out w l n b k i a).2 ∧ (sp_out w l n b k i a).2 ≤ hi := by
  intro k
  induction k with
  | zero => intro i a _ h1 h2; exact ⟨h1, h2⟩
  | succ k ih =>
    intro i a h h1 h2
    unfold sp_out
    have q := sp_in_r (w := w i) (l := l i) (lo := lo) (hi := hi) n b a (h i (by omega) (by omega)) h1 h2
    exact ih _ _ (fun j a b => h j (by omega) (by omega)) q.1 q.2
theorem sp_fold_r (hV : zV V) {m s : Int} (h1 : 0 ≤ m) (h2 : m < ((V (4)).val : Int)) : 0 ≤ (sp_fold V m s).2 ∧ (sp_fold V m s).2 ≤ 200 := ⟨sp_fold_pos hV h1 h2, (sp_out_r (lo := -1) (hi := 200) _ _ _ (fun j _ _ x _ _ => by have := sp_chance_r (s := s) (fold := j) (seat := ((V (200 + (19 + 3 * m + 1))).val : Int)) (far := x) hV h1 h2; omega) (by decide) (by decide)).2⟩
theorem T55 (ho : zo o) (hC : zC V E o) (hV : zV V) {m s : Int} (h1 : 0 ≤ m) (h2 : m < ((V (4)).val : Int)) (hs : 0 ≤ s ∧ s < 4) : ∃ F, zf_ev X (d + 4) 55 (0, [vR 9, vR o, vI m, vI s, vJ, vJ, vJ], [], zH t p q E) = some (some [], zH t p q F) ∧ (F 9 6 = (sp_fold V m s).2 ∧ 10 * F 9 4 + F 9 5 = (sp_fold V m s).1) ∧ (∀ a9 b9, a9 ≠ 9 → F a9 b9 = E a9 b9) := by
  have ho2 : o = 40 ∨ o = 50 := ho
  obtain ⟨F, f1, f2, f3⟩ := T55_out (X := X) (d := d) (t := t) (p := p) (q := q) ho hV h1 h2 hs 4 0 (0, -1) (zu E 9 6 (-1)) vJ vJ (hC.fr (fun a b _ _ => zu_ne (by omega))) ⟨zu_same, Or.inl rfl⟩ (by omega) (by omega) (by decide) (by decide)
  refine ⟨F, ?_, ⟨f2.1, ?_⟩, fun a b g => by rw [f3 a b g, zu_ne (Or.inl g)]⟩
  · rw [L55_0 ho]
    exact f1
  · rcases f2.2 with g | g
    · have := sp_fold_pos (s := s) hV h1 h2
      unfold sp_fold at this
      omega
    · exact g
theorem Q134 (hG : zG V E p) {m s : Int} (h1 : 0 ≤ m) (h2 : m < ((V (4)).val : Int)) (h3 : 0 ≤ s) (h4 : s < ((V (3)).val : Int)) : ∃ F, zf_ev X (d + 5) 134 (0, [vR 0, vI m, vI s], [], zH t p q E) = some (some [vI ((sp_fold V m s).1)], zH t p q F) ∧ F 0 10 = 0 ∧ zFC E F := by
  obtain ⟨hV, -, -⟩ := hG.yes (by omega)
  obtain ⟨hp, hC, hR, -⟩ := hG
  have hk := hV.spks
  have hC2 : zC V (zu E 0 10 0) p := hC.fco hp zFC.u
  obtain ⟨F, f1, f2, f3⟩ := T55 (X := X) (d := d) (t := t) (p := p) (q := q) hp hC2 hV h1 h2 (s := s) (by omega)
  refine ⟨F, ?_, by rw [f3 _ _ (by omega)]; exact zu_same, fun a b g1 g2 g3 g4 => by rw [f3 a b (by omega), zu_ne g4]⟩
  simp (disch := omega) only [n32_id, zg_pos, if_pos, if_neg, zu_same, zu_ne, if_true, if_false, ne_eq, not_true_eq_false, not_false_eq_true, true_or, or_true, true_and, and_true, zg_true, fa_b_f, fa_b_t, L134_0 hp, L134_k6 hp, L134_k17, L134_k28 hp, L134_k46, T23t hp hC, T22t hp hC, T168t, f1, f2.2]
theorem Q134n (hG : zG V E p) {m s : Int} (h0 : -2147483648 ≤ m ∧ m < 2147483648) (h1 : -2147483648 ≤ s ∧ s < 2147483648) (h : (m < 0 ∨ ((V (4)).val : Int) ≤ m) ∨ s < 0 ∨ ((V (3)).val : Int) ≤ s) : ∃ F, zf_ev X (d + 5) 134 (0, [vR 0, vI m, vI s], [], zH t p q E) = some (some [vI (-1)], zH t p q F) ∧ F 0 10 = 1 ∧ zFC E F := by
  obtain ⟨hp, hC, hR, -⟩ := hG
  refine ⟨zu E 0 10 1, ?_, zu_same, zFC.u⟩
  by_cases g : m < 0 ∨ ((V (4)).val : Int) ≤ m
  · simp (disch := omega) only [n32_id, zg_pos, if_pos, if_neg, zu_same, zu_ne, if_true, if_false, ne_eq, not_true_eq_false, not_false_eq_true, true_or, or_true, true_and, and_true, zg_true, fa_b_f, fa_b_t, L134_0 hp, L134_k6 hp, L134_k17, L134_k28 hp, L134_k46, T23f hp hC, T168f]
  · simp (disch := omega) only [n32_id, zg_pos, if_pos, if_neg, zu_same, zu_ne, if_true, if_false, ne_eq, not_true_eq_false, not_false_eq_true, true_or, or_true, true_and, and_true, zg_true, fa_b_f, fa_b_t, L134_0 hp, L134_k6 hp, L134_k17, L134_k28 hp, L134_k46, T23t hp hC, T22f hp hC, T168f]
theorem Q135 (hG : zG V E p) {m s l : Int} (h1 : 0 ≤ m) (h2 : m < ((V (4)).val : Int)) (h3 : 0 ≤ s) (h4 : s < ((V (3)).val : Int)) (hl : -2147483648 ≤ l ∧ l < 2147483648) : ∃ F, zf_ev X (d + 5) 135 (0, [vR 0, vI m, vI s, vI l], [], zH t p q E) = some (some [vL (sp_low (sp_fold V m s).2 200 l)], zH t p q F) ∧ F 0 10 = 0 ∧ zFC E F := by
  obtain ⟨hV, -, -⟩ := hG.yes (by omega)
  obtain ⟨hp, hC, hR, -⟩ := hG
  have hk := hV.spks
  have hC2 : zC V (zu E 0 10 0) p := hC.fco hp zFC.u
  have hr := sp_fold_r (s := s) hV h1 h2
  obtain ⟨F, f1, f2, f3⟩ := T55 (X := X) (d := d) (t := t) (p := p) (q := q) hp hC2 hV h1 h2 (s := s) (by omega)
  have e := f2.1
  refine ⟨F, ?_, by rw [f3 _ _ (by omega)]; exact zu_same, fun a b g1 g2 g3 g4 => by rw [f3 a b (by omega), zu_ne g4]⟩
  simp (disch := omega) only [n32_id, zg_pos, if_pos, if_neg, zu_same, zu_ne, if_true, if_false, ne_eq, not_true_eq_false, not_false_eq_true, true_or, or_true, true_and, and_true, zg_true, fa_b_f, fa_b_t, L135_0 hp, L135_k6 hp, L135_k17, L135_k28 hp, L135_k48, L135_k63, T23t hp hC, T22t hp hC, T168t, f1, e, T49]
theorem Q135n (hG : zG V E p) {m s l : Int} (h0 : -2147483648 ≤ m ∧ m < 2147483648) (h1 : -2147483648 ≤ s ∧ s < 2147483648) (h : (m < 0 ∨ ((V (4)).val : Int) ≤ m) ∨ s < 0 ∨ ((V (3)).val : Int) ≤ s) : ∃ F, zf_ev X (d + 5) 135 (0, [vR 0, vI m, vI s, vI l], [], zH t p q E) = some (some [vL (-1)], zH t p q F) ∧ F 0 10 = 1 ∧ zFC E F := by
  obtain ⟨hp, hC, hR, -⟩ := hG
  refine ⟨zu E 0 10 1, ?_, zu_same, zFC.u⟩
  by_cases g : m < 0 ∨ ((V (4)).val : Int) ≤ m
  · simp (disch := omega) only [n32_id, zg_pos, if_pos, if_neg, zu_same, zu_ne, if_true, if_false, ne_eq, not_true_eq_false, not_false_eq_true, true_or, or_true, true_and, and_true, zg_true, fa_b_f, fa_b_t, L135_0 hp, L135_k6 hp, L135_k17, L135_k28 hp, L135_k48, L135_k63, T23f hp hC, T168f]
  · simp (disch := omega) only [n32_id, zg_pos, if_pos, if_neg, zu_same, zu_ne, if_true, if_false, ne_eq, not_true_eq_false, not_false_eq_true, true_or, or_true, true_and, and_true, zg_true, fa_b_f, fa_b_t, L135_0 hp, L135_k6 hp, L135_k17, L135_k28 hp, L135_k48, L135_k63, T23t hp hC, T22f hp hC, T168f]
theorem T261_in (hV : zV V) {m s fold : Int} (h1 : 0 ≤ m) (h2 : m < ((V (4)).val : Int)) (hs : 0 ≤ s ∧ s < 4) (hf : 0 ≤ fold ∧ fold ≤ 3) : ∀ (k : Nat) (i : Int) (a : Int × Int) (E : Nat → Int → Int) (j6 : ZV), zR V E → E 60 28 = a.2 → 1 ≤ i → i + k = ((V (1)).val : Int) + 1 → -1 ≤ a.2 → a.2 ≤ 200 →
    ∃ F j5' j6', zf_ev X (d + 4) 261 (19, [vR 60, vI m, vI s, vI a.1, vI fold, vI i, j6], [], zH t p q E) = zf_ev X (d + 4) 261 (10, [vR 60, vI m, vI s, vI (sp_in (fun far => sp_chance V m s fold ((V (200 + (19 + 3 * m + 1))).val : Int) far) (fun far => 10 * fold + far) k i a).1, vI (fold + 1), j5', j6'], [], zH t p q F) ∧ F 60 28 = (sp_in (fun far => sp_chance V m s fold ((V (200 + (19 + 3 * m + 1))).val : Int) far) (fun far => 10 * fold + far) k i a).2 ∧ (∀ a9 b9, a9 ≠ 68 → a9 ≠ 69 → (a9 ≠ 60 ∨ b9 ≠ 28) → F a9 b9 = E a9 b9) := by
  have hm := hV.mems
  have hr := hV.rows
  have hq := hV.mem m h1 h2
  intro k
  induction k with
  | zero =>
    intro i a E j6 hR hB g1 g2 g3 g4
    refine ⟨E, vI i, j6, ?_, hB, fun a b _ _ _ => rfl⟩
    rw [L261_19]
    simp (disch := omega) only [n32_id, zg_pos, if_pos, if_neg, zu_same, zu_ne, if_true, if_false, ne_eq, not_true_eq_false, not_false_eq_true, true_or, or_true, true_and, and_true, zg_true, fa_b_f, fa_b_t, hR.r]
    rfl
  | succ k ih =>
    intro i a E j6 hR hB g1 g2 g3 g4
    have b := sp_chance_r (s := s) (fold := fold) (seat := ((V (200 + (19 + 3 * m + 1))).val : Int)) (far := i) hV h1 h2
    have e1 : zP V (zA V E) 60 28 = a.2 := by rw [zP_ne (by omega), zA_ne (by omega)]; exact hB
    have hR2 : zR V (zP V (zA V E)) := hR.A.P
    by_cases w : a.2 < sp_chance V m s fold ((V (200 + (19 + 3 * m + 1))).val : Int) i
    · obtain ⟨F, j5', j6', f1, f2, f3⟩ := ih (i + 1) (10 * fold + i, sp_chance V m s fold ((V (200 + (19 + 3 * m + 1))).val : Int) i) (zu (zP V (zA V E)) 60 28 (sp_chance V m s fold ((V (200 + (19 + 3 * m + 1))).val : Int) i)) (vI (sp_chance V m s fold ((V (200 + (19 + 3 * m + 1))).val : Int) i)) (hR2.fr (fun b => zu_ne (by omega)) (fun b => zu_ne (by omega))) zu_same (by omega) (by omega) (by omega) (by omega)
      refine ⟨F, j5', j6', ?_, ?_, fun a b g5 g6 g7 => by rw [f3 a b g5 g6 g7, zu_ne g7, zP_ne g6, zA_ne g5]⟩
      · rw [L261_19]
        simp (disch := omega) only [n32_id, zg_pos, if_pos, if_neg, zu_same, zu_ne, if_true, if_false, ne_eq, not_true_eq_false, not_false_eq_true, true_or, or_true, true_and, and_true, zg_true, fa_b_f, fa_b_t, hR.r, T223 hR]
        rw [L261_k37, T251 hR hV h1 h2 hs hf (by omega) (by omega), L261_k42]
        simp (disch := omega) only [n32_id, zg_pos, if_pos, if_neg, zu_same, zu_ne, if_true, if_false, ne_eq, not_true_eq_false, not_false_eq_true, true_or, or_true, true_and, and_true, zg_true, fa_b_f, fa_b_t, e1]
        unfold sp_in
        rw [if_pos w]
        exact f1
      · unfold sp_in
        rw [if_pos w]
        exact f2
    · obtain ⟨F, j5', j6', f1, f2, f3⟩ := ih (i + 1) a (zP V (zA V E)) (vI (sp_chance V m s fold ((V (200 + (19 + 3 * m + 1))).val : Int) i)) hR2 e1 (by omega) (by omega) g3 g4
      refine ⟨F, j5', j6', ?_, ?_, fun a b g5 g6 g7 => by rw [f3 a b g5 g6 g7, zP_ne g6, zA_ne g5]⟩
      · rw [L261_19]
        simp (disch := omega) only [n32_id, zg_pos, if_pos, if_neg, zu_same, zu_ne, if_true, if_false, ne_eq, not_true_eq_false, not_false_eq_true, true_or, or_true, true_and, and_true, zg_true, fa_b_f, fa_b_t, hR.r, T223 hR]
        rw [L261_k37, T251 hR hV h1 h2 hs hf (by omega) (by omega), L261_k42]
        simp (disch := omega) only [n32_id, zg_pos, if_pos, if_neg, zu_same, zu_ne, if_true, if_false, ne_eq, not_true_eq_false, not_false_eq_true, true_or, or_true, true_and, and_true, zg_true, fa_b_f, fa_b_t, e1]
        unfold sp_in
        rw [if_neg w]
        exact f1
      · unfold sp_in
        rw [if_neg w]
        exact f2
theorem T261_out (hV : zV V) {m s : Int} (h1 : 0 ≤ m) (h2 : m < ((V (4)).val : Int)) (hs : 0 ≤ s ∧ s < 4) : ∀ (k : Nat) (i : Int) (a : Int × Int) (E : Nat → Int → Int) (j5 j6 : ZV), zR V E → E 60 28 = a.2 → 0 ≤ i → i + k = 4 → -1 ≤ a.2 → a.2 ≤ 200 →
    ∃ F, zf_ev X (d + 4) 261 (10, [vR 60, vI m, vI s, vI a.1, vI i, j5, j6], [], zH t p q E) = some (some [vI ((sp_out (fun fold far => sp_chance V m s fold ((V (200 + (19 + 3 * m + 1))).val : Int) far) (fun fold far => 10 * fold + far) (((V (1)).val : Int)).toNat 1 k i a).1)], zH t p q F) ∧ F 60 28 = (sp_out (fun fold far => sp_chance V m s fold ((V (200 + (19 + 3 * m + 1))).val : Int) far) (fun fold far => 10 * fold + far) (((V (1)).val : Int)).toNat 1 k i a).2 ∧ (∀ a9 b9, a9 ≠ 68 → a9 ≠ 69 → (a9 ≠ 60 ∨ b9 ≠ 28) → F a9 b9 = E a9 b9) := by
  have hr := hV.rows
  intro k
  induction k with
  | zero =>
    intro i a E j5 j6 hR hB g1 g2 g3 g4
    refine ⟨E, ?_, hB, fun a b _ _ _ => rfl⟩
    rw [L261_10]
    simp (disch := omega) only [n32_id, zg_pos, if_pos, if_neg, zu_same, zu_ne, if_true, if_false, ne_eq, not_true_eq_false, not_false_eq_true, true_or, or_true, true_and, and_true, zg_true, fa_b_f, fa_b_t]
    rfl
  | succ k ih =>
    intro i a E j5 j6 hR hB g1 g2 g3 g4
    obtain ⟨F, j5', j6', f1, f2, f3⟩ := T261_in (X := X) (d := d) (t := t) (p := p) (q := q) hV h1 h2 hs (fold := i) (by omega) (((V (1)).val : Int)).toNat 1 a E j6 hR hB (by omega) (by omega) g3 g4
    have b := sp_in_r (w := fun far => sp_chance V m s i ((V (200 + (19 + 3 * m + 1))).val : Int) far) (l := fun far => 10 * i + far) (lo := -1) (hi := 200) (((V (1)).val : Int)).toNat 1 a (fun j _ _ => by have := sp_chance_r (s := s) (fold := i) (seat := ((V (200 + (19 + 3 * m + 1))).val : Int)) (far := j) hV h1 h2; omega) g3 g4
    obtain ⟨H, e1, e2, e3⟩ := ih (i + 1) _ F j5' j6' (hR.fr (fun b => f3 _ _ (by omega) (by omega) (by omega)) (fun b => f3 _ _ (by omega) (by omega) (by omega))) f2 (by omega) (by omega) b.1 b.2
    refine ⟨H, ?_, e2, fun a b g5 g6 g7 => by rw [e3 a b g5 g6 g7, f3 a b g5 g6 g7]⟩
    rw [L261_10]
    simp (disch := omega) only [n32_id, zg_pos, if_pos, if_neg, zu_same, zu_ne, if_true, if_false, ne_eq, not_true_eq_false, not_false_eq_true, true_or, or_true, true_and, and_true, zg_true, fa_b_f, fa_b_t, f1]
    exact e1
theorem T261 (hR : zR V E) (hV : zV V) {m s : Int} (h1 : 0 ≤ m) (h2 : m < ((V (4)).val : Int)) (hs : 0 ≤ s ∧ s < 4) : ∃ F, zf_ev X (d + 4) 261 (0, [vR 60, vI m, vI s, vJ, vJ, vJ, vJ], [], zH t p q E) = some (some [vI ((sp_fold V m s).1)], zH t p q F) ∧ F 60 28 = (sp_fold V m s).2 ∧ (∀ a9 b9, a9 ≠ 68 → a9 ≠ 69 → (a9 ≠ 60 ∨ b9 ≠ 28) → F a9 b9 = E a9 b9) := by
  obtain ⟨F, f1, f2, f3⟩ := T261_out (X := X) (d := d) (t := t) (p := p) (q := q) hV h1 h2 hs 4 0 (0, -1) (zu E 60 28 (-1)) vJ vJ (hR.fr (fun b => zu_ne (by omega)) (fun b => zu_ne (by omega))) zu_same (by omega) (by omega) (by decide) (by decide)
  refine ⟨F, ?_, f2, fun a b g5 g6 g7 => by rw [f3 a b g5 g6 g7, zu_ne g7]⟩
  rw [L261_0]
  exact f1
theorem Q262 (hG : zG V E p) {m s : Int} (h1 : 0 ≤ m) (h2 : m < ((V (4)).val : Int)) (h3 : 0 ≤ s) (h4 : s < ((V (3)).val : Int)) : ∃ F, zf_ev X (d + 5) 262 (0, [vR 60, vI m, vI s], [], zH t p q E) = some (some [vI ((sp_fold V m s).1)], zH t p q F) ∧ F 60 11 = 0 ∧ F 60 0 = 0 ∧ zFM E F := by
  obtain ⟨hV, -, h142⟩ := hG.yes (by omega)
  have hk := hV.spks
  have hR2 := hG.R2
  obtain ⟨F, f1, f2, f3⟩ := T261 (X := X) (d := d) (t := t) (p := p) (q := q) hR2 hV h1 h2 (s := s) (by omega)
  have hf : zFM (zg0 E) F := fun a b g1 g2 => f3 a b (by omega) (by omega) (by omega)
  refine ⟨F, ?_, by rw [f3 _ _ (by omega) (by omega) (by omega)]; rfl, by rw [f3 _ _ (by omega) (by omega) (by omega)]; rfl, zFM.g0.tr hf⟩
  simp (disch := omega) only [n32_id, zg_pos, if_pos, if_neg, zu_same, zu_ne, if_true, if_false, ne_eq, not_true_eq_false, not_false_eq_true, true_or, or_true, true_and, and_true, zg_true, fa_b_f, fa_b_t, L262_0, L262_k1, L262_k6, L262_k14, L262_k23, L262_k31, T177, T215t hR2 h142, T214t hR2 h142, f1]
theorem Q262n (hG : zG V E p) {m s : Int} (h0 : -2147483648 ≤ m ∧ m < 2147483648) (h1 : -2147483648 ≤ s ∧ s < 2147483648) (h : (m < 0 ∨ ((V (4)).val : Int) ≤ m) ∨ s < 0 ∨ ((V (3)).val : Int) ≤ s) : ∃ F, zf_ev X (d + 5) 262 (0, [vR 60, vI m, vI s], [], zH t p q E) = some (some [vI (-1)], zH t p q F) ∧ F 60 11 = 1 ∧ F 60 0 = 0 ∧ zFM E F := by
  have hR2 := hG.R2
  refine RQ_no (F := E) ?_
  by_cases g : m < 0 ∨ ((V (4)).val : Int) ≤ m
  · simp (disch := omega) only [n32_id, zg_pos, if_pos, if_neg, zu_same, zu_ne, if_true, if_false, ne_eq, not_true_eq_false, not_false_eq_true, true_or, or_true, true_and, and_true, zg_true, fa_b_f, fa_b_t, L262_0, L262_k1, L262_k6, L262_k14, L262_k23, L262_k31, T177, T215f hR2 hG.h14, L178_0]
  · obtain ⟨-, -, h142⟩ := hG.yes (by omega)
    simp (disch := omega) only [n32_id, zg_pos, if_pos, if_neg, zu_same, zu_ne, if_true, if_false, ne_eq, not_true_eq_false, not_false_eq_true, true_or, or_true, true_and, and_true, zg_true, fa_b_f, fa_b_t, L262_0, L262_k1, L262_k6, L262_k14, L262_k23, L262_k31, T177, T215t hR2 h142, T214f hR2 hG.h14, L178_0]
theorem Q263 (hG : zG V E p) {m s l : Int} (h1 : 0 ≤ m) (h2 : m < ((V (4)).val : Int)) (h3 : 0 ≤ s) (h4 : s < ((V (3)).val : Int)) (hl : -2147483648 ≤ l ∧ l < 2147483648) : ∃ F, zf_ev X (d + 5) 263 (0, [vR 60, vI m, vI s, vI l], [], zH t p q E) = some (some [vL (sp_low (sp_fold V m s).2 200 l)], zH t p q F) ∧ F 60 11 = 0 ∧ F 60 0 = 0 ∧ zFM E F := by
  obtain ⟨hV, -, h142⟩ := hG.yes (by omega)
  have hk := hV.spks
  have hR2 := hG.R2
  have hr := sp_fold_r (s := s) hV h1 h2
  obtain ⟨F, f1, f2, f3⟩ := T261 (X := X) (d := d) (t := t) (p := p) (q := q) hR2 hV h1 h2 (s := s) (by omega)
  have hf : zFM (zg0 E) F := fun a b g1 g2 => f3 a b (by omega) (by omega) (by omega)
  refine ⟨F, ?_, by rw [f3 _ _ (by omega) (by omega) (by omega)]; rfl, by rw [f3 _ _ (by omega) (by omega) (by omega)]; rfl, zFM.g0.tr hf⟩
  simp (disch := omega) only [n32_id, zg_pos, if_pos, if_neg, zu_same, zu_ne, if_true, if_false, ne_eq, not_true_eq_false, not_false_eq_true, true_or, or_true, true_and, and_true, zg_true, fa_b_f, fa_b_t, L263_0, L263_k1, L263_k6, L263_k14, L263_k22, L263_k30, L263_k43, T177, T215t hR2 h142, T214t hR2 h142, f1, f2, T184]
theorem Q263n (hG : zG V E p) {m s l : Int} (h0 : -2147483648 ≤ m ∧ m < 2147483648) (h1 : -2147483648 ≤ s ∧ s < 2147483648) (h : (m < 0 ∨ ((V (4)).val : Int) ≤ m) ∨ s < 0 ∨ ((V (3)).val : Int) ≤ s) : ∃ F, zf_ev X (d + 5) 263 (0, [vR 60, vI m, vI s, vI l], [], zH t p q E) = some (some [vL (-1)], zH t p q F) ∧ F 60 11 = 1 ∧ F 60 0 = 0 ∧ zFM E F := by
  have hR2 := hG.R2
  refine RQ_noL (F := E) ?_
  by_cases g : m < 0 ∨ ((V (4)).val : Int) ≤ m
  · simp (disch := omega) only [n32_id, zg_pos, if_pos, if_neg, zu_same, zu_ne, if_true, if_false, ne_eq, not_true_eq_false, not_false_eq_true, true_or, or_true, true_and, and_true, zg_true, fa_b_f, fa_b_t, L263_0, L263_k1, L263_k6, L263_k14, L263_k22, L263_k30, L263_k43, T177, T215f hR2 hG.h14, L178_0]
  · obtain ⟨-, -, h142⟩ := hG.yes (by omega)
    simp (disch := omega) only [n32_id, zg_pos, if_pos, if_neg, zu_same, zu_ne, if_true, if_false, ne_eq, not_true_eq_false, not_false_eq_true, true_or, or_true, true_and, and_true, zg_true, fa_b_f, fa_b_t, L263_0, L263_k1, L263_k6, L263_k14, L263_k22, L263_k30, L263_k43, T177, T215t hR2 h142, T214f hR2 hG.h14, L178_0]
/-- the best seat -/
def sp_seat (V : Int → Fin 65537) (m s : Int) : Int × Int := sp_in (fun c => sp_chance V m s ((V (200 + (19 + 3 * m))).val : Int) c ((V (200 + (19 + 3 * m + 2))).val : Int)) (fun c => c) (((V (0)).val : Int)).toNat 0 (0, -1)
theorem T56_loop (ho : zo o) (hC : zC V E o) (hV : zV V) {m s : Int} (h1 : 0 ≤ m) (h2 : m < ((V (4)).val : Int)) (hs : 0 ≤ s ∧ s < 4) : ∀ (k : Nat) (i : Int) (a : Int × Int) (j0 j9 : ZV), 0 ≤ i → i + k = ((V (0)).val : Int) → -1 ≤ a.2 → a.2 ≤ 200 →
    zf_ev X (d + 4) 56 (31, [j0, vR o, vI m, vI s, vI a.1, vI a.2, vI ((V (200 + (19 + 3 * m))).val : Int), vI ((V (200 + (19 + 3 * m + 2))).val : Int), vI i, j9], [], zH t p q E) = some (some [vI ((sp_in (fun c => sp_chance V m s ((V (200 + (19 + 3 * m))).val : Int) c ((V (200 + (19 + 3 * m + 2))).val : Int)) (fun c => c) k i a).1)], zH t p q E) := by
  have hc := hV.cols
  have hq := hV.mem m h1 h2
  intro k
  induction k with
  | zero =>
    intro i a j0 j9 g1 g2 g3 g4
    rw [L56_31 ho]
    simp (disch := omega) only [n32_id, zg_pos, if_pos, if_neg, zu_same, zu_ne, if_true, if_false, ne_eq, not_true_eq_false, not_false_eq_true, true_or, or_true, true_and, and_true, zg_true, fa_b_f, fa_b_t, hC.cols]
    rfl
  | succ k ih =>
    intro i a j0 j9 g1 g2 g3 g4
    have b := sp_chance_r (s := s) (fold := ((V (200 + (19 + 3 * m))).val : Int)) (seat := i) (far := ((V (200 + (19 + 3 * m + 2))).val : Int)) hV h1 h2
    rw [L56_31 ho]
    simp (disch := omega) only [n32_id, zg_pos, if_pos, if_neg, zu_same, zu_ne, if_true, if_false, ne_eq, not_true_eq_false, not_false_eq_true, true_or, or_true, true_and, and_true, zg_true, fa_b_f, fa_b_t, hC.cols, T45 ho hC hV h1 h2 hs]
    rw [L56_k49 ho]
    unfold sp_in
    by_cases w : a.2 < sp_chance V m s ((V (200 + (19 + 3 * m))).val : Int) i ((V (200 + (19 + 3 * m + 2))).val : Int)
    · simp (disch := omega) only [n32_id, zg_pos, if_pos, if_neg, zu_same, zu_ne, if_true, if_false, ne_eq, not_true_eq_false, not_false_eq_true, true_or, or_true, true_and, and_true, zg_true, fa_b_f, fa_b_t]
      exact ih (i + 1) (i, sp_chance V m s ((V (200 + (19 + 3 * m))).val : Int) i ((V (200 + (19 + 3 * m + 2))).val : Int)) _ _ (by omega) (by omega) (by omega) (by omega)
    · simp (disch := omega) only [n32_id, zg_pos, if_pos, if_neg, zu_same, zu_ne, if_true, if_false, ne_eq, not_true_eq_false, not_false_eq_true, true_or, or_true, true_and, and_true, zg_true, fa_b_f, fa_b_t]
      exact ih (i + 1) a _ _ (by omega) (by omega) g3 g4
theorem Q136 (hG : zG V E p) {m s : Int} (h1 : 0 ≤ m) (h2 : m < ((V (4)).val : Int)) (h3 : 0 ≤ s) (h4 : s < ((V (3)).val : Int)) : ∃ F, zf_ev X (d + 5) 136 (0, [vR 0, vI m, vI s], [], zH t p q E) = some (some [vI ((sp_seat V m s).1)], zH t p q F) ∧ F 0 10 = 0 ∧ zFC E F := by
  obtain ⟨hV, -, -⟩ := hG.yes (by omega)
  obtain ⟨hp, hC, hR, -⟩ := hG
  have ho := hp
  have hk := hV.spks
  have hm := hV.mems
  have hc := hV.cols
  have hC2 : zC V (zu E 0 10 0) p := hC.fco hp zFC.u
  refine ⟨zu E 0 10 0, ?_, zu_same, zFC.u⟩
  simp (disch := omega) only [n32_id, zg_pos, if_pos, if_neg, zu_same, zu_ne, if_true, if_false, ne_eq, not_true_eq_false, not_false_eq_true, true_or, or_true, true_and, and_true, zg_true, fa_b_f, fa_b_t, L136_0 hp, L136_k6 hp, L136_k17, L136_k28 hp, L136_k46, T23t hp hC, T22t hp hC, T168t, L56_0 hp, hC.fold, hC.far]
  rw [T56_loop hp hC2 hV h1 h2 (by omega) (((V (0)).val : Int)).toNat 0 (0, -1) _ _ (by omega) (by omega) (by decide) (by decide), L136_k46]
  rfl
theorem Q136n (hG : zG V E p) {m s : Int} (h0 : -2147483648 ≤ m ∧ m < 2147483648) (h1 : -2147483648 ≤ s ∧ s < 2147483648) (h : (m < 0 ∨ ((V (4)).val : Int) ≤ m) ∨ s < 0 ∨ ((V (3)).val : Int) ≤ s) : ∃ F, zf_ev X (d + 5) 136 (0, [vR 0, vI m, vI s], [], zH t p q E) = some (some [vI (-1)], zH t p q F) ∧ F 0 10 = 1 ∧ zFC E F := by
  obtain ⟨hp, hC, hR, -⟩ := hG
  refine ⟨zu E 0 10 1, ?_, zu_same, zFC.u⟩
  by_cases g : m < 0 ∨ ((V (4)).val : Int) ≤ m
  · simp (disch := omega) only [n32_id, zg_pos, if_pos, if_neg, zu_same, zu_ne, if_true, if_false, ne_eq, not_true_eq_false, not_false_eq_true, true_or, or_true, true_and, and_true, zg_true, fa_b_f, fa_b_t, L136_0 hp, L136_k6 hp, L136_k17, L136_k28 hp, L136_k46, T23f hp hC, T168f]
  · simp (disch := omega) only [n32_id, zg_pos, if_pos, if_neg, zu_same, zu_ne, if_true, if_false, ne_eq, not_true_eq_false, not_false_eq_true, true_or, or_true, true_and, and_true, zg_true, fa_b_f, fa_b_t, L136_0 hp, L136_k6 hp, L136_k17, L136_k28 hp, L136_k46, T23t hp hC, T22f hp hC, T168f]
theorem T264_loop (hV : zV V) {m s : Int} (h1 : 0 ≤ m) (h2 : m < ((V (4)).val : Int)) (hs : 0 ≤ s ∧ s < 4) : ∀ (k : Nat) (i : Int) (a : Int × Int) (E : Nat → Int → Int) (j6 : ZV), zR V E → 0 ≤ i → i + k = ((V (0)).val : Int) → -1 ≤ a.2 → a.2 ≤ 200 →
    ∃ F, zf_ev X (d + 4) 264 (34, [vR 60, vI m, vI s, vI a.1, vI a.2, vI i, j6], [], zH t p q E) = some (some [vI ((sp_in (fun c => sp_chance V m s ((V (200 + (19 + 3 * m))).val : Int) c ((V (200 + (19 + 3 * m + 2))).val : Int)) (fun c => c) k i a).1)], zH t p q F) ∧ (∀ a9 b9, a9 ≠ 68 → a9 ≠ 69 → F a9 b9 = E a9 b9) := by
  have hc := hV.cols
  have hm := hV.mems
  have hq := hV.mem m h1 h2
  intro k
  induction k with
  | zero =>
    intro i a E j6 hR g1 g2 g3 g4
    refine ⟨E, ?_, fun a b _ _ => rfl⟩
    rw [L264_34]
    simp (disch := omega) only [n32_id, zg_pos, if_pos, if_neg, zu_same, zu_ne, if_true, if_false, ne_eq, not_true_eq_false, not_false_eq_true, true_or, or_true, true_and, and_true, zg_true, fa_b_f, fa_b_t, hR.r]
    rfl
  | succ k ih =>
    intro i a E j6 hR g1 g2 g3 g4
    have b := sp_chance_r (s := s) (fold := ((V (200 + (19 + 3 * m))).val : Int)) (seat := i) (far := ((V (200 + (19 + 3 * m + 2))).val : Int)) hV h1 h2
    unfold sp_in
    by_cases w : a.2 < sp_chance V m s ((V (200 + (19 + 3 * m))).val : Int) i ((V (200 + (19 + 3 * m + 2))).val : Int)
    · obtain ⟨F, f1, f2⟩ := ih (i + 1) (i, sp_chance V m s ((V (200 + (19 + 3 * m))).val : Int) i ((V (200 + (19 + 3 * m + 2))).val : Int)) (zP V (zA V E)) (vI (sp_chance V m s ((V (200 + (19 + 3 * m))).val : Int) i ((V (200 + (19 + 3 * m + 2))).val : Int))) hR.A.P (by omega) (by omega) (by omega) (by omega)
      refine ⟨F, ?_, fun a b g5 g6 => by rw [f2 a b g5 g6, zP_ne g6, zA_ne g5]⟩
      rw [L264_34]
      simp (disch := omega) only [n32_id, zg_pos, if_pos, if_neg, zu_same, zu_ne, if_true, if_false, ne_eq, not_true_eq_false, not_false_eq_true, true_or, or_true, true_and, and_true, zg_true, fa_b_f, fa_b_t, hR.r, T222 hR]
      rw [L264_k50, T224 hR h1 (by omega), L264_k57, T251 hR hV h1 h2 hs (by omega) (by omega) (by omega), L264_k60]
      simp (disch := omega) only [n32_id, zg_pos, if_pos, if_neg, zu_same, zu_ne, if_true, if_false, ne_eq, not_true_eq_false, not_false_eq_true, true_or, or_true, true_and, and_true, zg_true, fa_b_f, fa_b_t]
      exact f1
    · obtain ⟨F, f1, f2⟩ := ih (i + 1) a (zP V (zA V E)) (vI (sp_chance V m s ((V (200 + (19 + 3 * m))).val : Int) i ((V (200 + (19 + 3 * m + 2))).val : Int))) hR.A.P (by omega) (by omega) g3 g4
      refine ⟨F, ?_, fun a b g5 g6 => by rw [f2 a b g5 g6, zP_ne g6, zA_ne g5]⟩
      rw [L264_34]
      simp (disch := omega) only [n32_id, zg_pos, if_pos, if_neg, zu_same, zu_ne, if_true, if_false, ne_eq, not_true_eq_false, not_false_eq_true, true_or, or_true, true_and, and_true, zg_true, fa_b_f, fa_b_t, hR.r, T222 hR]
      rw [L264_k50, T224 hR h1 (by omega), L264_k57, T251 hR hV h1 h2 hs (by omega) (by omega) (by omega), L264_k60]
      simp (disch := omega) only [n32_id, zg_pos, if_pos, if_neg, zu_same, zu_ne, if_true, if_false, ne_eq, not_true_eq_false, not_false_eq_true, true_or, or_true, true_and, and_true, zg_true, fa_b_f, fa_b_t]
      exact f1
theorem Q264 (hG : zG V E p) {m s : Int} (h1 : 0 ≤ m) (h2 : m < ((V (4)).val : Int)) (h3 : 0 ≤ s) (h4 : s < ((V (3)).val : Int)) : ∃ F, zf_ev X (d + 4) 264 (0, [vR 60, vI m, vI s, vJ, vJ, vJ, vJ], [], zH t p q E) = some (some [vI ((sp_seat V m s).1)], zH t p q F) ∧ F 60 11 = 0 ∧ F 60 0 = 0 ∧ zFM E F := by
  obtain ⟨hV, -, h142⟩ := hG.yes (by omega)
  have hk := hV.spks
  have hc := hV.cols
  have hR2 := hG.R2
  obtain ⟨F, f1, f2⟩ := T264_loop (X := X) (d := d) (t := t) (p := p) (q := q) hV h1 h2 (s := s) (by omega) (((V (0)).val : Int)).toNat 0 (0, -1) (zg0 E) vJ hR2 (by omega) (by omega) (by decide) (by decide)
  have hf : zFM (zg0 E) F := fun a b g1 g2 => f2 a b (by omega) (by omega)
  refine ⟨F, ?_, by rw [f2 _ _ (by omega) (by omega)]; rfl, by rw [f2 _ _ (by omega) (by omega)]; rfl, zFM.g0.tr hf⟩
  simp (disch := omega) only [n32_id, zg_pos, if_pos, if_neg, zu_same, zu_ne, if_true, if_false, ne_eq, not_true_eq_false, not_false_eq_true, true_or, or_true, true_and, and_true, zg_true, fa_b_f, fa_b_t, L264_0, L264_k1, L264_k6, L264_k14, L264_k22, L264_k50, L264_k57, L264_k60, T177, T215t hR2 h142, T214t hR2 h142, f1]
  rfl
theorem Q264n (hG : zG V E p) {m s : Int} (h0 : -2147483648 ≤ m ∧ m < 2147483648) (h1 : -2147483648 ≤ s ∧ s < 2147483648) (h : (m < 0 ∨ ((V (4)).val : Int) ≤ m) ∨ s < 0 ∨ ((V (3)).val : Int) ≤ s) : ∃ F, zf_ev X (d + 4) 264 (0, [vR 60, vI m, vI s, vJ, vJ, vJ, vJ], [], zH t p q E) = some (some [vI (-1)], zH t p q F) ∧ F 60 11 = 1 ∧ F 60 0 = 0 ∧ zFM E F := by
  have hR2 := hG.R2
  refine RQ_no (F := E) ?_
  by_cases g : m < 0 ∨ ((V (4)).val : Int) ≤ m
  · simp (disch := omega) only [n32_id, zg_pos, if_pos, if_neg, zu_same, zu_ne, if_true, if_false, ne_eq, not_true_eq_false, not_false_eq_true, true_or, or_true, true_and, and_true, zg_true, fa_b_f, fa_b_t, L264_0, L264_k1, L264_k6, L264_k14, L264_k22, L264_k50, L264_k57, L264_k60, T177, T215f hR2 hG.h14, L178_0]
  · obtain ⟨-, -, h142⟩ := hG.yes (by omega)
    simp (disch := omega) only [n32_id, zg_pos, if_pos, if_neg, zu_same, zu_ne, if_true, if_false, ne_eq, not_true_eq_false, not_false_eq_true, true_or, or_true, true_and, and_true, zg_true, fa_b_f, fa_b_t, L264_0, L264_k1, L264_k6, L264_k14, L264_k22, L264_k50, L264_k57, L264_k60, T177, T215t hR2 h142, T214f hR2 hG.h14, L178_0]
end O2

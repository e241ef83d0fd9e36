/-! the class's throw -/
def sp_only (s : Int) : Nat → Int → Int
  | 0, _ => -2
  | k + 1, j => if s = zm_ishl 1 j then j else sp_only s k (j + 1)
def sp_ct (f : Int → Int) (n c : Int) : Int := sp_psum (fun i => if f i = c then 1 else 0) n.toNat 0
theorem sp_ct_r {f : Int → Int} {n c : Int} (h : 0 ≤ n) : 0 ≤ sp_ct f n c ∧ sp_ct f n c ≤ n := by
  have := sp_psum_b (f := fun i => if f i = c then 1 else 0) n.toNat 0 (fun j _ _ => by split <;> omega)
  unfold sp_ct
  omega
theorem sp_ct_s {f : Int → Int} {n c : Int} (h : 0 ≤ n) : sp_ct f (n + 1) c = sp_ct f n c + (if f n = c then 1 else 0) := by
  unfold sp_ct
  rw [show (n + 1).toNat = n.toNat + 1 by omega, sp_psum_snoc, show (0 : Int) + ((n.toNat : Nat) : Int) = n by omega]
theorem sp_mx_s {f : Int → Int} {n : Int} (h : 0 ≤ n) (hf : 0 ≤ f n ∧ f n < 12) : (if sp_mx (sp_ct f n) 12 0 0 < sp_ct f n (f n) + 1 then sp_ct f n (f n) + 1 else sp_mx (sp_ct f n) 12 0 0) = sp_mx (sp_ct f (n + 1)) 12 0 0 := by
  obtain ⟨g1, g2, g3⟩ := sp_mx_ok (w := sp_ct f n) 12 0 0
  have hc := fun c => sp_ct_s (f := f) (c := c) h
  have h0 := hc (f n)
  rw [if_pos rfl] at h0
  have hr := sp_ct_r (f := f) (c := f n) h
  by_cases w : sp_mx (sp_ct f n) 12 0 0 < sp_ct f n (f n) + 1
  · rw [if_pos w]
    refine sp_mx_u (by omega) (fun j a b => ?_) (Or.inr ⟨f n, hf.1, by omega, h0.symm⟩)
    have := g2 j a b
    rw [hc j]
    by_cases e : f n = j
    · rw [if_pos e, ← e]; omega
    · rw [if_neg e]; omega
  · rw [if_neg w]
    refine sp_mx_u g1 (fun j a b => ?_) ?_
    · have := g2 j a b
      rw [hc j]
      by_cases e : f n = j
      · rw [if_pos e, ← e]; omega
      · rw [if_neg e]; omega
    · rcases g3 with g3 | ⟨j, a, b, c⟩
      · exact Or.inl g3
      · refine Or.inr ⟨j, a, b, ?_⟩
        rw [hc j]
        by_cases e : f n = j
        · rw [← e] at c; omega
        · rw [if_neg e]; omega
def sp_lc (V : Int → Fin 65537) (seat r c : Int) : Int := sp_psum (fun x => if sp_fit V (sp_aC V x) = true then (if sp_colL (sp_aC V x) ((V (0)).val : Int) 0 r.toNat 1 seat = c then 1 else 0) else 0) (sp_p5 V).toNat 0
def sp_lv (V : Int → Fin 65537) (seat r : Int) : Int := sp_mx (fun c => sp_lc V seat r c) 12 0 0
def sp_thr (V : Int → Fin 65537) : Int × Int := sp_out (fun seat r => - sp_lv V seat r) (fun seat r => 10 * seat + r) (((V (1)).val : Int)).toNat 1 (((V (0)).val : Int)).toNat 0 (-2, -126)
section F2
variable {X : Nat × (Nat → Int)} {d : Nat} {t : List (Nat × Nat)} {p q : Nat} {E : Nat → Int → Int} {V : Int → Fin 65537} {o : Nat}
theorem sp_lv_r (hK : sp_K V ≤ 3) {seat r : Int} : 0 ≤ sp_lv V seat r ∧ sp_lv V seat r ≤ 125 := by
  have hp := sp_p5_r hK
  have hb : ∀ c, 0 ≤ sp_lc V seat r c ∧ sp_lc V seat r c ≤ 125 := fun c => by
    have := sp_psum_b (f := fun x => if sp_fit V (sp_aC V x) = true then (if sp_colL (sp_aC V x) ((V (0)).val : Int) 0 r.toNat 1 seat = c then (1 : Int) else 0) else 0) (sp_p5 V).toNat 0 (fun j _ _ => by
      split
      · split <;> omega
      · omega)
    unfold sp_lc
    omega
  obtain ⟨g1, g2, g3⟩ := sp_mx_ok (w := fun c => sp_lc V seat r c) 12 0 0
  unfold sp_lv
  refine ⟨g1, ?_⟩
  rcases g3 with g3 | ⟨j, a, b, c⟩
  · omega
  · have := hb j
    omega
theorem T16_loop {r s : Int} (hr : 0 ≤ r ∧ r < 7) (h27 : E 27 r = s) (hs : 0 ≤ s ∧ s ≤ 31) : ∀ (k : Nat) (j : Int), 0 ≤ j → j + k = 5 → zf_ev X d 16 (2, [vR 21, vI r, vI j], [], zH t p q E) = some (some [vI (sp_only s k j)], zH t p q E) := by
  intro k
  induction k with
  | zero =>
    intro j h1 h2
    rw [L16_2]
    simp (disch := omega) only [n32_id, zg_pos, if_pos, if_neg, zu_same, zu_ne, if_true, if_false, ne_eq, not_true_eq_false, not_false_eq_true, true_or, or_true, true_and, and_true, zg_true, fa_b_f, fa_b_t]
    rfl
  | succ k ih =>
    intro j h1 h2
    have hb := zm_shl_r (M := j) h1 (by omega)
    rw [L16_2]
    unfold sp_only
    by_cases g : s = zm_ishl 1 j
    · simp (disch := omega) only [n32_id, zg_pos, if_pos, if_neg, zu_same, zu_ne, if_true, if_false, ne_eq, not_true_eq_false, not_false_eq_true, true_or, or_true, true_and, and_true, zg_true, fa_b_f, fa_b_t, h27]
    · simp (disch := omega) only [n32_id, zg_pos, if_pos, if_neg, zu_same, zu_ne, if_true, if_false, ne_eq, not_true_eq_false, not_false_eq_true, true_or, or_true, true_and, and_true, zg_true, fa_b_f, fa_b_t, h27]
      exact ih _ (by omega) (by omega)
theorem T18_a (ho : zo o) (hV : zV V) {r : Int} {j4 j5 : ZV} : ∀ (k : Nat) (i : Int) (E : Nat → Int → Int), zC V E o → 0 ≤ i → i + k = ((V (0)).val : Int) → zf_ev X (d + 1) 18 (2, [vR 21, vR o, vI r, vI i, j4, j5], [], zH t p q E) = zf_ev X (d + 1) 18 (28, [vR 21, vR o, vI r, vI 0, vI 0, j5], [], zH t p q (zfill E 26 i ((V (0)).val : Int) (fun _ => 0))) := by
  have hc := hV.cols
  have ho2 : o = 40 ∨ o = 50 := ho
  intro k
  induction k with
  | zero =>
    intro i E hC h1 h2
    rw [L18_2 ho, zfill_nil (by omega)]
    simp (disch := omega) only [n32_id, zg_pos, if_pos, if_neg, zu_same, zu_ne, if_true, if_false, ne_eq, not_true_eq_false, not_false_eq_true, true_or, or_true, true_and, and_true, zg_true, fa_b_f, fa_b_t, hC.cols]
  | succ k ih =>
    intro i E hC h1 h2
    rw [L18_2 ho]
    simp (disch := omega) only [n32_id, zg_pos, if_pos, if_neg, zu_same, zu_ne, if_true, if_false, ne_eq, not_true_eq_false, not_false_eq_true, true_or, or_true, true_and, and_true, zg_true, fa_b_f, fa_b_t, hC.cols]
    rw [ih _ (zu E 26 i 0) (hC.fr (fun a b _ _ => zu_ne (by omega))) (by omega) (by omega), zfill_stepc (by omega)]
theorem T18_b (ho : zo o) (hV : zV V) (hK : sp_K V ≤ 3) {r L : Int} {cs f : Int → Int} (hr : 1 ≤ r ∧ r ≤ ((V (1)).val : Int)) (hL : 0 ≤ L ∧ L ≤ 125) (hcs : ∀ j, 0 ≤ j → j < L → 0 ≤ cs j ∧ cs j < ((V (0)).val : Int)) : ∀ (k : Nat) (i : Int) (E : Nat → Int → Int) (j5 : ZV), zC V E o → zFg V E → E 21 7 = L → (∀ j, 0 ≤ j → j < L → (0 ≤ E 24 j ∧ E 24 j < 125) ∧ f j = sp_wall ((V (0)).val : Int) (cs j + sp_aC V (E 24 j) r)) → (∀ j, 0 ≤ j → j < i → E 25 j = f j) → (∀ j, i ≤ j → j < L → E 25 j = cs j) → (∀ c, 0 ≤ c → c < ((V (0)).val : Int) → E 26 c = sp_ct f i c) → 0 ≤ i → i + k = L →
    ∃ F, zf_ev X (d + 1) 18 (28, [vR 21, vR o, vI r, vI (sp_mx (sp_ct f i) 12 0 0), vI i, j5], [], zH t p q E) = some (some [vI (sp_mx (sp_ct f L) 12 0 0)], zH t p q F) ∧ (∀ j, 0 ≤ j → j < L → F 25 j = f j) ∧ (∀ a9 b9, a9 ≠ 25 → a9 ≠ 26 → F a9 b9 = E a9 b9) := by
  have hc := hV.cols
  have hrr := hV.rows
  have ho2 : o = 40 ∨ o = 50 := ho
  intro k
  induction k with
  | zero =>
    intro i E j5 hC hF h7 h24 h25 h25' h26 h1 h2
    have e : i = L := by omega
    refine ⟨E, ?_, fun j a b => h25 j a (by omega), fun a b _ _ => rfl⟩
    rw [L18_28 ho]
    simp (disch := omega) only [n32_id, zg_pos, if_pos, if_neg, zu_same, zu_ne, if_true, if_false, ne_eq, not_true_eq_false, not_false_eq_true, true_or, or_true, true_and, and_true, zg_true, fa_b_f, fa_b_t, h7]
    rw [e]
  | succ k ih =>
    intro i E j5 hC hF h7 h24 h25 h25' h26 h1 h2
    obtain ⟨hx, hf⟩ := h24 i h1 (by omega)
    have e25 := h25' i (by omega) (by omega)
    have hci := hcs i h1 (by omega)
    have ha := sp_aC_r hV hK (x := E 24 i) (r := r) hx (by omega)
    have hw := sp_wall_r (n := ((V (0)).val : Int)) (c := cs i + sp_aC V (E 24 i) r) (by omega)
    have hfi : 0 ≤ f i ∧ f i < ((V (0)).val : Int) := by rw [hf]; exact hw
    have e26 := h26 (f i) hfi.1 hfi.2
    have hct := sp_ct_r (f := f) (n := i) (c := f i) h1
    have hms := sp_mx_s (f := f) h1 (by omega)
    have hmb : 0 ≤ sp_mx (sp_ct f i) 12 0 0 ∧ sp_mx (sp_ct f i) 12 0 0 ≤ 125 := by
      obtain ⟨g1, g2, g3⟩ := sp_mx_ok (w := sp_ct f i) 12 0 0
      refine ⟨g1, ?_⟩
      rcases g3 with g3 | ⟨j, a, b, c⟩
      · omega
      · have := sp_ct_r (f := f) (n := i) (c := j) h1
        omega
    obtain ⟨F, f1, f2, f3⟩ := ih (i + 1) (zu (zu E 25 i (f i)) 26 (f i) (sp_ct f i (f i) + 1)) (vI (f i)) (hC.fr (fun a b _ _ => by rw [zu_ne (by omega), zu_ne (by omega)])) (fun r a b => by rw [zu_ne (by omega), zu_ne (by omega), zu_ne (by omega), zu_ne (by omega)]; exact hF r a b) (by rw [zu_ne (by omega), zu_ne (by omega)]; exact h7) (fun j a b => by rw [zu_ne (by omega), zu_ne (by omega)]; exact h24 j a b) (fun j a b => by
      rw [zu_ne (by omega)]
      by_cases g : j = i
      · rw [g, zu_same]
      · rw [zu_ne (Or.inr g)]
        exact h25 j a (by omega)) (fun j a b => by rw [zu_ne (by omega), zu_ne (by omega)]; exact h25' j (by omega) b) (fun c a b => by
      rw [sp_ct_s h1]
      by_cases g : f i = c
      · rw [if_pos g, ← g, zu_same]
      · rw [if_neg g, zu_ne (Or.inr (fun z => g z.symm)), zu_ne (by omega), h26 c a b]
        omega) (by omega) (by omega)
    refine ⟨F, ?_, f2, fun a b y1 y2 => by rw [f3 a b y1 y2, zu_ne (Or.inl y2), zu_ne (Or.inl y1)]⟩
    rw [L18_28 ho]
    simp (disch := omega) only [n32_id, zg_pos, if_pos, if_neg, zu_same, zu_ne, if_true, if_false, ne_eq, not_true_eq_false, not_false_eq_true, true_or, or_true, true_and, and_true, zg_true, fa_b_f, fa_b_t, h7, e25]
    rw [T13 hV hK hF hx hr.1 hr.2, L18_k54 ho, T31 ho hC hV (by omega) (by omega), ← hf, L18_k58 ho]
    simp (disch := omega) only [n32_id, zg_pos, zu_same, zu_ne, e26]
    rw [hms]
    exact f1
theorem T18 (ho : zo o) (hC : zC V E o) (hV : zV V) (hK : sp_K V ≤ 3) (hF : zFg V E) {r L : Int} {f : Int → Int} (hr : 1 ≤ r ∧ r ≤ ((V (1)).val : Int)) (hL : 0 ≤ L ∧ L ≤ 125) (h7 : E 21 7 = L) (h24 : ∀ j, 0 ≤ j → j < L → (0 ≤ E 24 j ∧ E 24 j < 125) ∧ (0 ≤ E 25 j ∧ E 25 j < ((V (0)).val : Int)) ∧ f j = sp_wall ((V (0)).val : Int) (E 25 j + sp_aC V (E 24 j) r)) : ∃ F, zf_ev X (d + 1) 18 (0, [vR 21, vR o, vI r, vJ, vJ, vJ], [], zH t p q E) = some (some [vI (sp_mx (sp_ct f L) 12 0 0)], zH t p q F) ∧ (∀ j, 0 ≤ j → j < L → F 25 j = f j) ∧ (∀ a9 b9, a9 ≠ 25 → a9 ≠ 26 → F a9 b9 = E a9 b9) := by
  have ho2 : o = 40 ∨ o = 50 := ho
  have hc := hV.cols
  have e0 : sp_mx (sp_ct f 0) 12 0 0 = 0 := by
    symm
    refine sp_mx_u (Int.le_refl _) (fun j a b => Int.le_refl _) (Or.inl rfl)
  obtain ⟨F, f1, f2, f3⟩ := T18_b (X := X) (d := d) (t := t) (p := p) (q := q) ho hV hK (cs := fun j => E 25 j) (f := f) hr hL (fun j a b => (h24 j a b).2.1) L.toNat 0 (zfill E 26 0 ((V (0)).val : Int) (fun _ => 0)) vJ (hC.fr (fun a b _ _ => zfill_ne (by omega))) (fun r a b => by rw [zfill_ne (by omega), zfill_ne (by omega)]; exact hF r a b) (by rw [zfill_ne (by omega)]; exact h7) (fun j a b => by rw [zfill_ne (by omega)]; exact ⟨(h24 j a b).1, (h24 j a b).2.2⟩) (fun j a b => by omega) (fun j a b => by rw [zfill_ne (by omega)]) (fun c a b => by rw [zfill_in a b]; rfl) (by omega) (by omega)
  rw [e0] at f1
  refine ⟨F, ?_, f2, fun a b y1 y2 => by rw [f3 a b y1 y2, zfill_ne y2]⟩
  rw [L18_0 ho, T18_a ho hV (((V (0)).val : Int)).toNat 0 E hC (by omega) (by omega)]
  exact f1
theorem T17_f (ho : zo o) {seat L : Int} {j4 : ZV} (hL : 0 ≤ L ∧ L ≤ 125) : ∀ (k : Nat) (i : Int) (E : Nat → Int → Int), E 21 7 = L → 0 ≤ i → i + k = L → zf_ev X (d + 3) 17 (23, [vR 21, vR o, vI seat, vI i, j4], [], zH t p q E) = zf_ev X (d + 3) 17 (46, [vR 21, vR o, vI seat, vI 1, j4], [], zH t p q (zfill E 25 i L (fun _ => seat))) := by
  intro k
  induction k with
  | zero =>
    intro i E h7 h1 h2
    rw [L17_23 ho, zfill_nil (by omega)]
    simp (disch := omega) only [n32_id, zg_pos, if_pos, if_neg, zu_same, zu_ne, if_true, if_false, ne_eq, not_true_eq_false, not_false_eq_true, true_or, or_true, true_and, and_true, zg_true, fa_b_f, fa_b_t, h7]
  | succ k ih =>
    intro i E h7 h1 h2
    rw [L17_23 ho]
    simp (disch := omega) only [n32_id, zg_pos, if_pos, if_neg, zu_same, zu_ne, if_true, if_false, ne_eq, not_true_eq_false, not_false_eq_true, true_or, or_true, true_and, and_true, zg_true, fa_b_f, fa_b_t, h7]
    rw [ih _ (zu E 25 i seat) (by rw [zu_ne (by omega)]; exact h7) (by omega) (by omega), zfill_stepc (by omega)]
/-- what stays while throws are tried -/
def zTh (V : Int → Fin 65537) (E : Nat → Int → Int) (a : Int × Int) : Prop := zFg V E ∧ zAs V E (sp_p5 V) ∧ E 21 10 = -a.2 ∧ (a.2 = -126 ∨ 10 * E 21 8 + E 21 9 = a.1)
theorem zAs.fr {F : Nat → Int → Int} {n : Int} (h : zAs V E n) (h1 : F 21 7 = E 21 7) (h2 : ∀ b, F 24 b = E 24 b) (h3 : ∀ b, F 27 b = E 27 b) : zAs V F n := by
  obtain ⟨a1, a2, a3, a4⟩ := h
  refine ⟨by rw [h1, a1], fun g => ?_, fun i x y => by rw [h2]; exact a3 i x y, fun r x y z => by rw [h3]; exact a4 r x y z⟩
  have e : (fun i => g (F 24 i)) = fun i => g (E 24 i) := by funext i; rw [h2]
  rw [e]
  exact a2 g
theorem zTh.fr {F : Nat → Int → Int} {a : Int × Int} (h : zTh V E a) (hf : ∀ x y, x ≠ 25 → x ≠ 26 → F x y = E x y) : zTh V F a := by
  obtain ⟨h1, h2, h3, h4⟩ := h
  refine ⟨fun r x y => by rw [hf _ _ (by omega) (by omega), hf _ _ (by omega) (by omega)]; exact h1 r x y, h2.fr (hf _ _ (by omega) (by omega)) (fun b => hf _ _ (by omega) (by omega)) (fun b => hf _ _ (by omega) (by omega)), by rw [hf _ _ (by omega) (by omega)]; exact h3, ?_⟩
  rw [hf _ _ (by omega) (by omega), hf _ _ (by omega) (by omega)]
  exact h4
theorem T17_r (ho : zo o) (hV : zV V) (hK : sp_K V ≤ 3) {seat : Int} (hs : 0 ≤ seat ∧ seat < ((V (0)).val : Int)) : ∀ (k : Nat) (r : Int) (a : Int × Int) (E : Nat → Int → Int) (j4 : ZV), zC V E o → zTh V E a → (∀ j, 0 ≤ j → j < sp_L V (sp_p5 V) → E 25 j = sp_colL (sp_aC V (E 24 j)) ((V (0)).val : Int) 0 (r - 1).toNat 1 seat) → 1 ≤ r → r + k = ((V (1)).val : Int) + 1 → -126 ≤ a.2 → a.2 ≤ 0 →
    ∃ F j3' j4', zf_ev X (d + 3) 17 (46, [vR 21, vR o, vI seat, vI r, j4], [], zH t p q E) = zf_ev X (d + 3) 17 (13, [vR 21, vR o, vI (seat + 1), j3', j4'], [], zH t p q F) ∧ zTh V F (sp_in (fun r => - sp_lv V seat r) (fun r => 10 * seat + r) k r a) ∧ (∀ a9 b9, (a9 ≠ 21 ∨ b9 ≠ 8) → (a9 ≠ 21 ∨ b9 ≠ 9) → (a9 ≠ 21 ∨ b9 ≠ 10) → a9 ≠ 25 → a9 ≠ 26 → F a9 b9 = E a9 b9) := by
  have hrr := hV.rows
  have hcl := hV.cols
  have hp := sp_p5_r hK
  have hL := sp_L_r (V := V) (n := sp_p5 V) (by omega)
  have ho2 : o = 40 ∨ o = 50 := ho
  intro k
  induction k with
  | zero =>
    intro r a E j4 hC hT h25 h1 h2 h3 h4
    refine ⟨E, vI r, j4, ?_, hT, fun a b _ _ _ _ _ => rfl⟩
    rw [L17_46 ho]
    simp (disch := omega) only [n32_id, zg_pos, if_pos, if_neg, zu_same, zu_ne, if_true, if_false, ne_eq, not_true_eq_false, not_false_eq_true, true_or, or_true, true_and, and_true, zg_true, fa_b_f, fa_b_t, hC.rows]
  | succ k ih =>
    intro r a E j4 hC hT h25 h1 h2 h3 h4
    have hTa := hT
    obtain ⟨t1, t2, t3, t4⟩ := hT
    have hlv := sp_lv_r (V := V) hK (seat := seat) (r := r)
    have ek : r.toNat = (r - 1).toNat + 1 := by omega
    obtain ⟨G, g1, g2, g3⟩ := T18 (X := X) (d := d + 1) (t := t) (p := p) (q := q) ho hC hV hK t1 (r := r) (L := sp_L V (sp_p5 V)) (f := fun j => sp_colL (sp_aC V (E 24 j)) ((V (0)).val : Int) 0 r.toNat 1 seat) (by omega) (by omega) t2.1 (fun j x y => by
      have hb := sp_colL_r (a := sp_aC V (E 24 j)) (n := ((V (0)).val : Int)) (fold := 0) (by omega) (r - 1).toNat 1 seat hs.1 hs.2
      refine ⟨t2.2.2.1 j x y, by rw [h25 j x y]; exact hb, ?_⟩
      rw [ek, sp_colL_snoc, h25 j x y, show 1 + (((r - 1).toNat : Nat) : Int) = r by omega])
    have e1 : sp_mx (sp_ct (fun j => sp_colL (sp_aC V (E 24 j)) ((V (0)).val : Int) 0 r.toNat 1 seat) (sp_L V (sp_p5 V))) 12 0 0 = sp_lv V seat r := by
      unfold sp_lv
      congr 1
      funext c
      unfold sp_ct sp_lc
      exact t2.2.1 (fun x => if sp_colL (sp_aC V x) ((V (0)).val : Int) 0 r.toNat 1 seat = c then 1 else 0)
    rw [e1] at g1
    have hC2 : zC V G o := hC.fr (fun a b _ _ => g3 a b (by omega) (by omega))
    have e10 : G 21 10 = -a.2 := by rw [g3 _ _ (by omega) (by omega)]; exact t3
    have h25' : ∀ j, 0 ≤ j → j < sp_L V (sp_p5 V) → G 25 j = sp_colL (sp_aC V (G 24 j)) ((V (0)).val : Int) 0 (r + 1 - 1).toNat 1 seat := fun j x y => by
      rw [g2 j x y, show (r + 1 - 1).toNat = r.toNat by omega, g3 _ _ (by omega) (by omega)]
    unfold sp_in
    by_cases gw : a.2 < - sp_lv V seat r
    · rw [if_pos gw]
      have hT2 : zTh V (zu (zu (zu G 21 10 (sp_lv V seat r)) 21 8 seat) 21 9 r) (10 * seat + r, - sp_lv V seat r) := by
        refine ⟨fun r x y => by rw [zu_ne (by omega), zu_ne (by omega), zu_ne (by omega), zu_ne (by omega), zu_ne (by omega), zu_ne (by omega), g3 _ _ (by omega) (by omega), g3 _ _ (by omega) (by omega)]; exact t1 r x y, t2.fr (by rw [zu_ne (by omega), zu_ne (by omega), zu_ne (by omega), g3 _ _ (by omega) (by omega)]) (fun b => by rw [zu_ne (by omega), zu_ne (by omega), zu_ne (by omega), g3 _ _ (by omega) (by omega)]) (fun b => by rw [zu_ne (by omega), zu_ne (by omega), zu_ne (by omega), g3 _ _ (by omega) (by omega)]), ?_, Or.inr ?_⟩
        · rw [zu_ne (by omega), zu_ne (by omega), zu_same]
          show _ = - - sp_lv V seat r
          omega
        · rw [zu_ne (by omega), zu_same, zu_same]
      obtain ⟨F, j3', j4', f1, f2, f3⟩ := ih (r + 1) (10 * seat + r, - sp_lv V seat r) (zu (zu (zu G 21 10 (sp_lv V seat r)) 21 8 seat) 21 9 r) (vI (sp_lv V seat r)) (hC2.fr (fun a b _ _ => by rw [zu_ne (by omega), zu_ne (by omega), zu_ne (by omega)])) hT2 (fun j x y => by rw [zu_ne (by omega), zu_ne (by omega), zu_ne (by omega), zu_ne (by omega), zu_ne (by omega), zu_ne (by omega)]; exact h25' j x y) (by omega) (by omega) (show -126 ≤ - sp_lv V seat r by omega) (show - sp_lv V seat r ≤ 0 by omega)
      refine ⟨F, j3', j4', ?_, f2, fun x y y1 y2 y3 y4 y5 => by rw [f3 x y y1 y2 y3 y4 y5, zu_ne y2, zu_ne y1, zu_ne y3, g3 x y y4 y5]⟩
      rw [L17_46 ho]
      simp (disch := omega) only [n32_id, zg_pos, if_pos, if_neg, zu_same, zu_ne, if_true, if_false, ne_eq, not_true_eq_false, not_false_eq_true, true_or, or_true, true_and, and_true, zg_true, fa_b_f, fa_b_t, hC.rows]
      rw [g1, L17_k57 ho]
      simp (disch := omega) only [n32_id, zg_pos, if_pos, if_neg, zu_same, zu_ne, if_true, if_false, ne_eq, not_true_eq_false, not_false_eq_true, true_or, or_true, true_and, and_true, zg_true, fa_b_f, fa_b_t, e10]
      exact f1
    · rw [if_neg gw]
      obtain ⟨F, j3', j4', f1, f2, f3⟩ := ih (r + 1) a G (vI (sp_lv V seat r)) hC2 (hTa.fr g3) h25' (by omega) (by omega) h3 h4
      refine ⟨F, j3', j4', ?_, f2, fun x y y1 y2 y3 y4 y5 => by rw [f3 x y y1 y2 y3 y4 y5, g3 x y y4 y5]⟩
      rw [L17_46 ho]
      simp (disch := omega) only [n32_id, zg_pos, if_pos, if_neg, zu_same, zu_ne, if_true, if_false, ne_eq, not_true_eq_false, not_false_eq_true, true_or, or_true, true_and, and_true, zg_true, fa_b_f, fa_b_t, hC.rows]
      rw [g1, L17_k57 ho]
      simp (disch := omega) only [n32_id, zg_pos, if_pos, if_neg, zu_same, zu_ne, if_true, if_false, ne_eq, not_true_eq_false, not_false_eq_true, true_or, or_true, true_and, and_true, zg_true, fa_b_f, fa_b_t, e10]
      exact f1
theorem T17_s (ho : zo o) (hV : zV V) (hK : sp_K V ≤ 3) : ∀ (k : Nat) (s : Int) (a : Int × Int) (E : Nat → Int → Int) (j3 j4 : ZV), zC V E o → zTh V E a → 0 ≤ s → s + k = ((V (0)).val : Int) → -126 ≤ a.2 → a.2 ≤ 0 →
    ∃ F, zf_ev X (d + 3) 17 (13, [vR 21, vR o, vI s, j3, j4], [], zH t p q E) = some (some [], zH t p q F) ∧ zTh V F (sp_out (fun seat r => - sp_lv V seat r) (fun seat r => 10 * seat + r) (((V (1)).val : Int)).toNat 1 k s a) ∧ (∀ a9 b9, (a9 ≠ 21 ∨ b9 ≠ 8) → (a9 ≠ 21 ∨ b9 ≠ 9) → (a9 ≠ 21 ∨ b9 ≠ 10) → a9 ≠ 25 → a9 ≠ 26 → F a9 b9 = E a9 b9) := by
  have hrr := hV.rows
  have hcl := hV.cols
  have hp := sp_p5_r hK
  have hL := sp_L_r (V := V) (n := sp_p5 V) (by omega)
  have ho2 : o = 40 ∨ o = 50 := ho
  intro k
  induction k with
  | zero =>
    intro s a E j3 j4 hC hT h1 h2 h3 h4
    refine ⟨E, ?_, hT, fun a b _ _ _ _ _ => rfl⟩
    rw [L17_13 ho]
    simp (disch := omega) only [n32_id, zg_pos, if_pos, if_neg, zu_same, zu_ne, if_true, if_false, ne_eq, not_true_eq_false, not_false_eq_true, true_or, or_true, true_and, and_true, zg_true, fa_b_f, fa_b_t, hC.cols]
  | succ k ih =>
    intro s a E j3 j4 hC hT h1 h2 h3 h4
    obtain ⟨G, a3, a4, g1, g2, g3⟩ := T17_r (X := X) (d := d) (t := t) (p := p) (q := q) ho hV hK (seat := s) (by omega) (((V (1)).val : Int)).toNat 1 a (zfill E 25 0 (sp_L V (sp_p5 V)) (fun _ => s)) j4 (hC.fr (fun a b _ _ => zfill_ne (by omega))) (hT.fr (fun x y y1 y2 => zfill_ne y1)) (fun j x y => by rw [zfill_in x y]; rfl) (by omega) (by omega) h3 h4
    have b := sp_in_r (w := fun r => - sp_lv V s r) (l := fun r => 10 * s + r) (lo := -126) (hi := 0) (((V (1)).val : Int)).toNat 1 a (fun j _ _ => by have := sp_lv_r (V := V) hK (seat := s) (r := j); omega) h3 h4
    obtain ⟨F, f1, f2, f3⟩ := ih (s + 1) _ G a3 a4 (hC.fr (fun a b _ _ => by rw [g3 a b (by omega) (by omega) (by omega) (by omega) (by omega), zfill_ne (by omega)])) g2 (by omega) (by omega) b.1 b.2
    refine ⟨F, ?_, f2, fun x y y1 y2 y3 y4 y5 => by rw [f3 x y y1 y2 y3 y4 y5, g3 x y y1 y2 y3 y4 y5, zfill_ne y4]⟩
    rw [L17_13 ho]
    simp (disch := omega) only [n32_id, zg_pos, if_pos, if_neg, zu_same, zu_ne, if_true, if_false, ne_eq, not_true_eq_false, not_false_eq_true, true_or, or_true, true_and, and_true, zg_true, fa_b_f, fa_b_t, hC.cols]
    rw [T17_f ho (L := sp_L V (sp_p5 V)) (by omega) (sp_L V (sp_p5 V)).toNat 0 E hT.2.1.1 (by omega) (by omega), g1]
    exact f1
theorem sp_thr_r (hV : zV V) (hK : sp_K V ≤ 3) : -125 ≤ (sp_thr V).2 ∧ (sp_thr V).2 ≤ 0 := by
  have hrr := hV.rows
  have hcl := hV.cols
  have h := (sp_out_ge (w := fun seat r => - sp_lv V seat r) (l := fun seat r => 10 * seat + r) (n := (((V (1)).val : Int)).toNat) (b := 1) (((V (0)).val : Int)).toNat 0 (-2, -126)).2 0 1 (by omega) (by omega) (by omega) (by omega)
  have h1 := sp_lv_r (V := V) hK (seat := 0) (r := 1)
  have key : ∀ (k : Nat) (i : Int) (a : Int × Int), a.2 ≤ 0 → (sp_out (fun seat r => - sp_lv V seat r) (fun seat r => 10 * seat + r) (((V (1)).val : Int)).toNat 1 k i a).2 ≤ 0 := by
    intro k
    induction k with
    | zero => intro i a h; exact h
    | succ k ih =>
      intro i a h
      unfold sp_out
      refine ih _ _ ?_
      have in0 : ∀ (k : Nat) (j : Int) (a : Int × Int), a.2 ≤ 0 → (sp_in (fun r => - sp_lv V i r) (fun r => 10 * i + r) k j a).2 ≤ 0 := by
        intro k
        induction k with
        | zero => intro j a h; exact h
        | succ k ih2 =>
          intro j a h
          unfold sp_in
          refine ih2 _ _ ?_
          split
          · have := sp_lv_r (V := V) hK (seat := i) (r := j)
            show - sp_lv V i j ≤ 0
            omega
          · exact h
      exact in0 _ _ _ h
  have h2 := key (((V (0)).val : Int)).toNat 0 (-2, -126) (by decide)
  unfold sp_thr
  omega
theorem T17 (ho : zo o) (hC : zC V E o) (hV : zV V) (hK : sp_K V ≤ 3) : ∃ F, zf_ev X (d + 3) 17 (0, [vR 21, vR o, vJ, vJ, vJ], [], zH t p q E) = some (some [], zH t p q F) ∧ F 21 7 = sp_L V (sp_p5 V) ∧ F 21 10 = -(sp_thr V).2 ∧ 10 * F 21 8 + F 21 9 = (sp_thr V).1 ∧ (∀ a9 b9, (a9 < 21 ∨ 27 < a9) → F a9 b9 = E a9 b9) := by
  have ho2 : o = 40 ∨ o = 50 := ho
  have hcl := hV.cols
  have hr := sp_thr_r hV hK
  obtain ⟨G, g1, g2, g3, g4⟩ := T10 (X := X) (d := d) (t := t) (p := p) (q := q) ho hC hV hK
  obtain ⟨F, f1, f2, f3⟩ := T17_s (X := X) (d := d) (t := t) (p := p) (q := q) ho hV hK (((V (0)).val : Int)).toNat 0 (-2, -126) (zu G 21 10 126) vJ vJ (hC.fr (fun a b _ _ => by rw [zu_ne (by omega), g4 _ _ (by omega) (by omega) (by omega) (by omega) (by omega) (by omega)])) ⟨fun r x y => by rw [zu_ne (by omega), zu_ne (by omega)]; exact g2 r x y, g3.fr (zu_ne (by omega)) (fun b => zu_ne (by omega)) (fun b => zu_ne (by omega)), zu_same, Or.inl rfl⟩ (by omega) (by omega) (by decide) (by decide)
  refine ⟨F, ?_, f2.2.1.1, f2.2.2.1, ?_, fun a b y => by rw [f3 a b (by omega) (by omega) (by omega) (by omega) (by omega), zu_ne (by omega), g4 a b (by omega) (by omega) (by omega) (by omega) (by omega) (by omega)]⟩
  · rw [L17_0 ho, g1, L17_k2 ho]
    exact f1
  · rcases f2.2.2.2 with g | g
    · unfold sp_thr at hr
      omega
    · exact g
end F2

/-! acts: sit, fold, aim, warm -/
theorem zQ.c {V S R : Int → Fin 65537} (hV : zV V) (h : zQ V S) (h1 : ∀ k, 0 ≤ k → k < 15 → R k = S k) (h2 : ∀ k, 19 ≤ k → k < 37 → R k = S k) : zQ V R := by
  obtain ⟨q1, q2, q3, q4, q5, q6⟩ := h
  have hk := hV.spks
  have hm := hV.mems
  have hr := hV.rows
  refine ⟨fun k a b => ?_, fun s a b => ?_, fun m a b => ?_, fun s x a b c dd g => ?_, fun s a b => ?_, ?_⟩
  · rw [h1 k a (by omega)]; exact q1 k a b
  · rw [h1 _ (by omega) (by omega), h1 _ (by omega) (by omega)]; exact q2 s a b
  · rw [h2 _ (by omega) (by omega), h2 _ (by omega) (by omega), h2 _ (by omega) (by omega)]; exact q3 m a b
  · rw [h1 _ (by omega) (by omega), h1 _ (by omega) (by omega), h1 _ (by omega) (by omega), h1 _ (by omega) (by omega)]; exact q4 s x a b c dd g
  · rw [h1 _ (by omega) (by omega), h1 _ (by omega) (by omega)]; exact q5 s a b
  · rw [sp_cb_c (c := fun r => decide (((S (r)).val : Int) = 7)) _ _ (fun j a b => by rw [h1 j (by omega) (by omega)])]
    exact q6
theorem zQ_mem {V S : Int → Fin 65537} (hV : zV V) (h : zQ V S) {m i z : Int} (h1 : 0 ≤ m) (h2 : m < ((V (4)).val : Int)) (hz : 0 ≤ z ∧ z < 65537) (hi : (i = 0 ∧ z ≤ 3) ∨ (i = 1 ∧ z < ((V (0)).val : Int)) ∨ (i = 2 ∧ 1 ≤ z ∧ z ≤ ((V (1)).val : Int))) : zQ V (zsu S (19 + 3 * m + i) z) := by
  obtain ⟨q1, q2, q3, q4, q5, q6⟩ := h
  have hk := hV.spks
  have hm := hV.mems
  have hr := hV.rows
  have n1 : ∀ k, k < 19 → zsu S (19 + 3 * m + i) z k = S k := fun k g => zsu_n (by omega)
  refine ⟨fun k a b => ?_, fun s a b => ?_, fun m' a b => ?_, fun s x a b c dd g => ?_, fun s a b => ?_, ?_⟩
  · rw [n1 k (by omega)]; exact q1 k a b
  · rw [n1 _ (by omega), n1 _ (by omega)]; exact q2 s a b
  · have hh := q3 m' a b
    refine ⟨?_, ?_, ?_⟩
    · by_cases g : 19 + 3 * m' = 19 + 3 * m + i
      · rw [g, zsu_s hz.1 hz.2]; omega
      · rw [zsu_n g]; exact hh.1
    · by_cases g : 19 + 3 * m' + 1 = 19 + 3 * m + i
      · rw [g, zsu_s hz.1 hz.2]; omega
      · rw [zsu_n g]; exact hh.2.1
    · by_cases g : 19 + 3 * m' + 2 = 19 + 3 * m + i
      · rw [g, zsu_s hz.1 hz.2]; omega
      · rw [zsu_n g]; exact hh.2.2
  · rw [n1 _ (by omega), n1 _ (by omega), n1 _ (by omega), n1 _ (by omega)]; exact q4 s x a b c dd g
  · rw [n1 _ (by omega), n1 _ (by omega)]; exact q5 s a b
  · rw [sp_cb_c (c := fun r => decide (((S (r)).val : Int) = 7)) _ _ (fun j a b => by rw [n1 j (by omega)])]
    exact q6
theorem sp_cb_le {b c : Int → Bool} : ∀ (k : Nat) (i : Int), (∀ j, i ≤ j → j < i + k → b j = true → c j = true) → sp_cb b k i ≤ sp_cb c k i := by
  intro k
  induction k with
  | zero => intro i h; exact Int.le_refl _
  | succ k ih =>
    intro i h
    have h1 := ih (i + 1) (fun j a b => h j (by omega) (by omega))
    unfold sp_cb
    by_cases g : b i = true
    · rw [if_pos g, if_pos (h i (by omega) (by omega) g)]
      omega
    · rw [if_neg g]
      split <;> omega
theorem zQ_air {V S : Int → Fin 65537} (hV : zV V) (h : zQ V S) {k z : Int} (h1 : 0 ≤ k) (h2 : k < 7) (hz : 0 ≤ z ∧ z ≤ 6) : zQ V (zsu S k z) := by
  obtain ⟨q1, q2, q3, q4, q5, q6⟩ := h
  have hk := hV.spks
  have hm := hV.mems
  have hr := hV.rows
  have n1 : ∀ x, 7 ≤ x → zsu S k z x = S x := fun x g => zsu_n (by omega)
  refine ⟨fun x a b => ?_, fun s a b => ?_, fun m' a b => ?_, fun s x a b c dd g => ?_, fun s a b => ?_, ?_⟩
  · by_cases g : x = k
    · rw [g, zsu_s hz.1 (by omega)]; omega
    · rw [zsu_n g]; exact q1 x a b
  · rw [n1 _ (by omega), n1 _ (by omega)]; exact q2 s a b
  · rw [n1 _ (by omega), n1 _ (by omega), n1 _ (by omega)]; exact q3 m' a b
  · rw [n1 _ (by omega), n1 _ (by omega), n1 _ (by omega), n1 _ (by omega)]; exact q4 s x a b c dd g
  · rw [n1 _ (by omega), n1 _ (by omega)]; exact q5 s a b
  · have := sp_cb_le (b := fun r => decide ((((zsu S k z) (r)).val : Int) = 7)) (c := fun r => decide (((S (r)).val : Int) = 7)) (((V (1)).val : Int)).toNat 1 (fun j a b c => by
      have c := of_decide_eq_true c
      by_cases g : j = k
      · rw [g, zsu_s hz.1 (by omega)] at c; omega
      · rw [zsu_n g] at c; exact decide_eq_true c)
    omega
theorem zBd_u {S : Int → Fin 65537} {n k z : Int} (h : zBd S n) (hk : k < 15 ∨ (19 ≤ k ∧ k < 37) ∨ k = 38) : zBd (zsu S k z) n := ⟨by rw [zsu_n (by omega)]; exact h.1, fun s a b => by rw [zsu_n (by omega)]; exact h.2 s a b⟩
theorem zcell_u {S : Int → Fin 65537} {E : Nat → Int → Int} {a : Nat} (h : ∀ c, 0 ≤ c → c < 39 → E a c = ((S (zSg c)).val : Int)) {c0 k z : Int} (hc : 0 ≤ c0 ∧ c0 < 39) (hk : zSg c0 = k) (hz : 0 ≤ z ∧ z < 65537) : ∀ c, 0 ≤ c → c < 39 → zu E a c0 z a c = (((zsu S k z) (zSg c)).val : Int) := fun c x y => by
  by_cases g : c = c0
  · rw [g, zu_same, hk, zsu_s hz.1 hz.2]
  · rw [zu_ne (Or.inr g), zsu_n (fun z => g (zSg_inj ⟨x, y⟩ hc (z.trans hk.symm)))]
    exact h c x y
theorem zst_u {S : Int → Fin 65537} {E : Nat → Int → Int} (h : ∀ k, 0 ≤ k → k < 39 → E 65 k = ((S (k)).val : Int)) {k0 z : Int} (hz : 0 ≤ z ∧ z < 65537) : ∀ k, 0 ≤ k → k < 39 → zu E 65 k0 z 65 k = (((zsu S k0 z) (k)).val : Int) := fun k x y => by
  by_cases g : k = k0
  · rw [g, zu_same, zsu_s hz.1 hz.2]
  · rw [zu_ne (Or.inr g), zsu_n g]
    exact h k x y
section AC
variable {X : Nat × (Nat → Int)} {d : Nat} {t : List (Nat × Nat)} {p q : Nat} {E : Nat → Int → Int} {V : Int → Fin 65537} {U T : Int → Int → Fin 65537} {y im n : Int}
theorem T174e (hp : zo p) (hC : zC V E p) {c z : Int} (hc : 0 ≤ c ∧ c < 39) (he : ((V (200 + zSg c)).val : Int) = z) : zf_ev X (d + 1) 174 (0, [vR 0, vI c, vI z], [], zH t p q E) = some (some [vI 0], zH t p q (zu E 0 10 5)) := by
  have e := hC.cell c hc.1 hc.2
  rw [L174_0 hp]
  simp (disch := omega) only [n32_id, zg_pos, if_pos, if_neg, zu_same, zu_ne, if_true, if_false, ne_eq, not_true_eq_false, not_false_eq_true, true_or, or_true, true_and, and_true, zg_true, fa_b_f, fa_b_t, e]
theorem T174n (hp : zo p) (hC : zC V E p) (hV : zV V) (hP : zPC U T E y im) (hy : 0 ≤ y ∧ y ≤ 16) {c z k : Int} (hc : 0 ≤ c ∧ c < 39) (hk : zSg c = k) (hz : 0 ≤ z ∧ z < 65537) (he : ¬ ((V (200 + k)).val : Int) = z) : ∃ F, zf_ev X (d + 1) 174 (0, [vR 0, vI c, vI z], [], zH t p q E) = some (some [vI 1], zH t p q F) ∧ zC (zup V (zsu (zst V) k z)) F p ∧ zPC (zpush (zst V) U) T F (zy y) im ∧ (∀ a9 b9, a9 ≠ 6 → a9 ≠ 7 → a9 ≠ p + 1 → F a9 b9 = E a9 b9) := by
  have hp2 : p = 40 ∨ p = 50 := hp
  have e := hC.cell c hc.1 hc.2
  rw [hk] at e
  obtain ⟨G, g1, g2, g3⟩ := T59 (X := X) (d := d) (t := t) (p := p) (q := q) (S := zst V) hp hP hy hC.cell
  refine ⟨zu G (p + 1) c z, ?_, hC.st hV (fun a b u v w => by rw [zu_ne (Or.inl w), g3 a b (by omega) (by omega)]) (zcell_u (fun c' u v => by rw [g3 _ _ (by omega) (by omega)]; exact hC.cell c' u v) hc hk hz), g2.fr (fun a b u v => zu_ne (by omega)), fun a b u v w => by rw [zu_ne (Or.inl w), g3 a b u v]⟩
  rw [L174_0 hp]
  simp (disch := omega) only [n32_id, zg_pos, if_pos, if_neg, zu_same, zu_ne, if_true, if_false, ne_eq, not_true_eq_false, not_false_eq_true, true_or, or_true, true_and, and_true, zg_true, fa_b_f, fa_b_t, e]
  rw [g1, L174_k31 hp]
  simp (disch := omega) only [n32_id, zg_pos, if_pos, if_neg, zu_same, zu_ne, if_true, if_false, ne_eq, not_true_eq_false, not_false_eq_true, true_or, or_true, true_and, and_true, zg_true, fa_b_f, fa_b_t]
theorem T303e (hR : zR V E) {k z : Int} (hk : 0 ≤ k ∧ k < 39) (he : ((V (200 + k)).val : Int) = z) : zf_ev X (d + 2) 303 (0, [vR 60, vI k, vI z], [], zH t p q E) = some (some [vI 0], zH t p q (zu E 60 11 5)) := by
  simp (disch := omega) only [n32_id, zg_pos, if_pos, if_neg, zu_same, zu_ne, if_true, if_false, ne_eq, not_true_eq_false, not_false_eq_true, true_or, or_true, true_and, and_true, zg_true, fa_b_f, fa_b_t, L303_0, L303_k12, L303_k17, hR.s, L179_0]
theorem T303n (hR : zR V E) (hP : zPM U T E y im) (hy : 0 ≤ y ∧ y ≤ 16) {z k : Int} (hk : 0 ≤ k ∧ k < 39) (hz : 0 ≤ z ∧ z < 65537) (he : ¬ ((V (200 + k)).val : Int) = z) : ∃ F, zf_ev X (d + 2) 303 (0, [vR 60, vI k, vI z], [], zH t p q E) = some (some [vI 1], zH t p q F) ∧ zR (zup V (zsu (zst V) k z)) F ∧ zPM (zpush (zst V) U) T F (zy y) im ∧ (∀ a9 b9, (a9 ≠ 60 ∨ b9 ≠ 20) → a9 ≠ 65 → a9 ≠ 66 → F a9 b9 = E a9 b9) := by
  obtain ⟨G, g1, g2, g3⟩ := T302 (X := X) (d := d) (t := t) (p := p) (q := q) (S := zst V) hP hy hR.cell
  refine ⟨zu G 65 k z, ?_, hR.st (fun b => by rw [zu_ne (by omega), g3 _ _ (by omega) (by omega)]) (zst_u (fun k' u v => by rw [g3 _ _ (by omega) (by omega)]; exact hR.cell k' u v) hz), g2.fr (zu_ne (by omega)) (zu_ne (by omega)) (fun a b u v => zu_ne (by omega)), fun a b u v w => by rw [zu_ne (Or.inl v), g3 a b u w]⟩
  simp (disch := omega) only [n32_id, zg_pos, if_pos, if_neg, zu_same, zu_ne, if_true, if_false, ne_eq, not_true_eq_false, not_false_eq_true, true_or, or_true, true_and, and_true, zg_true, fa_b_f, fa_b_t, L303_0, L303_k12, L303_k17, hR.s, g1]
theorem zy_r (hy : 0 ≤ y ∧ y ≤ 16) : 0 ≤ zy y ∧ zy y ≤ 16 := by unfold zy; split <;> omega
theorem zHs.push (h : zHs V U T y im n) (hV : zV V) : (∀ j, 0 ≤ j → j < zy y → zSt V (zpush (zst V) U j) (n + 1)) ∧ (∀ i, 0 ≤ i → i < im → zSt V (T i) (n + 1)) := by
  obtain ⟨h1, h2, h3⟩ := h
  rcases h3 with ⟨a, b, c, e⟩ | ⟨a, -⟩
  · refine ⟨fun j u v => ?_, fun i u v => (e i u v).mono (by omega)⟩
    unfold zpush
    by_cases g : j = 0
    · rw [if_pos g]; exact b.mono (by omega)
    · rw [if_neg g]
      exact (c (j - 1) (by omega) (by unfold zy at v; split at v <;> omega)).mono (by omega)
  · have := zG.no a
    have := hV.spks
    omega
theorem zI.now (h : zI V U T E p q y im n) (hV : zV V) : zSt V (zst V) n ∧ E 60 14 = 1 := by
  obtain ⟨i1, i2, i3, i4, i5, i6, i7⟩ := h
  refine ⟨?_, ?_⟩
  · rcases i7.2.2 with ⟨a, b, -, -⟩ | ⟨a, -⟩
    · exact b
    · have := zG.no a
      have := hV.spks
      omega
  · rcases i1.2.2.2 with ⟨-, h⟩ | ⟨hz, -⟩
    · exact h
    · have := zG.no hz
      have := hV.spks
      omega
/-- one cell changed -/
theorem chg (h : zI V U T E p q y im n) (hV : zV V) {c z k : Int} (hc : 0 ≤ c ∧ c < 39) (hk : zSg c = k) (hz : 0 ≤ z ∧ z < 65537) (he : ¬ ((V (200 + k)).val : Int) = z) (hQ : zSt V (zsu (zst V) k z) (n + 1)) : ∃ F H, zf_ev X (d + 19) 174 (0, [vR 0, vI c, vI z], [], zH t p q (zu E 0 10 0)) = some (some [vI 1], zH t p q F) ∧ zf_ev X (d + 19) 303 (0, [vR 60, vI k, vI z], [], zH t p q (zg0 F)) = some (some [vI 1], zH t p q H) ∧ zR V (zg0 F) ∧ zg0 F 60 14 = 1 ∧ zJ H p q (n + 1) := by
  have hh := h
  have h14 := (h.now hV).2
  obtain ⟨i1, i2, i3, i4, i5, i6, i7⟩ := h
  have hp : zo p := i1.1
  have hp2 : p = 40 ∨ p = 50 := hp
  have hk2 := zSg_r hc
  rw [hk] at hk2
  obtain ⟨F, f1, f2, f3, f4⟩ := T174n (X := X) (d := d + 18) (t := t) (p := p) (q := q) (E := zu E 0 10 0) hp (i1.2.1.fco hp zFC.u) hV (i5.fr (fun a b u v => zu_ne (by omega))) i7.1 hc hk hz he
  have e60 : ∀ a b, 60 ≤ a → F a b = E a b := fun a b u => by rw [f4 a b (by omega) (by omega) (by omega), zu_ne (by omega)]
  have g60 : ∀ a b, 60 ≤ a → (a ≠ 60 ∨ b ≠ 0 ∧ b ≠ 11) → zg0 F a b = E a b := fun a b u v => by unfold zg0; rw [zu_ne (by omega), zu_ne (by omega), e60 a b u]
  have hR : zR V (zg0 F) := i1.2.2.1.fr (fun b => g60 _ _ (by omega) (by omega)) (fun b => g60 _ _ (by omega) (by omega))
  obtain ⟨H, y1, y2, y3, y4⟩ := T303n (X := X) (d := d + 17) (t := t) (p := p) (q := q) (E := zg0 F) hR (i6.fr (g60 _ _ (by omega) (by omega)) (g60 _ _ (by omega) (by omega)) (fun a b u v => g60 _ _ (by omega) (by omega))) i7.1 hk2 hz he
  have hps := i7.push hV
  refine ⟨F, H, f1, y1, hR, by rw [g60 _ _ (by omega) (by omega)]; exact h14, zup V (zsu (zst V) k z), zpush (zst V) U, T, zy y, im, hh.act hV hQ f2 f3 ?_ (fun a b u1 u2 u3 u4 u5 u6 u7 u8 => by rw [f4 a b u2 u3 u7, zu_ne u8]) y2 y3 ?_ (fun a b u v => ?_) (zy_r i7.1) i7.2.1 hps.1 hps.2⟩
  · rw [f4 _ _ (by omega) (by omega) (by omega), zu_same]
  · rw [y4 _ _ (by omega) (by omega) (by omega)]; rfl
  · rw [y4 a b (by omega) (by omega) (by omega)]
    unfold zg0
    rw [zu_ne (by omega), zu_ne (by omega)]
/-- refused by both -/
theorem zI.ref {a b τ : Int} (h : zI V U T E p q y im n) (hτ : 0 ≤ τ ∧ τ ≤ 6) (ha : a = τ) (hb : b = τ) : zJ (zu (zg0 (zu E 0 10 a)) 60 11 b) p q (n + 1) := ⟨V, U, T, y, im, h.ask zFC.u (by rw [zu_same, ha]) (zFM.g0.tr zFM.u11) (by rw [zu_same, hb]) hτ⟩
theorem zI.g2 (h : zI V U T E p q y im n) {a : Int} : zR V (zg0 (zu E 0 10 a)) ∧ (zg0 (zu E 0 10 a) 60 14 = 1 ∨ zg0 (zu E 0 10 a) 60 14 = 0) := by
  have hG := h.1.fc (zFC.u (z := a))
  exact ⟨hG.R2, hG.h14⟩
theorem zI.g1 (h : zI V U T E p q y im n) (hV : zV V) {a : Int} : zg0 (zu E 0 10 a) 60 14 = 1 := by
  have := (h.now hV).2
  unfold zg0
  rw [zu_ne (by omega), zu_ne (by omega), zu_ne (by omega)]
  exact this
theorem zSt_u (h : zI V U T E p q y im n) (hV : zV V) {k z : Int} (hk : k < 15 ∨ (19 ≤ k ∧ k < 37) ∨ k = 38) (hQ : zQ V (zsu (zst V) k z)) : zSt V (zsu (zst V) k z) (n + 1) := ⟨hQ, zBd_u ((h.now hV).1.2.mono (by omega)) hk⟩
theorem C154 (h : zI V U T E p q y im n) {m c : Int} (b1 : -2147483648 ≤ m ∧ m < 2147483648) (b2 : -2147483648 ≤ c ∧ c < 2147483648) : ∃ v F H, zf_ev X (d + 20) 154 (0, [vR 0, vI m, vI c], [], zH t p q E) = some (some [vI v], zH t p q F) ∧ zf_ev X (d + 20) 304 (0, [vR 60, vI m, vI c], [], zH t p q F) = some (some [vI v], zH t p q H) ∧ zJ H p q (n + 1) := by
  have hp : zo p := h.1.1
  have hC : zC V E p := h.1.2.1
  by_cases g : (0 ≤ m ∧ m < ((V (4)).val : Int)) ∧ 0 ≤ c ∧ c < ((V (0)).val : Int)
  · obtain ⟨hV, -, -⟩ := h.D (by omega)
    have hm := hV.mems
    have hcl := hV.cols
    have hk : zSg (0 + m) = 19 + 3 * m + 1 := by unfold zSg; rw [if_pos (by omega)]; omega
    have hC0 : zC V (zu E 0 10 0) p := hC.fco hp zFC.u
    by_cases e : ((V (200 + (19 + 3 * m + 1))).val : Int) = c
    · have hR := (h.g2 (a := 5)).1
      have h1 := h.g1 hV (a := 5)
      refine ⟨0, zu (zu E 0 10 0) 0 10 5, zu (zg0 (zu E 0 10 5)) 60 11 5, ?_, ?_, h.ref (τ := 5) (by omega) rfl rfl⟩
      · simp (disch := omega) only [n32_id, zg_pos, if_pos, if_neg, zu_same, zu_ne, if_true, if_false, ne_eq, not_true_eq_false, not_false_eq_true, true_or, or_true, true_and, and_true, zg_true, fa_b_f, fa_b_t, L154_0 hp, L154_k6 hp, L154_k17, L154_k28, L154_k41, T23t hp hC, T24t hp hC, T168t, T174e hp hC0 (c := 0 + m) (z := c) (by omega) (by rw [hk]; exact e)]
      · rw [zu_zu]
        simp (disch := omega) only [n32_id, zg_pos, if_pos, if_neg, zu_same, zu_ne, if_true, if_false, ne_eq, not_true_eq_false, not_false_eq_true, true_or, or_true, true_and, and_true, zg_true, fa_b_f, fa_b_t, L304_0, L304_k1, L304_k6, L304_k14, L304_k30, L304_k38, T177, T215t hR h1, T216t hR h1, T303e hR]
    · obtain ⟨F, H, f1, y1, hR, h1, hj⟩ := chg (X := X) (d := d) (t := t) h hV (c := 0 + m) (z := c) (by omega) hk (by omega) e (zSt_u h hV (by omega) (zQ_mem hV (h.now hV).1.1 g.1.1 g.1.2 (by omega) (by omega)))
      refine ⟨1, F, H, ?_, ?_, hj⟩
      · simp (disch := omega) only [n32_id, zg_pos, if_pos, if_neg, zu_same, zu_ne, if_true, if_false, ne_eq, not_true_eq_false, not_false_eq_true, true_or, or_true, true_and, and_true, zg_true, fa_b_f, fa_b_t, L154_0 hp, L154_k6 hp, L154_k17, L154_k28, L154_k41, T23t hp hC, T24t hp hC, T168t, f1]
      · simp (disch := omega) only [n32_id, zg_pos, if_pos, if_neg, zu_same, zu_ne, if_true, if_false, ne_eq, not_true_eq_false, not_false_eq_true, true_or, or_true, true_and, and_true, zg_true, fa_b_f, fa_b_t, L304_0, L304_k1, L304_k6, L304_k14, L304_k30, L304_k38, T177, T215t hR h1, T216t hR h1, y1]
  · have hR := (h.g2 (a := 1)).1
    have h1 := (h.g2 (a := 1)).2
    refine ⟨0, zu E 0 10 1, zu (zg0 (zu E 0 10 1)) 60 11 1, ?_, ?_, h.ref (τ := 1) (by omega) rfl rfl⟩
    · by_cases g1 : 0 ≤ m ∧ m < ((V (4)).val : Int)
      · simp (disch := omega) only [n32_id, zg_pos, if_pos, if_neg, zu_same, zu_ne, if_true, if_false, ne_eq, not_true_eq_false, not_false_eq_true, true_or, or_true, true_and, and_true, zg_true, fa_b_f, fa_b_t, L154_0 hp, L154_k6 hp, L154_k17, L154_k28, L154_k41, T23t hp hC, T24f hp hC, T168f]
      · simp (disch := omega) only [n32_id, zg_pos, if_pos, if_neg, zu_same, zu_ne, if_true, if_false, ne_eq, not_true_eq_false, not_false_eq_true, true_or, or_true, true_and, and_true, zg_true, fa_b_f, fa_b_t, L154_0 hp, L154_k6 hp, L154_k17, L154_k28, L154_k41, T23f hp hC, T168f]
    · by_cases g1 : 0 ≤ m ∧ m < ((V (4)).val : Int)
      · obtain ⟨hV, -, -⟩ := h.D (by omega)
        have h2 := h.g1 hV (a := 1)
        simp (disch := omega) only [n32_id, zg_pos, if_pos, if_neg, zu_same, zu_ne, if_true, if_false, ne_eq, not_true_eq_false, not_false_eq_true, true_or, or_true, true_and, and_true, zg_true, fa_b_f, fa_b_t, L304_0, L304_k1, L304_k6, L304_k14, L304_k30, L304_k38, T177, T215t hR h2, T216f hR h1, L179_0]
      · simp (disch := omega) only [n32_id, zg_pos, if_pos, if_neg, zu_same, zu_ne, if_true, if_false, ne_eq, not_true_eq_false, not_false_eq_true, true_or, or_true, true_and, and_true, zg_true, fa_b_f, fa_b_t, L304_0, L304_k1, L304_k6, L304_k14, L304_k30, L304_k38, T177, T215f hR h1, L179_0]
theorem C155 (h : zI V U T E p q y im n) {m c : Int} (b1 : -2147483648 ≤ m ∧ m < 2147483648) (b2 : -2147483648 ≤ c ∧ c < 2147483648) : ∃ v F H, zf_ev X (d + 20) 155 (0, [vR 0, vI m, vI c], [], zH t p q E) = some (some [vI v], zH t p q F) ∧ zf_ev X (d + 20) 305 (0, [vR 60, vI m, vI c], [], zH t p q F) = some (some [vI v], zH t p q H) ∧ zJ H p q (n + 1) := by
  have hp : zo p := h.1.1
  have hC : zC V E p := h.1.2.1
  by_cases g : 0 ≤ m ∧ m < ((V (4)).val : Int)
  · obtain ⟨hV, -, -⟩ := h.D (by omega)
    have hm := hV.mems
    have hk : zSg (6 + m) = 19 + 3 * m := by unfold zSg; rw [if_neg (by omega), if_pos (by omega)]; omega
    have hC0 : zC V (zu E 0 10 0) p := hC.fco hp zFC.u
    by_cases g2 : 0 ≤ c ∧ c ≤ 3
    · by_cases e : ((V (200 + (19 + 3 * m))).val : Int) = c
      · have hR := (h.g2 (a := 5)).1
        have h1 := h.g1 hV (a := 5)
        refine ⟨0, zu (zu E 0 10 0) 0 10 5, zu (zg0 (zu E 0 10 5)) 60 11 5, ?_, ?_, h.ref (τ := 5) (by omega) rfl rfl⟩
        · simp (disch := omega) only [n32_id, zg_pos, if_pos, if_neg, zu_same, zu_ne, if_true, if_false, ne_eq, not_true_eq_false, not_false_eq_true, true_or, or_true, true_and, and_true, zg_true, fa_b_f, fa_b_t, L155_0 hp, L155_k6, L155_k9, L155_k19, L155_k33, T23t hp hC, T168t, T169t, zu_zu, T174e hp hC0 (c := 6 + m) (z := c) (by omega) (by rw [hk]; exact e)]
        · rw [zu_zu]
          simp (disch := omega) only [n32_id, zg_pos, if_pos, if_neg, zu_same, zu_ne, if_true, if_false, ne_eq, not_true_eq_false, not_false_eq_true, true_or, or_true, true_and, and_true, zg_true, fa_b_f, fa_b_t, L305_0, L305_k1, L305_k6, L305_k14, L305_k21, L305_k35, L305_k43, T177, T215t hR h1, T180t, T303e hR]
      · have hQ := zQ_mem hV (h.now hV).1.1 (i := 0) (z := c) g.1 g.2 (by omega) (by omega)
        rw [Int.add_zero] at hQ
        obtain ⟨F, H, f1, y1, hR, h1, hj⟩ := chg (X := X) (d := d) (t := t) h hV (c := 6 + m) (z := c) (by omega) hk (by omega) e (zSt_u h hV (by omega) hQ)
        refine ⟨1, F, H, ?_, ?_, hj⟩
        · simp (disch := omega) only [n32_id, zg_pos, if_pos, if_neg, zu_same, zu_ne, if_true, if_false, ne_eq, not_true_eq_false, not_false_eq_true, true_or, or_true, true_and, and_true, zg_true, fa_b_f, fa_b_t, L155_0 hp, L155_k6, L155_k9, L155_k19, L155_k33, T23t hp hC, T168t, T169t, zu_zu, f1]
        · simp (disch := omega) only [n32_id, zg_pos, if_pos, if_neg, zu_same, zu_ne, if_true, if_false, ne_eq, not_true_eq_false, not_false_eq_true, true_or, or_true, true_and, and_true, zg_true, fa_b_f, fa_b_t, L305_0, L305_k1, L305_k6, L305_k14, L305_k21, L305_k35, L305_k43, T177, T215t hR h1, T180t, y1]
    · have hR := (h.g2 (a := 2)).1
      have h1 := h.g1 hV (a := 2)
      refine ⟨0, zu E 0 10 2, zu (zg0 (zu E 0 10 2)) 60 11 2, ?_, ?_, h.ref (τ := 2) (by omega) rfl rfl⟩
      · simp (disch := omega) only [n32_id, zg_pos, if_pos, if_neg, zu_same, zu_ne, if_true, if_false, ne_eq, not_true_eq_false, not_false_eq_true, true_or, or_true, true_and, and_true, zg_true, fa_b_f, fa_b_t, L155_0 hp, L155_k6, L155_k9, L155_k19, L155_k33, T23t hp hC, T168t, T169f, zu_zu]
      · simp (disch := omega) only [n32_id, zg_pos, if_pos, if_neg, zu_same, zu_ne, if_true, if_false, ne_eq, not_true_eq_false, not_false_eq_true, true_or, or_true, true_and, and_true, zg_true, fa_b_f, fa_b_t, L305_0, L305_k1, L305_k6, L305_k14, L305_k21, L305_k35, L305_k43, T177, T215t hR h1, T180f, L179_0]
  · have hR := (h.g2 (a := 1)).1
    have h1 := (h.g2 (a := 1)).2
    refine ⟨0, zu E 0 10 1, zu (zg0 (zu E 0 10 1)) 60 11 1, ?_, ?_, h.ref (τ := 1) (by omega) rfl rfl⟩
    · simp (disch := omega) only [n32_id, zg_pos, if_pos, if_neg, zu_same, zu_ne, if_true, if_false, ne_eq, not_true_eq_false, not_false_eq_true, true_or, or_true, true_and, and_true, zg_true, fa_b_f, fa_b_t, L155_0 hp, L155_k6, L155_k9, L155_k19, L155_k33, T23f hp hC, T168f]
    · simp (disch := omega) only [n32_id, zg_pos, if_pos, if_neg, zu_same, zu_ne, if_true, if_false, ne_eq, not_true_eq_false, not_false_eq_true, true_or, or_true, true_and, and_true, zg_true, fa_b_f, fa_b_t, L305_0, L305_k1, L305_k6, L305_k14, L305_k21, L305_k35, L305_k43, T177, T215f hR h1, L179_0]
theorem C156 (h : zI V U T E p q y im n) {m c : Int} (b1 : -2147483648 ≤ m ∧ m < 2147483648) (b2 : -2147483648 ≤ c ∧ c < 2147483648) : ∃ v F H, zf_ev X (d + 20) 156 (0, [vR 0, vI m, vI c], [], zH t p q E) = some (some [vI v], zH t p q F) ∧ zf_ev X (d + 20) 306 (0, [vR 60, vI m, vI c], [], zH t p q F) = some (some [vI v], zH t p q H) ∧ zJ H p q (n + 1) := by
  have hp : zo p := h.1.1
  have hC : zC V E p := h.1.2.1
  by_cases g : (0 ≤ m ∧ m < ((V (4)).val : Int)) ∧ 1 ≤ c ∧ c ≤ ((V (1)).val : Int)
  · obtain ⟨hV, -, -⟩ := h.D (by omega)
    have hm := hV.mems
    have hcl := hV.rows
    have hk : zSg (12 + m) = 19 + 3 * m + 2 := by unfold zSg; rw [if_neg (by omega), if_neg (by omega), if_pos (by omega)]; omega
    have hC0 : zC V (zu E 0 10 0) p := hC.fco hp zFC.u
    by_cases e : ((V (200 + (19 + 3 * m + 2))).val : Int) = c
    · have hR := (h.g2 (a := 5)).1
      have h1 := h.g1 hV (a := 5)
      refine ⟨0, zu (zu E 0 10 0) 0 10 5, zu (zg0 (zu E 0 10 5)) 60 11 5, ?_, ?_, h.ref (τ := 5) (by omega) rfl rfl⟩
      · simp (disch := omega) only [n32_id, zg_pos, if_pos, if_neg, zu_same, zu_ne, if_true, if_false, ne_eq, not_true_eq_false, not_false_eq_true, true_or, or_true, true_and, and_true, zg_true, fa_b_f, fa_b_t, L156_0 hp, L156_k6 hp, L156_k17, L156_k28, L156_k42, T23t hp hC, T25t hp hC, T168t, T174e hp hC0 (c := 12 + m) (z := c) (by omega) (by rw [hk]; exact e)]
      · rw [zu_zu]
        simp (disch := omega) only [n32_id, zg_pos, if_pos, if_neg, zu_same, zu_ne, if_true, if_false, ne_eq, not_true_eq_false, not_false_eq_true, true_or, or_true, true_and, and_true, zg_true, fa_b_f, fa_b_t, L306_0, L306_k1, L306_k6, L306_k14, L306_k30, L306_k38, T177, T215t hR h1, T217t hR h1, T303e hR]
    · obtain ⟨F, H, f1, y1, hR, h1, hj⟩ := chg (X := X) (d := d) (t := t) h hV (c := 12 + m) (z := c) (by omega) hk (by omega) e (zSt_u h hV (by omega) (zQ_mem hV (h.now hV).1.1 g.1.1 g.1.2 (by omega) (by omega)))
      refine ⟨1, F, H, ?_, ?_, hj⟩
      · simp (disch := omega) only [n32_id, zg_pos, if_pos, if_neg, zu_same, zu_ne, if_true, if_false, ne_eq, not_true_eq_false, not_false_eq_true, true_or, or_true, true_and, and_true, zg_true, fa_b_f, fa_b_t, L156_0 hp, L156_k6 hp, L156_k17, L156_k28, L156_k42, T23t hp hC, T25t hp hC, T168t, f1]
      · simp (disch := omega) only [n32_id, zg_pos, if_pos, if_neg, zu_same, zu_ne, if_true, if_false, ne_eq, not_true_eq_false, not_false_eq_true, true_or, or_true, true_and, and_true, zg_true, fa_b_f, fa_b_t, L306_0, L306_k1, L306_k6, L306_k14, L306_k30, L306_k38, T177, T215t hR h1, T217t hR h1, y1]
  · have hR := (h.g2 (a := 1)).1
    have h1 := (h.g2 (a := 1)).2
    refine ⟨0, zu E 0 10 1, zu (zg0 (zu E 0 10 1)) 60 11 1, ?_, ?_, h.ref (τ := 1) (by omega) rfl rfl⟩
    · by_cases g1 : 0 ≤ m ∧ m < ((V (4)).val : Int)
      · simp (disch := omega) only [n32_id, zg_pos, if_pos, if_neg, zu_same, zu_ne, if_true, if_false, ne_eq, not_true_eq_false, not_false_eq_true, true_or, or_true, true_and, and_true, zg_true, fa_b_f, fa_b_t, L156_0 hp, L156_k6 hp, L156_k17, L156_k28, L156_k42, T23t hp hC, T25f hp hC, T168f]
      · simp (disch := omega) only [n32_id, zg_pos, if_pos, if_neg, zu_same, zu_ne, if_true, if_false, ne_eq, not_true_eq_false, not_false_eq_true, true_or, or_true, true_and, and_true, zg_true, fa_b_f, fa_b_t, L156_0 hp, L156_k6 hp, L156_k17, L156_k28, L156_k42, T23f hp hC, T168f]
    · by_cases g1 : 0 ≤ m ∧ m < ((V (4)).val : Int)
      · obtain ⟨hV, -, -⟩ := h.D (by omega)
        have h2 := h.g1 hV (a := 1)
        simp (disch := omega) only [n32_id, zg_pos, if_pos, if_neg, zu_same, zu_ne, if_true, if_false, ne_eq, not_true_eq_false, not_false_eq_true, true_or, or_true, true_and, and_true, zg_true, fa_b_f, fa_b_t, L306_0, L306_k1, L306_k6, L306_k14, L306_k30, L306_k38, T177, T215t hR h2, T217f hR h1, L179_0]
      · simp (disch := omega) only [n32_id, zg_pos, if_pos, if_neg, zu_same, zu_ne, if_true, if_false, ne_eq, not_true_eq_false, not_false_eq_true, true_or, or_true, true_and, and_true, zg_true, fa_b_f, fa_b_t, L306_0, L306_k1, L306_k6, L306_k14, L306_k30, L306_k38, T177, T215f hR h1, L179_0]
theorem C157 (h : zI V U T E p q y im n) {r c : Int} (b1 : -2147483648 ≤ r ∧ r < 2147483648) (b2 : -2147483648 ≤ c ∧ c < 2147483648) : ∃ v F H, zf_ev X (d + 20) 157 (0, [vR 0, vI r, vI c], [], zH t p q E) = some (some [vI v], zH t p q F) ∧ zf_ev X (d + 20) 307 (0, [vR 60, vI r, vI c], [], zH t p q F) = some (some [vI v], zH t p q H) ∧ zJ H p q (n + 1) := by
  have hp : zo p := h.1.1
  have hC : zC V E p := h.1.2.1
  by_cases g : 1 ≤ r ∧ r ≤ ((V (1)).val : Int)
  · obtain ⟨hV, -, -⟩ := h.D (by omega)
    have hm := hV.rows
    have hk : zSg (18 + r) = r := by unfold zSg; rw [if_neg (by omega), if_neg (by omega), if_neg (by omega), if_pos (by omega)]; omega
    have hC0 : zC V (zu E 0 10 0) p := hC.fco hp zFC.u
    by_cases g2 : 0 ≤ c ∧ c ≤ 6
    · by_cases e : ((V (200 + r)).val : Int) = c
      · have hR := (h.g2 (a := 5)).1
        have h1 := h.g1 hV (a := 5)
        refine ⟨0, zu (zu E 0 10 0) 0 10 5, zu (zg0 (zu E 0 10 5)) 60 11 5, ?_, ?_, h.ref (τ := 5) (by omega) rfl rfl⟩
        · simp (disch := omega) only [n32_id, zg_pos, if_pos, if_neg, zu_same, zu_ne, if_true, if_false, ne_eq, not_true_eq_false, not_false_eq_true, true_or, or_true, true_and, and_true, zg_true, fa_b_f, fa_b_t, L157_0 hp, L157_k6, L157_k9, L157_k20, L157_k34, T25t hp hC, T168t, T169t, zu_zu, T174e hp hC0 (c := 18 + r) (z := c) (by omega) (by rw [hk]; exact e)]
        · rw [zu_zu]
          simp (disch := omega) only [n32_id, zg_pos, if_pos, if_neg, zu_same, zu_ne, if_true, if_false, ne_eq, not_true_eq_false, not_false_eq_true, true_or, or_true, true_and, and_true, zg_true, fa_b_f, fa_b_t, L307_0, L307_k1, L307_k6, L307_k14, L307_k22, L307_k31, L307_k39, T177, T217t hR h1, T180t, T303e hR]
      · obtain ⟨F, H, f1, y1, hR, h1, hj⟩ := chg (X := X) (d := d) (t := t) h hV (c := 18 + r) (z := c) (by omega) hk (by omega) e (zSt_u h hV (by omega) (zQ_air hV (h.now hV).1.1 (by omega) (by omega) g2))
        refine ⟨1, F, H, ?_, ?_, hj⟩
        · simp (disch := omega) only [n32_id, zg_pos, if_pos, if_neg, zu_same, zu_ne, if_true, if_false, ne_eq, not_true_eq_false, not_false_eq_true, true_or, or_true, true_and, and_true, zg_true, fa_b_f, fa_b_t, L157_0 hp, L157_k6, L157_k9, L157_k20, L157_k34, T25t hp hC, T168t, T169t, zu_zu, f1]
        · simp (disch := omega) only [n32_id, zg_pos, if_pos, if_neg, zu_same, zu_ne, if_true, if_false, ne_eq, not_true_eq_false, not_false_eq_true, true_or, or_true, true_and, and_true, zg_true, fa_b_f, fa_b_t, L307_0, L307_k1, L307_k6, L307_k14, L307_k22, L307_k31, L307_k39, T177, T217t hR h1, T180t, y1]
    · have hR := (h.g2 (a := 2)).1
      have h1 := h.g1 hV (a := 2)
      refine ⟨0, zu E 0 10 2, zu (zg0 (zu E 0 10 2)) 60 11 2, ?_, ?_, h.ref (τ := 2) (by omega) rfl rfl⟩
      · simp (disch := omega) only [n32_id, zg_pos, if_pos, if_neg, zu_same, zu_ne, if_true, if_false, ne_eq, not_true_eq_false, not_false_eq_true, true_or, or_true, true_and, and_true, zg_true, fa_b_f, fa_b_t, L157_0 hp, L157_k6, L157_k9, L157_k20, L157_k34, T25t hp hC, T168t, T169f, zu_zu]
      · simp (disch := omega) only [n32_id, zg_pos, if_pos, if_neg, zu_same, zu_ne, if_true, if_false, ne_eq, not_true_eq_false, not_false_eq_true, true_or, or_true, true_and, and_true, zg_true, fa_b_f, fa_b_t, L307_0, L307_k1, L307_k6, L307_k14, L307_k22, L307_k31, L307_k39, T177, T217t hR h1, T180f, L179_0]
  · have hR := (h.g2 (a := 1)).1
    have h1 := (h.g2 (a := 1)).2
    refine ⟨0, zu E 0 10 1, zu (zg0 (zu E 0 10 1)) 60 11 1, ?_, ?_, h.ref (τ := 1) (by omega) rfl rfl⟩
    · simp (disch := omega) only [n32_id, zg_pos, if_pos, if_neg, zu_same, zu_ne, if_true, if_false, ne_eq, not_true_eq_false, not_false_eq_true, true_or, or_true, true_and, and_true, zg_true, fa_b_f, fa_b_t, L157_0 hp, L157_k6, L157_k9, L157_k20, L157_k34, T25f hp hC, T168f]
    · simp (disch := omega) only [n32_id, zg_pos, if_pos, if_neg, zu_same, zu_ne, if_true, if_false, ne_eq, not_true_eq_false, not_false_eq_true, true_or, or_true, true_and, and_true, zg_true, fa_b_f, fa_b_t, L307_0, L307_k1, L307_k6, L307_k14, L307_k22, L307_k31, L307_k39, T177, T217f hR h1, L179_0]
end AC

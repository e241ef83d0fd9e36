/-! what stands between calls -/
def zSg (c : Int) : Int := if c < 6 then 20 + 3 * c else if c < 12 then 19 + 3 * (c - 6) else if c < 18 then 21 + 3 * (c - 12) else if c < 25 then c - 18 else if c < 29 then 7 + 2 * (c - 25) else if c < 33 then 8 + 2 * (c - 29) else if c < 37 then 15 + (c - 33) else c
theorem zSg_inj0 : ∀ a b : Fin 39, zSg (a.val : Int) = zSg (b.val : Int) → (a.val : Int) = (b.val : Int) := by decide +kernel
theorem zSg_r0 : ∀ a : Fin 39, 0 ≤ zSg (a.val : Int) ∧ zSg (a.val : Int) < 39 := by decide +kernel
theorem zSg_inj {a b : Int} (h1 : 0 ≤ a ∧ a < 39) (h2 : 0 ≤ b ∧ b < 39) (h : zSg a = zSg b) : a = b := by
  have h3 := zSg_inj0 ⟨a.toNat, by omega⟩ ⟨b.toNat, by omega⟩
  simp only [Int.toNat_of_nonneg h1.1, Int.toNat_of_nonneg h2.1] at h3
  exact h3 h
theorem zSg_r {a : Int} (h1 : 0 ≤ a ∧ a < 39) : 0 ≤ zSg a ∧ zSg a < 39 := by
  have h3 := zSg_r0 ⟨a.toNat, by omega⟩
  simp only [Int.toNat_of_nonneg h1.1] at h3
  exact h3
def zup (V : Int → Fin 65537) (S : Int → Fin 65537) : Int → Fin 65537 := fun k => if 200 ≤ k ∧ k < 239 then S (k - 200) else V k
def zst (V : Int → Fin 65537) : Int → Fin 65537 := fun k => V (200 + k)
theorem zup_st {V : Int → Fin 65537} : zup V (zst V) = V := by
  funext k
  unfold zup zst
  by_cases h : 200 ≤ k ∧ k < 239
  · rw [if_pos h, show 200 + (k - 200) = k by omega]
  · rw [if_neg h]
theorem zup_lo {V S : Int → Fin 65537} {k : Int} (h : k < 200) : zup V S k = V k := if_neg (by omega)
theorem zup_hi {V S : Int → Fin 65537} {k : Int} (h1 : 0 ≤ k) (h2 : k < 39) : zup V S (200 + k) = S k := by
  unfold zup
  rw [if_pos (by omega), show 200 + k - 200 = k by omega]
theorem zup_up {V S R : Int → Fin 65537} : zup (zup V S) R = zup V R := by
  funext k
  unfold zup
  by_cases h : 200 ≤ k ∧ k < 239
  · rw [if_pos h, if_pos h]
  · rw [if_neg h, if_neg h, if_neg h]
def zfn (z : Int) : Fin 65537 := Fin.ofNat 65537 z.toNat
theorem zfn_v {z : Int} (h1 : 0 ≤ z) (h2 : z < 65537) : ((zfn z).val : Int) = z := by
  unfold zfn
  rw [Fin.val_ofNat, Nat.mod_eq_of_lt (by omega)]
  omega
def zsu (S : Int → Fin 65537) (k z : Int) : Int → Fin 65537 := fun x => if x = k then zfn z else S x
theorem zsu_s {S : Int → Fin 65537} {k z : Int} (h1 : 0 ≤ z) (h2 : z < 65537) : ((zsu S k z k).val : Int) = z := by
  unfold zsu
  rw [if_pos rfl, zfn_v h1 h2]
theorem zsu_n {S : Int → Fin 65537} {k z x : Int} (h : x ≠ k) : zsu S k z x = S x := if_neg h
/-- the cells of NOW that a hall may have -/
def zQ (V S : Int → Fin 65537) : Prop := (∀ k, 0 ≤ k → k < 7 → ((S (k)).val : Int) ≤ 7) ∧ (∀ s, 0 ≤ s → s < ((V (3)).val : Int) → ((S (7 + 2 * s)).val : Int) < ((V (0)).val : Int) ∧ 1 ≤ ((S (7 + 2 * s + 1)).val : Int) ∧ ((S (7 + 2 * s + 1)).val : Int) ≤ ((V (1)).val : Int)) ∧ (∀ m, 0 ≤ m → m < ((V (4)).val : Int) → ((S (19 + 3 * m)).val : Int) ≤ 3 ∧ ((S (19 + 3 * m + 1)).val : Int) < ((V (0)).val : Int) ∧ 1 ≤ ((S (19 + 3 * m + 2)).val : Int) ∧ ((S (19 + 3 * m + 2)).val : Int) ≤ ((V (1)).val : Int)) ∧
  (∀ s x, 0 ≤ s → s < ((V (3)).val : Int) → 0 ≤ x → x < ((V (3)).val : Int) → s ≠ x → ¬ (((S (7 + 2 * s)).val : Int) = ((S (7 + 2 * x)).val : Int) ∧ ((S (7 + 2 * s + 1)).val : Int) = ((S (7 + 2 * x + 1)).val : Int))) ∧ (∀ s, 0 ≤ s → s < ((V (3)).val : Int) → sp_lamp V ((S (7 + 2 * s)).val : Int) ((S (7 + 2 * s + 1)).val : Int) = false) ∧ sp_cb (fun r => decide (((S (r)).val : Int) = 7)) (((V (1)).val : Int)).toNat 1 ≤ 3
def zBd (S : Int → Fin 65537) (n : Int) : Prop := ((S (37)).val : Int) ≤ n ∧ ∀ s, 0 ≤ s → s < 4 → ((S (15 + s)).val : Int) ≤ n
def zSt (V S : Int → Fin 65537) (n : Int) : Prop := zQ V S ∧ zBd S n
theorem sp_cb_c {b c : Int → Bool} : ∀ (k : Nat) (i : Int), (∀ j, i ≤ j → j < i + k → b j = c j) → sp_cb b k i = sp_cb c k i := by
  intro k
  induction k with
  | zero => intro i h; rfl
  | succ k ih =>
    intro i h
    unfold sp_cb
    rw [h i (by omega) (by omega), ih (i + 1) (fun j a b => h j (by omega) (by omega))]
theorem fa_any_c {f g : Int → Bool} : ∀ (k : Nat) (i : Int), (∀ j, i ≤ j → j < i + k → f j = g j) → fa_any f k i = fa_any g k i := by
  intro k
  induction k with
  | zero => intro i h; rfl
  | succ k ih =>
    intro i h
    unfold fa_any
    rw [h i (by omega) (by omega), ih (i + 1) (fun j a b => h j (by omega) (by omega))]
theorem sp_lamp_up {V S : Int → Fin 65537} (hV : zV V) {c r : Int} : sp_lamp (zup V S) c r = sp_lamp V c r := by
  have hl := hV.lmps
  unfold sp_lamp
  rw [zup_lo (by omega)]
  refine fa_any_c _ _ (fun j a b => ?_)
  rw [zup_lo (by omega), zup_lo (by omega)]
theorem zQ.up {V S R : Int → Fin 65537} (hV : zV V) (h : zQ V R) : zQ (zup V S) R := by
  obtain ⟨h1, h2, h3, h4, h5, h6⟩ := h
  unfold zQ
  rw [zup_lo (V := V) (S := S) (k := 0) (by omega), zup_lo (V := V) (S := S) (k := 1) (by omega), zup_lo (V := V) (S := S) (k := 3) (by omega), zup_lo (V := V) (S := S) (k := 4) (by omega)]
  exact ⟨h1, h2, h3, h4, fun s a b => by rw [sp_lamp_up hV]; exact h5 s a b, h6⟩
theorem zSt.up {V S R : Int → Fin 65537} {n : Int} (hV : zV V) (h : zSt V R n) : zSt (zup V S) R n := ⟨h.1.up hV, h.2⟩
theorem zBd.mono {S : Int → Fin 65537} {n m : Int} (h : zBd S n) (hm : n ≤ m) : zBd S m := ⟨by have := h.1; omega, fun s a b => by have := h.2 s a b; omega⟩
theorem zSt.mono {V S : Int → Fin 65537} {n m : Int} (h : zSt V S n) (hm : n ≤ m) : zSt V S m := ⟨h.1, h.2.mono hm⟩
theorem zQ.V {V S : Int → Fin 65537} (hV : zV V) (h : zQ V S) : zV (zup V S) := by
  obtain ⟨h1, h2, h3, h4, h5, h6⟩ := h
  obtain ⟨v1, v2, v3, v4, v5, v6, v7, v8, v9, v10, v11, v12⟩ := hV
  unfold zV
  rw [zup_lo (V := V) (S := S) (k := 0) (by omega), zup_lo (V := V) (S := S) (k := 1) (by omega), zup_lo (V := V) (S := S) (k := 2) (by omega), zup_lo (V := V) (S := S) (k := 3) (by omega), zup_lo (V := V) (S := S) (k := 4) (by omega), zup_lo (V := V) (S := S) (k := 5) (by omega), zup_lo (V := V) (S := S) (k := 6) (by omega)]
  refine ⟨v1, v2, v3, v4, v5, v6, v7, fun k a b => ?_, fun s a b => ?_, fun m a b => ?_, fun i a b => ?_, fun f a b => ?_⟩
  · rw [zup_hi a (by omega)]
    exact h1 k a b
  · rw [zup_hi (by omega) (by omega), zup_hi (by omega) (by omega)]
    exact h2 s a b
  · have hh := h3 m a b
    have hw := v10 m a b
    rw [zup_hi (by omega) (by omega), zup_hi (by omega) (by omega), zup_hi (by omega) (by omega), zup_lo (by omega), zup_lo (by omega)]
    exact ⟨hh.1, hh.2.1, hh.2.2.1, hh.2.2.2, hw.2.2.2.2.1, hw.2.2.2.2.2⟩
  · rw [zup_lo (by omega), zup_lo (by omega)]
    exact v11 i a b
  · rw [zup_lo (by omega), zup_lo (by omega), zup_lo (by omega)]
    exact v12 f a b
theorem zQ.D {V S : Int → Fin 65537} (hV : zV V) (h : zQ V S) : zDs (zup V S) := by
  obtain ⟨h1, h2, h3, h4, h5, h6⟩ := h
  have hk := hV.spks
  have e : ∀ s, 0 ≤ s → s < ((V (3)).val : Int) → sp_C (zup V S) s = ((S (7 + 2 * s)).val : Int) ∧ sp_R (zup V S) s = ((S (7 + 2 * s + 1)).val : Int) := fun s a b => by
    unfold sp_C sp_R
    rw [zup_hi (by omega) (by omega), zup_hi (by omega) (by omega)]
    exact ⟨rfl, rfl⟩
  unfold zDs
  rw [zup_lo (V := V) (S := S) (k := 3) (by omega)]
  refine ⟨fun s x a b c d g => ?_, fun s a b => ?_⟩
  · rw [(e s a b).1, (e s a b).2, (e x c d).1, (e x c d).2]
    exact h4 s x a b c d g
  · rw [(e s a b).1, (e s a b).2, sp_lamp_up hV]
    exact h5 s a b
theorem zQ.K {V S : Int → Fin 65537} (hV : zV V) (h : zQ V S) : sp_K (zup V S) ≤ 3 := by
  have hr := hV.rows
  unfold sp_K sp_u
  rw [zup_lo (V := V) (S := S) (k := 1) (by omega), show ((V (1)).val : Int) + 1 - 1 = ((V (1)).val : Int) by omega, sp_cb_c (c := fun r => decide (((S (r)).val : Int) = 7)) _ _ (fun j a b => by
    unfold sp_isu
    rw [zup_hi (by omega) (by omega)])]
  exact h.2.2.2.2.2
theorem zQ.now {V : Int → Fin 65537} (h : zQ V (zst V)) (hV : zV V) : zDs V ∧ sp_K V ≤ 3 := by
  have h1 := h.D hV
  have h2 := h.K hV
  rw [zup_st] at h1 h2
  exact ⟨h1, h2⟩
/-- cells of the class -/
theorem zC.cell {V : Int → Fin 65537} {E : Nat → Int → Int} {o : Nat} (h : zC V E o) : ∀ c, 0 ≤ c → c < 39 → E (o + 1) c = ((V (200 + zSg c)).val : Int) := by
  intro c a b
  unfold zSg
  by_cases g1 : c < 6
  · rw [if_pos g1]
    have := h.seat c a g1
    rw [show (0 : Int) + c = c by omega] at this
    rw [this]
    exact zV_eq (by omega)
  · rw [if_neg g1]
    by_cases g2 : c < 12
    · rw [if_pos g2]
      have := h.fold (c - 6) (by omega) (by omega)
      rw [show 6 + (c - 6) = c by omega] at this
      rw [this]
    · rw [if_neg g2]
      by_cases g3 : c < 18
      · rw [if_pos g3]
        have := h.far (c - 12) (by omega) (by omega)
        rw [show 12 + (c - 12) = c by omega] at this
        rw [this]
        exact zV_eq (by omega)
      · rw [if_neg g3]
        by_cases g4 : c < 25
        · rw [if_pos g4]
          have := h.air (c - 18) (by omega) (by omega)
          rw [show 18 + (c - 18) = c by omega] at this
          rw [this]
        · rw [if_neg g4]
          by_cases g5 : c < 29
          · rw [if_pos g5]
            have := h.sc (c - 25) (by omega) (by omega)
            rw [show 25 + (c - 25) = c by omega] at this
            rw [this]
          · rw [if_neg g5]
            by_cases g6 : c < 33
            · rw [if_pos g6]
              have := h.sr (c - 29) (by omega) (by omega)
              rw [show 29 + (c - 29) = c by omega] at this
              rw [this]
              exact zV_eq (by omega)
            · rw [if_neg g6]
              by_cases g7 : c < 37
              · rw [if_pos g7]
                have := h.won (c - 33) (by omega) (by omega)
                rw [show 33 + (c - 33) = c by omega] at this
                rw [this]
              · rw [if_neg g7]
                by_cases g8 : c = 37
                · rw [g8]; exact h.held
                · rw [show c = 38 by omega]; exact h.seed
theorem zC_cells {V : Int → Fin 65537} {F : Nat → Int → Int} {o : Nat} (hc : ∀ c, 0 ≤ c → c < 39 → F (o + 1) c = ((V (200 + zSg c)).val : Int)) (h0 : F o 9 = ((V (0)).val : Int) ∧ F o 10 = ((V (1)).val : Int) ∧ F o 11 = ((V (2)).val : Int) ∧ F o 12 = ((V (3)).val : Int) ∧ F o 13 = ((V (4)).val : Int) ∧ F o 14 = ((V (5)).val : Int) ∧ F o 15 = ((V (6)).val : Int)) (h1 : ∀ m, 0 ≤ m → m < ((V (4)).val : Int) → F (o + 2) m = ((V (30 + 5 * m + 3)).val : Int) ∧ F (o + 3) m = ((V (30 + 5 * m + 4)).val : Int)) (h2 : ∀ i, 0 ≤ i → i < ((V (5)).val : Int) → F (o + 4) i = ((V (60 + 2 * i)).val : Int) ∧ F (o + 5) i = ((V (60 + 2 * i + 1)).val : Int)) (h3 : ∀ f, 0 ≤ f → f < ((V (6)).val : Int) → F (o + 6) f = ((V (66 + 3 * f)).val : Int) ∧ F (o + 7) f = ((V (66 + 3 * f + 1)).val : Int) ∧ F (o + 8) f = ((V (66 + 3 * f + 2)).val : Int)) : zC V F o := by
  refine ⟨h0, fun m a b => ?_, fun m a b => ?_, fun m a b => ?_, fun k a b => ?_, fun s a b => ?_, fun s a b => ?_, fun s a b => ?_, ⟨?_, ?_⟩, h1, h2, h3⟩
  · rw [hc _ (by omega) (by omega)]
    unfold zSg
    rw [if_pos (by omega)]
    exact zV_eq (by omega)
  · rw [hc _ (by omega) (by omega)]
    unfold zSg
    rw [if_neg (by omega), if_pos (by omega)]
    exact zV_eq (by omega)
  · rw [hc _ (by omega) (by omega)]
    unfold zSg
    rw [if_neg (by omega), if_neg (by omega), if_pos (by omega)]
    exact zV_eq (by omega)
  · rw [hc _ (by omega) (by omega)]
    unfold zSg
    rw [if_neg (by omega), if_neg (by omega), if_neg (by omega), if_pos (by omega)]
    exact zV_eq (by omega)
  · rw [hc _ (by omega) (by omega)]
    unfold zSg
    rw [if_neg (by omega), if_neg (by omega), if_neg (by omega), if_neg (by omega), if_pos (by omega)]
    exact zV_eq (by omega)
  · rw [hc _ (by omega) (by omega)]
    unfold zSg
    rw [if_neg (by omega), if_neg (by omega), if_neg (by omega), if_neg (by omega), if_neg (by omega), if_pos (by omega)]
    exact zV_eq (by omega)
  · rw [hc _ (by omega) (by omega)]
    unfold zSg
    rw [if_neg (by omega), if_neg (by omega), if_neg (by omega), if_neg (by omega), if_neg (by omega), if_neg (by omega), if_pos (by omega)]
    exact zV_eq (by omega)
  · exact hc 37 (by omega) (by omega)
  · exact hc 38 (by omega) (by omega)
theorem zC.st {V S : Int → Fin 65537} {E F : Nat → Int → Int} {o : Nat} (hV : zV V) (h : zC V E o) (hf : ∀ a b, o ≤ a → a < o + 9 → a ≠ o + 1 → F a b = E a b) (hc : ∀ c, 0 ≤ c → c < 39 → F (o + 1) c = ((S (zSg c)).val : Int)) : zC (zup V S) F o := by
  have hm := hV.mems
  have hl := hV.lmps
  have hfl := hV.flts
  refine zC_cells (fun c a b => ?_) ?_ (fun m a b => ?_) (fun i a b => ?_) (fun f a b => ?_)
  · have := zSg_r ⟨a, b⟩
    rw [hc c a b, zup_hi this.1 this.2]
  · rw [hf _ _ (by omega) (by omega) (by omega), hf _ _ (by omega) (by omega) (by omega), hf _ _ (by omega) (by omega) (by omega), hf _ _ (by omega) (by omega) (by omega), hf _ _ (by omega) (by omega) (by omega), hf _ _ (by omega) (by omega) (by omega), hf _ _ (by omega) (by omega) (by omega), zup_lo (by omega), zup_lo (by omega), zup_lo (by omega), zup_lo (by omega), zup_lo (by omega), zup_lo (by omega), zup_lo (by omega)]
    exact h.1
  · rw [zup_lo (by omega)] at b
    rw [hf _ _ (by omega) (by omega) (by omega), hf _ _ (by omega) (by omega) (by omega), zup_lo (by omega), zup_lo (by omega)]
    exact ⟨h.sharp m a b, h.errs m a b⟩
  · rw [zup_lo (by omega)] at b
    rw [hf _ _ (by omega) (by omega) (by omega), hf _ _ (by omega) (by omega) (by omega), zup_lo (by omega), zup_lo (by omega)]
    exact ⟨h.lc i a b, h.lr i a b⟩
  · rw [zup_lo (by omega)] at b
    rw [hf _ _ (by omega) (by omega) (by omega), hf _ _ (by omega) (by omega) (by omega), hf _ _ (by omega) (by omega) (by omega), zup_lo (by omega), zup_lo (by omega), zup_lo (by omega)]
    exact ⟨h.fs f a b, h.fr' f a b, h.fc f a b⟩
theorem zR.st {V S : Int → Fin 65537} {E F : Nat → Int → Int} (h : zR V E) (h1 : ∀ b, F 63 b = E 63 b) (h2 : ∀ k, 0 ≤ k → k < 39 → F 65 k = ((S (k)).val : Int)) : zR (zup V S) F := ⟨fun k a b => by rw [h1, zup_lo (by omega)]; exact h.1 k a b, fun k a b => by rw [h2 k a b, zup_hi a b]⟩
theorem zR.cell {V : Int → Fin 65537} {E : Nat → Int → Int} (h : zR V E) : ∀ k, 0 ≤ k → k < 39 → E 65 k = (((zst V) (k)).val : Int) := h.2
/-- the past: kept and images -/
def zPC (U T : Int → Int → Fin 65537) (E : Nat → Int → Int) (y im : Int) : Prop := (E 6 3 = y ∧ E 6 4 = im) ∧ (0 ≤ E 6 2 ∧ E 6 2 < 16) ∧ (∀ j, 0 ≤ j → j < y → ∀ c, 0 ≤ c → c < 39 → E 7 ((E 6 2 + 15 - j) % 16 * 39 + c) = (((U j) (zSg c)).val : Int)) ∧ (∀ i, 0 ≤ i → i < im → ∀ c, 0 ≤ c → c < 39 → E 8 (i * 39 + c) = (((T i) (zSg c)).val : Int))
def zPM (U T : Int → Int → Fin 65537) (E : Nat → Int → Int) (y im : Int) : Prop := (E 60 20 = y ∧ E 60 21 = im) ∧ (∀ j, 0 ≤ j → j < y → ∀ k, 0 ≤ k → k < 39 → E 66 (39 * (y - 1 - j) + k) = (((U j) (k)).val : Int)) ∧ (∀ i, 0 ≤ i → i < im → ∀ k, 0 ≤ k → k < 39 → E 67 (39 * i + k) = (((T i) (k)).val : Int))
theorem zPC.fr {U T : Int → Int → Fin 65537} {E F : Nat → Int → Int} {y im : Int} (h : zPC U T E y im) (hf : ∀ a b, 6 ≤ a → a ≤ 8 → F a b = E a b) : zPC U T F y im := by
  obtain ⟨h1, h2, h3, h4⟩ := h
  refine ⟨?_, ?_, fun j a b c x y => ?_, fun i a b c x y => ?_⟩
  · rw [hf _ _ (by omega) (by omega), hf _ _ (by omega) (by omega)]; exact h1
  · rw [hf _ _ (by omega) (by omega)]; exact h2
  · rw [hf _ _ (by omega) (by omega), hf _ _ (by omega) (by omega)]; exact h3 j a b c x y
  · rw [hf _ _ (by omega) (by omega)]; exact h4 i a b c x y
theorem zPM.fr {U T : Int → Int → Fin 65537} {E F : Nat → Int → Int} {y im : Int} (h : zPM U T E y im) (h1 : F 60 20 = E 60 20) (h2 : F 60 21 = E 60 21) (hf : ∀ a b, 66 ≤ a → a ≤ 67 → F a b = E a b) : zPM U T F y im := by
  obtain ⟨g1, g2, g3⟩ := h
  refine ⟨by rw [h1, h2]; exact g1, fun j a b c x y => ?_, fun i a b c x y => ?_⟩
  · rw [hf _ _ (by omega) (by omega)]; exact g2 j a b c x y
  · rw [hf _ _ (by omega) (by omega)]; exact g3 i a b c x y
/-- the tapes -/
def zTp (E : Nat → Int → Int) : Prop := (E 2 1 = E 60 2 ∧ 0 ≤ E 2 1 ∧ E 2 1 ≤ 900) ∧ ∀ k, 0 ≤ k → k < E 2 1 → (0 ≤ E 61 k ∧ E 61 k ≤ 255) ∧ E 3 k = if E 61 k < 128 then E 61 k else E 61 k - 256
theorem zTp.fr {E F : Nat → Int → Int} (h : zTp E) (h1 : F 2 1 = E 2 1) (h2 : F 60 2 = E 60 2) (h3 : ∀ b, F 61 b = E 61 b) (h4 : ∀ b, F 3 b = E 3 b) : zTp F := by
  refine ⟨by rw [h1, h2]; exact h.1, fun k a b => ?_⟩
  rw [h3, h4]
  rw [h1] at b
  exact h.2 k a b
/-- all of it: n calls have been made -/
def zHs (V : Int → Fin 65537) (U T : Int → Int → Fin 65537) (y im n : Int) : Prop := (0 ≤ y ∧ y ≤ 16) ∧ (0 ≤ im ∧ im ≤ 3) ∧ ((zV V ∧ zSt V (zst V) n ∧ (∀ j, 0 ≤ j → j < y → zSt V (U j) n) ∧ (∀ i, 0 ≤ i → i < im → zSt V (T i) n)) ∨ ((∀ k, V k = 0) ∧ y = 0 ∧ im = 0))
def zTau (E : Nat → Int → Int) : Prop := (E 0 10 = E 60 11 ∧ 0 ≤ E 0 10 ∧ E 0 10 ≤ 6) ∧ E 0 11 = E 60 9 ∧ E 0 12 = E 60 10
def zI (V : Int → Fin 65537) (U T : Int → Int → Fin 65537) (E : Nat → Int → Int) (p q : Nat) (y im n : Int) : Prop := zG V E p ∧ (zo q ∧ p ≠ q) ∧ zTau E ∧ zTp E ∧ zPC U T E y im ∧ zPM U T E y im ∧ zHs V U T y im n
/-- some state of this kind -/
def zJ (E : Nat → Int → Int) (p q : Nat) (n : Int) : Prop := ∃ V U T y im, zI V U T E p q y im n
theorem zHs.mono {V : Int → Fin 65537} {U T : Int → Int → Fin 65537} {y im n m : Int} (h : zHs V U T y im n) (hm : n ≤ m) : zHs V U T y im m := by
  obtain ⟨h1, h2, h3⟩ := h
  refine ⟨h1, h2, ?_⟩
  rcases h3 with ⟨a, b, c, d⟩ | h3
  · exact Or.inl ⟨a, b.mono hm, fun j x y => (c j x y).mono hm, fun i x y => (d i x y).mono hm⟩
  · exact Or.inr h3
section IV
variable {V : Int → Fin 65537} {U T : Int → Int → Fin 65537} {E F H : Nat → Int → Int} {p q : Nat} {y im n : Int}
/-- a question of the class and of the reference leave it so -/
theorem zI.ask {τ : Int} (h : zI V U T E p q y im n) (hf : zFC E F) (h1 : F 0 10 = τ) (hg : zFM F H) (h2 : H 60 11 = τ) (hτ : 0 ≤ τ ∧ τ ≤ 6) : zI V U T H p q y im (n + 1) := by
  obtain ⟨i1, i2, i3, i4, i5, i6, i7⟩ := h
  have e1 : ∀ a b, a < 9 → (a ≠ 0 ∨ b ≠ 10) → H a b = E a b := fun a b u v => by rw [hg a b (by omega) (by omega), hf a b (by omega) (by omega) (by omega) v]
  have e2 : ∀ b, b ≠ 0 → b ≠ 11 → b ≠ 26 → b ≠ 28 → b ≠ 29 → b ≠ 32 → b ≠ 34 → b ≠ 35 → b ≠ 37 → H 60 b = E 60 b := fun b _ _ _ _ _ _ _ _ _ => by rw [hg 60 b (by omega) (by omega), hf 60 b (by omega) (by omega) (by omega) (by omega)]
  have e3 : ∀ a b, 61 ≤ a → a < 68 → H a b = E a b := fun a b u v => by rw [hg a b (by omega) (by omega), hf a b (by omega) (by omega) (by omega) (by omega)]
  refine ⟨(i1.fc hf).fm hg, i2, ⟨⟨?_, ?_⟩, ?_, ?_⟩, i4.fr (e1 _ _ (by omega) (by omega)) (e2 _ (by omega) (by omega) (by omega) (by omega) (by omega) (by omega) (by omega) (by omega) (by omega)) (fun b => e3 _ _ (by omega) (by omega)) (fun b => e1 _ _ (by omega) (by omega)), i5.fr (fun a b _ _ => e1 a b (by omega) (by omega)), i6.fr (e2 _ (by omega) (by omega) (by omega) (by omega) (by omega) (by omega) (by omega) (by omega) (by omega)) (e2 _ (by omega) (by omega) (by omega) (by omega) (by omega) (by omega) (by omega) (by omega) (by omega)) (fun a b _ _ => e3 a b (by omega) (by omega)), i7.mono (by omega)⟩
  · rw [hg 0 10 (by omega) (by omega), h1, h2]
  · rw [hg 0 10 (by omega) (by omega), h1]
    exact hτ
  · rw [e1 _ _ (by omega) (by omega), e2 _ (by omega) (by omega) (by omega) (by omega) (by omega) (by omega) (by omega) (by omega) (by omega)]
    exact i3.2.1
  · rw [e1 _ _ (by omega) (by omega), e2 _ (by omega) (by omega) (by omega) (by omega) (by omega) (by omega) (by omega) (by omega) (by omega)]
    exact i3.2.2
theorem zI.D (h : zI V U T E p q y im n) (hs : 0 < ((V (3)).val : Int) ∨ 0 < ((V (4)).val : Int) ∨ 0 < ((V (0)).val : Int) ∨ 0 < ((V (1)).val : Int)) : zV V ∧ zDs V ∧ sp_K V ≤ 3 := by
  obtain ⟨i1, i2, i3, i4, i5, i6, i7⟩ := h
  rcases i7.2.2 with ⟨a, b, -, -⟩ | ⟨a, -⟩
  · have := b.1.now a
    exact ⟨a, this⟩
  · have := zG.no a
    omega
end IV

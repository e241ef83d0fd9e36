/-! led; feed -/
def sp_le (f : Int → Int) (w i : Int) : Nat → Int → Int → Option Int
  | 0, _, _ => none
  | k + 1, m, z => if f m = w then (if z = i then some m else sp_le f w i k (m + 1) (z + 1)) else sp_le f w i k (m + 1) z
def zlc (X : Nat × (Nat → Int)) (t : List (Nat × Nat)) (p q : Nat) (E : Nat → Int → Int) (r : Option Int) : Option (Option (List ZV) × ZH) := match r with
  | some m => some (some [vI m], zH t p q E)
  | none => some (none, zH t p q E)
def zlm (X : Nat × (Nat → Int)) (t : List (Nat × Nat)) (p q : Nat) (E : Nat → Int → Int) (r : Option Int) : Option (Option (List ZV) × ZH) := match r with
  | some m => some (some [vI m], zH t p q (zu E 60 0 0))
  | none => some (some [vI 0], zH t p q (zu E 60 0 1))
theorem zm_and255 (a : Int) : zm_iand a 255 = n32 a % 256 := by
  unfold zm_iand n32
  generalize Int32.ofInt a = w
  have h1 : (w &&& Int32.ofInt 255).toBitVec = w.toBitVec &&& 255#32 := rfl
  have h2 : (w.toBitVec &&& 255#32).toNat = w.toBitVec.toNat % 256 := by
    rw [BitVec.toNat_and]
    exact Nat.and_two_pow_sub_one_eq_mod _ 8
  show (w &&& Int32.ofInt 255).toBitVec.toInt = w.toBitVec.toInt % 256
  have h3 := w.toBitVec.isLt
  rw [h1, BitVec.toInt_eq_toNat_cond, BitVec.toInt_eq_toNat_cond, h2]
  split <;> split <;> omega
theorem zm_i2b_m (a : Int) : zm_i2b a = if n32 a % 256 < 128 then n32 a % 256 else n32 a % 256 - 256 := by
  have h : zm_i2b a = Int.bmod (n32 a) 256 := by
    unfold zm_i2b n32
    generalize Int32.ofInt a = w
    simp
  rw [h, Int.bmod_def]
  rfl
def zsg (b : Int) : Int := if b < 128 then b else b - 256
theorem zm_i2b_2 (a : Int) : zm_i2b (zm_i2b a) = zsg (zm_iand a 255) := by
  have h1 := zm_i2b_m a
  have h2 : -128 ≤ zm_i2b a ∧ zm_i2b a < 128 := by
    rw [h1]
    split <;> omega
  rw [zm_i2b_m (zm_i2b a), n32_id (by omega) (by omega), zm_and255]
  unfold zsg
  rw [h1] at h2 ⊢
  split <;> split <;> omega
def zb (x j : Int) : Int := zm_iand (zm_ishr x (24 - 8 * j)) 255
theorem zb_r {x j : Int} : 0 ≤ zb x j ∧ zb x j ≤ 255 := by
  unfold zb
  rw [zm_and255]
  omega
def zar (a b c e f k : Int) : Int := if k < 4 then a else if k < 8 then b else if k < 12 then c else if k < 16 then e else f
section LE
variable {X : Nat × (Nat → Int)} {d : Nat} {t : List (Nat × Nat)} {p q : Nat} {E : Nat → Int → Int} {V : Int → Fin 65537} {U T : Int → Int → Fin 65537} {y im n : Int}
theorem T164_loop (hp : zo p) (hC : zC V E p) (hV : zV V) {i w : Int} (hi : -2147483648 ≤ i ∧ i < 2147483648) (hw : 0 ≤ w ∧ w < 4) : ∀ (k : Nat) (m z : Int), 0 ≤ m → m + k = ((V (4)).val : Int) → 0 ≤ z → z ≤ m → zf_ev X (d + 5) 164 (28, [vR 0, vI i, vI w, vI z, vI m], [], zH t p q E) = zlc X t p q E (sp_le (sp_vn V) w i k m z) := by
  have hm := hV.mems
  have hk := hV.spks
  intro k
  induction k with
  | zero =>
    intro m z h1 h2 h3 h4
    rw [L164_28 hp]
    simp (disch := omega) only [n32_id, zg_pos, if_pos, if_neg, zu_same, zu_ne, if_true, if_false, ne_eq, not_true_eq_false, not_false_eq_true, true_or, or_true, true_and, and_true, zg_true, fa_b_f, fa_b_t, hC.mems]
    rfl
  | succ k ih =>
    intro m z h1 h2 h3 h4
    have hv := sp_vn_r hV (m := m)
    have e40 := T40 (X := X) (d := d + 1) (t := t) (p := p) (q := q) hp hC hV h1 (m := m) (by omega)
    have e40 : zf_ev X (d + 4) 40 (0, [vR p, vI m], [], zH t p q E) = some (some [vI (sp_vn V m)], zH t p q E) := e40
    rw [L164_28 hp]
    simp (disch := omega) only [n32_id, zg_pos, if_pos, if_neg, zu_same, zu_ne, if_true, if_false, ne_eq, not_true_eq_false, not_false_eq_true, true_or, or_true, true_and, and_true, zg_true, fa_b_f, fa_b_t, hC.mems]
    rw [e40, L164_k50]
    unfold sp_le
    by_cases g : sp_vn V m = w
    · by_cases g2 : z = i
      · simp (disch := omega) only [n32_id, zg_pos, if_pos, if_neg, zu_same, zu_ne, if_true, if_false, ne_eq, not_true_eq_false, not_false_eq_true, true_or, or_true, true_and, and_true, zg_true, fa_b_f, fa_b_t]
        rfl
      · simp (disch := omega) only [n32_id, zg_pos, if_pos, if_neg, zu_same, zu_ne, if_true, if_false, ne_eq, not_true_eq_false, not_false_eq_true, true_or, or_true, true_and, and_true, zg_true, fa_b_f, fa_b_t]
        exact ih _ _ (by omega) (by omega) (by omega) (by omega)
    · simp (disch := omega) only [n32_id, zg_pos, if_pos, if_neg, zu_same, zu_ne, if_true, if_false, ne_eq, not_true_eq_false, not_false_eq_true, true_or, or_true, true_and, and_true, zg_true, fa_b_f, fa_b_t]
      exact ih _ _ (by omega) (by omega) (by omega) (by omega)
theorem T314_loop (hV : zV V) {i w : Int} (hi : -2147483648 ≤ i ∧ i < 2147483648) (hw : 0 ≤ w ∧ w < 4) : ∀ (k : Nat) (m z : Int) (E : Nat → Int → Int), zR V E → zS (sp_C V) (sp_R V) ((V (3)).val : Int) E → 0 ≤ m → m + k = ((V (4)).val : Int) → 0 ≤ z → z ≤ m → ∃ F, zf_ev X (d + 5) 314 (24, [vR 60, vI i, vI z, vI w, vI m], [], zH t p q E) = zlm X t p q F (sp_le (sp_vn V) w i k m z) ∧ (∀ a9 b9, a9 ≠ 68 → F a9 b9 = E a9 b9) := by
  have hm := hV.mems
  have hk := hV.spks
  intro k
  induction k with
  | zero =>
    intro m z E hR hS h1 h2 h3 h4
    refine ⟨E, ?_, fun a b _ => rfl⟩
    rw [L314_24]
    simp (disch := omega) only [n32_id, zg_pos, if_pos, if_neg, zu_same, zu_ne, if_true, if_false, ne_eq, not_true_eq_false, not_false_eq_true, true_or, or_true, true_and, and_true, zg_true, fa_b_f, fa_b_t, hR.r]
    rfl
  | succ k ih =>
    intro m z E hR hS h1 h2 h3 h4
    have hv := sp_vn_r hV (m := m)
    have e33 := T233 (X := X) (d := d + 1) (t := t) (p := p) (q := q) hR hV hS h1 (m := m) (by omega)
    have e33 : zf_ev X (d + 4) 233 (0, [vR 60, vI m], [], zH t p q E) = some (some [vI (sp_vn V m)], zH t p q (zA V E)) := e33
    unfold sp_le
    by_cases g : sp_vn V m = w
    · by_cases g2 : z = i
      · refine ⟨zA V E, ?_, fun a b u => zA_ne u⟩
        rw [L314_24]
        simp (disch := omega) only [n32_id, zg_pos, if_pos, if_neg, zu_same, zu_ne, if_true, if_false, ne_eq, not_true_eq_false, not_false_eq_true, true_or, or_true, true_and, and_true, zg_true, fa_b_f, fa_b_t, hR.r]
        rw [e33, L314_k42]
        simp (disch := omega) only [n32_id, zg_pos, if_pos, if_neg, zu_same, zu_ne, if_true, if_false, ne_eq, not_true_eq_false, not_false_eq_true, true_or, or_true, true_and, and_true, zg_true, fa_b_f, fa_b_t]
        rfl
      · obtain ⟨F, f1, f2⟩ := ih (m + 1) (z + 1) (zA V E) hR.A hS.A (by omega) (by omega) (by omega) (by omega)
        refine ⟨F, ?_, fun a b u => by rw [f2 a b u, zA_ne u]⟩
        rw [L314_24]
        simp (disch := omega) only [n32_id, zg_pos, if_pos, if_neg, zu_same, zu_ne, if_true, if_false, ne_eq, not_true_eq_false, not_false_eq_true, true_or, or_true, true_and, and_true, zg_true, fa_b_f, fa_b_t, hR.r]
        rw [e33, L314_k42]
        simp (disch := omega) only [n32_id, zg_pos, if_pos, if_neg, zu_same, zu_ne, if_true, if_false, ne_eq, not_true_eq_false, not_false_eq_true, true_or, or_true, true_and, and_true, zg_true, fa_b_f, fa_b_t]
        exact f1
    · obtain ⟨F, f1, f2⟩ := ih (m + 1) z (zA V E) hR.A hS.A (by omega) (by omega) (by omega) (by omega)
      refine ⟨F, ?_, fun a b u => by rw [f2 a b u, zA_ne u]⟩
      rw [L314_24]
      simp (disch := omega) only [n32_id, zg_pos, if_pos, if_neg, zu_same, zu_ne, if_true, if_false, ne_eq, not_true_eq_false, not_false_eq_true, true_or, or_true, true_and, and_true, zg_true, fa_b_f, fa_b_t, hR.r]
      rw [e33, L314_k42]
      simp (disch := omega) only [n32_id, zg_pos, if_pos, if_neg, zu_same, zu_ne, if_true, if_false, ne_eq, not_true_eq_false, not_false_eq_true, true_or, or_true, true_and, and_true, zg_true, fa_b_f, fa_b_t]
      exact f1
theorem zI.same {F : Nat → Int → Int} (h : zI V U T E p q y im n) (hf : zFC E F) (h1 : F 0 10 = E 0 10) : zI V U T F p q y im n := by
  obtain ⟨i1, i2, i3, i4, i5, i6, i7⟩ := h
  have e1 : ∀ a b, a < 9 → F a b = E a b := fun a b u => by
    by_cases g : a ≠ 0 ∨ b ≠ 10
    · exact hf a b (by omega) (by omega) (by omega) g
    · rw [show a = 0 by omega, show b = 10 by omega]
      exact h1
  have e2 : ∀ a b, 60 ≤ a → F a b = E a b := fun a b u => hf a b (by omega) (by omega) (by omega) (by omega)
  refine ⟨i1.fc hf, i2, ?_, i4.fr (e1 _ _ (by omega)) (e2 _ _ (by omega)) (fun b => e2 _ _ (by omega)) (fun b => e1 _ _ (by omega)), i5.fr (fun a b _ _ => e1 a b (by omega)), i6.fr (e2 _ _ (by omega)) (e2 _ _ (by omega)) (fun a b _ _ => e2 a b (by omega)), i7⟩
  unfold zTau
  rw [e1 0 10 (by omega), e1 0 11 (by omega), e1 0 12 (by omega), e2 60 11 (by omega), e2 60 9 (by omega), e2 60 10 (by omega)]
  exact i3
theorem zI.hi {F : Nat → Int → Int} (h : zI V U T E p q y im n) (hf : ∀ a b, a < 77 → F a b = E a b) : zI V U T F p q y im n := by
  obtain ⟨i1, i2, i3, i4, i5, i6, i7⟩ := h
  have hp2 : p = 40 ∨ p = 50 := i1.1
  refine ⟨⟨i1.1, i1.2.1.fr (fun a b u v => hf a b (by omega)), i1.2.2.1.fr (fun b => hf _ _ (by omega)) (fun b => hf _ _ (by omega)), by rw [hf _ _ (by omega)]; exact i1.2.2.2⟩, i2, ?_, i4.fr (hf _ _ (by omega)) (hf _ _ (by omega)) (fun b => hf _ _ (by omega)) (fun b => hf _ _ (by omega)), i5.fr (fun a b _ _ => hf a b (by omega)), i6.fr (hf _ _ (by omega)) (hf _ _ (by omega)) (fun a b _ _ => hf a b (by omega)), i7⟩
  unfold zTau
  rw [hf _ _ (by omega), hf _ _ (by omega), hf _ _ (by omega), hf _ _ (by omega), hf _ _ (by omega), hf _ _ (by omega)]
  exact i3
def sv_led (V : Int → Fin 65537) (i : Int) : Option Int := if 0 < ((V (3)).val : Int) ∧ 0 ≤ sv_win V then sp_le (sp_vn V) (sv_win V) i (((V (4)).val : Int)).toNat 0 0 else none
theorem sp_le_r {f : Int → Int} {w i : Int} : ∀ (k : Nat) (m z r : Int), 0 ≤ m → sp_le f w i k m z = some r → m ≤ r ∧ r < m + k := by
  intro k
  induction k with
  | zero => intro m z r _ h; cases h
  | succ k ih =>
    intro m z r h0 h
    unfold sp_le at h
    split at h
    · split at h
      · have : m = r := Option.some.inj h
        omega
      · have := ih _ _ _ (by omega) h
        omega
    · have := ih _ _ _ (by omega) h
      omega
theorem sv_led_r (hV : zV V ∨ ∀ k, V k = 0) {i r : Int} (h : sv_led V i = some r) : 0 ≤ r ∧ r < 6 := by
  unfold sv_led at h
  split at h
  next g =>
    have hm : ((V (4)).val : Int) ≤ 6 := by
      rcases hV with hV | hz
      · exact hV.mems
      · have := zG.no hz
        omega
    have := sp_le_r _ _ _ _ (by omega) h
    omega
  · cases h
theorem C164 (h : zI V U T E p q y im n) {i : Int} (hi : -2147483648 ≤ i ∧ i < 2147483648) : ∃ F, zf_ev X (d + 19) 164 (0, [vR 0, vI i, vJ, vJ, vJ], [], zH t p q E) = zlc X t p q F (sv_led V i) ∧ zI V U T F p q y im n := by
  have hp : zo p := h.1.1
  have hp2 : p = 40 ∨ p = 50 := hp
  have hC : zC V E p := h.1.2.1
  by_cases g : 0 < ((V (3)).val : Int)
  · obtain ⟨hV, -, -⟩ := h.D (by omega)
    have hm := hV.mems
    have hk := hV.spks
    obtain ⟨F, f1, f2⟩ := T42 (X := X) (d := d + 14) (t := t) (p := p) (q := q) hp hC hV
    have f1 : zf_ev X (d + 18) 42 (0, [vR p, vJ, vJ], [], zH t p q E) = some (some [vI (sv_win V)], zH t p q F) := f1
    have hC2 : zC V F p := hC.fr (fun a b u v => f2 a b (by omega))
    have hfc : zFC E F := fun a b u1 u2 u3 u4 => f2 a b (by omega)
    have hw : sv_win V = -2 ∨ 0 ≤ sv_win V ∧ sv_win V < ((V (3)).val : Int) := sp_win_r (by omega)
    refine ⟨F, ?_, h.same hfc (f2 _ _ (by omega))⟩
    rw [L164_0 hp, T21t hp hC g, L164_k4 hp]
    simp (disch := omega) only [n32_id, zg_pos, if_pos, if_neg, zu_same, zu_ne, if_true, if_false, ne_eq, not_true_eq_false, not_false_eq_true, true_or, or_true, true_and, and_true, zg_true, fa_b_f, fa_b_t, f1]
    rw [L164_k14]
    rcases hw with hw | hw
    · have e : sv_led V i = none := by unfold sv_led; rw [if_neg (by omega)]
      rw [e, L164_28 hp]
      by_cases g2 : ((V (4)).val : Int) ≤ 0
      · simp (disch := omega) only [n32_id, zg_pos, if_pos, if_neg, zu_same, zu_ne, if_true, if_false, ne_eq, not_true_eq_false, not_false_eq_true, true_or, or_true, true_and, and_true, zg_true, fa_b_f, fa_b_t, hC2.mems]
        rfl
      · simp (disch := omega) only [n32_id, zg_pos, if_pos, if_neg, zu_same, zu_ne, if_true, if_false, ne_eq, not_true_eq_false, not_false_eq_true, true_or, or_true, true_and, and_true, zg_true, fa_b_f, fa_b_t, hC2.mems]
        rfl
    · have e : sv_led V i = sp_le (sp_vn V) (sv_win V) i (((V (4)).val : Int)).toNat 0 0 := by unfold sv_led; rw [if_pos ⟨g, hw.1⟩]
      rw [e]
      exact T164_loop (d := d + 14) hp hC2 hV hi (by omega) (((V (4)).val : Int)).toNat 0 0 (by omega) (by omega) (by omega) (by omega)
  · have hz : ((V (4)).val : Int) = 0 := by
      rcases h.1.2.2.2 with ⟨hV, -⟩ | ⟨hz, -⟩
      · have := hV.spks
        omega
      · exact (zG.no hz).2.2.2.2.1
    refine ⟨E, ?_, h⟩
    rw [L164_0 hp, T21f hp hC (by omega), L164_k4 hp]
    simp (disch := omega) only [n32_id, zg_pos, if_pos, if_neg, zu_same, zu_ne, if_true, if_false, ne_eq, not_true_eq_false, not_false_eq_true, true_or, or_true, true_and, and_true, zg_true, fa_b_f, fa_b_t]
    have e : sv_led V i = none := by unfold sv_led; rw [if_neg (by omega)]
    rw [e, L164_28 hp]
    simp (disch := omega) only [n32_id, zg_pos, if_pos, if_neg, zu_same, zu_ne, if_true, if_false, ne_eq, not_true_eq_false, not_false_eq_true, true_or, or_true, true_and, and_true, zg_true, fa_b_f, fa_b_t, hC.mems]
    rfl
theorem C314 (h : zI V U T E p q y im n) {i : Int} (hi : -2147483648 ≤ i ∧ i < 2147483648) : ∃ H, zf_ev X (d + 20) 314 (0, [vR 60, vI i, vJ, vJ, vJ], [], zH t p q E) = zlm X t p q H (sv_led V i) ∧ (∀ b, H 77 b = E 77 b) ∧ ∀ z, zI V U T (zu H 60 0 z) p q y im (n + 1) := by
  have hp : zo p := h.1.1
  have hp2 : p = 40 ∨ p = 50 := hp
  have hR : zR V E := h.1.2.2.1
  have fin : ∀ (H : Nat → Int → Int) (z : Int), zFM E H → H 60 11 = E 60 11 → zI V U T (zu H 60 0 z) p q y im (n + 1) := fun H z hH h11 => h.ask zFC.rfl' rfl (hH.tr zFM.u0) (by rw [zu_ne (by omega), h11]; exact h.2.2.1.1.1.symm) h.2.2.1.1.2
  by_cases g : 0 < ((V (3)).val : Int)
  · obtain ⟨hV, -, -⟩ := h.D (by omega)
    have hm := hV.mems
    have hk := hV.spks
    have h14 := (h.now hV).2
    obtain ⟨G, g1, g2, g3, g4⟩ := T238 (X := X) (d := d + 14) (t := t) (p := p) (q := q) hV hR
    have hRG : zR V G := hR.fr (fun b => g2 _ _ (by omega) (by omega) (by omega)) (fun b => g2 _ _ (by omega) (by omega) (by omega))
    have e235 : zf_ev X (d + 19) 235 (0, [vR 60, vJ, vJ], [], zH t p q G) = some (some [vI (sv_win V)], zH t p q G) := T235 hRG hV (w := sp_cn (sp_vote V (sp_C V) (sp_R V)) ((V (4)).val : Int)) (fun s a b => by
      have := sp_cn_r (f := sp_vote V (sp_C V) (sp_R V)) (n := ((V (4)).val : Int)) (s := s) (by omega)
      exact ⟨g3 s a b, by omega, by omega⟩)
    have hw : sv_win V = -2 ∨ 0 ≤ sv_win V ∧ sv_win V < ((V (3)).val : Int) := sp_win_r (by omega)
    rcases hw with hw | hw
    · refine ⟨G, ?_, fun b => g2 _ _ (by omega) (by omega) (by omega), fun z => fin G z (fun a b u v => g2 a b (by omega) (by omega) (by omega)) (g2 _ _ (by omega) (by omega) (by omega))⟩
      rw [L314_0]
      simp (disch := omega) only [n32_id, zg_pos, if_pos, if_neg, zu_same, zu_ne, if_true, if_false, ne_eq, not_true_eq_false, not_false_eq_true, true_or, or_true, true_and, and_true, zg_true, fa_b_f, fa_b_t, h14, g1]
      have e : sv_led V i = none := by unfold sv_led; rw [if_neg (by omega)]
      rw [L314_k13, e235, L314_k17, L314_24, e]
      simp (disch := omega) only [n32_id, zg_pos, if_pos, if_neg, zu_same, zu_ne, if_true, if_false, ne_eq, not_true_eq_false, not_false_eq_true, true_or, or_true, true_and, and_true, zg_true, fa_b_f, fa_b_t]
      rfl
    · obtain ⟨F, f1, f2⟩ := T314_loop (X := X) (d := d + 15) (t := t) (p := p) (q := q) hV (i := i) (w := sv_win V) hi (by omega) (((V (4)).val : Int)).toNat 0 0 G hRG g4 (by omega) (by omega) (by omega) (by omega)
      refine ⟨F, ?_, fun b => by rw [f2 _ _ (by omega), g2 _ _ (by omega) (by omega) (by omega)], fun z => fin F z (fun a b u v => by rw [f2 a b (by omega), g2 a b (by omega) (by omega) (by omega)]) (by rw [f2 _ _ (by omega), g2 _ _ (by omega) (by omega) (by omega)])⟩
      rw [L314_0]
      simp (disch := omega) only [n32_id, zg_pos, if_pos, if_neg, zu_same, zu_ne, if_true, if_false, ne_eq, not_true_eq_false, not_false_eq_true, true_or, or_true, true_and, and_true, zg_true, fa_b_f, fa_b_t, h14, g1]
      have e : sv_led V i = sp_le (sp_vn V) (sv_win V) i (((V (4)).val : Int)).toNat 0 0 := by unfold sv_led; rw [if_pos ⟨g, hw.1⟩]
      rw [L314_k13, e235, L314_k17, e]
      exact f1
  · have h14 : E 60 14 = 0 := by
      rcases h.1.2.2.2 with ⟨hV, -⟩ | ⟨-, h⟩
      · have := hV.spks
        omega
      · exact h
    refine ⟨E, ?_, fun b => rfl, fun z => fin E z zFM.rfl' rfl⟩
    rw [L314_0]
    simp (disch := omega) only [n32_id, zg_pos, if_pos, if_neg, zu_same, zu_ne, if_true, if_false, ne_eq, not_true_eq_false, not_false_eq_true, true_or, or_true, true_and, and_true, zg_true, fa_b_f, fa_b_t, h14]
    have e : sv_led V i = none := by unfold sv_led; rw [if_neg (by omega)]
    rw [L314_24, e]
    simp (disch := omega) only [n32_id, zg_pos, if_pos, if_neg, zu_same, zu_ne, if_true, if_false, ne_eq, not_true_eq_false, not_false_eq_true, true_or, or_true, true_and, and_true, zg_true, fa_b_f, fa_b_t]
    rfl
/-- feed -/
theorem T107_loop {x L : Int} (hL : 0 ≤ L ∧ L + 4 ≤ 900) : ∀ (k : Nat) (j : Int) (E : Nat → Int → Int), 0 ≤ j → j + k = 4 → E 2 1 = L + j → ∃ F, zf_ev X d 107 (3, [vR 2, vI x, vI (24 - 8 * j)], [], zH t p q E) = some (some [], zH t p q F) ∧ F 2 1 = L + 4 ∧ (∀ i, j ≤ i → i < 4 → F 3 (L + i) = zsg (zb x i)) ∧ (∀ b, (b < L + j ∨ L + 4 ≤ b) → F 3 b = E 3 b) ∧ (∀ a9 b9, (a9 ≠ 2 ∨ b9 ≠ 1) → a9 ≠ 3 → F a9 b9 = E a9 b9) := by
  intro k
  induction k with
  | zero =>
    intro j E h1 h2 h3
    refine ⟨E, ?_, by omega, fun i a b => by omega, fun b _ => rfl, fun a b _ _ => rfl⟩
    rw [L107_3]
    simp (disch := omega) only [n32_id, zg_pos, if_pos, if_neg, zu_same, zu_ne, if_true, if_false, ne_eq, not_true_eq_false, not_false_eq_true, true_or, or_true, true_and, and_true, zg_true, fa_b_f, fa_b_t]
  | succ k ih =>
    intro j E h1 h2 h3
    have e1 : 24 - 8 * j + -8 = 24 - 8 * (j + 1) := by omega
    have e2 : zm_i2b (zm_i2b (zm_ishr x (24 - 8 * j))) = zsg (zb x j) := zm_i2b_2 _
    obtain ⟨F, f1, f2, f3, f4, f5⟩ := ih (j + 1) (zu (zu E 3 (L + j) (zsg (zb x j))) 2 1 (L + j + 1)) (by omega) (by omega) (by rw [zu_same]; omega)
    refine ⟨F, ?_, f2, fun i a b => ?_, fun b w => ?_, fun a b u v => by rw [f5 a b u v, zu_ne u, zu_ne (Or.inl v)]⟩
    · rw [L107_3]
      simp (disch := omega) only [n32_id, zg_pos, if_pos, if_neg, zu_same, zu_ne, if_true, if_false, ne_eq, not_true_eq_false, not_false_eq_true, true_or, or_true, true_and, and_true, zg_true, fa_b_f, fa_b_t, h3, e1, e2]
      exact f1
    · by_cases g : i = j
      · rw [f4 _ (by omega), zu_ne (by omega), g, zu_same]
      · exact f3 i (by omega) b
    · rw [f4 b (by omega), zu_ne (by omega), zu_ne (by omega)]
theorem T107 {x L : Int} (hL : 0 ≤ L ∧ L + 4 ≤ 900) (h : E 2 1 = L) : ∃ F, zf_ev X d 107 (0, [vR 2, vI x, vJ], [], zH t p q E) = some (some [], zH t p q F) ∧ F 2 1 = L + 4 ∧ (∀ i, 0 ≤ i → i < 4 → F 3 (L + i) = zsg (zb x i)) ∧ (∀ b, (b < L ∨ L + 4 ≤ b) → F 3 b = E 3 b) ∧ (∀ a9 b9, (a9 ≠ 2 ∨ b9 ≠ 1) → a9 ≠ 3 → F a9 b9 = E a9 b9) := by
  obtain ⟨F, f1, f2, f3, f4, f5⟩ := T107_loop (X := X) (d := d) (t := t) (p := p) (q := q) (x := x) hL 4 0 E (by omega) (by omega) (by omega)
  refine ⟨F, ?_, f2, f3, fun b w => f4 b (by omega), f5⟩
  rw [L107_0]
  exact f1
theorem T185_loop {a b c e f L : Int} (hL : 0 ≤ L ∧ L + 20 ≤ 900) : ∀ (k : Nat) (j : Int) (E : Nat → Int → Int) (j7 : ZV), 0 ≤ j → j + k = 20 → E 60 2 = L + j → ∃ F, zf_ev X d 185 (23, [vR 60, vI a, vI b, vI c, vI e, vI f, vI j, j7], [], zH t p q E) = some (some [vI (L + 20)], zH t p q F) ∧ F 60 2 = L + 20 ∧ (∀ i, j ≤ i → i < 20 → F 61 (L + i) = zb (zar a b c e f i) (i % 4)) ∧ (∀ b, b < L + j → F 61 b = E 61 b) ∧ (∀ a9 b9, (a9 ≠ 60 ∨ b9 ≠ 2) → a9 ≠ 61 → F a9 b9 = E a9 b9) := by
  intro k
  induction k with
  | zero =>
    intro j E j7 h1 h2 h3
    refine ⟨E, ?_, by omega, fun i a b => by omega, fun b _ => rfl, fun a b _ _ => rfl⟩
    rw [L185_23]
    simp (disch := omega) only [n32_id, zg_pos, if_pos, if_neg, zu_same, zu_ne, if_true, if_false, ne_eq, not_true_eq_false, not_false_eq_true, true_or, or_true, true_and, and_true, zg_true, fa_b_f, fa_b_t, h3]
    rw [show L + j = L + 20 by omega]
  | succ k ih =>
    intro j E j7 h1 h2 h3
    have e1 : j.tmod 4 = j % 4 := Int.tmod_eq_emod_of_nonneg h1
    obtain ⟨F, f1, f2, f3, f4, f5⟩ := ih (j + 1) (zu (zu E 61 (L + j) (zb (zar a b c e f j) (j % 4))) 60 2 (L + j + 1)) (vI (zar a b c e f j)) (by omega) (by omega) (by rw [zu_same]; omega)
    refine ⟨F, ?_, f2, fun i u v => ?_, fun b w => ?_, fun a b u v => by rw [f5 a b u v, zu_ne u, zu_ne (Or.inl v)]⟩
    · unfold zar zb at f1
      rw [L185_23]
      by_cases g1 : j < 4
      · rw [if_pos g1] at f1
        simp (disch := omega) only [n32_id, zg_pos, if_pos, if_neg, zu_same, zu_ne, if_true, if_false, ne_eq, not_true_eq_false, not_false_eq_true, true_or, or_true, true_and, and_true, zg_true, fa_b_f, fa_b_t, h3, e1]
        exact f1
      · rw [if_neg g1] at f1
        by_cases g2 : j < 8
        · rw [if_pos g2] at f1
          simp (disch := omega) only [n32_id, zg_pos, if_pos, if_neg, zu_same, zu_ne, if_true, if_false, ne_eq, not_true_eq_false, not_false_eq_true, true_or, or_true, true_and, and_true, zg_true, fa_b_f, fa_b_t, h3, e1]
          exact f1
        · rw [if_neg g2] at f1
          by_cases g3 : j < 12
          · rw [if_pos g3] at f1
            simp (disch := omega) only [n32_id, zg_pos, if_pos, if_neg, zu_same, zu_ne, if_true, if_false, ne_eq, not_true_eq_false, not_false_eq_true, true_or, or_true, true_and, and_true, zg_true, fa_b_f, fa_b_t, h3, e1]
            exact f1
          · rw [if_neg g3] at f1
            by_cases g4 : j < 16
            · rw [if_pos g4] at f1
              simp (disch := omega) only [n32_id, zg_pos, if_pos, if_neg, zu_same, zu_ne, if_true, if_false, ne_eq, not_true_eq_false, not_false_eq_true, true_or, or_true, true_and, and_true, zg_true, fa_b_f, fa_b_t, h3, e1]
              exact f1
            · rw [if_neg g4] at f1
              simp (disch := omega) only [n32_id, zg_pos, if_pos, if_neg, zu_same, zu_ne, if_true, if_false, ne_eq, not_true_eq_false, not_false_eq_true, true_or, or_true, true_and, and_true, zg_true, fa_b_f, fa_b_t, h3, e1]
              exact f1
    · by_cases g : i = j
      · rw [f4 _ (by omega), zu_ne (by omega), g, zu_same]
      · exact f3 i (by omega) v
    · rw [f4 b (by omega), zu_ne (by omega), zu_ne (by omega)]
theorem C114 (h : zI V U T E p q y im n) {a b c e f : Int} : ∃ v F H, zf_ev X (d + 20) 114 (0, [vR 0, vI a, vI b, vI c, vI e, vI f], [], zH t p q E) = some (some [vI v], zH t p q F) ∧ zf_ev X (d + 20) 185 (0, [vR 60, vI a, vI b, vI c, vI e, vI f, vJ, vJ], [], zH t p q F) = some (some [vI v], zH t p q H) ∧ zJ H p q (n + 1) := by
  have hh := h
  obtain ⟨i1, i2, i3, ⟨⟨i4, i5, i6⟩, i7⟩, i8, i9, i10⟩ := h
  have hp2 : p = 40 ∨ p = 50 := i1.1
  by_cases g : E 2 1 + 20 ≤ 900
  · obtain ⟨A, a1, a2, a3, a4, a5⟩ := T107 (X := X) (d := d + 19) (t := t) (p := p) (q := q) (x := a) (L := E 2 1) (by omega) rfl
    obtain ⟨B, b1, b2, b3, b4, b5⟩ := T107 (X := X) (d := d + 19) (t := t) (p := p) (q := q) (x := b) (L := E 2 1 + 4) (by omega) a2
    obtain ⟨C, c1, c2, c3, c4, c5⟩ := T107 (X := X) (d := d + 19) (t := t) (p := p) (q := q) (x := c) (L := E 2 1 + 4 + 4) (by omega) b2
    obtain ⟨D, d1, d2, d3, d4, d5⟩ := T107 (X := X) (d := d + 19) (t := t) (p := p) (q := q) (x := e) (L := E 2 1 + 4 + 4 + 4) (by omega) c2
    obtain ⟨F, f1, f2, f3, f4, f5⟩ := T107 (X := X) (d := d + 19) (t := t) (p := p) (q := q) (x := f) (L := E 2 1 + 4 + 4 + 4 + 4) (by omega) d2
    have fr : ∀ x z, (x ≠ 2 ∨ z ≠ 1) → x ≠ 3 → F x z = E x z := fun x z u v => by rw [f5 x z u v, d5 x z u v, c5 x z u v, b5 x z u v, a5 x z u v]
    have lo : ∀ z, z < E 2 1 → F 3 z = E 3 z := fun z u => by rw [f4 z (by omega), d4 z (by omega), c4 z (by omega), b4 z (by omega), a4 z (by omega)]
    have hi : ∀ k, 0 ≤ k → k < 20 → F 3 (E 2 1 + k) = zsg (zb (zar a b c e f k) (k % 4)) := fun k u v => by
      unfold zar
      by_cases g1 : k < 4
      · rw [if_pos g1, f4 _ (by omega), d4 _ (by omega), c4 _ (by omega), b4 _ (by omega), a3 k u g1, show k % 4 = k by omega]
      · rw [if_neg g1]
        by_cases g2 : k < 8
        · rw [if_pos g2, f4 _ (by omega), d4 _ (by omega), c4 _ (by omega), show E 2 1 + k = E 2 1 + 4 + (k - 4) by omega, b3 (k - 4) (by omega) (by omega), show k % 4 = k - 4 by omega]
        · rw [if_neg g2]
          by_cases g3 : k < 12
          · rw [if_pos g3, f4 _ (by omega), d4 _ (by omega), show E 2 1 + k = E 2 1 + 4 + 4 + (k - 8) by omega, c3 (k - 8) (by omega) (by omega), show k % 4 = k - 8 by omega]
          · rw [if_neg g3]
            by_cases g4 : k < 16
            · rw [if_pos g4, f4 _ (by omega), show E 2 1 + k = E 2 1 + 4 + 4 + 4 + (k - 12) by omega, d3 (k - 12) (by omega) (by omega), show k % 4 = k - 12 by omega]
            · rw [if_neg g4, show E 2 1 + k = E 2 1 + 4 + 4 + 4 + 4 + (k - 16) by omega, f3 (k - 16) (by omega) (by omega), show k % 4 = k - 16 by omega]
    have e602 : F 60 2 = E 2 1 := by rw [fr _ _ (by omega) (by omega), i4]
    obtain ⟨H, y1, y2, y3, y4, y5⟩ := T185_loop (X := X) (d := d + 20) (t := t) (p := p) (q := q) (a := a) (b := b) (c := c) (e := e) (f := f) (L := E 2 1) (by omega) 20 0 (zu F 60 0 0) vJ (by omega) (by omega) (by rw [zu_ne (by omega), e602]; omega)
    have hfr : ∀ x z, (x ≠ 2 ∨ z ≠ 1) → x ≠ 3 → (x ≠ 60 ∨ z ≠ 2 ∧ z ≠ 0) → x ≠ 61 → H x z = E x z := fun x z u v w s => by rw [y5 x z (by omega) s, zu_ne (by omega), fr x z u v]
    have eL : H 2 1 = E 2 1 + 20 := by rw [y5 _ _ (by omega) (by omega), zu_ne (by omega), f2]; omega
    refine ⟨E 2 1 + 20, F, H, ?_, ?_, V, U, T, y, im, ⟨i1.1, i1.2.1.fr (fun x z u v => hfr x z (by omega) (by omega) (by omega) (by omega)), i1.2.2.1.fr (fun z => hfr _ _ (by omega) (by omega) (by omega) (by omega)) (fun z => hfr _ _ (by omega) (by omega) (by omega) (by omega)), by rw [hfr _ _ (by omega) (by omega) (by omega) (by omega)]; exact i1.2.2.2⟩, i2, ?_, ⟨⟨?_, ?_, ?_⟩, fun k u v => ?_⟩, i8.fr (fun x z u v => hfr x z (by omega) (by omega) (by omega) (by omega)), i9.fr (hfr _ _ (by omega) (by omega) (by omega) (by omega)) (hfr _ _ (by omega) (by omega) (by omega) (by omega)) (fun x z u v => hfr x z (by omega) (by omega) (by omega) (by omega)), i10.mono (by omega)⟩
    · simp (disch := omega) only [n32_id, zg_pos, if_pos, if_neg, zu_same, zu_ne, if_true, if_false, ne_eq, not_true_eq_false, not_false_eq_true, true_or, or_true, true_and, and_true, zg_true, fa_b_f, fa_b_t, L114_0, L114_k4, L114_k17, L114_k25, L114_k33, L114_k42, L114_k51, L106_0, a1, b1, c1, d1, f1, f2]
      rw [show E 2 1 + 4 + 4 + 4 + 4 + 4 = E 2 1 + 20 by omega]
    · rw [L185_0]
      simp (disch := omega) only [n32_id, zg_pos, if_pos, if_neg, zu_same, zu_ne, if_true, if_false, ne_eq, not_true_eq_false, not_false_eq_true, true_or, or_true, true_and, and_true, zg_true, fa_b_f, fa_b_t, e602]
      exact y1
    · unfold zTau
      rw [hfr _ _ (by omega) (by omega) (by omega) (by omega), hfr _ _ (by omega) (by omega) (by omega) (by omega), hfr _ _ (by omega) (by omega) (by omega) (by omega), hfr _ _ (by omega) (by omega) (by omega) (by omega), hfr _ _ (by omega) (by omega) (by omega) (by omega), hfr _ _ (by omega) (by omega) (by omega) (by omega)]
      exact i3
    · rw [eL, y2]
    · omega
    · omega
    · rw [eL] at v
      have e3 : H 3 k = F 3 k := by rw [y5 _ _ (by omega) (by omega), zu_ne (by omega)]
      rw [e3]
      by_cases g1 : k < E 2 1
      · rw [lo k g1, y4 k (by omega), zu_ne (by omega), fr _ _ (by omega) (by omega)]
        exact i7 k u g1
      · have q1 := hi (k - E 2 1) (by omega) (by omega)
        have q2 := y3 (k - E 2 1) (by omega) (by omega)
        rw [show E 2 1 + (k - E 2 1) = k by omega] at q1 q2
        rw [q1, q2]
        exact ⟨zb_r, rfl⟩
  · refine ⟨-1, E, zu E 60 0 0, ?_, ?_, hh.tell zFC.rfl' rfl zFM.u0 (zu_ne (by omega))⟩
    · simp (disch := omega) only [n32_id, zg_pos, if_pos, if_neg, zu_same, zu_ne, if_true, if_false, ne_eq, not_true_eq_false, not_false_eq_true, true_or, or_true, true_and, and_true, zg_true, fa_b_f, fa_b_t, L114_0, L114_k4, L114_k17, L114_k25, L114_k33, L114_k42, L114_k51, L106_0]
    · rw [L185_0]
      simp (disch := omega) only [n32_id, zg_pos, if_pos, if_neg, zu_same, zu_ne, if_true, if_false, ne_eq, not_true_eq_false, not_false_eq_true, true_or, or_true, true_and, and_true, zg_true, fa_b_f, fa_b_t, ← i4]
end LE

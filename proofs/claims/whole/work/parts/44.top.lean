/-! the state that both sides share; first questions -/
def zFC (E F : Nat → Int → Int) : Prop := ∀ a b, (a < 9 ∨ 39 < a) → a ≠ 49 → a ≠ 59 → (a ≠ 0 ∨ b ≠ 10) → F a b = E a b
def zFM (E F : Nat → Int → Int) : Prop := ∀ a b, (a < 68 ∨ 76 < a) → (a ≠ 60 ∨ (b ≠ 0 ∧ b ≠ 11 ∧ b ≠ 26 ∧ b ≠ 28 ∧ b ≠ 29 ∧ b ≠ 32 ∧ b ≠ 34 ∧ b ≠ 35 ∧ b ≠ 37)) → F a b = E a b
/-- the hall of both sides: V is told by both; where there is none, all is 0 -/
def zG (V : Int → Fin 65537) (E : Nat → Int → Int) (p : Nat) : Prop := zo p ∧ zC V E p ∧ zR V E ∧ ((zV V ∧ E 60 14 = 1) ∨ ((∀ k, V k = 0) ∧ E 60 14 = 0))
theorem zR.fm {V : Int → Fin 65537} {E F : Nat → Int → Int} (h : zR V E) (hf : zFM E F) : zR V F := h.fr (fun b => hf _ _ (by omega) (by omega)) (fun b => hf _ _ (by omega) (by omega))
theorem zC.fco {V : Int → Fin 65537} {E F : Nat → Int → Int} {o : Nat} (h : zC V E o) (ho : zo o) (hf : zFC E F) : zC V F o := h.fr (fun a b g1 g2 => by
  unfold zo at ho
  exact hf a b (by omega) (by omega) (by omega) (by omega))
theorem zG.fc {V : Int → Fin 65537} {E F : Nat → Int → Int} {p : Nat} (h : zG V E p) (hf : zFC E F) : zG V F p := by
  obtain ⟨hp, hC, hR, hh⟩ := h
  refine ⟨hp, hC.fco hp hf, hR.fr (fun b => hf _ _ (by omega) (by omega) (by omega) (by omega)) (fun b => hf _ _ (by omega) (by omega) (by omega) (by omega)), ?_⟩
  rw [hf 60 14 (by omega) (by omega) (by omega) (by omega)]
  exact hh
theorem zG.fm {V : Int → Fin 65537} {E F : Nat → Int → Int} {p : Nat} (h : zG V E p) (hf : zFM E F) : zG V F p := by
  obtain ⟨hp, hC, hR, hh⟩ := h
  refine ⟨hp, hC.fr (fun a b g1 g2 => by unfold zo at hp; exact hf a b (by omega) (by omega)), hR.fm hf, ?_⟩
  rw [hf 60 14 (by omega) (by omega)]
  exact hh
theorem zFC.rfl' {E : Nat → Int → Int} : zFC E E := fun _ _ _ _ _ _ => rfl
theorem zFM.rfl' {E : Nat → Int → Int} : zFM E E := fun _ _ _ _ => rfl
theorem zFC.tr {E F H : Nat → Int → Int} (h1 : zFC E F) (h2 : zFC F H) : zFC E H := fun a b g1 g2 g3 g4 => by rw [h2 a b g1 g2 g3 g4, h1 a b g1 g2 g3 g4]
theorem zFM.tr {E F H : Nat → Int → Int} (h1 : zFM E F) (h2 : zFM F H) : zFM E H := fun a b g1 g2 => by rw [h2 a b g1 g2, h1 a b g1 g2]
theorem zFC.u {E : Nat → Int → Int} {z : Int} : zFC E (zu E 0 10 z) := fun a b _ _ _ g => zu_ne g
/-- what good() leaves -/
def zg0 (E : Nat → Int → Int) : Nat → Int → Int := zu (zu E 60 0 0) 60 11 0
theorem zFM.g0 {E : Nat → Int → Int} : zFM E (zg0 E) := fun a b _ g => by
  unfold zg0
  rw [zu_ne (by omega), zu_ne (by omega)]
theorem zFM.u11 {E : Nat → Int → Int} {z : Int} : zFM E (zu E 60 11 z) := fun a b _ g => zu_ne (by omega)
theorem zFM.e14 {E F : Nat → Int → Int} (h : zFM E F) : F 60 14 = E 60 14 := h _ _ (by omega) (by omega)
section TP
variable {X : Nat × (Nat → Int)} {d : Nat} {t : List (Nat × Nat)} {p q : Nat} {E : Nat → Int → Int} {V : Int → Fin 65537} {C R : Int → Int} {o : Nat}
theorem zG.no (h : ∀ k, V k = 0) : ((V (0)).val : Int) = 0 ∧ ((V (1)).val : Int) = 0 ∧ ((V (2)).val : Int) = 0 ∧ ((V (3)).val : Int) = 0 ∧ ((V (4)).val : Int) = 0 ∧ ((V (5)).val : Int) = 0 ∧ ((V (6)).val : Int) = 0 := by simp [h]
/-- the class's small questions: yes and no -/
theorem T21t (ho : zo o) (hC : zC V E o) (h : 0 < ((V (3)).val : Int)) : zf_ev X d 21 (0, [vR o], [], zH t p q E) = some (some [vI 1], zH t p q E) := by
  rw [L21_0 ho]; simp (disch := omega) only [n32_id, zg_pos, if_pos, if_neg, zu_same, zu_ne, if_true, if_false, ne_eq, not_true_eq_false, not_false_eq_true, true_or, or_true, true_and, and_true, zg_true, fa_b_f, fa_b_t, hC.spks]
theorem T21f (ho : zo o) (hC : zC V E o) (h : ((V (3)).val : Int) ≤ 0) : zf_ev X d 21 (0, [vR o], [], zH t p q E) = some (some [vI 0], zH t p q E) := by
  rw [L21_0 ho]; simp (disch := omega) only [n32_id, zg_pos, if_pos, if_neg, zu_same, zu_ne, if_true, if_false, ne_eq, not_true_eq_false, not_false_eq_true, true_or, or_true, true_and, and_true, zg_true, fa_b_f, fa_b_t, hC.spks]
theorem T22t (ho : zo o) (hC : zC V E o) {s : Int} (h1 : 0 ≤ s) (h2 : s < ((V (3)).val : Int)) : zf_ev X d 22 (0, [vR o, vI s], [], zH t p q E) = some (some [vI 1], zH t p q E) := by
  rw [L22_0 ho]; simp (disch := omega) only [n32_id, zg_pos, if_pos, if_neg, zu_same, zu_ne, if_true, if_false, ne_eq, not_true_eq_false, not_false_eq_true, true_or, or_true, true_and, and_true, zg_true, fa_b_f, fa_b_t, hC.spks]
theorem T22f (ho : zo o) (hC : zC V E o) {s : Int} (h0 : -2147483648 ≤ s ∧ s < 2147483648) (h : s < 0 ∨ ((V (3)).val : Int) ≤ s) : zf_ev X d 22 (0, [vR o, vI s], [], zH t p q E) = some (some [vI 0], zH t p q E) := by
  rw [L22_0 ho]
  by_cases g : s < 0 <;> simp (disch := omega) only [n32_id, zg_pos, if_pos, if_neg, zu_same, zu_ne, if_true, if_false, ne_eq, not_true_eq_false, not_false_eq_true, true_or, or_true, true_and, and_true, zg_true, fa_b_f, fa_b_t, hC.spks]
theorem T23t (ho : zo o) (hC : zC V E o) {s : Int} (h1 : 0 ≤ s) (h2 : s < ((V (4)).val : Int)) : zf_ev X d 23 (0, [vR o, vI s], [], zH t p q E) = some (some [vI 1], zH t p q E) := by
  rw [L23_0 ho]; simp (disch := omega) only [n32_id, zg_pos, if_pos, if_neg, zu_same, zu_ne, if_true, if_false, ne_eq, not_true_eq_false, not_false_eq_true, true_or, or_true, true_and, and_true, zg_true, fa_b_f, fa_b_t, hC.mems]
theorem T23f (ho : zo o) (hC : zC V E o) {s : Int} (h0 : -2147483648 ≤ s ∧ s < 2147483648) (h : s < 0 ∨ ((V (4)).val : Int) ≤ s) : zf_ev X d 23 (0, [vR o, vI s], [], zH t p q E) = some (some [vI 0], zH t p q E) := by
  rw [L23_0 ho]
  by_cases g : s < 0 <;> simp (disch := omega) only [n32_id, zg_pos, if_pos, if_neg, zu_same, zu_ne, if_true, if_false, ne_eq, not_true_eq_false, not_false_eq_true, true_or, or_true, true_and, and_true, zg_true, fa_b_f, fa_b_t, hC.mems]
theorem T24t (ho : zo o) (hC : zC V E o) {s : Int} (h1 : 0 ≤ s) (h2 : s < ((V (0)).val : Int)) : zf_ev X d 24 (0, [vR o, vI s], [], zH t p q E) = some (some [vI 1], zH t p q E) := by
  rw [L24_0 ho]; simp (disch := omega) only [n32_id, zg_pos, if_pos, if_neg, zu_same, zu_ne, if_true, if_false, ne_eq, not_true_eq_false, not_false_eq_true, true_or, or_true, true_and, and_true, zg_true, fa_b_f, fa_b_t, hC.cols]
theorem T24f (ho : zo o) (hC : zC V E o) {s : Int} (h0 : -2147483648 ≤ s ∧ s < 2147483648) (h : s < 0 ∨ ((V (0)).val : Int) ≤ s) : zf_ev X d 24 (0, [vR o, vI s], [], zH t p q E) = some (some [vI 0], zH t p q E) := by
  rw [L24_0 ho]
  by_cases g : s < 0 <;> simp (disch := omega) only [n32_id, zg_pos, if_pos, if_neg, zu_same, zu_ne, if_true, if_false, ne_eq, not_true_eq_false, not_false_eq_true, true_or, or_true, true_and, and_true, zg_true, fa_b_f, fa_b_t, hC.cols]
theorem T25t (ho : zo o) (hC : zC V E o) {s : Int} (h1 : 1 ≤ s) (h2 : s ≤ ((V (1)).val : Int)) : zf_ev X d 25 (0, [vR o, vI s], [], zH t p q E) = some (some [vI 1], zH t p q E) := by
  rw [L25_0 ho]; simp (disch := omega) only [n32_id, zg_pos, if_pos, if_neg, zu_same, zu_ne, if_true, if_false, ne_eq, not_true_eq_false, not_false_eq_true, true_or, or_true, true_and, and_true, zg_true, fa_b_f, fa_b_t, hC.rows]
theorem T25f (ho : zo o) (hC : zC V E o) {s : Int} (h0 : -2147483648 ≤ s ∧ s < 2147483648) (h : s < 1 ∨ ((V (1)).val : Int) < s) : zf_ev X d 25 (0, [vR o, vI s], [], zH t p q E) = some (some [vI 0], zH t p q E) := by
  rw [L25_0 ho]
  by_cases g : s < 1 <;> simp (disch := omega) only [n32_id, zg_pos, if_pos, if_neg, zu_same, zu_ne, if_true, if_false, ne_eq, not_true_eq_false, not_false_eq_true, true_or, or_true, true_and, and_true, zg_true, fa_b_f, fa_b_t, hC.rows]
theorem T26t (ho : zo o) (hC : zC V E o) {c r : Int} (h1 : 0 ≤ c) (h2 : c < ((V (0)).val : Int)) (h3 : 1 ≤ r) (h4 : r ≤ ((V (1)).val : Int)) : zf_ev X (d + 1) 26 (0, [vR o, vI c, vI r], [], zH t p q E) = some (some [vI 1], zH t p q E) := by
  simp (disch := omega) only [n32_id, zg_pos, if_pos, if_neg, zu_same, zu_ne, if_true, if_false, ne_eq, not_true_eq_false, not_false_eq_true, true_or, or_true, true_and, and_true, zg_true, fa_b_f, fa_b_t, L26_0 ho, L26_k2 ho, L26_k10, T24t ho hC, T25t ho hC]
theorem T26f (ho : zo o) (hC : zC V E o) {c r : Int} (h0 : -2147483648 ≤ c ∧ c < 2147483648) (h1 : -2147483648 ≤ r ∧ r < 2147483648) (h : (c < 0 ∨ ((V (0)).val : Int) ≤ c) ∨ r < 1 ∨ ((V (1)).val : Int) < r) : zf_ev X (d + 1) 26 (0, [vR o, vI c, vI r], [], zH t p q E) = some (some [vI 0], zH t p q E) := by
  by_cases g : c < 0 ∨ ((V (0)).val : Int) ≤ c
  · simp (disch := omega) only [n32_id, zg_pos, if_pos, if_neg, zu_same, zu_ne, if_true, if_false, ne_eq, not_true_eq_false, not_false_eq_true, true_or, or_true, true_and, and_true, zg_true, fa_b_f, fa_b_t, L26_0 ho, L26_k2 ho, L26_k10, T24f ho hC]
  · simp (disch := omega) only [n32_id, zg_pos, if_pos, if_neg, zu_same, zu_ne, if_true, if_false, ne_eq, not_true_eq_false, not_false_eq_true, true_or, or_true, true_and, and_true, zg_true, fa_b_f, fa_b_t, L26_0 ho, L26_k2 ho, L26_k10, T24t ho hC, T25f ho hC]
theorem T168t : zf_ev X d 168 (0, [vR 0, vI 1], [], zH t p q E) = some (some [vI 1], zH t p q (zu E 0 10 0)) := by simp (disch := omega) only [n32_id, zg_pos, if_pos, if_neg, zu_same, zu_ne, if_true, if_false, ne_eq, not_true_eq_false, not_false_eq_true, true_or, or_true, true_and, and_true, zg_true, fa_b_f, fa_b_t, L168_0]
theorem T168f : zf_ev X d 168 (0, [vR 0, vI 0], [], zH t p q E) = some (some [vI 0], zH t p q (zu E 0 10 1)) := by simp (disch := omega) only [n32_id, zg_pos, if_pos, if_neg, zu_same, zu_ne, if_true, if_false, ne_eq, not_true_eq_false, not_false_eq_true, true_or, or_true, true_and, and_true, zg_true, fa_b_f, fa_b_t, L168_0]
/-- the reference's -/
theorem T177 : zf_ev X d 177 (0, [vR 60], [], zH t p q E) = some (some [], zH t p q (zg0 E)) := L177_0
theorem T180t {v l h : Int} (h1 : l ≤ v) (h2 : v ≤ h) (h3 : -2147483648 ≤ l) (h4 : h < 2147483648) : zf_ev X d 180 (0, [vI v, vI l, vI h], [], zH t p q E) = some (some [vI 1], zH t p q E) := by simp (disch := omega) only [n32_id, zg_pos, if_pos, if_neg, zu_same, zu_ne, if_true, if_false, ne_eq, not_true_eq_false, not_false_eq_true, true_or, or_true, true_and, and_true, zg_true, fa_b_f, fa_b_t, L180_0]
theorem T180f {v l h : Int} (h1 : v < l ∨ h < v) (h3 : -2147483648 ≤ l ∧ l < 2147483648) (h4 : -2147483648 ≤ h ∧ h < 2147483648) (h5 : -2147483648 ≤ v ∧ v < 2147483648) : zf_ev X d 180 (0, [vI v, vI l, vI h], [], zH t p q E) = some (some [vI 0], zH t p q E) := by
  by_cases g : v < l <;> simp (disch := omega) only [n32_id, zg_pos, if_pos, if_neg, zu_same, zu_ne, if_true, if_false, ne_eq, not_true_eq_false, not_false_eq_true, true_or, or_true, true_and, and_true, zg_true, fa_b_f, fa_b_t, L180_0]
theorem T214t (hR : zR V E) (h14 : E 60 14 = 1) {s : Int} (h1 : 0 ≤ s) (h2 : s < ((V (3)).val : Int)) : zf_ev X (d + 1) 214 (0, [vR 60, vI s], [], zH t p q E) = some (some [vI 1], zH t p q E) := by simp (disch := omega) only [n32_id, zg_pos, if_pos, if_neg, zu_same, zu_ne, if_true, if_false, ne_eq, not_true_eq_false, not_false_eq_true, true_or, or_true, true_and, and_true, zg_true, fa_b_f, fa_b_t, L214_0, L214_k17, h14, hR.r, T180t]
theorem T214f (hR : zR V E) (h14 : E 60 14 = 1 ∨ E 60 14 = 0) {s : Int} (h0 : -2147483648 ≤ s ∧ s < 2147483648) (h : s < 0 ∨ ((V (3)).val : Int) ≤ s) : zf_ev X (d + 1) 214 (0, [vR 60, vI s], [], zH t p q E) = some (some [vI 0], zH t p q E) := by
  rcases h14 with h14 | h14 <;> simp (disch := omega) only [n32_id, zg_pos, if_pos, if_neg, zu_same, zu_ne, if_true, if_false, ne_eq, not_true_eq_false, not_false_eq_true, true_or, or_true, true_and, and_true, zg_true, fa_b_f, fa_b_t, L214_0, L214_k17, h14, hR.r, T180f]
theorem T215t (hR : zR V E) (h14 : E 60 14 = 1) {s : Int} (h1 : 0 ≤ s) (h2 : s < ((V (4)).val : Int)) : zf_ev X (d + 1) 215 (0, [vR 60, vI s], [], zH t p q E) = some (some [vI 1], zH t p q E) := by simp (disch := omega) only [n32_id, zg_pos, if_pos, if_neg, zu_same, zu_ne, if_true, if_false, ne_eq, not_true_eq_false, not_false_eq_true, true_or, or_true, true_and, and_true, zg_true, fa_b_f, fa_b_t, L215_0, L215_k17, h14, hR.r, T180t]
theorem T215f (hR : zR V E) (h14 : E 60 14 = 1 ∨ E 60 14 = 0) {s : Int} (h0 : -2147483648 ≤ s ∧ s < 2147483648) (h : s < 0 ∨ ((V (4)).val : Int) ≤ s) : zf_ev X (d + 1) 215 (0, [vR 60, vI s], [], zH t p q E) = some (some [vI 0], zH t p q E) := by
  rcases h14 with h14 | h14 <;> simp (disch := omega) only [n32_id, zg_pos, if_pos, if_neg, zu_same, zu_ne, if_true, if_false, ne_eq, not_true_eq_false, not_false_eq_true, true_or, or_true, true_and, and_true, zg_true, fa_b_f, fa_b_t, L215_0, L215_k17, h14, hR.r, T180f]
theorem T216t (hR : zR V E) (h14 : E 60 14 = 1) {s : Int} (h1 : 0 ≤ s) (h2 : s < ((V (0)).val : Int)) : zf_ev X (d + 1) 216 (0, [vR 60, vI s], [], zH t p q E) = some (some [vI 1], zH t p q E) := by simp (disch := omega) only [n32_id, zg_pos, if_pos, if_neg, zu_same, zu_ne, if_true, if_false, ne_eq, not_true_eq_false, not_false_eq_true, true_or, or_true, true_and, and_true, zg_true, fa_b_f, fa_b_t, L216_0, L216_k17, h14, hR.r, T180t]
theorem T216f (hR : zR V E) (h14 : E 60 14 = 1 ∨ E 60 14 = 0) {s : Int} (h0 : -2147483648 ≤ s ∧ s < 2147483648) (h : s < 0 ∨ ((V (0)).val : Int) ≤ s) : zf_ev X (d + 1) 216 (0, [vR 60, vI s], [], zH t p q E) = some (some [vI 0], zH t p q E) := by
  rcases h14 with h14 | h14 <;> simp (disch := omega) only [n32_id, zg_pos, if_pos, if_neg, zu_same, zu_ne, if_true, if_false, ne_eq, not_true_eq_false, not_false_eq_true, true_or, or_true, true_and, and_true, zg_true, fa_b_f, fa_b_t, L216_0, L216_k17, h14, hR.r, T180f]
theorem T217t (hR : zR V E) (h14 : E 60 14 = 1) {s : Int} (h1 : 1 ≤ s) (h2 : s ≤ ((V (1)).val : Int)) : zf_ev X (d + 1) 217 (0, [vR 60, vI s], [], zH t p q E) = some (some [vI 1], zH t p q E) := by simp (disch := omega) only [n32_id, zg_pos, if_pos, if_neg, zu_same, zu_ne, if_true, if_false, ne_eq, not_true_eq_false, not_false_eq_true, true_or, or_true, true_and, and_true, zg_true, fa_b_f, fa_b_t, L217_0, L217_k15, h14, hR.r, T180t]
theorem T217f (hR : zR V E) (h14 : E 60 14 = 1 ∨ E 60 14 = 0) {s : Int} (h0 : -2147483648 ≤ s ∧ s < 2147483648) (h : s < 1 ∨ ((V (1)).val : Int) < s) : zf_ev X (d + 1) 217 (0, [vR 60, vI s], [], zH t p q E) = some (some [vI 0], zH t p q E) := by
  rcases h14 with h14 | h14 <;> simp (disch := omega) only [n32_id, zg_pos, if_pos, if_neg, zu_same, zu_ne, if_true, if_false, ne_eq, not_true_eq_false, not_false_eq_true, true_or, or_true, true_and, and_true, zg_true, fa_b_f, fa_b_t, L217_0, L217_k15, h14, hR.r, T180f]
/-- speaker -/
def sv_speaker (V : Int → Fin 65537) (s w : Int) : Int := if w = 0 then ((V (200 + (7 + 2 * s))).val : Int) else if w = 1 then ((V (200 + (7 + 2 * s + 1))).val : Int) else if w = 2 then ((V (200 + (15 + s))).val : Int) else sp_cn (sp_vote V (sp_C V) (sp_R V)) ((V (4)).val : Int) s
theorem Q118 (hG : zG V E p) {s w : Int} (h1 : 0 ≤ s) (h2 : s < ((V (3)).val : Int)) (h3 : 0 ≤ w) (h4 : w ≤ 3) : ∃ F, zf_ev X (d + 5) 118 (0, [vR 0, vI s, vI w], [], zH t p q E) = some (some [vI (sv_speaker V s w)], zH t p q F) ∧ F 0 10 = 0 ∧ zFC E F := by
  obtain ⟨hp, hC, hR, ⟨hV, h14⟩ | ⟨hz, h14⟩⟩ := hG
  · have hs := hV.spks
    have hC2 : zC V (zu E 0 10 0) p := hC.fco hp zFC.u
    refine ⟨zu E 0 10 0, ?_, zu_same, zFC.u⟩
    unfold sv_speaker
    have e : w = 0 ∨ w = 1 ∨ w = 2 ∨ w = 3 := by omega
    rcases e with rfl | rfl | rfl | rfl
    · simp (disch := omega) only [n32_id, zg_pos, if_pos, if_neg, zu_same, zu_ne, if_true, if_false, ne_eq, not_true_eq_false, not_false_eq_true, true_or, or_true, true_and, and_true, zg_true, fa_b_f, fa_b_t, L118_0 hp, L118_k6, L118_k26 hp, L118_k104, T22t hp hC, T168t, hC.sc]
    · simp (disch := omega) only [n32_id, zg_pos, if_pos, if_neg, zu_same, zu_ne, if_true, if_false, ne_eq, not_true_eq_false, not_false_eq_true, true_or, or_true, true_and, and_true, zg_true, fa_b_f, fa_b_t, L118_0 hp, L118_k6, L118_k26 hp, L118_k104, T22t hp hC, T168t, hC.sr]
    · simp (disch := omega) only [n32_id, zg_pos, if_pos, if_neg, zu_same, zu_ne, if_true, if_false, ne_eq, not_true_eq_false, not_false_eq_true, true_or, or_true, true_and, and_true, zg_true, fa_b_f, fa_b_t, L118_0 hp, L118_k6, L118_k26 hp, L118_k104, T22t hp hC, T168t, hC.won]
    · simp (disch := omega) only [n32_id, zg_pos, if_pos, if_neg, zu_same, zu_ne, if_true, if_false, ne_eq, not_true_eq_false, not_false_eq_true, true_or, or_true, true_and, and_true, zg_true, fa_b_f, fa_b_t, L118_0 hp, L118_k6, L118_k26 hp, L118_k104, T22t hp hC, T168t, T41 hp hC2 hV]
  · have := zG.no hz
    omega
theorem Q118n (hG : zG V E p) {s w : Int} (h0 : -2147483648 ≤ s ∧ s < 2147483648) (h1 : -2147483648 ≤ w ∧ w < 2147483648) (h : (s < 0 ∨ ((V (3)).val : Int) ≤ s) ∨ w < 0 ∨ 3 < w) : ∃ F, zf_ev X (d + 5) 118 (0, [vR 0, vI s, vI w], [], zH t p q E) = some (some [vI (-1)], zH t p q F) ∧ F 0 10 = 1 ∧ zFC E F := by
  obtain ⟨hp, hC, hR, -⟩ := hG
  refine ⟨zu E 0 10 1, ?_, zu_same, zFC.u⟩
  by_cases g : s < 0 ∨ ((V (3)).val : Int) ≤ s
  · simp (disch := omega) only [n32_id, zg_pos, if_pos, if_neg, zu_same, zu_ne, if_true, if_false, ne_eq, not_true_eq_false, not_false_eq_true, true_or, or_true, true_and, and_true, zg_true, fa_b_f, fa_b_t, L118_0 hp, L118_k6, L118_k26 hp, L118_k104, T22f hp hC, T168f]
  · by_cases g2 : w < 0 <;> simp (disch := omega) only [n32_id, zg_pos, if_pos, if_neg, zu_same, zu_ne, if_true, if_false, ne_eq, not_true_eq_false, not_false_eq_true, true_or, or_true, true_and, and_true, zg_true, fa_b_f, fa_b_t, L118_0 hp, L118_k6, L118_k26 hp, L118_k104, T22t hp hC, T168f]
theorem Q239 (hG : zG V E p) {s w : Int} (h1 : 0 ≤ s) (h2 : s < ((V (3)).val : Int)) (h3 : 0 ≤ w) (h4 : w ≤ 3) : ∃ F, zf_ev X (d + 6) 239 (0, [vR 60, vI s, vI w], [], zH t p q E) = some (some [vI (sv_speaker V s w)], zH t p q F) ∧ F 60 11 = 0 ∧ F 60 0 = 0 ∧ zFM E F := by
  obtain ⟨hp, hC, hR, ⟨hV, h14⟩ | ⟨hz, h14⟩⟩ := hG
  · have hs := hV.spks
    have hR2 : zR V (zg0 E) := hR.fm zFM.g0
    have h142 : zg0 E 60 14 = 1 := by rw [zFM.g0.e14]; exact h14
    unfold sv_speaker
    have e : w = 0 ∨ w = 1 ∨ w = 2 ∨ w = 3 := by omega
    rcases e with rfl | rfl | rfl | rfl
    · refine ⟨zg0 E, ?_, rfl, rfl, zFM.g0⟩
      simp (disch := omega) only [n32_id, zg_pos, if_pos, if_neg, zu_same, zu_ne, if_true, if_false, ne_eq, not_true_eq_false, not_false_eq_true, true_or, or_true, true_and, and_true, zg_true, fa_b_f, fa_b_t, L239_0, L239_k1, L239_k6, L239_k15, L239_k23, L239_k62, T177, T214t hR2 h142, T180t, hR2.s, Int.add_zero]
    · refine ⟨zg0 E, ?_, rfl, rfl, zFM.g0⟩
      simp (disch := omega) only [n32_id, zg_pos, if_pos, if_neg, zu_same, zu_ne, if_true, if_false, ne_eq, not_true_eq_false, not_false_eq_true, true_or, or_true, true_and, and_true, zg_true, fa_b_f, fa_b_t, L239_0, L239_k1, L239_k6, L239_k15, L239_k23, L239_k62, T177, T214t hR2 h142, T180t, hR2.s]
    · refine ⟨zg0 E, ?_, rfl, rfl, zFM.g0⟩
      simp (disch := omega) only [n32_id, zg_pos, if_pos, if_neg, zu_same, zu_ne, if_true, if_false, ne_eq, not_true_eq_false, not_false_eq_true, true_or, or_true, true_and, and_true, zg_true, fa_b_f, fa_b_t, L239_0, L239_k1, L239_k6, L239_k15, L239_k23, L239_k62, T177, T214t hR2 h142, T180t, hR2.s]
    · obtain ⟨F, f1, f2, f3, -⟩ := T238 (X := X) (d := d) (t := t) (p := p) (q := q) hV hR2
      have hf : zFM (zg0 E) F := fun a b g1 g2 => f2 a b (by omega) (by omega) (by omega)
      refine ⟨F, ?_, by rw [f2 _ _ (by omega) (by omega) (by omega)]; rfl, by rw [f2 _ _ (by omega) (by omega) (by omega)]; rfl, zFM.g0.tr hf⟩
      simp (disch := omega) only [n32_id, zg_pos, if_pos, if_neg, zu_same, zu_ne, if_true, if_false, ne_eq, not_true_eq_false, not_false_eq_true, true_or, or_true, true_and, and_true, zg_true, fa_b_f, fa_b_t, L239_0, L239_k1, L239_k6, L239_k15, L239_k23, L239_k62, T177, T214t hR2 h142, T180t, f1, f3]
  · have := zG.no hz
    omega
theorem Q239n (hG : zG V E p) {s w : Int} (h0 : -2147483648 ≤ s ∧ s < 2147483648) (h1 : -2147483648 ≤ w ∧ w < 2147483648) (h : (s < 0 ∨ ((V (3)).val : Int) ≤ s) ∨ w < 0 ∨ 3 < w) : ∃ F, zf_ev X (d + 6) 239 (0, [vR 60, vI s, vI w], [], zH t p q E) = some (some [vI (-1)], zH t p q F) ∧ F 60 11 = 1 ∧ F 60 0 = 0 ∧ zFM E F := by
  obtain ⟨hp, hC, hR, hh⟩ := hG
  have hR2 : zR V (zg0 E) := hR.fm zFM.g0
  have h142 : zg0 E 60 14 = 1 ∨ zg0 E 60 14 = 0 := by rw [zFM.g0.e14]; rcases hh with hh | hh; exact Or.inl hh.2; exact Or.inr hh.2
  refine ⟨zu (zg0 E) 60 11 1, ?_, zu_same, (zu_ne (by omega)).trans rfl, zFM.g0.tr zFM.u11⟩
  by_cases g : s < 0 ∨ ((V (3)).val : Int) ≤ s
  · simp (disch := omega) only [n32_id, zg_pos, if_pos, if_neg, zu_same, zu_ne, if_true, if_false, ne_eq, not_true_eq_false, not_false_eq_true, true_or, or_true, true_and, and_true, zg_true, fa_b_f, fa_b_t, L239_0, L239_k1, L239_k6, L239_k15, L239_k23, L239_k62, T177, T214f hR2 h142, L178_0]
  · rcases hh with ⟨hV, h14⟩ | ⟨hz, h14⟩
    · have h143 : zg0 E 60 14 = 1 := by rw [zFM.g0.e14]; exact h14
      simp (disch := omega) only [n32_id, zg_pos, if_pos, if_neg, zu_same, zu_ne, if_true, if_false, ne_eq, not_true_eq_false, not_false_eq_true, true_or, or_true, true_and, and_true, zg_true, fa_b_f, fa_b_t, L239_0, L239_k1, L239_k6, L239_k15, L239_k23, L239_k62, T177, T214t hR2 h143, L178_0, T180f]
    · have := zG.no hz
      omega
end TP

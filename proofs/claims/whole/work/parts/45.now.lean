/-! NOW: what is asked of the hall as it stands -/
theorem zG.h14 {V : Int → Fin 65537} {E : Nat → Int → Int} {p : Nat} (h : zG V E p) : zg0 E 60 14 = 1 ∨ zg0 E 60 14 = 0 := by
  obtain ⟨hp, hC, hR, hh⟩ := h
  rw [zFM.g0.e14]
  rcases hh with hh | hh
  · exact Or.inl hh.2
  · exact Or.inr hh.2
theorem zG.R2 {V : Int → Fin 65537} {E : Nat → Int → Int} {p : Nat} (h : zG V E p) : zR V (zg0 E) := h.2.2.1.fm zFM.g0
/-- a hall stands as soon as one of its numbers isn't 0 -/
theorem zG.yes {V : Int → Fin 65537} {E : Nat → Int → Int} {p : Nat} (h : zG V E p) (hn : 0 < ((V (3)).val : Int) ∨ 0 < ((V (4)).val : Int) ∨ 0 < ((V (0)).val : Int) ∨ 0 < ((V (1)).val : Int)) : zV V ∧ E 60 14 = 1 ∧ zg0 E 60 14 = 1 := by
  obtain ⟨hp, hC, hR, ⟨hV, h14⟩ | ⟨hz, h14⟩⟩ := h
  · exact ⟨hV, h14, by rw [zFM.g0.e14]; exact h14⟩
  · have := zG.no hz
    omega
theorem zG.not {V : Int → Fin 65537} {E : Nat → Int → Int} {p : Nat} (h : zG V E p) (hn : ((V (3)).val : Int) ≤ 0) : zg0 E 60 14 = 0 := by
  obtain ⟨hp, hC, hR, ⟨hV, h14⟩ | ⟨hz, h14⟩⟩ := h
  · have := hV.spks
    omega
  · rw [zFM.g0.e14]; exact h14
theorem zg0_11 {E : Nat → Int → Int} : zg0 E 60 11 = 0 := rfl
theorem zg0_0 {E : Nat → Int → Int} : zg0 E 60 0 = 0 := rfl
section NW
variable {X : Nat × (Nat → Int)} {d : Nat} {t : List (Nat × Nat)} {p q : Nat} {E : Nat → Int → Int} {V : Int → Fin 65537}
/-- the reference's no with 1 -/
theorem RQ_no {F : Nat → Int → Int} {M : Nat} {loc : List ZV} {n : Int} (h : zf_ev X d M (0, loc, [], zH t p q E) = some (some [vI (-1)], zH t p q (zu (zg0 E) 60 11 n))) : ∃ F, zf_ev X d M (0, loc, [], zH t p q E) = some (some [vI (-1)], zH t p q F) ∧ F 60 11 = n ∧ F 60 0 = 0 ∧ zFM E F := ⟨_, h, zu_same, (zu_ne (by omega)).trans rfl, zFM.g0.tr zFM.u11⟩
theorem zFM.A {E : Nat → Int → Int} : zFM E (zA V E) := fun a b g _ => zA_ne (by omega)
theorem zFM.P {E : Nat → Int → Int} : zFM E (zP V E) := fun a b g _ => zP_ne (by omega)
/-- member -/
def sv_member (V : Int → Fin 65537) (m w : Int) : Int := if w = 0 then ((V (200 + (19 + 3 * m))).val : Int) else if w = 1 then ((V (200 + (19 + 3 * m + 1))).val : Int) else if w = 2 then ((V (200 + (19 + 3 * m + 2))).val : Int) else if w = 3 then ((V (30 + 5 * m + 3)).val : Int) else if w = 4 then ((V (30 + 5 * m + 4)).val : Int) else if ((V (30 + 5 * m + 3)).val : Int) ≤ ((V (2)).val : Int) then 1 else 0
theorem Q119 (hG : zG V E p) {m w : Int} (h1 : 0 ≤ m) (h2 : m < ((V (4)).val : Int)) (h3 : 0 ≤ w) (h4 : w ≤ 5) : ∃ F, zf_ev X (d + 1) 119 (0, [vR 0, vI m, vI w], [], zH t p q E) = some (some [vI (sv_member V m w)], zH t p q F) ∧ F 0 10 = 0 ∧ zFC E F := by
  obtain ⟨hV, -, -⟩ := hG.yes (by omega)
  obtain ⟨hp, hC, hR, -⟩ := hG
  have hm := hV.mems
  have hs := hV.mem m h1 h2
  refine ⟨zu E 0 10 0, ?_, zu_same, zFC.u⟩
  unfold sv_member
  have e : w = 0 ∨ w = 1 ∨ w = 2 ∨ w = 3 ∨ w = 4 ∨ w = 5 := by omega
  rcases e with rfl | rfl | rfl | rfl | rfl | rfl
  · simp (disch := omega) only [n32_id, zg_pos, if_pos, if_neg, zu_same, zu_ne, if_true, if_false, ne_eq, not_true_eq_false, not_false_eq_true, true_or, or_true, true_and, and_true, zg_true, fa_b_f, fa_b_t, L119_0 hp, L119_k6, L119_k26 hp, T23t hp hC, T168t, hC.fold]
  · simp (disch := omega) only [n32_id, zg_pos, if_pos, if_neg, zu_same, zu_ne, if_true, if_false, ne_eq, not_true_eq_false, not_false_eq_true, true_or, or_true, true_and, and_true, zg_true, fa_b_f, fa_b_t, L119_0 hp, L119_k6, L119_k26 hp, T23t hp hC, T168t, hC.seat]
  · simp (disch := omega) only [n32_id, zg_pos, if_pos, if_neg, zu_same, zu_ne, if_true, if_false, ne_eq, not_true_eq_false, not_false_eq_true, true_or, or_true, true_and, and_true, zg_true, fa_b_f, fa_b_t, L119_0 hp, L119_k6, L119_k26 hp, T23t hp hC, T168t, hC.far]
  · simp (disch := omega) only [n32_id, zg_pos, if_pos, if_neg, zu_same, zu_ne, if_true, if_false, ne_eq, not_true_eq_false, not_false_eq_true, true_or, or_true, true_and, and_true, zg_true, fa_b_f, fa_b_t, L119_0 hp, L119_k6, L119_k26 hp, T23t hp hC, T168t, hC.sharp]
  · simp (disch := omega) only [n32_id, zg_pos, if_pos, if_neg, zu_same, zu_ne, if_true, if_false, ne_eq, not_true_eq_false, not_false_eq_true, true_or, or_true, true_and, and_true, zg_true, fa_b_f, fa_b_t, L119_0 hp, L119_k6, L119_k26 hp, T23t hp hC, T168t, hC.errs]
  · by_cases g : ((V (30 + 5 * m + 3)).val : Int) ≤ ((V (2)).val : Int)
    · simp (disch := omega) only [n32_id, zg_pos, if_pos, if_neg, zu_same, zu_ne, if_true, if_false, ne_eq, not_true_eq_false, not_false_eq_true, true_or, or_true, true_and, and_true, zg_true, fa_b_f, fa_b_t, L119_0 hp, L119_k6, L119_k26 hp, T23t hp hC, T168t, hC.sharp, hC.nose]
    · simp (disch := omega) only [n32_id, zg_pos, if_pos, if_neg, zu_same, zu_ne, if_true, if_false, ne_eq, not_true_eq_false, not_false_eq_true, true_or, or_true, true_and, and_true, zg_true, fa_b_f, fa_b_t, L119_0 hp, L119_k6, L119_k26 hp, T23t hp hC, T168t, hC.sharp, hC.nose]
theorem Q119n (hG : zG V E p) {m w : Int} (h0 : -2147483648 ≤ m ∧ m < 2147483648) (h1 : -2147483648 ≤ w ∧ w < 2147483648) (h : (m < 0 ∨ ((V (4)).val : Int) ≤ m) ∨ w < 0 ∨ 5 < w) : ∃ F, zf_ev X (d + 1) 119 (0, [vR 0, vI m, vI w], [], zH t p q E) = some (some [vI (-1)], zH t p q F) ∧ F 0 10 = 1 ∧ zFC E F := by
  obtain ⟨hp, hC, hR, -⟩ := hG
  refine ⟨zu E 0 10 1, ?_, zu_same, zFC.u⟩
  by_cases g : m < 0 ∨ ((V (4)).val : Int) ≤ m
  · simp (disch := omega) only [n32_id, zg_pos, if_pos, if_neg, zu_same, zu_ne, if_true, if_false, ne_eq, not_true_eq_false, not_false_eq_true, true_or, or_true, true_and, and_true, zg_true, fa_b_f, fa_b_t, L119_0 hp, L119_k6, L119_k26 hp, T23f hp hC, T168f]
  · by_cases g2 : w < 0 <;> simp (disch := omega) only [n32_id, zg_pos, if_pos, if_neg, zu_same, zu_ne, if_true, if_false, ne_eq, not_true_eq_false, not_false_eq_true, true_or, or_true, true_and, and_true, zg_true, fa_b_f, fa_b_t, L119_0 hp, L119_k6, L119_k26 hp, T23t hp hC, T168f]
theorem Q240 (hG : zG V E p) {m w : Int} (h1 : 0 ≤ m) (h2 : m < ((V (4)).val : Int)) (h3 : 0 ≤ w) (h4 : w ≤ 5) : ∃ F, zf_ev X (d + 2) 240 (0, [vR 60, vI m, vI w], [], zH t p q E) = some (some [vI (sv_member V m w)], zH t p q F) ∧ F 60 11 = 0 ∧ F 60 0 = 0 ∧ zFM E F := by
  obtain ⟨hV, -, h142⟩ := hG.yes (by omega)
  have hR2 := hG.R2
  have hm := hV.mems
  refine ⟨zg0 E, ?_, rfl, rfl, zFM.g0⟩
  unfold sv_member
  have e : w = 0 ∨ w = 1 ∨ w = 2 ∨ w = 3 ∨ w = 4 ∨ w = 5 := by omega
  rcases e with rfl | rfl | rfl | rfl | rfl | rfl
  · simp (disch := omega) only [n32_id, zg_pos, if_pos, if_neg, zu_same, zu_ne, if_true, if_false, ne_eq, not_true_eq_false, not_false_eq_true, true_or, or_true, true_and, and_true, zg_true, fa_b_f, fa_b_t, L240_0, L240_k1, L240_k6, L240_k15, L240_k23, L240_k53, L240_k66, L240_k74, T177, T215t hR2 h142, T180t, hR2.s, Int.add_zero]
  · simp (disch := omega) only [n32_id, zg_pos, if_pos, if_neg, zu_same, zu_ne, if_true, if_false, ne_eq, not_true_eq_false, not_false_eq_true, true_or, or_true, true_and, and_true, zg_true, fa_b_f, fa_b_t, L240_0, L240_k1, L240_k6, L240_k15, L240_k23, L240_k53, L240_k66, L240_k74, T177, T215t hR2 h142, T180t, hR2.s]
  · simp (disch := omega) only [n32_id, zg_pos, if_pos, if_neg, zu_same, zu_ne, if_true, if_false, ne_eq, not_true_eq_false, not_false_eq_true, true_or, or_true, true_and, and_true, zg_true, fa_b_f, fa_b_t, L240_0, L240_k1, L240_k6, L240_k15, L240_k23, L240_k53, L240_k66, L240_k74, T177, T215t hR2 h142, T180t, hR2.s]
  · simp (disch := omega) only [n32_id, zg_pos, if_pos, if_neg, zu_same, zu_ne, if_true, if_false, ne_eq, not_true_eq_false, not_false_eq_true, true_or, or_true, true_and, and_true, zg_true, fa_b_f, fa_b_t, L240_0, L240_k1, L240_k6, L240_k15, L240_k23, L240_k53, L240_k66, L240_k74, T177, T215t hR2 h142, T180t, T225 hR2]
  · simp (disch := omega) only [n32_id, zg_pos, if_pos, if_neg, zu_same, zu_ne, if_true, if_false, ne_eq, not_true_eq_false, not_false_eq_true, true_or, or_true, true_and, and_true, zg_true, fa_b_f, fa_b_t, L240_0, L240_k1, L240_k6, L240_k15, L240_k23, L240_k53, L240_k66, L240_k74, T177, T215t hR2 h142, T180t, T226 hR2]
  · by_cases g : ((V (30 + 5 * m + 3)).val : Int) ≤ ((V (2)).val : Int)
    · simp (disch := omega) only [n32_id, zg_pos, if_pos, if_neg, zu_same, zu_ne, if_true, if_false, ne_eq, not_true_eq_false, not_false_eq_true, true_or, or_true, true_and, and_true, zg_true, fa_b_f, fa_b_t, L240_0, L240_k1, L240_k6, L240_k15, L240_k23, L240_k53, L240_k66, L240_k74, T177, T215t hR2 h142, T180t, T225 hR2, hR2.r]
    · simp (disch := omega) only [n32_id, zg_pos, if_pos, if_neg, zu_same, zu_ne, if_true, if_false, ne_eq, not_true_eq_false, not_false_eq_true, true_or, or_true, true_and, and_true, zg_true, fa_b_f, fa_b_t, L240_0, L240_k1, L240_k6, L240_k15, L240_k23, L240_k53, L240_k66, L240_k74, T177, T215t hR2 h142, T180t, T225 hR2, hR2.r]
theorem Q240n (hG : zG V E p) {m w : Int} (h0 : -2147483648 ≤ m ∧ m < 2147483648) (h1 : -2147483648 ≤ w ∧ w < 2147483648) (h : (m < 0 ∨ ((V (4)).val : Int) ≤ m) ∨ w < 0 ∨ 5 < w) : ∃ F, zf_ev X (d + 2) 240 (0, [vR 60, vI m, vI w], [], zH t p q E) = some (some [vI (-1)], zH t p q F) ∧ F 60 11 = 1 ∧ F 60 0 = 0 ∧ zFM E F := by
  have hR2 := hG.R2
  refine RQ_no (F := E) ?_
  by_cases g : m < 0 ∨ ((V (4)).val : Int) ≤ m
  · simp (disch := omega) only [n32_id, zg_pos, if_pos, if_neg, zu_same, zu_ne, if_true, if_false, ne_eq, not_true_eq_false, not_false_eq_true, true_or, or_true, true_and, and_true, zg_true, fa_b_f, fa_b_t, L240_0, L240_k1, L240_k6, L240_k15, L240_k23, L240_k53, L240_k66, L240_k74, T177, T215f hR2 hG.h14, L178_0]
  · obtain ⟨-, -, h142⟩ := hG.yes (by omega)
    simp (disch := omega) only [n32_id, zg_pos, if_pos, if_neg, zu_same, zu_ne, if_true, if_false, ne_eq, not_true_eq_false, not_false_eq_true, true_or, or_true, true_and, and_true, zg_true, fa_b_f, fa_b_t, L240_0, L240_k1, L240_k6, L240_k15, L240_k23, L240_k53, L240_k66, L240_k74, T177, T215t hR2 h142, L178_0, T180f]
/-- air -/
theorem Q120 (hG : zG V E p) {r : Int} (h1 : 1 ≤ r) (h2 : r ≤ ((V (1)).val : Int)) : ∃ F, zf_ev X (d + 1) 120 (0, [vR 0, vI r], [], zH t p q E) = some (some [vI (((V (200 + r)).val : Int))], zH t p q F) ∧ F 0 10 = 0 ∧ zFC E F := by
  obtain ⟨hV, -, -⟩ := hG.yes (by omega)
  obtain ⟨hp, hC, hR, -⟩ := hG
  have hm := hV.rows
  refine ⟨zu E 0 10 0, ?_, zu_same, zFC.u⟩
  simp (disch := omega) only [n32_id, zg_pos, if_pos, if_neg, zu_same, zu_ne, if_true, if_false, ne_eq, not_true_eq_false, not_false_eq_true, true_or, or_true, true_and, and_true, zg_true, fa_b_f, fa_b_t, L120_0 hp, L120_k6, L120_k9 hp, T25t hp hC, T168t, hC.air]
theorem Q120n (hG : zG V E p) {r : Int} (h0 : -2147483648 ≤ r ∧ r < 2147483648) (h : r < 1 ∨ ((V (1)).val : Int) < r) : ∃ F, zf_ev X (d + 1) 120 (0, [vR 0, vI r], [], zH t p q E) = some (some [vI (-1)], zH t p q F) ∧ F 0 10 = 1 ∧ zFC E F := by
  obtain ⟨hp, hC, hR, -⟩ := hG
  refine ⟨zu E 0 10 1, ?_, zu_same, zFC.u⟩
  simp (disch := omega) only [n32_id, zg_pos, if_pos, if_neg, zu_same, zu_ne, if_true, if_false, ne_eq, not_true_eq_false, not_false_eq_true, true_or, or_true, true_and, and_true, zg_true, fa_b_f, fa_b_t, L120_0 hp, L120_k6, L120_k9 hp, T25f hp hC, T168f]
theorem Q241 (hG : zG V E p) {r : Int} (h1 : 1 ≤ r) (h2 : r ≤ ((V (1)).val : Int)) : ∃ F, zf_ev X (d + 2) 241 (0, [vR 60, vI r], [], zH t p q E) = some (some [vI (((V (200 + r)).val : Int))], zH t p q F) ∧ F 60 11 = 0 ∧ F 60 0 = 0 ∧ zFM E F := by
  obtain ⟨hV, -, h142⟩ := hG.yes (by omega)
  have hR2 := hG.R2
  have hm := hV.rows
  refine ⟨zg0 E, ?_, rfl, rfl, zFM.g0⟩
  simp (disch := omega) only [n32_id, zg_pos, if_pos, if_neg, zu_same, zu_ne, if_true, if_false, ne_eq, not_true_eq_false, not_false_eq_true, true_or, or_true, true_and, and_true, zg_true, fa_b_f, fa_b_t, L241_0, L241_k1, L241_k6, L241_k23, T177, T217t hR2 h142, hR2.s]
theorem Q241n (hG : zG V E p) {r : Int} (h0 : -2147483648 ≤ r ∧ r < 2147483648) (h : r < 1 ∨ ((V (1)).val : Int) < r) : ∃ F, zf_ev X (d + 2) 241 (0, [vR 60, vI r], [], zH t p q E) = some (some [vI (-1)], zH t p q F) ∧ F 60 11 = 1 ∧ F 60 0 = 0 ∧ zFM E F := by
  have hR2 := hG.R2
  refine RQ_no (F := E) ?_
  simp (disch := omega) only [n32_id, zg_pos, if_pos, if_neg, zu_same, zu_ne, if_true, if_false, ne_eq, not_true_eq_false, not_false_eq_true, true_or, or_true, true_and, and_true, zg_true, fa_b_f, fa_b_t, L241_0, L241_k1, L241_k6, L241_k23, T177, T217f hR2 hG.h14, L178_0]
/-- lamp -/
theorem Q121 (hG : zG V E p) {c r : Int} (h1 : 0 ≤ c) (h2 : c < ((V (0)).val : Int)) (h3 : 1 ≤ r) (h4 : r ≤ ((V (1)).val : Int)) : ∃ F, zf_ev X (d + 2) 121 (0, [vR 0, vI c, vI r], [], zH t p q E) = some (some [vI (fa_b (sp_lamp V c r))], zH t p q F) ∧ F 0 10 = 0 ∧ zFC E F := by
  obtain ⟨hV, -, -⟩ := hG.yes (by omega)
  obtain ⟨hp, hC, hR, -⟩ := hG
  have hm := hV.rows
  have hm2 := hV.cols
  have hC2 : zC V (zu E 0 10 0) p := hC.fco hp zFC.u
  refine ⟨zu E 0 10 0, ?_, zu_same, zFC.u⟩
  simp (disch := omega) only [n32_id, zg_pos, if_pos, if_neg, zu_same, zu_ne, if_true, if_false, ne_eq, not_true_eq_false, not_false_eq_true, true_or, or_true, true_and, and_true, zg_true, fa_b_f, fa_b_t, L121_0 hp, L121_k7, L121_k10 hp, L121_k24, T26t hp hC, T168t, T27 hp hC2 hV]
  cases sp_lamp V c r <;> simp [fa_b, n32_id]
theorem Q121n (hG : zG V E p) {c r : Int} (h0 : -2147483648 ≤ c ∧ c < 2147483648) (h1 : -2147483648 ≤ r ∧ r < 2147483648) (h : (c < 0 ∨ ((V (0)).val : Int) ≤ c) ∨ r < 1 ∨ ((V (1)).val : Int) < r) : ∃ F, zf_ev X (d + 2) 121 (0, [vR 0, vI c, vI r], [], zH t p q E) = some (some [vI (-1)], zH t p q F) ∧ F 0 10 = 1 ∧ zFC E F := by
  obtain ⟨hp, hC, hR, -⟩ := hG
  refine ⟨zu E 0 10 1, ?_, zu_same, zFC.u⟩
  simp (disch := omega) only [n32_id, zg_pos, if_pos, if_neg, zu_same, zu_ne, if_true, if_false, ne_eq, not_true_eq_false, not_false_eq_true, true_or, or_true, true_and, and_true, zg_true, fa_b_f, fa_b_t, L121_0 hp, L121_k7, L121_k10 hp, L121_k24, T26f hp hC, T168f]
theorem Q242 (hG : zG V E p) {c r : Int} (h1 : 0 ≤ c) (h2 : c < ((V (0)).val : Int)) (h3 : 1 ≤ r) (h4 : r ≤ ((V (1)).val : Int)) : ∃ F, zf_ev X (d + 2) 242 (0, [vR 60, vI c, vI r], [], zH t p q E) = some (some [vI (fa_b (sp_lamp V c r))], zH t p q F) ∧ F 60 11 = 0 ∧ F 60 0 = 0 ∧ zFM E F := by
  obtain ⟨hV, -, h142⟩ := hG.yes (by omega)
  have hR2 := hG.R2
  have hm := hV.rows
  have hm2 := hV.cols
  refine ⟨zg0 E, ?_, rfl, rfl, zFM.g0⟩
  simp (disch := omega) only [n32_id, zg_pos, if_pos, if_neg, zu_same, zu_ne, if_true, if_false, ne_eq, not_true_eq_false, not_false_eq_true, true_or, or_true, true_and, and_true, zg_true, fa_b_f, fa_b_t, L242_0, L242_k1, L242_k6, L242_k14, L242_k22, L242_k31, T177, T216t hR2 h142, T217t hR2 h142, T229 hR2 hV]
  cases sp_lamp V c r <;> simp [fa_b, n32_id]
theorem Q242n (hG : zG V E p) {c r : Int} (h0 : -2147483648 ≤ c ∧ c < 2147483648) (h1 : -2147483648 ≤ r ∧ r < 2147483648) (h : (c < 0 ∨ ((V (0)).val : Int) ≤ c) ∨ r < 1 ∨ ((V (1)).val : Int) < r) : ∃ F, zf_ev X (d + 2) 242 (0, [vR 60, vI c, vI r], [], zH t p q E) = some (some [vI (-1)], zH t p q F) ∧ F 60 11 = 1 ∧ F 60 0 = 0 ∧ zFM E F := by
  have hR2 := hG.R2
  refine RQ_no (F := E) ?_
  by_cases g : c < 0 ∨ ((V (0)).val : Int) ≤ c
  · simp (disch := omega) only [n32_id, zg_pos, if_pos, if_neg, zu_same, zu_ne, if_true, if_false, ne_eq, not_true_eq_false, not_false_eq_true, true_or, or_true, true_and, and_true, zg_true, fa_b_f, fa_b_t, L242_0, L242_k1, L242_k6, L242_k14, L242_k22, L242_k31, T177, T216f hR2 hG.h14, L178_0]
  · obtain ⟨-, -, h142⟩ := hG.yes (by omega)
    simp (disch := omega) only [n32_id, zg_pos, if_pos, if_neg, zu_same, zu_ne, if_true, if_false, ne_eq, not_true_eq_false, not_false_eq_true, true_or, or_true, true_and, and_true, zg_true, fa_b_f, fa_b_t, L242_0, L242_k1, L242_k6, L242_k14, L242_k22, L242_k31, T177, T216t hR2 h142, T217f hR2 hG.h14, L178_0]
/-- lands -/
theorem Q122 (hG : zG V E p) {m : Int} (h1 : 0 ≤ m) (h2 : m < ((V (4)).val : Int)) : ∃ F, zf_ev X (d + 3) 122 (0, [vR 0, vI m], [], zH t p q E) = some (some [vI (10 * sp_dc V m + sp_dr V m)], zH t p q F) ∧ F 0 10 = 0 ∧ zFC E F := by
  obtain ⟨hV, -, -⟩ := hG.yes (by omega)
  obtain ⟨hp, hC, hR, -⟩ := hG
  have hC2 : zC V (zu E 0 10 0) p := hC.fco hp zFC.u
  refine ⟨zu E 0 10 0, ?_, zu_same, zFC.u⟩
  simp (disch := omega) only [n32_id, zg_pos, if_pos, if_neg, zu_same, zu_ne, if_true, if_false, ne_eq, not_true_eq_false, not_false_eq_true, true_or, or_true, true_and, and_true, zg_true, fa_b_f, fa_b_t, L122_0 hp, L122_k6, L122_k9 hp, L122_k24 hp, L122_k33, T23t hp hC, T168t, T34 hp hC2 hV, T35 hp hC2 hV]
theorem Q122n (hG : zG V E p) {m : Int} (h0 : -2147483648 ≤ m ∧ m < 2147483648) (h : m < 0 ∨ ((V (4)).val : Int) ≤ m) : ∃ F, zf_ev X (d + 3) 122 (0, [vR 0, vI m], [], zH t p q E) = some (some [vI (-1)], zH t p q F) ∧ F 0 10 = 1 ∧ zFC E F := by
  obtain ⟨hp, hC, hR, -⟩ := hG
  refine ⟨zu E 0 10 1, ?_, zu_same, zFC.u⟩
  simp (disch := omega) only [n32_id, zg_pos, if_pos, if_neg, zu_same, zu_ne, if_true, if_false, ne_eq, not_true_eq_false, not_false_eq_true, true_or, or_true, true_and, and_true, zg_true, fa_b_f, fa_b_t, L122_0 hp, L122_k6, L122_k9 hp, L122_k24 hp, L122_k33, T23f hp hC, T168f]
theorem Q243 (hG : zG V E p) {m : Int} (h1 : 0 ≤ m) (h2 : m < ((V (4)).val : Int)) : ∃ F, zf_ev X (d + 3) 243 (0, [vR 60, vI m], [], zH t p q E) = some (some [vI (10 * sp_dc V m + sp_dr V m)], zH t p q F) ∧ F 60 11 = 0 ∧ F 60 0 = 0 ∧ zFM E F := by
  obtain ⟨hV, -, h142⟩ := hG.yes (by omega)
  have hR2 := hG.R2
  refine ⟨zA V (zg0 E), ?_, by rw [zA_ne (by omega)]; rfl, by rw [zA_ne (by omega)]; rfl, zFM.g0.tr zFM.A⟩
  simp (disch := omega) only [n32_id, zg_pos, if_pos, if_neg, zu_same, zu_ne, if_true, if_false, ne_eq, not_true_eq_false, not_false_eq_true, true_or, or_true, true_and, and_true, zg_true, fa_b_f, fa_b_t, L243_0, L243_k1, L243_k6, L243_k16, L243_k22, L243_k31, T177, T215t hR2 h142, T227 hR2 hV, T228 hR2.A hV]
theorem Q243n (hG : zG V E p) {m : Int} (h0 : -2147483648 ≤ m ∧ m < 2147483648) (h : m < 0 ∨ ((V (4)).val : Int) ≤ m) : ∃ F, zf_ev X (d + 3) 243 (0, [vR 60, vI m], [], zH t p q E) = some (some [vI (-1)], zH t p q F) ∧ F 60 11 = 1 ∧ F 60 0 = 0 ∧ zFM E F := by
  have hR2 := hG.R2
  refine RQ_no (F := E) ?_
  simp (disch := omega) only [n32_id, zg_pos, if_pos, if_neg, zu_same, zu_ne, if_true, if_false, ne_eq, not_true_eq_false, not_false_eq_true, true_or, or_true, true_and, and_true, zg_true, fa_b_f, fa_b_t, L243_0, L243_k1, L243_k6, L243_k16, L243_k22, L243_k31, T177, T215f hR2 hG.h14, L178_0]
/-- votes -/
theorem Q123 (hG : zG V E p) {m : Int} (h1 : 0 ≤ m) (h2 : m < ((V (4)).val : Int)) : ∃ F, zf_ev X (d + 4) 123 (0, [vR 0, vI m], [], zH t p q E) = some (some [vI (sp_vote V (sp_C V) (sp_R V) m)], zH t p q F) ∧ F 0 10 = 0 ∧ zFC E F := by
  obtain ⟨hV, -, -⟩ := hG.yes (by omega)
  obtain ⟨hp, hC, hR, -⟩ := hG
  have hC2 : zC V (zu E 0 10 0) p := hC.fco hp zFC.u
  refine ⟨zu E 0 10 0, ?_, zu_same, zFC.u⟩
  simp (disch := omega) only [n32_id, zg_pos, if_pos, if_neg, zu_same, zu_ne, if_true, if_false, ne_eq, not_true_eq_false, not_false_eq_true, true_or, or_true, true_and, and_true, zg_true, fa_b_f, fa_b_t, L123_0 hp, L123_k6, L123_k9 hp, L123_k22, T23t hp hC, T168t, T40 hp hC2 hV]
theorem Q123n (hG : zG V E p) {m : Int} (h0 : -2147483648 ≤ m ∧ m < 2147483648) (h : m < 0 ∨ ((V (4)).val : Int) ≤ m) : ∃ F, zf_ev X (d + 4) 123 (0, [vR 0, vI m], [], zH t p q E) = some (some [vI (-1)], zH t p q F) ∧ F 0 10 = 1 ∧ zFC E F := by
  obtain ⟨hp, hC, hR, -⟩ := hG
  refine ⟨zu E 0 10 1, ?_, zu_same, zFC.u⟩
  simp (disch := omega) only [n32_id, zg_pos, if_pos, if_neg, zu_same, zu_ne, if_true, if_false, ne_eq, not_true_eq_false, not_false_eq_true, true_or, or_true, true_and, and_true, zg_true, fa_b_f, fa_b_t, L123_0 hp, L123_k6, L123_k9 hp, L123_k22, T23f hp hC, T168f]
theorem Q244 (hG : zG V E p) {m : Int} (h1 : 0 ≤ m) (h2 : m < ((V (4)).val : Int)) : ∃ F, zf_ev X (d + 4) 244 (0, [vR 60, vI m], [], zH t p q E) = some (some [vI (sp_vote V (sp_C V) (sp_R V) m)], zH t p q F) ∧ F 60 11 = 0 ∧ F 60 0 = 0 ∧ zFM E F := by
  obtain ⟨hV, -, h142⟩ := hG.yes (by omega)
  have hR2 := hG.R2
  refine ⟨zA V (zP V (zg0 E)), ?_, by rw [zA_ne (by omega), zP_ne (by omega)]; rfl, by rw [zA_ne (by omega), zP_ne (by omega)]; rfl, zFM.g0.tr (zFM.P.tr zFM.A)⟩
  simp (disch := omega) only [n32_id, zg_pos, if_pos, if_neg, zu_same, zu_ne, if_true, if_false, ne_eq, not_true_eq_false, not_false_eq_true, true_or, or_true, true_and, and_true, zg_true, fa_b_f, fa_b_t, L244_0, L244_k1, L244_k6, L244_k14, L244_k19, L244_k24, T177, T215t hR2 h142, T230 hR2, T233 hR2.P hV (zS_P hV)]
theorem Q244n (hG : zG V E p) {m : Int} (h0 : -2147483648 ≤ m ∧ m < 2147483648) (h : m < 0 ∨ ((V (4)).val : Int) ≤ m) : ∃ F, zf_ev X (d + 4) 244 (0, [vR 60, vI m], [], zH t p q E) = some (some [vI (-1)], zH t p q F) ∧ F 60 11 = 1 ∧ F 60 0 = 0 ∧ zFM E F := by
  have hR2 := hG.R2
  refine RQ_no (F := E) ?_
  simp (disch := omega) only [n32_id, zg_pos, if_pos, if_neg, zu_same, zu_ne, if_true, if_false, ne_eq, not_true_eq_false, not_false_eq_true, true_or, or_true, true_and, and_true, zg_true, fa_b_f, fa_b_t, L244_0, L244_k1, L244_k6, L244_k14, L244_k19, L244_k24, T177, T215f hR2 hG.h14, L178_0]
/-- nearest -/
theorem Q124 (hG : zG V E p) {c r : Int} (h1 : 0 ≤ c) (h2 : c < ((V (0)).val : Int)) (h3 : 1 ≤ r) (h4 : r ≤ ((V (1)).val : Int)) : ∃ F, zf_ev X (d + 2) 124 (0, [vR 0, vI c, vI r], [], zH t p q E) = some (some [vI (sp_nearest (sp_C V) (sp_R V) ((V (3)).val : Int) c r)], zH t p q F) ∧ F 0 10 = 0 ∧ zFC E F := by
  obtain ⟨hV, -, -⟩ := hG.yes (by omega)
  obtain ⟨hp, hC, hR, -⟩ := hG
  have hm := hV.rows
  have hm2 := hV.cols
  have hC2 : zC V (zu E 0 10 0) p := hC.fco hp zFC.u
  refine ⟨zu E 0 10 0, ?_, zu_same, zFC.u⟩
  simp (disch := omega) only [n32_id, zg_pos, if_pos, if_neg, zu_same, zu_ne, if_true, if_false, ne_eq, not_true_eq_false, not_false_eq_true, true_or, or_true, true_and, and_true, zg_true, fa_b_f, fa_b_t, L124_0 hp, L124_k7, L124_k10 hp, L124_k24, T26t hp hC, T168t, T36 hp hC2 hV]
theorem Q124n (hG : zG V E p) {c r : Int} (h0 : -2147483648 ≤ c ∧ c < 2147483648) (h1 : -2147483648 ≤ r ∧ r < 2147483648) (h : (c < 0 ∨ ((V (0)).val : Int) ≤ c) ∨ r < 1 ∨ ((V (1)).val : Int) < r) : ∃ F, zf_ev X (d + 2) 124 (0, [vR 0, vI c, vI r], [], zH t p q E) = some (some [vI (-1)], zH t p q F) ∧ F 0 10 = 1 ∧ zFC E F := by
  obtain ⟨hp, hC, hR, -⟩ := hG
  refine ⟨zu E 0 10 1, ?_, zu_same, zFC.u⟩
  simp (disch := omega) only [n32_id, zg_pos, if_pos, if_neg, zu_same, zu_ne, if_true, if_false, ne_eq, not_true_eq_false, not_false_eq_true, true_or, or_true, true_and, and_true, zg_true, fa_b_f, fa_b_t, L124_0 hp, L124_k7, L124_k10 hp, L124_k24, T26f hp hC, T168f]
theorem Q245 (hG : zG V E p) {c r : Int} (h1 : 0 ≤ c) (h2 : c < ((V (0)).val : Int)) (h3 : 1 ≤ r) (h4 : r ≤ ((V (1)).val : Int)) : ∃ F, zf_ev X (d + 2) 245 (0, [vR 60, vI c, vI r], [], zH t p q E) = some (some [vI (sp_nearest (sp_C V) (sp_R V) ((V (3)).val : Int) c r)], zH t p q F) ∧ F 60 11 = 0 ∧ F 60 0 = 0 ∧ zFM E F := by
  obtain ⟨hV, -, h142⟩ := hG.yes (by omega)
  have hR2 := hG.R2
  have hm := hV.rows
  have hm2 := hV.cols
  refine ⟨zP V (zg0 E), ?_, by rw [zP_ne (by omega)]; rfl, by rw [zP_ne (by omega)]; rfl, zFM.g0.tr zFM.P⟩
  simp (disch := omega) only [n32_id, zg_pos, if_pos, if_neg, zu_same, zu_ne, if_true, if_false, ne_eq, not_true_eq_false, not_false_eq_true, true_or, or_true, true_and, and_true, zg_true, fa_b_f, fa_b_t, L245_0, L245_k1, L245_k6, L245_k14, L245_k22, L245_k27, L245_k33, T177, T216t hR2 h142, T217t hR2 h142, T230 hR2, T231 hR2.P hV (zS_P hV)]
theorem Q245n (hG : zG V E p) {c r : Int} (h0 : -2147483648 ≤ c ∧ c < 2147483648) (h1 : -2147483648 ≤ r ∧ r < 2147483648) (h : (c < 0 ∨ ((V (0)).val : Int) ≤ c) ∨ r < 1 ∨ ((V (1)).val : Int) < r) : ∃ F, zf_ev X (d + 2) 245 (0, [vR 60, vI c, vI r], [], zH t p q E) = some (some [vI (-1)], zH t p q F) ∧ F 60 11 = 1 ∧ F 60 0 = 0 ∧ zFM E F := by
  have hR2 := hG.R2
  refine RQ_no (F := E) ?_
  by_cases g : c < 0 ∨ ((V (0)).val : Int) ≤ c
  · simp (disch := omega) only [n32_id, zg_pos, if_pos, if_neg, zu_same, zu_ne, if_true, if_false, ne_eq, not_true_eq_false, not_false_eq_true, true_or, or_true, true_and, and_true, zg_true, fa_b_f, fa_b_t, L245_0, L245_k1, L245_k6, L245_k14, L245_k22, L245_k27, L245_k33, T177, T216f hR2 hG.h14, L178_0]
  · obtain ⟨-, -, h142⟩ := hG.yes (by omega)
    simp (disch := omega) only [n32_id, zg_pos, if_pos, if_neg, zu_same, zu_ne, if_true, if_false, ne_eq, not_true_eq_false, not_false_eq_true, true_or, or_true, true_and, and_true, zg_true, fa_b_f, fa_b_t, L245_0, L245_k1, L245_k6, L245_k14, L245_k22, L245_k27, L245_k33, T177, T216t hR2 h142, T217f hR2 hG.h14, L178_0]
/-- winner -/
def sv_win (V : Int → Fin 65537) : Int := sp_win (sp_cn (sp_vote V (sp_C V) (sp_R V)) ((V (4)).val : Int)) ((V (3)).val : Int)
theorem Q125 (hG : zG V E p) (h1 : 0 < ((V (3)).val : Int)) : ∃ F, zf_ev X (d + 5) 125 (0, [vR 0], [], zH t p q E) = some (some [vI (sv_win V)], zH t p q F) ∧ F 0 10 = 0 ∧ zFC E F := by
  obtain ⟨hV, -, -⟩ := hG.yes (by omega)
  obtain ⟨hp, hC, hR, -⟩ := hG
  have hC2 : zC V (zu E 0 10 0) p := hC.fco hp zFC.u
  obtain ⟨F, f1, f2⟩ := T42 (X := X) (d := d) (t := t) (p := p) (q := q) hp hC2 hV
  have hp2 : p = 40 ∨ p = 50 := hp
  refine ⟨F, ?_, by rw [f2 _ _ (by omega)]; exact zu_same, fun a b g1 g2 g3 g4 => by rw [f2 a b (by omega), zu_ne g4]⟩
  simp (disch := omega) only [n32_id, zg_pos, if_pos, if_neg, zu_same, zu_ne, if_true, if_false, ne_eq, not_true_eq_false, not_false_eq_true, true_or, or_true, true_and, and_true, zg_true, fa_b_f, fa_b_t, L125_0 hp, L125_k5, L125_k8 hp, L125_k20, T21t hp hC, T168t, f1]
  rfl
theorem Q125n (hG : zG V E p) (h1 : ((V (3)).val : Int) ≤ 0) : ∃ F, zf_ev X (d + 5) 125 (0, [vR 0], [], zH t p q E) = some (some [vI (-1)], zH t p q F) ∧ F 0 10 = 1 ∧ zFC E F := by
  obtain ⟨hp, hC, hR, -⟩ := hG
  refine ⟨zu E 0 10 1, ?_, zu_same, zFC.u⟩
  simp (disch := omega) only [n32_id, zg_pos, if_pos, if_neg, zu_same, zu_ne, if_true, if_false, ne_eq, not_true_eq_false, not_false_eq_true, true_or, or_true, true_and, and_true, zg_true, fa_b_f, fa_b_t, L125_0 hp, L125_k5, L125_k8 hp, L125_k20, T21f hp hC, T168f]
theorem Q246 (hG : zG V E p) (h1 : 0 < ((V (3)).val : Int)) : ∃ F, zf_ev X (d + 6) 246 (0, [vR 60], [], zH t p q E) = some (some [vI (sv_win V)], zH t p q F) ∧ F 60 11 = 0 ∧ F 60 0 = 0 ∧ zFM E F := by
  obtain ⟨hV, -, h142⟩ := hG.yes (by omega)
  have hR2 := hG.R2
  have hm := hV.mems
  obtain ⟨F, f1, f2, f3, -⟩ := T238 (X := X) (d := d) (t := t) (p := p) (q := q) hV hR2
  have hf : zFM (zg0 E) F := fun a b g1 g2 => f2 a b (by omega) (by omega) (by omega)
  refine ⟨F, ?_, by rw [f2 _ _ (by omega) (by omega) (by omega)]; rfl, by rw [f2 _ _ (by omega) (by omega) (by omega)]; rfl, zFM.g0.tr hf⟩
  simp (disch := omega) only [n32_id, zg_pos, if_pos, if_neg, zu_same, zu_ne, if_true, if_false, ne_eq, not_true_eq_false, not_false_eq_true, true_or, or_true, true_and, and_true, zg_true, fa_b_f, fa_b_t, L246_0, L246_k1, L246_k13, L246_k18, L246_k22, T177, h142, f1, T235 (hR2.fm hf) hV (fun s a b => ⟨f3 s a b, by have := sp_cn_r (f := sp_vote V (sp_C V) (sp_R V)) (n := ((V (4)).val : Int)) (s := s) (by omega); omega, by have := sp_cn_r (f := sp_vote V (sp_C V) (sp_R V)) (n := ((V (4)).val : Int)) (s := s) (by omega); omega⟩)]
  rfl
theorem Q246n (hG : zG V E p) (h1 : ((V (3)).val : Int) ≤ 0) : ∃ F, zf_ev X (d + 6) 246 (0, [vR 60], [], zH t p q E) = some (some [vI (-1)], zH t p q F) ∧ F 60 11 = 1 ∧ F 60 0 = 0 ∧ zFM E F := by
  have h142 := hG.not h1
  refine RQ_no (F := E) ?_
  simp (disch := omega) only [n32_id, zg_pos, if_pos, if_neg, zu_same, zu_ne, if_true, if_false, ne_eq, not_true_eq_false, not_false_eq_true, true_or, or_true, true_and, and_true, zg_true, fa_b_f, fa_b_t, L246_0, L246_k1, L246_k13, L246_k18, L246_k22, T177, h142, L178_0]
/-- counted -/
def sp_nn (f : Int → Int) : Nat → Int → Int
  | 0, _ => 0
  | k + 1, i => (if f i = -2 then 0 else 1) + sp_nn f k (i + 1)
theorem sp_nn4 {f : Int → Int} : ∀ (k : Nat) (i : Int), (∀ j, i ≤ j → j < i + k → f j = -2 ∨ 0 ≤ f j ∧ f j < 4) → sp_cnt f 0 k i + sp_cnt f 1 k i + sp_cnt f 2 k i + sp_cnt f 3 k i = sp_nn f k i := by
  intro k
  induction k with
  | zero => intro i h; rfl
  | succ k ih =>
    intro i h
    have h1 := ih (i + 1) (fun j a b => h j (by omega) (by omega))
    have h2 := h i (by omega) (by omega)
    unfold sp_cnt sp_nn
    have e : f i = -2 ∨ f i = 0 ∨ f i = 1 ∨ f i = 2 ∨ f i = 3 := by omega
    rcases e with e | e | e | e | e <;> rw [e] <;> simp <;> omega
def sv_counted (V : Int → Fin 65537) : Int := sp_nn (sp_vote V (sp_C V) (sp_R V)) (((V (4)).val : Int)).toNat 0
theorem T126_loop (hp : zo p) (hC : zC V E p) (hV : zV V) : ∀ (k : Nat) (i z : Int), 0 ≤ i → i + k = ((V (4)).val : Int) → 0 ≤ z → z ≤ i → zf_ev X (d + 4) 126 (20, [vR 0, vI z, vI i], [], zH t p q E) = some (some [vI (z + sp_nn (sp_vote V (sp_C V) (sp_R V)) k i)], zH t p q E) := by
  have hm := hV.mems
  have hk := hV.spks
  intro k
  induction k with
  | zero =>
    intro i z h1 h2 h3 h4
    rw [L126_20 hp]
    simp (disch := omega) only [n32_id, zg_pos, if_pos, if_neg, zu_same, zu_ne, if_true, if_false, ne_eq, not_true_eq_false, not_false_eq_true, true_or, or_true, true_and, and_true, zg_true, fa_b_f, fa_b_t, hC.mems]
    simp [sp_nn]
  | succ k ih =>
    intro i z h1 h2 h3 h4
    have hv := sp_vote_r (C := sp_C V) (R := sp_R V) hV (m := i)
    rw [L126_20 hp]
    simp (disch := omega) only [n32_id, zg_pos, if_pos, if_neg, zu_same, zu_ne, if_true, if_false, ne_eq, not_true_eq_false, not_false_eq_true, true_or, or_true, true_and, and_true, zg_true, fa_b_f, fa_b_t, hC.mems, T40 hp hC hV]
    rw [L126_k36]
    unfold sp_nn
    by_cases w : sp_vote V (sp_C V) (sp_R V) i = -2
    · simp (disch := omega) only [n32_id, zg_pos, if_pos, if_neg, zu_same, zu_ne, if_true, if_false, ne_eq, not_true_eq_false, not_false_eq_true, true_or, or_true, true_and, and_true, zg_true, fa_b_f, fa_b_t]
      rw [ih _ _ (by omega) (by omega) (by omega) (by omega)]
      simp
    · simp (disch := omega) only [n32_id, zg_pos, if_pos, if_neg, zu_same, zu_ne, if_true, if_false, ne_eq, not_true_eq_false, not_false_eq_true, true_or, or_true, true_and, and_true, zg_true, fa_b_f, fa_b_t]
      rw [ih _ _ (by omega) (by omega) (by omega) (by omega)]
      simp [Int.add_assoc]
theorem Q126 (hG : zG V E p) (h1 : 0 < ((V (3)).val : Int)) : ∃ F, zf_ev X (d + 4) 126 (0, [vR 0, vJ, vJ], [], zH t p q E) = some (some [vI (sv_counted V)], zH t p q F) ∧ F 0 10 = 0 ∧ zFC E F := by
  obtain ⟨hV, -, -⟩ := hG.yes (by omega)
  obtain ⟨hp, hC, hR, -⟩ := hG
  have hC2 : zC V (zu E 0 10 0) p := hC.fco hp zFC.u
  refine ⟨zu E 0 10 0, ?_, zu_same, zFC.u⟩
  simp (disch := omega) only [n32_id, zg_pos, if_pos, if_neg, zu_same, zu_ne, if_true, if_false, ne_eq, not_true_eq_false, not_false_eq_true, true_or, or_true, true_and, and_true, zg_true, fa_b_f, fa_b_t, L126_0 hp, L126_k5, L126_k8, L126_k36, T21t hp hC, T168t]
  rw [T126_loop hp hC2 hV (((V (4)).val : Int)).toNat 0 0 (by omega) (by omega) (by omega) (by omega)]
  simp [sv_counted]
theorem Q126n (hG : zG V E p) (h1 : ((V (3)).val : Int) ≤ 0) : ∃ F, zf_ev X (d + 4) 126 (0, [vR 0, vJ, vJ], [], zH t p q E) = some (some [vI (-1)], zH t p q F) ∧ F 0 10 = 1 ∧ zFC E F := by
  obtain ⟨hp, hC, hR, -⟩ := hG
  refine ⟨zu E 0 10 1, ?_, zu_same, zFC.u⟩
  simp (disch := omega) only [n32_id, zg_pos, if_pos, if_neg, zu_same, zu_ne, if_true, if_false, ne_eq, not_true_eq_false, not_false_eq_true, true_or, or_true, true_and, and_true, zg_true, fa_b_f, fa_b_t, L126_0 hp, L126_k5, L126_k8, L126_k36, T21f hp hC, T168f]
theorem Q247 (hG : zG V E p) (h1 : 0 < ((V (3)).val : Int)) : ∃ F, zf_ev X (d + 6) 247 (0, [vR 60], [], zH t p q E) = some (some [vI (sv_counted V)], zH t p q F) ∧ F 60 11 = 0 ∧ F 60 0 = 0 ∧ zFM E F := by
  obtain ⟨hV, -, h142⟩ := hG.yes (by omega)
  have hR2 := hG.R2
  have hm := hV.mems
  have hk := hV.spks
  obtain ⟨F, f1, f2, f3, -⟩ := T238 (X := X) (d := d) (t := t) (p := p) (q := q) hV hR2
  have hf : zFM (zg0 E) F := fun a b g1 g2 => f2 a b (by omega) (by omega) (by omega)
  refine ⟨F, ?_, by rw [f2 _ _ (by omega) (by omega) (by omega)]; rfl, by rw [f2 _ _ (by omega) (by omega) (by omega)]; rfl, zFM.g0.tr hf⟩
  simp (disch := omega) only [n32_id, zg_pos, if_pos, if_neg, zu_same, zu_ne, if_true, if_false, ne_eq, not_true_eq_false, not_false_eq_true, true_or, or_true, true_and, and_true, zg_true, fa_b_f, fa_b_t, L247_0, L247_k1, L247_k13, L247_k18, T177, h142, f1, f3]
  have e := sp_nn4 (f := sp_vote V (sp_C V) (sp_R V)) (((V (4)).val : Int)).toNat 0 (fun j _ _ => by have := sp_vote_r (C := sp_C V) (R := sp_R V) hV (m := j); omega)
  unfold sp_cn sv_counted
  rw [e]
theorem Q247n (hG : zG V E p) (h1 : ((V (3)).val : Int) ≤ 0) : ∃ F, zf_ev X (d + 6) 247 (0, [vR 60], [], zH t p q E) = some (some [vI (-1)], zH t p q F) ∧ F 60 11 = 1 ∧ F 60 0 = 0 ∧ zFM E F := by
  have h142 := hG.not h1
  refine RQ_no (F := E) ?_
  simp (disch := omega) only [n32_id, zg_pos, if_pos, if_neg, zu_same, zu_ne, if_true, if_false, ne_eq, not_true_eq_false, not_false_eq_true, true_or, or_true, true_and, and_true, zg_true, fa_b_f, fa_b_t, L247_0, L247_k1, L247_k13, L247_k18, T177, h142, L178_0]
/-- hang -/
def sp_hang (V : Int → Fin 65537) : Nat → Int → Int → Int
  | 0, _, z => z
  | k + 1, i, z => sp_hang V k (i + 1) (if sp_lamp V (sp_dc V i) (sp_dr V i) = true then zm_ior z (zm_ishl 1 i) else z)
theorem n32_ior (a b : Int) : n32 (zm_ior a b) = zm_ior a b := by
  unfold n32 zm_ior
  rw [Int32.ofInt_toInt]
theorem zm_ior0 {a : Int} (h : n32 a = a) : zm_ior a 0 = a := by
  unfold zm_ior
  rw [show Int32.ofInt 0 = 0 from rfl, Int32.or_zero]
  exact h
theorem T127_loop (hp : zo p) (hC : zC V E p) (hV : zV V) : ∀ (k : Nat) (i z : Int), 0 ≤ i → i + k = ((V (4)).val : Int) → zf_ev X (d + 3) 127 (20, [vR 0, vI z, vI i], [], zH t p q E) = some (some [vI (sp_hang V k i z)], zH t p q E) := by
  have hm := hV.mems
  have hc := hV.cols
  have hr := hV.rows
  intro k
  induction k with
  | zero =>
    intro i z h1 h2
    rw [L127_20 hp]
    simp (disch := omega) only [n32_id, zg_pos, if_pos, if_neg, zu_same, zu_ne, if_true, if_false, ne_eq, not_true_eq_false, not_false_eq_true, true_or, or_true, true_and, and_true, zg_true, fa_b_f, fa_b_t, hC.mems]
    rfl
  | succ k ih =>
    intro i z h1 h2
    have hd := sp_d_r hV h1 (m := i) (by omega)
    rw [L127_20 hp]
    simp (disch := omega) only [n32_id, zg_pos, if_pos, if_neg, zu_same, zu_ne, if_true, if_false, ne_eq, not_true_eq_false, not_false_eq_true, true_or, or_true, true_and, and_true, zg_true, fa_b_f, fa_b_t, hC.mems, T34 hp hC hV]
    rw [L127_k40 hp, T35 hp hC hV h1 (by omega), L127_k48 hp, T27 hp hC hV (by omega) (by omega), L127_k51, fa_b_id]
    unfold sp_hang
    cases w : sp_lamp V (sp_dc V i) (sp_dr V i)
    · simp (disch := omega) only [n32_id, zg_pos, if_pos, if_neg, zu_same, zu_ne, if_true, if_false, ne_eq, not_true_eq_false, not_false_eq_true, true_or, or_true, true_and, and_true, zg_true, fa_b_f, fa_b_t, ih]
      rfl
    · simp (disch := omega) only [n32_id, zg_pos, if_pos, if_neg, zu_same, zu_ne, if_true, if_false, ne_eq, not_true_eq_false, not_false_eq_true, true_or, or_true, true_and, and_true, zg_true, fa_b_f, fa_b_t, ih]
theorem Q127 (hG : zG V E p) (h1 : 0 < ((V (3)).val : Int)) : ∃ F, zf_ev X (d + 3) 127 (0, [vR 0, vJ, vJ], [], zH t p q E) = some (some [vI (sp_hang V (((V (4)).val : Int)).toNat 0 0)], zH t p q F) ∧ F 0 10 = 0 ∧ zFC E F := by
  obtain ⟨hV, -, -⟩ := hG.yes (by omega)
  obtain ⟨hp, hC, hR, -⟩ := hG
  have hC2 : zC V (zu E 0 10 0) p := hC.fco hp zFC.u
  refine ⟨zu E 0 10 0, ?_, zu_same, zFC.u⟩
  simp (disch := omega) only [n32_id, zg_pos, if_pos, if_neg, zu_same, zu_ne, if_true, if_false, ne_eq, not_true_eq_false, not_false_eq_true, true_or, or_true, true_and, and_true, zg_true, fa_b_f, fa_b_t, L127_0 hp, L127_k5, L127_k8, L127_k40 hp, L127_k48 hp, L127_k51, T21t hp hC, T168t]
  rw [T127_loop hp hC2 hV (((V (4)).val : Int)).toNat 0 0 (by omega) (by omega)]
theorem Q127n (hG : zG V E p) (h1 : ((V (3)).val : Int) ≤ 0) : ∃ F, zf_ev X (d + 3) 127 (0, [vR 0, vJ, vJ], [], zH t p q E) = some (some [vI (-1)], zH t p q F) ∧ F 0 10 = 1 ∧ zFC E F := by
  obtain ⟨hp, hC, hR, -⟩ := hG
  refine ⟨zu E 0 10 1, ?_, zu_same, zFC.u⟩
  simp (disch := omega) only [n32_id, zg_pos, if_pos, if_neg, zu_same, zu_ne, if_true, if_false, ne_eq, not_true_eq_false, not_false_eq_true, true_or, or_true, true_and, and_true, zg_true, fa_b_f, fa_b_t, L127_0 hp, L127_k5, L127_k8, L127_k40 hp, L127_k48 hp, L127_k51, T21f hp hC, T168f]
theorem T248_loop (hV : zV V) : ∀ (k : Nat) (i z : Int) (E : Nat → Int → Int), zR V E → n32 z = z → 0 ≤ i → i + k = ((V (4)).val : Int) → ∃ F, zf_ev X (d + 3) 248 (21, [vR 60, vI z, vI i], [], zH t p q E) = some (some [vI (sp_hang V k i z)], zH t p q F) ∧ (∀ a9 b9, a9 ≠ 68 → F a9 b9 = E a9 b9) := by
  have hm := hV.mems
  have hc := hV.cols
  have hr := hV.rows
  intro k
  induction k with
  | zero =>
    intro i z E hR hz h1 h2
    refine ⟨E, ?_, fun a b _ => rfl⟩
    rw [L248_21]
    simp (disch := omega) only [n32_id, zg_pos, if_pos, if_neg, zu_same, zu_ne, if_true, if_false, ne_eq, not_true_eq_false, not_false_eq_true, true_or, or_true, true_and, and_true, zg_true, fa_b_f, fa_b_t, hR.r]
    rfl
  | succ k ih =>
    intro i z E hR hz h1 h2
    have hd := sp_d_r hV h1 (m := i) (by omega)
    obtain ⟨F, f1, f2⟩ := ih (i + 1) (if sp_lamp V (sp_dc V i) (sp_dr V i) = true then zm_ior z (zm_ishl 1 i) else z) (zA V E) hR.A (by split; exact n32_ior _ _; exact hz) (by omega) (by omega)
    refine ⟨F, ?_, fun a b g => by rw [f2 a b g, zA_ne g]⟩
    rw [L248_21]
    simp (disch := omega) only [n32_id, zg_pos, if_pos, if_neg, zu_same, zu_ne, if_true, if_false, ne_eq, not_true_eq_false, not_false_eq_true, true_or, or_true, true_and, and_true, zg_true, fa_b_f, fa_b_t, hR.r, T227 hR hV]
    rw [L248_k35, T228 hR.A hV h1 (by omega), L248_k40, T229 hR.A hV (by omega) (by omega), L248_k43, fa_b_id, zm_ior0 hz]
    unfold sp_hang
    cases w : sp_lamp V (sp_dc V i) (sp_dr V i)
    · rw [w] at f1
      simp (disch := omega) only [n32_id, zg_pos, if_pos, if_neg, zu_same, zu_ne, if_true, if_false, ne_eq, not_true_eq_false, not_false_eq_true, true_or, or_true, true_and, and_true, zg_true, fa_b_f, fa_b_t]
      simpa using f1
    · rw [w] at f1
      simp (disch := omega) only [n32_id, zg_pos, if_pos, if_neg, zu_same, zu_ne, if_true, if_false, ne_eq, not_true_eq_false, not_false_eq_true, true_or, or_true, true_and, and_true, zg_true, fa_b_f, fa_b_t]
      simpa using f1
theorem Q248 (hG : zG V E p) (h1 : 0 < ((V (3)).val : Int)) : ∃ F, zf_ev X (d + 3) 248 (0, [vR 60, vJ, vJ], [], zH t p q E) = some (some [vI (sp_hang V (((V (4)).val : Int)).toNat 0 0)], zH t p q F) ∧ F 60 11 = 0 ∧ F 60 0 = 0 ∧ zFM E F := by
  obtain ⟨hV, -, h142⟩ := hG.yes (by omega)
  have hR2 := hG.R2
  obtain ⟨F, f1, f2⟩ := T248_loop (X := X) (d := d) (t := t) (p := p) (q := q) hV (((V (4)).val : Int)).toNat 0 0 (zg0 E) hR2 (by decide) (by omega) (by omega)
  have hf : zFM (zg0 E) F := fun a b g1 g2 => f2 a b (by omega)
  refine ⟨F, ?_, by rw [f2 _ _ (by omega)]; rfl, by rw [f2 _ _ (by omega)]; rfl, zFM.g0.tr hf⟩
  simp (disch := omega) only [n32_id, zg_pos, if_pos, if_neg, zu_same, zu_ne, if_true, if_false, ne_eq, not_true_eq_false, not_false_eq_true, true_or, or_true, true_and, and_true, zg_true, fa_b_f, fa_b_t, L248_0, L248_k1, L248_k13, L248_k35, L248_k40, L248_k43, T177, h142, f1]
theorem Q248n (hG : zG V E p) (h1 : ((V (3)).val : Int) ≤ 0) : ∃ F, zf_ev X (d + 3) 248 (0, [vR 60, vJ, vJ], [], zH t p q E) = some (some [vI (-1)], zH t p q F) ∧ F 60 11 = 1 ∧ F 60 0 = 0 ∧ zFM E F := by
  have h142 := hG.not h1
  refine RQ_no (F := E) ?_
  simp (disch := omega) only [n32_id, zg_pos, if_pos, if_neg, zu_same, zu_ne, if_true, if_false, ne_eq, not_true_eq_false, not_false_eq_true, true_or, or_true, true_and, and_true, zg_true, fa_b_f, fa_b_t, L248_0, L248_k1, L248_k13, L248_k35, L248_k40, L248_k43, T177, h142, L178_0]
end NW

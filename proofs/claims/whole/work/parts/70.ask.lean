/-! questions, side by side; printed by genq.py -/
section AS
variable {X : Nat × (Nat → Int)} {d : Nat} {t : List (Nat × Nat)} {p q : Nat} {E : Nat → Int → Int} {V : Int → Fin 65537} {U T : Int → Int → Fin 65537} {y im n : Int}
theorem C118 (h : zI V U T E p q y im n) {s w : Int} (b0 : -2147483648 ≤ s ∧ s < 2147483648) (b1 : -2147483648 ≤ w ∧ w < 2147483648) : ∃ v F H, zf_ev X (d + 20) 118 (0, [vR 0, vI s, vI w], [], zH t p q E) = some (some [vI v], zH t p q F) ∧ zf_ev X (d + 20) 239 (0, [vR 60, vI s, vI w], [], zH t p q F) = some (some [vI v], zH t p q H) ∧ zJ H p q (n + 1) := by
  have hK0 := sp_K_0 (V := V)
  by_cases g0 : (0 ≤ s ∧ s < ((V (3)).val : Int)) ∧ 0 ≤ w ∧ w ≤ 3
  · obtain ⟨F, f1, f2, f3⟩ := Q118 (X := X) (d := d + 15) (t := t) (p := p) (q := q) h.1 (s := s) (w := w) (by omega) (by omega) (by omega) (by omega)
    obtain ⟨H, y1, y2, y3, y4⟩ := Q239 (X := X) (d := d + 14) (t := t) (p := p) (q := q) (h.1.fc f3) (s := s) (w := w) (by omega) (by omega) (by omega) (by omega)
    exact ⟨_, F, H, f1, y1, V, U, T, y, im, h.ask f3 f2 y4 y2 (by omega)⟩
  · skip
    obtain ⟨F, f1, f2, f3⟩ := Q118n (X := X) (d := d + 15) (t := t) (p := p) (q := q) h.1 (s := s) (w := w) (by omega) (by omega) (by omega)
    obtain ⟨H, y1, y2, y3, y4⟩ := Q239n (X := X) (d := d + 14) (t := t) (p := p) (q := q) (h.1.fc f3) (s := s) (w := w) (by omega) (by omega) (by omega)
    exact ⟨_, F, H, f1, y1, V, U, T, y, im, h.ask f3 f2 y4 y2 (by omega)⟩
theorem C119 (h : zI V U T E p q y im n) {m w : Int} (b0 : -2147483648 ≤ m ∧ m < 2147483648) (b1 : -2147483648 ≤ w ∧ w < 2147483648) : ∃ v F H, zf_ev X (d + 20) 119 (0, [vR 0, vI m, vI w], [], zH t p q E) = some (some [vI v], zH t p q F) ∧ zf_ev X (d + 20) 240 (0, [vR 60, vI m, vI w], [], zH t p q F) = some (some [vI v], zH t p q H) ∧ zJ H p q (n + 1) := by
  have hK0 := sp_K_0 (V := V)
  by_cases g0 : (0 ≤ m ∧ m < ((V (4)).val : Int)) ∧ 0 ≤ w ∧ w ≤ 5
  · obtain ⟨F, f1, f2, f3⟩ := Q119 (X := X) (d := d + 19) (t := t) (p := p) (q := q) h.1 (m := m) (w := w) (by omega) (by omega) (by omega) (by omega)
    obtain ⟨H, y1, y2, y3, y4⟩ := Q240 (X := X) (d := d + 18) (t := t) (p := p) (q := q) (h.1.fc f3) (m := m) (w := w) (by omega) (by omega) (by omega) (by omega)
    exact ⟨_, F, H, f1, y1, V, U, T, y, im, h.ask f3 f2 y4 y2 (by omega)⟩
  · skip
    obtain ⟨F, f1, f2, f3⟩ := Q119n (X := X) (d := d + 19) (t := t) (p := p) (q := q) h.1 (m := m) (w := w) (by omega) (by omega) (by omega)
    obtain ⟨H, y1, y2, y3, y4⟩ := Q240n (X := X) (d := d + 18) (t := t) (p := p) (q := q) (h.1.fc f3) (m := m) (w := w) (by omega) (by omega) (by omega)
    exact ⟨_, F, H, f1, y1, V, U, T, y, im, h.ask f3 f2 y4 y2 (by omega)⟩
theorem C120 (h : zI V U T E p q y im n) {r : Int} (b0 : -2147483648 ≤ r ∧ r < 2147483648) : ∃ v F H, zf_ev X (d + 20) 120 (0, [vR 0, vI r], [], zH t p q E) = some (some [vI v], zH t p q F) ∧ zf_ev X (d + 20) 241 (0, [vR 60, vI r], [], zH t p q F) = some (some [vI v], zH t p q H) ∧ zJ H p q (n + 1) := by
  have hK0 := sp_K_0 (V := V)
  by_cases g0 : (1 ≤ r ∧ r ≤ ((V (1)).val : Int))
  · obtain ⟨F, f1, f2, f3⟩ := Q120 (X := X) (d := d + 19) (t := t) (p := p) (q := q) h.1 (r := r) (by omega) (by omega)
    obtain ⟨H, y1, y2, y3, y4⟩ := Q241 (X := X) (d := d + 18) (t := t) (p := p) (q := q) (h.1.fc f3) (r := r) (by omega) (by omega)
    exact ⟨_, F, H, f1, y1, V, U, T, y, im, h.ask f3 f2 y4 y2 (by omega)⟩
  · skip
    obtain ⟨F, f1, f2, f3⟩ := Q120n (X := X) (d := d + 19) (t := t) (p := p) (q := q) h.1 (r := r) (by omega) (by omega)
    obtain ⟨H, y1, y2, y3, y4⟩ := Q241n (X := X) (d := d + 18) (t := t) (p := p) (q := q) (h.1.fc f3) (r := r) (by omega) (by omega)
    exact ⟨_, F, H, f1, y1, V, U, T, y, im, h.ask f3 f2 y4 y2 (by omega)⟩
theorem C121 (h : zI V U T E p q y im n) {c r : Int} (b0 : -2147483648 ≤ c ∧ c < 2147483648) (b1 : -2147483648 ≤ r ∧ r < 2147483648) : ∃ v F H, zf_ev X (d + 20) 121 (0, [vR 0, vI c, vI r], [], zH t p q E) = some (some [vI v], zH t p q F) ∧ zf_ev X (d + 20) 242 (0, [vR 60, vI c, vI r], [], zH t p q F) = some (some [vI v], zH t p q H) ∧ zJ H p q (n + 1) := by
  have hK0 := sp_K_0 (V := V)
  by_cases g0 : (0 ≤ c ∧ c < ((V (0)).val : Int)) ∧ (1 ≤ r ∧ r ≤ ((V (1)).val : Int))
  · obtain ⟨F, f1, f2, f3⟩ := Q121 (X := X) (d := d + 18) (t := t) (p := p) (q := q) h.1 (c := c) (r := r) (by omega) (by omega) (by omega) (by omega)
    obtain ⟨H, y1, y2, y3, y4⟩ := Q242 (X := X) (d := d + 18) (t := t) (p := p) (q := q) (h.1.fc f3) (c := c) (r := r) (by omega) (by omega) (by omega) (by omega)
    exact ⟨_, F, H, f1, y1, V, U, T, y, im, h.ask f3 f2 y4 y2 (by omega)⟩
  · skip
    obtain ⟨F, f1, f2, f3⟩ := Q121n (X := X) (d := d + 18) (t := t) (p := p) (q := q) h.1 (c := c) (r := r) (by omega) (by omega) (by omega)
    obtain ⟨H, y1, y2, y3, y4⟩ := Q242n (X := X) (d := d + 18) (t := t) (p := p) (q := q) (h.1.fc f3) (c := c) (r := r) (by omega) (by omega) (by omega)
    exact ⟨_, F, H, f1, y1, V, U, T, y, im, h.ask f3 f2 y4 y2 (by omega)⟩
theorem C122 (h : zI V U T E p q y im n) {m : Int} (b0 : -2147483648 ≤ m ∧ m < 2147483648) : ∃ v F H, zf_ev X (d + 20) 122 (0, [vR 0, vI m], [], zH t p q E) = some (some [vI v], zH t p q F) ∧ zf_ev X (d + 20) 243 (0, [vR 60, vI m], [], zH t p q F) = some (some [vI v], zH t p q H) ∧ zJ H p q (n + 1) := by
  have hK0 := sp_K_0 (V := V)
  by_cases g0 : (0 ≤ m ∧ m < ((V (4)).val : Int))
  · obtain ⟨F, f1, f2, f3⟩ := Q122 (X := X) (d := d + 17) (t := t) (p := p) (q := q) h.1 (m := m) (by omega) (by omega)
    obtain ⟨H, y1, y2, y3, y4⟩ := Q243 (X := X) (d := d + 17) (t := t) (p := p) (q := q) (h.1.fc f3) (m := m) (by omega) (by omega)
    exact ⟨_, F, H, f1, y1, V, U, T, y, im, h.ask f3 f2 y4 y2 (by omega)⟩
  · skip
    obtain ⟨F, f1, f2, f3⟩ := Q122n (X := X) (d := d + 17) (t := t) (p := p) (q := q) h.1 (m := m) (by omega) (by omega)
    obtain ⟨H, y1, y2, y3, y4⟩ := Q243n (X := X) (d := d + 17) (t := t) (p := p) (q := q) (h.1.fc f3) (m := m) (by omega) (by omega)
    exact ⟨_, F, H, f1, y1, V, U, T, y, im, h.ask f3 f2 y4 y2 (by omega)⟩
theorem C123 (h : zI V U T E p q y im n) {m : Int} (b0 : -2147483648 ≤ m ∧ m < 2147483648) : ∃ v F H, zf_ev X (d + 20) 123 (0, [vR 0, vI m], [], zH t p q E) = some (some [vI v], zH t p q F) ∧ zf_ev X (d + 20) 244 (0, [vR 60, vI m], [], zH t p q F) = some (some [vI v], zH t p q H) ∧ zJ H p q (n + 1) := by
  have hK0 := sp_K_0 (V := V)
  by_cases g0 : (0 ≤ m ∧ m < ((V (4)).val : Int))
  · obtain ⟨F, f1, f2, f3⟩ := Q123 (X := X) (d := d + 16) (t := t) (p := p) (q := q) h.1 (m := m) (by omega) (by omega)
    obtain ⟨H, y1, y2, y3, y4⟩ := Q244 (X := X) (d := d + 16) (t := t) (p := p) (q := q) (h.1.fc f3) (m := m) (by omega) (by omega)
    exact ⟨_, F, H, f1, y1, V, U, T, y, im, h.ask f3 f2 y4 y2 (by omega)⟩
  · skip
    obtain ⟨F, f1, f2, f3⟩ := Q123n (X := X) (d := d + 16) (t := t) (p := p) (q := q) h.1 (m := m) (by omega) (by omega)
    obtain ⟨H, y1, y2, y3, y4⟩ := Q244n (X := X) (d := d + 16) (t := t) (p := p) (q := q) (h.1.fc f3) (m := m) (by omega) (by omega)
    exact ⟨_, F, H, f1, y1, V, U, T, y, im, h.ask f3 f2 y4 y2 (by omega)⟩
theorem C124 (h : zI V U T E p q y im n) {c r : Int} (b0 : -2147483648 ≤ c ∧ c < 2147483648) (b1 : -2147483648 ≤ r ∧ r < 2147483648) : ∃ v F H, zf_ev X (d + 20) 124 (0, [vR 0, vI c, vI r], [], zH t p q E) = some (some [vI v], zH t p q F) ∧ zf_ev X (d + 20) 245 (0, [vR 60, vI c, vI r], [], zH t p q F) = some (some [vI v], zH t p q H) ∧ zJ H p q (n + 1) := by
  have hK0 := sp_K_0 (V := V)
  by_cases g0 : (0 ≤ c ∧ c < ((V (0)).val : Int)) ∧ (1 ≤ r ∧ r ≤ ((V (1)).val : Int))
  · obtain ⟨F, f1, f2, f3⟩ := Q124 (X := X) (d := d + 18) (t := t) (p := p) (q := q) h.1 (c := c) (r := r) (by omega) (by omega) (by omega) (by omega)
    obtain ⟨H, y1, y2, y3, y4⟩ := Q245 (X := X) (d := d + 18) (t := t) (p := p) (q := q) (h.1.fc f3) (c := c) (r := r) (by omega) (by omega) (by omega) (by omega)
    exact ⟨_, F, H, f1, y1, V, U, T, y, im, h.ask f3 f2 y4 y2 (by omega)⟩
  · skip
    obtain ⟨F, f1, f2, f3⟩ := Q124n (X := X) (d := d + 18) (t := t) (p := p) (q := q) h.1 (c := c) (r := r) (by omega) (by omega) (by omega)
    obtain ⟨H, y1, y2, y3, y4⟩ := Q245n (X := X) (d := d + 18) (t := t) (p := p) (q := q) (h.1.fc f3) (c := c) (r := r) (by omega) (by omega) (by omega)
    exact ⟨_, F, H, f1, y1, V, U, T, y, im, h.ask f3 f2 y4 y2 (by omega)⟩
theorem C125 (h : zI V U T E p q y im n) : ∃ v F H, zf_ev X (d + 20) 125 (0, [vR 0], [], zH t p q E) = some (some [vI v], zH t p q F) ∧ zf_ev X (d + 20) 246 (0, [vR 60], [], zH t p q F) = some (some [vI v], zH t p q H) ∧ zJ H p q (n + 1) := by
  have hK0 := sp_K_0 (V := V)
  by_cases g0 : 0 < ((V (3)).val : Int)
  · obtain ⟨F, f1, f2, f3⟩ := Q125 (X := X) (d := d + 15) (t := t) (p := p) (q := q) h.1  (by omega)
    obtain ⟨H, y1, y2, y3, y4⟩ := Q246 (X := X) (d := d + 14) (t := t) (p := p) (q := q) (h.1.fc f3)  (by omega)
    exact ⟨_, F, H, f1, y1, V, U, T, y, im, h.ask f3 f2 y4 y2 (by omega)⟩
  · skip
    obtain ⟨F, f1, f2, f3⟩ := Q125n (X := X) (d := d + 15) (t := t) (p := p) (q := q) h.1  (by omega)
    obtain ⟨H, y1, y2, y3, y4⟩ := Q246n (X := X) (d := d + 14) (t := t) (p := p) (q := q) (h.1.fc f3)  (by omega)
    exact ⟨_, F, H, f1, y1, V, U, T, y, im, h.ask f3 f2 y4 y2 (by omega)⟩
theorem C126 (h : zI V U T E p q y im n) : ∃ v F H, zf_ev X (d + 20) 126 (0, [vR 0, vJ, vJ], [], zH t p q E) = some (some [vI v], zH t p q F) ∧ zf_ev X (d + 20) 247 (0, [vR 60], [], zH t p q F) = some (some [vI v], zH t p q H) ∧ zJ H p q (n + 1) := by
  have hK0 := sp_K_0 (V := V)
  by_cases g0 : 0 < ((V (3)).val : Int)
  · obtain ⟨F, f1, f2, f3⟩ := Q126 (X := X) (d := d + 16) (t := t) (p := p) (q := q) h.1  (by omega)
    obtain ⟨H, y1, y2, y3, y4⟩ := Q247 (X := X) (d := d + 14) (t := t) (p := p) (q := q) (h.1.fc f3)  (by omega)
    exact ⟨_, F, H, f1, y1, V, U, T, y, im, h.ask f3 f2 y4 y2 (by omega)⟩
  · skip
    obtain ⟨F, f1, f2, f3⟩ := Q126n (X := X) (d := d + 16) (t := t) (p := p) (q := q) h.1  (by omega)
    obtain ⟨H, y1, y2, y3, y4⟩ := Q247n (X := X) (d := d + 14) (t := t) (p := p) (q := q) (h.1.fc f3)  (by omega)
    exact ⟨_, F, H, f1, y1, V, U, T, y, im, h.ask f3 f2 y4 y2 (by omega)⟩
theorem C127 (h : zI V U T E p q y im n) : ∃ v F H, zf_ev X (d + 20) 127 (0, [vR 0, vJ, vJ], [], zH t p q E) = some (some [vI v], zH t p q F) ∧ zf_ev X (d + 20) 248 (0, [vR 60, vJ, vJ], [], zH t p q F) = some (some [vI v], zH t p q H) ∧ zJ H p q (n + 1) := by
  have hK0 := sp_K_0 (V := V)
  by_cases g0 : 0 < ((V (3)).val : Int)
  · obtain ⟨F, f1, f2, f3⟩ := Q127 (X := X) (d := d + 17) (t := t) (p := p) (q := q) h.1  (by omega)
    obtain ⟨H, y1, y2, y3, y4⟩ := Q248 (X := X) (d := d + 17) (t := t) (p := p) (q := q) (h.1.fc f3)  (by omega)
    exact ⟨_, F, H, f1, y1, V, U, T, y, im, h.ask f3 f2 y4 y2 (by omega)⟩
  · skip
    obtain ⟨F, f1, f2, f3⟩ := Q127n (X := X) (d := d + 17) (t := t) (p := p) (q := q) h.1  (by omega)
    obtain ⟨H, y1, y2, y3, y4⟩ := Q248n (X := X) (d := d + 17) (t := t) (p := p) (q := q) (h.1.fc f3)  (by omega)
    exact ⟨_, F, H, f1, y1, V, U, T, y, im, h.ask f3 f2 y4 y2 (by omega)⟩
theorem C128 (h : zI V U T E p q y im n) : ∃ v F H, zf_ev X (d + 20) 128 (0, [vR 0], [], zH t p q E) = some (some [vI v], zH t p q F) ∧ zf_ev X (d + 20) 249 (0, [vR 60, vJ, vJ, vJ, vJ, vJ, vJ], [], zH t p q F) = some (some [vI v], zH t p q H) ∧ zJ H p q (n + 1) := by
  have hK0 := sp_K_0 (V := V)
  by_cases g0 : 0 < ((V (3)).val : Int)
  · obtain ⟨F, f1, f2, f3⟩ := Q128 (X := X) (d := d + 16) (t := t) (p := p) (q := q) h.1  (by omega)
    obtain ⟨H, y1, y2, y3, y4⟩ := Q249 (X := X) (d := d + 17) (t := t) (p := p) (q := q) (h.1.fc f3)  (by omega)
    exact ⟨_, F, H, f1, y1, V, U, T, y, im, h.ask f3 f2 y4 y2 (by omega)⟩
  · skip
    obtain ⟨F, f1, f2, f3⟩ := Q128n (X := X) (d := d + 16) (t := t) (p := p) (q := q) h.1  (by omega)
    obtain ⟨H, y1, y2, y3, y4⟩ := Q249n (X := X) (d := d + 17) (t := t) (p := p) (q := q) (h.1.fc f3)  (by omega)
    exact ⟨_, F, H, f1, y1, V, U, T, y, im, h.ask f3 f2 y4 y2 (by omega)⟩
theorem C129 (h : zI V U T E p q y im n) {m s l : Int} (b0 : -2147483648 ≤ m ∧ m < 2147483648) (b1 : -2147483648 ≤ s ∧ s < 2147483648) (b2 : -2147483648 ≤ l ∧ l < 2147483648) : ∃ v F H, zf_ev X (d + 20) 129 (0, [vR 0, vI m, vI s, vI l], [], zH t p q E) = some (some [vL v], zH t p q F) ∧ zf_ev X (d + 20) 253 (0, [vR 60, vI m, vI s, vI l], [], zH t p q F) = some (some [vL v], zH t p q H) ∧ zJ H p q (n + 1) := by
  have hK0 := sp_K_0 (V := V)
  by_cases g0 : (0 ≤ m ∧ m < ((V (4)).val : Int)) ∧ (0 ≤ s ∧ s < ((V (3)).val : Int))
  · obtain ⟨F, f1, f2, f3⟩ := Q129 (X := X) (d := d + 15) (t := t) (p := p) (q := q) h.1 (m := m) (s := s) (l := l) (by omega) (by omega) (by omega) (by omega) (by omega)
    obtain ⟨H, y1, y2, y3, y4⟩ := Q253 (X := X) (d := d + 15) (t := t) (p := p) (q := q) (h.1.fc f3) (m := m) (s := s) (l := l) (by omega) (by omega) (by omega) (by omega) (by omega)
    exact ⟨_, F, H, f1, y1, V, U, T, y, im, h.ask f3 f2 y4 y2 (by omega)⟩
  · skip
    obtain ⟨F, f1, f2, f3⟩ := Q129n (X := X) (d := d + 15) (t := t) (p := p) (q := q) h.1 (m := m) (s := s) (l := l) (by omega) (by omega) (by omega)
    obtain ⟨H, y1, y2, y3, y4⟩ := Q253n (X := X) (d := d + 15) (t := t) (p := p) (q := q) (h.1.fc f3) (m := m) (s := s) (l := l) (by omega) (by omega) (by omega)
    exact ⟨_, F, H, f1, y1, V, U, T, y, im, h.ask f3 f2 y4 y2 (by omega)⟩
theorem C130 (h : zI V U T E p q y im n) {s l : Int} (b0 : -2147483648 ≤ s ∧ s < 2147483648) (b1 : -2147483648 ≤ l ∧ l < 2147483648) : ∃ v F H, zf_ev X (d + 20) 130 (0, [vR 0, vI s, vI l], [], zH t p q E) = some (some [vL v], zH t p q F) ∧ zf_ev X (d + 20) 257 (0, [vR 60, vI s, vI l], [], zH t p q F) = some (some [vL v], zH t p q H) ∧ zJ H p q (n + 1) := by
  have hK0 := sp_K_0 (V := V)
  by_cases g0 : (0 ≤ s ∧ s < ((V (3)).val : Int))
  · obtain ⟨F, f1, f2, f3⟩ := Q130 (X := X) (d := d + 11) (t := t) (p := p) (q := q) h.1 (s := s) (l := l) (by omega) (by omega) (by omega)
    obtain ⟨H, y1, y2, y3, y4⟩ := Q257 (X := X) (d := d + 9) (t := t) (p := p) (q := q) (h.1.fc f3) (s := s) (l := l) (by omega) (by omega) (by omega)
    exact ⟨_, F, H, f1, y1, V, U, T, y, im, h.ask f3 f2 y4 y2 (by omega)⟩
  · skip
    obtain ⟨F, f1, f2, f3⟩ := Q130n (X := X) (d := d + 11) (t := t) (p := p) (q := q) h.1 (s := s) (l := l) (by omega) (by omega)
    obtain ⟨H, y1, y2, y3, y4⟩ := Q257n (X := X) (d := d + 9) (t := t) (p := p) (q := q) (h.1.fc f3) (s := s) (l := l) (by omega) (by omega)
    exact ⟨_, F, H, f1, y1, V, U, T, y, im, h.ask f3 f2 y4 y2 (by omega)⟩
theorem C131 (h : zI V U T E p q y im n) {s many l : Int} (b0 : -2147483648 ≤ s ∧ s < 2147483648) (b1 : -2147483648 ≤ many ∧ many < 2147483648) (b2 : -2147483648 ≤ l ∧ l < 2147483648) : ∃ v F H, zf_ev X (d + 20) 131 (0, [vR 0, vI s, vI many, vI l], [], zH t p q E) = some (some [vL v], zH t p q F) ∧ zf_ev X (d + 20) 258 (0, [vR 60, vI s, vI many, vI l, vJ, vJ, vJ, vJ], [], zH t p q F) = some (some [vL v], zH t p q H) ∧ zJ H p q (n + 1) := by
  have hK0 := sp_K_0 (V := V)
  by_cases g0 : (0 ≤ s ∧ s < ((V (3)).val : Int)) ∧ 0 ≤ many ∧ many ≤ 6
  · obtain ⟨F, f1, f2, f3⟩ := Q131 (X := X) (d := d + 14) (t := t) (p := p) (q := q) h.1 (s := s) (many := many) (l := l) (by omega) (by omega) (by omega) (by omega) (by omega)
    obtain ⟨H, y1, y2, y3, y4⟩ := Q258 (X := X) (d := d + 15) (t := t) (p := p) (q := q) (h.1.fc f3) (s := s) (many := many) (l := l) (by omega) (by omega) (by omega) (by omega) (by omega)
    exact ⟨_, F, H, f1, y1, V, U, T, y, im, h.ask f3 f2 y4 y2 (by omega)⟩
  · skip
    by_cases g1 : (0 ≤ s ∧ s < ((V (3)).val : Int))
    · obtain ⟨F, f1, f2, f3⟩ := Q131m (X := X) (d := d + 14) (t := t) (p := p) (q := q) h.1 (s := s) (many := many) (l := l) (by omega) (by omega) (by omega) (by omega)
      obtain ⟨H, y1, y2, y3, y4⟩ := Q258m (X := X) (d := d + 15) (t := t) (p := p) (q := q) (h.1.fc f3) (s := s) (many := many) (l := l) (by omega) (by omega) (by omega) (by omega)
      exact ⟨_, F, H, f1, y1, V, U, T, y, im, h.ask f3 f2 y4 y2 (by omega)⟩
    · skip
      obtain ⟨F, f1, f2, f3⟩ := Q131n (X := X) (d := d + 14) (t := t) (p := p) (q := q) h.1 (s := s) (many := many) (l := l) (by omega) (by omega)
      obtain ⟨H, y1, y2, y3, y4⟩ := Q258n (X := X) (d := d + 15) (t := t) (p := p) (q := q) (h.1.fc f3) (s := s) (many := many) (l := l) (by omega) (by omega)
      exact ⟨_, F, H, f1, y1, V, U, T, y, im, h.ask f3 f2 y4 y2 (by omega)⟩
theorem C132 (h : zI V U T E p q y im n) {s l : Int} (b0 : -2147483648 ≤ s ∧ s < 2147483648) (b1 : -2147483648 ≤ l ∧ l < 2147483648) : ∃ v F H, zf_ev X (d + 20) 132 (0, [vR 0, vI s, vI l, vJ, vJ, vJ], [], zH t p q E) = some (some [vL v], zH t p q F) ∧ zf_ev X (d + 20) 259 (0, [vR 60, vI s, vI l, vJ, vJ, vJ], [], zH t p q F) = some (some [vL v], zH t p q H) ∧ zJ H p q (n + 1) := by
  have hK0 := sp_K_0 (V := V)
  by_cases g0 : (0 ≤ s ∧ s < ((V (3)).val : Int))
  · obtain ⟨F, f1, f2, f3⟩ := Q132 (X := X) (d := d + 15) (t := t) (p := p) (q := q) h.1 (s := s) (l := l) (by omega) (by omega) (by omega)
    obtain ⟨H, y1, y2, y3, y4⟩ := Q259 (X := X) (d := d + 15) (t := t) (p := p) (q := q) (h.1.fc f3) (s := s) (l := l) (by omega) (by omega) (by omega)
    exact ⟨_, F, H, f1, y1, V, U, T, y, im, h.ask f3 f2 y4 y2 (by omega)⟩
  · skip
    obtain ⟨F, f1, f2, f3⟩ := Q132n (X := X) (d := d + 15) (t := t) (p := p) (q := q) h.1 (s := s) (l := l) (by omega) (by omega)
    obtain ⟨H, y1, y2, y3, y4⟩ := Q259n (X := X) (d := d + 15) (t := t) (p := p) (q := q) (h.1.fc f3) (s := s) (l := l) (by omega) (by omega)
    exact ⟨_, F, H, f1, y1, V, U, T, y, im, h.ask f3 f2 y4 y2 (by omega)⟩
theorem C133 (h : zI V U T E p q y im n) : ∃ v F H, zf_ev X (d + 20) 133 (0, [vR 0], [], zH t p q E) = some (some [vI v], zH t p q F) ∧ zf_ev X (d + 20) 260 (0, [vR 60, vJ, vJ, vJ, vJ, vJ, vJ], [], zH t p q F) = some (some [vI v], zH t p q H) ∧ zJ H p q (n + 1) := by
  have hK0 := sp_K_0 (V := V)
  by_cases g0 : 0 < ((V (3)).val : Int)
  · obtain ⟨F, f1, f2, f3⟩ := Q133 (X := X) (d := d + 11) (t := t) (p := p) (q := q) h.1  (by omega)
    obtain ⟨H, y1, y2, y3, y4⟩ := Q260 (X := X) (d := d + 9) (t := t) (p := p) (q := q) (h.1.fc f3)  (by omega)
    exact ⟨_, F, H, f1, y1, V, U, T, y, im, h.ask f3 f2 y4 y2 (by omega)⟩
  · skip
    obtain ⟨F, f1, f2, f3⟩ := Q133n (X := X) (d := d + 11) (t := t) (p := p) (q := q) h.1  (by omega)
    obtain ⟨H, y1, y2, y3, y4⟩ := Q260n (X := X) (d := d + 9) (t := t) (p := p) (q := q) (h.1.fc f3)  (by omega)
    exact ⟨_, F, H, f1, y1, V, U, T, y, im, h.ask f3 f2 y4 y2 (by omega)⟩
theorem C134 (h : zI V U T E p q y im n) {m s : Int} (b0 : -2147483648 ≤ m ∧ m < 2147483648) (b1 : -2147483648 ≤ s ∧ s < 2147483648) : ∃ v F H, zf_ev X (d + 20) 134 (0, [vR 0, vI m, vI s], [], zH t p q E) = some (some [vI v], zH t p q F) ∧ zf_ev X (d + 20) 262 (0, [vR 60, vI m, vI s], [], zH t p q F) = some (some [vI v], zH t p q H) ∧ zJ H p q (n + 1) := by
  have hK0 := sp_K_0 (V := V)
  by_cases g0 : (0 ≤ m ∧ m < ((V (4)).val : Int)) ∧ (0 ≤ s ∧ s < ((V (3)).val : Int))
  · obtain ⟨F, f1, f2, f3⟩ := Q134 (X := X) (d := d + 15) (t := t) (p := p) (q := q) h.1 (m := m) (s := s) (by omega) (by omega) (by omega) (by omega)
    obtain ⟨H, y1, y2, y3, y4⟩ := Q262 (X := X) (d := d + 15) (t := t) (p := p) (q := q) (h.1.fc f3) (m := m) (s := s) (by omega) (by omega) (by omega) (by omega)
    exact ⟨_, F, H, f1, y1, V, U, T, y, im, h.ask f3 f2 y4 y2 (by omega)⟩
  · skip
    obtain ⟨F, f1, f2, f3⟩ := Q134n (X := X) (d := d + 15) (t := t) (p := p) (q := q) h.1 (m := m) (s := s) (by omega) (by omega) (by omega)
    obtain ⟨H, y1, y2, y3, y4⟩ := Q262n (X := X) (d := d + 15) (t := t) (p := p) (q := q) (h.1.fc f3) (m := m) (s := s) (by omega) (by omega) (by omega)
    exact ⟨_, F, H, f1, y1, V, U, T, y, im, h.ask f3 f2 y4 y2 (by omega)⟩
theorem C135 (h : zI V U T E p q y im n) {m s l : Int} (b0 : -2147483648 ≤ m ∧ m < 2147483648) (b1 : -2147483648 ≤ s ∧ s < 2147483648) (b2 : -2147483648 ≤ l ∧ l < 2147483648) : ∃ v F H, zf_ev X (d + 20) 135 (0, [vR 0, vI m, vI s, vI l], [], zH t p q E) = some (some [vL v], zH t p q F) ∧ zf_ev X (d + 20) 263 (0, [vR 60, vI m, vI s, vI l], [], zH t p q F) = some (some [vL v], zH t p q H) ∧ zJ H p q (n + 1) := by
  have hK0 := sp_K_0 (V := V)
  by_cases g0 : (0 ≤ m ∧ m < ((V (4)).val : Int)) ∧ (0 ≤ s ∧ s < ((V (3)).val : Int))
  · obtain ⟨F, f1, f2, f3⟩ := Q135 (X := X) (d := d + 15) (t := t) (p := p) (q := q) h.1 (m := m) (s := s) (l := l) (by omega) (by omega) (by omega) (by omega) (by omega)
    obtain ⟨H, y1, y2, y3, y4⟩ := Q263 (X := X) (d := d + 15) (t := t) (p := p) (q := q) (h.1.fc f3) (m := m) (s := s) (l := l) (by omega) (by omega) (by omega) (by omega) (by omega)
    exact ⟨_, F, H, f1, y1, V, U, T, y, im, h.ask f3 f2 y4 y2 (by omega)⟩
  · skip
    obtain ⟨F, f1, f2, f3⟩ := Q135n (X := X) (d := d + 15) (t := t) (p := p) (q := q) h.1 (m := m) (s := s) (l := l) (by omega) (by omega) (by omega)
    obtain ⟨H, y1, y2, y3, y4⟩ := Q263n (X := X) (d := d + 15) (t := t) (p := p) (q := q) (h.1.fc f3) (m := m) (s := s) (l := l) (by omega) (by omega) (by omega)
    exact ⟨_, F, H, f1, y1, V, U, T, y, im, h.ask f3 f2 y4 y2 (by omega)⟩
theorem C136 (h : zI V U T E p q y im n) {m s : Int} (b0 : -2147483648 ≤ m ∧ m < 2147483648) (b1 : -2147483648 ≤ s ∧ s < 2147483648) : ∃ v F H, zf_ev X (d + 20) 136 (0, [vR 0, vI m, vI s], [], zH t p q E) = some (some [vI v], zH t p q F) ∧ zf_ev X (d + 20) 264 (0, [vR 60, vI m, vI s, vJ, vJ, vJ, vJ], [], zH t p q F) = some (some [vI v], zH t p q H) ∧ zJ H p q (n + 1) := by
  have hK0 := sp_K_0 (V := V)
  by_cases g0 : (0 ≤ m ∧ m < ((V (4)).val : Int)) ∧ (0 ≤ s ∧ s < ((V (3)).val : Int))
  · obtain ⟨F, f1, f2, f3⟩ := Q136 (X := X) (d := d + 15) (t := t) (p := p) (q := q) h.1 (m := m) (s := s) (by omega) (by omega) (by omega) (by omega)
    obtain ⟨H, y1, y2, y3, y4⟩ := Q264 (X := X) (d := d + 16) (t := t) (p := p) (q := q) (h.1.fc f3) (m := m) (s := s) (by omega) (by omega) (by omega) (by omega)
    exact ⟨_, F, H, f1, y1, V, U, T, y, im, h.ask f3 f2 y4 y2 (by omega)⟩
  · skip
    obtain ⟨F, f1, f2, f3⟩ := Q136n (X := X) (d := d + 15) (t := t) (p := p) (q := q) h.1 (m := m) (s := s) (by omega) (by omega) (by omega)
    obtain ⟨H, y1, y2, y3, y4⟩ := Q264n (X := X) (d := d + 16) (t := t) (p := p) (q := q) (h.1.fc f3) (m := m) (s := s) (by omega) (by omega) (by omega)
    exact ⟨_, F, H, f1, y1, V, U, T, y, im, h.ask f3 f2 y4 y2 (by omega)⟩
theorem C137 (h : zI V U T E p q y im n) {s : Int} (b0 : -2147483648 ≤ s ∧ s < 2147483648) : ∃ v F H, zf_ev X (d + 20) 137 (0, [vR 0, vI s], [], zH t p q E) = some (some [vI v], zH t p q F) ∧ zf_ev X (d + 20) 267 (0, [vR 60, vI s], [], zH t p q F) = some (some [vI v], zH t p q H) ∧ zJ H p q (n + 1) := by
  have hK0 := sp_K_0 (V := V)
  by_cases g0 : (0 ≤ s ∧ s < ((V (3)).val : Int))
  · obtain ⟨F, f1, f2, f3⟩ := Q137 (X := X) (d := d + 15) (t := t) (p := p) (q := q) h.1 (s := s) (by omega) (by omega)
    obtain ⟨H, y1, y2, y3, y4⟩ := Q267 (X := X) (d := d + 14) (t := t) (p := p) (q := q) (h.1.fc f3) (s := s) (h.D (by omega)).2.1 (by omega) (by omega)
    exact ⟨_, F, H, f1, y1, V, U, T, y, im, h.ask f3 f2 y4 y2 (by omega)⟩
  · skip
    obtain ⟨F, f1, f2, f3⟩ := Q137n (X := X) (d := d + 15) (t := t) (p := p) (q := q) h.1 (s := s) (by omega) (by omega)
    obtain ⟨H, y1, y2, y3, y4⟩ := Q267n (X := X) (d := d + 14) (t := t) (p := p) (q := q) (h.1.fc f3) (s := s) (by omega) (by omega)
    exact ⟨_, F, H, f1, y1, V, U, T, y, im, h.ask f3 f2 y4 y2 (by omega)⟩
theorem C138 (h : zI V U T E p q y im n) {s : Int} (b0 : -2147483648 ≤ s ∧ s < 2147483648) : ∃ v F H, zf_ev X (d + 20) 138 (0, [vR 0, vI s], [], zH t p q E) = some (some [vI v], zH t p q F) ∧ zf_ev X (d + 20) 268 (0, [vR 60, vI s], [], zH t p q F) = some (some [vI v], zH t p q H) ∧ zJ H p q (n + 1) := by
  have hK0 := sp_K_0 (V := V)
  by_cases g0 : (0 ≤ s ∧ s < ((V (3)).val : Int))
  · obtain ⟨F, f1, f2, f3⟩ := Q138 (X := X) (d := d + 15) (t := t) (p := p) (q := q) h.1 (s := s) (by omega) (by omega)
    obtain ⟨H, y1, y2, y3, y4⟩ := Q268 (X := X) (d := d + 14) (t := t) (p := p) (q := q) (h.1.fc f3) (s := s) (h.D (by omega)).2.1 (by omega) (by omega)
    exact ⟨_, F, H, f1, y1, V, U, T, y, im, h.ask f3 f2 y4 y2 (by omega)⟩
  · skip
    obtain ⟨F, f1, f2, f3⟩ := Q138n (X := X) (d := d + 15) (t := t) (p := p) (q := q) h.1 (s := s) (by omega) (by omega)
    obtain ⟨H, y1, y2, y3, y4⟩ := Q268n (X := X) (d := d + 14) (t := t) (p := p) (q := q) (h.1.fc f3) (s := s) (by omega) (by omega)
    exact ⟨_, F, H, f1, y1, V, U, T, y, im, h.ask f3 f2 y4 y2 (by omega)⟩
theorem C139 (h : zI V U T E p q y im n) {s c x e l : Int} (b0 : -2147483648 ≤ s ∧ s < 2147483648) (b1 : -2147483648 ≤ c ∧ c < 2147483648) (b2 : -2147483648 ≤ x ∧ x < 2147483648) (b3 : -2147483648 ≤ e ∧ e < 2147483648) (b4 : -2147483648 ≤ l ∧ l < 2147483648) : ∃ v F H, zf_ev X (d + 20) 139 (0, [vR 0, vI s, vI c, vI x, vI e, vI l, vJ], [], zH t p q E) = some (some [vI v], zH t p q F) ∧ zf_ev X (d + 20) 271 (0, [vR 60, vI s, vI c, vI x, vI e, vI l], [], zH t p q F) = some (some [vI v], zH t p q H) ∧ zJ H p q (n + 1) := by
  have hK0 := sp_K_0 (V := V)
  by_cases g0 : ((0 ≤ s ∧ s < ((V (3)).val : Int)) ∧ (0 ≤ x ∧ x < ((V (3)).val : Int)) ∧ s ≠ x) ∧ (0 ≤ c ∧ c < ((V (0)).val : Int)) ∧ 0 ≤ e ∧ e < ((V (0)).val : Int)
  · obtain ⟨F, f1, f2, f3⟩ := Q139 (X := X) (d := d + 16) (t := t) (p := p) (q := q) h.1 (s := s) (c := c) (x := x) (e := e) (l := l) (by omega) (by omega) (by omega) (by omega) (by omega) (by omega) (by omega) (by omega) (by omega) (by omega)
    obtain ⟨H, y1, y2, y3, y4⟩ := Q271 (X := X) (d := d + 14) (t := t) (p := p) (q := q) (h.1.fc f3) (s := s) (c := c) (x := x) (e := e) (l := l) (by omega) (by omega) (by omega) (by omega) (by omega) (by omega) (by omega) (by omega) (by omega) (by omega)
    exact ⟨_, F, H, f1, y1, V, U, T, y, im, h.ask f3 f2 y4 y2 (by omega)⟩
  · skip
    obtain ⟨F, f1, f2, f3⟩ := Q139n (X := X) (d := d + 16) (t := t) (p := p) (q := q) h.1 (s := s) (c := c) (x := x) (e := e) (l := l) (by omega) (by omega) (by omega) (by omega) (by omega)
    obtain ⟨H, y1, y2, y3, y4⟩ := Q271n (X := X) (d := d + 14) (t := t) (p := p) (q := q) (h.1.fc f3) (s := s) (c := c) (x := x) (e := e) (l := l) (by omega) (by omega) (by omega) (by omega) (by omega)
    exact ⟨_, F, H, f1, y1, V, U, T, y, im, h.ask f3 f2 y4 y2 (by omega)⟩
theorem C140 (h : zI V U T E p q y im n) {s x : Int} (b0 : -2147483648 ≤ s ∧ s < 2147483648) (b1 : -2147483648 ≤ x ∧ x < 2147483648) : ∃ v F H, zf_ev X (d + 20) 140 (0, [vR 0, vI s, vI x], [], zH t p q E) = some (some [vI v], zH t p q F) ∧ zf_ev X (d + 20) 273 (0, [vR 60, vI s, vI x], [], zH t p q F) = some (some [vI v], zH t p q H) ∧ zJ H p q (n + 1) := by
  have hK0 := sp_K_0 (V := V)
  by_cases g0 : (0 ≤ s ∧ s < ((V (3)).val : Int)) ∧ (0 ≤ x ∧ x < ((V (3)).val : Int)) ∧ s ≠ x
  · obtain ⟨F, f1, f2, f3⟩ := Q140 (X := X) (d := d + 15) (t := t) (p := p) (q := q) h.1 (s := s) (x := x) (by omega) (by omega) (by omega) (by omega) (by omega)
    obtain ⟨H, y1, y2, y3, y4⟩ := Q273 (X := X) (d := d + 13) (t := t) (p := p) (q := q) (h.1.fc f3) (s := s) (x := x) (by omega) (by omega) (by omega) (by omega) (by omega)
    exact ⟨_, F, H, f1, y1, V, U, T, y, im, h.ask f3 f2 y4 y2 (by omega)⟩
  · skip
    obtain ⟨F, f1, f2, f3⟩ := Q140n (X := X) (d := d + 15) (t := t) (p := p) (q := q) h.1 (s := s) (x := x) (by omega) (by omega) (by omega)
    obtain ⟨H, y1, y2, y3, y4⟩ := Q273n (X := X) (d := d + 13) (t := t) (p := p) (q := q) (h.1.fc f3) (s := s) (x := x) (by omega) (by omega) (by omega)
    exact ⟨_, F, H, f1, y1, V, U, T, y, im, h.ask f3 f2 y4 y2 (by omega)⟩
theorem C141 (h : zI V U T E p q y im n) {s x : Int} (b0 : -2147483648 ≤ s ∧ s < 2147483648) (b1 : -2147483648 ≤ x ∧ x < 2147483648) : ∃ v F H, zf_ev X (d + 20) 141 (0, [vR 0, vI s, vI x], [], zH t p q E) = some (some [vI v], zH t p q F) ∧ zf_ev X (d + 20) 274 (0, [vR 60, vI s, vI x], [], zH t p q F) = some (some [vI v], zH t p q H) ∧ zJ H p q (n + 1) := by
  have hK0 := sp_K_0 (V := V)
  by_cases g0 : (0 ≤ s ∧ s < ((V (3)).val : Int)) ∧ (0 ≤ x ∧ x < ((V (3)).val : Int)) ∧ s ≠ x
  · obtain ⟨F, f1, f2, f3⟩ := Q141 (X := X) (d := d + 15) (t := t) (p := p) (q := q) h.1 (s := s) (x := x) (by omega) (by omega) (by omega) (by omega) (by omega)
    obtain ⟨H, y1, y2, y3, y4⟩ := Q274 (X := X) (d := d + 13) (t := t) (p := p) (q := q) (h.1.fc f3) (s := s) (x := x) (by omega) (by omega) (by omega) (by omega) (by omega)
    exact ⟨_, F, H, f1, y1, V, U, T, y, im, h.ask f3 f2 y4 y2 (by omega)⟩
  · skip
    obtain ⟨F, f1, f2, f3⟩ := Q141n (X := X) (d := d + 15) (t := t) (p := p) (q := q) h.1 (s := s) (x := x) (by omega) (by omega) (by omega)
    obtain ⟨H, y1, y2, y3, y4⟩ := Q274n (X := X) (d := d + 13) (t := t) (p := p) (q := q) (h.1.fc f3) (s := s) (x := x) (by omega) (by omega) (by omega)
    exact ⟨_, F, H, f1, y1, V, U, T, y, im, h.ask f3 f2 y4 y2 (by omega)⟩
theorem C142 (h : zI V U T E p q y im n) : ∃ v F H, zf_ev X (d + 20) 142 (0, [vR 0], [], zH t p q E) = some (some [vI v], zH t p q F) ∧ zf_ev X (d + 20) 281 (0, [vR 60], [], zH t p q F) = some (some [vI v], zH t p q H) ∧ zJ H p q (n + 1) := by
  have hK0 := sp_K_0 (V := V)
  by_cases g0 : 0 < ((V (3)).val : Int)
  · obtain ⟨F, f1, f2, f3⟩ := Q142 (X := X) (d := d + 17) (t := t) (p := p) (q := q) h.1  (h.D (by omega)).2.2 (by omega)
    obtain ⟨H, y1, y2, y3, y4⟩ := Q281 (X := X) (d := d + 15) (t := t) (p := p) (q := q) (h.1.fc f3)  (h.D (by omega)).2.2 (by omega)
    exact ⟨_, F, H, f1, y1, V, U, T, y, im, h.ask f3 f2 y4 y2 (by omega)⟩
  · skip
    obtain ⟨F, f1, f2, f3⟩ := Q142n (X := X) (d := d + 17) (t := t) (p := p) (q := q) h.1  (by omega)
    obtain ⟨H, y1, y2, y3, y4⟩ := Q281n (X := X) (d := d + 15) (t := t) (p := p) (q := q) (h.1.fc f3)  (by omega)
    exact ⟨_, F, H, f1, y1, V, U, T, y, im, h.ask f3 f2 y4 y2 (by omega)⟩
theorem C143 (h : zI V U T E p q y im n) {r : Int} (b0 : -2147483648 ≤ r ∧ r < 2147483648) : ∃ v F H, zf_ev X (d + 20) 143 (0, [vR 0, vI r], [], zH t p q E) = some (some [vI v], zH t p q F) ∧ zf_ev X (d + 20) 284 (0, [vR 60, vI r], [], zH t p q F) = some (some [vI v], zH t p q H) ∧ zJ H p q (n + 1) := by
  have hK0 := sp_K_0 (V := V)
  by_cases g0 : (1 ≤ r ∧ r ≤ ((V (1)).val : Int)) ∧ ((V (200 + r)).val : Int) = 7
  · obtain ⟨F, f1, f2, f3⟩ := Q143 (X := X) (d := d + 17) (t := t) (p := p) (q := q) h.1 (r := r) (h.D (by omega)).2.2 (by omega) (by omega) (by omega)
    obtain ⟨H, y1, y2, y3, y4⟩ := Q284 (X := X) (d := d + 15) (t := t) (p := p) (q := q) (h.1.fc f3) (r := r) (h.D (by omega)).2.2 (by omega) (by omega) (by omega)
    exact ⟨_, F, H, f1, y1, V, U, T, y, im, h.ask f3 f2 y4 y2 (by omega)⟩
  · skip
    by_cases g1 : (1 ≤ r ∧ r ≤ ((V (1)).val : Int))
    · obtain ⟨F, f1, f2, f3⟩ := Q143k (X := X) (d := d + 17) (t := t) (p := p) (q := q) h.1 (r := r) (by omega) (by omega) (by omega)
      obtain ⟨H, y1, y2, y3, y4⟩ := Q284k (X := X) (d := d + 15) (t := t) (p := p) (q := q) (h.1.fc f3) (r := r) (by omega) (by omega) (by omega)
      exact ⟨_, F, H, f1, y1, V, U, T, y, im, h.ask f3 f2 y4 y2 (by omega)⟩
    · skip
      obtain ⟨F, f1, f2, f3⟩ := Q143n (X := X) (d := d + 17) (t := t) (p := p) (q := q) h.1 (r := r) (by omega) (by omega)
      obtain ⟨H, y1, y2, y3, y4⟩ := Q284n (X := X) (d := d + 15) (t := t) (p := p) (q := q) (h.1.fc f3) (r := r) (by omega) (by omega)
      exact ⟨_, F, H, f1, y1, V, U, T, y, im, h.ask f3 f2 y4 y2 (by omega)⟩
theorem C144 (h : zI V U T E p q y im n) {r : Int} (b0 : -2147483648 ≤ r ∧ r < 2147483648) : ∃ v F H, zf_ev X (d + 20) 144 (0, [vR 0, vI r], [], zH t p q E) = some (some [vI v], zH t p q F) ∧ zf_ev X (d + 20) 285 (0, [vR 60, vI r, vJ, vJ], [], zH t p q F) = some (some [vI v], zH t p q H) ∧ zJ H p q (n + 1) := by
  have hK0 := sp_K_0 (V := V)
  by_cases g0 : (1 ≤ r ∧ r ≤ ((V (1)).val : Int)) ∧ ((V (200 + r)).val : Int) = 7
  · obtain ⟨F, f1, f2, f3⟩ := Q144 (X := X) (d := d + 17) (t := t) (p := p) (q := q) h.1 (r := r) (h.D (by omega)).2.2 (by omega) (by omega) (by omega)
    obtain ⟨H, y1, y2, y3, y4⟩ := Q285 (X := X) (d := d + 15) (t := t) (p := p) (q := q) (h.1.fc f3) (r := r) (h.D (by omega)).2.2 (by omega) (by omega) (by omega)
    exact ⟨_, F, H, f1, y1, V, U, T, y, im, h.ask f3 f2 y4 y2 (by omega)⟩
  · skip
    by_cases g1 : (1 ≤ r ∧ r ≤ ((V (1)).val : Int))
    · obtain ⟨F, f1, f2, f3⟩ := Q144k (X := X) (d := d + 17) (t := t) (p := p) (q := q) h.1 (r := r) (by omega) (by omega) (by omega)
      obtain ⟨H, y1, y2, y3, y4⟩ := Q285k (X := X) (d := d + 15) (t := t) (p := p) (q := q) (h.1.fc f3) (r := r) (by omega) (by omega) (by omega)
      exact ⟨_, F, H, f1, y1, V, U, T, y, im, h.ask f3 f2 y4 y2 (by omega)⟩
    · skip
      obtain ⟨F, f1, f2, f3⟩ := Q144n (X := X) (d := d + 17) (t := t) (p := p) (q := q) h.1 (r := r) (by omega) (by omega)
      obtain ⟨H, y1, y2, y3, y4⟩ := Q285n (X := X) (d := d + 15) (t := t) (p := p) (q := q) (h.1.fc f3) (r := r) (by omega) (by omega)
      exact ⟨_, F, H, f1, y1, V, U, T, y, im, h.ask f3 f2 y4 y2 (by omega)⟩
theorem C145 (h : zI V U T E p q y im n) : ∃ v F H, zf_ev X (d + 20) 145 (0, [vR 0], [], zH t p q E) = some (some [vI v], zH t p q F) ∧ zf_ev X (d + 20) 289 (0, [vR 60], [], zH t p q F) = some (some [vI v], zH t p q H) ∧ zJ H p q (n + 1) := by
  have hK0 := sp_K_0 (V := V)
  by_cases g0 : 0 < ((V (3)).val : Int) ∧ 0 < sp_K V
  · obtain ⟨F, f1, f2, f3⟩ := Q145 (X := X) (d := d + 16) (t := t) (p := p) (q := q) h.1  (h.D (by omega)).2.2 (by omega) (by omega)
    obtain ⟨H, y1, y2, y3, y4⟩ := Q289 (X := X) (d := d + 14) (t := t) (p := p) (q := q) (h.1.fc f3)  (h.D (by omega)).2.2 (by omega) (by omega)
    exact ⟨_, F, H, f1, y1, V, U, T, y, im, h.ask f3 f2 y4 y2 (by omega)⟩
  · skip
    by_cases g1 : 0 < ((V (3)).val : Int)
    · obtain ⟨F, f1, f2, f3⟩ := Q145k (X := X) (d := d + 16) (t := t) (p := p) (q := q) h.1  (by omega) (by omega)
      obtain ⟨H, y1, y2, y3, y4⟩ := Q289k (X := X) (d := d + 14) (t := t) (p := p) (q := q) (h.1.fc f3)  (by omega) (by omega)
      exact ⟨_, F, H, f1, y1, V, U, T, y, im, h.ask f3 f2 y4 y2 (by omega)⟩
    · skip
      obtain ⟨F, f1, f2, f3⟩ := Q145n (X := X) (d := d + 16) (t := t) (p := p) (q := q) h.1  (by omega)
      obtain ⟨H, y1, y2, y3, y4⟩ := Q289n (X := X) (d := d + 14) (t := t) (p := p) (q := q) (h.1.fc f3)  (by omega)
      exact ⟨_, F, H, f1, y1, V, U, T, y, im, h.ask f3 f2 y4 y2 (by omega)⟩
theorem C146 (h : zI V U T E p q y im n) : ∃ v F H, zf_ev X (d + 20) 146 (0, [vR 0], [], zH t p q E) = some (some [vI v], zH t p q F) ∧ zf_ev X (d + 20) 290 (0, [vR 60], [], zH t p q F) = some (some [vI v], zH t p q H) ∧ zJ H p q (n + 1) := by
  have hK0 := sp_K_0 (V := V)
  by_cases g0 : 0 < ((V (3)).val : Int) ∧ 0 < sp_K V
  · obtain ⟨F, f1, f2, f3⟩ := Q146 (X := X) (d := d + 16) (t := t) (p := p) (q := q) h.1  (h.D (by omega)).2.2 (by omega) (by omega)
    obtain ⟨H, y1, y2, y3, y4⟩ := Q290 (X := X) (d := d + 14) (t := t) (p := p) (q := q) (h.1.fc f3)  (h.D (by omega)).2.2 (by omega) (by omega)
    exact ⟨_, F, H, f1, y1, V, U, T, y, im, h.ask f3 f2 y4 y2 (by omega)⟩
  · skip
    by_cases g1 : 0 < ((V (3)).val : Int)
    · obtain ⟨F, f1, f2, f3⟩ := Q146k (X := X) (d := d + 16) (t := t) (p := p) (q := q) h.1  (by omega) (by omega)
      obtain ⟨H, y1, y2, y3, y4⟩ := Q290k (X := X) (d := d + 14) (t := t) (p := p) (q := q) (h.1.fc f3)  (by omega) (by omega)
      exact ⟨_, F, H, f1, y1, V, U, T, y, im, h.ask f3 f2 y4 y2 (by omega)⟩
    · skip
      obtain ⟨F, f1, f2, f3⟩ := Q146n (X := X) (d := d + 16) (t := t) (p := p) (q := q) h.1  (by omega)
      obtain ⟨H, y1, y2, y3, y4⟩ := Q290n (X := X) (d := d + 14) (t := t) (p := p) (q := q) (h.1.fc f3)  (by omega)
      exact ⟨_, F, H, f1, y1, V, U, T, y, im, h.ask f3 f2 y4 y2 (by omega)⟩
theorem C147 (h : zI V U T E p q y im n) : ∃ v F H, zf_ev X (d + 20) 147 (0, [vR 0, vJ, vJ], [], zH t p q E) = some (some [vI v], zH t p q F) ∧ zf_ev X (d + 20) 291 (0, [vR 60], [], zH t p q F) = some (some [vI v], zH t p q H) ∧ zJ H p q (n + 1) := by
  have hK0 := sp_K_0 (V := V)
  by_cases g0 : 0 < ((V (3)).val : Int)
  · obtain ⟨F, f1, f2, f3⟩ := Q147 (X := X) (d := d + 18) (t := t) (p := p) (q := q) h.1  (by omega)
    obtain ⟨H, y1, y2, y3, y4⟩ := Q291 (X := X) (d := d + 17) (t := t) (p := p) (q := q) (h.1.fc f3)  (by omega)
    exact ⟨_, F, H, f1, y1, V, U, T, y, im, h.ask f3 f2 y4 y2 (by omega)⟩
  · skip
    obtain ⟨F, f1, f2, f3⟩ := Q147n (X := X) (d := d + 18) (t := t) (p := p) (q := q) h.1  (by omega)
    obtain ⟨H, y1, y2, y3, y4⟩ := Q291n (X := X) (d := d + 17) (t := t) (p := p) (q := q) (h.1.fc f3)  (by omega)
    exact ⟨_, F, H, f1, y1, V, U, T, y, im, h.ask f3 f2 y4 y2 (by omega)⟩
theorem C148 (h : zI V U T E p q y im n) {m : Int} (b0 : -2147483648 ≤ m ∧ m < 2147483648) : ∃ v F H, zf_ev X (d + 20) 148 (0, [vR 0, vI m], [], zH t p q E) = some (some [vI v], zH t p q F) ∧ zf_ev X (d + 20) 293 (0, [vR 60, vI m], [], zH t p q F) = some (some [vI v], zH t p q H) ∧ zJ H p q (n + 1) := by
  have hK0 := sp_K_0 (V := V)
  by_cases g0 : (0 ≤ m ∧ m < ((V (4)).val : Int))
  · obtain ⟨F, f1, f2, f3⟩ := Q148 (X := X) (d := d + 14) (t := t) (p := p) (q := q) h.1 (m := m) (by omega) (by omega)
    obtain ⟨H, y1, y2, y3, y4⟩ := Q293 (X := X) (d := d + 14) (t := t) (p := p) (q := q) (h.1.fc f3) (m := m) (by omega) (by omega)
    exact ⟨_, F, H, f1, y1, V, U, T, y, im, h.ask f3 f2 y4 y2 (by omega)⟩
  · skip
    obtain ⟨F, f1, f2, f3⟩ := Q148n (X := X) (d := d + 14) (t := t) (p := p) (q := q) h.1 (m := m) (by omega) (by omega)
    obtain ⟨H, y1, y2, y3, y4⟩ := Q293n (X := X) (d := d + 14) (t := t) (p := p) (q := q) (h.1.fc f3) (m := m) (by omega) (by omega)
    exact ⟨_, F, H, f1, y1, V, U, T, y, im, h.ask f3 f2 y4 y2 (by omega)⟩
theorem C149 (h : zI V U T E p q y im n) : ∃ v F H, zf_ev X (d + 20) 149 (0, [vR 0], [], zH t p q E) = some (some [vI v], zH t p q F) ∧ zf_ev X (d + 20) 294 (0, [vR 60, vJ, vJ, vJ, vJ], [], zH t p q F) = some (some [vI v], zH t p q H) ∧ zJ H p q (n + 1) := by
  have hK0 := sp_K_0 (V := V)
  by_cases g0 : 0 < ((V (3)).val : Int)
  · obtain ⟨F, f1, f2, f3⟩ := Q149 (X := X) (d := d + 14) (t := t) (p := p) (q := q) h.1  (by omega)
    obtain ⟨H, y1, y2, y3, y4⟩ := Q294 (X := X) (d := d + 14) (t := t) (p := p) (q := q) (h.1.fc f3)  (by omega)
    exact ⟨_, F, H, f1, y1, V, U, T, y, im, h.ask f3 f2 y4 y2 (by omega)⟩
  · skip
    obtain ⟨F, f1, f2, f3⟩ := Q149n (X := X) (d := d + 14) (t := t) (p := p) (q := q) h.1  (by omega)
    obtain ⟨H, y1, y2, y3, y4⟩ := Q294n (X := X) (d := d + 14) (t := t) (p := p) (q := q) (h.1.fc f3)  (by omega)
    exact ⟨_, F, H, f1, y1, V, U, T, y, im, h.ask f3 f2 y4 y2 (by omega)⟩
theorem C150 (h : zI V U T E p q y im n) : ∃ v F H, zf_ev X (d + 20) 150 (0, [vR 0], [], zH t p q E) = some (some [vI v], zH t p q F) ∧ zf_ev X (d + 20) 296 (0, [vR 60, vJ], [], zH t p q F) = some (some [vI v], zH t p q H) ∧ zJ H p q (n + 1) := by
  have hK0 := sp_K_0 (V := V)
  by_cases g0 : 0 < ((V (3)).val : Int)
  · obtain ⟨F, f1, f2, f3⟩ := Q150 (X := X) (d := d + 11) (t := t) (p := p) (q := q) h.1  (by omega)
    obtain ⟨H, y1, y2, y3, y4⟩ := Q296 (X := X) (d := d + 11) (t := t) (p := p) (q := q) (h.1.fc f3)  (by omega)
    exact ⟨_, F, H, f1, y1, V, U, T, y, im, h.ask f3 f2 y4 y2 (by omega)⟩
  · skip
    obtain ⟨F, f1, f2, f3⟩ := Q150n (X := X) (d := d + 11) (t := t) (p := p) (q := q) h.1  (by omega)
    obtain ⟨H, y1, y2, y3, y4⟩ := Q296n (X := X) (d := d + 11) (t := t) (p := p) (q := q) (h.1.fc f3)  (by omega)
    exact ⟨_, F, H, f1, y1, V, U, T, y, im, h.ask f3 f2 y4 y2 (by omega)⟩
theorem C151 (h : zI V U T E p q y im n) {s sd k : Int} (b0 : -2147483648 ≤ s ∧ s < 2147483648) (b1 : -2147483648 ≤ sd ∧ sd < 2147483648) (b2 : -2147483648 ≤ k ∧ k < 2147483648) : ∃ v F H, zf_ev X (d + 20) 151 (0, [vR 0, vI s, vI sd, vI k], [], zH t p q E) = some (some [vI v], zH t p q F) ∧ zf_ev X (d + 20) 299 (0, [vR 60, vI s, vI sd, vI k, vJ, vJ, vJ], [], zH t p q F) = some (some [vI v], zH t p q H) ∧ zJ H p q (n + 1) := by
  have hK0 := sp_K_0 (V := V)
  by_cases g0 : (0 ≤ s ∧ s < ((V (3)).val : Int)) ∧ (0 ≤ sd ∧ sd ≤ 65536) ∧ 1 ≤ k ∧ k ≤ 90
  · obtain ⟨F, f1, f2, f3⟩ := Q151 (X := X) (d := d + 14) (t := t) (p := p) (q := q) h.1 (s := s) (x := sd) (n := k) (by omega) (by omega) (by omega) (by omega) (by omega) (by omega)
    obtain ⟨H, y1, y2, y3, y4⟩ := Q299 (X := X) (d := d + 16) (t := t) (p := p) (q := q) (h.1.fc f3) (s := s) (x := sd) (n := k) (by omega) (by omega) (by omega) (by omega) (by omega) (by omega)
    exact ⟨_, F, H, f1, y1, V, U, T, y, im, h.ask f3 f2 y4 y2 (by omega)⟩
  · skip
    by_cases g1 : (0 ≤ s ∧ s < ((V (3)).val : Int))
    · obtain ⟨F, f1, f2, f3⟩ := Q151m (X := X) (d := d + 14) (t := t) (p := p) (q := q) h.1 (s := s) (x := sd) (n := k) (by omega) (by omega) (by omega) (by omega) (by omega)
      obtain ⟨H, y1, y2, y3, y4⟩ := Q299m (X := X) (d := d + 16) (t := t) (p := p) (q := q) (h.1.fc f3) (s := s) (x := sd) (n := k) (by omega) (by omega) (by omega) (by omega) (by omega)
      exact ⟨_, F, H, f1, y1, V, U, T, y, im, h.ask f3 f2 y4 y2 (by omega)⟩
    · skip
      obtain ⟨F, f1, f2, f3⟩ := Q151n (X := X) (d := d + 14) (t := t) (p := p) (q := q) h.1 (s := s) (x := sd) (n := k) (by omega) (by omega)
      obtain ⟨H, y1, y2, y3, y4⟩ := Q299n (X := X) (d := d + 16) (t := t) (p := p) (q := q) (h.1.fc f3) (s := s) (x := sd) (n := k) (by omega) (by omega)
      exact ⟨_, F, H, f1, y1, V, U, T, y, im, h.ask f3 f2 y4 y2 (by omega)⟩
theorem C152 (h : zI V U T E p q y im n) {sd k : Int} (b0 : -2147483648 ≤ sd ∧ sd < 2147483648) (b1 : -2147483648 ≤ k ∧ k < 2147483648) : ∃ v F H, zf_ev X (d + 20) 152 (0, [vR 0, vI sd, vI k], [], zH t p q E) = some (some [vI v], zH t p q F) ∧ zf_ev X (d + 20) 300 (0, [vR 60, vI sd, vI k, vJ, vJ, vJ], [], zH t p q F) = some (some [vI v], zH t p q H) ∧ zJ H p q (n + 1) := by
  have hK0 := sp_K_0 (V := V)
  by_cases g0 : 0 < ((V (3)).val : Int) ∧ (0 ≤ sd ∧ sd ≤ 65536) ∧ 1 ≤ k ∧ k ≤ 90
  · obtain ⟨F, f1, f2, f3⟩ := Q152 (X := X) (d := d + 14) (t := t) (p := p) (q := q) h.1 (x := sd) (n := k) (by omega) (by omega) (by omega) (by omega) (by omega)
    obtain ⟨H, y1, y2, y3, y4⟩ := Q300 (X := X) (d := d + 16) (t := t) (p := p) (q := q) (h.1.fc f3) (x := sd) (n := k) (by omega) (by omega) (by omega) (by omega) (by omega)
    exact ⟨_, F, H, f1, y1, V, U, T, y, im, h.ask f3 f2 y4 y2 (by omega)⟩
  · skip
    by_cases g1 : 0 < ((V (3)).val : Int)
    · obtain ⟨F, f1, f2, f3⟩ := Q152m (X := X) (d := d + 14) (t := t) (p := p) (q := q) h.1 (x := sd) (n := k) (by omega) (by omega) (by omega) (by omega)
      obtain ⟨H, y1, y2, y3, y4⟩ := Q300m (X := X) (d := d + 16) (t := t) (p := p) (q := q) (h.1.fc f3) (x := sd) (n := k) (by omega) (by omega) (by omega) (by omega)
      exact ⟨_, F, H, f1, y1, V, U, T, y, im, h.ask f3 f2 y4 y2 (by omega)⟩
    · skip
      obtain ⟨F, f1, f2, f3⟩ := Q152n (X := X) (d := d + 14) (t := t) (p := p) (q := q) h.1 (x := sd) (n := k) (by omega)
      obtain ⟨H, y1, y2, y3, y4⟩ := Q300n (X := X) (d := d + 16) (t := t) (p := p) (q := q) (h.1.fc f3) (x := sd) (n := k) (by omega)
      exact ⟨_, F, H, f1, y1, V, U, T, y, im, h.ask f3 f2 y4 y2 (by omega)⟩
theorem C153 (h : zI V U T E p q y im n) {m sd k : Int} (b0 : -2147483648 ≤ m ∧ m < 2147483648) (b1 : -2147483648 ≤ sd ∧ sd < 2147483648) (b2 : -2147483648 ≤ k ∧ k < 2147483648) : ∃ v F H, zf_ev X (d + 20) 153 (0, [vR 0, vI m, vI sd, vI k], [], zH t p q E) = some (some [vI v], zH t p q F) ∧ zf_ev X (d + 20) 301 (0, [vR 60, vI m, vI sd, vI k, vJ, vJ, vJ, vJ], [], zH t p q F) = some (some [vI v], zH t p q H) ∧ zJ H p q (n + 1) := by
  have hK0 := sp_K_0 (V := V)
  by_cases g0 : (0 ≤ m ∧ m < ((V (4)).val : Int)) ∧ (0 ≤ sd ∧ sd ≤ 65536) ∧ 1 ≤ k ∧ k ≤ 90
  · obtain ⟨F, f1, f2, f3⟩ := Q153 (X := X) (d := d + 14) (t := t) (p := p) (q := q) h.1 (m := m) (x := sd) (n := k) (by omega) (by omega) (by omega) (by omega) (by omega) (by omega)
    obtain ⟨H, y1, y2, y3, y4⟩ := Q301 (X := X) (d := d + 16) (t := t) (p := p) (q := q) (h.1.fc f3) (m := m) (x := sd) (n := k) (by omega) (by omega) (by omega) (by omega) (by omega) (by omega)
    exact ⟨_, F, H, f1, y1, V, U, T, y, im, h.ask f3 f2 y4 y2 (by omega)⟩
  · skip
    by_cases g1 : (0 ≤ m ∧ m < ((V (4)).val : Int))
    · obtain ⟨F, f1, f2, f3⟩ := Q153m (X := X) (d := d + 14) (t := t) (p := p) (q := q) h.1 (m := m) (x := sd) (n := k) (by omega) (by omega) (by omega) (by omega) (by omega)
      obtain ⟨H, y1, y2, y3, y4⟩ := Q301m (X := X) (d := d + 16) (t := t) (p := p) (q := q) (h.1.fc f3) (m := m) (x := sd) (n := k) (by omega) (by omega) (by omega) (by omega) (by omega)
      exact ⟨_, F, H, f1, y1, V, U, T, y, im, h.ask f3 f2 y4 y2 (by omega)⟩
    · skip
      obtain ⟨F, f1, f2, f3⟩ := Q153n (X := X) (d := d + 14) (t := t) (p := p) (q := q) h.1 (m := m) (x := sd) (n := k) (by omega) (by omega)
      obtain ⟨H, y1, y2, y3, y4⟩ := Q301n (X := X) (d := d + 16) (t := t) (p := p) (q := q) (h.1.fc f3) (m := m) (x := sd) (n := k) (by omega) (by omega)
      exact ⟨_, F, H, f1, y1, V, U, T, y, im, h.ask f3 f2 y4 y2 (by omega)⟩
end AS

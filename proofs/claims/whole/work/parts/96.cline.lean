/-! the class's reader: its lines -/
/-- what the reader leaves -/
def zFH (o : Nat) (E F : Nat → Int → Int) : Prop := ∀ x y, x ≠ 1 → (x ≠ 2 ∨ y < 3) → x ≠ 4 → x ≠ 5 → (x < o ∨ o + 9 ≤ x) → F x y = E x y
def zSC (B : Int → Int) (n : Int) (o : Nat) (x : PT) (F : Nat → Int → Int) : Prop := match x.1 with
  | .inl u => F 1 8 = u.1 ∧ F 1 9 = u.2
  | .inr k => zT0 B n k F ∧ zHC x.2.1 F o ∧ zNm x.2.2 (x.2.1 3 + x.2.1 4) F
def zOC (B : Int → Int) (n : Int) (t : List (Nat × Nat)) (p q : Nat) (E : Nat → Int → Int) (o : Nat) (x : PT) (res : Option (Option (List ZV) × ZH)) : Prop := ∃ F, res = some (some [vI (ps_b x.1)], zH t p q F) ∧ zSC B n o x F ∧ zFH o E F
theorem zFT.H {o : Nat} (ho : zo o) {E F : Nat → Int → Int} (h : zFT E F) : zFH o E F := fun x y u1 u2 u3 u4 u5 => h x y u2 (Or.inl u1)
theorem zFN.H {o : Nat} (ho : zo o) {E F : Nat → Int → Int} (h : zFN E F) : zFH o E F := fun x y u1 u2 u3 u4 u5 => h x y u2 (Or.inl u1) u3
theorem zFH.tr {o : Nat} {E F H : Nat → Int → Int} (h1 : zFH o E F) (h2 : zFH o F H) : zFH o E H := fun x y u1 u2 u3 u4 u5 => by rw [h2 x y u1 u2 u3 u4 u5, h1 x y u1 u2 u3 u4 u5]
theorem zNm.fr {L : Int → Int} {m : Int} {E F : Nat → Int → Int} (h : zNm L m E) (h1 : F 1 3 = E 1 3) (h2 : ∀ b, F 4 b = E 4 b) : zNm L m F := ⟨by rw [h1]; exact h.1, fun i a b => by rw [h2]; exact h.2 i a b⟩
section CL
variable {X : Nat × (Nat → Int)} {d : Nat} {t : List (Nat × Nat)} {p q : Nat} {E : Nat → Int → Int} {B : Int → Int} {n k : Int} {o : Nat} {f L : Int → Int}
theorem zHC.fr {F : Nat → Int → Int} (ho : zo o) (h : zHC f E o) (hf : ∀ x y, (o ≤ x ∧ x < o + 9) ∨ x = 5 → F x y = E x y) (h4 : F 1 4 = E 1 4) : zHC f F o := by
  obtain ⟨⟨c1, c2, c3, c4, c5, c6, c7⟩, c8, s1, s2, s3, s4, s5, s6, s7⟩ := h
  refine ⟨⟨?_, ?_, ?_, ?_, ?_, ?_, ?_⟩, by rw [h4]; exact c8, fun r a b => ⟨?_, ?_⟩, fun s a b => ⟨?_, ?_⟩, fun m a b => ⟨?_, ?_, ?_⟩, fun c a b => ?_, fun m a b => ⟨?_, ?_⟩, fun m a b => ⟨?_, ?_⟩, fun m a b => ⟨?_, ?_, ?_⟩⟩ <;> rw [hf _ _ (by omega)]
  all_goals first
    | assumption
    | exact (s1 r a b).1
    | exact (s1 r a b).2
    | exact (s2 s a b).1
    | exact (s2 s a b).2
    | exact (s3 m a b).1
    | exact (s3 m a b).2.1
    | exact (s3 m a b).2.2
    | exact s4 c a b
    | exact (s5 m a b).1
    | exact (s5 m a b).2
    | exact (s6 m a b).1
    | exact (s6 m a b).2
    | exact (s7 m a b).1
    | exact (s7 m a b).2.1
    | exact (s7 m a b).2.2
theorem T86 (ho : zo o) (hI : pI f) (hC : zHC f E o) (hT : zT0 B n k E) : ∃ F, zf_ev X (d + 3) 86 (0, [vR 1, vR o], [], zH t p q E) = some (some [vI (ps_b (ps_R B n 1 (f 1) (pl_told f) (.inr k)))], zH t p q F) ∧ zS1 B n (ps_R B n 1 (f 1) (pl_told f) (.inr k)) F ∧ (∀ k2, ps_R B n 1 (f 1) (pl_told f) (.inr k) = .inr k2 → F 1 5 = pv_N B n 1 (f 1) (.inr k) ∧ F 5 (pv_N B n 1 (f 1) (.inr k)) = 1) ∧ (∀ x y, (x ≠ 2 ∨ y < 3) → (x ≠ 1 ∨ y < 5) → (x ≠ 5 ∨ y ≠ pv_N B n 1 (f 1) (.inr k)) → F x y = E x y) := by
  have hp2 : o = 40 ∨ o = 50 := ho
  have i1 := hI.1
  unfold pI1 at i1
  obtain ⟨F, f1, f2, f3, f4, -⟩ := T93 (X := X) (d := d) (t := t) (p := p) (q := q) (lo := 1) (hi := f 1) (by omega) (by omega) hT
  have e0 : zf_ev X (d + 3) 86 (0, [vR 1, vR o], [], zH t p q E) = zf_k X (d + 3) 86 6 [vR 1, vR o] [] (some (some [vI (ps_b (ps_N B n 1 (f 1) (.inr k)))], zH t p q F)) := by
    rw [L86_0 ho, hC.1.2.1, f1]
  cases hs : ps_N B n 1 (f 1) (.inr k) with
  | inl x =>
    have hR : ps_R B n 1 (f 1) (pl_told f) (.inr k) = .inl x := by
      show (match ps_N B n 1 (f 1) (.inr k) with
        | .inl x => .inl x
        | .inr k2 => if pl_told f (tk_v B n k) = true then .inl (3, tk_a B n k) else .inr k2 : PS) = _
      rw [hs]
    rw [hs] at f2 e0
    rw [hR, ps_b_l]
    refine ⟨F, ?_, f2, fun k2 h => (by cases h), fun x y u v w => f4 x y u v⟩
    rw [e0, L86_k6, ps_b_l, if_neg (by decide)]
  | inr k2 =>
    have hN := ps_N_inr hs
    have hv := hN.2.2.2.2
    have f3 := f3 k2 hs
    have hr := hI.2.1 (pv_N B n 1 (f 1) (.inr k)) (by omega) (by omega)
    have h5 : F 5 (pv_N B n 1 (f 1) (.inr k)) = f (15 + pv_N B n 1 (f 1) (.inr k)) := by
      rw [f4 _ _ (by omega) (by omega)]
      exact (hC.2.2.1 _ (by omega) (by omega)).2
    rw [hs] at f2 e0
    by_cases g : 0 < f (15 + pv_N B n 1 (f 1) (.inr k))
    · have hR : ps_R B n 1 (f 1) (pl_told f) (.inr k) = .inl (3, tk_a B n k) := by
        show (match ps_N B n 1 (f 1) (.inr k) with
          | .inl x => .inl x
          | .inr k2 => if pl_told f (tk_v B n k) = true then .inl (3, tk_a B n k) else .inr k2 : PS) = _
        rw [hs]
        show (if pl_told f (tk_v B n k) = true then .inl (3, tk_a B n k) else .inr k2 : PS) = _
        rw [← hv]
        exact if_pos (decide_eq_true g)
      rw [hR, ps_b_l]
      refine ⟨zu (zu F 1 8 3) 1 9 (tk_a B n k), ?_, ⟨by rw [zu_ne (by omega), zu_same], zu_same⟩, fun k2 h => (by cases h), fun x y u v w => by rw [zu_ne (by omega), zu_ne (by omega), f4 x y u v]⟩
      rw [e0, L86_k6, ps_b_r, if_pos (by decide), f3.1, n32_id (by omega) (by omega), h5, n32_id (by omega) (by omega), zg_pos (by omega), if_neg (by omega), f3.2, L78_0, L86_k32, zg_pos (by decide)]
    · have hR : ps_R B n 1 (f 1) (pl_told f) (.inr k) = .inr k2 := by
        show (match ps_N B n 1 (f 1) (.inr k) with
          | .inl x => .inl x
          | .inr k2 => if pl_told f (tk_v B n k) = true then .inl (3, tk_a B n k) else .inr k2 : PS) = _
        rw [hs]
        show (if pl_told f (tk_v B n k) = true then .inl (3, tk_a B n k) else .inr k2 : PS) = _
        rw [← hv]
        exact if_neg (fun h => g (of_decide_eq_true h))
      have f2 : zT0 B n k2 F := f2
      rw [hR, ps_b_r]
      refine ⟨zu F 5 (pv_N B n 1 (f 1) (.inr k)) 1, ?_, f2.fr (fun a b u => zu_ne (by omega)) (zu_ne (by omega)), fun k3 h => ⟨by rw [zu_ne (by omega)]; exact f3.1, zu_same⟩, fun x y u v w => by rw [zu_ne (by omega), f4 x y u v]⟩
      rw [e0, L86_k6, ps_b_r, if_pos (by decide), f3.1, n32_id (by omega) (by omega), h5, n32_id (by omega) (by omega), zg_pos (by omega), if_pos (by omega), zg_pos (by omega)]
      rfl
theorem T94 (ho : zo o) (hI : pI f) (h0 : 0 < f 0) (hC : zHC f E o) (hT : zT0 B n k E) : ∃ F, zf_ev X (d + 3) 94 (0, [vR 1, vR o], [], zH t p q E) = some (some [vI (ps_b (ps_R B n 1 (f 1) (pl_at f (pv_N B n 0 (f 0 - 1) (.inr k))) (ps_N B n 0 (f 0 - 1) (.inr k))))], zH t p q F) ∧ zS1 B n (ps_R B n 1 (f 1) (pl_at f (pv_N B n 0 (f 0 - 1) (.inr k))) (ps_N B n 0 (f 0 - 1) (.inr k))) F ∧ (∀ k2, ps_R B n 1 (f 1) (pl_at f (pv_N B n 0 (f 0 - 1) (.inr k))) (ps_N B n 0 (f 0 - 1) (.inr k)) = .inr k2 → F 1 7 = pv_N B n 0 (f 0 - 1) (.inr k) ∧ F 1 5 = pv_N B n 1 (f 1) (ps_N B n 0 (f 0 - 1) (.inr k))) ∧ zFT E F := by
  have hp2 : o = 40 ∨ o = 50 := ho
  have i1 := hI.1
  unfold pI1 at i1
  obtain ⟨F, f1, f2, f3, f4, -⟩ := T93 (X := X) (d := d) (t := t) (p := p) (q := q) (lo := 0) (hi := f 0 - 1) (by omega) (by omega) hT
  have e0 : zf_ev X (d + 3) 94 (0, [vR 1, vR o], [], zH t p q E) = zf_k X (d + 3) 94 8 [vR 1, vR o] [] (some (some [vI (ps_b (ps_N B n 0 (f 0 - 1) (.inr k)))], zH t p q F)) := by
    rw [L94_0 ho, hC.1.1, f1]
  cases hs : ps_N B n 0 (f 0 - 1) (.inr k) with
  | inl x =>
    rw [hs] at f2 e0
    rw [ps_R_l, ps_b_l]
    refine ⟨F, ?_, f2, fun k2 h => (by cases h), f4⟩
    rw [e0, L94_k8 ho, ps_b_l, if_neg (by decide)]
  | inr k1 =>
    have f3 := f3 k1 hs
    have hc := ps_N_v hs
    rw [hs] at f2 e0
    have f2 : zT0 B n k1 F := f2
    generalize pv_N B n 0 (f 0 - 1) (.inr k) = c at f3 hc ⊢
    obtain ⟨G, g1, g2, g3, g4, g5⟩ := T93 (X := X) (d := d) (t := t) (p := p) (q := q) (E := zu F 1 7 c) (lo := 1) (hi := f 1) (by omega) (by omega) (f2.fr (fun a b u => zu_ne (by omega)) (zu_ne (by omega)))
    rw [zu_same] at g5
    have e1 : zf_ev X (d + 3) 94 (0, [vR 1, vR o], [], zH t p q E) = zf_k X (d + 3) 94 30 [vR 1, vR o] [] (some (some [vI (ps_b (ps_N B n 1 (f 1) (.inr k1)))], zH t p q G)) := by
      rw [e0, L94_k8 ho, ps_b_r, if_pos (by decide), f3.1, zu_ne (by omega), f4 _ _ (by omega) (by omega), hC.1.2.1, g1]
    have gE : zFT E G := fun x y u v => by rw [g4 x y u v, zu_ne (by omega), f4 x y u v]
    cases hs2 : ps_N B n 1 (f 1) (.inr k1) with
    | inl x =>
      have hR : ps_R B n 1 (f 1) (pl_at f c) (.inr k1) = .inl x := by
        show (match ps_N B n 1 (f 1) (.inr k1) with
          | .inl x => .inl x
          | .inr k2 => if pl_at f c (tk_v B n k1) = true then .inl (3, tk_a B n k1) else .inr k2 : PS) = _
        rw [hs2]
      rw [hs2] at g2 e1
      rw [hR, ps_b_l]
      refine ⟨G, ?_, g2, fun k2 h => (by cases h), gE⟩
      rw [e1, L94_k30 ho, ps_b_l, if_neg (by decide)]
    | inr k2 =>
      have hN := ps_N_inr hs2
      have hv := hN.2.2.2.2
      have g3 := g3 k2 hs2
      have hr := ps_N_v hs2
      rw [hs2] at g2 e1
      have g2 : zT0 B n k2 G := g2
      rw [← hv] at hN
      have hR : ps_R B n 1 (f 1) (pl_at f c) (.inr k1) = (if pl_at f c (pv_N B n 1 (f 1) (.inr k1)) = true then .inl (3, tk_a B n k1) else .inr k2 : PS) := by
        show (match ps_N B n 1 (f 1) (.inr k1) with
          | .inl x => .inl x
          | .inr k2 => if pl_at f c (tk_v B n k1) = true then .inl (3, tk_a B n k1) else .inr k2 : PS) = _
        rw [hs2, hv]
      generalize pv_N B n 1 (f 1) (.inr k1) = r at g3 hr hR ⊢
      have hCG : zHC f G o := hC.fr ho (fun x y u => gE x y (by omega) (by omega)) (gE _ _ (by omega) (by omega))
      have e28 : zf_ev X (d + 2) 28 (0, [vR o, vI c, vI r, vJ], [], zH t p q G) = some (some [vI (fa_b (fa_any (fun s => decide (f (22 + 2 * s) = c ∧ f (22 + 2 * s + 1) = r)) (f 3).toNat 0))], zH t p q G) := by
        rw [L28_0 ho]
        exact T28g (C := fun s => f (22 + 2 * s)) (R := fun s => f (22 + 2 * s + 1)) ho (N := f 3) (by omega) hCG.1.2.2.2.1 (by omega) (by omega) (fun s a b => ⟨(hCG.2.2.2.1 s a (by omega)).1, hI.2.2.1 _ (by omega) (by omega)⟩) (fun s a b => ⟨(hCG.2.2.2.1 s a (by omega)).2, hI.2.2.1 _ (by omega) (by omega)⟩) (f 3).toNat 0 (by omega) (by omega)
      have e27 : zf_ev X (d + 2) 27 (0, [vR o, vI c, vI r, vJ], [], zH t p q G) = some (some [vI (fa_b (fa_any (fun s => decide (f (60 + 2 * s) = c ∧ f (60 + 2 * s + 1) = r)) (f 5).toNat 0))], zH t p q G) := by
        rw [L27_0 ho]
        exact T27g (C := fun s => f (60 + 2 * s)) (R := fun s => f (60 + 2 * s + 1)) ho (N := f 5) (by omega) hCG.1.2.2.2.2.2.1 (by omega) (by omega) (fun s a b => ⟨(hCG.2.2.2.2.2.2.2.1 s a (by omega)).1, hI.2.2.1 _ (by omega) (by omega)⟩) (fun s a b => ⟨(hCG.2.2.2.2.2.2.2.1 s a (by omega)).2, hI.2.2.1 _ (by omega) (by omega)⟩) (f 5).toNat 0 (by omega) (by omega)
      have e2 : zf_ev X (d + 3) 94 (0, [vR 1, vR o], [], zH t p q E) = zf_k X (d + 3) 94 47 [vR 1, vR o] [] (some (some [vI (fa_b (fa_any (fun s => decide (f (22 + 2 * s) = c ∧ f (22 + 2 * s + 1) = r)) (f 3).toNat 0))], zH t p q G)) := by
        rw [e1, L94_k30 ho, ps_b_r, if_pos (by decide), g5, g3.1, e28]
      have hat : pl_at f c r = (fa_any (fun s => decide (f (22 + 2 * s) = c ∧ f (22 + 2 * s + 1) = r)) (f 3).toNat 0 || fa_any (fun i => decide (f (60 + 2 * i) = c ∧ f (60 + 2 * i + 1) = r)) (f 5).toNat 0) := rfl
      have hbad : pl_at f c r = true → ∀ x, zf_k X (d + 3) 94 74 [vR 1, x] [] (zf_ev X (d + 2) 78 (0, [vR 1, vI 3, vI (G 1 6)], [], zH t p q G)) = some (some [vI 0], zH t p q (zu (zu G 1 8 3) 1 9 (tk_a B n k1))) := by
        intro _ x
        rw [g3.2, L78_0, L94_k74, zg_pos (by decide)]
      by_cases w1 : fa_any (fun s => decide (f (22 + 2 * s) = c ∧ f (22 + 2 * s + 1) = r)) (f 3).toNat 0 = true
      · rw [w1, Bool.true_or] at hat
        rw [if_pos hat] at hR
        rw [hR, ps_b_l]
        refine ⟨zu (zu G 1 8 3) 1 9 (tk_a B n k1), ?_, ⟨by rw [zu_ne (by omega), zu_same], zu_same⟩, fun k2 h => (by cases h), fun x y u v => by rw [zu_ne (by omega), zu_ne (by omega), gE x y u v]⟩
        rw [e2, L94_k47 ho, w1, fa_b_t, if_pos (by decide), hbad hat]
      · rw [bo_f w1, Bool.false_or] at hat
        rw [L94_k47 ho, bo_f w1, fa_b_f, if_neg (by decide), g5, g3.1, e27] at e2
        by_cases w2 : fa_any (fun i => decide (f (60 + 2 * i) = c ∧ f (60 + 2 * i + 1) = r)) (f 5).toNat 0 = true
        · rw [w2] at hat
          rw [if_pos hat] at hR
          rw [hR, ps_b_l]
          refine ⟨zu (zu G 1 8 3) 1 9 (tk_a B n k1), ?_, ⟨by rw [zu_ne (by omega), zu_same], zu_same⟩, fun k2 h => (by cases h), fun x y u v => by rw [zu_ne (by omega), zu_ne (by omega), gE x y u v]⟩
          rw [e2, L94_k62, w2, fa_b_t, if_neg (by decide), hbad hat]
        · rw [bo_f w2] at hat
          rw [if_neg (by rw [hat]; decide)] at hR
          rw [hR, ps_b_r]
          refine ⟨G, ?_, g2, fun k3 _ => ⟨g5, g3.1⟩, gE⟩
          rw [e2, L94_k62, bo_f w2, fa_b_f, if_pos (by decide)]
end CL

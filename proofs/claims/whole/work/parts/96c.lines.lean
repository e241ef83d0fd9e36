/-! the class's lines, step by step; printed by gencl.py -/
theorem zOC_l {B : Int → Int} {n : Int} {t : List (Nat × Nat)} {p q : Nat} {E F : Nat → Int → Int} {o : Nat} {x : PT} {u : Int × Int} {res : Option (Option (List ZV) × ZH)} (h : x.1 = .inl u) (h1 : res = some (some [vI 0], zH t p q F)) (h2 : F 1 8 = u.1 ∧ F 1 9 = u.2) (h3 : zFH o E F) : zOC B n t p q E o x res := by
  refine ⟨F, by rw [h, ps_b_l]; exact h1, ?_, h3⟩
  unfold zSC
  rw [h]
  exact h2
theorem zOC_r {B : Int → Int} {n : Int} {t : List (Nat × Nat)} {p q : Nat} {E F : Nat → Int → Int} {o : Nat} {x : PT} {k : Int} {res : Option (Option (List ZV) × ZH)} (h : x.1 = .inr k) (h1 : res = some (some [vI 1], zH t p q F)) (h2 : zT0 B n k F ∧ zHC x.2.1 F o ∧ zNm x.2.2 (x.2.1 3 + x.2.1 4) F) (h3 : zFH o E F) : zOC B n t p q E o x res := by
  refine ⟨F, by rw [h, ps_b_r]; exact h1, ?_, h3⟩
  unfold zSC
  rw [h]
  exact h2
theorem pl_hall_n {B : Int → Int} {n : Int} {f L : Int → Int} {s : PS} : (pl_hall B n f L s).2.1 3 + (pl_hall B n f L s).2.1 4 = f 3 + f 4 ∧ (pl_hall B n f L s).2.2 = L := by
  unfold pl_hall
  refine ⟨?_, rfl⟩
  simp (disch := omega) only [pu_n, pu_s]
theorem pl_air_n {B : Int → Int} {n : Int} {f L : Int → Int} {s : PS} (h : 1 ≤ f 1) : (pl_air B n f L s).2.1 3 + (pl_air B n f L s).2.1 4 = f 3 + f 4 ∧ (pl_air B n f L s).2.2 = L := by
  have := pv_N_r (B := B) (n := n) (s := s) h
  unfold pl_air
  refine ⟨?_, rfl⟩
  simp (disch := omega) only [pu_n, pu_s]
theorem pl_fog_n {B : Int → Int} {n : Int} {f L : Int → Int} {s : PS} (h : 1 ≤ f 1) : (pl_fog B n f L s).2.1 3 + (pl_fog B n f L s).2.1 4 = f 3 + f 4 ∧ (pl_fog B n f L s).2.2 = L := by
  have := pv_N_r (B := B) (n := n) (s := s) h
  unfold pl_fog
  refine ⟨?_, rfl⟩
  simp (disch := omega) only [pu_n, pu_s]
theorem pl_lmp_n {B : Int → Int} {n : Int} {f L : Int → Int} {s : PS} (h : 0 ≤ f 5) : (pl_lmp B n f L s).2.1 3 + (pl_lmp B n f L s).2.1 4 = f 3 + f 4 ∧ (pl_lmp B n f L s).2.2 = L := by
  unfold pl_lmp
  refine ⟨?_, rfl⟩
  simp (disch := omega) only [pu_n, pu_s]
theorem pl_flt_n {B : Int → Int} {n : Int} {f L : Int → Int} {s : PS} (h : 0 ≤ f 6) : (pl_flt B n f L s).2.1 3 + (pl_flt B n f L s).2.1 4 = f 3 + f 4 ∧ (pl_flt B n f L s).2.2 = L := by
  unfold pl_flt
  refine ⟨?_, rfl⟩
  simp (disch := omega) only [pu_n, pu_s]
theorem pl_spk_n {B : Int → Int} {n : Int} {f L : Int → Int} {s : PS} (h : 0 ≤ f 3) : (pl_spk B n f L s).2.1 3 + (pl_spk B n f L s).2.1 4 = f 3 + f 4 + 1 ∧ (pl_spk B n f L s).2.2 = pv_M B n L (f 3 + f 4) s := by
  unfold pl_spk
  refine ⟨?_, rfl⟩
  simp (disch := omega) only [pu_n, pu_s]
  omega
theorem pl_mem_n {B : Int → Int} {n : Int} {f L : Int → Int} {s : PS} (h : 0 ≤ f 4) : (pl_mem B n f L s).2.1 3 + (pl_mem B n f L s).2.1 4 = f 3 + f 4 + 1 ∧ (pl_mem B n f L s).2.2 = pv_M B n L (f 3 + f 4) s := by
  unfold pl_mem
  refine ⟨?_, rfl⟩
  simp (disch := omega) only [pu_n, pu_s]
  omega
section CN
variable {X : Nat × (Nat → Int)} {d : Nat} {t : List (Nat × Nat)} {p q : Nat} {E : Nat → Int → Int} {B : Int → Int} {n k : Int} {o : Nat} {f L : Int → Int}
theorem T83 (ho : zo o) (hI : pI f) (hC : zHC f E o) (hN : zNm L (f 3 + f 4) E) (hT : zT0 B n k E) : zOC B n t p q E o (pl_hall B n f L (.inr k)) (zf_ev X (d + 3) 83 (0, [vR 1, vR o], [], zH t p q E)) := by
  have hp2 : o = 40 ∨ o = 50 := ho
  have i1 := hI.1
  unfold pI1 at i1
  obtain ⟨F1, e1, c1, r1⟩ := T92 (X := X) (t := t) (p := p) (q := q) (d := d) (w := 7) (by decide) hT
  cases s1 : ps_W B n 7 (.inr k) with
  | inl x =>
    rw [s1] at e1 c1
    refine zOC_l (u := x) ?_ (F := F1) ?_ c1 ?_
    · show ps_N B n 0 9 (ps_W B n 9 (ps_N B n 1 6 (ps_W B n 8 (ps_N B n 3 12 (ps_W B n 7 (.inr k)))))) = _
      rw [s1]
      rfl
    · rw [L83_0 ho, e1, L83_k3 ho, ps_b_l, if_pos (by decide)]
    · exact fun x y u1 u2 u3 u4 u5 => by rw [r1 _ _ (by omega) (by omega)]
  | inr k1 =>
  rw [s1] at e1 c1
  have h1 : zT0 B n k1 F1 := c1
  obtain ⟨F2, e2, c2, v2, r2, -⟩ := T93 (X := X) (t := t) (p := p) (q := q) (d := d) (lo := 3) (hi := 12) (by omega) (by omega) h1
  cases s2 : ps_N B n 3 (12) (.inr k1) with
  | inl x =>
    rw [s2] at e2 c2
    refine zOC_l (u := x) ?_ (F := F2) ?_ c2 ?_
    · show ps_N B n 0 9 (ps_W B n 9 (ps_N B n 1 6 (ps_W B n 8 (ps_N B n 3 12 (ps_W B n 7 (.inr k)))))) = _
      rw [s1, s2]
      rfl
    · rw [L83_0 ho, e1, L83_k3 ho, ps_b_r, if_neg (by decide), e2, L83_k13 ho, ps_b_l, if_neg (by decide)]
    · exact fun x y u1 u2 u3 u4 u5 => by rw [r2 _ _ (by omega) (by omega), r1 _ _ (by omega) (by omega)]
  | inr k2 =>
  rw [s2] at e2 c2
  have h2 : zT0 B n k2 F2 := c2
  have v2 := v2 k2 s2
  have h2 : zT0 B n k2 (zu F2 o 9 (pv_N B n 3 12 (.inr k1))) := h2.fr (fun a b u => by rw [zu_ne (by omega)]) (by rw [zu_ne (by omega)])
  obtain ⟨F3, e3, c3, r3⟩ := T92 (X := X) (t := t) (p := p) (q := q) (d := d) (w := 8) (by decide) h2
  cases s3 : ps_W B n 8 (.inr k2) with
  | inl x =>
    rw [s3] at e3 c3
    refine zOC_l (u := x) ?_ (F := F3) ?_ c3 ?_
    · show ps_N B n 0 9 (ps_W B n 9 (ps_N B n 1 6 (ps_W B n 8 (ps_N B n 3 12 (ps_W B n 7 (.inr k)))))) = _
      rw [s1, s2, s3]
      rfl
    · rw [L83_0 ho, e1, L83_k3 ho, ps_b_r, if_neg (by decide), e2, L83_k13 ho, ps_b_r, if_pos (by decide), v2.1, e3, L83_k32 ho, ps_b_l, if_pos (by decide)]
    · exact fun x y u1 u2 u3 u4 u5 => by rw [r3 _ _ (by omega) (by omega), zu_ne (by omega), r2 _ _ (by omega) (by omega), r1 _ _ (by omega) (by omega)]
  | inr k3 =>
  rw [s3] at e3 c3
  have h3 : zT0 B n k3 F3 := c3
  obtain ⟨F4, e4, c4, v4, r4, -⟩ := T93 (X := X) (t := t) (p := p) (q := q) (d := d) (lo := 1) (hi := 6) (by omega) (by omega) h3
  cases s4 : ps_N B n 1 (6) (.inr k3) with
  | inl x =>
    rw [s4] at e4 c4
    refine zOC_l (u := x) ?_ (F := F4) ?_ c4 ?_
    · show ps_N B n 0 9 (ps_W B n 9 (ps_N B n 1 6 (ps_W B n 8 (ps_N B n 3 12 (ps_W B n 7 (.inr k)))))) = _
      rw [s1, s2, s3, s4]
      rfl
    · rw [L83_0 ho, e1, L83_k3 ho, ps_b_r, if_neg (by decide), e2, L83_k13 ho, ps_b_r, if_pos (by decide), v2.1, e3, L83_k32 ho, ps_b_r, if_neg (by decide), e4, L83_k42 ho, ps_b_l, if_neg (by decide)]
    · exact fun x y u1 u2 u3 u4 u5 => by rw [r4 _ _ (by omega) (by omega), r3 _ _ (by omega) (by omega), zu_ne (by omega), r2 _ _ (by omega) (by omega), r1 _ _ (by omega) (by omega)]
  | inr k4 =>
  rw [s4] at e4 c4
  have h4 : zT0 B n k4 F4 := c4
  have v4 := v4 k4 s4
  have h4 : zT0 B n k4 (zu F4 o 10 (pv_N B n 1 6 (.inr k3))) := h4.fr (fun a b u => by rw [zu_ne (by omega)]) (by rw [zu_ne (by omega)])
  obtain ⟨F5, e5, c5, r5⟩ := T92 (X := X) (t := t) (p := p) (q := q) (d := d) (w := 9) (by decide) h4
  cases s5 : ps_W B n 9 (.inr k4) with
  | inl x =>
    rw [s5] at e5 c5
    refine zOC_l (u := x) ?_ (F := F5) ?_ c5 ?_
    · show ps_N B n 0 9 (ps_W B n 9 (ps_N B n 1 6 (ps_W B n 8 (ps_N B n 3 12 (ps_W B n 7 (.inr k)))))) = _
      rw [s1, s2, s3, s4, s5]
      rfl
    · rw [L83_0 ho, e1, L83_k3 ho, ps_b_r, if_neg (by decide), e2, L83_k13 ho, ps_b_r, if_pos (by decide), v2.1, e3, L83_k32 ho, ps_b_r, if_neg (by decide), e4, L83_k42 ho, ps_b_r, if_pos (by decide), v4.1, e5, L83_k61 ho, ps_b_l, if_pos (by decide)]
    · exact fun x y u1 u2 u3 u4 u5 => by rw [r5 _ _ (by omega) (by omega), zu_ne (by omega), r4 _ _ (by omega) (by omega), r3 _ _ (by omega) (by omega), zu_ne (by omega), r2 _ _ (by omega) (by omega), r1 _ _ (by omega) (by omega)]
  | inr k5 =>
  rw [s5] at e5 c5
  have h5 : zT0 B n k5 F5 := c5
  obtain ⟨F6, e6, c6, v6, r6, -⟩ := T93 (X := X) (t := t) (p := p) (q := q) (d := d) (lo := 0) (hi := 9) (by omega) (by omega) h5
  cases s6 : ps_N B n 0 (9) (.inr k5) with
  | inl x =>
    rw [s6] at e6 c6
    refine zOC_l (u := x) ?_ (F := F6) ?_ c6 ?_
    · show ps_N B n 0 9 (ps_W B n 9 (ps_N B n 1 6 (ps_W B n 8 (ps_N B n 3 12 (ps_W B n 7 (.inr k)))))) = _
      rw [s1, s2, s3, s4, s5, s6]
    · rw [L83_0 ho, e1, L83_k3 ho, ps_b_r, if_neg (by decide), e2, L83_k13 ho, ps_b_r, if_pos (by decide), v2.1, e3, L83_k32 ho, ps_b_r, if_neg (by decide), e4, L83_k42 ho, ps_b_r, if_pos (by decide), v4.1, e5, L83_k61 ho, ps_b_r, if_neg (by decide), e6, L83_k71 ho, ps_b_l, if_neg (by decide)]
    · exact fun x y u1 u2 u3 u4 u5 => by rw [r6 _ _ (by omega) (by omega), r5 _ _ (by omega) (by omega), zu_ne (by omega), r4 _ _ (by omega) (by omega), r3 _ _ (by omega) (by omega), zu_ne (by omega), r2 _ _ (by omega) (by omega), r1 _ _ (by omega) (by omega)]
  | inr k6 =>
  rw [s6] at e6 c6
  have h6 : zT0 B n k6 F6 := c6
  have v6 := v6 k6 s6
  refine zOC_r (k := k6) ?_ (F := (zu F6 o 11 (pv_N B n 0 9 (.inr k5)))) ?_ ⟨h6.fr (fun a b u => by rw [zu_ne (by omega)]) (by rw [zu_ne (by omega)]), ?_, ?_⟩ ?_
  · show ps_N B n 0 9 (ps_W B n 9 (ps_N B n 1 6 (ps_W B n 8 (ps_N B n 3 12 (ps_W B n 7 (.inr k)))))) = _
    rw [s1, s2, s3, s4, s5, s6]
  · rw [L83_0 ho, e1, L83_k3 ho, ps_b_r, if_neg (by decide), e2, L83_k13 ho, ps_b_r, if_pos (by decide), v2.1, e3, L83_k32 ho, ps_b_r, if_neg (by decide), e4, L83_k42 ho, ps_b_r, if_pos (by decide), v4.1, e5, L83_k61 ho, ps_b_r, if_neg (by decide), e6, L83_k71 ho, ps_b_r, if_pos (by decide), v6.1]
  · show zHC (pu (pu (pu f 0 (pv_N B n 3 12 (ps_W B n 7 (.inr k)))) 1 (pv_N B n 1 6 (ps_W B n 8 (ps_N B n 3 12 (ps_W B n 7 (.inr k)))))) 2 (pv_N B n 0 9 (ps_W B n 9 (ps_N B n 1 6 (ps_W B n 8 (ps_N B n 3 12 (ps_W B n 7 (.inr k)))))))) _ o
    rw [s1, s2, s3, s4, s5]
    refine zHC_hall hC (fun x y u1 u2 => by rw [zu_ne (by omega), r6 _ _ (by omega) (by omega), r5 _ _ (by omega) (by omega), zu_ne (by omega), r4 _ _ (by omega) (by omega), r3 _ _ (by omega) (by omega), zu_ne (by omega), r2 _ _ (by omega) (by omega), r1 _ _ (by omega) (by omega)]) (by rw [zu_ne (by omega), r6 _ _ (by omega) (by omega), r5 _ _ (by omega) (by omega), zu_ne (by omega), r4 _ _ (by omega) (by omega), r3 _ _ (by omega) (by omega), zu_ne (by omega), r2 _ _ (by omega) (by omega), r1 _ _ (by omega) (by omega)]) ?_ ?_ ?_
    · rw [zu_ne (by omega), r6 _ _ (by omega) (by omega), r5 _ _ (by omega) (by omega), zu_ne (by omega), r4 _ _ (by omega) (by omega), r3 _ _ (by omega) (by omega), zu_same]
    · rw [zu_ne (by omega), r6 _ _ (by omega) (by omega), r5 _ _ (by omega) (by omega), zu_same]
    · rw [zu_same]
  · rw [pl_hall_n.1, pl_hall_n.2]
    exact hN.fr (by rw [zu_ne (by omega), r6 _ _ (by omega) (by omega), r5 _ _ (by omega) (by omega), zu_ne (by omega), r4 _ _ (by omega) (by omega), r3 _ _ (by omega) (by omega), zu_ne (by omega), r2 _ _ (by omega) (by omega), r1 _ _ (by omega) (by omega)]) (fun b => by rw [zu_ne (by omega), r6 _ _ (by omega) (by omega), r5 _ _ (by omega) (by omega), zu_ne (by omega), r4 _ _ (by omega) (by omega), r3 _ _ (by omega) (by omega), zu_ne (by omega), r2 _ _ (by omega) (by omega), r1 _ _ (by omega) (by omega)])
  · exact fun x y u1 u2 u3 u4 u5 => by rw [zu_ne (by omega), r6 _ _ (by omega) (by omega), r5 _ _ (by omega) (by omega), zu_ne (by omega), r4 _ _ (by omega) (by omega), r3 _ _ (by omega) (by omega), zu_ne (by omega), r2 _ _ (by omega) (by omega), r1 _ _ (by omega) (by omega)]
theorem T90 (ho : zo o) (hI : pI f) (hC : zHC f E o) (hN : zNm L (f 3 + f 4) E) (hT : zT0 B n k E) (h0 : 0 < f 0) (hf : f 6 < 5) : zOC B n t p q E o (pl_flt B n f L (.inr k)) (zf_ev X (d + 3) 90 (0, [vR 1, vR o, vJ], [], zH t p q E)) := by
  have hp2 : o = 40 ∨ o = 50 := ho
  have i1 := hI.1
  unfold pI1 at i1
  obtain ⟨F1, e1, c1, v1, r1, -⟩ := T93 (X := X) (t := t) (p := p) (q := q) (d := d) (lo := 0) (hi := f 0 - 1) (by omega) (by omega) hT
  cases s1 : ps_N B n 0 (f 0 - 1) (.inr k) with
  | inl x =>
    rw [s1] at e1 c1
    refine zOC_l (u := x) ?_ (F := F1) ?_ c1 ?_
    · show ps_N B n 0 (f 0 - 1) (ps_W B n 21 (ps_N B n 1 (f 1) (ps_W B n 18 (ps_N B n 0 (f 0 - 1) (.inr k))))) = _
      rw [s1]
      rfl
    · rw [L90_0 ho, hC.1.2.2.2.2.2.2, hC.1.1, e1, L90_k13 ho, ps_b_l, if_neg (by decide)]
    · exact fun x y u1 u2 u3 u4 u5 => by rw [r1 _ _ (by omega) (by omega)]
  | inr k1 =>
  rw [s1] at e1 c1
  have h1 : zT0 B n k1 F1 := c1
  have v1 := v1 k1 s1
  have h1 : zT0 B n k1 (zu F1 (o + 6) (f 6) (pv_N B n 0 (f 0 - 1) (.inr k))) := h1.fr (fun a b u => by rw [zu_ne (by omega)]) (by rw [zu_ne (by omega)])
  obtain ⟨F2, e2, c2, r2⟩ := T92 (X := X) (t := t) (p := p) (q := q) (d := d) (w := 18) (by decide) h1
  cases s2 : ps_W B n 18 (.inr k1) with
  | inl x =>
    rw [s2] at e2 c2
    refine zOC_l (u := x) ?_ (F := F2) ?_ c2 ?_
    · show ps_N B n 0 (f 0 - 1) (ps_W B n 21 (ps_N B n 1 (f 1) (ps_W B n 18 (ps_N B n 0 (f 0 - 1) (.inr k))))) = _
      rw [s1, s2]
      rfl
    · rw [L90_0 ho, hC.1.2.2.2.2.2.2, hC.1.1, e1, L90_k13 ho, ps_b_r, if_pos (by decide), n32_id (z := f 6) (by omega) (by omega), zg_pos (by omega), v1.1, e2, L90_k34 ho, ps_b_l, if_pos (by decide)]
    · exact fun x y u1 u2 u3 u4 u5 => by rw [r2 _ _ (by omega) (by omega), zu_ne (by omega), r1 _ _ (by omega) (by omega)]
  | inr k2 =>
  rw [s2] at e2 c2
  have h2 : zT0 B n k2 F2 := c2
  obtain ⟨F3, e3, c3, v3, r3, -⟩ := T93 (X := X) (t := t) (p := p) (q := q) (d := d) (lo := 1) (hi := f 1) (by omega) (by omega) h2
  have w3_10 : F2 o 10 = f 1 := by rw [r2 _ _ (by omega) (by omega), zu_ne (by omega), r1 _ _ (by omega) (by omega)]; exact hC.1.2.1
  cases s3 : ps_N B n 1 (f 1) (.inr k2) with
  | inl x =>
    rw [s3] at e3 c3
    refine zOC_l (u := x) ?_ (F := F3) ?_ c3 ?_
    · show ps_N B n 0 (f 0 - 1) (ps_W B n 21 (ps_N B n 1 (f 1) (ps_W B n 18 (ps_N B n 0 (f 0 - 1) (.inr k))))) = _
      rw [s1, s2, s3]
      rfl
    · rw [L90_0 ho, hC.1.2.2.2.2.2.2, hC.1.1, e1, L90_k13 ho, ps_b_r, if_pos (by decide), n32_id (z := f 6) (by omega) (by omega), zg_pos (by omega), v1.1, e2, L90_k34 ho, ps_b_r, if_neg (by decide), w3_10, e3, L90_k46 ho, ps_b_l, if_neg (by decide)]
    · exact fun x y u1 u2 u3 u4 u5 => by rw [r3 _ _ (by omega) (by omega), r2 _ _ (by omega) (by omega), zu_ne (by omega), r1 _ _ (by omega) (by omega)]
  | inr k3 =>
  rw [s3] at e3 c3
  have h3 : zT0 B n k3 F3 := c3
  have v3 := v3 k3 s3
  have h3 : zT0 B n k3 (zu F3 (o + 7) (f 6) (pv_N B n 1 (f 1) (.inr k2))) := h3.fr (fun a b u => by rw [zu_ne (by omega)]) (by rw [zu_ne (by omega)])
  obtain ⟨F4, e4, c4, r4⟩ := T92 (X := X) (t := t) (p := p) (q := q) (d := d) (w := 21) (by decide) h3
  cases s4 : ps_W B n 21 (.inr k3) with
  | inl x =>
    rw [s4] at e4 c4
    refine zOC_l (u := x) ?_ (F := F4) ?_ c4 ?_
    · show ps_N B n 0 (f 0 - 1) (ps_W B n 21 (ps_N B n 1 (f 1) (ps_W B n 18 (ps_N B n 0 (f 0 - 1) (.inr k))))) = _
      rw [s1, s2, s3, s4]
      rfl
    · rw [L90_0 ho, hC.1.2.2.2.2.2.2, hC.1.1, e1, L90_k13 ho, ps_b_r, if_pos (by decide), n32_id (z := f 6) (by omega) (by omega), zg_pos (by omega), v1.1, e2, L90_k34 ho, ps_b_r, if_neg (by decide), w3_10, e3, L90_k46 ho, ps_b_r, if_pos (by decide), n32_id (z := f 6) (by omega) (by omega), zg_pos (by omega), v3.1, e4, L90_k67 ho, ps_b_l, if_pos (by decide)]
    · exact fun x y u1 u2 u3 u4 u5 => by rw [r4 _ _ (by omega) (by omega), zu_ne (by omega), r3 _ _ (by omega) (by omega), r2 _ _ (by omega) (by omega), zu_ne (by omega), r1 _ _ (by omega) (by omega)]
  | inr k4 =>
  rw [s4] at e4 c4
  have h4 : zT0 B n k4 F4 := c4
  obtain ⟨F5, e5, c5, v5, r5, -⟩ := T93 (X := X) (t := t) (p := p) (q := q) (d := d) (lo := 0) (hi := f 0 - 1) (by omega) (by omega) h4
  have w5_9 : F4 o 9 = f 0 := by rw [r4 _ _ (by omega) (by omega), zu_ne (by omega), r3 _ _ (by omega) (by omega), r2 _ _ (by omega) (by omega), zu_ne (by omega), r1 _ _ (by omega) (by omega)]; exact hC.1.1
  cases s5 : ps_N B n 0 (f 0 - 1) (.inr k4) with
  | inl x =>
    rw [s5] at e5 c5
    refine zOC_l (u := x) ?_ (F := F5) ?_ c5 ?_
    · show ps_N B n 0 (f 0 - 1) (ps_W B n 21 (ps_N B n 1 (f 1) (ps_W B n 18 (ps_N B n 0 (f 0 - 1) (.inr k))))) = _
      rw [s1, s2, s3, s4, s5]
    · rw [L90_0 ho, hC.1.2.2.2.2.2.2, hC.1.1, e1, L90_k13 ho, ps_b_r, if_pos (by decide), n32_id (z := f 6) (by omega) (by omega), zg_pos (by omega), v1.1, e2, L90_k34 ho, ps_b_r, if_neg (by decide), w3_10, e3, L90_k46 ho, ps_b_r, if_pos (by decide), n32_id (z := f 6) (by omega) (by omega), zg_pos (by omega), v3.1, e4, L90_k67 ho, ps_b_r, if_neg (by decide), w5_9, e5, L90_k81 ho, ps_b_l, if_neg (by decide)]
    · exact fun x y u1 u2 u3 u4 u5 => by rw [r5 _ _ (by omega) (by omega), r4 _ _ (by omega) (by omega), zu_ne (by omega), r3 _ _ (by omega) (by omega), r2 _ _ (by omega) (by omega), zu_ne (by omega), r1 _ _ (by omega) (by omega)]
  | inr k5 =>
  rw [s5] at e5 c5
  have h5 : zT0 B n k5 F5 := c5
  have v5 := v5 k5 s5
  refine zOC_r (k := k5) ?_ (F := (zu (zu F5 (o + 8) (f 6) (pv_N B n 0 (f 0 - 1) (.inr k4))) o 15 (f 6 + 1))) ?_ ⟨h5.fr (fun a b u => by rw [zu_ne (by omega), zu_ne (by omega)]) (by rw [zu_ne (by omega), zu_ne (by omega)]), ?_, ?_⟩ ?_
  · show ps_N B n 0 (f 0 - 1) (ps_W B n 21 (ps_N B n 1 (f 1) (ps_W B n 18 (ps_N B n 0 (f 0 - 1) (.inr k))))) = _
    rw [s1, s2, s3, s4, s5]
  · rw [L90_0 ho, hC.1.2.2.2.2.2.2, hC.1.1, e1, L90_k13 ho, ps_b_r, if_pos (by decide), n32_id (z := f 6) (by omega) (by omega), zg_pos (by omega), v1.1, e2, L90_k34 ho, ps_b_r, if_neg (by decide), w3_10, e3, L90_k46 ho, ps_b_r, if_pos (by decide), n32_id (z := f 6) (by omega) (by omega), zg_pos (by omega), v3.1, e4, L90_k67 ho, ps_b_r, if_neg (by decide), w5_9, e5, L90_k81 ho, ps_b_r, if_pos (by decide), n32_id (z := f 6) (by omega) (by omega), zg_pos (by omega), v5.1]
    have w : F5 o 15 = f 6 := by rw [r5 _ _ (by omega) (by omega), r4 _ _ (by omega) (by omega), zu_ne (by omega), r3 _ _ (by omega) (by omega), r2 _ _ (by omega) (by omega), zu_ne (by omega), r1 _ _ (by omega) (by omega)]; exact hC.1.2.2.2.2.2.2
    rw [zu_ne (by omega), w]
  · show zHC (pu (pu (pu (pu f (66 + 3 * f 6) (pv_N B n 0 (f 0 - 1) (.inr k))) (66 + 3 * f 6 + 1) (pv_N B n 1 (f 1) (ps_W B n 18 (ps_N B n 0 (f 0 - 1) (.inr k))))) (66 + 3 * f 6 + 2) (pv_N B n 0 (f 0 - 1) (ps_W B n 21 (ps_N B n 1 (f 1) (ps_W B n 18 (ps_N B n 0 (f 0 - 1) (.inr k))))))) 6 (f 6 + 1)) _ o
    rw [s1, s2, s3, s4]
    refine zHC_flt hI.1 hf hC (fun x y u1 u2 u3 => by rw [zu_ne (by omega), zu_ne (by omega), r5 _ _ (by omega) (by omega), r4 _ _ (by omega) (by omega), zu_ne (by omega), r3 _ _ (by omega) (by omega), r2 _ _ (by omega) (by omega), zu_ne (by omega), r1 _ _ (by omega) (by omega)]) ho (by rw [zu_ne (by omega), zu_ne (by omega), r5 _ _ (by omega) (by omega), r4 _ _ (by omega) (by omega), zu_ne (by omega), r3 _ _ (by omega) (by omega), r2 _ _ (by omega) (by omega), zu_ne (by omega), r1 _ _ (by omega) (by omega)]) ?_ ?_ ?_ ?_
    · rw [zu_same]
    · rw [zu_ne (by omega), zu_ne (by omega), r5 _ _ (by omega) (by omega), r4 _ _ (by omega) (by omega), zu_ne (by omega), r3 _ _ (by omega) (by omega), r2 _ _ (by omega) (by omega), zu_same]
    · rw [zu_ne (by omega), zu_ne (by omega), r5 _ _ (by omega) (by omega), r4 _ _ (by omega) (by omega), zu_same]
    · rw [zu_ne (by omega), zu_same]
  · rw [(pl_flt_n (by omega)).1, (pl_flt_n (by omega)).2]
    exact hN.fr (by rw [zu_ne (by omega), zu_ne (by omega), r5 _ _ (by omega) (by omega), r4 _ _ (by omega) (by omega), zu_ne (by omega), r3 _ _ (by omega) (by omega), r2 _ _ (by omega) (by omega), zu_ne (by omega), r1 _ _ (by omega) (by omega)]) (fun b => by rw [zu_ne (by omega), zu_ne (by omega), r5 _ _ (by omega) (by omega), r4 _ _ (by omega) (by omega), zu_ne (by omega), r3 _ _ (by omega) (by omega), r2 _ _ (by omega) (by omega), zu_ne (by omega), r1 _ _ (by omega) (by omega)])
  · exact fun x y u1 u2 u3 u4 u5 => by rw [zu_ne (by omega), zu_ne (by omega), r5 _ _ (by omega) (by omega), r4 _ _ (by omega) (by omega), zu_ne (by omega), r3 _ _ (by omega) (by omega), r2 _ _ (by omega) (by omega), zu_ne (by omega), r1 _ _ (by omega) (by omega)]
theorem T88 (ho : zo o) (hI : pI f) (hC : zHC f E o) (hN : zNm L (f 3 + f 4) E) (hT : zT0 B n k E) (h0 : 0 < f 0) (hf : f 4 < 6) : zOC B n t p q E o (pl_mem B n f L (.inr k)) (zf_ev X (d + 3) 88 (0, [vR 1, vR o, vJ], [], zH t p q E)) := by
  have hp2 : o = 40 ∨ o = 50 := ho
  have i1 := hI.1
  unfold pI1 at i1
  obtain ⟨F1, e1, c1, v1, r1⟩ := T95 (X := X) (t := t) (p := p) (q := q) (d := d) (m := f 3 + f 4) (by omega) hN hT
  cases s1 : ps_M B n L (f 3 + f 4) (.inr k) with
  | inl x =>
    rw [s1] at e1 c1
    refine zOC_l (u := x) ?_ (F := F1) ?_ c1 ?_
    · show ps_N B n 0 100 (ps_W B n 20 (ps_N B n 0 9 (ps_W B n 19 (ps_N B n 1 (f 1) (ps_W B n 18 (ps_N B n 0 (f 0 - 1) (ps_W B n 17 (ps_F B n (ps_M B n L (f 3 + f 4) (.inr k)))))))))) = _
      rw [s1]
      rfl
    · rw [L88_0 ho, hC.1.2.2.2.2.1, e1, L88_k6 ho, ps_b_l, if_pos (by decide)]
    · exact fun x y u1 u2 u3 u4 u5 => by rw [r1 _ _ (by omega) (by omega) (by omega)]
  | inr k1 =>
  rw [s1] at e1 c1
  have h1 : zT0 B n k1 F1 := c1
  have v1 := v1 k1 s1
  obtain ⟨F2, e2, c2, v2, r2⟩ := T96 (X := X) (t := t) (p := p) (q := q) (d := d) h1
  cases s2 : ps_F B n (.inr k1) with
  | inl x =>
    rw [s2] at e2 c2
    refine zOC_l (u := x) ?_ (F := F2) ?_ c2 ?_
    · show ps_N B n 0 100 (ps_W B n 20 (ps_N B n 0 9 (ps_W B n 19 (ps_N B n 1 (f 1) (ps_W B n 18 (ps_N B n 0 (f 0 - 1) (ps_W B n 17 (ps_F B n (ps_M B n L (f 3 + f 4) (.inr k)))))))))) = _
      rw [s1, s2]
      rfl
    · rw [L88_0 ho, hC.1.2.2.2.2.1, e1, L88_k6 ho, ps_b_r, if_neg (by decide), e2, L88_k13 ho, ps_b_l, if_neg (by decide)]
    · exact fun x y u1 u2 u3 u4 u5 => by rw [r2 _ _ (by omega) (by omega), r1 _ _ (by omega) (by omega) (by omega)]
  | inr k2 =>
  rw [s2] at e2 c2
  have h2 : zT0 B n k2 F2 := c2
  have v2 := v2 k2 s2
  have h2 : zT0 B n k2 (zu F2 (o + 1) (6 + f 4) (pv_F B n (.inr k1))) := h2.fr (fun a b u => by rw [zu_ne (by omega)]) (by rw [zu_ne (by omega)])
  obtain ⟨F3, e3, c3, r3⟩ := T92 (X := X) (t := t) (p := p) (q := q) (d := d) (w := 17) (by decide) h2
  cases s3 : ps_W B n 17 (.inr k2) with
  | inl x =>
    rw [s3] at e3 c3
    refine zOC_l (u := x) ?_ (F := F3) ?_ c3 ?_
    · show ps_N B n 0 100 (ps_W B n 20 (ps_N B n 0 9 (ps_W B n 19 (ps_N B n 1 (f 1) (ps_W B n 18 (ps_N B n 0 (f 0 - 1) (ps_W B n 17 (ps_F B n (ps_M B n L (f 3 + f 4) (.inr k)))))))))) = _
      rw [s1, s2, s3]
      rfl
    · rw [L88_0 ho, hC.1.2.2.2.2.1, e1, L88_k6 ho, ps_b_r, if_neg (by decide), e2, L88_k13 ho, ps_b_r, if_pos (by decide), n32_id (z := 6 + f 4) (by omega) (by omega), zg_pos (by omega), v2, e3, L88_k37 ho, ps_b_l, if_pos (by decide)]
    · exact fun x y u1 u2 u3 u4 u5 => by rw [r3 _ _ (by omega) (by omega), zu_ne (by omega), r2 _ _ (by omega) (by omega), r1 _ _ (by omega) (by omega) (by omega)]
  | inr k3 =>
  rw [s3] at e3 c3
  have h3 : zT0 B n k3 F3 := c3
  obtain ⟨F4, e4, c4, v4, r4, -⟩ := T93 (X := X) (t := t) (p := p) (q := q) (d := d) (lo := 0) (hi := f 0 - 1) (by omega) (by omega) h3
  have w4_9 : F3 o 9 = f 0 := by rw [r3 _ _ (by omega) (by omega), zu_ne (by omega), r2 _ _ (by omega) (by omega), r1 _ _ (by omega) (by omega) (by omega)]; exact hC.1.1
  cases s4 : ps_N B n 0 (f 0 - 1) (.inr k3) with
  | inl x =>
    rw [s4] at e4 c4
    refine zOC_l (u := x) ?_ (F := F4) ?_ c4 ?_
    · show ps_N B n 0 100 (ps_W B n 20 (ps_N B n 0 9 (ps_W B n 19 (ps_N B n 1 (f 1) (ps_W B n 18 (ps_N B n 0 (f 0 - 1) (ps_W B n 17 (ps_F B n (ps_M B n L (f 3 + f 4) (.inr k)))))))))) = _
      rw [s1, s2, s3, s4]
      rfl
    · rw [L88_0 ho, hC.1.2.2.2.2.1, e1, L88_k6 ho, ps_b_r, if_neg (by decide), e2, L88_k13 ho, ps_b_r, if_pos (by decide), n32_id (z := 6 + f 4) (by omega) (by omega), zg_pos (by omega), v2, e3, L88_k37 ho, ps_b_r, if_neg (by decide), w4_9, e4, L88_k51 ho, ps_b_l, if_neg (by decide)]
    · exact fun x y u1 u2 u3 u4 u5 => by rw [r4 _ _ (by omega) (by omega), r3 _ _ (by omega) (by omega), zu_ne (by omega), r2 _ _ (by omega) (by omega), r1 _ _ (by omega) (by omega) (by omega)]
  | inr k4 =>
  rw [s4] at e4 c4
  have h4 : zT0 B n k4 F4 := c4
  have v4 := v4 k4 s4
  have h4 : zT0 B n k4 (zu F4 (o + 1) (f 4) (pv_N B n 0 (f 0 - 1) (.inr k3))) := h4.fr (fun a b u => by rw [zu_ne (by omega)]) (by rw [zu_ne (by omega)])
  obtain ⟨F5, e5, c5, r5⟩ := T92 (X := X) (t := t) (p := p) (q := q) (d := d) (w := 18) (by decide) h4
  cases s5 : ps_W B n 18 (.inr k4) with
  | inl x =>
    rw [s5] at e5 c5
    refine zOC_l (u := x) ?_ (F := F5) ?_ c5 ?_
    · show ps_N B n 0 100 (ps_W B n 20 (ps_N B n 0 9 (ps_W B n 19 (ps_N B n 1 (f 1) (ps_W B n 18 (ps_N B n 0 (f 0 - 1) (ps_W B n 17 (ps_F B n (ps_M B n L (f 3 + f 4) (.inr k)))))))))) = _
      rw [s1, s2, s3, s4, s5]
      rfl
    · rw [L88_0 ho, hC.1.2.2.2.2.1, e1, L88_k6 ho, ps_b_r, if_neg (by decide), e2, L88_k13 ho, ps_b_r, if_pos (by decide), n32_id (z := 6 + f 4) (by omega) (by omega), zg_pos (by omega), v2, e3, L88_k37 ho, ps_b_r, if_neg (by decide), w4_9, e4, L88_k51 ho, ps_b_r, if_pos (by decide), n32_id (z := 0 + f 4) (by omega) (by omega), Int.zero_add, zg_pos (by omega), v4.1, e5, L88_k74 ho, ps_b_l, if_pos (by decide)]
    · exact fun x y u1 u2 u3 u4 u5 => by rw [r5 _ _ (by omega) (by omega), zu_ne (by omega), r4 _ _ (by omega) (by omega), r3 _ _ (by omega) (by omega), zu_ne (by omega), r2 _ _ (by omega) (by omega), r1 _ _ (by omega) (by omega) (by omega)]
  | inr k5 =>
  rw [s5] at e5 c5
  have h5 : zT0 B n k5 F5 := c5
  obtain ⟨F6, e6, c6, v6, r6, -⟩ := T93 (X := X) (t := t) (p := p) (q := q) (d := d) (lo := 1) (hi := f 1) (by omega) (by omega) h5
  have w6_10 : F5 o 10 = f 1 := by rw [r5 _ _ (by omega) (by omega), zu_ne (by omega), r4 _ _ (by omega) (by omega), r3 _ _ (by omega) (by omega), zu_ne (by omega), r2 _ _ (by omega) (by omega), r1 _ _ (by omega) (by omega) (by omega)]; exact hC.1.2.1
  cases s6 : ps_N B n 1 (f 1) (.inr k5) with
  | inl x =>
    rw [s6] at e6 c6
    refine zOC_l (u := x) ?_ (F := F6) ?_ c6 ?_
    · show ps_N B n 0 100 (ps_W B n 20 (ps_N B n 0 9 (ps_W B n 19 (ps_N B n 1 (f 1) (ps_W B n 18 (ps_N B n 0 (f 0 - 1) (ps_W B n 17 (ps_F B n (ps_M B n L (f 3 + f 4) (.inr k)))))))))) = _
      rw [s1, s2, s3, s4, s5, s6]
      rfl
    · rw [L88_0 ho, hC.1.2.2.2.2.1, e1, L88_k6 ho, ps_b_r, if_neg (by decide), e2, L88_k13 ho, ps_b_r, if_pos (by decide), n32_id (z := 6 + f 4) (by omega) (by omega), zg_pos (by omega), v2, e3, L88_k37 ho, ps_b_r, if_neg (by decide), w4_9, e4, L88_k51 ho, ps_b_r, if_pos (by decide), n32_id (z := 0 + f 4) (by omega) (by omega), Int.zero_add, zg_pos (by omega), v4.1, e5, L88_k74 ho, ps_b_r, if_neg (by decide), w6_10, e6, L88_k86 ho, ps_b_l, if_neg (by decide)]
    · exact fun x y u1 u2 u3 u4 u5 => by rw [r6 _ _ (by omega) (by omega), r5 _ _ (by omega) (by omega), zu_ne (by omega), r4 _ _ (by omega) (by omega), r3 _ _ (by omega) (by omega), zu_ne (by omega), r2 _ _ (by omega) (by omega), r1 _ _ (by omega) (by omega) (by omega)]
  | inr k6 =>
  rw [s6] at e6 c6
  have h6 : zT0 B n k6 F6 := c6
  have v6 := v6 k6 s6
  have h6 : zT0 B n k6 (zu F6 (o + 1) (12 + f 4) (pv_N B n 1 (f 1) (.inr k5))) := h6.fr (fun a b u => by rw [zu_ne (by omega)]) (by rw [zu_ne (by omega)])
  obtain ⟨F7, e7, c7, r7⟩ := T92 (X := X) (t := t) (p := p) (q := q) (d := d) (w := 19) (by decide) h6
  cases s7 : ps_W B n 19 (.inr k6) with
  | inl x =>
    rw [s7] at e7 c7
    refine zOC_l (u := x) ?_ (F := F7) ?_ c7 ?_
    · show ps_N B n 0 100 (ps_W B n 20 (ps_N B n 0 9 (ps_W B n 19 (ps_N B n 1 (f 1) (ps_W B n 18 (ps_N B n 0 (f 0 - 1) (ps_W B n 17 (ps_F B n (ps_M B n L (f 3 + f 4) (.inr k)))))))))) = _
      rw [s1, s2, s3, s4, s5, s6, s7]
      rfl
    · rw [L88_0 ho, hC.1.2.2.2.2.1, e1, L88_k6 ho, ps_b_r, if_neg (by decide), e2, L88_k13 ho, ps_b_r, if_pos (by decide), n32_id (z := 6 + f 4) (by omega) (by omega), zg_pos (by omega), v2, e3, L88_k37 ho, ps_b_r, if_neg (by decide), w4_9, e4, L88_k51 ho, ps_b_r, if_pos (by decide), n32_id (z := 0 + f 4) (by omega) (by omega), Int.zero_add, zg_pos (by omega), v4.1, e5, L88_k74 ho, ps_b_r, if_neg (by decide), w6_10, e6, L88_k86 ho, ps_b_r, if_pos (by decide), n32_id (z := 12 + f 4) (by omega) (by omega), zg_pos (by omega), v6.1, e7, L88_k110 ho, ps_b_l, if_pos (by decide)]
    · exact fun x y u1 u2 u3 u4 u5 => by rw [r7 _ _ (by omega) (by omega), zu_ne (by omega), r6 _ _ (by omega) (by omega), r5 _ _ (by omega) (by omega), zu_ne (by omega), r4 _ _ (by omega) (by omega), r3 _ _ (by omega) (by omega), zu_ne (by omega), r2 _ _ (by omega) (by omega), r1 _ _ (by omega) (by omega) (by omega)]
  | inr k7 =>
  rw [s7] at e7 c7
  have h7 : zT0 B n k7 F7 := c7
  obtain ⟨F8, e8, c8, v8, r8, -⟩ := T93 (X := X) (t := t) (p := p) (q := q) (d := d) (lo := 0) (hi := 9) (by omega) (by omega) h7
  cases s8 : ps_N B n 0 (9) (.inr k7) with
  | inl x =>
    rw [s8] at e8 c8
    refine zOC_l (u := x) ?_ (F := F8) ?_ c8 ?_
    · show ps_N B n 0 100 (ps_W B n 20 (ps_N B n 0 9 (ps_W B n 19 (ps_N B n 1 (f 1) (ps_W B n 18 (ps_N B n 0 (f 0 - 1) (ps_W B n 17 (ps_F B n (ps_M B n L (f 3 + f 4) (.inr k)))))))))) = _
      rw [s1, s2, s3, s4, s5, s6, s7, s8]
      rfl
    · rw [L88_0 ho, hC.1.2.2.2.2.1, e1, L88_k6 ho, ps_b_r, if_neg (by decide), e2, L88_k13 ho, ps_b_r, if_pos (by decide), n32_id (z := 6 + f 4) (by omega) (by omega), zg_pos (by omega), v2, e3, L88_k37 ho, ps_b_r, if_neg (by decide), w4_9, e4, L88_k51 ho, ps_b_r, if_pos (by decide), n32_id (z := 0 + f 4) (by omega) (by omega), Int.zero_add, zg_pos (by omega), v4.1, e5, L88_k74 ho, ps_b_r, if_neg (by decide), w6_10, e6, L88_k86 ho, ps_b_r, if_pos (by decide), n32_id (z := 12 + f 4) (by omega) (by omega), zg_pos (by omega), v6.1, e7, L88_k110 ho, ps_b_r, if_neg (by decide), e8, L88_k120 ho, ps_b_l, if_neg (by decide)]
    · exact fun x y u1 u2 u3 u4 u5 => by rw [r8 _ _ (by omega) (by omega), r7 _ _ (by omega) (by omega), zu_ne (by omega), r6 _ _ (by omega) (by omega), r5 _ _ (by omega) (by omega), zu_ne (by omega), r4 _ _ (by omega) (by omega), r3 _ _ (by omega) (by omega), zu_ne (by omega), r2 _ _ (by omega) (by omega), r1 _ _ (by omega) (by omega) (by omega)]
  | inr k8 =>
  rw [s8] at e8 c8
  have h8 : zT0 B n k8 F8 := c8
  have v8 := v8 k8 s8
  have h8 : zT0 B n k8 (zu F8 (o + 2) (f 4) (pv_N B n 0 9 (.inr k7))) := h8.fr (fun a b u => by rw [zu_ne (by omega)]) (by rw [zu_ne (by omega)])
  obtain ⟨F9, e9, c9, r9⟩ := T92 (X := X) (t := t) (p := p) (q := q) (d := d) (w := 20) (by decide) h8
  cases s9 : ps_W B n 20 (.inr k8) with
  | inl x =>
    rw [s9] at e9 c9
    refine zOC_l (u := x) ?_ (F := F9) ?_ c9 ?_
    · show ps_N B n 0 100 (ps_W B n 20 (ps_N B n 0 9 (ps_W B n 19 (ps_N B n 1 (f 1) (ps_W B n 18 (ps_N B n 0 (f 0 - 1) (ps_W B n 17 (ps_F B n (ps_M B n L (f 3 + f 4) (.inr k)))))))))) = _
      rw [s1, s2, s3, s4, s5, s6, s7, s8, s9]
      rfl
    · rw [L88_0 ho, hC.1.2.2.2.2.1, e1, L88_k6 ho, ps_b_r, if_neg (by decide), e2, L88_k13 ho, ps_b_r, if_pos (by decide), n32_id (z := 6 + f 4) (by omega) (by omega), zg_pos (by omega), v2, e3, L88_k37 ho, ps_b_r, if_neg (by decide), w4_9, e4, L88_k51 ho, ps_b_r, if_pos (by decide), n32_id (z := 0 + f 4) (by omega) (by omega), Int.zero_add, zg_pos (by omega), v4.1, e5, L88_k74 ho, ps_b_r, if_neg (by decide), w6_10, e6, L88_k86 ho, ps_b_r, if_pos (by decide), n32_id (z := 12 + f 4) (by omega) (by omega), zg_pos (by omega), v6.1, e7, L88_k110 ho, ps_b_r, if_neg (by decide), e8, L88_k120 ho, ps_b_r, if_pos (by decide), n32_id (z := f 4) (by omega) (by omega), zg_pos (by omega), v8.1, e9, L88_k141 ho, ps_b_l, if_pos (by decide)]
    · exact fun x y u1 u2 u3 u4 u5 => by rw [r9 _ _ (by omega) (by omega), zu_ne (by omega), r8 _ _ (by omega) (by omega), r7 _ _ (by omega) (by omega), zu_ne (by omega), r6 _ _ (by omega) (by omega), r5 _ _ (by omega) (by omega), zu_ne (by omega), r4 _ _ (by omega) (by omega), r3 _ _ (by omega) (by omega), zu_ne (by omega), r2 _ _ (by omega) (by omega), r1 _ _ (by omega) (by omega) (by omega)]
  | inr k9 =>
  rw [s9] at e9 c9
  have h9 : zT0 B n k9 F9 := c9
  obtain ⟨F10, e10, c10, v10, r10, -⟩ := T93 (X := X) (t := t) (p := p) (q := q) (d := d) (lo := 0) (hi := 100) (by omega) (by omega) h9
  cases s10 : ps_N B n 0 (100) (.inr k9) with
  | inl x =>
    rw [s10] at e10 c10
    refine zOC_l (u := x) ?_ (F := F10) ?_ c10 ?_
    · show ps_N B n 0 100 (ps_W B n 20 (ps_N B n 0 9 (ps_W B n 19 (ps_N B n 1 (f 1) (ps_W B n 18 (ps_N B n 0 (f 0 - 1) (ps_W B n 17 (ps_F B n (ps_M B n L (f 3 + f 4) (.inr k)))))))))) = _
      rw [s1, s2, s3, s4, s5, s6, s7, s8, s9, s10]
    · rw [L88_0 ho, hC.1.2.2.2.2.1, e1, L88_k6 ho, ps_b_r, if_neg (by decide), e2, L88_k13 ho, ps_b_r, if_pos (by decide), n32_id (z := 6 + f 4) (by omega) (by omega), zg_pos (by omega), v2, e3, L88_k37 ho, ps_b_r, if_neg (by decide), w4_9, e4, L88_k51 ho, ps_b_r, if_pos (by decide), n32_id (z := 0 + f 4) (by omega) (by omega), Int.zero_add, zg_pos (by omega), v4.1, e5, L88_k74 ho, ps_b_r, if_neg (by decide), w6_10, e6, L88_k86 ho, ps_b_r, if_pos (by decide), n32_id (z := 12 + f 4) (by omega) (by omega), zg_pos (by omega), v6.1, e7, L88_k110 ho, ps_b_r, if_neg (by decide), e8, L88_k120 ho, ps_b_r, if_pos (by decide), n32_id (z := f 4) (by omega) (by omega), zg_pos (by omega), v8.1, e9, L88_k141 ho, ps_b_r, if_neg (by decide), e10, L88_k151 ho, ps_b_l, if_neg (by decide)]
    · exact fun x y u1 u2 u3 u4 u5 => by rw [r10 _ _ (by omega) (by omega), r9 _ _ (by omega) (by omega), zu_ne (by omega), r8 _ _ (by omega) (by omega), r7 _ _ (by omega) (by omega), zu_ne (by omega), r6 _ _ (by omega) (by omega), r5 _ _ (by omega) (by omega), zu_ne (by omega), r4 _ _ (by omega) (by omega), r3 _ _ (by omega) (by omega), zu_ne (by omega), r2 _ _ (by omega) (by omega), r1 _ _ (by omega) (by omega) (by omega)]
  | inr k10 =>
  rw [s10] at e10 c10
  have h10 : zT0 B n k10 F10 := c10
  have v10 := v10 k10 s10
  refine zOC_r (k := k10) ?_ (F := (zu (zu F10 (o + 3) (f 4) (pv_N B n 0 100 (.inr k9))) o 13 (f 4 + 1))) ?_ ⟨h10.fr (fun a b u => by rw [zu_ne (by omega), zu_ne (by omega)]) (by rw [zu_ne (by omega), zu_ne (by omega)]), ?_, ?_⟩ ?_
  · show ps_N B n 0 100 (ps_W B n 20 (ps_N B n 0 9 (ps_W B n 19 (ps_N B n 1 (f 1) (ps_W B n 18 (ps_N B n 0 (f 0 - 1) (ps_W B n 17 (ps_F B n (ps_M B n L (f 3 + f 4) (.inr k)))))))))) = _
    rw [s1, s2, s3, s4, s5, s6, s7, s8, s9, s10]
  · rw [L88_0 ho, hC.1.2.2.2.2.1, e1, L88_k6 ho, ps_b_r, if_neg (by decide), e2, L88_k13 ho, ps_b_r, if_pos (by decide), n32_id (z := 6 + f 4) (by omega) (by omega), zg_pos (by omega), v2, e3, L88_k37 ho, ps_b_r, if_neg (by decide), w4_9, e4, L88_k51 ho, ps_b_r, if_pos (by decide), n32_id (z := 0 + f 4) (by omega) (by omega), Int.zero_add, zg_pos (by omega), v4.1, e5, L88_k74 ho, ps_b_r, if_neg (by decide), w6_10, e6, L88_k86 ho, ps_b_r, if_pos (by decide), n32_id (z := 12 + f 4) (by omega) (by omega), zg_pos (by omega), v6.1, e7, L88_k110 ho, ps_b_r, if_neg (by decide), e8, L88_k120 ho, ps_b_r, if_pos (by decide), n32_id (z := f 4) (by omega) (by omega), zg_pos (by omega), v8.1, e9, L88_k141 ho, ps_b_r, if_neg (by decide), e10, L88_k151 ho, ps_b_r, if_pos (by decide), n32_id (z := f 4) (by omega) (by omega), zg_pos (by omega), v10.1]
    have w : F10 o 13 = f 4 := by rw [r10 _ _ (by omega) (by omega), r9 _ _ (by omega) (by omega), zu_ne (by omega), r8 _ _ (by omega) (by omega), r7 _ _ (by omega) (by omega), zu_ne (by omega), r6 _ _ (by omega) (by omega), r5 _ _ (by omega) (by omega), zu_ne (by omega), r4 _ _ (by omega) (by omega), r3 _ _ (by omega) (by omega), zu_ne (by omega), r2 _ _ (by omega) (by omega), r1 _ _ (by omega) (by omega) (by omega)]; exact hC.1.2.2.2.2.1
    rw [zu_ne (by omega), w]
  · show zHC (pu (pu (pu (pu (pu (pu f (30 + 5 * f 4) (pv_F B n (ps_M B n L (f 3 + f 4) (.inr k)))) (30 + 5 * f 4 + 1) (pv_N B n 0 (f 0 - 1) (ps_W B n 17 (ps_F B n (ps_M B n L (f 3 + f 4) (.inr k)))))) (30 + 5 * f 4 + 2) (pv_N B n 1 (f 1) (ps_W B n 18 (ps_N B n 0 (f 0 - 1) (ps_W B n 17 (ps_F B n (ps_M B n L (f 3 + f 4) (.inr k)))))))) (30 + 5 * f 4 + 3) (pv_N B n 0 9 (ps_W B n 19 (ps_N B n 1 (f 1) (ps_W B n 18 (ps_N B n 0 (f 0 - 1) (ps_W B n 17 (ps_F B n (ps_M B n L (f 3 + f 4) (.inr k)))))))))) (30 + 5 * f 4 + 4) (pv_N B n 0 100 (ps_W B n 20 (ps_N B n 0 9 (ps_W B n 19 (ps_N B n 1 (f 1) (ps_W B n 18 (ps_N B n 0 (f 0 - 1) (ps_W B n 17 (ps_F B n (ps_M B n L (f 3 + f 4) (.inr k)))))))))))) 4 (f 4 + 1)) _ o
    rw [s1, s2, s3, s4, s5, s6, s7, s8, s9]
    refine zHC_mem hI.1 hf hC (fun x y u1 u2 u3 u4 => by rw [zu_ne (by omega), zu_ne (by omega), r10 _ _ (by omega) (by omega), r9 _ _ (by omega) (by omega), zu_ne (by omega), r8 _ _ (by omega) (by omega), r7 _ _ (by omega) (by omega), zu_ne (by omega), r6 _ _ (by omega) (by omega), r5 _ _ (by omega) (by omega), zu_ne (by omega), r4 _ _ (by omega) (by omega), r3 _ _ (by omega) (by omega), zu_ne (by omega), r2 _ _ (by omega) (by omega), r1 _ _ (by omega) (by omega) (by omega)]) ho (by rw [zu_ne (by omega), zu_ne (by omega), r10 _ _ (by omega) (by omega), r9 _ _ (by omega) (by omega), zu_ne (by omega), r8 _ _ (by omega) (by omega), r7 _ _ (by omega) (by omega), zu_ne (by omega), r6 _ _ (by omega) (by omega), r5 _ _ (by omega) (by omega), zu_ne (by omega), r4 _ _ (by omega) (by omega), r3 _ _ (by omega) (by omega), zu_ne (by omega), r2 _ _ (by omega) (by omega), r1 _ _ (by omega) (by omega) (by omega)]) ?_ ?_ ?_ ?_ ?_ ?_
    · rw [zu_same]
    · rw [zu_ne (by omega), zu_ne (by omega), r10 _ _ (by omega) (by omega), r9 _ _ (by omega) (by omega), zu_ne (by omega), r8 _ _ (by omega) (by omega), r7 _ _ (by omega) (by omega), zu_ne (by omega), r6 _ _ (by omega) (by omega), r5 _ _ (by omega) (by omega), zu_ne (by omega), r4 _ _ (by omega) (by omega), r3 _ _ (by omega) (by omega), zu_same]
    · rw [zu_ne (by omega), zu_ne (by omega), r10 _ _ (by omega) (by omega), r9 _ _ (by omega) (by omega), zu_ne (by omega), r8 _ _ (by omega) (by omega), r7 _ _ (by omega) (by omega), zu_ne (by omega), r6 _ _ (by omega) (by omega), r5 _ _ (by omega) (by omega), zu_same]
    · rw [zu_ne (by omega), zu_ne (by omega), r10 _ _ (by omega) (by omega), r9 _ _ (by omega) (by omega), zu_ne (by omega), r8 _ _ (by omega) (by omega), r7 _ _ (by omega) (by omega), zu_same]
    · rw [zu_ne (by omega), zu_ne (by omega), r10 _ _ (by omega) (by omega), r9 _ _ (by omega) (by omega), zu_same]
    · rw [zu_ne (by omega), zu_same]
  · rw [(pl_mem_n (by omega)).1, (pl_mem_n (by omega)).2]
    exact v1.fr (by rw [zu_ne (by omega), zu_ne (by omega), r10 _ _ (by omega) (by omega), r9 _ _ (by omega) (by omega), zu_ne (by omega), r8 _ _ (by omega) (by omega), r7 _ _ (by omega) (by omega), zu_ne (by omega), r6 _ _ (by omega) (by omega), r5 _ _ (by omega) (by omega), zu_ne (by omega), r4 _ _ (by omega) (by omega), r3 _ _ (by omega) (by omega), zu_ne (by omega), r2 _ _ (by omega) (by omega)]) (fun b => by rw [zu_ne (by omega), zu_ne (by omega), r10 _ _ (by omega) (by omega), r9 _ _ (by omega) (by omega), zu_ne (by omega), r8 _ _ (by omega) (by omega), r7 _ _ (by omega) (by omega), zu_ne (by omega), r6 _ _ (by omega) (by omega), r5 _ _ (by omega) (by omega), zu_ne (by omega), r4 _ _ (by omega) (by omega), r3 _ _ (by omega) (by omega), zu_ne (by omega), r2 _ _ (by omega) (by omega)])
  · exact fun x y u1 u2 u3 u4 u5 => by rw [zu_ne (by omega), zu_ne (by omega), r10 _ _ (by omega) (by omega), r9 _ _ (by omega) (by omega), zu_ne (by omega), r8 _ _ (by omega) (by omega), r7 _ _ (by omega) (by omega), zu_ne (by omega), r6 _ _ (by omega) (by omega), r5 _ _ (by omega) (by omega), zu_ne (by omega), r4 _ _ (by omega) (by omega), r3 _ _ (by omega) (by omega), zu_ne (by omega), r2 _ _ (by omega) (by omega), r1 _ _ (by omega) (by omega) (by omega)]
theorem T87 (ho : zo o) (hI : pI f) (hC : zHC f E o) (hN : zNm L (f 3 + f 4) E) (hT : zT0 B n k E) (h0 : 0 < f 0) (hf : f 3 < 4) : zOC B n t p q E o (pl_spk B n f L (.inr k)) (zf_ev X (d + 4) 87 (0, [vR 1, vR o], [], zH t p q E)) := by
  have hp2 : o = 40 ∨ o = 50 := ho
  have i1 := hI.1
  unfold pI1 at i1
  obtain ⟨F1, e1, c1, v1, r1⟩ := T95 (X := X) (t := t) (p := p) (q := q) (d := d + 1) (m := f 3 + f 4) (by omega) hN hT
  cases s1 : ps_M B n L (f 3 + f 4) (.inr k) with
  | inl x =>
    rw [s1] at e1 c1
    refine zOC_l (u := x) ?_ (F := F1) ?_ c1 ?_
    · show ps_R B n 1 (f 1) (pl_at f (pv_N B n 0 (f 0 - 1) (ps_W B n 12 (ps_M B n L (f 3 + f 4) (.inr k))))) (ps_N B n 0 (f 0 - 1) (ps_W B n 12 (ps_M B n L (f 3 + f 4) (.inr k)))) = _
      rw [s1]
      rfl
    · rw [L87_0 ho, e1, L87_k1 ho, ps_b_l, if_pos (by decide)]
    · exact fun x y u1 u2 u3 u4 u5 => by rw [r1 _ _ (by omega) (by omega) (by omega)]
  | inr k1 =>
  rw [s1] at e1 c1
  have h1 : zT0 B n k1 F1 := c1
  have v1 := v1 k1 s1
  obtain ⟨F2, e2, c2, r2⟩ := T92 (X := X) (t := t) (p := p) (q := q) (d := d + 1) (w := 12) (by decide) h1
  cases s2 : ps_W B n 12 (.inr k1) with
  | inl x =>
    rw [s2] at e2 c2
    refine zOC_l (u := x) ?_ (F := F2) ?_ c2 ?_
    · show ps_R B n 1 (f 1) (pl_at f (pv_N B n 0 (f 0 - 1) (ps_W B n 12 (ps_M B n L (f 3 + f 4) (.inr k))))) (ps_N B n 0 (f 0 - 1) (ps_W B n 12 (ps_M B n L (f 3 + f 4) (.inr k)))) = _
      rw [s1, s2]
      rfl
    · rw [L87_0 ho, e1, L87_k1 ho, ps_b_r, if_neg (by decide), e2, L87_k10 ho, ps_b_l, if_pos (by decide)]
    · exact fun x y u1 u2 u3 u4 u5 => by rw [r2 _ _ (by omega) (by omega), r1 _ _ (by omega) (by omega) (by omega)]
  | inr k2 =>
  rw [s2] at e2 c2
  have h2 : zT0 B n k2 F2 := c2
  obtain ⟨F3, e3, c3, v3, r3⟩ := T94 (X := X) (t := t) (p := p) (q := q) (d := d) ho hI h0 (hC.fr ho (fun x y u => by rw [r2 _ _ (by omega) (by omega), r1 _ _ (by omega) (by omega) (by omega)]) (by rw [r2 _ _ (by omega) (by omega), r1 _ _ (by omega) (by omega) (by omega)])) h2
  cases s3 : ps_R B n 1 (f 1) (pl_at f (pv_N B n 0 (f 0 - 1) (.inr k2))) (ps_N B n 0 (f 0 - 1) (.inr k2)) with
  | inl x =>
    rw [s3] at e3 c3
    refine zOC_l (u := x) ?_ (F := F3) ?_ c3 ?_
    · show ps_R B n 1 (f 1) (pl_at f (pv_N B n 0 (f 0 - 1) (ps_W B n 12 (ps_M B n L (f 3 + f 4) (.inr k))))) (ps_N B n 0 (f 0 - 1) (ps_W B n 12 (ps_M B n L (f 3 + f 4) (.inr k)))) = _
      rw [s1, s2, s3]
    · rw [L87_0 ho, e1, L87_k1 ho, ps_b_r, if_neg (by decide), e2, L87_k10 ho, ps_b_r, if_neg (by decide), e3, L87_k18 ho, ps_b_l, if_neg (by decide)]
    · exact fun x y u1 u2 u3 u4 u5 => by rw [r3 _ _ (by omega) (by omega), r2 _ _ (by omega) (by omega), r1 _ _ (by omega) (by omega) (by omega)]
  | inr k3 =>
  rw [s3] at e3 c3
  have h3 : zT0 B n k3 F3 := c3
  have v3 := v3 k3 s3
  refine zOC_r (k := k3) ?_ (F := (zu (zu (zu F3 (o + 1) (25 + f 3) (pv_N B n 0 (f 0 - 1) (.inr k2))) (o + 1) (29 + f 3) (pv_N B n 1 (f 1) (ps_N B n 0 (f 0 - 1) (.inr k2)))) o 12 (f 3 + 1))) ?_ ⟨h3.fr (fun a b u => by rw [zu_ne (by omega), zu_ne (by omega), zu_ne (by omega)]) (by rw [zu_ne (by omega), zu_ne (by omega), zu_ne (by omega)]), ?_, ?_⟩ ?_
  · show ps_R B n 1 (f 1) (pl_at f (pv_N B n 0 (f 0 - 1) (ps_W B n 12 (ps_M B n L (f 3 + f 4) (.inr k))))) (ps_N B n 0 (f 0 - 1) (ps_W B n 12 (ps_M B n L (f 3 + f 4) (.inr k)))) = _
    rw [s1, s2, s3]
  · have w : F3 o 12 = f 3 := by rw [r3 _ _ (by omega) (by omega), r2 _ _ (by omega) (by omega), r1 _ _ (by omega) (by omega) (by omega)]; exact hC.1.2.2.2.1
    rw [L87_0 ho, e1, L87_k1 ho, ps_b_r, if_neg (by decide), e2, L87_k10 ho, ps_b_r, if_neg (by decide), e3, L87_k18 ho, ps_b_r, if_pos (by decide)]
    simp (disch := omega) only [n32_id, zg_pos, if_pos, if_neg, zu_same, zu_ne, if_true, if_false, ne_eq, not_true_eq_false, not_false_eq_true, true_or, or_true, true_and, and_true, zg_true, fa_b_f, fa_b_t, w, v3.1, v3.2]
  · show zHC (pu (pu (pu f (22 + 2 * f 3) (pv_N B n 0 (f 0 - 1) (ps_W B n 12 (ps_M B n L (f 3 + f 4) (.inr k))))) (22 + 2 * f 3 + 1) (pv_N B n 1 (f 1) (ps_N B n 0 (f 0 - 1) (ps_W B n 12 (ps_M B n L (f 3 + f 4) (.inr k)))))) 3 (f 3 + 1)) _ o
    rw [s1, s2]
    refine zHC_spk hI.1 hf hC (fun x y u1 u2 u3 => by rw [zu_ne (by omega), zu_ne (by omega), zu_ne (by omega), r3 _ _ (by omega) (by omega), r2 _ _ (by omega) (by omega), r1 _ _ (by omega) (by omega) (by omega)]) ho (by rw [zu_ne (by omega), zu_ne (by omega), zu_ne (by omega), r3 _ _ (by omega) (by omega), r2 _ _ (by omega) (by omega), r1 _ _ (by omega) (by omega) (by omega)]) ?_ ?_ ?_
    · rw [zu_same]
    · rw [zu_ne (by omega), zu_ne (by omega), zu_same]
    · rw [zu_ne (by omega), zu_same]
  · rw [(pl_spk_n (by omega)).1, (pl_spk_n (by omega)).2]
    exact v1.fr (by rw [zu_ne (by omega), zu_ne (by omega), zu_ne (by omega), r3 _ _ (by omega) (by omega), r2 _ _ (by omega) (by omega)]) (fun b => by rw [zu_ne (by omega), zu_ne (by omega), zu_ne (by omega), r3 _ _ (by omega) (by omega), r2 _ _ (by omega) (by omega)])
  · exact fun x y u1 u2 u3 u4 u5 => by rw [zu_ne (by omega), zu_ne (by omega), zu_ne (by omega), r3 _ _ (by omega) (by omega), r2 _ _ (by omega) (by omega), r1 _ _ (by omega) (by omega) (by omega)]
theorem T89 (ho : zo o) (hI : pI f) (hC : zHC f E o) (hN : zNm L (f 3 + f 4) E) (hT : zT0 B n k E) (h0 : 0 < f 0) (hf : f 5 < 3) : zOC B n t p q E o (pl_lmp B n f L (.inr k)) (zf_ev X (d + 4) 89 (0, [vR 1, vR o], [], zH t p q E)) := by
  have hp2 : o = 40 ∨ o = 50 := ho
  have i1 := hI.1
  unfold pI1 at i1
  obtain ⟨F1, e1, c1, v1, r1⟩ := T94 (X := X) (t := t) (p := p) (q := q) (d := d) ho hI h0 hC hT
  cases s1 : ps_R B n 1 (f 1) (pl_at f (pv_N B n 0 (f 0 - 1) (.inr k))) (ps_N B n 0 (f 0 - 1) (.inr k)) with
  | inl x =>
    rw [s1] at e1 c1
    refine zOC_l (u := x) ?_ (F := F1) ?_ c1 ?_
    · show ps_R B n 1 (f 1) (pl_at f (pv_N B n 0 (f 0 - 1) (.inr k))) (ps_N B n 0 (f 0 - 1) (.inr k)) = _
      rw [s1]
    · rw [L89_0 ho, e1, L89_k2 ho, ps_b_l, if_neg (by decide)]
    · exact fun x y u1 u2 u3 u4 u5 => by rw [r1 _ _ (by omega) (by omega)]
  | inr k1 =>
  rw [s1] at e1 c1
  have h1 : zT0 B n k1 F1 := c1
  have v1 := v1 k1 s1
  refine zOC_r (k := k1) ?_ (F := (zu (zu (zu F1 (o + 4) (f 5) (pv_N B n 0 (f 0 - 1) (.inr k))) (o + 5) (f 5) (pv_N B n 1 (f 1) (ps_N B n 0 (f 0 - 1) (.inr k)))) o 14 (f 5 + 1))) ?_ ⟨h1.fr (fun a b u => by rw [zu_ne (by omega), zu_ne (by omega), zu_ne (by omega)]) (by rw [zu_ne (by omega), zu_ne (by omega), zu_ne (by omega)]), ?_, ?_⟩ ?_
  · show ps_R B n 1 (f 1) (pl_at f (pv_N B n 0 (f 0 - 1) (.inr k))) (ps_N B n 0 (f 0 - 1) (.inr k)) = _
    rw [s1]
  · have w : F1 o 14 = f 5 := by rw [r1 _ _ (by omega) (by omega)]; exact hC.1.2.2.2.2.2.1
    rw [L89_0 ho, e1, L89_k2 ho, ps_b_r, if_pos (by decide)]
    simp (disch := omega) only [n32_id, zg_pos, if_pos, if_neg, zu_same, zu_ne, if_true, if_false, ne_eq, not_true_eq_false, not_false_eq_true, true_or, or_true, true_and, and_true, zg_true, fa_b_f, fa_b_t, w, v1.1, v1.2]
  · refine zHC_lmp hI.1 hf hC (fun x y u1 u2 u3 u4 => by rw [zu_ne (by omega), zu_ne (by omega), zu_ne (by omega), r1 _ _ (by omega) (by omega)]) ho (by rw [zu_ne (by omega), zu_ne (by omega), zu_ne (by omega), r1 _ _ (by omega) (by omega)]) ?_ ?_ ?_
    · rw [zu_same]
    · rw [zu_ne (by omega), zu_ne (by omega), zu_same]
    · rw [zu_ne (by omega), zu_same]
  · rw [(pl_lmp_n (by omega)).1, (pl_lmp_n (by omega)).2]
    exact hN.fr (by rw [zu_ne (by omega), zu_ne (by omega), zu_ne (by omega), r1 _ _ (by omega) (by omega)]) (fun b => by rw [zu_ne (by omega), zu_ne (by omega), zu_ne (by omega), r1 _ _ (by omega) (by omega)])
  · exact fun x y u1 u2 u3 u4 u5 => by rw [zu_ne (by omega), zu_ne (by omega), zu_ne (by omega), r1 _ _ (by omega) (by omega)]
end CN

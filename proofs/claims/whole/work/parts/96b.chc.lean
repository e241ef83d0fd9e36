/-! the draft hall behind each line -/
section CH2
variable {E F : Nat → Int → Int} {o : Nat} {f : Int → Int}
theorem zHC_hall {c r w : Int} (h : zHC f E o) (hf : ∀ x y, (o ≤ x ∧ x < o + 9) ∨ x = 5 → (x ≠ o ∨ (y ≠ 9 ∧ y ≠ 10 ∧ y ≠ 11)) → F x y = E x y) (h4 : F 1 4 = E 1 4) (e9 : F o 9 = c) (e10 : F o 10 = r) (e11 : F o 11 = w) : zHC (pu (pu (pu f 0 c) 1 r) 2 w) F o := by
  obtain ⟨⟨c1, c2, c3, c4, c5, c6, c7⟩, c8, s1, s2, s3, s4, s5, s6, s7⟩ := h
  refine ⟨⟨?_, ?_, ?_, ?_, ?_, ?_, ?_⟩, ?_, fun r a b => ?_, fun s a b => ?_, fun m a b => ?_, fun c a b => ?_, fun m a b => ?_, fun m a b => ?_, fun m a b => ?_⟩
  · simp (disch := omega) only [pu_n, pu_s]; exact e9
  · simp (disch := omega) only [pu_n, pu_s]; exact e10
  · simp (disch := omega) only [pu_n, pu_s]; exact e11
  · simp (disch := omega) only [pu_n, pu_s]; rw [hf _ _ (by omega) (by omega)]; exact c4
  · simp (disch := omega) only [pu_n, pu_s]; rw [hf _ _ (by omega) (by omega)]; exact c5
  · simp (disch := omega) only [pu_n, pu_s]; rw [hf _ _ (by omega) (by omega)]; exact c6
  · simp (disch := omega) only [pu_n, pu_s]; rw [hf _ _ (by omega) (by omega)]; exact c7
  · simp (disch := omega) only [pu_n, pu_s]; rw [h4]; exact c8
  · simp (disch := omega) only [pu_n, pu_s]; rw [hf _ _ (by omega) (by omega), hf _ _ (by omega) (by omega)]; exact s1 r a b
  · simp (disch := omega) only [pu_n, pu_s]; rw [hf _ _ (by omega) (by omega), hf _ _ (by omega) (by omega)]; exact s2 s a b
  · simp (disch := omega) only [pu_n, pu_s]; rw [hf _ _ (by omega) (by omega), hf _ _ (by omega) (by omega), hf _ _ (by omega) (by omega)]; exact s3 m a b
  · rw [hf _ _ (by omega) (by omega)]; exact s4 c a b
  · simp (disch := omega) only [pu_n, pu_s] at b; simp (disch := omega) only [pu_n, pu_s]; rw [hf _ _ (by omega) (by omega), hf _ _ (by omega) (by omega)]; exact s5 m a b
  · simp (disch := omega) only [pu_n, pu_s] at b; simp (disch := omega) only [pu_n, pu_s]; rw [hf _ _ (by omega) (by omega), hf _ _ (by omega) (by omega)]; exact s6 m a b
  · simp (disch := omega) only [pu_n, pu_s] at b; simp (disch := omega) only [pu_n, pu_s]; rw [hf _ _ (by omega) (by omega), hf _ _ (by omega) (by omega), hf _ _ (by omega) (by omega)]; exact s7 m a b
theorem zHC_air {row v : Int} (hr : 1 ≤ row ∧ row ≤ 6) (h : zHC f E o) (hf : ∀ x y, (o ≤ x ∧ x < o + 9) ∨ x = 5 → (x ≠ o + 1 ∨ y ≠ 18 + row) → (x ≠ 5 ∨ y ≠ row) → F x y = E x y) (ho : zo o) (h4 : F 1 4 = E 1 4) (e1 : F (o + 1) (18 + row) = v) (e2 : F 5 row = 1) : zHC (pu (pu f (8 + row) v) (15 + row) 1) F o := by
  have hp2 : o = 40 ∨ o = 50 := ho
  obtain ⟨⟨c1, c2, c3, c4, c5, c6, c7⟩, c8, s1, s2, s3, s4, s5, s6, s7⟩ := h
  refine ⟨⟨?_, ?_, ?_, ?_, ?_, ?_, ?_⟩, ?_, fun r a b => ?_, fun s a b => ?_, fun m a b => ?_, fun c a b => ?_, fun m a b => ?_, fun m a b => ?_, fun m a b => ?_⟩
  · simp (disch := omega) only [pu_n, pu_s]; rw [hf _ _ (by omega) (by omega) (by omega)]; exact c1
  · simp (disch := omega) only [pu_n, pu_s]; rw [hf _ _ (by omega) (by omega) (by omega)]; exact c2
  · simp (disch := omega) only [pu_n, pu_s]; rw [hf _ _ (by omega) (by omega) (by omega)]; exact c3
  · simp (disch := omega) only [pu_n, pu_s]; rw [hf _ _ (by omega) (by omega) (by omega)]; exact c4
  · simp (disch := omega) only [pu_n, pu_s]; rw [hf _ _ (by omega) (by omega) (by omega)]; exact c5
  · simp (disch := omega) only [pu_n, pu_s]; rw [hf _ _ (by omega) (by omega) (by omega)]; exact c6
  · simp (disch := omega) only [pu_n, pu_s]; rw [hf _ _ (by omega) (by omega) (by omega)]; exact c7
  · simp (disch := omega) only [pu_n, pu_s]; rw [h4]; exact c8
  · by_cases e : r = row
    · rw [e]
      simp (disch := omega) only [pu_n, pu_s]
      exact ⟨e1, e2⟩
    · simp (disch := omega) only [pu_n, pu_s]
      rw [hf _ _ (by omega) (by omega) (by omega), hf _ _ (by omega) (by omega) (by omega)]
      exact s1 r a b
  · simp (disch := omega) only [pu_n, pu_s]; rw [hf _ _ (by omega) (by omega) (by omega), hf _ _ (by omega) (by omega) (by omega)]; exact s2 s a b
  · simp (disch := omega) only [pu_n, pu_s]; rw [hf _ _ (by omega) (by omega) (by omega), hf _ _ (by omega) (by omega) (by omega), hf _ _ (by omega) (by omega) (by omega)]; exact s3 m a b
  · rw [hf _ _ (by omega) (by omega) (by omega)]; exact s4 c a b
  · simp (disch := omega) only [pu_n, pu_s] at b; simp (disch := omega) only [pu_n, pu_s]; rw [hf _ _ (by omega) (by omega) (by omega), hf _ _ (by omega) (by omega) (by omega)]; exact s5 m a b
  · simp (disch := omega) only [pu_n, pu_s] at b; simp (disch := omega) only [pu_n, pu_s]; rw [hf _ _ (by omega) (by omega) (by omega), hf _ _ (by omega) (by omega) (by omega)]; exact s6 m a b
  · simp (disch := omega) only [pu_n, pu_s] at b; simp (disch := omega) only [pu_n, pu_s]; rw [hf _ _ (by omega) (by omega) (by omega), hf _ _ (by omega) (by omega) (by omega), hf _ _ (by omega) (by omega) (by omega)]; exact s7 m a b
theorem zHC_fogs {z : Int} (h : zHC f E o) (ho : zo o) : zHC (pu f 7 z) (zu E 1 4 z) o := by
  have hp2 : o = 40 ∨ o = 50 := ho
  obtain ⟨⟨c1, c2, c3, c4, c5, c6, c7⟩, c8, s1, s2, s3, s4, s5, s6, s7⟩ := h
  refine ⟨⟨?_, ?_, ?_, ?_, ?_, ?_, ?_⟩, ?_, fun r a b => ?_, fun s a b => ?_, fun m a b => ?_, fun c a b => ?_, fun m a b => ?_, fun m a b => ?_, fun m a b => ?_⟩
  · simp (disch := omega) only [pu_n, pu_s]; rw [zu_ne (by omega)]; exact c1
  · simp (disch := omega) only [pu_n, pu_s]; rw [zu_ne (by omega)]; exact c2
  · simp (disch := omega) only [pu_n, pu_s]; rw [zu_ne (by omega)]; exact c3
  · simp (disch := omega) only [pu_n, pu_s]; rw [zu_ne (by omega)]; exact c4
  · simp (disch := omega) only [pu_n, pu_s]; rw [zu_ne (by omega)]; exact c5
  · simp (disch := omega) only [pu_n, pu_s]; rw [zu_ne (by omega)]; exact c6
  · simp (disch := omega) only [pu_n, pu_s]; rw [zu_ne (by omega)]; exact c7
  · simp (disch := omega) only [pu_n, pu_s]; rw [zu_same]
  · simp (disch := omega) only [pu_n, pu_s]; rw [zu_ne (by omega), zu_ne (by omega)]; exact s1 r a b
  · simp (disch := omega) only [pu_n, pu_s]; rw [zu_ne (by omega), zu_ne (by omega)]; exact s2 s a b
  · simp (disch := omega) only [pu_n, pu_s]; rw [zu_ne (by omega), zu_ne (by omega), zu_ne (by omega)]; exact s3 m a b
  · rw [zu_ne (by omega)]; exact s4 c a b
  · simp (disch := omega) only [pu_n, pu_s] at b; simp (disch := omega) only [pu_n, pu_s]; rw [zu_ne (by omega), zu_ne (by omega)]; exact s5 m a b
  · simp (disch := omega) only [pu_n, pu_s] at b; simp (disch := omega) only [pu_n, pu_s]; rw [zu_ne (by omega), zu_ne (by omega)]; exact s6 m a b
  · simp (disch := omega) only [pu_n, pu_s] at b; simp (disch := omega) only [pu_n, pu_s]; rw [zu_ne (by omega), zu_ne (by omega), zu_ne (by omega)]; exact s7 m a b
theorem zHC_spk {c r : Int} (hI : pI1 f) (hk : f 3 < 4) (h : zHC f E o) (hf : ∀ x y, (o ≤ x ∧ x < o + 9) ∨ x = 5 → (x ≠ o ∨ y ≠ 12) → (x ≠ o + 1 ∨ (y ≠ 25 + f 3 ∧ y ≠ 29 + f 3)) → F x y = E x y) (ho : zo o) (h4 : F 1 4 = E 1 4) (e0 : F o 12 = f 3 + 1) (e1 : F (o + 1) (25 + f 3) = c) (e2 : F (o + 1) (29 + f 3) = r) : zHC (pu (pu (pu f (22 + 2 * f 3) c) (22 + 2 * f 3 + 1) r) 3 (f 3 + 1)) F o := by
  have hp2 : o = 40 ∨ o = 50 := ho
  unfold pI1 at hI
  obtain ⟨⟨c1, c2, c3, c4, c5, c6, c7⟩, c8, s1, s2, s3, s4, s5, s6, s7⟩ := h
  refine ⟨⟨?_, ?_, ?_, ?_, ?_, ?_, ?_⟩, ?_, fun r a b => ?_, fun s a b => ?_, fun m a b => ?_, fun c a b => ?_, fun m a b => ?_, fun m a b => ?_, fun m a b => ?_⟩
  · simp (disch := omega) only [pu_n, pu_s]; rw [hf _ _ (by omega) (by omega) (by omega)]; exact c1
  · simp (disch := omega) only [pu_n, pu_s]; rw [hf _ _ (by omega) (by omega) (by omega)]; exact c2
  · simp (disch := omega) only [pu_n, pu_s]; rw [hf _ _ (by omega) (by omega) (by omega)]; exact c3
  · simp (disch := omega) only [pu_n, pu_s]; exact e0
  · simp (disch := omega) only [pu_n, pu_s]; rw [hf _ _ (by omega) (by omega) (by omega)]; exact c5
  · simp (disch := omega) only [pu_n, pu_s]; rw [hf _ _ (by omega) (by omega) (by omega)]; exact c6
  · simp (disch := omega) only [pu_n, pu_s]; rw [hf _ _ (by omega) (by omega) (by omega)]; exact c7
  · simp (disch := omega) only [pu_n, pu_s]; rw [h4]; exact c8
  · simp (disch := omega) only [pu_n, pu_s]; rw [hf _ _ (by omega) (by omega) (by omega), hf _ _ (by omega) (by omega) (by omega)]; exact s1 r a b
  · by_cases e : s = f 3
    · rw [e]
      simp (disch := omega) only [pu_n, pu_s]
      exact ⟨e1, e2⟩
    · simp (disch := omega) only [pu_n, pu_s]
      rw [hf _ _ (by omega) (by omega) (by omega), hf _ _ (by omega) (by omega) (by omega)]
      exact s2 s a b
  · simp (disch := omega) only [pu_n, pu_s]; rw [hf _ _ (by omega) (by omega) (by omega), hf _ _ (by omega) (by omega) (by omega), hf _ _ (by omega) (by omega) (by omega)]; exact s3 m a b
  · rw [hf _ _ (by omega) (by omega) (by omega)]; exact s4 c a b
  · simp (disch := omega) only [pu_n, pu_s] at b; simp (disch := omega) only [pu_n, pu_s]; rw [hf _ _ (by omega) (by omega) (by omega), hf _ _ (by omega) (by omega) (by omega)]; exact s5 m a b
  · simp (disch := omega) only [pu_n, pu_s] at b; simp (disch := omega) only [pu_n, pu_s]; rw [hf _ _ (by omega) (by omega) (by omega), hf _ _ (by omega) (by omega) (by omega)]; exact s6 m a b
  · simp (disch := omega) only [pu_n, pu_s] at b; simp (disch := omega) only [pu_n, pu_s]; rw [hf _ _ (by omega) (by omega) (by omega), hf _ _ (by omega) (by omega) (by omega), hf _ _ (by omega) (by omega) (by omega)]; exact s7 m a b
theorem zHC_lmp {c r : Int} (hI : pI1 f) (hk : f 5 < 3) (h : zHC f E o) (hf : ∀ x y, (o ≤ x ∧ x < o + 9) ∨ x = 5 → (x ≠ o ∨ y ≠ 14) → (x ≠ o + 4 ∨ y ≠ f 5) → (x ≠ o + 5 ∨ y ≠ f 5) → F x y = E x y) (ho : zo o) (h4 : F 1 4 = E 1 4) (e0 : F o 14 = f 5 + 1) (e1 : F (o + 4) (f 5) = c) (e2 : F (o + 5) (f 5) = r) : zHC (pu (pu (pu f (60 + 2 * f 5) c) (60 + 2 * f 5 + 1) r) 5 (f 5 + 1)) F o := by
  have hp2 : o = 40 ∨ o = 50 := ho
  unfold pI1 at hI
  obtain ⟨⟨c1, c2, c3, c4, c5, c6, c7⟩, c8, s1, s2, s3, s4, s5, s6, s7⟩ := h
  refine ⟨⟨?_, ?_, ?_, ?_, ?_, ?_, ?_⟩, ?_, fun r a b => ?_, fun s a b => ?_, fun m a b => ?_, fun c a b => ?_, fun m a b => ?_, fun m a b => ?_, fun m a b => ?_⟩
  · simp (disch := omega) only [pu_n, pu_s]; rw [hf _ _ (by omega) (by omega) (by omega) (by omega)]; exact c1
  · simp (disch := omega) only [pu_n, pu_s]; rw [hf _ _ (by omega) (by omega) (by omega) (by omega)]; exact c2
  · simp (disch := omega) only [pu_n, pu_s]; rw [hf _ _ (by omega) (by omega) (by omega) (by omega)]; exact c3
  · simp (disch := omega) only [pu_n, pu_s]; rw [hf _ _ (by omega) (by omega) (by omega) (by omega)]; exact c4
  · simp (disch := omega) only [pu_n, pu_s]; rw [hf _ _ (by omega) (by omega) (by omega) (by omega)]; exact c5
  · simp (disch := omega) only [pu_n, pu_s]; exact e0
  · simp (disch := omega) only [pu_n, pu_s]; rw [hf _ _ (by omega) (by omega) (by omega) (by omega)]; exact c7
  · simp (disch := omega) only [pu_n, pu_s]; rw [h4]; exact c8
  · simp (disch := omega) only [pu_n, pu_s]; rw [hf _ _ (by omega) (by omega) (by omega) (by omega), hf _ _ (by omega) (by omega) (by omega) (by omega)]; exact s1 r a b
  · simp (disch := omega) only [pu_n, pu_s]; rw [hf _ _ (by omega) (by omega) (by omega) (by omega), hf _ _ (by omega) (by omega) (by omega) (by omega)]; exact s2 s a b
  · simp (disch := omega) only [pu_n, pu_s]; rw [hf _ _ (by omega) (by omega) (by omega) (by omega), hf _ _ (by omega) (by omega) (by omega) (by omega), hf _ _ (by omega) (by omega) (by omega) (by omega)]; exact s3 m a b
  · rw [hf _ _ (by omega) (by omega) (by omega) (by omega)]; exact s4 c a b
  · simp (disch := omega) only [pu_n, pu_s] at b; simp (disch := omega) only [pu_n, pu_s]; rw [hf _ _ (by omega) (by omega) (by omega) (by omega), hf _ _ (by omega) (by omega) (by omega) (by omega)]; exact s5 m a b
  · simp (disch := omega) only [pu_n, pu_s] at b
    by_cases e : m = f 5
    · rw [e]
      simp (disch := omega) only [pu_n, pu_s]
      exact ⟨e1, e2⟩
    · simp (disch := omega) only [pu_n, pu_s]
      rw [hf _ _ (by omega) (by omega) (by omega) (by omega), hf _ _ (by omega) (by omega) (by omega) (by omega)]
      exact s6 m a (by omega)
  · simp (disch := omega) only [pu_n, pu_s] at b; simp (disch := omega) only [pu_n, pu_s]; rw [hf _ _ (by omega) (by omega) (by omega) (by omega), hf _ _ (by omega) (by omega) (by omega) (by omega), hf _ _ (by omega) (by omega) (by omega) (by omega)]; exact s7 m a b
theorem zHC_flt {v1 v2 v3 : Int} (hI : pI1 f) (hk : f 6 < 5) (h : zHC f E o) (hf : ∀ x y, (o ≤ x ∧ x < o + 9) ∨ x = 5 → (x ≠ o ∨ y ≠ 15) → ((x ≠ o + 6 ∧ x ≠ o + 7 ∧ x ≠ o + 8) ∨ y ≠ f 6) → F x y = E x y) (ho : zo o) (h4 : F 1 4 = E 1 4) (e0 : F o 15 = f 6 + 1) (e1 : F (o + 6) (f 6) = v1) (e2 : F (o + 7) (f 6) = v2) (e3 : F (o + 8) (f 6) = v3) : zHC (pu (pu (pu (pu f (66 + 3 * f 6) v1) (66 + 3 * f 6 + 1) v2) (66 + 3 * f 6 + 2) v3) 6 (f 6 + 1)) F o := by
  have hp2 : o = 40 ∨ o = 50 := ho
  unfold pI1 at hI
  obtain ⟨⟨c1, c2, c3, c4, c5, c6, c7⟩, c8, s1, s2, s3, s4, s5, s6, s7⟩ := h
  refine ⟨⟨?_, ?_, ?_, ?_, ?_, ?_, ?_⟩, ?_, fun r a b => ?_, fun s a b => ?_, fun m a b => ?_, fun c a b => ?_, fun m a b => ?_, fun m a b => ?_, fun m a b => ?_⟩
  · simp (disch := omega) only [pu_n, pu_s]; rw [hf _ _ (by omega) (by omega) (by omega)]; exact c1
  · simp (disch := omega) only [pu_n, pu_s]; rw [hf _ _ (by omega) (by omega) (by omega)]; exact c2
  · simp (disch := omega) only [pu_n, pu_s]; rw [hf _ _ (by omega) (by omega) (by omega)]; exact c3
  · simp (disch := omega) only [pu_n, pu_s]; rw [hf _ _ (by omega) (by omega) (by omega)]; exact c4
  · simp (disch := omega) only [pu_n, pu_s]; rw [hf _ _ (by omega) (by omega) (by omega)]; exact c5
  · simp (disch := omega) only [pu_n, pu_s]; rw [hf _ _ (by omega) (by omega) (by omega)]; exact c6
  · simp (disch := omega) only [pu_n, pu_s]; exact e0
  · simp (disch := omega) only [pu_n, pu_s]; rw [h4]; exact c8
  · simp (disch := omega) only [pu_n, pu_s]; rw [hf _ _ (by omega) (by omega) (by omega), hf _ _ (by omega) (by omega) (by omega)]; exact s1 r a b
  · simp (disch := omega) only [pu_n, pu_s]; rw [hf _ _ (by omega) (by omega) (by omega), hf _ _ (by omega) (by omega) (by omega)]; exact s2 s a b
  · simp (disch := omega) only [pu_n, pu_s]; rw [hf _ _ (by omega) (by omega) (by omega), hf _ _ (by omega) (by omega) (by omega), hf _ _ (by omega) (by omega) (by omega)]; exact s3 m a b
  · rw [hf _ _ (by omega) (by omega) (by omega)]; exact s4 c a b
  · simp (disch := omega) only [pu_n, pu_s] at b; simp (disch := omega) only [pu_n, pu_s]; rw [hf _ _ (by omega) (by omega) (by omega), hf _ _ (by omega) (by omega) (by omega)]; exact s5 m a b
  · simp (disch := omega) only [pu_n, pu_s] at b; simp (disch := omega) only [pu_n, pu_s]; rw [hf _ _ (by omega) (by omega) (by omega), hf _ _ (by omega) (by omega) (by omega)]; exact s6 m a b
  · simp (disch := omega) only [pu_n, pu_s] at b
    by_cases e : m = f 6
    · rw [e]
      simp (disch := omega) only [pu_n, pu_s]
      exact ⟨e1, e2, e3⟩
    · simp (disch := omega) only [pu_n, pu_s]
      rw [hf _ _ (by omega) (by omega) (by omega), hf _ _ (by omega) (by omega) (by omega), hf _ _ (by omega) (by omega) (by omega)]
      exact s7 m a (by omega)
theorem zHC_mem {v0 v1 v2 v3 v4 : Int} (hI : pI1 f) (hk : f 4 < 6) (h : zHC f E o) (hf : ∀ x y, (o ≤ x ∧ x < o + 9) ∨ x = 5 → (x ≠ o ∨ y ≠ 13) → (x ≠ o + 1 ∨ (y ≠ f 4 ∧ y ≠ 6 + f 4 ∧ y ≠ 12 + f 4)) → ((x ≠ o + 2 ∧ x ≠ o + 3) ∨ y ≠ f 4) → F x y = E x y) (ho : zo o) (h4 : F 1 4 = E 1 4) (e0 : F o 13 = f 4 + 1) (g0 : F (o + 1) (6 + f 4) = v0) (g1 : F (o + 1) (f 4) = v1) (g2 : F (o + 1) (12 + f 4) = v2) (g3 : F (o + 2) (f 4) = v3) (g4 : F (o + 3) (f 4) = v4) : zHC (pu (pu (pu (pu (pu (pu f (30 + 5 * f 4) v0) (30 + 5 * f 4 + 1) v1) (30 + 5 * f 4 + 2) v2) (30 + 5 * f 4 + 3) v3) (30 + 5 * f 4 + 4) v4) 4 (f 4 + 1)) F o := by
  have hp2 : o = 40 ∨ o = 50 := ho
  unfold pI1 at hI
  obtain ⟨⟨c1, c2, c3, c4, c5, c6, c7⟩, c8, s1, s2, s3, s4, s5, s6, s7⟩ := h
  refine ⟨⟨?_, ?_, ?_, ?_, ?_, ?_, ?_⟩, ?_, fun r a b => ?_, fun s a b => ?_, fun m a b => ?_, fun c a b => ?_, fun m a b => ?_, fun m a b => ?_, fun m a b => ?_⟩
  · simp (disch := omega) only [pu_n, pu_s]; rw [hf _ _ (by omega) (by omega) (by omega) (by omega)]; exact c1
  · simp (disch := omega) only [pu_n, pu_s]; rw [hf _ _ (by omega) (by omega) (by omega) (by omega)]; exact c2
  · simp (disch := omega) only [pu_n, pu_s]; rw [hf _ _ (by omega) (by omega) (by omega) (by omega)]; exact c3
  · simp (disch := omega) only [pu_n, pu_s]; rw [hf _ _ (by omega) (by omega) (by omega) (by omega)]; exact c4
  · simp (disch := omega) only [pu_n, pu_s]; exact e0
  · simp (disch := omega) only [pu_n, pu_s]; rw [hf _ _ (by omega) (by omega) (by omega) (by omega)]; exact c6
  · simp (disch := omega) only [pu_n, pu_s]; rw [hf _ _ (by omega) (by omega) (by omega) (by omega)]; exact c7
  · simp (disch := omega) only [pu_n, pu_s]; rw [h4]; exact c8
  · simp (disch := omega) only [pu_n, pu_s]; rw [hf _ _ (by omega) (by omega) (by omega) (by omega), hf _ _ (by omega) (by omega) (by omega) (by omega)]; exact s1 r a b
  · simp (disch := omega) only [pu_n, pu_s]; rw [hf _ _ (by omega) (by omega) (by omega) (by omega), hf _ _ (by omega) (by omega) (by omega) (by omega)]; exact s2 s a b
  · by_cases e : m = f 4
    · rw [e]
      simp (disch := omega) only [pu_n, pu_s]
      exact ⟨g1, g0, g2⟩
    · simp (disch := omega) only [pu_n, pu_s]
      rw [hf _ _ (by omega) (by omega) (by omega) (by omega), hf _ _ (by omega) (by omega) (by omega) (by omega), hf _ _ (by omega) (by omega) (by omega) (by omega)]
      exact s3 m a b
  · rw [hf _ _ (by omega) (by omega) (by omega) (by omega)]; exact s4 c a b
  · simp (disch := omega) only [pu_n, pu_s] at b
    by_cases e : m = f 4
    · rw [e]
      simp (disch := omega) only [pu_n, pu_s]
      exact ⟨g3, g4⟩
    · simp (disch := omega) only [pu_n, pu_s]
      rw [hf _ _ (by omega) (by omega) (by omega) (by omega), hf _ _ (by omega) (by omega) (by omega) (by omega)]
      exact s5 m a (by omega)
  · simp (disch := omega) only [pu_n, pu_s] at b; simp (disch := omega) only [pu_n, pu_s]; rw [hf _ _ (by omega) (by omega) (by omega) (by omega), hf _ _ (by omega) (by omega) (by omega) (by omega)]; exact s6 m a b
  · simp (disch := omega) only [pu_n, pu_s] at b; simp (disch := omega) only [pu_n, pu_s]; rw [hf _ _ (by omega) (by omega) (by omega) (by omega), hf _ _ (by omega) (by omega) (by omega) (by omega), hf _ _ (by omega) (by omega) (by omega) (by omega)]; exact s7 m a b
end CH2

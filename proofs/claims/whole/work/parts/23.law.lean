/-! the law's start -/
def zw_rd : List Nat := [110, 116, 118, 120, 122, 124, 126, 143, 151, 155, 162, 164, 173, 222, 224, 226, 228, 180, 182, 184, 188, 204]
def zw_md : List Nat := [132, 134, 136, 138, 140, 142, 144, 211, 217, 219, 224, 226, 235, 239, 241, 243, 245, 247, 249, 251, 253, 255]
def zw_tm (k : Nat) : Term := .string "PaperVote$Reader" (zw_rd.getD k 0)
def zw_um (k : Nat) : Term := .string "PaperVoteModel" (zw_md.getD k 0)
def zw_V (k : Nat) : Term := .field (zw_tm k) "java/lang/String" "value" "[B"
def zw_fl : List Cond := flatC (Jvm.Cond.and given_1 narrow_1)
theorem zw_m1 : ∀ k, k < 22 → Cond.exactly (zw_tm k) "java/lang/String" ∈ zw_fl := by decide +kernel
theorem zw_m2 : ∀ k, k < 22 → Cond.eq (.field (zw_tm k) "java/lang/String" "coder" "B") (.int 0) ∈ zw_fl := by decide +kernel
theorem zw_m3 : ∀ k, k < 22 → Cond.arrayOf (zw_V k) .byte ∈ zw_fl := by decide +kernel
theorem zw_m4 : ∀ k, k < 22 → Cond.eq (.length (zw_V k)) (.int (Int32.ofNat (zm_chars.getD k []).length)) ∈ zw_fl := by decide +kernel
theorem zw_m5 : ∀ k, k < 22 → ∀ j, j < (zm_chars.getD k []).length → Cond.eq (.elem (zw_V k) (.int (Int32.ofNat j))) (.int (Int32.ofInt ((zm_chars.getD k []).getD j 0))) ∈ zw_fl := by decide +kernel
theorem zw_m6 : ∀ k, k < 22 → Cond.eq (zw_tm k) (zw_um k) ∈ zw_fl := by decide +kernel
theorem zw_m7 : ∀ k, k < 22 → (zm_chars.getD k []).length < 2 ^ 31 := by decide +kernel
theorem zw_c : Cond.eq (.static "java/lang/String" "COMPACT_STRINGS" "Z") (.int 1) ∈ zw_fl := by decide +kernel
theorem zw_f : Cond.isRef (.static "jdk/internal/util/Preconditions" "SIOOBE_FORMATTER" "Ljava/util/function/BiFunction;") ∈ zw_fl := by decide +kernel
theorem zw_u : Cond.isRef (.static "java/lang/Throwable" "UNASSIGNED_STACK" "[Ljava/lang/StackTraceElement;") ∈ zw_fl := by decide +kernel
theorem zw_s : Cond.isRef (.static "java/lang/Throwable" "SUPPRESSED_SENTINEL" "Ljava/util/List;") ∈ zw_fl := by decide +kernel
theorem zw_r7 : ∀ e ∈ zm_sk_7, e.2 < 22 ∧ Cond.stringRef "PaperVote$Reader" e.1 (zm_strs.getD e.2 "") ∈ lw_tbl ∧ zw_rd.getD e.2 0 = e.1 := List.forall_mem_cons.mpr ⟨⟨by decide, (zm_c3 49 rfl), rfl⟩, List.forall_mem_cons.mpr ⟨⟨by decide, (zm_c3 102 rfl), rfl⟩, List.forall_mem_cons.mpr ⟨⟨by decide, (zm_c3 103 rfl), rfl⟩, List.forall_mem_cons.mpr ⟨⟨by decide, (zm_c3 104 rfl), rfl⟩, List.forall_mem_cons.mpr ⟨⟨by decide, (zm_c3 105 rfl), rfl⟩, List.forall_mem_cons.mpr ⟨⟨by decide, (zm_c3 106 rfl), rfl⟩, List.forall_mem_cons.mpr ⟨⟨by decide, (zm_c3 107 rfl), rfl⟩, List.forall_mem_cons.mpr ⟨⟨by decide, (zm_c3 125 rfl), rfl⟩, List.forall_mem_cons.mpr ⟨⟨by decide, (zm_c3 134 rfl), rfl⟩, List.forall_mem_cons.mpr ⟨⟨by decide, (zm_c3 135 rfl), rfl⟩, List.forall_mem_cons.mpr ⟨⟨by decide, (zm_c3 144 rfl), rfl⟩, List.forall_mem_cons.mpr ⟨⟨by decide, (zm_c3 145 rfl), rfl⟩, List.forall_mem_cons.mpr ⟨⟨by decide, (zm_c3 158 rfl), rfl⟩, List.forall_mem_cons.mpr ⟨⟨by decide, (zm_c3 179 rfl), rfl⟩, List.forall_mem_cons.mpr ⟨⟨by decide, (zm_c3 180 rfl), rfl⟩, List.forall_mem_cons.mpr ⟨⟨by decide, (zm_c3 181 rfl), rfl⟩, List.forall_mem_cons.mpr ⟨⟨by decide, (zm_c3 182 rfl), rfl⟩, List.forall_mem_cons.mpr ⟨⟨by decide, (zm_c3 183 rfl), rfl⟩, List.forall_mem_cons.mpr ⟨⟨by decide, (zm_c3 184 rfl), rfl⟩, List.forall_mem_cons.mpr ⟨⟨by decide, (zm_c3 185 rfl), rfl⟩, List.forall_mem_cons.mpr ⟨⟨by decide, (zm_c3 186 rfl), rfl⟩, List.forall_mem_cons.mpr ⟨⟨by decide, (zm_c3 195 rfl), rfl⟩, List.forall_mem_nil _⟩⟩⟩⟩⟩⟩⟩⟩⟩⟩⟩⟩⟩⟩⟩⟩⟩⟩⟩⟩⟩⟩
theorem zw_r11 : ∀ e ∈ zm_sk_11, e.2 < 22 ∧ Cond.stringRef "PaperVoteModel" e.1 (zm_strs.getD e.2 "") ∈ lw_tbl ∧ zw_md.getD e.2 0 = e.1 := List.forall_mem_cons.mpr ⟨⟨by decide, (zm_c7 42 rfl), rfl⟩, List.forall_mem_cons.mpr ⟨⟨by decide, (zm_c7 57 rfl), rfl⟩, List.forall_mem_cons.mpr ⟨⟨by decide, (zm_c7 78 rfl), rfl⟩, List.forall_mem_cons.mpr ⟨⟨by decide, (zm_c7 79 rfl), rfl⟩, List.forall_mem_cons.mpr ⟨⟨by decide, (zm_c7 80 rfl), rfl⟩, List.forall_mem_cons.mpr ⟨⟨by decide, (zm_c7 93 rfl), rfl⟩, List.forall_mem_cons.mpr ⟨⟨by decide, (zm_c7 94 rfl), rfl⟩, List.forall_mem_cons.mpr ⟨⟨by decide, (zm_c7 95 rfl), rfl⟩, List.forall_mem_cons.mpr ⟨⟨by decide, (zm_c7 100 rfl), rfl⟩, List.forall_mem_cons.mpr ⟨⟨by decide, (zm_c7 113 rfl), rfl⟩, List.forall_mem_cons.mpr ⟨⟨by decide, (zm_c7 114 rfl), rfl⟩, List.forall_mem_cons.mpr ⟨⟨by decide, (zm_c7 115 rfl), rfl⟩, List.forall_mem_cons.mpr ⟨⟨by decide, (zm_c7 116 rfl), rfl⟩, List.forall_mem_cons.mpr ⟨⟨by decide, (zm_c7 129 rfl), rfl⟩, List.forall_mem_cons.mpr ⟨⟨by decide, (zm_c7 130 rfl), rfl⟩, List.forall_mem_cons.mpr ⟨⟨by decide, (zm_c7 131 rfl), rfl⟩, List.forall_mem_cons.mpr ⟨⟨by decide, (zm_c7 132 rfl), rfl⟩, List.forall_mem_cons.mpr ⟨⟨by decide, (zm_c7 133 rfl), rfl⟩, List.forall_mem_cons.mpr ⟨⟨by decide, (zm_c7 134 rfl), rfl⟩, List.forall_mem_cons.mpr ⟨⟨by decide, (zm_c7 135 rfl), rfl⟩, List.forall_mem_cons.mpr ⟨⟨by decide, (zm_c7 136 rfl), rfl⟩, List.forall_mem_cons.mpr ⟨⟨by decide, (zm_c7 145 rfl), rfl⟩, List.forall_mem_nil _⟩⟩⟩⟩⟩⟩⟩⟩⟩⟩⟩⟩⟩⟩⟩⟩⟩⟩⟩⟩⟩⟩
theorem zw_inst (ci : Nat) (q : vw_C) (h : vwCl[ci]? = some q) : ∃ n, Cond.instantiable q.1 n ∈ zm_TW := by
  match ci, h with
  | 0, h => cases h; exact ⟨1, (zm_t (zm_c1 142 rfl) rfl)⟩
  | 1, h => cases h; exact ⟨7, (zm_t (zm_c2 52 rfl) rfl)⟩
  | 2, h => cases h; exact ⟨11, (zm_t (zm_c1 228 rfl) rfl)⟩
  | 3, h => cases h; exact ⟨16, (zm_t (zm_c2 86 rfl) rfl)⟩
  | 4, h => cases h; exact ⟨7, (zm_t (zm_c1 136 rfl) rfl)⟩
  | 5, h => cases h; exact ⟨5, (zm_t (zm_c1 111 rfl) rfl)⟩
  | 6, h => cases h; exact ⟨12, (zm_t (zm_c1 179 rfl) rfl)⟩
  | 7, h => cases h; exact ⟨10, (zm_t (zm_c1 32 rfl) rfl)⟩
  | 8, h => cases h; exact ⟨4, (zm_t (zm_c2 33 rfl) rfl)⟩
  | 9, h => cases h; exact ⟨8, (zm_t (zm_c1 38 rfl) rfl)⟩
  | 10, h => cases h; exact ⟨13, (zm_t (zm_c1 24 rfl) rfl)⟩
  | 11, h => cases h; exact ⟨38, (zm_t (zm_c6 121 rfl) rfl)⟩
  | ci + 12, h => simp [vwCl] at h
theorem zw_zt : ∀ w ∈ zt_B, w ∈ lw_tbl ∧ w.onTables = true := List.forall_mem_cons.mpr ⟨⟨(zm_c6 62 rfl), rfl⟩, List.forall_mem_cons.mpr ⟨⟨(zm_c6 63 rfl), rfl⟩, List.forall_mem_cons.mpr ⟨⟨(zm_c6 64 rfl), rfl⟩, List.forall_mem_cons.mpr ⟨⟨(zm_c6 65 rfl), rfl⟩, List.forall_mem_cons.mpr ⟨⟨(zm_c6 66 rfl), rfl⟩, List.forall_mem_cons.mpr ⟨⟨(zm_c6 67 rfl), rfl⟩, List.forall_mem_cons.mpr ⟨⟨(zm_c6 61 rfl), rfl⟩, List.forall_mem_nil _⟩⟩⟩⟩⟩⟩⟩
theorem zw_ls1 : Cond.laysStatic "java/lang/String" "COMPACT_STRINGS" "Z" ∈ lw_tbl := (zm_c3 63 rfl)
theorem zw_ls2 : Cond.laysStatic "jdk/internal/util/Preconditions" "SIOOBE_FORMATTER" "Ljava/util/function/BiFunction;" ∈ lw_tbl := (zm_c3 79 rfl)
theorem zw_ls3 : Cond.laysStatic "java/lang/Throwable" "UNASSIGNED_STACK" "[Ljava/lang/StackTraceElement;" ∈ lw_tbl := (zm_c6 86 rfl)
theorem zw_ls4 : Cond.laysStatic "java/lang/Throwable" "SUPPRESSED_SENTINEL" "Ljava/util/List;" ∈ lw_tbl := (zm_c6 88 rfl)
theorem zw_in1 : Cond.initialized "java/lang/String" ∈ lw_tbl := (zm_c1 14 rfl)
theorem zw_in2 : Cond.initialized "jdk/internal/util/Preconditions" ∈ lw_tbl := (zm_c1 16 rfl)
theorem zw_in3 : Cond.initialized "java/lang/Throwable" ∈ lw_tbl := (zm_c1 19 rfl)
theorem zw_eqr {args : Array Value} {s : State} {t u : Term} {a : Nat} (h : (Cond.eq t u).before args s = true) (ht : t.eval args s none [] s = some (.ref a)) : u.eval args s none [] s = some (.ref a) := by
  cases hv : u.eval args s none [] s with
  | none => simp [Cond.before, Cond.holds, Cond.value, ht, hv] at h
  | some w =>
    simp only [Cond.before, Cond.holds, Cond.value, ht, hv] at h
    cases w <;> simp_all
theorem zw_strs {args : Array Value} {s : State} (hg : ∀ w ∈ zw_fl, w.before args s = true) : ∃ ad : Nat → Nat × Nat, ∀ k, k < 22 → (zw_tm k).eval args s none [] s = some (.ref (ad k).1) ∧ va_O "java/lang/String" (ad k).1 (fun q => s.heap.size ≤ q) s s.heap ∧ va_OF "java/lang/String" "coder" "B" (.int 0) (ad k).1 (fun q => s.heap.size ≤ q) s s.heap ∧ va_OF "java/lang/String" "value" "[B" (.ref (ad k).2) (ad k).1 (fun q => s.heap.size ≤ q) s s.heap ∧ va_T .byte (ad k).2 (zm_chars.getD k []).length (fun j => .int (Int32.ofInt ((zm_chars.getD k []).getD j 0))) (fun q => s.heap.size ≤ q) s s.heap := by
  have hA : ∀ a : Nat, a < s.heap.size → ¬ s.heap.size ≤ a := fun a h => by omega
  have h0 : ∀ k : Nat, ∃ q : Nat × Nat, k < 22 → (zw_tm k).eval args s none [] s = some (.ref q.1) ∧ va_O "java/lang/String" q.1 (fun q => s.heap.size ≤ q) s s.heap ∧ va_OF "java/lang/String" "coder" "B" (.int 0) q.1 (fun q => s.heap.size ≤ q) s s.heap ∧ va_OF "java/lang/String" "value" "[B" (.ref q.2) q.1 (fun q => s.heap.size ≤ q) s s.heap ∧ va_T .byte q.2 (zm_chars.getD k []).length (fun j => .int (Int32.ofInt ((zm_chars.getD k []).getD j 0))) (fun q => s.heap.size ≤ q) s s.heap := by
    intro k
    by_cases hi : k < 22
    · obtain ⟨a, c, cA, kA, q1, q2, q3, q4, q5, q6, -⟩ := Cond.exactly_spec (args := args) (first := s) (o := none) (s := s) (idx := []) (t := zw_tm k) (cls := "java/lang/String") (hg _ (zw_m1 k hi))
      obtain ⟨t, ht, hT⟩ := va_Tof (f := fun j => .int (Int32.ofInt ((zm_chars.getD k []).getD j 0))) (A := fun q => s.heap.size ≤ q) (zw_m7 k hi) (hg _ (zw_m3 k hi)) (va_eqt (hg _ (zw_m4 k hi))) (fun j hj => va_eqt (hg _ (zw_m5 k hi j hj))) hA
      exact ⟨(a, t), fun _ => ⟨q1, ⟨cA, q3, q5, by rw [q6]; exact q2, hA a (Array.getElem?_eq_some_iff.mp q3).1⟩, vk_OFof q1 (va_eqt (hg _ (zw_m2 k hi))) hA, vk_OFof q1 ht hA, hT⟩⟩
    · exact ⟨(0, 0), fun h => absurd h hi⟩
  obtain ⟨ad, had⟩ := Classical.axiomOfChoice h0
  exact ⟨ad, had⟩
theorem zw_sk {o i k : Nat} (h : zm_find zm_skT o i = some k) : k < 22 ∧ ((o = 7 ∧ Cond.stringRef "PaperVote$Reader" i (zm_strs.getD k "") ∈ lw_tbl ∧ zw_rd.getD k 0 = i) ∨ (o = 11 ∧ Cond.stringRef "PaperVoteModel" i (zm_strs.getD k "") ∈ lw_tbl ∧ zw_md.getD k 0 = i)) := by
  obtain ⟨l, h1, h2⟩ := zm_find_mem h
  match o, h1 with
  | 0, h1 => cases h1; cases h2
  | 1, h1 => cases h1; cases h2
  | 2, h1 => cases h1; cases h2
  | 3, h1 => cases h1; cases h2
  | 4, h1 => cases h1; cases h2
  | 5, h1 => cases h1; cases h2
  | 6, h1 => cases h1; cases h2
  | 7, h1 => cases h1; have := zw_r7 _ h2; exact ⟨this.1, Or.inl ⟨rfl, this.2⟩⟩
  | 8, h1 => cases h1; cases h2
  | 9, h1 => cases h1; cases h2
  | 10, h1 => cases h1; cases h2
  | 11, h1 => cases h1; have := zw_r11 _ h2; exact ⟨this.1, Or.inr ⟨rfl, this.2⟩⟩
  | 12, h1 => cases h1; cases h2
  | o + 13, h1 => simp [zm_skT] at h1
theorem zw_E {s : State} {b L : Nat} {xs : Nat → Int32} (hL : L ≤ 3072) (hts : ∀ w ∈ lw_tbl, w.before #[Value.ref b] s = true) (hX : va_X b L xs s s.heap) (hb : b < s.heap.size) (hgv : (Jvm.Cond.and given_1 narrow_1).before #[Value.ref b] s = true) : ∃ ex : Nat → Nat, ex 1000 = b ∧ zm_E s.heap.size ex (L, fun j => (xs j).toInt) s s.heap := by
  have hg : ∀ w ∈ zw_fl, w.before #[Value.ref b] s = true := flat_of_before _ hgv
  have hA : ∀ a : Nat, a < s.heap.size → ¬ s.heap.size ≤ a := fun a h => by omega
  obtain ⟨ad, had⟩ := zw_strs hg
  refine ⟨fun k => if k = 1000 then b else (ad k).1, rfl, ⟨fun k => (ad k).2, fun k hk => ?_⟩, ?_, ?_, ?_, ?_, fun o i k hf => ?_, xs, hX, fun j _ => rfl, by show L < _; omega, hb, hb, fun w hw => ?_⟩
  · have e : (if k = 1000 then b else (ad k).1) = (ad k).1 := if_neg (by omega)
    simp only [e]
    exact (had k hk).2
  · exact va_Zof (hts _ zw_ls1) (hts _ zw_in1) (va_eqi (hg _ zw_c)) hA
  · exact va_Zqof (hts _ zw_ls2) (hts _ zw_in2) (hg _ zw_f) hA
  · exact vx_Zqof (hts _ zw_ls3) (hts _ zw_in3) (hg _ zw_u) hA
  · exact vx_Zqof (hts _ zw_ls4) (hts _ zw_in3) (hg _ zw_s) hA
  · obtain ⟨hk, q⟩ := zw_sk hf
    have e : (if k = 1000 then b else (ad k).1) = (ad k).1 := if_neg (by omega)
    simp only [e]
    refine ⟨zm_strs.getD k "", ?_⟩
    rcases q with ⟨rfl, q1, q2⟩ | ⟨rfl, q1, q2⟩
    · have h1 := (had k hk).1
      unfold zw_tm at h1
      rw [q2] at h1
      exact vk_R.of (hts _ q1) h1
    · have h1 := zw_eqr (hg _ (zw_m6 k hk)) (had k hk).1
      unfold zw_um at h1
      rw [q2] at h1
      exact vk_R.of (hts _ q1) h1
  · exact va_Nw.of (zw_zt w hw).2 (hts _ (zw_zt w hw).1)
theorem zw_rc {args : Array Value} {s : State} {t : FieldType} (h : (Cond.arrayClass t).before args s = true) (ho : ∀ C, t ≠ .object C) : ∃ c : ClassId, ArrOfT s c t ∧ va_RA s c t := by
  obtain ⟨c, k, comp, h1, h2, h3⟩ := Cond.arrayClass_spec h
  refine ⟨c, fun N z => ⟨(fun q hq => by cases hq), k, h2, comp, h3⟩, ?_⟩
  cases t <;> first | exact h1 | exact absurd rfl (ho _)
theorem zw_K {args : Array Value} {s : State} (hts : ∀ w ∈ zm_TW, w.before args s = true) : ∃ (dC : Nat → ClassId) (dI : Nat → Nat → Nat) (cy : Nat → ClassId), va_K (dC, dI) vwCl (zm_tys cy) s := by
  have h0 : ∀ ci : Nat, ∃ q : ClassId × (Nat → Nat), ∀ r : vw_C, vwCl[ci]? = some r → u_Kn s r.1 r.2.1 r.2.2 q.1 q.2 := by
    intro ci
    cases h : vwCl[ci]? with
    | none => exact ⟨(0, fun _ => 0), fun r hr => by cases hr⟩
    | some r =>
      obtain ⟨n, hn⟩ := zw_inst ci r h
      obtain ⟨cC, iS, hK⟩ := u_known hts (zm_cls_ok ci r h).1 (hts _ hn)
      exact ⟨(cC, iS), fun r' hr' => by cases hr'; exact hK⟩
  obtain ⟨D, hD⟩ := Classical.axiomOfChoice h0
  obtain ⟨c1, h1⟩ := zw_rc (hts _ zm_arrW_1) (fun C h => by cases h)
  obtain ⟨c2, h2⟩ := zw_rc (hts _ zm_arrW_2) (fun C h => by cases h)
  obtain ⟨c3, h3⟩ := zw_rc (hts _ zm_arrW_3) (fun C h => by cases h)
  obtain ⟨c4, h4⟩ := zw_rc (hts _ zm_arrW_4) (fun C h => by cases h)
  refine ⟨fun c => (D c).1, fun c => (D c).2, fun t => if t = 20 then c1 else if t = 21 then c2 else if t = 22 then c3 else c4, fun c q h => hD c q h, fun k q hk => ?_⟩
  match k, hk with
  | 0, hk => cases hk; exact h1
  | 1, hk => cases hk; exact h2
  | 2, hk => cases hk; exact h3
  | 3, hk => cases hk; exact h4
  | k + 4, hk => simp [zm_tys] at hk
/-- the functional claim: what the abstract run of the law does -/
def zf_lawP : Prop := ∀ (L : Nat) (f : Nat → Int), L ≤ 3072 → (∀ j, -2147483648 ≤ f j ∧ f j ≤ 2147483647) → ∃ hp' : ZH, zf_ev (L, f) 40 318 (0, zm_en 7 [vX 1000], [], ([], fun _ _ => 0)) = some (some [vI 1], hp') ∧ hp'.1.length ≤ 601024 ∧ zm_ns hp'.1 ≤ 7293033

/-! THE CLAIM OUT OF ONE WALK OF THE LAW'S BODY. Your part is whole_start (and what it stands on); all else here is the same for every law, but numbers. -/
def R_law : String := "PaperVoteLaw"
def lw_P (b : Addr) (xs : List Int32) (args : Array Value) (s : State) : Prop := args = #[.ref b] ∧ s.IntsAt b xs ∧ xs.length ≤ 3072 ∧ (Jvm.Cond.and given_1 narrow_1).before args s = true
def lw_Q (_ : Array Value) (s : State) (o : Outcome) (t : State) : Prop := o = .returned (some (.int 1)) ∧ Framed s o t [] 601024 7293033
def lw_Z (below : List Frame) (a : Array Value) (s : State) : State → Prop := fun t => ∃ o, t.status = .running ∧ Ended t below o ∧ lw_Q a s o t
/-- the law's own end, with 1 on the stack, nothing written that was there before, its room as the claim has it -/
theorem lw_ret {p : Program} {l : Launch} {e : Env} {s : State} {m : MethodId} {below : List Frame} {meth : Method} {c : Code} {b : Nat} (hx : p.tables.exec = Jvm.exec) (hb : c.code = code) (hr : meth.sig.returnType = ret) (hlocks : meth.locks = false) {pc : Nat} {H : Heap} {ls : Array Slot} (hdg : decode code pc = .ok (.ireturn, 1)) : W p l e room_1 s m #[Value.ref b] below meth c H [] 601024 7293033 (lw_Z below #[Value.ref b] s) (F0 m pc ls [.int 1]) := by
  intro T hT X
  obtain ⟨fs, hret, hrun, hended, hW, hframe⟩ := X.leave (v := some (.int 1)) (hlocks := hlocks) (fun h => by rw [hr] at h; cases h)
  have hmeth' : T.vm.method? m = some meth := X.method'
  refine ⟨T.setFrames fs, ?_, .returned (some (.int 1)), hrun, hended, rfl, ⟨_, rfl⟩, hW, hframe⟩
  jvm_step X.here [X.here.top, hx, hb, hdg, hmeth', hr, ret, narrow_b1]
  (try refine ⟨rfl, ?_⟩); (try refine ⟨rfl, ?_⟩)
  first | (intro acts; rw [hret _ acts rfl rfl rfl]) | rw [hret _ _ rfl rfl rfl]
  exact Steps.refl _
/-- what holds at the law's entry: the machine, the code, the tables' words (any of lw_tbl by 'hts w (by decide +kernel)'), the script of L ints xs at the cell b, what the Statement gives of the start (any of its parts by flat_of_before) -/
def lw_At (p : Program) (s : State) (m : MethodId) (meth : Method) (c : Code) (b L : Nat) (xs : Nat → Int32) : Prop :=
  p.tables.exec = Jvm.exec ∧ c.code = code ∧ meth.sig.returnType = ret ∧ c.maxLocals = 7 ∧ s.vm.findClass R_law = some m.cls ∧ (∀ w ∈ lw_tbl, w.before #[Value.ref b] s = true) ∧ va_X b L xs s s.heap ∧ b < s.heap.size ∧ meth.locks = false ∧ meth.name = "law" ∧ (Jvm.Cond.and given_1 narrow_1).before #[Value.ref b] s = true

theorem whole_start (hfl : zf_lawP) {p : Program} {e : Env} {s : State} {m : MethodId} {below : List Frame} {meth : Method} {c : Code} (l : Launch) (hlt : l.stackTraces = false) {b L : Nat} {xs : Nat → Int32} (hL : L ≤ 3072) (C0 : lw_At p s m meth c b L xs) : W p l e room_1 s m #[Value.ref b] below meth c s.heap [] 0 0 (lw_Z below #[Value.ref b] s) (entryFrame m ([Value.ref b] : List Value).toArray 7) := by
  obtain ⟨hx, hb, hr, hml, hown, hts, hX, hbl, hlocks, hnm, hgv⟩ := C0
  obtain ⟨ex, hex, hE⟩ := zw_E hL hts hX hbl hgv
  have hts2 : ∀ w ∈ zm_TW, w.before #[Value.ref b] s = true := fun w hw => hts w (List.mem_filter.mp hw).1
  obtain ⟨dC, dI, cy, hK⟩ := zw_K hts2
  obtain ⟨hp', hev, hc1, hc2⟩ := hfl L (fun j => (xs j).toInt) hL (fun j => ⟨Int32.le_toInt _, Int32.toInt_le _⟩)
  obtain ⟨n, hgo⟩ := zf_ev_to hev
  have hS := zm_sound (dC := dC) (dI := dI) (cy := cy) (B := s.heap.size) (ex := ex) zm_SR_ok zm_TR_ok zm_CR_ok l hlt n 40 318 _ _ _ hgo
  have hl := lv_entry (([vX 1000] : List ZV).map (zm_cv s.heap.size ex)) (n := 7) (by show 1 ≤ 7; decide)
  have ee : ([Value.ref b] : List Value) = ([vX 1000] : List ZV).map (zm_cv s.heap.size ex) := by
    show _ = [Value.ref (ex 1000)]
    rw [hex]
  have e2 : entryFrame m ([Value.ref b] : List Value).toArray 7 = entryFrame m (([vX 1000] : List ZV).map (zm_cv s.heap.size ex)).toArray 7 := by rw [← ee]
  rw [e2, lg_entry_eq]
  generalize (lg_sl (([vX 1000] : List ZV).map (zm_cv s.heap.size ex)) ++ List.replicate (7 - (lg_sl (([vX 1000] : List ZV).map (zm_cv s.heap.size ex))).length) Slot.unset).toArray = ls at hl ⊢
  have hL7 : zm_L s.heap.size ex ls (zm_ml 318) (zm_en 7 [vX 1000]) := zm_L_entry (ml := 7) s.heap.size ex (by decide) hl
  have hW : zm_W dC dI cy s.heap.size ex ([], fun _ _ => 0) s.heap := ⟨fun _ => rfl, fun i q h => by simp at h⟩
  have Cx : zm_Cx dC dI cy s.heap.size ex (L, fun j => (xs j).toInt) 40 318 p room_1 s m #[Value.ref b] meth c := ⟨hx, hb, hml, hown, hts2, hK, Nat.le_refl _, ⟨hnm, fun q => by cases q⟩, by decide, by decide, hE⟩
  refine hS p e room_1 s m #[Value.ref b] below meth c s.heap [] 0 0 _ ls Cx ⟨hW, va_S.rf, hL7⟩ ?_ ?_ ?_
  · show 0 + (hp'.1.length - 0) ≤ 601024
    omega
  · show 0 + (zm_ns hp'.1 - 0) ≤ 7293033
    omega
  · intro pc1 loc1 st1 H1 locs1 ls1 hSt hend
    obtain ⟨hW1, hS1, -⟩ := hSt
    have hd : st1 = [vI 1] ∧ decode code pc1 = .ok (.ireturn, 1) := by
      rcases zm_end hend with ⟨z, h1, h2, h3, -⟩ | ⟨z, h1, h2, h3, -⟩ | ⟨z, h1, h2, h3, -⟩ | ⟨h1, h2, h3, -⟩
      · cases h2; exact ⟨h1, h3⟩
      · cases h2; exact ⟨h1, h3⟩
      · cases h2
      · cases h2
    obtain ⟨rfl, hd⟩ := hd
    refine va_forget (fun q hq => hS1.2.2 q hq) (W.widen (k := 601024) (n := 7293033) ?_ ?_ (lw_ret hx hb hr hlocks hd))
    · show 0 + (hp'.1.length - 0) ≤ 601024
      omega
    · show 0 + (zm_ns hp'.1 - 0) ≤ 7293033
      omega

set_option maxHeartbeats 4000000 in
theorem lw_walk (hfl : zf_lawP) (l : Launch) (hlt : l.stackTraces = false) (b : Addr) (xs : List Int32) : MetFree l x (headSpec (Jvm.Cond.code x code maxLocals ret :: tables_1) room_1) (lw_P b xs) (fun _ _ _ _ _ => True) lw_Q := by
  refine MetFree.of_bodyS (code := code) (maxLocals := maxLocals) (ret := ret) (by decide) ?_ ?_
  · intro args s m h hn
    obtain ⟨meth, c, h1, h2, h3, h4, h5, h6, -, -⟩ := Cond.code_spec hn (atoms_spec (ws := Jvm.Cond.code x code maxLocals ret :: tables_1) h _ List.mem_cons_self)
    exact ⟨meth, c, h1, h2, h3, h4, h5, h6⟩
  · intro p e s m args below meth c s₁ B hml0 hP _
    obtain ⟨rfl, hx, hbd, hgv⟩ := hP
    obtain ⟨scr, harrAt, hlist, hof, hsmall⟩ := hx
    obtain ⟨hcb, hkn, -, -⟩ := State.arrayAt?_spec harrAt
    have hown : s.vm.findClass R_law = some m.cls := findClass_of_methodNamed B.named
    have hts0 : ∀ c ∈ (Jvm.Cond.code x code maxLocals ret :: tables_1), c.before #[Value.ref b] s = true := atoms_spec (ws := Jvm.Cond.code x code maxLocals ret :: tables_1) B.pre
    have hts : ∀ w ∈ lw_tbl, w.before #[Value.ref b] s = true := k2_hts_sels lw_privs (fun w hw => hts0 w (List.mem_cons_of_mem _ hw)) lw_privs_ok
    have hml : c.maxLocals = 7 := B.maxLocals_eq (hts0 _ List.mem_cons_self)
    have X₀ : Stand p l e room_1 s m #[Value.ref b] below meth c s₁ [] 0 0 := Stand.of_body B
    have hh0 : s₁.heap = s.heap := by rw [B.state]; rfl
    have hsz : scr.slots.size = xs.length := by rw [← Array.length_toList, hlist, List.length_map]
    have hval : ∀ j : Nat, j < xs.length → scr.slots[j]? = some (.int (xs.getD j 0)) := fun j hj => by
      rw [← Array.getElem?_toList, hlist]
      simp [hj]
    have hbl : b < s.heap.size := (Array.getElem?_eq_some_iff.mp hcb).1
    have hX : va_X b xs.length (fun j => xs.getD j 0) s s.heap := ⟨scr, hcb, hof, hkn, hsz, hval⟩
    have K : W p l e room_1 s m #[Value.ref b] below meth c s₁.heap [] 0 0 (lw_Z below #[Value.ref b] s) (entryFrame m ([Value.ref b] : List Value).toArray 7) := by
      rw [hh0]
      exact whole_start hfl l hlt hbd ⟨B.exec, B.bytes, B.returns, hml, hown, hts, hX, hbl, B.notSynchronized, (name_of_methodNamed B.named B.method).1, hgv⟩
    obtain ⟨t, a1, o, b1, b2, b3⟩ := K s₁ rfl X₀
    exact ⟨t, o, a1, b1, b2, b3⟩
theorem lw_pre_spec {args : Array Value} {s : State} (h : (Jvm.Cond.and given_1 narrow_1).before args s = true) (hr : rest_1_c.before args s = true) : ∃ (b : Addr) (xs : List Int32), lw_P b xs args s := by
  have hs := flat_of_before _ h
  have hq := flat_of_before _ hr
  have hc : (Cond.count 1).before args s = true := hs _ (by decide +kernel)
  have harr : (Cond.arrayOf (.arg 0) .int).before args s = true := hs _ (by decide +kernel)
  have hle : (Cond.le (.length (.arg 0)) (.int 3072)).before args s = true := hs _ (by decide +kernel)
  have hlen : (Cond.isInt (.length (.arg 0))).before args s = true := hq _ (by decide +kernel)
  have hall : (Cond.all (.arg 0) (.isInt (.elem (.arg 0) (.index 0)))).before args s = true := hq _ (by decide +kernel)
  obtain ⟨b, xs, hb, hx⟩ := State.ints_of_pre rfl harr hlen hall
  have hsm : xs.length < 2 ^ 31 := hx.choose_spec.2.2.2
  have hev : (Term.length (.arg 0)).eval args s none [] s = some (.int xs.length.toInt32) := hx.length_eval hb
  have hv := Cond.le_ints hev (show (Term.int 3072).eval args s none [] s = some (.int 3072) from rfl)
  have hd : xs.length.toInt32 ≤ 3072 := by
    simpa [Cond.before, Cond.holds, hv] using hle
  have hN : xs.length ≤ 3072 := (Int32.ofNat_le_ofNat hsm (by decide)).mp (show Int32.ofNat xs.length ≤ Int32.ofNat 3072 from hd)
  exact ⟨b, xs, Cond.one_arg hc (show args[0]? = some (.ref b) from hb), hx, hN, h⟩
theorem lw_comes (hfl : zf_lawP) (l : Launch) (hlt : l.stackTraces = false) : Comes l x (Jvm.Cond.code x code maxLocals ret :: tables_1) room_1 (fun tb e args s => Calls_1 tb e args s ∧ rest_1 tb e args s ∧ Pre_1 tb e args s)
    (fun _ _ args s o t => lw_Q args s o t) := by
  intro p e ha hc hk s m args below hf hfit hheap happ hpre
  obtain ⟨b, xs, hP⟩ := lw_pre_spec hpre.2.2 hpre.2.1
  obtain ⟨k, o, h1, h2, h3, hQ⟩ := lw_walk hfl l hlt b xs p e ha hc hk s m args below hf ((Spec.applies_iff_loose hf).mp happ).1 hP trivial
  exact ⟨k, o, h1, h2, h3, hQ⟩
theorem lw_frame {s t : State} {o : Outcome} {args : Array Value} (h : Framed s o t [] 601024 7293033) :
    Framed s o t (fieldLocs frame_1_writes args s ++ arrayLocs frame_1_arrays args s ++ staticLocs frame_1_statics s) 601024 7293033 := h
theorem lw_limb (hfl : zf_lawP) (L : Cond) (hL : ∀ (args : Array Value) (s t : State), L.after args s (.returned (some (.int 1))) t = true) :
    ArmFor flags0 classFile x code maxLocals ret World_1 tables_1 room_1 Calls_1 rest_1 Pre_1
      (fun tb e a s o t => postC L tb e a s o t ∧ Framed s o t (fieldLocs frame_1_writes a s ++ arrayLocs frame_1_arrays a s ++ staticLocs frame_1_statics s) 601024 7293033) := by
  intro l hflags _ _ p e ha hc hk s m args below hf hfit hheap happ hpre
  obtain ⟨k, o, h1, h2, h3, rfl, hF⟩ := lw_comes hfl l (by unfold Launch.stackTraces; rw [hflags]; decide) p e ha hc hk s m args below hf hfit hheap happ hpre
  exact ⟨k, _, h1, h2, h3, hL args s _, lw_frame hF⟩


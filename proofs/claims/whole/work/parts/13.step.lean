/-! one step -/
abbrev zt_N : String := "java/util/NoSuchElementException"
def zt_B : List Cond := [.declares ⟨"java/lang/RuntimeException", "<init>", "()V"⟩, .declares ⟨"java/lang/RuntimeException", "<init>", "(Ljava/lang/String;)V"⟩, .declares ⟨"java/lang/Exception", "<init>", "()V"⟩, .declares ⟨"java/lang/Exception", "<init>", "(Ljava/lang/String;)V"⟩, .declares ⟨"java/lang/Throwable", "<init>", "()V"⟩, .declares ⟨"java/lang/Throwable", "<init>", "(Ljava/lang/String;)V"⟩, .castable zt_N zt_N]
theorem zt_warm {s U : State} (hW : s.WarmedH U.vm) (h : ∀ w ∈ zt_B, va_Nw w s) : ∀ w ∈ zt_B, va_Nw w U := by
  intro w hw
  have h1 := h w hw
  simp only [zt_B, List.mem_cons, List.not_mem_nil, or_false] at hw
  rcases hw with rfl | rfl | rfl | rfl | rfl | rfl | rfl
  · exact va_Nw.warmD hW h1
  · exact va_Nw.warmD hW h1
  · exact va_Nw.warmD hW h1
  · exact va_Nw.warmD hW h1
  · exact va_Nw.warmD hW h1
  · exact va_Nw.warmD hW h1
  · exact va_Nw.warmC hW h1
def zm_E (B : Nat) (ex : Nat → Nat) (X : Nat × (Nat → Int)) (U : State) (H : Heap) : Prop :=
  (∃ adV : Nat → Nat, ∀ k, k < 22 → va_O "java/lang/String" (ex k) (fun q => B ≤ q) U H ∧ va_OF "java/lang/String" "coder" "B" (.int 0) (ex k) (fun q => B ≤ q) U H ∧ va_OF "java/lang/String" "value" "[B" (.ref (adV k)) (ex k) (fun q => B ≤ q) U H ∧
    va_T .byte (adV k) (zm_chars.getD k []).length (fun j => .int (Int32.ofInt ((zm_chars.getD k []).getD j 0))) (fun q => B ≤ q) U H) ∧
  va_Z "java/lang/String" "COMPACT_STRINGS" "Z" (.int 1) (fun q => B ≤ q) U H ∧ va_Zq "jdk/internal/util/Preconditions" "SIOOBE_FORMATTER" "Ljava/util/function/BiFunction;" (fun q => B ≤ q) U H ∧
  vx_Zq "java/lang/Throwable" "UNASSIGNED_STACK" "[Ljava/lang/StackTraceElement;" (fun q => B ≤ q) U H ∧ vx_Zq "java/lang/Throwable" "SUPPRESSED_SENTINEL" "Ljava/util/List;" (fun q => B ≤ q) U H ∧
  (∀ o i k, zm_find zm_skT o i = some k → ∃ tx, vk_R (zm_cn.getD o "") i tx (ex k) U) ∧
  ∃ xs : Nat → Int32, va_X (ex 1000) X.1 xs U H ∧ (∀ j, j < X.1 → X.2 j = (xs j).toInt) ∧ X.1 < 2 ^ 31 ∧ ex 1000 < B ∧ ex 1000 < H.size ∧ ∀ w ∈ zt_B, va_Nw w U
theorem zm_E.go {B : Nat} {ex : Nat → Nat} {X : Nat × (Nat → Int)} {s U : State} {H H1 : Heap} (h : zm_E B ex X s H) (hW : s.WarmedH U.vm) (hk : ∀ a : Nat, a < H.size → ¬ B ≤ a → H1[a]? = H[a]?) (hz : H.size ≤ H1.size) : zm_E B ex X U H1 := by
  obtain ⟨⟨adV, h1⟩, h2, h3, h4, h5, h6, xs, h7, h8, h9, h10, h11, h12⟩ := h
  have hvm := hW.alike
  refine ⟨⟨adV, fun k hk2 => ?_⟩, (h2.moved hvm).kept hk, (h3.moved hvm).kept hk, (h4.moved hvm).kept hk, (h5.moved hvm).kept hk, fun o i k hf => ?_, xs, (h7.moved hvm).kept (hk _ h11 (by omega)), h8, h9, h10, by omega, zt_warm hW h12⟩
  · obtain ⟨g1, g2, g3, g4⟩ := h1 k hk2
    exact ⟨(g1.moved hvm).kept hk, (g2.moved hvm).kept hk, (g3.moved hvm).kept hk, (g4.moved hvm).kept hk⟩
  · obtain ⟨tx, ht⟩ := h6 o i k hf
    exact ⟨tx, ht.warm hW⟩
def zm_nm (M : Nat) : String := match zm_mtL[M]? with
  | some e => e.1.name
  | none => ""
def zm_Cx (dC : Nat → ClassId) (dI : Nat → Nat → Nat) (cy : Nat → ClassId) (B : Nat) (ex : Nat → Nat) (X : Nat × (Nat → Int)) (d M : Nat) (p : Program) (R : Room) (s : State) (m : MethodId) (args : Array Value) (meth : Method) (c : Code) : Prop :=
  p.tables.exec = Jvm.exec ∧ c.code = zm_by M ∧ c.maxLocals = zm_ml M ∧ s.vm.findClass (zm_cnm M) = some m.cls ∧ (∀ w ∈ zm_TW, w.before args s = true) ∧ va_K (dC, dI) vwCl (zm_tys cy) s ∧ B ≤ s.heap.size ∧ (meth.name = zm_nm M ∧ (M = 317 → c.exceptionTable.toList = tableOf [(0, 9, 12, 13)])) ∧ d + 20 ≤ R.frames ∧ (d + 1) * 64 + 1000 ≤ R.locals ∧ zm_E B ex X s s.heap
def zm_St (dC : Nat → ClassId) (dI : Nat → Nat → Nat) (cy : Nat → ClassId) (B : Nat) (ex : Nat → Nat) (s : State) (M : Nat) (hp : ZH) (loc : List ZV) (H : Heap) (locs : List Loc) (ls : Array Slot) : Prop :=
  zm_W dC dI cy B ex hp H ∧ va_S (fun q => B ≤ q) s.heap H locs ∧ zm_L B ex ls (zm_ml M) loc
def zm_ns (sh : List (Nat × Nat)) : Nat := (sh.map (fun q => q.2)).sum
theorem zm_ns_app (a : List (Nat × Nat)) (q : Nat × Nat) : zm_ns (a ++ [q]) = zm_ns a + q.2 := by
  simp [zm_ns]
section ZS
variable {dC : Nat → ClassId} {dI : Nat → Nat → Nat} {cy : Nat → ClassId} {B : Nat} {ex : Nat → Nat} {X : Nat × (Nat → Int)} {d M : Nat}
variable {p : Program} {l : Launch} {e : Env} {R : Room} {s : State} {m : MethodId} {args : Array Value} {below : List Frame} {meth : Method} {c : Code} {H : Heap} {locs : List Loc} {cells slots : Nat} {Q : State → Prop}
variable {pc pc' : Nat} {ls : Array Slot} {loc loc' st st' : List ZV} {hp hp' : ZH}
/-- the rows of the two members of String -/
def zm_SR : Prop := ∀ (dC : Nat → ClassId) (dI : Nat → Nat → Nat) (cy : Nat → ClassId) (B : Nat) (ex : Nat → Nat) (X : Nat × (Nat → Int)) (d M : Nat) (p : Program) (l : Launch) (e : Env) (R : Room) (s : State) (m : MethodId) (args : Array Value) (below : List Frame) (meth : Method) (c : Code) (H : Heap) (locs : List Loc) (cells slots : Nat) (Q : State → Prop) (pc : Nat) (ls : Array Slot) (rest : List Value) (i k : Nat),
  zm_Cx dC dI cy B ex X d M p R s m args meth c → va_S (fun q => B ≤ q) s.heap H locs → ls.size = zm_ml M → k < 22 → (rest.map fun v => v.category).sum ≤ 8 → cells ≤ R.cells → slots ≤ R.slots →
  ((∃ t y, zm_find zm_lkT (zm_oc M) i = some (8, t, y)) → decode (zm_by M) pc = .ok (.invokevirtual i, 3) → (∀ locs', va_S (fun q => B ≤ q) s.heap H locs' → W p l e R s m args below meth c H locs' cells slots Q (F0 m (pc + 3) ls (.int (Int32.ofInt (zm_chars.getD k []).length) :: rest))) → W p l e R s m args below meth c H locs cells slots Q (F0 m pc ls (.ref (ex k) :: rest))) ∧
  (∀ j : Int, zm_inb j (zm_chars.getD k []).length = true → (∃ t y, zm_find zm_lkT (zm_oc M) i = some (9, t, y)) → decode (zm_by M) pc = .ok (.invokevirtual i, 3) → (∀ locs', va_S (fun q => B ≤ q) s.heap H locs' → W p l e R s m args below meth c H locs' cells slots Q (F0 m (pc + 3) ls (.int (Int32.ofInt ((zm_chars.getD k []).getD (n32 j).toNat 0)) :: rest))) → W p l e R s m args below meth c H locs cells slots Q (F0 m pc ls (.int (Int32.ofInt j) :: .ref (ex k) :: rest)))
theorem zm_chars_lt {k : Nat} {cs : List Int} (h : zm_chars[k]? = some cs) : k < 22 ∧ zm_chars.getD k [] = cs := by
  have h1 := (List.getElem?_eq_some_iff.mp h).1
  refine ⟨by simpa [zm_chars, zm_strs] using h1, ?_⟩
  rw [List.getD_eq_getElem?_getD, h]
  rfl
set_option maxHeartbeats 4000000 in
theorem zm_inv_step {i op : Nat} (hSR : zm_SR) (C : zm_Cx dC dI cy B ex X d M p R s m args meth c) (S : zm_St dC dI cy B ex s M hp loc H locs ls)
    (hdec : (op = 0 → decode (zm_by M) pc = .ok (.invokevirtual i, 3)) ∧ (op = 1 → decode (zm_by M) pc = .ok (.invokestatic i, 3)) ∧ (op = 2 → decode (zm_by M) pc = .ok (.invokespecial i, 3)))
    (h : zm_inv X M pc i op loc st hp = some (.inl (pc', loc', st', hp'))) (hc0 : cells ≤ R.cells) (hs0 : slots ≤ R.slots)
    (k : ∀ H' locs' ls', zm_St dC dI cy B ex s M hp' loc' H' locs' ls' → W p l e R s m args below meth c H' locs' cells slots Q (F0 m pc' ls' (st'.map (zm_cv B ex)))) :
    hp'.1 = hp.1 ∧ W p l e R s m args below meth c H locs cells slots Q (F0 m pc ls (st.map (zm_cv B ex))) := by
  obtain ⟨hx, hb, hml, hown, hts, hK, hBs, hnm, hfr, hlo, hE⟩ := id C
  obtain ⟨hW, hS, hl⟩ := id S
  have hlo2 : 64 ≤ R.locals := Nat.le_trans (by omega) hlo
  have hmls : c.maxLocals = ls.size := by rw [hml, hl.1]
  unfold zm_inv at h
  split at h
  next => cases h
  next kind tgt y hf =>
    have hw := (zm_lk_word hf).1
    have hky := zm_kind hf
    split at h
    next hk =>
      split at h
      next ho =>
        unfold zm_call at h
        split at h <;> cases h
      next => cases h
    next hk =>
      split at h
      next =>
        split at h
        next ho =>
          split at h
          next o r =>
            split at h
            next hcs =>
              obtain ⟨rfl, rfl, rfl, rfl⟩ := zm_zn h
              have h1 := hw.1
              rw [hky.1 rfl] at h1
              refine ⟨rfl, W.objInit hx hb hown (hts _ h1) (hts _ zm_oin) (hts _ zm_oco) rfl (by rw [hml]; exact hl.1) rfl (hdec.2.2 ho) (by omega) ?_ (k H locs ls S)⟩
              show 2 * 0 + _ + 12 ≤ _
              rw [zm_csum_eq]
              omega
            next => cases h
          next => cases h
        next => cases h
      next =>
        split at h
        next ho =>
          split at h
          next hcs =>
            obtain ⟨a, b, z, r, rfl, hz, rfl, rfl, rfl, rfl⟩ := zm_step_i2 h
            cases hz
            have h1 := hw.1
            rw [hky.2.1 rfl] at h1
            refine ⟨rfl, va_mmax hx hb hmls hown (hts _ h1) (hts _ zm_mst_4) (hts _ zm_mini) (hts _ zm_mco_4) (by omega) ?_ hc0 hs0 (hdec.2.1 ho) ?_⟩
            · rw [zm_csum_eq]
              simp [zm_csum, zm_cat, zm_isL] at hcs
              unfold zm_csum
              omega
            · have k2 := k H locs ls S
              have e : Value.int (if Int32.ofInt a < Int32.ofInt b then Int32.ofInt b else Int32.ofInt a) = zm_cv B ex (vI (if n32 a < n32 b then b else a)) := by
                by_cases q : n32 a < n32 b
                · rw [if_pos q, if_pos ((zm_n32_lt a b).mpr q)]; rfl
                · rw [if_neg q, if_neg (fun z => q ((zm_n32_lt a b).mp z))]; rfl
              rw [e]
              exact k2
          next => cases h
        next => cases h
      next =>
        split at h
        next ho =>
          split at h
          next hcs =>
            obtain ⟨a, b, z, r, rfl, hz, rfl, rfl, rfl, rfl⟩ := zm_step_i2 h
            cases hz
            have h1 := hw.1
            rw [hky.2.2.1 rfl] at h1
            refine ⟨rfl, va_mmin hx hb hmls hown (hts _ h1) (hts _ zm_mst_5) (hts _ zm_mini) (hts _ zm_mco_5) (by omega) ?_ hc0 hs0 (hdec.2.1 ho) ?_⟩
            · rw [zm_csum_eq]
              simp [zm_csum, zm_cat, zm_isL] at hcs
              unfold zm_csum
              omega
            · have k2 := k H locs ls S
              have e : Value.int (if Int32.ofInt b < Int32.ofInt a then Int32.ofInt b else Int32.ofInt a) = zm_cv B ex (vI (if n32 b < n32 a then b else a)) := by
                by_cases q : n32 b < n32 a
                · rw [if_pos q, if_pos ((zm_n32_lt b a).mpr q)]; rfl
                · rw [if_neg q, if_neg (fun z => q ((zm_n32_lt b a).mp z))]; rfl
              rw [e]
              exact k2
          next => cases h
        next => cases h
      next =>
        split at h
        next ho =>
          split at h
          next a r =>
            split at h
            next hcs =>
              obtain ⟨rfl, rfl, rfl, rfl⟩ := zm_zn h
              have h1 := hw.1
              rw [hky.2.2.2.1 rfl] at h1
              refine ⟨rfl, va_mabs hx hb hmls hown (hts _ h1) (hts _ zm_mst_6) (hts _ zm_mini) (hts _ zm_mco_6) (by omega) ?_ hc0 hs0 (hdec.2.1 ho) ?_⟩
              · rw [zm_csum_eq]
                omega
              · have k2 := k H locs ls S
                have e : Value.int (if 0 ≤ Int32.ofInt a then Int32.ofInt a else 0 - Int32.ofInt a) = zm_cv B ex (vI (if 0 ≤ n32 a then a else 0 - a)) := by
                  by_cases q : 0 ≤ n32 a
                  · rw [if_pos q, if_pos (show (0 : Int32) ≤ Int32.ofInt a from (zm_n32_le 0 a).mpr q)]; rfl
                  · rw [if_neg q, if_neg (show ¬ (0 : Int32) ≤ Int32.ofInt a from fun z => q ((zm_n32_le 0 a).mp z))]
                    exact congrArg Value.int (zm_sub 0 a).symm
                rw [e]
                exact k2
            next => cases h
          next => cases h
        next => cases h
      next =>
        split at h
        next ho =>
          split at h
          next n dp b sp a r =>
            split at h
            next ta na tb nb hna hnb =>
              split at h
              next hcs =>
                obtain ⟨rfl, rfl, g1, g2, g3, g4, g5, g6⟩ := hcs
                obtain ⟨rfl, rfl, rfl, rfl⟩ := zm_zn h
                have h1 := hw.1
                rw [hky.2.2.2.2.1 rfl] at h1
                refine ⟨rfl, zm_r_copy hx hb hmls hts hown (hts _ h1) hK hW hS hna hnb g3 g2 g1 g4 g5 (by omega) ?_ (hdec.2.1 ho) (fun H1 locs1 w1 w2 => k H1 locs1 ls ⟨w1, w2, hl⟩)⟩
                have hn : nativeFrameWords "java/lang/System" "arraycopy" 5 = 7 := by decide +kernel
                rw [zm_csum_eq, hn]
                omega
              next => cases h
            next => cases h
          next => cases h
        next => cases h
      next =>
        split at h
        next ho =>
          split at h
          next k0 r =>
            split at h
            next cs hcs0 =>
              split at h
              next hcs =>
                obtain ⟨rfl, rfl, rfl, rfl⟩ := zm_zn h
                obtain ⟨hlt, rfl⟩ := zm_chars_lt hcs0
                exact ⟨rfl, (hSR dC dI cy B ex X d M p l e R s m args below meth c H locs cells slots Q pc ls (r.map (zm_cv B ex)) i k0 C hS hl.1 hlt (by rw [zm_csum_eq]; exact hcs) hc0 hs0).1 ⟨_, _, hf⟩ (hdec.1 ho) (fun locs' w => k H locs' ls ⟨hW, w, hl⟩)⟩
              next => cases h
            next => cases h
          next => cases h
        next => cases h
      next =>
        split at h
        next ho =>
          split at h
          next j k0 r =>
            split at h
            next cs hcs0 =>
              split at h
              next hcs =>
                obtain ⟨rfl, rfl, rfl, rfl⟩ := zm_zn h
                obtain ⟨hlt, rfl⟩ := zm_chars_lt hcs0
                exact ⟨rfl, (hSR dC dI cy B ex X d M p l e R s m args below meth c H locs cells slots Q pc ls (r.map (zm_cv B ex)) i k0 C hS hl.1 hlt (by rw [zm_csum_eq]; exact hcs.1) hc0 hs0).2 j hcs.2 ⟨_, _, hf⟩ (hdec.1 ho) (fun locs' w => k H locs' ls ⟨hW, w, hl⟩)⟩
              next => cases h
            next => cases h
          next => cases h
        next => cases h
      next => cases h
end ZS

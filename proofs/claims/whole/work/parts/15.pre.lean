/-! the heap only grows; entries of methods -/
theorem zm_ex1_hp {M pc pc' : Nat} {loc loc' st st' : List ZV} {hp hp' : ZH} {ins : Instr} (h : zm_ex1 M pc loc st hp ins = some (.inl (pc', loc', st', hp'))) : hp' = hp := by
  unfold zm_ex1 at h
  split at h <;> first | exact (zm_zn h).2.2.2.symm | skip
  · split at h
    · split at h
      · exact (zm_zn h).2.2.2.symm
      · cases h
    · split at h
      · exact (zm_zn h).2.2.2.symm
      · cases h
  · split at h
    · split at h
      · exact (zm_zn h).2.2.2.symm
      · cases h
    · cases h
  · split at h
    · split at h
      · exact (zm_zn h).2.2.2.symm
      · cases h
    · cases h
  · unfold zm_li at h; split at h <;> first | exact (zm_zn h).2.2.2.symm | cases h
  · unfold zm_li at h; split at h <;> first | exact (zm_zn h).2.2.2.symm | cases h
  · unfold zm_ll at h; split at h <;> first | exact (zm_zn h).2.2.2.symm | cases h
  · unfold zm_ll at h; split at h <;> first | exact (zm_zn h).2.2.2.symm | cases h
  · unfold zm_la at h; split at h <;> first | exact (zm_zn h).2.2.2.symm | cases h
  · unfold zm_la at h; split at h <;> first | exact (zm_zn h).2.2.2.symm | cases h
  · obtain ⟨z, -, -, -, q⟩ := zm_step_si h; exact q
  · obtain ⟨z, -, -, -, q⟩ := zm_step_si h; exact q
  · obtain ⟨z, -, -, -, q⟩ := zm_step_sl h; exact q
  · obtain ⟨z, -, -, -, q⟩ := zm_step_sl h; exact q
  · obtain ⟨a, v, -, -, -, -, q⟩ := zm_step_sa (B := 0) (ex := fun _ => 0) h; exact q
  · obtain ⟨a, v, -, -, -, -, q⟩ := zm_step_sa (B := 0) (ex := fun _ => 0) h; exact q
  · split at h
    · split at h
      · exact (zm_zn h).2.2.2.symm
      · cases h
    · cases h
  · cases h
theorem zm_ex2_hp {pc pc' : Nat} {loc loc' st st' : List ZV} {hp hp' : ZH} {ins : Instr} (h : zm_ex2 pc loc st hp ins = some (.inl (pc', loc', st', hp'))) : hp' = hp := by
  have hi2 : ∀ {f : Int → Int → Option Int} {n : Nat}, zm_i2 f n loc st hp = some (.inl (pc', loc', st', hp')) → hp' = hp := fun q => by
    obtain ⟨a, b, z, r, -, -, -, -, -, q⟩ := zm_step_i2 q
    exact q
  have hj2 : ∀ {f : Int → Int → Option Int} {n : Nat}, zm_j2 f n loc st hp = some (.inl (pc', loc', st', hp')) → hp' = hp := fun q => by
    obtain ⟨a, b, z, r, -, -, -, -, -, q⟩ := zm_step_j2 q
    exact q
  have hj : ∀ {r : List ZV} {off : Int}, zm_jmp pc off loc r hp = some (.inl (pc', loc', st', hp')) → hp' = hp := fun q => (zm_step_jmp q).2.2.2
  unfold zm_ex2 at h
  split at h <;> first | exact hi2 h | exact hj2 h | exact hj h | cases h | skip
  all_goals
    split at h
    · first
        | exact (zm_zn h).2.2.2.symm
        | (split at h
           · first
               | exact (zm_zn h).2.2.2.symm
               | exact hj h
               | (split at h <;> exact (zm_zn h).2.2.2.symm)
           · first
               | cases h
               | (split at h
                  · exact hj h
                  · cases h))
    · cases h
theorem zm_inv_hp {X : Nat × (Nat → Int)} {M pc pc' i op : Nat} {loc loc' st st' : List ZV} {hp hp' : ZH} (h : zm_inv X M pc i op loc st hp = some (.inl (pc', loc', st', hp'))) : hp'.1 = hp.1 := by
  have hi2 : ∀ {f : Int → Int → Option Int} {n : Nat}, zm_i2 f n loc st hp = some (.inl (pc', loc', st', hp')) → hp'.1 = hp.1 := fun q => by
    obtain ⟨a, b, z, r, -, -, -, -, -, q⟩ := zm_step_i2 q
    rw [q]
  have hz : ∀ {a : Nat} {b c : List ZV}, zn a b c hp = some (.inl (pc', loc', st', hp')) → hp'.1 = hp.1 := fun q => by rw [(zm_zn q).2.2.2]
  unfold zm_inv at h
  split at h
  · cases h
  · split at h
    · split at h
      · unfold zm_call at h
        split at h <;> cases h
      · cases h
    · split at h <;> first | cases h | skip
      · split at h
        · split at h
          · split at h
            · exact hz h
            · cases h
          · cases h
        · cases h
      · split at h
        · split at h
          · exact hi2 h
          · cases h
        · cases h
      · split at h
        · split at h
          · exact hi2 h
          · cases h
        · cases h
      · split at h
        · split at h
          · split at h
            · exact hz h
            · cases h
          · cases h
        · cases h
      · split at h
        · split at h
          · split at h
            · split at h
              · rw [← (zm_zn h).2.2.2]
              · cases h
            · cases h
          · cases h
        · cases h
      · split at h
        · split at h
          · split at h
            · split at h
              · exact hz h
              · cases h
            · cases h
          · cases h
        · cases h
      · split at h
        · split at h
          · split at h
            · split at h
              · exact hz h
              · cases h
            · cases h
          · cases h
        · cases h
theorem zm_ex3_hp {X : Nat × (Nat → Int)} {M pc pc' : Nat} {loc loc' st st' : List ZV} {hp hp' : ZH} {ins : Instr} (h : zm_ex3 X M pc loc st hp ins = some (.inl (pc', loc', st', hp'))) : ∃ t, hp'.1 = hp.1 ++ t := by
  have hz : ∀ {a : Nat} {b c : List ZV}, zn a b c hp = some (.inl (pc', loc', st', hp')) → ∃ t, hp'.1 = hp.1 ++ t := fun q => ⟨[], by rw [(zm_zn q).2.2.2]; simp⟩
  have hz2 : ∀ {a : Nat} {b c : List ZV} {D : Nat → Nat → Int}, zn a b c (hp.1, D) = some (.inl (pc', loc', st', hp')) → ∃ t, hp'.1 = hp.1 ++ t := fun q => ⟨[], by rw [← (zm_zn q).2.2.2]; simp⟩
  have hz3 : ∀ {a : Nat} {b c t : List ZV} {D : Nat → Nat → Int} {tt : List (Nat × Nat)}, zn a b c (hp.1 ++ tt, D) = some (.inl (pc', loc', st', hp')) → ∃ t, hp'.1 = hp.1 ++ t := fun q => ⟨_, by rw [← (zm_zn q).2.2.2]⟩
  have hs : ∀ {tc o : Nat} {i z : Int} {h1 : ZH} {a : Nat} {b c : List ZV}, zm_stt tc i o z hp = some h1 → zn a b c h1 = some (.inl (pc', loc', st', hp')) → ∃ t, hp'.1 = hp.1 ++ t := fun q1 q2 => by
    obtain ⟨n, -, -, rfl⟩ := zm_stt_ok q1
    exact hz2 q2
  cases ins
  case getfield i =>
    simp only [zm_ex3] at h
    split at h
    · split at h
      · split at h
        · exact hz h
        · cases h
      · cases h
    · cases h
  case putfield i =>
    simp only [zm_ex3] at h
    split at h
    · split at h
      · split at h
        · split at h
          · exact hz2 h
          · cases h
        · cases h
      · cases h
    · cases h
  case iaload =>
    simp only [zm_ex3] at h
    split at h
    · split at h
      · exact hz h
      · cases h
    · split at h
      · exact hz h
      · cases h
    · cases h
  case baload =>
    simp only [zm_ex3] at h
    split at h
    · split at h
      · exact hz h
      · split at h
        · exact hz h
        · cases h
    · cases h
  case laload =>
    simp only [zm_ex3] at h
    split at h
    · split at h
      · exact hz h
      · cases h
    · cases h
  case iastore =>
    simp only [zm_ex3] at h
    split at h
    · split at h
      next q => exact hs q h
      next => cases h
    · cases h
  case bastore =>
    simp only [zm_ex3] at h
    split at h
    · split at h
      next q => exact hs q h
      next =>
        split at h
        next q => exact hs q h
        next => cases h
    · cases h
  case lastore =>
    simp only [zm_ex3] at h
    split at h
    · split at h
      next q => exact hs q h
      next => cases h
    · cases h
  case arraylength =>
    simp only [zm_ex3] at h
    split at h
    · split at h
      · split at h
        · exact hz h
        · cases h
      · cases h
    · split at h
      · exact hz h
      · cases h
    · cases h
  case newarray t =>
    simp only [zm_ex3] at h
    split at h
    · split at h
      · exact hz3 (t := []) h
      · cases h
    · cases h
  case new i =>
    simp only [zm_ex3] at h
    split at h
    · split at h
      · exact hz3 (t := []) h
      · cases h
    · split at h <;> cases h
  case invokevirtual i => exact ⟨[], by rw [zm_inv_hp (X := X) h]; simp⟩
  case invokestatic i => exact ⟨[], by rw [zm_inv_hp (X := X) h]; simp⟩
  case invokespecial i => exact ⟨[], by rw [zm_inv_hp (X := X) h]; simp⟩
  case ireturn =>
    simp only [zm_ex3] at h
    split at h
    next =>
      split at h
      · cases h
      · split at h <;> cases h
      · cases h
    next => cases h
  case lreturn =>
    simp only [zm_ex3] at h
    split at h
    next => split at h <;> cases h
    next => cases h
  case return_ =>
    simp only [zm_ex3] at h
    split at h
    next => split at h <;> cases h
    next => cases h
  all_goals (simp [zm_ex3] at h)
theorem zm_stp_pre {X : Nat × (Nat → Int)} {M : Nat} {c c' : ZC} (h : zm_stp X M c = some (.inl c')) : ∃ t, c'.2.2.2.1 = c.2.2.2.1 ++ t := by
  obtain ⟨pc, loc, st, hp⟩ := c
  obtain ⟨pc', loc', st', hp'⟩ := c'
  unfold zm_stp at h
  split at h
  · cases h
  · split at h
    · unfold zm_ex at h
      split at h
      · exact ⟨[], by rw [zm_ex1_hp h]; simp⟩
      · exact ⟨[], by rw [zm_ex2_hp h]; simp⟩
      · exact zm_ex3_hp h
    · cases h
theorem zm_go_pre {X : Nat × (Nat → Int)} : ∀ (n d M : Nat) (c : ZC) (o : Option (List ZV)) (h' : ZH), zm_go X n d M c = some (o, h') → ∃ t, h'.1 = c.2.2.2.1 ++ t := by
  intro n
  induction n with
  | zero => intro d M c o h' h; cases h
  | succ n ih =>
    intro d M c o h' h
    rw [zm_go] at h
    split at h
    · cases h
    next c' hs =>
      obtain ⟨t1, e1⟩ := zm_stp_pre hs
      obtain ⟨t2, e2⟩ := ih d M c' o h' h
      exact ⟨t1 ++ t2, by rw [e2, e1]; simp⟩
    next M' as rest hs =>
      cases d with
      | zero => cases h
      | succ d' =>
        simp only at h
        split at h
        · cases h
        next out h1 hc =>
          obtain ⟨t1, e1⟩ := ih d' M' _ _ _ hc
          obtain ⟨t2, e2⟩ := ih (d' + 1) M _ _ _ h
          exact ⟨t1 ++ t2, by rw [e2]; simp only at e1 ⊢; rw [e1]; simp⟩
        next h1 hc =>
          split at h
          · cases h
          next pc' l' hh =>
            obtain ⟨t1, e1⟩ := ih d' M' _ _ _ hc
            obtain ⟨t2, e2⟩ := ih (d' + 1) M _ _ _ h
            exact ⟨t1 ++ [(30, 6)] ++ t2, by rw [e2]; simp only at e1 ⊢; rw [e1]; simp⟩
    next o' hs =>
      cases h
      exact ⟨[], by simp⟩
/-! the locals with which a method begins -/
theorem zm_fl_len (B : Nat) (ex : Nat → Nat) (as : List ZV) : (lg_sl (as.map (zm_cv B ex))).length = (zm_fl as).length := by
  induction as with
  | nil => rfl
  | cons a r ih =>
    simp only [List.map_cons, lg_sl, List.flatMap_cons, zm_fl] at ih ⊢
    by_cases q : zm_isL a = true
    · rw [if_pos (zm_isL_iff.mpr q), if_pos q]
      simp [ih]
    · rw [if_neg (fun z => q (zm_isL_iff.mp z)), if_neg q]
      simp [ih]
theorem zm_fl_args (B : Nat) (ex : Nat → Nat) (as : List ZV) : ∀ (off i : Nat) (v : ZV), (zm_fl as)[i]? = some v → v ≠ vJ → (off + i, zm_cv B ex v) ∈ lv_args off (as.map (zm_cv B ex)) := by
  induction as with
  | nil => intro off i v h; simp [zm_fl] at h
  | cons a r ih =>
    intro off i v h hv
    simp only [zm_fl, List.map_cons, lv_args] at h ⊢
    by_cases q : zm_isL a = true
    · rw [if_pos q] at h
      rw [if_pos (zm_isL_iff.mpr q)]
      match i, h with
      | 0, h => simp at h; subst h; exact List.mem_cons_self
      | 1, h => simp at h; exact absurd h.symm hv
      | i + 2, h =>
        have h2 := ih (off + 2) i v (by simpa using h) hv
        exact List.mem_cons_of_mem _ (by rw [show off + (i + 2) = off + 2 + i by omega]; exact h2)
    · rw [if_neg q] at h
      rw [if_neg (fun z => q (zm_isL_iff.mp z))]
      match i, h with
      | 0, h => simp at h; subst h; exact List.mem_cons_self
      | i + 1, h =>
        have h2 := ih (off + 1) i v (by simpa using h) hv
        exact List.mem_cons_of_mem _ (by rw [show off + (i + 1) = off + 1 + i by omega]; exact h2)
theorem zm_L_entry (B : Nat) (ex : Nat → Nat) {as : List ZV} {ml : Nat} {ls : Array Slot} (h : (zm_fl as).length ≤ ml) (hl : lv_has ls ml (lv_args 0 (as.map (zm_cv B ex)))) : zm_L B ex ls ml (zm_en ml as) := by
  refine ⟨hl.1, hl.2.1, by simp [zm_en]; omega, fun i v hv hj => ?_⟩
  unfold zm_en at hv
  by_cases q : i < (zm_fl as).length
  · rw [List.getElem?_append_left q] at hv
    have h2 := zm_fl_args B ex as 0 i v hv hj
    rw [Nat.zero_add] at h2
    exact hl.2.2 _ h2
  · rw [List.getElem?_append_right (by omega)] at hv
    have := List.eq_of_mem_replicate (List.mem_of_getElem? hv)
    exact absurd this hj
theorem zm_mok {M : Nat} {e : zm_MI} (h : zm_mtL[M]? = some e) (hM : M < 317) : zm_okM e := by
  rw [zm_mtL_eq, List.getElem?_append_left (Nat.lt_of_lt_of_eq hM (by decide +kernel))] at h
  have hm := List.mem_of_getElem? h
  simp only [List.mem_append] at hm
  rcases hm with ((((((hm | hm) | hm) | hm) | hm) | hm) | hm) | hm
  · exact zm_mo_0 e hm
  · exact zm_mo_1 e hm
  · exact zm_mo_2 e hm
  · exact zm_mo_3 e hm
  · exact zm_mo_4 e hm
  · exact zm_mo_5 e hm
  · exact zm_mo_6 e hm
  · exact zm_mo_7 e hm
def zm_mtN (e : zm_MI) : Bool := decide (zm_cn.getD e.2.2.2.2.1 "" = e.1.cls)
theorem zm_mtN_all : zm_mtL.all zm_mtN = true := by decide +kernel
theorem zm_mt_facts {M : Nat} {e : zm_MI} (h : zm_mtL[M]? = some e) : zm_cnm M = e.1.cls ∧ e.1.cls ≠ "java/lang/invoke/MethodHandle" ∧ e.1.cls ≠ "java/lang/invoke/VarHandle" ∧ (parseMethodDescriptor e.1.desc).map (fun d => d.parameters.length) = some e.2.2.2.2.2 ∧ plainName e.1.cls = true ∧ e.2.2.1 ≤ 40 := by
  have h1 := List.all_eq_true.mp zm_mtN_all e (List.mem_of_getElem? h)
  have h2 := List.all_eq_true.mp zm_mtP_all e (List.mem_of_getElem? h)
  simp only [zm_mtN, decide_eq_true_eq] at h1
  simp only [zm_mtP, Bool.and_eq_true, decide_eq_true_eq] at h2
  refine ⟨?_, h2.1.1.1.1, h2.1.1.1.2, h2.1.1.2, h2.1.2, h2.2⟩
  simp only [zm_cnm, zm_oc, h]
  exact h1
